/-! Switches, copies of arrays, the library's StringBuilder. -/
def okC (x : Int32) : Option Unit := if vp_nar .char x = x then some () else none
theorem okC_s {x : Int32} {u : Unit} (h : okC x = some u) : narrow .char (.int x) = .int x := by
  unfold okC at h; split at h
  · rename_i hc
    show Value.int (vp_nar .char x) = _
    rw [hc]
  · cases h
/-- n places from sp of the one array to dp of the other: longs -/
def cpL (σ : hmS) (a0 : Nat) (sp : Int32) (a : Nat) (dp n : Int32) : Option hmS := match σ.1 a0, σ.1 a with
  | some (.inl (k0, n0, .inr (.inl f))), some (.inl (k, n1, .inr (.inl g))) => if hmB k0 = 1 ∧ k = 1 ∧ ¬ sp < 0 ∧ ¬ dp < 0 ∧ ¬ n < 0 ∧ sp.toNatClampNeg + n.toNatClampNeg ≤ n0 ∧ dp.toNatClampNeg + n.toNatClampNeg ≤ n1 then some (hmU σ a (.inl (1, n1, .inr (.inl (va_cpy f g sp.toNatClampNeg dp.toNatClampNeg n.toNatClampNeg))))) else none
  | _, _ => none
theorem cpL_s {σ σ' : hmS} {a0 a : Nat} {sp dp n : Int32} (h : cpL σ a0 sp a dp n = some σ') : ∃ k0 n0 f n1 g, σ.1 a0 = some (.inl (k0, n0, .inr (.inl f))) ∧ σ.1 a = some (.inl (1, n1, .inr (.inl g))) ∧ hmB k0 = 1 ∧ ¬ sp < 0 ∧ ¬ dp < 0 ∧ ¬ n < 0 ∧ sp.toNatClampNeg + n.toNatClampNeg ≤ n0 ∧ dp.toNatClampNeg + n.toNatClampNeg ≤ n1 ∧ σ' = hmU σ a (.inl (1, n1, .inr (.inl (va_cpy f g sp.toNatClampNeg dp.toNatClampNeg n.toNatClampNeg)))) := by
  unfold cpL at h; split at h
  · rename_i k0 n0 f k n1 g h0 h1
    split at h
    · rename_i hc
      obtain ⟨c1, rfl, c3, c4, c5, c6, c7⟩ := hc
      cases h
      exact ⟨k0, n0, f, n1, g, h0, h1, c1, c3, c4, c5, c6, c7, rfl⟩
    · cases h
  · cases h
def okBs (f : Nat → Int32) (sp n : Nat) : Bool := (List.range n).all fun i => fits .byte (.int (f (sp + i)))
/-- the same, bytes -/
def cpB (σ : hmS) (a0 : Nat) (sp : Int32) (a : Nat) (dp n : Int32) : Option hmS := match σ.1 a0, σ.1 a with
  | some (.inl (k0, n0, .inl f)), some (.inl (k, n1, .inl g)) => if hmB k0 = 3 ∧ k = 3 ∧ ¬ sp < 0 ∧ ¬ dp < 0 ∧ ¬ n < 0 ∧ sp.toNatClampNeg + n.toNatClampNeg ≤ n0 ∧ dp.toNatClampNeg + n.toNatClampNeg ≤ n1 ∧ okBs f sp.toNatClampNeg n.toNatClampNeg = true then some (hmU σ a (.inl (3, n1, .inl (va_cpy f g sp.toNatClampNeg dp.toNatClampNeg n.toNatClampNeg)))) else none
  | _, _ => none
theorem cpB_s {σ σ' : hmS} {a0 a : Nat} {sp dp n : Int32} (h : cpB σ a0 sp a dp n = some σ') : ∃ k0 n0 f n1 g, σ.1 a0 = some (.inl (k0, n0, .inl f)) ∧ σ.1 a = some (.inl (3, n1, .inl g)) ∧ hmB k0 = 3 ∧ ¬ sp < 0 ∧ ¬ dp < 0 ∧ ¬ n < 0 ∧ sp.toNatClampNeg + n.toNatClampNeg ≤ n0 ∧ dp.toNatClampNeg + n.toNatClampNeg ≤ n1 ∧ okBs f sp.toNatClampNeg n.toNatClampNeg = true ∧ σ' = hmU σ a (.inl (3, n1, .inl (va_cpy f g sp.toNatClampNeg dp.toNatClampNeg n.toNatClampNeg))) := by
  unfold cpB at h; split at h
  · rename_i k0 n0 f k n1 g h0 h1
    split at h
    · rename_i hc
      obtain ⟨c1, rfl, c3, c4, c5, c6, c7, c8⟩ := hc
      cases h
      exact ⟨k0, n0, f, n1, g, h0, h1, c1, c3, c4, c5, c6, c7, c8, rfl⟩
    · cases h
  · cases h
theorem hm_nn (z : Int32) (hz : ¬ z < 0) : z.toInt = (z.toNatClampNeg : Int) := by
  have hz0 : (0 : Int) ≤ z.toInt := by
    have := Int32.not_lt.mp hz
    simpa using Int32.le_iff_toInt_le.mp this
  show z.toInt = ((z.toInt.toNat : Nat) : Int)
  omega
/-- a copy of an array of longs (k 1) or of bytes (k 3), of at most B places -/
def clA (σ : hmS) (k a B : Nat) : Option (Nat × hmS) := match σ.1 a with
  | some (.inl (k0, n, x)) => if k0 = k ∧ (k = 1 ∨ k = 3) ∧ n ≤ B ∧ (List.range n).all (fun i => fits (hmT k) (hmV x i)) = true then some (σ.2, hmN σ (.inl (k, n, x))) else none
  | _ => none
theorem clA_s {σ σ' : hmS} {k a B q : Nat} (h : clA σ k a B = some (q, σ')) : ∃ n x, σ.1 a = some (.inl (k, n, x)) ∧ (k = 1 ∨ k = 3) ∧ n ≤ B ∧ (∀ i, i < n → fits (hmT k) (hmV x i) = true) ∧ q = σ.2 ∧ σ' = hmN σ (.inl (k, n, x)) := by
  unfold clA at h; split at h
  · rename_i k0 n x h0
    split at h
    · rename_i hc
      obtain ⟨rfl, c2, c3, c4⟩ := hc
      cases h
      exact ⟨n, x, h0, c2, c3, fun i hi => List.all_eq_true.mp c4 i (List.mem_range.mpr hi), rfl, rfl⟩
    · cases h
  · cases h
/-- an array of a kind stands there -/
def arK (σ : hmS) (a k : Nat) : Option Unit := match σ.1 a with
  | some (.inl x) => if x.1 = k ∧ k < 4 then some () else none
  | _ => none
theorem arK_s {σ : hmS} {a k : Nat} {u : Unit} (h : arK σ a k = some u) : ∃ x, σ.1 a = some (.inl (k, x)) ∧ k < 4 := by
  unfold arK at h; split at h
  · rename_i x hx; split at h
    · rename_i hc; obtain ⟨rfl, h4⟩ := hc; exact ⟨x.2, hx, h4⟩
    · cases h
  · cases h
/-- a private method of StringBuilder's superclass is selected on a StringBuilder (at the law's start) -/
theorem hm_selp {s : State} {A : Array Value} {y : MethodName} (hy : y.cls = "java/lang/AbstractStringBuilder") {N : Nat} (h1 : (Cond.instantiable "java/lang/StringBuilder" N).before A s = true) (h2 : (Cond.privateMethod y).before A s = true) (h3 : (Cond.instanceMethod y).before A s = true) (h4 : (Cond.selects "java/lang/StringBuilder" ⟨"java/lang/AbstractStringBuilder", "isLatin1", "()Z"⟩ ⟨"java/lang/AbstractStringBuilder", "isLatin1", "()Z"⟩).before A s = true) : (Cond.selects "java/lang/StringBuilder" y y).before A s = true := by
  obtain ⟨c, k, hc, hk, -, -, -, -⟩ := Cond.instantiable_spec h1
  obtain ⟨mk, methM, hnamed, hmethM, -, -⟩ := Cond.instanceMethod_spec h3
  have hfound : s.methodFound? y.cls y.name y.desc = some mk := State.methodFound?_of_named hnamed (by rw [hy]; decide)
  have hsel : selectMethod {} s.vm c mk = .method mk := selectMethod_private hmethM (Cond.privateMethod_at h2 mk methM hnamed hmethM)
  obtain ⟨c2, r2, m2, q1, q2, q3, q4, kP, hkP, hkPi⟩ := Cond.selects_spec h4
  have e1 := findClass_of_methodNamed hnamed
  have e2 := findClass_of_methodNamed q3
  rw [hy] at e1
  have hcls : mk.cls = m2.cls := Option.some.inj (e1.symm.trans e2)
  rw [← hcls] at hkP
  simp only [Cond.before, Cond.holds, Cond.value, hc, hfound, hnamed, hsel, hkP]
  simp [hkPi]
theorem hm_nf : nativeFrameWords "java/lang/System" "arraycopy" 5 ≤ 20 := by decide +kernel
section HMR4
variable {p : Program} {l : Launch} {e : Env} {R : Room} {s : State} {m : MethodId} {args : Array Value} {below : List Frame} {meth : Method} {c : Code} {H : Heap} {locs : List Loc} {cells slots : Nat} {Q : State → Prop}
variable {cc : ByteArray} {pc nL : Nat} {ls : Array Slot} {rest st0 : List Value} {E : hmG} {σ σ' : hmS} {a : Nat} {own : String}
theorem hm_tableIn (hexec : p.tables.exec = Jvm.exec) (hb : c.code = cc) {dflt lo hi : Int} {offs : Array Int} {len : Nat} {x k : Int32} {off : Int} {tgt : Nat} (hdg : decode cc pc = .ok (.tableswitch dflt lo hi offs, len)) (hk : x = k) (h1 : ¬ k.toInt < lo) (h2 : ¬ hi < k.toInt) (ho : offs[(k.toInt - lo).toNat]? = some off) (ht : (pc : Int) + off = (tgt : Int))
    (kk : W p l e R s m args below meth c H locs cells slots Q (F0 m tgt ls rest)) : W p l e R s m args below meth c H locs cells slots Q (F0 m pc ls (.int x :: rest)) := by
  subst hk
  exact lv_tableIn hexec hb hdg h1 h2 ho ht kk
theorem hm_tblOut {x : Int32} (n : Nat) (hn : n < 100) (h : ∀ j, j < n → ¬ x = nI j) : x.toInt < 0 ∨ ((n : Int) - 1) < x.toInt := by
  by_cases h0 : x < 0
  · left; simpa using Int32.lt_iff_toInt_lt.mp h0
  · right
    obtain ⟨j, hj, rfl⟩ := nI_of h0
    rw [nI_toInt hj]
    by_cases hjn : j < n
    · exact absurd rfl (h j hjn)
    · omega
theorem hm_tableOut (n : Nat) (hn : n < 100) (hexec : p.tables.exec = Jvm.exec) (hb : c.code = cc) {dflt hi : Int} {offs : Array Int} {len : Nat} {x : Int32} {tgt : Nat} (hdg : decode cc pc = .ok (.tableswitch dflt 0 hi offs, len)) (hh : (n : Int) - 1 = hi) (h : ∀ j, j < n → ¬ x = nI j) (ht : (pc : Int) + dflt = (tgt : Int))
    (kk : W p l e R s m args below meth c H locs cells slots Q (F0 m tgt ls rest)) : W p l e R s m args below meth c H locs cells slots Q (F0 m pc ls (.int x :: rest)) := by
  refine lv_tableOut hexec hb hdg ?_ ht kk
  rw [← hh]
  exact hm_tblOut n hn h
theorem hm_copyL (S : CallFix p m c cc nL s args [] own) (hK : hmK E s) (hI : hmI E σ H) (hL : hmLo E locs) {idx a0 i1 i2 i3 i4 : Nat} (h1 : tables_1[i1]? = some (Cond.methodLink own idx arraycopyName)) (h2 : tables_1[i2]? = some (Cond.native arraycopyName)) (h3 : tables_1[i3]? = some (Cond.static arraycopyName)) (h4 : tables_1[i4]? = some (Cond.initialized "java/lang/System")) {sp dp n : Int32} (hv : cpL σ a0 sp a dp n = some σ') (hsize : ls.size = nL) (hframes : 1 ≤ R.frames) (hW : (rest.map fun v => v.category).sum ≤ 8) (hlocals : 40 ≤ R.locals) (hdg : decode cc pc = .ok (.invokestatic idx, 3))
    (kk : ∀ (H1 : Heap) (locs1 : List Loc), hmI E σ' H1 → hmLo E locs1 → W p l e R s m args below meth c H1 locs1 cells slots Q (F0 m (pc + 3) ls rest)) : W p l e R s m args below meth c H locs cells slots Q (F0 m pc ls (.int n :: .int dp :: .ref a :: .int sp :: .ref a0 :: rest)) := by
  obtain ⟨k0, n0, f, n1, g, hx0, hx1, hb0, g1, g2, g3, g4, g5, rfl⟩ := cpL_s hv
  obtain ⟨cell0, q1, q2, q3, q4, q5, q6, q7, q8, -⟩ := hI.2.2.2 a0 _ hx0
  have q5 : n0 ≤ cell0.slots.size := q5
  obtain ⟨cell1, r1, r2, r3, r4, r5, r6, r7, r8, r9⟩ := hI.2.2.2 a _ hx1
  obtain ⟨hlo, rfl⟩ := r9 (show 1 < 8 by decide)
  obtain ⟨kA, compA, hkA, hkkA⟩ := hK.2.2.2.1 k0 q8
  obtain ⟨kB, compB, hkB, hkkB⟩ := hK.2.2.2.1 1 (by decide)
  rw [← hmB_T k0 q8, hb0] at hkkA
  intro T hT X
  obtain ⟨vm', X', step⟩ := X.arraycopy S.1 S.2.2.2.1 (hm_wd hK i1 h1 rfl args) (hm_wd hK i2 h2 rfl args) (hm_wd hK i3 h3 rfl args) (hm_wd hK i4 h4 rfl args) (src := a0) (dst := a) (cs := cell0) (cd := arrV (hmA E 1) n1 (hmV (.inr (.inl g)))) (srcPos := sp) (destPos := dp) (n := n) (by rw [hT]; exact q1) (by rw [hT]; exact r1)
    q3 (fun _ h => by cases h) q4 (fun h => by cases h) (by rw [q2]; exact hkA) hkB hkkA hkkB (by rfl) g1 g2 g3
    (by rw [hm_nn sp g1, hm_nn n g3]; omega)
    (by rw [hm_nn dp g2, hm_nn n g3]; show ¬ _ > ((arrV _ _ _).slots.size : Int); rw [arrV_size]; omega)
    (fun vm₁ _ i hi => by
      have e : cell0.slots.getD (sp.toNatClampNeg + i) .null = .long (f (sp.toNatClampNeg + i)) := by
        rw [Array.getD_eq_getD_getElem?, q7 _ (show _ < n0 by omega)]
        rfl
      refine ⟨?_, ?_⟩
      · rw [e]; rfl
      · rw [e]; exact trivial)
    (g := F0 m pc ls (.int n :: .int dp :: .ref a :: .int sp :: .ref a0 :: rest)) rfl (by rw [S.2.2.1]; exact hsize) (rest := rest) rfl (by rw [S.2.1]; exact hdg) hframes (by have h9 := hm_nf; show 2 * 0 + _ + (nativeFrameWords "java/lang/System" "arraycopy" 5 + 11) ≤ _; omega)
  have e1 : copied cell0 (arrV (hmA E 1) n1 (hmV (.inr (.inl g)))) sp dp n = arrV (hmA E 1) n1 (hmV (.inr (.inl (va_cpy f g sp.toNatClampNeg dp.toNatClampNeg n.toNatClampNeg)))) := va_copiedX (fun z => .long z) cell0 (hmA E 1) f g q7 g4
  rw [e1] at X' step
  have hl : a < H.size := (Array.getElem?_eq_some_iff.mp r1).1
  obtain ⟨t, a1, b1⟩ := kk _ _ (hI.set (H1 := H.setIfInBounds a (arrV (hmA E 1) n1 (hmV (.inr (.inl (va_cpy f g sp.toNatClampNeg dp.toNatClampNeg n.toNatClampNeg)))))) (by simp) (fun q hq => by simp [Array.getElem?_setIfInBounds, Ne.symm hq]) hlo (hm_atA (by decide) hlo (by simp [Array.getElem?_setIfInBounds, hl]))) (hL.app (fun q hq => by
      obtain ⟨z, -, hz⟩ := List.mem_map.mp hq
      rw [← hz]
      exact hlo)) _ (by rw [← hT]; rfl) X'
  exact ⟨t, step t a1, b1⟩
theorem hm_copyB (S : CallFix p m c cc nL s args [] own) (hK : hmK E s) (hI : hmI E σ H) (hL : hmLo E locs) {idx a0 i1 i2 i3 i4 : Nat} (h1 : tables_1[i1]? = some (Cond.methodLink own idx arraycopyName)) (h2 : tables_1[i2]? = some (Cond.native arraycopyName)) (h3 : tables_1[i3]? = some (Cond.static arraycopyName)) (h4 : tables_1[i4]? = some (Cond.initialized "java/lang/System")) {sp dp n : Int32} (hv : cpB σ a0 sp a dp n = some σ') (hsize : ls.size = nL) (hframes : 1 ≤ R.frames) (hW : (rest.map fun v => v.category).sum ≤ 8) (hlocals : 40 ≤ R.locals) (hdg : decode cc pc = .ok (.invokestatic idx, 3))
    (kk : ∀ (H1 : Heap) (locs1 : List Loc), hmI E σ' H1 → hmLo E locs1 → W p l e R s m args below meth c H1 locs1 cells slots Q (F0 m (pc + 3) ls rest)) : W p l e R s m args below meth c H locs cells slots Q (F0 m pc ls (.int n :: .int dp :: .ref a :: .int sp :: .ref a0 :: rest)) := by
  obtain ⟨k0, n0, f, n1, g, hx0, hx1, hb0, g1, g2, g3, g4, g5, g6, rfl⟩ := cpB_s hv
  obtain ⟨cell0, q1, q2, q3, q4, q5, q6, q7, q8, -⟩ := hI.2.2.2 a0 _ hx0
  have q5 : n0 ≤ cell0.slots.size := q5
  obtain ⟨cell1, r1, r2, r3, r4, r5, r6, r7, r8, r9⟩ := hI.2.2.2 a _ hx1
  obtain ⟨hlo, rfl⟩ := r9 (show 3 < 8 by decide)
  obtain ⟨kA, compA, hkA, hkkA⟩ := hK.2.2.2.1 k0 q8
  obtain ⟨kB, compB, hkB, hkkB⟩ := hK.2.2.2.1 3 (by decide)
  rw [← hmB_T k0 q8, hb0] at hkkA
  intro T hT X
  obtain ⟨vm', X', step⟩ := X.arraycopy S.1 S.2.2.2.1 (hm_wd hK i1 h1 rfl args) (hm_wd hK i2 h2 rfl args) (hm_wd hK i3 h3 rfl args) (hm_wd hK i4 h4 rfl args) (src := a0) (dst := a) (cs := cell0) (cd := arrV (hmA E 3) n1 (hmV (.inl g))) (srcPos := sp) (destPos := dp) (n := n) (by rw [hT]; exact q1) (by rw [hT]; exact r1)
    q3 (fun _ h => by cases h) q4 (fun h => by cases h) (by rw [q2]; exact hkA) hkB hkkA hkkB (by rfl) g1 g2 g3
    (by rw [hm_nn sp g1, hm_nn n g3]; omega)
    (by rw [hm_nn dp g2, hm_nn n g3]; show ¬ _ > ((arrV _ _ _).slots.size : Int); rw [arrV_size]; omega)
    (fun vm₁ _ i hi => by
      have e : cell0.slots.getD (sp.toNatClampNeg + i) .null = .int (f (sp.toNatClampNeg + i)) := by
        rw [Array.getD_eq_getD_getElem?, q7 _ (show _ < n0 by omega)]
        rfl
      refine ⟨?_, ?_⟩
      · rw [e]; exact List.all_eq_true.mp g6 i (List.mem_range.mpr hi)
      · rw [e]; exact trivial)
    (g := F0 m pc ls (.int n :: .int dp :: .ref a :: .int sp :: .ref a0 :: rest)) rfl (by rw [S.2.2.1]; exact hsize) (rest := rest) rfl (by rw [S.2.1]; exact hdg) hframes (by have h9 := hm_nf; show 2 * 0 + _ + (nativeFrameWords "java/lang/System" "arraycopy" 5 + 11) ≤ _; omega)
  have e1 : copied cell0 (arrV (hmA E 3) n1 (hmV (.inl g))) sp dp n = arrV (hmA E 3) n1 (hmV (.inl (va_cpy f g sp.toNatClampNeg dp.toNatClampNeg n.toNatClampNeg))) := va_copiedX (fun z => .int z) cell0 (hmA E 3) f g q7 g4
  rw [e1] at X' step
  have hl : a < H.size := (Array.getElem?_eq_some_iff.mp r1).1
  obtain ⟨t, a1, b1⟩ := kk _ _ (hI.set (H1 := H.setIfInBounds a (arrV (hmA E 3) n1 (hmV (.inl (va_cpy f g sp.toNatClampNeg dp.toNatClampNeg n.toNatClampNeg))))) (by simp) (fun q hq => by simp [Array.getElem?_setIfInBounds, Ne.symm hq]) hlo (hm_atA (by decide) hlo (by simp [Array.getElem?_setIfInBounds, hl]))) (hL.app (fun q hq => by
      obtain ⟨z, -, hz⟩ := List.mem_map.mp hq
      rw [← hz]
      exact hlo)) _ (by rw [← hT]; rfl) X'
  exact ⟨t, step t a1, b1⟩
theorem hm_clone (S : CallFix p m c cc nL s args [] own) (hK : hmK E s) (hI : hmI E σ H) {idx k B q i1 i2 i3 i4 i5 : Nat} {ad : String} (h1 : tables_1[i1]? = some (Cond.methodLink own idx ⟨ad, "clone", "()Ljava/lang/Object;"⟩)) (h2 : tables_1[i2]? = some (Cond.sameMethod ad "java/lang/Object" "clone" "()Ljava/lang/Object;")) (h3 : tables_1[i3]? = some (Cond.native ⟨"java/lang/Object", "clone", "()Ljava/lang/Object;"⟩)) (h4 : tables_1[i4]? = some (Cond.instanceMethod ⟨"java/lang/Object", "clone", "()Ljava/lang/Object;"⟩)) (h5 : tables_1[i5]? = some (Cond.selects ad ⟨ad, "clone", "()Ljava/lang/Object;"⟩ ⟨"java/lang/Object", "clone", "()Ljava/lang/Object;"⟩)) (hcl : va_Nw (.castable ad "java/lang/Cloneable") s) (hnm : s.vm.findClass ad = some (hmA E k)) (hv : clA σ k a B = some (q, σ')) (hsize : ls.size = nL) (hframes : 1 ≤ R.frames) (hW : (rest.map fun v => v.category).sum ≤ 8) (hlocals : 22 ≤ R.locals) (hcells : cells + 1 ≤ R.cells) (hslots : slots + B ≤ R.slots) (hdg : decode cc pc = .ok (.invokevirtual idx, 3))
    (kk : ∀ H1 : Heap, hmI E σ' H1 → W p l e R s m args below meth c H1 locs (cells + 1) (slots + B) Q (F0 m (pc + 3) ls (.ref q :: rest))) : W p l e R s m args below meth c H locs cells slots Q (F0 m pc ls (.ref a :: rest)) := by
  obtain ⟨n, x, hx, hkk, hB, hfit, rfl, rfl⟩ := clA_s hv
  have hk8 : k < 8 := by omega
  obtain ⟨cell, q1, q2, q3, q4, q5, q6, q7, q8, q9⟩ := hI.2.2.2 a _ hx
  obtain ⟨hlo, rfl⟩ := q9 hk8
  obtain ⟨c0, t0', f1, f2, f3⟩ := Cond.castable_spec (va_Nw.use (A := args) rfl hcl)
  cases hnm.symm.trans f1
  intro T hT X
  obtain ⟨kA, comp, hkA0, hkind0⟩ := hK.2.2.2.1 k (by omega)
  obtain ⟨kS, compS, hkS, hkindS⟩ := hm_arrK X.warmed.alike ⟨kA, comp, hkA0, hkind0⟩
  have hsz : (arrV (hmA E k) n (hmV x)).slots.size = n := arrV_size _ _ _
  obtain ⟨vm', X', st⟩ := X.cloneArray S.1 S.2.2.2.1 (hm_wd hK i1 h1 rfl args) (hm_wd hK i2 h2 rfl args) (hm_wd hK i3 h3 rfl args) (hm_wd hK i4 h4 rfl args) (hm_wd hK i5 h5 rfl args) (a := a) (cell := arrV (hmA E k) n (hmV x)) (by rw [hT]; exact q1) (fun z h => by cases h) (fun h => by cases h) hnm f2 f3
    (fun i v hv => by
      have hfv : fits (hmT k) v = true := va_fit hfit i v hv
      have hk' : T.vm.classes[hmA E k]? = some kS := hkS
      have : (arrV (hmA E k) n (hmV x)).cls = hmA E k := rfl
      simpa [State.fitsSlot, State.slotType?, this, hk', hkindS] using hfv)
    (g := F0 m pc ls (.ref a :: rest)) rfl (by rw [S.2.2.1]; exact hsize) rfl (by rw [S.2.1]; exact hdg) hframes (by show 2 * 0 + _ + 14 ≤ _; omega) hcells (by rw [hsz]; omega) (hloader := Vm.clonesLoader_of_array hkA0 hkind0)
  have hcellE : ({ cls := (arrV (hmA E k) n (hmV x)).cls, slots := (arrV (hmA E k) n (hmV x)).slots } : Cell) = arrV (hmA E k) n (hmV x) := rfl
  rw [hcellE, hsz] at X'
  have hz := hI.1
  generalize hH1 : H.push (arrV (hmA E k) n (hmV x)) = H1
  have z1 : H1.size = σ.2 + 1 := by rw [← hH1, Array.size_push, hz]
  have e1 : H1[σ.2]? = some (arrV (hmA E k) n (hmV x)) := by rw [← hH1, ← hz, Array.getElem?_push_size]
  have o1 : ∀ q : Nat, q < σ.2 → H1[q]? = H[q]? := fun q hq => by rw [← hH1, Array.getElem?_push, if_neg (by omega)]
  obtain ⟨t, b1, b2⟩ := (W.widen (k := cells + 1) (n := slots + B) (Nat.le_refl _) (by omega) (kk H1 (hI.push z1 o1 (hm_atA hk8 hI.2.1 e1)))) ((T.setVm vm').pushCell (arrV (hmA E k) n (hmV x))) (by rw [← hH1, ← hT]; rfl) X'
  refine ⟨t, st t ?_, b2⟩
  rw [hcellE, hT, hz]
  exact b1
theorem hm_cast (S : CallFix p m c cc nL s args [] own) (hK : hmK E s) (hI : hmI E σ H) {idx k i1 : Nat} {nm : String} (h1 : tables_1[i1]? = some (Cond.classLink own idx nm)) (hnm : s.vm.findClass nm = some (hmA E k)) {u : Unit} (hv : arK σ a k = some u) (hdg : decode cc pc = .ok (.checkcast idx, 3))
    (kk : W p l e R s m args below meth c H locs cells slots Q (F0 m (pc + 3) ls (.ref a :: rest))) : W p l e R s m args below meth c H locs cells slots Q (F0 m pc ls (.ref a :: rest)) := by
  obtain ⟨x, hx, hk⟩ := arK_s hv
  obtain ⟨cell, q1, q2, q3, q4, q5, q6, q7, q8, q9⟩ := hI.2.2.2 a _ hx
  obtain ⟨hlo, rfl⟩ := q9 (show k < 8 by omega)
  intro T hT X
  obtain ⟨vm', X', st⟩ := X.checkcastYes S.1 S.2.2.2.1 (hm_wd hK i1 h1 rfl args) (by rw [hT]; exact q1) rfl hnm (va_asg _ _) (g := F0 m pc ls (.ref a :: rest)) rfl rfl (by rw [S.2.1]; exact hdg)
  obtain ⟨t, a1, b1⟩ := kk (T.setVm vm') hT X'
  exact ⟨t, st t a1, b1⟩
theorem hm_nmJ (hK : hmK E s) : s.vm.findClass "[J" = some (hmA E 1) := va_nm_long (hK.2.2.2.2.1 1 (by decide))
theorem hm_nmB (hK : hmK E s) : s.vm.findClass "[B" = some (hmA E 3) := va_nm_byte (hK.2.2.2.2.1 3 (by decide))
variable {y : MethodName} {bytes : ByteArray} {maxL mc ms n idx fr lo : Nat} {ret : Option FieldType} {As : List Value} {Qc : Array Value → State → Outcome → State → Prop} {free : Addr → Prop}
/-- super.m(..) -/
theorem hm_runSU (S : CallFix p m c cc nL s args [] own) (hK : hmK E s) (hI : hmI E σ H) {b ci : Nat} {r : vw_C} (ho : hmOb σ b ci) (hr : vwCl[ci]? = some r) (hM : Met l y [Cond.code y bytes maxL ret] { frames := fr, cells := mc, slots := ms, locals := lo } (hmPc E (.ref b :: As) σ) Qc mc ms free) (h : hmMs own idx y bytes maxL ret n s) (hin : ∀ A, (Cond.instanceMethod y).before A s = true) (i1 i2 : Nat) (hs1 : tables_1[i1]? = some (Cond.sameMethod y.cls y.cls y.name y.desc)) (hs2 : tables_1[i2]? = some (Cond.superclass own y.cls)) (hno : y.name ≠ "<init>") (hR : fr + 1 ≤ R.frames ∧ 8 + (maxL + 11) + lo ≤ R.locals) (hn : As.length = n) (hsize : ls.size = nL) (hW : (rest.map fun v => v.category).sum ≤ 8) (hf : cells + mc ≤ R.cells ∧ slots + ms ≤ R.slots) (hdg : decode cc pc = .ok (.invokespecial idx, 3)) :
    va_Run p l e R s m args below meth c H locs cells slots mc ms (F0 m pc ls (As.reverse ++ .ref b :: rest)) rest (Qc (Value.ref b :: As).toArray) free := by
  have hB := hm_callB (R := R) (args := args) (mc := mc) (ms := ms) hK h hR
  obtain ⟨b1, b2, b3, b4, b5, b6, b7, b8, b9, b10, b11⟩ := hB
  exact va_runSU (g := F0 m pc ls (As.reverse ++ .ref b :: rest)) (hK.1 ci _ hr).2 S hM ⟨⟨b1, b2, b3, b4, b5, b6⟩, b11, hm_wd hK i1 hs1 rfl _, hm_wd hK i2 hs2 rfl _, hin _, b8, b7, hno, b10⟩ (hm_preV hK hI ho hr) rfl hn hsize rfl (by show 2 * 0 + _ ≤ 8; omega) hdg hf
/-- a method that overrides the one that is named -/
theorem hm_runO (S : CallFix p m c cc nL s args [] own) (hK : hmK E s) (hI : hmI E σ H) {b ci : Nat} {r : vw_C} {x : MethodName} (ho : hmOb σ b ci) (hr : vwCl[ci]? = some r) (hM : Met l y [Cond.code y bytes maxL ret] { frames := fr, cells := mc, slots := ms, locals := lo } (hmPc E (.ref b :: As) σ) Qc mc ms free) (hc : ∀ A, (Cond.code y bytes maxL ret).before A s = true) (hi : ∀ A, (Cond.initialized y.cls).before A s = true) (hnm : x.cls ≠ "java/lang/invoke/MethodHandle" ∧ x.cls ≠ "java/lang/invoke/VarHandle") (hln : (parseMethodDescriptor x.desc).map (fun d => d.parameters.length) = some n) (hlk : ∀ A, (Cond.methodLink own idx x).before A s = true) (hsm : ∀ A, (Cond.sameMethod x.cls x.cls x.name x.desc).before A s = true) {b0 : ByteArray} {m0 : Nat} {r0 : Option FieldType} (hx1 : ∀ A, (Cond.instanceMethod x).before A s = true) (hx2 : ∀ A, (Cond.code x b0 m0 r0).before A s = true) (hsel : ∀ A, (Cond.selects r.1 x y).before A s = true) (hin : ∀ A, (Cond.instanceMethod y).before A s = true) (hR : fr + 1 ≤ R.frames ∧ 8 + (maxL + 11) + lo ≤ R.locals) (hn : As.length = n) (hsize : ls.size = nL) (hW : (rest.map fun v => v.category).sum ≤ 8) (hf : cells + mc ≤ R.cells ∧ slots + ms ≤ R.slots) (hdg : decode cc pc = .ok (.invokevirtual idx, 3)) :
    va_Run p l e R s m args below meth c H locs cells slots mc ms (F0 m pc ls (As.reverse ++ .ref b :: rest)) rest (Qc (Value.ref b :: As).toArray) free := by
  refine va_runU (owner := x.cls) (g := F0 m pc ls (As.reverse ++ .ref b :: rest)) S hM ⟨⟨rfl, rfl, hR.1, hR.2, ?_, List.mem_singleton.mpr rfl⟩, hc _, hi _, hnm, ?_, hlk _, hsm _, va_Decl.of (hx1 args) (hx2 args), hsel _, hin _⟩ (hm_preV hK hI ho hr) rfl hn hsize rfl (by show 2 * 0 + _ ≤ 8; omega) hdg hf
  · intro w hw a' U hW
    rw [List.mem_singleton.mp hw]
    exact word_at (args := #[]) hW (good_of_word rfl) (hc #[])
  · intro sig hs
    rw [hs] at hln
    exact (Option.some.inj hln).symm
end HMR4
