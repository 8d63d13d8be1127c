/-! Writing, making, calling, returning. -/
theorem hm_atA {E : hmG} {a k n : Nat} {x : hmX} {H : Heap} (hk : k < 8) (ha : hmL E ≤ a) (h : H[a]? = some (arrV (hmA E k) n (hmV x))) : hmAt E a (.inl (k, n, x)) H := by
  refine ⟨_, h, rfl, (fun z q => by cases q), (fun q => by cases q), ?_, ?_, ?_, Nat.lt_of_lt_of_le hk (by decide), fun _ => ⟨ha, rfl⟩⟩
  · show n ≤ (arrV _ _ _).slots.size; rw [arrV_size]; exact Nat.le_refl n
  · show (arrV _ _ _).slots.size.toInt32 = _; rw [arrV_size]
  · intro j hj; exact arrV_read _ _ hj
theorem hm_updI {f : Nat → Int32} {k : Nat} {y : Int32} : updV (hmV (.inl f)) k (.int y) = hmV (.inl (upd f k y)) := by
  funext j
  by_cases hj : j = k
  · subst hj; simp [updV, hmV, upd]
  · simp [updV, hmV, upd, hj]
theorem hm_updL {f : Nat → Int64} {k : Nat} {y : Int64} : updV (hmV (.inr (.inl f))) k (.long y) = hmV (.inr (.inl (vp_updL f k y))) := by
  funext j
  by_cases hj : j = k
  · subst hj; simp [updV, hmV, vp_updL]
  · simp [updV, hmV, vp_updL, hj]
theorem hm_updR {f : Nat → Option Nat} {k : Nat} {r : Option Nat} : updV (hmV (.inr (.inr (.inr (.inr f))))) k (va_rf r) = hmV (.inr (.inr (.inr (.inr (va_up f k r))))) := by
  funext j
  by_cases hj : j = k
  · subst hj; simp [updV, hmV, va_up]
  · simp [updV, hmV, va_up, hj]
def hmCn (own : String) (idx ci N : Nat) (fs : List Value) (s : State) : Prop := ∃ (C : String) (T : u_T) (ty : Nat → FieldType), vwCl[ci]? = some (C, T, N) ∧ (∀ A, (Cond.classLink own idx C).before A s = true) ∧ (∀ A, (Cond.instantiable C N).before A s = true) ∧ (∀ A, (Cond.initialized C).before A s = true) ∧ (∀ k, k < N → parseFieldDescriptor (T k).2.2.1 = some (ty k)) ∧ (∀ j, j < N → defaultValue (ty j) = vp_V fs j) ∧ (∀ w ∈ u_ws C T N, ∀ A, w.before A s = true)
theorem hm_cn {E : hmG} {s : State} (hK : hmK E s) {own : String} {idx ci N : Nat} {fs : List Value} (C : String) (T : u_T) (ty : Nat → FieldType) (hc : vwCl[ci]? = some (C, T, N)) (i1 i2 i3 : Nat) (h1 : tables_1[i1]? = some (Cond.classLink own idx C)) (h2 : tables_1[i2]? = some (Cond.instantiable C N)) (h3 : tables_1[i3]? = some (Cond.initialized C)) (hty : ∀ k, k < N → parseFieldDescriptor (T k).2.2.1 = some (ty k)) (hfs : ∀ j, j < N → defaultValue (ty j) = vp_V fs j) (hlay : ∀ w ∈ u_ws C T N, w ∈ lw_tbl ∧ goodWord w = true) : hmCn own idx ci N fs s :=
  ⟨C, T, ty, hc, fun A => hK.2.2.1 _ (hm_tb h1) rfl A, fun A => hK.2.2.1 _ (hm_tb h2) rfl A, fun A => hK.2.2.1 _ (hm_tb h3) rfl A, hty, hfs, fun w hw A => hK.2.2.1 _ (List.mem_append_right _ (hlay w hw).1) (hlay w hw).2 A⟩
/-- a call's facts, by its place in a class's pool -/
def hmMs (own : String) (idx : Nat) (y : MethodName) (bytes : ByteArray) (maxL : Nat) (ret : Option FieldType) (n : Nat) (s : State) : Prop :=
  (∀ A, (Cond.code y bytes maxL ret).before A s = true) ∧ (∀ A, (Cond.initialized y.cls).before A s = true) ∧ (y.cls ≠ "java/lang/invoke/MethodHandle" ∧ y.cls ≠ "java/lang/invoke/VarHandle") ∧ (parseMethodDescriptor y.desc).map (fun d => d.parameters.length) = some n ∧ (∀ A, (Cond.methodLink own idx y).before A s = true)
theorem hm_ms {E : hmG} {s : State} (hK : hmK E s) {own : String} {idx : Nat} {y : MethodName} {bytes : ByteArray} {maxL : Nat} {ret : Option FieldType} {n : Nat} (i1 i2 i3 : Nat) (h1 : tables_1[i1]? = some (Cond.code y bytes maxL ret)) (h2 : tables_1[i2]? = some (Cond.initialized y.cls)) (h3 : tables_1[i3]? = some (Cond.methodLink own idx y)) (hy : y.cls ≠ "java/lang/invoke/MethodHandle" ∧ y.cls ≠ "java/lang/invoke/VarHandle") (hn : (parseMethodDescriptor y.desc).map (fun d => d.parameters.length) = some n) : hmMs own idx y bytes maxL ret n s :=
  ⟨fun A => hK.2.2.1 _ (hm_tb h1) rfl A, fun A => hK.2.2.1 _ (hm_tb h2) rfl A, hy, hn, fun A => hK.2.2.1 _ (hm_tb h3) rfl A⟩
theorem hm_callB {E : hmG} {R : Room} {s : State} {args : Array Value} (hK : hmK E s) {own : String} {idx maxL mc ms n fr lo : Nat} {y : MethodName} {bytes : ByteArray} {ret : Option FieldType} (h : hmMs own idx y bytes maxL ret n s) (hR : fr + 1 ≤ R.frames ∧ 8 + (maxL + 11) + lo ≤ R.locals) : CallB R s args own idx y bytes maxL ret [Cond.code y bytes maxL ret] { frames := fr, cells := mc, slots := ms, locals := lo } mc ms n := by
  obtain ⟨h1, h2, h3, h4, h5⟩ := h
  refine ⟨rfl, rfl, hR.1, hR.2, ?_, List.mem_singleton.mpr rfl, h1 _, h2 _, h3, ?_, h5 _⟩
  · intro w hw a' U hW
    rw [List.mem_singleton.mp hw]
    exact word_at (args := #[]) hW (good_of_word rfl) (h1 #[])
  · intro sig hs
    rw [hs] at h4
    exact (Option.some.inj h4).symm
theorem hm_blind {E : hmG} {av : List Value} {σ : hmS} : FrameBlind (hmPc E av σ) := fun a U g mk h => ⟨h.1, h.2.1.warm (U := U.calling g mk a) (State.WarmedH.refl U), h.2.2⟩
theorem hm_preS {E : hmG} {s : State} {H : Heap} {σ : hmS} {As : List Value} (hK : hmK E s) (hI : hmI E σ H) : PreS s H (hmPc E As σ) As := ⟨hm_blind, fun U hU hW => ⟨rfl, hK.warm hW, by rw [hU]; exact hI⟩⟩
def hmOb (σ : hmS) (a ci : Nat) : Prop := ∃ fs, σ.1 a = some (.inr (ci, fs))
theorem hm_preV {E : hmG} {s : State} {H : Heap} {σ : hmS} {b ci : Nat} {As : List Value} {r : vw_C} (hK : hmK E s) (hI : hmI E σ H) (ho : hmOb σ b ci) (hr : vwCl[ci]? = some r) : PreV s H r.1 b (hmPc E (.ref b :: As) σ) As := by
  refine ⟨hm_blind, ?_, fun U hU hW => ⟨rfl, hK.warm hW, by rw [hU]; exact hI⟩⟩
  obtain ⟨fs, hf⟩ := ho
  obtain ⟨-, r', h1, cell, g1, g2, g3, -⟩ := hI.2.2.2 b _ hf
  cases h1.symm.trans hr
  exact ⟨cell, g1, by rw [g3]; rfl, by rw [g2]; exact (hK.1 ci _ hr).2.1⟩
def obC (σ : hmS) (a ci : Nat) : Option Unit := match σ.1 a with
  | some (.inr o) => if o.1 = ci then some () else none
  | _ => none
theorem obC_s {σ : hmS} {a ci : Nat} {u : Unit} (h : obC σ a ci = some u) : hmOb σ a ci := by
  unfold obC at h; split at h
  · rename_i o ho; split at h
    · rename_i hc; subst hc; exact ⟨o.2, ho⟩
    · cases h
  · cases h
section HMR2
variable {p : Program} {l : Launch} {e : Env} {R : Room} {s : State} {m : MethodId} {args : Array Value} {below : List Frame} {meth : Method} {c : Code} {H : Heap} {locs : List Loc} {cells slots : Nat} {Q : State → Prop}
variable {cc : ByteArray} {pc nL : Nat} {ls : Array Slot} {rest st0 : List Value} {E : hmG} {σ σ' : hmS} {a : Nat} {own : String}
theorem hm_iast (S : CallFix p m c cc nL s args [] own) (hK : hmK E s) (hI : hmI E σ H) (hL : hmLo E locs) {i x : Int32} (hv : sI σ 0 a i x = some σ') (hdg : decode cc pc = .ok (.iastore, 1))
    (kk : ∀ (H1 : Heap) (locs1 : List Loc), hmI E σ' H1 → hmLo E locs1 → W p l e R s m args below meth c H1 locs1 cells slots Q (F0 m (pc + 1) ls rest)) : W p l e R s m args below meth c H locs cells slots Q (F0 m pc ls (.int x :: .int i :: .ref a :: rest)) := by
  obtain ⟨n, f, hx, hb, hin, rfl⟩ := sI_s hv
  obtain ⟨cell, q1, q2, q3, q4, q5, q6, q7, q8, q9⟩ := hI.2.2.2 a _ hx
  obtain ⟨hlo, rfl⟩ := q9 hb
  have ha := hm_arr (x := (n, .inl f)) hK q8 q2 q3
  refine W.iast S.1 S.2.1 q1 ha q4 (hm_in hin q5) rfl rfl hdg fun H' e1 e2 e3 => ?_
  exact kk H' _ (hI.set e2 e3 hlo (hm_atA hb hlo (by rw [e1, arrV_store, hm_updI]))) (hL.put hlo)
theorem hm_zast (S : CallFix p m c cc nL s args [] own) (hK : hmK E s) (hI : hmI E σ H) (hL : hmLo E locs) {i x : Int32} (hv : sI σ 2 a i (vp_nar .boolean x) = some σ') (hdg : decode cc pc = .ok (.bastore, 1))
    (kk : ∀ (H1 : Heap) (locs1 : List Loc), hmI E σ' H1 → hmLo E locs1 → W p l e R s m args below meth c H1 locs1 cells slots Q (F0 m (pc + 1) ls rest)) : W p l e R s m args below meth c H locs cells slots Q (F0 m pc ls (.int x :: .int i :: .ref a :: rest)) := by
  obtain ⟨n, f, hx, hb, hin, rfl⟩ := sI_s hv
  obtain ⟨cell, q1, q2, q3, q4, q5, q6, q7, q8, q9⟩ := hI.2.2.2 a _ hx
  obtain ⟨hlo, rfl⟩ := q9 hb
  have ha := hm_arr (x := (n, .inl f)) hK q8 q2 q3
  refine W.zast S.1 S.2.1 q1 ha q4 (hm_in hin q5) rfl rfl hdg fun H' e1 e2 e3 => ?_
  exact kk H' _ (hI.set e2 e3 hlo (hm_atA hb hlo (by rw [e1, arrV_store, show narrow .boolean (.int x) = .int (vp_nar .boolean x) from rfl, hm_updI]))) (hL.put hlo)
theorem hm_bast (S : CallFix p m c cc nL s args [] own) (hK : hmK E s) (hI : hmI E σ H) (hL : hmLo E locs) {i x : Int32} (hv : sI σ 3 a i (vp_nar .byte x) = some σ') (hdg : decode cc pc = .ok (.bastore, 1))
    (kk : ∀ (H1 : Heap) (locs1 : List Loc), hmI E σ' H1 → hmLo E locs1 → W p l e R s m args below meth c H1 locs1 cells slots Q (F0 m (pc + 1) ls rest)) : W p l e R s m args below meth c H locs cells slots Q (F0 m pc ls (.int x :: .int i :: .ref a :: rest)) := by
  obtain ⟨n, f, hx, hb, hin, rfl⟩ := sI_s hv
  obtain ⟨cell, q1, q2, q3, q4, q5, q6, q7, q8, q9⟩ := hI.2.2.2 a _ hx
  obtain ⟨hlo, rfl⟩ := q9 hb
  have ha := hm_arr (x := (n, .inl f)) hK q8 q2 q3
  refine W.bast S.1 S.2.1 q1 ha q4 (hm_in hin q5) rfl rfl hdg fun H' e1 e2 e3 => ?_
  exact kk H' _ (hI.set e2 e3 hlo (hm_atA hb hlo (by rw [e1, arrV_store, show narrow .byte (.int x) = .int (vp_nar .byte x) from rfl, hm_updI]))) (hL.put hlo)
theorem hm_last (S : CallFix p m c cc nL s args [] own) (hK : hmK E s) (hI : hmI E σ H) (hL : hmLo E locs) {i : Int32} {x : Int64} (hv : sL σ a i x = some σ') (hdg : decode cc pc = .ok (.lastore, 1))
    (kk : ∀ (H1 : Heap) (locs1 : List Loc), hmI E σ' H1 → hmLo E locs1 → W p l e R s m args below meth c H1 locs1 cells slots Q (F0 m (pc + 1) ls rest)) : W p l e R s m args below meth c H locs cells slots Q (F0 m pc ls (.long x :: .int i :: .ref a :: rest)) := by
  obtain ⟨n, f, hx, hin, rfl⟩ := sL_s hv
  obtain ⟨cell, q1, q2, q3, q4, q5, q6, q7, q8, q9⟩ := hI.2.2.2 a _ hx
  obtain ⟨hlo, rfl⟩ := q9 (show 1 < 8 by decide)
  have ha := hm_arr (x := (n, .inr (.inl f))) hK q8 q2 q3
  refine W.last S.1 S.2.1 q1 ha q4 (hm_in hin q5) rfl rfl hdg fun H' e1 e2 e3 => ?_
  exact kk H' _ (hI.set e2 e3 hlo (hm_atA (by decide) hlo (by rw [e1, arrV_store, hm_updL]))) (hL.put hlo)
theorem hm_kC : ∀ k, 4 ≤ k → k < 8 → ∃ r : vw_C, vwCl[hmC k]? = some r ∧ hmT k = .object r.1 := by
  intro k h1 h2
  rcases (show k = 4 ∨ k = 5 ∨ k = 6 ∨ k = 7 by omega) with rfl | rfl | rfl | rfl <;> exact ⟨_, rfl, rfl⟩
theorem hm_aast (S : CallFix p m c cc nL s args [] own) (hK : hmK E s) (hI : hmI E σ H) (hL : hmLo E locs) {i : Int32} {r : Option Nat} (hv : sR σ a i r = some σ') (hdg : decode cc pc = .ok (.aastore, 1))
    (kk : ∀ (H1 : Heap) (locs1 : List Loc), hmI E σ' H1 → hmLo E locs1 → W p l e R s m args below meth c H1 locs1 cells slots Q (F0 m (pc + 1) ls rest)) : W p l e R s m args below meth c H locs cells slots Q (F0 m pc ls (va_rf r :: .int i :: .ref a :: rest)) := by
  obtain ⟨k, n, f, hx, hb, hin, hok, rfl⟩ := sR_s hv
  obtain ⟨cell, q1, q2, q3, q4, q5, q6, q7, q8, q9⟩ := hI.2.2.2 a _ hx
  obtain ⟨hlo, rfl⟩ := q9 hb.2
  obtain ⟨rc, hrc, hT⟩ := hm_kC k hb.1 hb.2
  have ha := hm_arr (x := (n, .inr (.inr (.inr (.inr f))))) hK q8 q2 q3
  have hra := hK.2.2.2.2.1 k hb.2
  rw [hT] at ha hra
  cases r with
  | none =>
    refine va_WaastN S.1 S.2.1 q1 ha q4 (hm_in hin q5) rfl rfl hdg fun H' e1 e2 e3 => ?_
    exact kk H' _ (hI.set e2 e3 hlo (hm_atA hb.2 hlo (by rw [e1, arrV_store, show Value.null = va_rf none from rfl, hm_updR]))) (hL.put hlo)
  | some v =>
    have hov : hmOb σ v (hmC k) := by
      unfold okR at hok
      split at hok
      · rename_i heq; cases heq
      · rename_i w heq
        cases heq
        split at hok
        · rename_i o ho; rw [← (beq_iff_eq.mp hok)]; exact ⟨o.2, ho⟩
        · cases hok
    obtain ⟨fs, hfs⟩ := hov
    obtain ⟨-, r', h1, cellV, g1, g2, g3, -⟩ := hI.2.2.2 v _ hfs
    cases h1.symm.trans hrc
    have hcls := (hK.1 _ _ hrc).2
    obtain ⟨kA, comp, k1, k2, k3, -⟩ := hra
    have hcomp : comp = (hmD E).1 (hmC k) := Option.some.inj (k3.symm.trans hcls.1)
    subst hcomp
    obtain ⟨kC, hkC, -⟩ := hcls.2
    refine W.aast S.1 S.2.1 q1 q3 q4 k1 k2 rfl hkC ⟨fun q => hin (Or.inl q), Nat.lt_of_lt_of_le (hm_lt hin) q5⟩ g1 (fun q h => by rw [g3] at h; cases h) (by rw [g2]; exact hkC) (by rw [g2]; exact va_assign hcls) rfl rfl hdg fun H' e1 e2 e3 => ?_
    exact kk H' _ (hI.set e2 e3 hlo (hm_atA hb.2 hlo (by rw [e1, arrV_store, show Value.ref v = va_rf (some v) from rfl, hm_updR]))) (hL.put hlo)
theorem hm_new (S : CallFix p m c cc nL s args [] own) (hK : hmK E s) (hI : hmI E σ H) {idx ci N q : Nat} {fs : List Value} (hn : hmCn own idx ci N fs s) (hq : q = σ.2) (hs : σ' = hmN σ (.inr (ci, fs))) (hcells : cells + 1 ≤ R.cells) (hslots : slots + N ≤ R.slots) (hdg : decode cc pc = .ok (.new idx, 3))
    (kk : ∀ H1 : Heap, hmI E σ' H1 → W p l e R s m args below meth c H1 locs (cells + 1) (slots + N) Q (F0 m (pc + 3) ls (.ref q :: rest))) : W p l e R s m args below meth c H locs cells slots Q (F0 m pc ls rest) := by
  obtain ⟨C, T, ty, hc, h1, h2, h3, hty, hfs, hw⟩ := hn
  subst hq; subst hs
  have hKn := hK.1 ci _ hc
  refine W.newcK S.1 S.2.1 S.2.2.2.1 (h1 _) (h2 _) (h3 _) rfl hdg hcells hslots hKn.2.1 hI.1 fun H1 kC hkC e1 z1 o1 => ?_
  exact kk H1 (hI.push z1 o1 ⟨hI.2.1, _, hc, (u_born ty (fun w h => hw w h args) (fun _ h => h) hKn hkC e1 hty).to hfs⟩)
theorem hm_dflt {ty : FieldType} {x : hmX} (h : ∀ j, hmV x j = defaultValue ty) : (fun _ : Nat => defaultValue ty) = hmV x := by funext j; exact (h j).symm
theorem hm_newa (S : CallFix p m c cc nL s args [] own) (hK : hmK E s) (hI : hmI E σ H) {k B q i : Nat} {x : hmX} {n : Int32} {atype : ArrayType} (hw : tables_1[i]? = some (Cond.arrayClass (newarray.typeOf atype))) (hkt : hmT k = newarray.typeOf atype) (hk : k < 4) (hx : ∀ j, hmV x j = defaultValue (newarray.typeOf atype)) (hv : nA σ k x B n = some (q, σ')) (hB : B * componentBytes (newarray.typeOf atype) ≤ 536870912) (hcells : cells + 1 ≤ R.cells) (hslots : slots + B ≤ R.slots) (hdg : decode cc pc = .ok (.newarray atype, 2))
    (kk : ∀ H1 : Heap, hmI E σ' H1 → W p l e R s m args below meth c H1 locs (cells + 1) (slots + B) Q (F0 m (pc + 2) ls (.ref q :: rest))) : W p l e R s m args below meth c H locs cells slots Q (F0 m pc ls (.int n :: rest)) := by
  obtain ⟨hn, hb, rfl, rfl⟩ := nA_s hv
  refine va_newaK S.1 S.2.1 (hK.2.2.1 _ (hm_tb hw) rfl args) rfl hdg rfl hn rfl (Nat.le_trans (Nat.mul_le_mul_right _ hb) hB) hcells (by omega) hI.1 fun H1 cA e1 z1 o1 hAr hNm => ?_
  refine W.widen (k := cells + 1) (n := slots + B) (Nat.le_refl _) (by omega) ?_
  have hra := hK.2.2.2.2.1 k (by omega)
  have hcA : cA = hmA E k := by
    rcases (show k = 0 ∨ k = 1 ∨ k = 2 ∨ k = 3 by omega) with rfl | rfl | rfl | rfl
    all_goals
      rw [← hkt] at hNm
      exact Option.some.inj (hNm.symm.trans hra)
  subst hcA
  exact kk H1 (hI.push z1 o1 (hm_atA (by omega) hI.2.1 (by rw [e1, hm_dflt hx])))
theorem hm_anew (S : CallFix p m c cc nL s args [] own) (hK : hmK E s) (hI : hmI E σ H) {k B q i1 idx : Nat} {C : String} {n : Int32} (hw1 : tables_1[i1]? = some (Cond.classLink own idx C)) (hkt : hmT k = .object C) (hk : 4 ≤ k ∧ k < 8) (hv : nA σ k (.inr (.inr (.inr (.inr (fun _ => none))))) B n = some (q, σ')) (hB : B * 4 ≤ 536870912) (hcells : cells + 1 ≤ R.cells) (hslots : slots + B ≤ R.slots) (hdg : decode cc pc = .ok (.anewarray idx, 3))
    (kk : ∀ H1 : Heap, hmI E σ' H1 → W p l e R s m args below meth c H1 locs (cells + 1) (slots + B) Q (F0 m (pc + 3) ls (.ref q :: rest))) : W p l e R s m args below meth c H locs cells slots Q (F0 m pc ls (.int n :: rest)) := by
  obtain ⟨hn, hb, rfl, rfl⟩ := nA_s hv
  refine W.anew S.1 S.2.1 S.2.2.2.1 (hK.2.2.1 _ (hm_tb hw1) rfl args) (va_AO.use (hK.2.2.2.2.2.2.2.2.1 k hk.1 hk.2 C hkt)) rfl hdg rfl hn (Nat.le_trans (Nat.mul_le_mul_right _ hb) hB) hcells (by omega) fun cA kA comp f1 f2 f3 f4 => ?_
  refine W.widen (k := cells + 1) (n := slots + B) (Nat.le_refl _) (by omega) ?_
  have hra := hK.2.2.2.2.1 k hk.2
  rw [hkt] at hra
  obtain ⟨kA', comp', k1, k2, k3, k4⟩ := hra
  have hcA : cA = hmA E k := Option.some.inj (f1.symm.trans k4)
  subst hcA
  have hz := hI.1
  generalize hH1 : H.push ({ cls := hmA E k, slots := Array.replicate n.toNatClampNeg .null, vm := .none } : Cell) = H1
  have z1 : H1.size = σ.2 + 1 := by rw [← hH1, Array.size_push, hz]
  have e1 : H1[σ.2]? = some (arrV (hmA E k) n.toNatClampNeg (hmV (.inr (.inr (.inr (.inr (fun _ => none))))))) := by rw [← hH1, ← hz, Array.getElem?_push_size, show hmV (.inr (.inr (.inr (.inr (fun _ => none))))) = (fun _ => Value.null) from rfl, ← arrV_new]
  have o1 : ∀ q : Nat, q < σ.2 → H1[q]? = H[q]? := fun q hq => by rw [← hH1, Array.getElem?_push, if_neg (by omega)]
  rw [hz]
  exact kk H1 (hI.push z1 o1 (hm_atA hk.2 hI.2.1 e1))
-- calls
theorem hm_call {mc ms : Nat} {v : Value} {av : Array Value} (hr : va_Run p l e R s m args below meth c H locs cells slots mc ms (F0 m pc ls st0) rest (hmQc E (some v) σ' av) (fun q => hmL E ≤ q)) (hL : hmLo E locs)
    (kk : ∀ (H1 : Heap) (locs1 : List Loc), hmI E σ' H1 → hmLo E locs1 → W p l e R s m args below meth c H1 locs1 (cells + mc) (slots + ms) Q (F0 m (pc + 3) ls (v :: rest))) : W p l e R s m args below meth c H locs cells slots Q (F0 m pc ls st0) := by
  intro T hT X
  obtain ⟨v', st₀, t, T', L, h0, X', hL', e1, e2, ⟨hv, hI⟩, st⟩ := hr T hT X
  cases hv
  obtain ⟨t2, a1, b1⟩ := kk T'.heap (locs ++ L) (by rw [e1]; exact hI) (hL.app hL') T' rfl X'
  exact ⟨t2, st t2 a1, b1⟩
theorem hm_callv {mc ms : Nat} {av : Array Value} (hr : va_Run p l e R s m args below meth c H locs cells slots mc ms (F0 m pc ls st0) rest (hmQc E none σ' av) (fun q => hmL E ≤ q)) (hL : hmLo E locs)
    (kk : ∀ (H1 : Heap) (locs1 : List Loc), hmI E σ' H1 → hmLo E locs1 → W p l e R s m args below meth c H1 locs1 (cells + mc) (slots + ms) Q (F0 m (pc + 3) ls rest)) : W p l e R s m args below meth c H locs cells slots Q (F0 m pc ls st0) := by
  intro T hT X
  obtain ⟨v', st₀, t, T', L, h0, X', hL', e1, e2, ⟨hv, hI⟩, st⟩ := hr T hT X
  cases hv
  obtain ⟨t2, a1, b1⟩ := kk T'.heap (locs ++ L) (by rw [e1]; exact hI) (hL.app hL') T' rfl X'
  exact ⟨t2, st t2 a1, b1⟩
variable {y : MethodName} {bytes : ByteArray} {maxL mc ms n idx fr lo : Nat} {ret : Option FieldType} {As : List Value} {Qc : Array Value → State → Outcome → State → Prop} {free : Addr → Prop}
theorem hm_runS (S : CallFix p m c cc nL s args [] own) (hK : hmK E s) (hI : hmI E σ H) (hM : Met l y [Cond.code y bytes maxL ret] { frames := fr, cells := mc, slots := ms, locals := lo } (hmPc E As σ) Qc mc ms free) (h : hmMs own idx y bytes maxL ret n s) (hst : ∀ A, (Cond.static y).before A s = true) (hR : fr + 1 ≤ R.frames ∧ 8 + (maxL + 11) + lo ≤ R.locals) (hn : As.length = n) (hsize : ls.size = nL) (hW : (rest.map fun v => v.category).sum ≤ 8) (hf : cells + mc ≤ R.cells ∧ slots + ms ≤ R.slots) (hdg : decode cc pc = .ok (.invokestatic idx, 3)) :
    va_Run p l e R s m args below meth c H locs cells slots mc ms (F0 m pc ls (As.reverse ++ rest)) rest (Qc As.toArray) free :=
  va_runS (g := F0 m pc ls (As.reverse ++ rest)) S hM ⟨hm_callB hK h hR, hst _⟩ (hm_preS hK hI) rfl hn hsize rfl (by show 2 * 0 + _ ≤ 8; omega) hdg hf
theorem hm_runI (S : CallFix p m c cc nL s args [] own) (hK : hmK E s) (hI : hmI E σ H) {b : Nat} (hM : Met l y [Cond.code y bytes maxL none] { frames := fr, cells := mc, slots := ms, locals := lo } (hmPc E (.ref b :: As) σ) Qc mc ms free) (h : hmMs own idx y bytes maxL none n s) (hy : y.name = "<init>") (hin : ∀ A, (Cond.instanceMethod y).before A s = true) (hR : fr + 1 ≤ R.frames ∧ 8 + (maxL + 11) + lo ≤ R.locals) (hn : As.length = n) (hsize : ls.size = nL) (hW : (rest.map fun v => v.category).sum ≤ 8) (hf : cells + mc ≤ R.cells ∧ slots + ms ≤ R.slots) (hdg : decode cc pc = .ok (.invokespecial idx, 3)) :
    va_Run p l e R s m args below meth c H locs cells slots mc ms (F0 m pc ls (As.reverse ++ .ref b :: rest)) rest (Qc (Value.ref b :: As).toArray) free :=
  va_runI (g := F0 m pc ls (As.reverse ++ .ref b :: rest)) S hM ⟨hm_callB hK h hR, hy, hin _⟩ (hm_preS hK hI) rfl hn hsize rfl (by show 2 * 0 + _ ≤ 8; omega) hdg hf
theorem hm_runV (S : CallFix p m c cc nL s args [] own) (hK : hmK E s) (hI : hmI E σ H) {b ci : Nat} {r : vw_C} (ho : hmOb σ b ci) (hr : vwCl[ci]? = some r) (hM : Met l y [Cond.code y bytes maxL ret] { frames := fr, cells := mc, slots := ms, locals := lo } (hmPc E (.ref b :: As) σ) Qc mc ms free) (h : hmMs own idx y bytes maxL ret n s) (hin : ∀ A, (Cond.instanceMethod y).before A s = true) (hsel : ∀ A, (Cond.selects r.1 y y).before A s = true) (hR : fr + 1 ≤ R.frames ∧ 8 + (maxL + 11) + lo ≤ R.locals) (hn : As.length = n) (hsize : ls.size = nL) (hW : (rest.map fun v => v.category).sum ≤ 8) (hf : cells + mc ≤ R.cells ∧ slots + ms ≤ R.slots) (hdg : decode cc pc = .ok (.invokevirtual idx, 3)) :
    va_Run p l e R s m args below meth c H locs cells slots mc ms (F0 m pc ls (As.reverse ++ .ref b :: rest)) rest (Qc (Value.ref b :: As).toArray) free :=
  va_runV (g := F0 m pc ls (As.reverse ++ .ref b :: rest)) S hM ⟨hm_callB hK h hR, hin _, hsel _⟩ (hm_preV hK hI ho hr) rfl hn hsize rfl (by show 2 * 0 + _ ≤ 8; omega) hdg hf
end HMR2
