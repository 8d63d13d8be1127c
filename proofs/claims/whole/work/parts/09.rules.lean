/-! References in locals, tests of them, calls across a nest, statics, returns. -/
theorem hm_wd {E : hmG} {s : State} (hK : hmK E s) (i : Nat) {w : Cond} (h : tables_1[i]? = some w) (hg : goodWord w = true) : ∀ A, w.before A s = true := fun A => hK.2.2.1 _ (hm_tb h) hg A
theorem hm_wp {E : hmG} {s : State} (hK : hmK E s) (i : Nat) {w : Cond} (h : (k2_sels lw_privs)[i]? = some w) (hg : goodWord w = true) : ∀ A, w.before A s = true := fun A => hK.2.2.1 _ (List.mem_append_right _ (List.mem_append_left _ (List.mem_of_getElem? h))) hg A
theorem hm_wq {E : hmG} {s : State} (hK : hmK E s) (i : Nat) {w : Cond} (h : hmPv[i]? = some w) (hg : goodWord w = true) : ∀ A, w.before A s = true := fun A => hK.2.2.1 _ (List.mem_append_left _ (List.mem_of_getElem? h)) hg A
section HMR3
variable {p : Program} {l : Launch} {e : Env} {R : Room} {s : State} {m : MethodId} {args : Array Value} {below : List Frame} {meth : Method} {c : Code} {H : Heap} {locs : List Loc} {cells slots : Nat} {Q : State → Prop}
variable {cc : ByteArray} {pc nL : Nat} {ls : Array Slot} {rest st0 : List Value} {E : hmG} {σ σ' : hmS} {a : Nat} {own : String}
theorem hm_aload_n (hexec : p.tables.exec = Jvm.exec) (hb : c.code = cc) {k : Fin 4} {i : Nat} {r : Option Nat} (hdg : decode cc pc = .ok (.aload_n k, 1)) (hi : (k : Nat) = i) (hl : ls[i]? = some (.val (va_rf r)))
    (kk : W p l e R s m args below meth c H locs cells slots Q (F0 m (pc + 1) ls (va_rf r :: rest))) : W p l e R s m args below meth c H locs cells slots Q (F0 m pc ls rest) := by
  cases r with
  | none => exact lv_aload_nN hexec hb hdg hi hl kk
  | some a => exact lv_aload_n hexec hb hdg hi hl kk
theorem hm_aload (hexec : p.tables.exec = Jvm.exec) (hb : c.code = cc) {i : Nat} {r : Option Nat} (hdg : decode cc pc = .ok (.aload i, 2)) (hl : ls[i]? = some (.val (va_rf r)))
    (kk : W p l e R s m args below meth c H locs cells slots Q (F0 m (pc + 2) ls (va_rf r :: rest))) : W p l e R s m args below meth c H locs cells slots Q (F0 m pc ls rest) := by
  cases r with
  | none => exact lv_aloadN hexec hb hdg hl kk
  | some a => exact lv_aload hexec hb hdg hl kk
theorem hm_astore_n (hexec : p.tables.exec = Jvm.exec) (hb : c.code = cc) {k : Fin 4} {i nL : Nat} {r : Option Nat} {lv lv' : List (Nat × Value)} (hdg : decode cc pc = .ok (.astore_n k, 1)) (hi : (k : Nat) = i) (h : lv_has ls nL lv) (hn : i < nL) (hl : (i, va_rf r) :: lv.filter (fun q => !(q.1 == i) && !(q.1 + 1 == i && q.2.category == 2)) = lv')
    (kk : ∀ ls' : Array Slot, lv_has ls' nL lv' → W p l e R s m args below meth c H locs cells slots Q (F0 m (pc + 1) ls' rest)) : W p l e R s m args below meth c H locs cells slots Q (F0 m pc ls (va_rf r :: rest)) := by
  cases r with
  | none => exact lv_astore_nN hexec hb hdg hi h hn hl kk
  | some a => exact lv_astore_n hexec hb hdg hi h hn hl kk
theorem hm_astore (hexec : p.tables.exec = Jvm.exec) (hb : c.code = cc) {i nL : Nat} {r : Option Nat} {lv lv' : List (Nat × Value)} (hdg : decode cc pc = .ok (.astore i, 2)) (h : lv_has ls nL lv) (hn : i < nL) (hl : (i, va_rf r) :: lv.filter (fun q => !(q.1 == i) && !(q.1 + 1 == i && q.2.category == 2)) = lv')
    (kk : ∀ ls' : Array Slot, lv_has ls' nL lv' → W p l e R s m args below meth c H locs cells slots Q (F0 m (pc + 2) ls' rest)) : W p l e R s m args below meth c H locs cells slots Q (F0 m pc ls (va_rf r :: rest)) := by
  cases r with
  | none => exact lv_astoreN hexec hb hdg h hn hl kk
  | some a => exact lv_astore hexec hb hdg h hn hl kk
theorem hm_null (hexec : p.tables.exec = Jvm.exec) (hb : c.code = cc) (hdg : decode cc pc = .ok (.aconst_null, 1))
    (kk : W p l e R s m args below meth c H locs cells slots Q (F0 m (pc + 1) ls (va_rf none :: rest))) : W p l e R s m args below meth c H locs cells slots Q (F0 m pc ls rest) := by
  intro T hT X
  obtain ⟨t, a, b⟩ := kk T hT X
  refine ⟨t, ?_, b⟩
  jvm_step X.here [X.here.top, hexec, hb, hdg]
  exact a
theorem hm_objInit (S : CallFix p m c cc nL s args [] own) (hK : hmK E s) {idx i1 i2 i3 : Nat} (h1 : tables_1[i1]? = some (Cond.methodLink own idx Lib.objectInit)) (h2 : tables_1[i2]? = some (Cond.instanceMethod Lib.objectInit)) (h3 : tables_1[i3]? = some (Cond.code Lib.objectInit ⟨#[0xb1]⟩ 1 none)) (hsize : ls.size = nL) (hdg : decode cc pc = .ok (.invokespecial idx, 3)) (hframes : 1 ≤ R.frames) (hW : (rest.map fun v => v.category).sum ≤ 8) (hlocals : 20 ≤ R.locals)
    (kk : W p l e R s m args below meth c H locs cells slots Q (F0 m (pc + 3) ls rest)) : W p l e R s m args below meth c H locs cells slots Q (F0 m pc ls (.ref a :: rest)) :=
  W.objInit S.1 S.2.1 S.2.2.2.1 (hm_wd hK i1 h1 rfl args) (hm_wd hK i2 h2 rfl args) (hm_wd hK i3 h3 rfl args) rfl (by rw [S.2.2.1]; exact hsize) rfl hdg hframes (by show 2 * 0 + _ + 12 ≤ _; omega) kk
theorem hm_gets (S : CallFix p m c cc nL s args [] own) (hI : hmI E σ H) {C n d : String} {v : Value} {idx : Nat} (hZ : va_Z C n d v (fun q => hmL E ≤ q) s (hmH E)) (hlink : (Cond.fieldLink own idx C n d).before args s = true) (hdg : decode cc pc = .ok (.getstatic idx, 3))
    (kk : W p l e R s m args below meth c H locs cells slots Q (F0 m (pc + 3) ls (v :: rest))) : W p l e R s m args below meth c H locs cells slots Q (F0 m pc ls rest) := by
  obtain ⟨cf, kf, fi, f, a, cell, h1, h2, h3, h4, h5, h6, h7, h8⟩ := hZ
  exact W.gets S.1 S.2.1 S.2.2.2.1 hlink h1 h2 h3 h4 (by rw [hI.2.2.1 a (Nat.not_le.mp h8)]; exact h5) (fun e => by rw [e] at h6; cases h6) h7 rfl hdg kk
theorem hm_getsN (S : CallFix p m c cc nL s args [] own) (hI : hmI E σ H) {C n d host : String} {v : Value} {idx : Nat} (hZ : va_Z C n d v (fun q => hmL E ≤ q) s (hmH E)) (hlink : va_Nw (.fieldLinkNest own idx C n d host) s) (hdg : decode cc pc = .ok (.getstatic idx, 3))
    (kk : W p l e R s m args below meth c H locs cells slots Q (F0 m (pc + 3) ls (v :: rest))) : W p l e R s m args below meth c H locs cells slots Q (F0 m pc ls rest) := by
  obtain ⟨cf, kf, fi, f, a, cell, h1, h2, h3, h4, h5, h6, h7, h8⟩ := hZ
  exact va_WgetsN S.1 S.2.1 S.2.2.2.1 (va_Nw.use rfl hlink) h1 h2 h3 h4 (by rw [hI.2.2.1 a (Nat.not_le.mp h8)]; exact h5) (fun e => by rw [e] at h6; cases h6) h7 rfl hdg kk
-- returns
variable {mc ms : Nat}
theorem hm_iret {v r : Int32} (hx : p.tables.exec = Jvm.exec) (hb : c.code = cc) (hr : meth.sig.returnType = some .int) (hI : hmI E σ H) (hL : hmLo E locs) (h : some (v, σ) = some (r, σ')) (hc : cells ≤ mc) (hs : slots ≤ ms) (hlocks : meth.locks = false) (hdg : decode cc pc = .ok (.ireturn, 1)) : W p l e R s m args below meth c H locs cells slots (MQ below (hmQc E (some (.int r)) σ') args s mc ms (fun q => hmL E ≤ q)) (F0 m pc ls [.int v]) := by
  obtain ⟨rfl, rfl⟩ := rt_s h
  refine W.widen (k := mc) (n := ms) hc hs ?_
  exact W.iret hx hb hr (fun t ht _ => ⟨rfl, by rw [ht]; exact hI⟩) hL hdg hlocks
theorem hm_zret {v r : Int32} {ty : FieldType} (hx : p.tables.exec = Jvm.exec) (hb : c.code = cc) (hr : meth.sig.returnType = some ty) (hn : narrow ty (.int v) = .int v) (hI : hmI E σ H) (hL : hmLo E locs) (h : some (v, σ) = some (r, σ')) (hc : cells ≤ mc) (hs : slots ≤ ms) (hlocks : meth.locks = false) (hdg : decode cc pc = .ok (.ireturn, 1)) : W p l e R s m args below meth c H locs cells slots (MQ below (hmQc E (some (.int r)) σ') args s mc ms (fun q => hmL E ≤ q)) (F0 m pc ls [.int v]) := by
  obtain ⟨rfl, rfl⟩ := rt_s h
  refine W.widen (k := mc) (n := ms) hc hs ?_
  exact W.zret hx hb hr hn (fun t ht _ => ⟨rfl, by rw [ht]; exact hI⟩) hL (hdg := hdg) (hlocks := hlocks)
theorem hm_lret {v r : Int64} (hx : p.tables.exec = Jvm.exec) (hb : c.code = cc) (hr : meth.sig.returnType = some .long) (hI : hmI E σ H) (hL : hmLo E locs) (h : some (v, σ) = some (r, σ')) (hc : cells ≤ mc) (hs : slots ≤ ms) (hlocks : meth.locks = false) (hdg : decode cc pc = .ok (.lreturn, 1)) : W p l e R s m args below meth c H locs cells slots (MQ below (hmQc E (some (.long r)) σ') args s mc ms (fun q => hmL E ≤ q)) (F0 m pc ls [.long v]) := by
  obtain ⟨rfl, rfl⟩ := rt_s h
  refine W.widen (k := mc) (n := ms) hc hs ?_
  exact W.lret hx hb hr (fun t ht _ => ⟨rfl, by rw [ht]; exact hI⟩) hL hdg hlocks
theorem hm_vret {u : Unit} (hx : p.tables.exec = Jvm.exec) (hb : c.code = cc) (hr : meth.sig.returnType = none) (hI : hmI E σ H) (hL : hmLo E locs) (h : some ((), σ) = some (u, σ')) (hc : cells ≤ mc) (hs : slots ≤ ms) (hlocks : meth.locks = false) (hdg : decode cc pc = .ok (.return_, 1)) : W p l e R s m args below meth c H locs cells slots (MQ below (hmQc E none σ') args s mc ms (fun q => hmL E ≤ q)) (F0 m pc ls []) := by
  obtain ⟨rfl, rfl⟩ := rt_s h
  refine W.widen (k := mc) (n := ms) hc hs ?_
  exact W.vret hx hb hr (fun t ht _ => ⟨rfl, by rw [ht]; exact hI⟩) hL (hdg := hdg) (hlocks := hlocks)
theorem hm_aret {v r : Option Nat} {ty : FieldType} (hx : p.tables.exec = Jvm.exec) (hb : c.code = cc) (hr : meth.sig.returnType = some ty) (hrt : (∃ n, ty = .object n) ∨ ∃ t, ty = .array t) (hI : hmI E σ H) (hL : hmLo E locs) (h : some (v, σ) = some (r, σ')) (hc : cells ≤ mc) (hs : slots ≤ ms) (hlocks : meth.locks = false) (hdg : decode cc pc = .ok (.areturn, 1)) : W p l e R s m args below meth c H locs cells slots (MQ below (hmQc E (some (va_rf r)) σ') args s mc ms (fun q => hmL E ≤ q)) (F0 m pc ls [va_rf v]) := by
  obtain ⟨rfl, rfl⟩ := rt_s h
  refine W.widen (k := mc) (n := ms) hc hs ?_
  exact W.aret hx hb hr hrt (va_rf_or v) (fun t ht _ => ⟨rfl, by rw [ht]; exact hI⟩) hL hdg hlocks
-- calls across a nest
variable {y : MethodName} {bytes : ByteArray} {maxL n idx fr lo : Nat} {ret : Option FieldType} {As : List Value} {Qc : Array Value → State → Outcome → State → Prop} {free : Addr → Prop}
def hmMn (own : String) (idx : Nat) (y : MethodName) (host : String) (bytes : ByteArray) (maxL : Nat) (ret : Option FieldType) (n : Nat) (s : State) : Prop :=
  (∀ A, (Cond.code y bytes maxL ret).before A s = true) ∧ (∀ A, (Cond.initialized y.cls).before A s = true) ∧ (y.cls ≠ "java/lang/invoke/MethodHandle" ∧ y.cls ≠ "java/lang/invoke/VarHandle") ∧ (parseMethodDescriptor y.desc).map (fun d => d.parameters.length) = some n ∧ va_Nw (.methodLinkNest own idx y host) s
theorem hm_mn {host : String} (hK : hmK E s) (i1 i2 : Nat) (h1 : tables_1[i1]? = some (Cond.code y bytes maxL ret)) (h2 : tables_1[i2]? = some (Cond.initialized y.cls)) (h3 : va_Nw (.methodLinkNest own idx y host) s) (hy : y.cls ≠ "java/lang/invoke/MethodHandle" ∧ y.cls ≠ "java/lang/invoke/VarHandle") (hn : (parseMethodDescriptor y.desc).map (fun d => d.parameters.length) = some n) : hmMn own idx y host bytes maxL ret n s :=
  ⟨hm_wd hK i1 h1 rfl, hm_wd hK i2 h2 rfl, hy, hn, h3⟩
theorem hm_callN {host : String} (hK : hmK E s) (h : hmMn own idx y host bytes maxL ret n s) (hR : fr + 1 ≤ R.frames ∧ 8 + (maxL + 11) + lo ≤ R.locals) : va_CN R s args own idx y host bytes maxL ret [Cond.code y bytes maxL ret] { frames := fr, cells := mc, slots := ms, locals := lo } mc ms n := by
  obtain ⟨h1, h2, h3, h4, h5⟩ := h
  refine ⟨⟨rfl, rfl, hR.1, hR.2, ?_, List.mem_singleton.mpr rfl⟩, h1 _, h2 _, h3, ?_, va_Nw.use rfl h5⟩
  · intro w hw a' U hW
    rw [List.mem_singleton.mp hw]
    exact word_at (args := #[]) hW (good_of_word rfl) (h1 #[])
  · intro sig hs
    rw [hs] at h4
    exact (Option.some.inj h4).symm
theorem hm_runSN {host : String} (S : CallFix p m c cc nL s args [] own) (hK : hmK E s) (hI : hmI E σ H) (hM : Met l y [Cond.code y bytes maxL ret] { frames := fr, cells := mc, slots := ms, locals := lo } (hmPc E As σ) Qc mc ms free) (h : hmMn own idx y host bytes maxL ret n s) (hst : ∀ A, (Cond.static y).before A s = true) (hR : fr + 1 ≤ R.frames ∧ 8 + (maxL + 11) + lo ≤ R.locals) (hn : As.length = n) (hsize : ls.size = nL) (hW : (rest.map fun v => v.category).sum ≤ 8) (hf : cells + mc ≤ R.cells ∧ slots + ms ≤ R.slots) (hdg : decode cc pc = .ok (.invokestatic idx, 3)) :
    va_Run p l e R s m args below meth c H locs cells slots mc ms (F0 m pc ls (As.reverse ++ rest)) rest (Qc As.toArray) free :=
  va_runSN (g := F0 m pc ls (As.reverse ++ rest)) S hM ⟨hm_callN hK h hR, hst _, trivial⟩ (hm_preS hK hI) rfl hn hsize rfl (by show 2 * 0 + _ ≤ 8; omega) hdg hf
theorem hm_runIN {host : String} (S : CallFix p m c cc nL s args [] own) (hK : hmK E s) (hI : hmI E σ H) {b : Nat} (hM : Met l y [Cond.code y bytes maxL none] { frames := fr, cells := mc, slots := ms, locals := lo } (hmPc E (.ref b :: As) σ) Qc mc ms free) (h : hmMn own idx y host bytes maxL none n s) (hy : y.name = "<init>") (hin : ∀ A, (Cond.instanceMethod y).before A s = true) (hR : fr + 1 ≤ R.frames ∧ 8 + (maxL + 11) + lo ≤ R.locals) (hn : As.length = n) (hsize : ls.size = nL) (hW : (rest.map fun v => v.category).sum ≤ 8) (hf : cells + mc ≤ R.cells ∧ slots + ms ≤ R.slots) (hdg : decode cc pc = .ok (.invokespecial idx, 3)) :
    va_Run p l e R s m args below meth c H locs cells slots mc ms (F0 m pc ls (As.reverse ++ .ref b :: rest)) rest (Qc (Value.ref b :: As).toArray) free :=
  va_runIN (g := F0 m pc ls (As.reverse ++ .ref b :: rest)) S hM ⟨hm_callN hK h hR, hy, hin _⟩ (hm_preS hK hI) rfl hn hsize rfl (by show 2 * 0 + _ ≤ 8; omega) hdg hf
end HMR3
