/-! Steps of the store, and what the machine does at them. -/
def ob {α β : Type} (x : Option α) (k : α → Option β) : Option β := match x with
  | none => none
  | some a => k a
theorem ob_s {α β : Type} {x : Option α} {k : α → Option β} {y : β} (h : ob x k = some y) : ∃ a, x = some a ∧ k a = some y := by
  cases x with
  | none => cases h
  | some a => exact ⟨a, rfl, h⟩
theorem ob_e {α β : Type} {x : Option α} {k : α → Option β} {a : α} (h : x = some a) : ob x k = k a := by rw [h]; rfl
def cb {α β : Type} (x : Option (α × hmS)) (k : α → hmS → Option β) : Option β := match x with
  | none => none
  | some a => k a.1 a.2
theorem cb_s {α β : Type} {x : Option (α × hmS)} {k : α → hmS → Option β} {y : β} (h : cb x k = some y) : ∃ a σ, x = some (a, σ) ∧ k a σ = some y := by
  cases x with
  | none => cases h
  | some a => exact ⟨a.1, a.2, rfl, h⟩
theorem cb_e {α β : Type} {x : Option (α × hmS)} {k : α → hmS → Option β} {a : α} {σ : hmS} (h : x = some (a, σ)) : cb x k = k a σ := by rw [h]; rfl
def oc {α β : Type} (r : Option α) (n : β) (f : α → β) : β := match r with
  | none => n
  | some a => f a
theorem oc_n {α β : Type} {n : β} {f : α → β} {y : β} (h : oc none n f = y) : n = y := h
theorem oc_s {α β : Type} {n : β} {f : α → β} {a : α} {y : β} (h : oc (some a) n f = y) : f a = y := h
theorem it_p {c : Prop} [Decidable c] {α : Type} {a b y : α} (hc : c) (h : (if c then a else b) = y) : a = y := by rw [if_pos hc] at h; exact h
theorem it_n {c : Prop} [Decidable c] {α : Type} {a b y : α} (hc : ¬ c) (h : (if c then a else b) = y) : b = y := by rw [if_neg hc] at h; exact h
def nw {β : Type} (σ : hmS) (e : va_E) (k : Nat → hmS → Option β) : Option β := k σ.2 (hmN σ e)
theorem nw_s {β : Type} {σ : hmS} {e : va_E} {k : Nat → hmS → Option β} {y : β} (h : nw σ e k = some y) : ∃ q σ', q = σ.2 ∧ σ' = hmN σ e ∧ k q σ' = some y := ⟨_, _, rfl, rfl, h⟩
theorem rt_s {α : Type} {a b : α} {σ σ' : hmS} (h : some (a, σ) = some (b, σ')) : a = b ∧ σ = σ' := by cases h; exact ⟨rfl, rfl⟩
-- fields
def hmF (σ : hmS) (a ci k : Nat) : Option Value := match σ.1 a with
  | some (.inr o) => if o.1 = ci then o.2[k]? else none
  | _ => none
theorem hmF_s {σ : hmS} {a ci k : Nat} {v : Value} (h : hmF σ a ci k = some v) : ∃ fs, σ.1 a = some (.inr (ci, fs)) ∧ fs[k]? = some v := by
  unfold hmF at h
  split at h
  · rename_i o ho
    split at h
    · rename_i hc; subst hc; exact ⟨o.2, ho, h⟩
    · cases h
  · cases h
def gI (σ : hmS) (a ci k : Nat) : Option Int32 := match hmF σ a ci k with
  | some (.int x) => some x
  | _ => none
def gL (σ : hmS) (a ci k : Nat) : Option Int64 := match hmF σ a ci k with
  | some (.long x) => some x
  | _ => none
def gR (σ : hmS) (a ci k : Nat) : Option (Option Nat) := match hmF σ a ci k with
  | some .null => some none
  | some (.ref r) => some (some r)
  | _ => none
theorem gI_s {σ : hmS} {a ci k : Nat} {x : Int32} (h : gI σ a ci k = some x) : hmF σ a ci k = some (.int x) := by
  unfold gI at h; split at h
  · rename_i y hy; cases h; exact hy
  · cases h
theorem gL_s {σ : hmS} {a ci k : Nat} {x : Int64} (h : gL σ a ci k = some x) : hmF σ a ci k = some (.long x) := by
  unfold gL at h; split at h
  · rename_i y hy; cases h; exact hy
  · cases h
theorem gR_s {σ : hmS} {a ci k : Nat} {x : Option Nat} (h : gR σ a ci k = some x) : hmF σ a ci k = some (va_rf x) := by
  unfold gR at h; split at h
  · rename_i hy; cases h; exact hy
  · rename_i y hy; cases h; exact hy
  · cases h
def wF (σ : hmS) (a ci k : Nat) (v : Value) : Option hmS := match σ.1 a with
  | some (.inr o) => if o.1 = ci ∧ k < o.2.length then some (hmU σ a (.inr (ci, o.2.set k v))) else none
  | _ => none
theorem wF_s {σ σ' : hmS} {a ci k : Nat} {v : Value} (h : wF σ a ci k v = some σ') : ∃ fs, σ.1 a = some (.inr (ci, fs)) ∧ k < fs.length ∧ σ' = hmU σ a (.inr (ci, fs.set k v)) := by
  unfold wF at h
  split at h
  · rename_i o ho
    split at h
    · rename_i hc; obtain ⟨rfl, h2⟩ := hc; cases h; exact ⟨o.2, ho, h2, rfl⟩
    · cases h
  · cases h
def okZ (x : Int32) : Option Unit := if x = 0 ∨ x = 1 then some () else none
theorem okZ_s {x : Int32} {u : Unit} (h : okZ x = some u) : x = 0 ∨ x = 1 := by
  unfold okZ at h; split at h
  · assumption
  · cases h
theorem okZ_n {x : Int32} {u : Unit} (h : okZ x = some u) : narrow .boolean (.int x) = .int x ∧ fits .boolean (.int x) = true := by
  rcases okZ_s h with rfl | rfl <;> exact ⟨rfl, rfl⟩
theorem okZ_b {x : Int32} {u : Unit} (h : okZ x = some u) : narrow .byte (.int x) = .int x ∧ fits .byte (.int x) = true := by
  rcases okZ_s h with rfl | rfl <;> exact ⟨rfl, rfl⟩
theorem rf_fit {r : Option Nat} {C : String} : narrow (.object C) (va_rf r) = va_rf r ∧ fits (.object C) (va_rf r) = true := by cases r <;> exact ⟨rfl, rfl⟩
theorem rf_fitA {r : Option Nat} {t : FieldType} : narrow (.array t) (va_rf r) = va_rf r ∧ fits (.array t) (va_rf r) = true := by cases r <;> exact ⟨rfl, rfl⟩
-- arrays
def hmB (k : Nat) : Nat := match k with
  | 8 => 1
  | 9 => 0
  | 10 => 3
  | 11 => 3
  | k => k
theorem hmB_T : ∀ k, k < 12 → hmT (hmB k) = hmT k := by decide +kernel
def aN (σ : hmS) (a : Nat) : Option Int32 := match σ.1 a with
  | some (.inl x) => some (Int32.ofNat x.2.1)
  | _ => none
theorem aN_s {σ : hmS} {a : Nat} {v : Int32} (h : aN σ a = some v) : ∃ x, σ.1 a = some (.inl x) ∧ v = Int32.ofNat x.2.1 := by
  unfold aN at h; split at h
  · rename_i x hx; cases h; exact ⟨x, hx, rfl⟩
  · cases h
def aI (σ : hmS) (bk a : Nat) (i : Int32) : Option Int32 := match σ.1 a with
  | some (.inl (k, n, .inl f)) => if hmB k = bk ∧ ¬ (i < 0 ∨ n ≤ i.toNatClampNeg) then some (f i.toNatClampNeg) else none
  | _ => none
theorem aI_s {σ : hmS} {bk a : Nat} {i v : Int32} (h : aI σ bk a i = some v) : ∃ k n f, σ.1 a = some (.inl (k, n, .inl f)) ∧ hmB k = bk ∧ vp_in i n ∧ v = f i.toNatClampNeg := by
  unfold aI at h; split at h
  · rename_i k n f hx; split at h
    · rename_i hc; cases h; exact ⟨k, n, f, hx, hc.1, hc.2, rfl⟩
    · cases h
  · cases h
def aL (σ : hmS) (a : Nat) (i : Int32) : Option Int64 := match σ.1 a with
  | some (.inl (k, n, .inr (.inl f))) => if hmB k = 1 ∧ ¬ (i < 0 ∨ n ≤ i.toNatClampNeg) then some (f i.toNatClampNeg) else none
  | _ => none
theorem aL_s {σ : hmS} {a : Nat} {i : Int32} {v : Int64} (h : aL σ a i = some v) : ∃ k n f, σ.1 a = some (.inl (k, n, .inr (.inl f))) ∧ hmB k = 1 ∧ vp_in i n ∧ v = f i.toNatClampNeg := by
  unfold aL at h; split at h
  · rename_i k n f hx; split at h
    · rename_i hc; cases h; exact ⟨k, n, f, hx, hc.1, hc.2, rfl⟩
    · cases h
  · cases h
def aR (σ : hmS) (a : Nat) (i : Int32) : Option (Option Nat) := match σ.1 a with
  | some (.inl (k, n, .inr (.inr (.inr (.inr f))))) => if (4 ≤ k ∧ k < 8) ∧ ¬ (i < 0 ∨ n ≤ i.toNatClampNeg) then some (f i.toNatClampNeg) else none
  | _ => none
theorem aR_s {σ : hmS} {a : Nat} {i : Int32} {v : Option Nat} (h : aR σ a i = some v) : ∃ k n f, σ.1 a = some (.inl (k, n, .inr (.inr (.inr (.inr f))))) ∧ (4 ≤ k ∧ k < 8) ∧ vp_in i n ∧ v = f i.toNatClampNeg := by
  unfold aR at h; split at h
  · rename_i k n f hx; split at h
    · rename_i hc; cases h; exact ⟨k, n, f, hx, hc.1, hc.2, rfl⟩
    · cases h
  · cases h
def sI (σ : hmS) (bk a : Nat) (i y : Int32) : Option hmS := match σ.1 a with
  | some (.inl (k, n, .inl f)) => if (k = bk ∧ k < 8) ∧ ¬ (i < 0 ∨ n ≤ i.toNatClampNeg) then some (hmU σ a (.inl (k, n, .inl (upd f i.toNatClampNeg y)))) else none
  | _ => none
theorem sI_s {σ σ' : hmS} {bk a : Nat} {i y : Int32} (h : sI σ bk a i y = some σ') : ∃ n f, σ.1 a = some (.inl (bk, n, .inl f)) ∧ bk < 8 ∧ vp_in i n ∧ σ' = hmU σ a (.inl (bk, n, .inl (upd f i.toNatClampNeg y))) := by
  unfold sI at h; split at h
  · rename_i k n f hx; split at h
    · rename_i hc; obtain ⟨⟨rfl, h8⟩, hi⟩ := hc; cases h; exact ⟨n, f, hx, h8, hi, rfl⟩
    · cases h
  · cases h
def sL (σ : hmS) (a : Nat) (i : Int32) (y : Int64) : Option hmS := match σ.1 a with
  | some (.inl (k, n, .inr (.inl f))) => if k = 1 ∧ ¬ (i < 0 ∨ n ≤ i.toNatClampNeg) then some (hmU σ a (.inl (k, n, .inr (.inl (vp_updL f i.toNatClampNeg y))))) else none
  | _ => none
theorem sL_s {σ σ' : hmS} {a : Nat} {i : Int32} {y : Int64} (h : sL σ a i y = some σ') : ∃ n f, σ.1 a = some (.inl (1, n, .inr (.inl f))) ∧ vp_in i n ∧ σ' = hmU σ a (.inl (1, n, .inr (.inl (vp_updL f i.toNatClampNeg y)))) := by
  unfold sL at h; split at h
  · rename_i k n f hx; split at h
    · rename_i hc; obtain ⟨rfl, hi⟩ := hc; cases h; exact ⟨n, f, hx, hi, rfl⟩
    · cases h
  · cases h
/-- the class, by its place in vwCl, of what an array of a kind holds -/
def hmC (k : Nat) : Nat := match k with
  | 4 => 8
  | 5 => 7
  | 6 => 4
  | _ => 5
def okR (σ : hmS) (ci : Nat) (r : Option Nat) : Bool := match r with
  | none => true
  | some v => match σ.1 v with
    | some (.inr o) => o.1 == ci
    | _ => false
def sR (σ : hmS) (a : Nat) (i : Int32) (r : Option Nat) : Option hmS := match σ.1 a with
  | some (.inl (k, n, .inr (.inr (.inr (.inr f))))) => if ((4 ≤ k ∧ k < 8) ∧ ¬ (i < 0 ∨ n ≤ i.toNatClampNeg)) ∧ okR σ (hmC k) r = true then some (hmU σ a (.inl (k, n, .inr (.inr (.inr (.inr (va_up f i.toNatClampNeg r))))))) else none
  | _ => none
theorem sR_s {σ σ' : hmS} {a : Nat} {i : Int32} {r : Option Nat} (h : sR σ a i r = some σ') : ∃ k n f, σ.1 a = some (.inl (k, n, .inr (.inr (.inr (.inr f))))) ∧ (4 ≤ k ∧ k < 8) ∧ vp_in i n ∧ okR σ (hmC k) r = true ∧ σ' = hmU σ a (.inl (k, n, .inr (.inr (.inr (.inr (va_up f i.toNatClampNeg r)))))) := by
  unfold sR at h; split at h
  · rename_i k n f hx; split at h
    · rename_i hc; cases h; exact ⟨k, n, f, hx, hc.1.1, hc.1.2, hc.2, rfl⟩
    · cases h
  · cases h
/-- a new array of a kind, of at most B places -/
def nA (σ : hmS) (k : Nat) (x : hmX) (B : Nat) (n : Int32) : Option (Nat × hmS) := if ¬ n < 0 ∧ n.toNatClampNeg ≤ B then some (σ.2, hmN σ (.inl (k, n.toNatClampNeg, x))) else none
theorem nA_s {σ : hmS} {k B : Nat} {x : hmX} {n : Int32} {q : Nat} {σ' : hmS} (h : nA σ k x B n = some (q, σ')) : ¬ n < 0 ∧ n.toNatClampNeg ≤ B ∧ q = σ.2 ∧ σ' = hmN σ (.inl (k, n.toNatClampNeg, x)) := by
  unfold nA at h; split at h
  · rename_i hc; cases h; exact ⟨hc.1, hc.2, rfl, rfl⟩
  · cases h
-- what a field is, by its place in a class's pool
def hmFd (own : String) (idx ci k : Nat) (ty : FieldType) (fin dec : Bool) (s : State) : Prop := ∃ (C : String) (T : u_T) (N : Nat), vwCl[ci]? = some (C, T, N) ∧ k < N ∧ (∀ A, (Cond.fieldLink own idx (T k).1 (T k).2.1 (T k).2.2.1).before A s = true) ∧ parseFieldDescriptor (T k).2.2.1 = some ty ∧ (T k).2.2.2 = fin ∧ (dec = true → (T k).1 = own) ∧ (∀ j, j < N → ∀ A, (u_lay C T j).before A s = true)
theorem hm_lays {C : String} {T : u_T} {k : Nat} {A : Array Value} {s : State} (h : (u_lay C T k).before A s = true) : (Cond.lays C (T k).1 (T k).2.1 (T k).2.2.1).before A s = true ∨ (Cond.laysFinal C (T k).1 (T k).2.1 (T k).2.2.1).before A s = true := by
  unfold u_lay at h
  split at h
  · exact Or.inr h
  · exact Or.inl h
theorem hm_fd {E : hmG} {s : State} (hK : hmK E s) {own : String} {idx ci k : Nat} {ty : FieldType} {fin dec : Bool} (C : String) (T : u_T) (N : Nat) (hc : vwCl[ci]? = some (C, T, N)) (hk : k < N) (i : Nat) (hw : tables_1[i]? = some (Cond.fieldLink own idx (T k).1 (T k).2.1 (T k).2.2.1)) (hty : parseFieldDescriptor (T k).2.2.1 = some ty) (hfin : (T k).2.2.2 = fin) (hdecl : dec = true → (T k).1 = own) (hlay : ∀ w ∈ u_ws C T N, w ∈ lw_tbl ∧ goodWord w = true) : hmFd own idx ci k ty fin dec s :=
  ⟨C, T, N, hc, hk, fun A => hK.2.2.1 _ (hm_tb hw) rfl A, hty, hfin, hdecl, fun j hj A => hK.2.2.1 _ (List.mem_append_right _ (hlay _ (u_in_lay hj)).1) (hlay _ (u_in_lay hj)).2 A⟩
section HMR
variable {p : Program} {l : Launch} {e : Env} {R : Room} {s : State} {m : MethodId} {args : Array Value} {below : List Frame} {meth : Method} {c : Code} {H : Heap} {locs : List Loc} {cells slots : Nat} {Q : State → Prop}
variable {cc : ByteArray} {pc nL : Nat} {ls : Array Slot} {rest : List Value} {E : hmG} {σ σ' : hmS} {a : Nat} {own : String}
theorem hm_get (S : CallFix p m c cc nL s args [] own) (hK : hmK E s) (hI : hmI E σ H) {idx ci k : Nat} {ty : FieldType} {fin dec : Bool} (hf : hmFd own idx ci k ty fin dec s) {v : Value} (hv : hmF σ a ci k = some v) (hdg : decode cc pc = .ok (.getfield idx, 3))
    (kk : W p l e R s m args below meth c H locs cells slots Q (F0 m (pc + 3) ls (v :: rest))) : W p l e R s m args below meth c H locs cells slots Q (F0 m pc ls (.ref a :: rest)) := by
  obtain ⟨C, T, N, hc, hk, hlink, -, -, -, hlay⟩ := hf
  obtain ⟨fs, he, hvv⟩ := hmF_s hv
  obtain ⟨-, r, h1, cell, q1, q2, q3, q4⟩ := hI.2.2.2 a _ he
  have hr : r = (C, T, N) := Option.some.inj (h1.symm.trans hc)
  subst hr
  obtain ⟨hS, hfc, kC, hkC, hkind⟩ := hK.1 ci _ hc
  obtain ⟨cf, kf, fi, f, hi, hsl⟩ := hS k hk
  refine W.getf S.1 S.2.1 S.2.2.2.1 (hlink _) hi (u_facts hfc hkC (hm_lays (hlay k hk args)) hi).1 q1 (by rw [q3]; exact fun h => by cases h) (v := v) ?_ rfl rfl hdg kk
  rw [hsl, q4 k hk]
  simp [vp_V, hvv]
theorem hm_put (S : CallFix p m c cc nL s args [] own) (hK : hmK E s) (hI : hmI E σ H) (hL : hmLo E locs) {idx ci k : Nat} {ty : FieldType} {dec : Bool} (hf : hmFd own idx ci k ty false dec s) {v : Value} (hv : wF σ a ci k v = some σ') (hn : narrow ty v = v ∧ fits ty v = true) (hdg : decode cc pc = .ok (.putfield idx, 3))
    (kk : ∀ (H1 : Heap) (locs1 : List Loc), hmI E σ' H1 → hmLo E locs1 → W p l e R s m args below meth c H1 locs1 cells slots Q (F0 m (pc + 3) ls rest)) : W p l e R s m args below meth c H locs cells slots Q (F0 m pc ls (v :: .ref a :: rest)) := by
  obtain ⟨C, T, N, hc, hk, hlink, hd, hfin, -, hlay⟩ := hf
  obtain ⟨fs, he, hl, rfl⟩ := wF_s hv
  obtain ⟨hlo, r, h1, cell, q1, q2, q3, q4⟩ := hI.2.2.2 a _ he
  have hr : r = (C, T, N) := Option.some.inj (h1.symm.trans hc)
  subst hr
  have hap := hK.2.1 ci _ hc
  obtain ⟨hS, hfc, kC, hkC, hkind⟩ := hK.1 ci _ hc
  obtain ⟨cf, kf, fi, f, hi, hsl⟩ := hS k hk
  have hla := hlay k hk args
  have hst := (u_facts hfc hkC (hm_lays hla) hi).1
  unfold u_lay at hla
  rw [if_neg (by rw [hfin]; decide)] at hla
  have h6 := u_store hfc hkC hkind hla hi hd hn.1 hn.2
  refine W.putK S.1 S.2.1 (f := f) ⟨S.2.2.2.1, hlink _, ⟨_, _, _, hi⟩, hst⟩ (by rw [q2]; exact h6) q1 q3 (by rw [hsl]; exact k2_hasslot (q4 k hk)) rfl rfl hdg fun H' e1 e2 e3 => ?_
  rw [hsl] at e1 ⊢
  exact kk H' _ (hI.set e2 e3 hlo ⟨hlo, _, hc, t_OB.to (V := updV (vp_V fs) k v) ⟨_, e1, q2, q3, t_set q4 hap hk v⟩ (fun j _ => vp_updV_set hl v j)⟩) (hL.put hlo)
theorem hm_putF (S : CallFix p m c cc nL s args [] own) (hK : hmK E s) (hI : hmI E σ H) (hL : hmLo E locs) (hin2 : meth.name = "<init>") {idx ci k : Nat} {ty : FieldType} (hf : hmFd own idx ci k ty true true s) {v : Value} (hv : wF σ a ci k v = some σ') (hn : narrow ty v = v ∧ fits ty v = true) (hdg : decode cc pc = .ok (.putfield idx, 3))
    (kk : ∀ (H1 : Heap) (locs1 : List Loc), hmI E σ' H1 → hmLo E locs1 → W p l e R s m args below meth c H1 locs1 cells slots Q (F0 m (pc + 3) ls rest)) : W p l e R s m args below meth c H locs cells slots Q (F0 m pc ls (v :: .ref a :: rest)) := by
  obtain ⟨C, T, N, hc, hk, hlink, hd, hfin, hdecl, hlay⟩ := hf
  obtain ⟨fs, he, hl, rfl⟩ := wF_s hv
  obtain ⟨hlo, r, h1, cell, q1, q2, q3, q4⟩ := hI.2.2.2 a _ he
  have hr : r = (C, T, N) := Option.some.inj (h1.symm.trans hc)
  subst hr
  have hap := hK.2.1 ci _ hc
  obtain ⟨hS, hfc, kC, hkC, hkind⟩ := hK.1 ci _ hc
  obtain ⟨cf, kf, fi, f, hi, hsl⟩ := hS k hk
  have hla := hlay k hk args
  have hst := (u_facts hfc hkC (hm_lays hla) hi).1
  unfold u_lay at hla
  rw [if_pos hfin] at hla
  have hcf : m.cls = cf := by
    obtain ⟨_, _, c', _, _, _, -, -, hf', -, -, -, hown2, -⟩ := Cond.laysFinal_spec hla
    have e1 : c' = cf := by have := hi.symm.trans hf'; simp at this; exact this.1.symm
    rw [hdecl rfl] at hown2
    rw [← e1]; exact Option.some.inj (S.2.2.2.1.symm.trans hown2)
  have h6 := u_fits hfc hkC hkind (Or.inr hla) hi hd hn.1 hn.2
  refine W.putFinK S.1 S.2.1 S.2.2.2.1 (hlink _) hi hst hcf hin2 (by rw [q2]; exact h6) q1 q3 (by rw [hsl]; exact k2_hasslot (q4 k hk)) rfl rfl hdg fun H' e1 e2 e3 => ?_
  rw [hsl] at e1 ⊢
  exact kk H' _ (hI.set e2 e3 hlo ⟨hlo, _, hc, t_OB.to (V := updV (vp_V fs) k v) ⟨_, e1, q2, q3, t_set q4 hap hk v⟩ (fun j _ => vp_updV_set hl v j)⟩) (hL.put hlo)
/-- an array of the store is one for the machine -/
theorem hm_arr (hK : hmK E s) {k : Nat} {x : vp_A} {cell : Cell} (hk : k < 12) (h1 : cell.cls = hmA E k) (h2 : ∀ z, cell.vm ≠ .statics z) : s.isArrayOf cell (hmT k) := by
  obtain ⟨kA, comp, g1, g2⟩ := hK.2.2.2.1 k hk
  exact ⟨h2, kA, by rw [h1]; exact g1, comp, g2⟩
theorem hm_aN (S : CallFix p m c cc nL s args [] own) (hK : hmK E s) (hI : hmI E σ H) {v : Int32} (hv : aN σ a = some v) (hdg : decode cc pc = .ok (.arraylength, 1))
    (kk : W p l e R s m args below meth c H locs cells slots Q (F0 m (pc + 1) ls (.int v :: rest))) : W p l e R s m args below meth c H locs cells slots Q (F0 m pc ls (.ref a :: rest)) := by
  obtain ⟨x, hx, rfl⟩ := aN_s hv
  obtain ⟨cell, q1, q2, q3, q4, q5, q6, q7, q8, -⟩ := hI.2.2.2 a _ hx
  exact W.alen S.1 S.2.1 q1 (hm_arr (x := x.2) hK q8 q2 q3) q6 rfl rfl hdg kk
theorem hm_in {i : Int32} {n z : Nat} (h : vp_in i n) (hz : n ≤ z) : ¬ (i < 0 ∨ z ≤ i.toNatClampNeg) := fun h2 => h (h2.elim Or.inl fun h3 => Or.inr (Nat.le_trans hz h3))
theorem hm_lt {i : Int32} {n : Nat} (h : vp_in i n) : i.toNatClampNeg < n := Nat.not_le.mp fun q => h (Or.inr q)
theorem hm_iald (S : CallFix p m c cc nL s args [] own) (hK : hmK E s) (hI : hmI E σ H) {i v : Int32} (hv : aI σ 0 a i = some v) (hdg : decode cc pc = .ok (.iaload, 1))
    (kk : W p l e R s m args below meth c H locs cells slots Q (F0 m (pc + 1) ls (.int v :: rest))) : W p l e R s m args below meth c H locs cells slots Q (F0 m pc ls (.int i :: .ref a :: rest)) := by
  obtain ⟨k, n, f, hx, hb, hin, rfl⟩ := aI_s hv
  obtain ⟨cell, q1, q2, q3, q4, q5, q6, q7, q8, -⟩ := hI.2.2.2 a _ hx
  have ha := hm_arr (x := (n, .inl f)) hK q8 q2 q3
  rw [← hmB_T k q8, hb] at ha
  exact W.iald S.1 S.2.1 q1 ha q4 (hm_in hin q5) (q7 _ (hm_lt hin)) rfl rfl hdg kk
theorem hm_zald (S : CallFix p m c cc nL s args [] own) (hK : hmK E s) (hI : hmI E σ H) {i v : Int32} (hv : aI σ 2 a i = some v) (hdg : decode cc pc = .ok (.baload, 1))
    (kk : W p l e R s m args below meth c H locs cells slots Q (F0 m (pc + 1) ls (.int v :: rest))) : W p l e R s m args below meth c H locs cells slots Q (F0 m pc ls (.int i :: .ref a :: rest)) := by
  obtain ⟨k, n, f, hx, hb, hin, rfl⟩ := aI_s hv
  obtain ⟨cell, q1, q2, q3, q4, q5, q6, q7, q8, -⟩ := hI.2.2.2 a _ hx
  have ha := hm_arr (x := (n, .inl f)) hK q8 q2 q3
  rw [← hmB_T k q8, hb] at ha
  exact W.zald S.1 S.2.1 q1 ha q4 (hm_in hin q5) (q7 _ (hm_lt hin)) rfl rfl hdg kk
theorem hm_bald (S : CallFix p m c cc nL s args [] own) (hK : hmK E s) (hI : hmI E σ H) {i v : Int32} (hv : aI σ 3 a i = some v) (hdg : decode cc pc = .ok (.baload, 1))
    (kk : W p l e R s m args below meth c H locs cells slots Q (F0 m (pc + 1) ls (.int v :: rest))) : W p l e R s m args below meth c H locs cells slots Q (F0 m pc ls (.int i :: .ref a :: rest)) := by
  obtain ⟨k, n, f, hx, hb, hin, rfl⟩ := aI_s hv
  obtain ⟨cell, q1, q2, q3, q4, q5, q6, q7, q8, -⟩ := hI.2.2.2 a _ hx
  have ha := hm_arr (x := (n, .inl f)) hK q8 q2 q3
  rw [← hmB_T k q8, hb] at ha
  exact W.bald S.1 S.2.1 q1 ha q4 (hm_in hin q5) (q7 _ (hm_lt hin)) rfl rfl hdg kk
theorem hm_lald (S : CallFix p m c cc nL s args [] own) (hK : hmK E s) (hI : hmI E σ H) {i : Int32} {v : Int64} (hv : aL σ a i = some v) (hdg : decode cc pc = .ok (.laload, 1))
    (kk : W p l e R s m args below meth c H locs cells slots Q (F0 m (pc + 1) ls (.long v :: rest))) : W p l e R s m args below meth c H locs cells slots Q (F0 m pc ls (.int i :: .ref a :: rest)) := by
  obtain ⟨k, n, f, hx, hb, hin, rfl⟩ := aL_s hv
  obtain ⟨cell, q1, q2, q3, q4, q5, q6, q7, q8, -⟩ := hI.2.2.2 a _ hx
  have ha := hm_arr (x := (n, .inr (.inl f))) hK q8 q2 q3
  rw [← hmB_T k q8, hb] at ha
  exact W.lald S.1 S.2.1 q1 ha q4 (hm_in hin q5) (q7 _ (hm_lt hin)) rfl rfl hdg kk
theorem hm_ref : ∀ k, 4 ≤ k → k < 8 → (hmT k).isReference = true := by
  intro k h1 h2
  rcases (show k = 4 ∨ k = 5 ∨ k = 6 ∨ k = 7 by omega) with rfl | rfl | rfl | rfl <;> rfl
theorem hm_aald (S : CallFix p m c cc nL s args [] own) (hK : hmK E s) (hI : hmI E σ H) {i : Int32} {v : Option Nat} (hv : aR σ a i = some v) (hdg : decode cc pc = .ok (.aaload, 1))
    (kk : W p l e R s m args below meth c H locs cells slots Q (F0 m (pc + 1) ls (va_rf v :: rest))) : W p l e R s m args below meth c H locs cells slots Q (F0 m pc ls (.int i :: .ref a :: rest)) := by
  obtain ⟨k, n, f, hx, hb, hin, rfl⟩ := aR_s hv
  obtain ⟨cell, q1, q2, q3, q4, q5, q6, q7, q8, -⟩ := hI.2.2.2 a _ hx
  exact W.aald S.1 S.2.1 q1 (hm_arr (x := (n, .inr (.inr (.inr (.inr f))))) hK q8 q2 q3) (hm_ref k hb.1 hb.2) q4 (hm_in hin q5) (q7 _ (hm_lt hin)) rfl rfl hdg kk
end HMR
