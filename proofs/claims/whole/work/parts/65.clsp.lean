/-! The class: a new type. -/
theorem hmU_U (σ : hmS) (T : Nat) (x y : va_E) : hmU (hmU σ T x) T y = hmU σ T y := by
  refine Prod.ext (funext fun p => ?_) rfl
  by_cases h : p = T
  · subst h; rw [hmU_s, hmU_s]
  · rw [hmU_n _ _ h, hmU_n _ _ h, hmU_n _ _ h]
theorem wU (σ : hmS) (T ci : Nat) (fs : List Value) (k : Nat) (v : Value) (h : k < fs.length) : wF (hmU σ T (.inr (ci, fs))) T ci k v = some (hmU σ T (.inr (ci, fs.set k v))) := by
  rw [wF_of (hmU_s _ _ _) h, hmU_U]
def ocU (o : Option Nat) (n : Option (Unit × hmS)) (f : Nat → Option (Unit × hmS)) : Option (Unit × hmS) := oc o n f
def bdN (a : aS) (k : Nat) (ow : Option Nat) : Bool := k == 2 || ((k == 3 || k == 5) && (match ow with | some o => a.1 11 o == 0 | none => false))
/-- what a new type's objects hold -/
def tyC (a : aS) (g : Nat → Nat → Nat → Nat) (kk : Nat) (ow oc : Option Nat) (tw T s : Nat) (σ : hmS) : Prop := T + 9 ≤ s ∧ s + 1 < σ.2 ∧ σ.1 T = some (.inr (8, [.int (nI (a.1 0 0)), .int (nI kk), va_rf (mp g 5 ow), .int (lt oc), .int (nI (ahd a kk ow)), .int (b2 (bdN a kk ow)), .ref s, .ref (T + 1), .ref (T + 5), .int 0, .null])) ∧ σ.1 (T + 1) = some (.inr (3, [.ref (T + 2), .ref (T + 3), .ref (T + 4), .int 0])) ∧ σ.1 (T + 2) = some (.inl (0, 4, .inl (fun _ => 0))) ∧ σ.1 (T + 3) = some (.inl (1, 4, .inr (.inl (fun _ => 0)))) ∧ σ.1 (T + 4) = some (.inl (2, 4, .inl (fun _ => 0))) ∧ σ.1 (T + 5) = some (.inr (6, [.ref (T + 6), .ref (T + 7), .ref (T + 8), .int 0])) ∧ σ.1 (T + 6) = some (.inl (0, 4, .inl (fun _ => 0))) ∧ σ.1 (T + 7) = some (.inl (1, 4, .inr (.inl (fun _ => 0)))) ∧ σ.1 (T + 8) = some (.inl (2, 4, .inl (fun _ => 0))) ∧ σ.1 s = some (.inr (0, [.ref (s + 1), .int 0, .int 0, .int 0])) ∧ ∃ f, σ.1 (s + 1) = some (.inl (3, (nmN a ow tw oc).length, .inl f)) ∧ ∀ i, i < (nmN a ow tw oc).length → f i = nI ((nmN a ow tw oc).getD i 0)
section DQ
variable {E : hmG} {xa ma b : Nat} {a : aS} {w : cG} {σ : hmS}
set_option maxHeartbeats 1000000 in
theorem RC.tinit (h : RC E xa ma b a w σ) (hw : Wt a) (hn : a.1 0 0 < 12) {kk : Nat} (hk : kk < 6) {ow oc : Option Nat} (how : ∀ q, ow = some q → q < a.1 0 0) (hoc : ∀ c, oc = some c → c < 26) (hk0 : kk = 0 ↔ ow = none) {tw : Nat} (htw : tw < 13) : ∃ σ' s, fX6_init E σ.2 (nI (a.1 0 0)) (nI kk) (mp w.1 5 ow) (lt oc) (nI tw) (hmN σ (.inr (8, [.int 0, .int 0, .null, .int 0, .int 0, .int 0, .null, .null, .null, .int 0, .null]))) = some ((), σ') ∧ Ext σ σ' ∧ tyC a w.1 kk ow oc tw σ.2 s σ' := by
  obtain ⟨σ0, hs0⟩ : ∃ σ0, σ0 = hmN σ (.inr (8, [.int 0, .int 0, .null, .int 0, .int 0, .int 0, .null, .null, .null, .int 0, .null])) := ⟨_, rfl⟩
  have l0 : σ0.2 = σ.2 + 1 := by rw [hs0]; rfl
  have x0 : Ext σ σ0 := by rw [hs0]; exact Ext.new σ _
  have d0 : σ0.1 σ.2 = some (.inr (8, [.int 0, .int 0, .null, .int 0, .int 0, .int 0, .null, .null, .null, .int 0, .null])) := by rw [hs0]; exact hmN_s _ _
  rw [← hs0]
  obtain ⟨σ2, hs2⟩ : ∃ σ2, σ2 = hmN σ0 (.inr (3, [.null, .null, .null, .int 0])) := ⟨_, rfl⟩
  have l2 : σ2.2 = σ.2 + 2 := by rw [hs2]; show σ0.2 + 1 = _; omega
  have x2 : Ext σ0 σ2 := by rw [hs2]; exact Ext.new σ0 _
  have n2 : σ2.1 (σ.2 + 1) = some (.inr (3, [.null, .null, .null, .int 0])) := by rw [hs2, ← l0]; exact hmN_s _ _
  obtain ⟨σ6, e6, y6, l6, f6, f6a, f6b, f6c⟩ := dp_X1 (q := σ.2 + 1) (by omega) n2
  rw [l2] at l6 f6 f6a f6b f6c
  have d6 : σ6.1 σ.2 = some (.inr (8, [.int 0, .int 0, .null, .int 0, .int 0, .int 0, .null, .null, .null, .int 0, .null])) := by rw [y6.2 _ (by omega) (by omega), x2.2 _ (by omega)]; exact d0
  have w7 := wF_of (k := 7) d6 (by simp) (.ref (σ.2 + 1))
  obtain ⟨σ7, hs7⟩ : ∃ σ7, σ7 = hmU σ6 σ.2 (.inr (8, [.int 0, .int 0, .null, .int 0, .int 0, .int 0, .null, .ref (σ.2 + 1), .null, .int 0, .null])) := ⟨_, rfl⟩
  have w7' : wF σ6 σ.2 8 7 (.ref (σ.2 + 1)) = some σ7 := by rw [w7, hs7]; rfl
  have l7 : σ7.2 = σ.2 + 5 := by rw [hs7]; exact l6
  have d7 : σ7.1 σ.2 = some (.inr (8, [.int 0, .int 0, .null, .int 0, .int 0, .int 0, .null, .ref (σ.2 + 1), .null, .int 0, .null])) := by rw [hs7]; exact hmU_s _ _ _
  have k7 : ∀ p, p ≠ σ.2 → σ7.1 p = σ6.1 p := fun p hp => by rw [hs7, hmU_n _ _ hp]
  obtain ⟨σ10, hs10⟩ : ∃ σ10, σ10 = hmN σ7 (.inr (6, [.null, .null, .null, .int 0])) := ⟨_, rfl⟩
  have l10 : σ10.2 = σ.2 + 6 := by rw [hs10]; show σ7.2 + 1 = _; omega
  have x10 : Ext σ7 σ10 := by rw [hs10]; exact Ext.new σ7 _
  have n10 : σ10.1 (σ.2 + 5) = some (.inr (6, [.null, .null, .null, .int 0])) := by rw [hs10, ← l7]; exact hmN_s _ _
  obtain ⟨σ14, e14, y14, l14, f14, f14a, f14b, f14c⟩ := dp_X4 (q := σ.2 + 5) (by omega) n10
  rw [l10] at l14 f14 f14a f14b f14c
  have d14 : σ14.1 σ.2 = some (.inr (8, [.int 0, .int 0, .null, .int 0, .int 0, .int 0, .null, .ref (σ.2 + 1), .null, .int 0, .null])) := by rw [y14.2 _ (by omega) (by omega), x10.2 _ (by omega)]; exact d7
  have w15 := wF_of (k := 8) d14 (by simp) (.ref (σ.2 + 5))
  have keep14 : ∀ p, p < σ.2 + 5 → p ≠ σ.2 → σ14.1 p = σ6.1 p := fun p hp hp' => by rw [y14.2 p (by omega) (by omega), x10.2 p (by omega), k7 p hp']
  have x14 : Ext σ σ14 := ⟨by omega, fun p hp => by rw [keep14 p (by omega) (by omega), y6.2 p (by omega) (by omega), x2.2 p (by omega), x0.2 p hp]⟩
  have g14 := h.ext x14
  -- the end of it, once it is known whether the type is bound
  have fin : ∀ B : Bool, ∃ σ' s, fX6_init_J123 E σ.2 (nI (a.1 0 0)) (nI kk) (mp w.1 5 ow) (lt oc) (nI tw) (b2 B) (hmU σ14 σ.2 (.inr (8, [.int (nI (a.1 0 0)), .int (nI kk), va_rf (mp w.1 5 ow), .int (lt oc), .int (nI (ahd a kk ow)), .int 0, .null, .ref (σ.2 + 1), .ref (σ.2 + 5), .int 0, .null]))) = some ((), σ') ∧ Ext σ σ' ∧ (B = bdN a kk ow → tyC a w.1 kk ow oc tw σ.2 s σ') := by
    intro B
    obtain ⟨σ20, hs20⟩ : ∃ σ20, σ20 = hmU σ14 σ.2 (.inr (8, [.int (nI (a.1 0 0)), .int (nI kk), va_rf (mp w.1 5 ow), .int (lt oc), .int (nI (ahd a kk ow)), .int (b2 B), .null, .ref (σ.2 + 1), .ref (σ.2 + 5), .int 0, .null])) := ⟨_, rfl⟩
    have x20 : Ext σ σ20 := by rw [hs20]; exact x14.up (Nat.le_refl _) _
    have g20 := h.ext x20
    have l20 : σ20.2 = σ.2 + 9 := by rw [hs20]; exact l14
    have d20 : σ20.1 σ.2 = some (.inr (8, [.int (nI (a.1 0 0)), .int (nI kk), va_rf (mp w.1 5 ow), .int (lt oc), .int (nI (ahd a kk ow)), .int (b2 B), .null, .ref (σ.2 + 1), .ref (σ.2 + 5), .int 0, .null])) := by rw [hs20]; exact hmU_s _ _ _
    have k20 : ∀ p, p ≠ σ.2 → σ20.1 p = σ14.1 p := fun p hp => by rw [hs20, hmU_n _ _ hp]
    obtain ⟨σ22, s, f, e22, x22, s1, s2, s3, s4, s5⟩ := g20.nameOf hw hn how hoc htw
    have d22 : σ22.1 σ.2 = some (.inr (8, [.int (nI (a.1 0 0)), .int (nI kk), va_rf (mp w.1 5 ow), .int (lt oc), .int (nI (ahd a kk ow)), .int (b2 B), .null, .ref (σ.2 + 1), .ref (σ.2 + 5), .int 0, .null])) := by rw [x22.2 _ (by omega)]; exact d20
    have w24 := wF_of (k := 6) d22 (by simp) (va_rf (some s))
    obtain ⟨σ24, hs24⟩ : ∃ σ24, σ24 = hmU σ22 σ.2 (.inr (8, [.int (nI (a.1 0 0)), .int (nI kk), va_rf (mp w.1 5 ow), .int (lt oc), .int (nI (ahd a kk ow)), .int (b2 B), .ref s, .ref (σ.2 + 1), .ref (σ.2 + 5), .int 0, .null])) := ⟨_, rfl⟩
    have w24' : wF σ22 σ.2 8 6 (va_rf (some s)) = some σ24 := by rw [w24, hs24]; rfl
    have k24 : ∀ p, p ≠ σ.2 → σ24.1 p = σ22.1 p := fun p hp => by rw [hs24, hmU_n _ _ hp]
    have k24' : ∀ p, p < σ.2 + 9 → p ≠ σ.2 → σ24.1 p = σ14.1 p := fun p hp hp' => by rw [k24 p hp', x22.2 p (by omega), k20 p hp']
    refine ⟨σ24, s, ?_, ?_, fun hB => ⟨by omega, ?_, ?_, ?_, ?_, ?_, ?_, ?_, ?_, ?_, ?_, ?_, f, ?_, s5⟩⟩
    · have wq : wF (hmU σ14 σ.2 (.inr (8, [.int (nI (a.1 0 0)), .int (nI kk), va_rf (mp w.1 5 ow), .int (lt oc), .int (nI (ahd a kk ow)), .int 0, .null, .ref (σ.2 + 1), .ref (σ.2 + 5), .int 0, .null]))) σ.2 8 5 (.int (b2 B)) = some σ20 := by rw [wU _ _ _ _ _ _ (by simp), hs20]; rfl
      simp only [fX6_init_J123, okZ_b2, ob_some, wq, e22, cb_some, w24']
    · rw [hs24]; exact (x20.trans x22).up (Nat.le_refl _) _
    · rw [hs24]; exact s2
    · rw [hs24, ← hB]; exact hmU_s _ _ _
    · rw [k24' _ (by omega) (by omega), keep14 _ (by omega) (by omega)]; exact f6
    · rw [k24' _ (by omega) (by omega), keep14 _ (by omega) (by omega)]; exact f6a
    · rw [k24' _ (by omega) (by omega), keep14 _ (by omega) (by omega)]; exact f6b
    · rw [k24' _ (by omega) (by omega), keep14 _ (by omega) (by omega)]; exact f6c
    · rw [k24' _ (by omega) (by omega)]; exact f14
    · rw [k24' _ (by omega) (by omega)]; exact f14a
    · rw [k24' _ (by omega) (by omega)]; exact f14b
    · rw [k24' _ (by omega) (by omega)]; exact f14c
    · rw [k24 _ (by omega)]; exact s3
    · rw [k24 _ (by omega)]; exact s4
  -- the beginning
  obtain ⟨σ27, hs27⟩ : ∃ σ27, σ27 = hmU σ14 σ.2 (.inr (8, [.int (nI (a.1 0 0)), .int (nI kk), va_rf (mp w.1 5 ow), .int (lt oc), .int 0, .int 0, .null, .ref (σ.2 + 1), .ref (σ.2 + 5), .int 0, .null])) := ⟨_, rfl⟩
  have g27 : RC E xa ma b a w σ27 := h.ext (by rw [hs27]; exact x14.up (Nat.le_refl _) _)
  have w28 : ∀ v : Int32, wF σ27 σ.2 8 4 (.int v) = some (hmU σ14 σ.2 (.inr (8, [.int (nI (a.1 0 0)), .int (nI kk), va_rf (mp w.1 5 ow), .int (lt oc), .int v, .int 0, .null, .ref (σ.2 + 1), .ref (σ.2 + 5), .int 0, .null]))) := fun v => by rw [hs27, wU _ _ _ _ _ _ (by simp)]; rfl
  have g28 : ∀ v : Int32, RC E xa ma b a w (hmU σ14 σ.2 (.inr (8, [.int (nI (a.1 0 0)), .int (nI kk), va_rf (mp w.1 5 ow), .int (lt oc), .int v, .int 0, .null, .ref (σ.2 + 1), .ref (σ.2 + 5), .int 0, .null]))) := fun v => h.ext (x14.up (Nat.le_refl _) _)
  have ebeg : fX6_init E σ.2 (nI (a.1 0 0)) (nI kk) (mp w.1 5 ow) (lt oc) (nI tw) σ0 = ocU (mp w.1 5 ow) (fX6_init_J72 E σ.2 (nI (a.1 0 0)) (nI kk) (mp w.1 5 ow) (lt oc) (nI tw) σ27) (fun _ => cb (fX7_standsInMethod (nI kk) σ27) fun r32 σ31 => if r32 = 0 then fX6_init_J72 E σ.2 (nI (a.1 0 0)) (nI kk) (mp w.1 5 ow) (lt oc) (nI tw) σ31 else fX6_init_J73 E σ.2 (nI (a.1 0 0)) (nI kk) (mp w.1 5 ow) (lt oc) (nI tw) (1 : Int32) σ31) := by
    have u1 : ∀ v, wF (hmU σ14 σ.2 (.inr (8, [.int 0, .int 0, .null, .int 0, .int 0, .int 0, .null, .ref (σ.2 + 1), .ref (σ.2 + 5), .int 0, .null]))) σ.2 8 9 v = some (hmU σ14 σ.2 (.inr (8, [.int 0, .int 0, .null, .int 0, .int 0, .int 0, .null, .ref (σ.2 + 1), .ref (σ.2 + 5), v, .null]))) := fun v => by rw [wU _ _ _ _ _ _ (by simp)]; rfl
    have u2 : ∀ v, wF (hmU σ14 σ.2 (.inr (8, [.int 0, .int 0, .null, .int 0, .int 0, .int 0, .null, .ref (σ.2 + 1), .ref (σ.2 + 5), .int 0, .null]))) σ.2 8 10 v = some (hmU σ14 σ.2 (.inr (8, [.int 0, .int 0, .null, .int 0, .int 0, .int 0, .null, .ref (σ.2 + 1), .ref (σ.2 + 5), .int 0, v]))) := fun v => by rw [wU _ _ _ _ _ _ (by simp)]; rfl
    have u3 : ∀ v, wF (hmU σ14 σ.2 (.inr (8, [.int 0, .int 0, .null, .int 0, .int 0, .int 0, .null, .ref (σ.2 + 1), .ref (σ.2 + 5), .int 0, .null]))) σ.2 8 0 v = some (hmU σ14 σ.2 (.inr (8, [v, .int 0, .null, .int 0, .int 0, .int 0, .null, .ref (σ.2 + 1), .ref (σ.2 + 5), .int 0, .null]))) := fun v => by rw [wU _ _ _ _ _ _ (by simp)]; rfl
    have u4 : ∀ v1 v, wF (hmU σ14 σ.2 (.inr (8, [v1, .int 0, .null, .int 0, .int 0, .int 0, .null, .ref (σ.2 + 1), .ref (σ.2 + 5), .int 0, .null]))) σ.2 8 1 v = some (hmU σ14 σ.2 (.inr (8, [v1, v, .null, .int 0, .int 0, .int 0, .null, .ref (σ.2 + 1), .ref (σ.2 + 5), .int 0, .null]))) := fun v1 v => by rw [wU _ _ _ _ _ _ (by simp)]; rfl
    have u5 : ∀ v1 v2 v, wF (hmU σ14 σ.2 (.inr (8, [v1, v2, .null, .int 0, .int 0, .int 0, .null, .ref (σ.2 + 1), .ref (σ.2 + 5), .int 0, .null]))) σ.2 8 2 v = some (hmU σ14 σ.2 (.inr (8, [v1, v2, v, .int 0, .int 0, .int 0, .null, .ref (σ.2 + 1), .ref (σ.2 + 5), .int 0, .null]))) := fun v1 v2 v => by rw [wU _ _ _ _ _ _ (by simp)]; rfl
    have u6 : ∀ v1 v2 v3 v, wF (hmU σ14 σ.2 (.inr (8, [v1, v2, v3, .int 0, .int 0, .int 0, .null, .ref (σ.2 + 1), .ref (σ.2 + 5), .int 0, .null]))) σ.2 8 3 v = some (hmU σ14 σ.2 (.inr (8, [v1, v2, v3, v, .int 0, .int 0, .null, .ref (σ.2 + 1), .ref (σ.2 + 5), .int 0, .null]))) := fun v1 v2 v3 v => by rw [wU _ _ _ _ _ _ (by simp)]; rfl
    have w15' : wF σ14 σ.2 8 8 (.ref (σ.2 + 5)) = some (hmU σ14 σ.2 (.inr (8, [.int 0, .int 0, .null, .int 0, .int 0, .int 0, .null, .ref (σ.2 + 1), .ref (σ.2 + 5), .int 0, .null]))) := w15
    unfold fX6_init
    simp only [nw]
    rw [l0, ← hs2, e6, cb_some, w7', ob_some, l7, ← hs10, e14, cb_some, w15', ob_some, u1, ob_some, show va_rf none = Value.null from rfl, u2, ob_some, u3, ob_some, u4, ob_some, u5, ob_some, u6, ob_some, ← hs27]
    rfl
  have e2 : (nI kk = (2 : Int32)) = (kk = 2) := n_eq (y := 2) (by omega) (by decide)
  have e4 : (nI kk = (4 : Int32)) = (kk = 4) := n_eq (y := 4) (by omega) (by decide)
  have e01 : ¬ (1 : Int32) = 0 := by decide
  rw [ebeg]
  cases ow with
  | none =>
    have k0 : kk = 0 := hk0.mpr rfl
    obtain ⟨σ', s, q1, q2, q3⟩ := fin false
    refine ⟨σ', s, ?_, q2, q3 (by rw [k0]; rfl)⟩
    have hA : ahd a kk none = 0 := by rw [k0]; rfl
    rw [hA] at q1
    simp only [ocU, mp_n, oc_none, fX6_init_J72, fX6_init_J73, if_true, fX6_init_J92, w28, ob_some, e2, show ¬ kk = 2 by omega, if_false, fX6_init_J122]
    exact q1
  | some v =>
    have hv := how v rfl
    have hk1 : kk ≠ 0 := fun q => by have := hk0.mp q; cases this
    have hnl := hw.nl hv
    simp only [ocU, mp_s, oc_some, RC.standsIn hk, cb_some, b2_0]
    by_cases k3 : 3 ≤ kk
    · have hA : ahd a kk (some v) = a.1 12 v := by unfold ahd; rw [if_pos k3]
      simp only [k3, decide_true, Bool.true_eq_false, if_false, fX6_init_J73, e01, ob_some, g27.t8 hv, g27.l3 hv, fX6_init_J92, w28, e2, show ¬ kk = 2 by omega, e4, (g28 _).t9 hv]
      rw [← hA]
      by_cases k4 : kk = 4
      · obtain ⟨σ', s, q1, q2, q3⟩ := fin false
        refine ⟨σ', s, ?_, q2, q3 (by rw [k4]; rfl)⟩
        rw [if_pos k4]
        exact q1
      · have k35 : (kk == 3 || kk == 5) = true := by
          rcases (show kk = 3 ∨ kk = 5 by omega) with rfl | rfl <;> rfl
        have hb11 := hw.b11 v
        have e0 : (nI (a.1 11 v) = (0 : Int32)) = (a.1 11 v = 0) := n_eq (y := 0) (by omega) (by decide)
        rw [if_neg k4]
        simp only [e0]
        by_cases z : a.1 11 v = 0
        · obtain ⟨σ', s, q1, q2, q3⟩ := fin true
          refine ⟨σ', s, ?_, q2, q3 (by simp [bdN, k35, z])⟩
          rw [if_pos z]
          exact q1
        · obtain ⟨σ', s, q1, q2, q3⟩ := fin false
          refine ⟨σ', s, ?_, q2, q3 (by simp [bdN, k35, z]; omega)⟩
          rw [if_neg z]
          exact q1
    · have hA : ahd a kk (some v) = 0 := by unfold ahd; rw [if_neg k3]
      simp only [k3, decide_false, if_true, fX6_init_J72, fX6_init_J73, fX6_init_J92, w28, ob_some, e2]
      by_cases k2 : kk = 2
      · obtain ⟨σ', s, q1, q2, q3⟩ := fin true
        refine ⟨σ', s, ?_, q2, q3 (by rw [k2]; rfl)⟩
        rw [hA] at q1
        rw [if_pos k2]
        exact q1
      · obtain ⟨σ', s, q1, q2, q3⟩ := fin false
        refine ⟨σ', s, ?_, q2, q3 (by rw [show kk = 1 by omega]; rfl)⟩
        rw [hA] at q1
        rw [if_neg k2]
        exact q1
end DQ
