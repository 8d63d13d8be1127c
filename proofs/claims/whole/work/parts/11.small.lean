def fX7_typeAt (x0 : Nat) (x1 : Int32) (σ : hmS) : Option (Option Nat × hmS) :=
  if x1 < 0 then
    some (none, σ)
  else
    ob (gI σ x0 9 1) fun f2 => if f2 ≤ x1 then
      some (none, σ)
    else
      ob (gR σ x0 9 0) fun f5 => ob f5 fun a7 => ob (aR σ a7 x1) fun e8 => some (e8, σ)
set_option maxHeartbeats 4000000 in
set_option maxRecDepth 100000 in
theorem mX7_typeAt (l : Launch) (E : hmG) {x0 : Nat} {x1 : Int32} {σ σ' : hmS} {r : Option Nat} (h : fX7_typeAt x0 x1 σ = some (r, σ')) : Met l yX7_typeAt [Cond.code yX7_typeAt cX7_typeAt 2 (some (.object "InnerCaptures$Type"))] { frames := 0, cells := 0, slots := 0, locals := 0 } (hmPc E [.ref x0, .int x1] σ) (hmQc E (some (va_rf r)) σ') 0 0 (fun q => hmL E ≤ q) := by
  refine Met.ofW (cc := cX7_typeAt) (maxL := 2) (ret := (some (.object "InnerCaptures$Type"))) (by decide) rfl ?_
  intro p e s m args below meth c s₁ B hml hv
  obtain ⟨rfl, hK, hI⟩ := hv
  have S : CallFix p m c cX7_typeAt 2 s ([.ref x0, .int x1] : List Value).toArray [] RX7 := ⟨B.exec, B.bytes, hml, findClass_of_methodNamed B.named, fun w hw => by cases hw⟩
  have hx := S.1
  have hb := S.2.1
  have hr := B.returns
  have hlocks := B.notSynchronized
  have hL : hmLo E [] := hmLo.nil
  have hl : lv_has ((lg_sl ([.ref x0, .int x1]) ++ List.replicate (2 - (lg_sl ([.ref x0, .int x1])).length) Slot.unset).toArray) 2 [(0, .ref x0), (1, .int x1)] := by exact lv_entry _ (Nat.le_of_ble_eq_true rfl)
  rw [lg_entry_eq]
  generalize (lg_sl ([.ref x0, .int x1]) ++ List.replicate (2 - (lg_sl ([.ref x0, .int x1])).length) Slot.unset).toArray = ls at hl ⊢
  generalize hRe : (headSpec [Cond.code yX7_typeAt cX7_typeAt 2 (some (.object "InnerCaptures$Type"))] { frames := 0, cells := 0, slots := 0, locals := 0 }).room = R
  have hR1 : R.frames = 0 ∧ R.cells = 0 ∧ R.slots = 0 ∧ R.locals = 0 := by rw [← hRe]; exact ⟨rfl, rfl, rfl, rfl⟩
  clear hRe B hml
  generalize s.heap = H at hI ⊢
  generalize ([] : List Loc) = locs at hL ⊢
  have hmain := h
  clear h
  have h := hmain
  clear hmain
  unfold fX7_typeAt at h
  refine lv_iload_n hx hb dX7_typeAt_0 rfl (lv_at hl 1 rfl) ?_
  refine lv_if_lt (tgt := 21) hx hb dX7_typeAt_1 (by decide) (fun c1 => ?_) (fun c1 => ?_)
  · replace h := it_p c1 h
    refine hm_null hx hb dX7_typeAt_21 ?_
    exact hm_aret hx hb hr (Or.inl ⟨_, rfl⟩) hI hL h (by omega) (by omega) hlocks dX7_typeAt_22
  · replace h := it_n c1 h
    refine lv_iload_n hx hb dX7_typeAt_4 rfl (lv_at hl 1 rfl) ?_
    refine lv_aload_n hx hb dX7_typeAt_5 rfl (lv_at hl 0 rfl) ?_
    replace h := ob_s h
    obtain ⟨f2, h3, h⟩ := h
    refine hm_get S hK hI (pf_X7_15_9 hK) (gI_s h3) dX7_typeAt_6 ?_
    refine lv_icmp_ge (tgt := 21) hx hb dX7_typeAt_9 (by decide) (fun c4 => ?_) (fun c4 => ?_)
    · replace h := it_p c4 h
      refine hm_null hx hb dX7_typeAt_21 ?_
      exact hm_aret hx hb hr (Or.inl ⟨_, rfl⟩) hI hL h (by omega) (by omega) hlocks dX7_typeAt_22
    · replace h := it_n c4 h
      refine lv_aload_n hx hb dX7_typeAt_12 rfl (lv_at hl 0 rfl) ?_
      replace h := ob_s h
      obtain ⟨f5, h6, h⟩ := h
      refine hm_get S hK hI (pf_X7_11_9 hK) (gR_s h6) dX7_typeAt_13 ?_
      refine lv_iload_n hx hb dX7_typeAt_16 rfl (lv_at hl 1 rfl) ?_
      replace h := ob_s h
      obtain ⟨a7, rfl, h⟩ := h
      have hl : lv_has ls 2 [(0, .ref x0), (1, .int x1)] := hl
      replace h := ob_s h
      obtain ⟨e8, h9, h⟩ := h
      refine hm_aald S hK hI h9 dX7_typeAt_17 ?_
      refine lv_goto (tgt := 22) hx hb dX7_typeAt_18 (by decide) ?_
      exact hm_aret hx hb hr (Or.inl ⟨_, rfl⟩) hI hL h (by omega) (by omega) hlocks dX7_typeAt_22

def fX7_isPlace (x0 : Int32) (σ : hmS) : Option (Int32 × hmS) :=
  if x0 < 0 then
    some ((0 : Int32), σ)
  else
    if (8 : Int32) ≤ x0 then
      some ((0 : Int32), σ)
    else
      some ((1 : Int32), σ)
set_option maxHeartbeats 4000000 in
set_option maxRecDepth 100000 in
theorem mX7_isPlace (l : Launch) (E : hmG) {x0 : Int32} {σ σ' : hmS} {r : Int32} (h : fX7_isPlace x0 σ = some (r, σ')) : Met l yX7_isPlace [Cond.code yX7_isPlace cX7_isPlace 1 (some .boolean)] { frames := 0, cells := 0, slots := 0, locals := 0 } (hmPc E [.int x0] σ) (hmQc E (some (.int r)) σ') 0 0 (fun q => hmL E ≤ q) := by
  refine Met.ofW (cc := cX7_isPlace) (maxL := 1) (ret := (some .boolean)) (by decide) rfl ?_
  intro p e s m args below meth c s₁ B hml hv
  obtain ⟨rfl, hK, hI⟩ := hv
  have S : CallFix p m c cX7_isPlace 1 s ([.int x0] : List Value).toArray [] RX7 := ⟨B.exec, B.bytes, hml, findClass_of_methodNamed B.named, fun w hw => by cases hw⟩
  have hx := S.1
  have hb := S.2.1
  have hr := B.returns
  have hlocks := B.notSynchronized
  have hL : hmLo E [] := hmLo.nil
  have hl : lv_has ((lg_sl ([.int x0]) ++ List.replicate (1 - (lg_sl ([.int x0])).length) Slot.unset).toArray) 1 [(0, .int x0)] := by exact lv_entry _ (Nat.le_of_ble_eq_true rfl)
  rw [lg_entry_eq]
  generalize (lg_sl ([.int x0]) ++ List.replicate (1 - (lg_sl ([.int x0])).length) Slot.unset).toArray = ls at hl ⊢
  generalize hRe : (headSpec [Cond.code yX7_isPlace cX7_isPlace 1 (some .boolean)] { frames := 0, cells := 0, slots := 0, locals := 0 }).room = R
  have hR1 : R.frames = 0 ∧ R.cells = 0 ∧ R.slots = 0 ∧ R.locals = 0 := by rw [← hRe]; exact ⟨rfl, rfl, rfl, rfl⟩
  clear hRe B hml
  generalize s.heap = H at hI ⊢
  generalize ([] : List Loc) = locs at hL ⊢
  have hmain := h
  clear h
  have h := hmain
  clear hmain
  unfold fX7_isPlace at h
  refine lv_iload_n hx hb dX7_isPlace_0 rfl (lv_at hl 0 rfl) ?_
  refine lv_if_lt (tgt := 14) hx hb dX7_isPlace_1 (by decide) (fun c1 => ?_) (fun c1 => ?_)
  · replace h := it_p c1 h
    refine lv_iconst (v := 0) hx hb dX7_isPlace_14 (by decide) ?_
    exact hm_zret hx hb hr rfl hI hL h (by omega) (by omega) hlocks dX7_isPlace_15
  · replace h := it_n c1 h
    refine lv_iload_n hx hb dX7_isPlace_4 rfl (lv_at hl 0 rfl) ?_
    refine lv_bipush (v := 8) hx hb dX7_isPlace_5 (by decide) ?_
    refine lv_icmp_ge (tgt := 14) hx hb dX7_isPlace_7 (by decide) (fun c2 => ?_) (fun c2 => ?_)
    · replace h := it_p c2 h
      refine lv_iconst (v := 0) hx hb dX7_isPlace_14 (by decide) ?_
      exact hm_zret hx hb hr rfl hI hL h (by omega) (by omega) hlocks dX7_isPlace_15
    · replace h := it_n c2 h
      refine lv_iconst (v := 1) hx hb dX7_isPlace_10 (by decide) ?_
      refine lv_goto (tgt := 15) hx hb dX7_isPlace_11 (by decide) ?_
      exact hm_zret hx hb hr rfl hI hL h (by omega) (by omega) hlocks dX7_isPlace_15

def fX7_isName (x0 : Int32) (σ : hmS) : Option (Int32 × hmS) :=
  if x0 < 0 then
    some ((0 : Int32), σ)
  else
    if (8 : Int32) ≤ x0 then
      some ((0 : Int32), σ)
    else
      some ((1 : Int32), σ)
set_option maxHeartbeats 4000000 in
set_option maxRecDepth 100000 in
theorem mX7_isName (l : Launch) (E : hmG) {x0 : Int32} {σ σ' : hmS} {r : Int32} (h : fX7_isName x0 σ = some (r, σ')) : Met l yX7_isName [Cond.code yX7_isName cX7_isName 1 (some .boolean)] { frames := 0, cells := 0, slots := 0, locals := 0 } (hmPc E [.int x0] σ) (hmQc E (some (.int r)) σ') 0 0 (fun q => hmL E ≤ q) := by
  refine Met.ofW (cc := cX7_isName) (maxL := 1) (ret := (some .boolean)) (by decide) rfl ?_
  intro p e s m args below meth c s₁ B hml hv
  obtain ⟨rfl, hK, hI⟩ := hv
  have S : CallFix p m c cX7_isName 1 s ([.int x0] : List Value).toArray [] RX7 := ⟨B.exec, B.bytes, hml, findClass_of_methodNamed B.named, fun w hw => by cases hw⟩
  have hx := S.1
  have hb := S.2.1
  have hr := B.returns
  have hlocks := B.notSynchronized
  have hL : hmLo E [] := hmLo.nil
  have hl : lv_has ((lg_sl ([.int x0]) ++ List.replicate (1 - (lg_sl ([.int x0])).length) Slot.unset).toArray) 1 [(0, .int x0)] := by exact lv_entry _ (Nat.le_of_ble_eq_true rfl)
  rw [lg_entry_eq]
  generalize (lg_sl ([.int x0]) ++ List.replicate (1 - (lg_sl ([.int x0])).length) Slot.unset).toArray = ls at hl ⊢
  generalize hRe : (headSpec [Cond.code yX7_isName cX7_isName 1 (some .boolean)] { frames := 0, cells := 0, slots := 0, locals := 0 }).room = R
  have hR1 : R.frames = 0 ∧ R.cells = 0 ∧ R.slots = 0 ∧ R.locals = 0 := by rw [← hRe]; exact ⟨rfl, rfl, rfl, rfl⟩
  clear hRe B hml
  generalize s.heap = H at hI ⊢
  generalize ([] : List Loc) = locs at hL ⊢
  have hmain := h
  clear h
  have h := hmain
  clear hmain
  unfold fX7_isName at h
  refine lv_iload_n hx hb dX7_isName_0 rfl (lv_at hl 0 rfl) ?_
  refine lv_if_lt (tgt := 14) hx hb dX7_isName_1 (by decide) (fun c1 => ?_) (fun c1 => ?_)
  · replace h := it_p c1 h
    refine lv_iconst (v := 0) hx hb dX7_isName_14 (by decide) ?_
    exact hm_zret hx hb hr rfl hI hL h (by omega) (by omega) hlocks dX7_isName_15
  · replace h := it_n c1 h
    refine lv_iload_n hx hb dX7_isName_4 rfl (lv_at hl 0 rfl) ?_
    refine lv_bipush (v := 8) hx hb dX7_isName_5 (by decide) ?_
    refine lv_icmp_ge (tgt := 14) hx hb dX7_isName_7 (by decide) (fun c2 => ?_) (fun c2 => ?_)
    · replace h := it_p c2 h
      refine lv_iconst (v := 0) hx hb dX7_isName_14 (by decide) ?_
      exact hm_zret hx hb hr rfl hI hL h (by omega) (by omega) hlocks dX7_isName_15
    · replace h := it_n c2 h
      refine lv_iconst (v := 1) hx hb dX7_isName_10 (by decide) ?_
      refine lv_goto (tgt := 15) hx hb dX7_isName_11 (by decide) ?_
      exact hm_zret hx hb hr rfl hI hL h (by omega) (by omega) hlocks dX7_isName_15

def fX1_indexOf_B2 (x0 : Nat) (x1 : Int32)  (K2 : Int32 → hmS → Option (Int32 × hmS)) (v2 : Int32) (σ : hmS) : Option (Int32 × hmS) :=
  ob (gI σ x0 3 3) fun f1 => if f1 ≤ v2 then
    some ((-1 : Int32), σ)
  else
    ob (gR σ x0 3 0) fun f4 => ob f4 fun a6 => ob (aI σ 0 a6 v2) fun e7 => if e7 = x1 then
      some (v2, σ)
    else
      K2 (v2 + (1 : Int32)) σ
def fX1_indexOf_L2 (x0 : Nat) (x1 : Int32)  : Nat → Int32 → hmS → Option (Int32 × hmS)
  | 0 => fun _ _ => none
  | n + 1 => fX1_indexOf_B2 x0 x1  (fX1_indexOf_L2 x0 x1  n)
def fX1_indexOf (x0 : Nat) (x1 : Int32) (σ : hmS) : Option (Int32 × hmS) :=
  fX1_indexOf_L2 x0 x1 20 (0 : Int32) σ
set_option maxHeartbeats 4000000 in
set_option maxRecDepth 100000 in
theorem mX1_indexOf (l : Launch) (E : hmG) {x0 : Nat} {x1 : Int32} {σ σ' : hmS} {r : Int32} (h : fX1_indexOf x0 x1 σ = some (r, σ')) : Met l yX1_indexOf [Cond.code yX1_indexOf cX1_indexOf 3 (some .int)] { frames := 0, cells := 0, slots := 0, locals := 0 } (hmPc E [.ref x0, .int x1] σ) (hmQc E (some (.int r)) σ') 0 0 (fun q => hmL E ≤ q) := by
  refine Met.ofW (cc := cX1_indexOf) (maxL := 3) (ret := (some .int)) (by decide) rfl ?_
  intro p e s m args below meth c s₁ B hml hv
  obtain ⟨rfl, hK, hI⟩ := hv
  have S : CallFix p m c cX1_indexOf 3 s ([.ref x0, .int x1] : List Value).toArray [] RX1 := ⟨B.exec, B.bytes, hml, findClass_of_methodNamed B.named, fun w hw => by cases hw⟩
  have hx := S.1
  have hb := S.2.1
  have hr := B.returns
  have hlocks := B.notSynchronized
  have hL : hmLo E [] := hmLo.nil
  have hl : lv_has ((lg_sl ([.ref x0, .int x1]) ++ List.replicate (3 - (lg_sl ([.ref x0, .int x1])).length) Slot.unset).toArray) 3 [(0, .ref x0), (1, .int x1)] := by exact lv_entry _ (Nat.le_of_ble_eq_true rfl)
  rw [lg_entry_eq]
  generalize (lg_sl ([.ref x0, .int x1]) ++ List.replicate (3 - (lg_sl ([.ref x0, .int x1])).length) Slot.unset).toArray = ls at hl ⊢
  generalize hRe : (headSpec [Cond.code yX1_indexOf cX1_indexOf 3 (some .int)] { frames := 0, cells := 0, slots := 0, locals := 0 }).room = R
  have hR1 : R.frames = 0 ∧ R.cells = 0 ∧ R.slots = 0 ∧ R.locals = 0 := by rw [← hRe]; exact ⟨rfl, rfl, rfl, rfl⟩
  clear hRe B hml
  generalize s.heap = H at hI ⊢
  generalize ([] : List Loc) = locs at hL ⊢
  have hmain := h
  clear h
  have hB2 : ∀ (K2 : Int32 → hmS → Option (Int32 × hmS)), (∀ (v2 : Int32) (σ : hmS) (H : Heap) (locs : List Loc) (ls : Array Slot), K2 v2 σ = some (r, σ') → hmI E σ H → hmLo E locs → lv_has ls 3 [(0, .ref x0), (1, .int x1), (2, .int v2)] → W p l e R s m ([.ref x0, .int x1] : List Value).toArray below meth c H locs 0 0 (MQ below (hmQc E (some (.int r)) σ') ([.ref x0, .int x1] : List Value).toArray s 0 0 (fun q => hmL E ≤ q)) (F0 m 2 ls [])) → ∀ (v2 : Int32) (σ : hmS) (H : Heap) (locs : List Loc) (ls : Array Slot), fX1_indexOf_B2 x0 x1  K2 v2 σ = some (r, σ') → hmI E σ H → hmLo E locs → lv_has ls 3 [(0, .ref x0), (1, .int x1), (2, .int v2)] → W p l e R s m ([.ref x0, .int x1] : List Value).toArray below meth c H locs 0 0 (MQ below (hmQc E (some (.int r)) σ') ([.ref x0, .int x1] : List Value).toArray s 0 0 (fun q => hmL E ≤ q)) (F0 m 2 ls []) := by
    intro K2 hk2
    intro v2 σ H locs ls h hI hL hl
    unfold fX1_indexOf_B2 at h
    refine lv_iload_n hx hb dX1_indexOf_2 rfl (lv_at hl 2 rfl) ?_
    refine lv_aload_n hx hb dX1_indexOf_3 rfl (lv_at hl 0 rfl) ?_
    replace h := ob_s h
    obtain ⟨f1, h2, h⟩ := h
    refine hm_get S hK hI (pf_X1_23_3 hK) (gI_s h2) dX1_indexOf_4 ?_
    refine lv_icmp_ge (tgt := 28) hx hb dX1_indexOf_7 (by decide) (fun c3 => ?_) (fun c3 => ?_)
    · replace h := it_p c3 h
      refine lv_iconst (v := -1) hx hb dX1_indexOf_28 (by decide) ?_
      exact hm_iret hx hb hr hI hL h (by omega) (by omega) hlocks dX1_indexOf_29
    · replace h := it_n c3 h
      refine lv_aload_n hx hb dX1_indexOf_10 rfl (lv_at hl 0 rfl) ?_
      replace h := ob_s h
      obtain ⟨f4, h5, h⟩ := h
      refine hm_get S hK hI (pf_X1_9_3 hK) (gR_s h5) dX1_indexOf_11 ?_
      refine lv_iload_n hx hb dX1_indexOf_14 rfl (lv_at hl 2 rfl) ?_
      replace h := ob_s h
      obtain ⟨a6, rfl, h⟩ := h
      have hl : lv_has ls 3 [(0, .ref x0), (1, .int x1), (2, .int v2)] := hl
      replace h := ob_s h
      obtain ⟨e7, h8, h⟩ := h
      refine hm_iald S hK hI h8 dX1_indexOf_15 ?_
      refine lv_iload_n hx hb dX1_indexOf_16 rfl (lv_at hl 1 rfl) ?_
      refine lv_icmp_ne (tgt := 22) hx hb dX1_indexOf_17 (by decide) (fun c9 => ?_) (fun c9 => ?_)
      · replace h := it_n c9 h
        refine lv_iinc (v := (v2 + (1 : Int32))) (lv' := [(2, .int (v2 + (1 : Int32))), (0, .ref x0), (1, .int x1)]) hx hb dX1_indexOf_22 hl (k := 2) rfl rfl (by decide) rfl (fun ls hl => ?_)
        refine lv_goto (tgt := 2) hx hb dX1_indexOf_25 (by decide) ?_
        exact hk2 _ _ _ _ _ h hI hL (lv_sub hl [1, 2, 0] rfl)
      · replace h := it_p c9 h
        refine lv_iload_n hx hb dX1_indexOf_20 rfl (lv_at hl 2 rfl) ?_
        exact hm_iret hx hb hr hI hL h (by omega) (by omega) hlocks dX1_indexOf_21
  have hL2 : ∀ n : Nat, ∀ (v2 : Int32) (σ : hmS) (H : Heap) (locs : List Loc) (ls : Array Slot), fX1_indexOf_L2 x0 x1  n v2 σ = some (r, σ') → hmI E σ H → hmLo E locs → lv_has ls 3 [(0, .ref x0), (1, .int x1), (2, .int v2)] → W p l e R s m ([.ref x0, .int x1] : List Value).toArray below meth c H locs 0 0 (MQ below (hmQc E (some (.int r)) σ') ([.ref x0, .int x1] : List Value).toArray s 0 0 (fun q => hmL E ≤ q)) (F0 m 2 ls []) := by
    intro n
    induction n with
    | zero =>
      intro v2 σ H locs ls h
      have h : none = some (r, σ') := h
      cases h
    | succ n ih => exact hB2 _ ih
  have h := hmain
  clear hmain
  unfold fX1_indexOf at h
  refine lv_iconst (v := 0) hx hb dX1_indexOf_0 (by decide) ?_
  refine lv_istore_n (lv' := [(2, .int (0 : Int32)), (0, .ref x0), (1, .int x1)]) hx hb dX1_indexOf_1 rfl hl (by decide) rfl (fun ls hl => ?_)
  exact hL2 20 _ _ _ _ _ h hI hL (lv_sub hl [1, 2, 0] rfl)

def fX5_levelOf_J40 (x0 : Nat) (x1 : Option Nat) (K2 : Int32 → hmS → Option (Option Nat × hmS)) (v2 : Int32) (σ : hmS) : Option (Option Nat × hmS) :=
  K2 (v2 + (1 : Int32)) σ
def fX5_levelOf_B2 (x0 : Nat) (x1 : Option Nat)  (K2 : Int32 → hmS → Option (Option Nat × hmS)) (v2 : Int32) (σ : hmS) : Option (Option Nat × hmS) :=
  ob (gR σ x0 7 1) fun f1 => ob f1 fun a3 => ob (aN σ a3) fun n4 => if n4 ≤ v2 then
    some (none, σ)
  else
    ob (gR σ x0 7 1) fun f7 => ob f7 fun a9 => ob (aR σ a9 v2) fun e10 => oc e10
      (fX5_levelOf_J40 x0 x1 K2 v2 σ)
      (fun a12 => ob (gR σ x0 7 1) fun f13 => ob f13 fun a15 => ob (aR σ a15 v2) fun e16 => ob e16 fun a18 => ob (gR σ a18 5 0) fun f19 => if f19 = x1 then
        ob (gR σ x0 7 1) fun f22 => ob f22 fun a24 => ob (aR σ a24 v2) fun e25 => some (e25, σ)
      else
        fX5_levelOf_J40 x0 x1 K2 v2 σ)
def fX5_levelOf_L2 (x0 : Nat) (x1 : Option Nat)  : Nat → Int32 → hmS → Option (Option Nat × hmS)
  | 0 => fun _ _ => none
  | n + 1 => fX5_levelOf_B2 x0 x1  (fX5_levelOf_L2 x0 x1  n)
def fX5_levelOf (x0 : Nat) (x1 : Option Nat) (σ : hmS) : Option (Option Nat × hmS) :=
  fX5_levelOf_L2 x0 x1 20 (0 : Int32) σ
set_option maxHeartbeats 4000000 in
set_option maxRecDepth 100000 in
theorem mX5_levelOf (l : Launch) (E : hmG) {x0 : Nat} {x1 : Option Nat} {σ σ' : hmS} {r : Option Nat} (h : fX5_levelOf x0 x1 σ = some (r, σ')) : Met l yX5_levelOf [Cond.code yX5_levelOf cX5_levelOf 3 (some (.object "InnerCaptures$Level"))] { frames := 0, cells := 0, slots := 0, locals := 0 } (hmPc E [.ref x0, va_rf x1] σ) (hmQc E (some (va_rf r)) σ') 0 0 (fun q => hmL E ≤ q) := by
  refine Met.ofW (cc := cX5_levelOf) (maxL := 3) (ret := (some (.object "InnerCaptures$Level"))) (by decide) rfl ?_
  intro p e s m args below meth c s₁ B hml hv
  obtain ⟨rfl, hK, hI⟩ := hv
  have S : CallFix p m c cX5_levelOf 3 s ([.ref x0, va_rf x1] : List Value).toArray [] RX5 := ⟨B.exec, B.bytes, hml, findClass_of_methodNamed B.named, fun w hw => by cases hw⟩
  have hx := S.1
  have hb := S.2.1
  have hr := B.returns
  have hlocks := B.notSynchronized
  have hL : hmLo E [] := hmLo.nil
  have hl : lv_has ((lg_sl ([.ref x0, va_rf x1]) ++ List.replicate (3 - (lg_sl ([.ref x0, va_rf x1])).length) Slot.unset).toArray) 3 [(0, .ref x0), (1, va_rf x1)] := by cases x1 <;> exact lv_entry _ (Nat.le_of_ble_eq_true rfl)
  rw [lg_entry_eq]
  generalize (lg_sl ([.ref x0, va_rf x1]) ++ List.replicate (3 - (lg_sl ([.ref x0, va_rf x1])).length) Slot.unset).toArray = ls at hl ⊢
  generalize hRe : (headSpec [Cond.code yX5_levelOf cX5_levelOf 3 (some (.object "InnerCaptures$Level"))] { frames := 0, cells := 0, slots := 0, locals := 0 }).room = R
  have hR1 : R.frames = 0 ∧ R.cells = 0 ∧ R.slots = 0 ∧ R.locals = 0 := by rw [← hRe]; exact ⟨rfl, rfl, rfl, rfl⟩
  clear hRe B hml
  generalize s.heap = H at hI ⊢
  generalize ([] : List Loc) = locs at hL ⊢
  have hmain := h
  clear h
  have hB2 : ∀ (K2 : Int32 → hmS → Option (Option Nat × hmS)), (∀ (v2 : Int32) (σ : hmS) (H : Heap) (locs : List Loc) (ls : Array Slot), K2 v2 σ = some (r, σ') → hmI E σ H → hmLo E locs → lv_has ls 3 [(0, .ref x0), (1, va_rf x1), (2, .int v2)] → W p l e R s m ([.ref x0, va_rf x1] : List Value).toArray below meth c H locs 0 0 (MQ below (hmQc E (some (va_rf r)) σ') ([.ref x0, va_rf x1] : List Value).toArray s 0 0 (fun q => hmL E ≤ q)) (F0 m 2 ls [])) → ∀ (v2 : Int32) (σ : hmS) (H : Heap) (locs : List Loc) (ls : Array Slot), fX5_levelOf_B2 x0 x1  K2 v2 σ = some (r, σ') → hmI E σ H → hmLo E locs → lv_has ls 3 [(0, .ref x0), (1, va_rf x1), (2, .int v2)] → W p l e R s m ([.ref x0, va_rf x1] : List Value).toArray below meth c H locs 0 0 (MQ below (hmQc E (some (va_rf r)) σ') ([.ref x0, va_rf x1] : List Value).toArray s 0 0 (fun q => hmL E ≤ q)) (F0 m 2 ls []) := by
    intro K2 hk2
    have hJ40 : ∀ (v2 : Int32) (σ : hmS) (H : Heap) (locs : List Loc) (ls : Array Slot), fX5_levelOf_J40 x0 x1 K2 v2 σ = some (r, σ') → hmI E σ H → hmLo E locs → lv_has ls 3 [(0, .ref x0), (1, va_rf x1), (2, .int v2)] → W p l e R s m ([.ref x0, va_rf x1] : List Value).toArray below meth c H locs 0 0 (MQ below (hmQc E (some (va_rf r)) σ') ([.ref x0, va_rf x1] : List Value).toArray s 0 0 (fun q => hmL E ≤ q)) (F0 m 40 ls []) := by
      intro v2 σ H locs ls h hI hL hl
      unfold fX5_levelOf_J40 at h
      refine lv_iinc (v := (v2 + (1 : Int32))) (lv' := [(2, .int (v2 + (1 : Int32))), (0, .ref x0), (1, va_rf x1)]) hx hb dX5_levelOf_40 hl (k := 2) rfl rfl (by decide) (by cases x1 <;> rfl) (fun ls hl => ?_)
      refine lv_goto (tgt := 2) hx hb dX5_levelOf_43 (by decide) ?_
      exact hk2 _ _ _ _ _ h hI hL (lv_sub hl [1, 2, 0] rfl)
    intro v2 σ H locs ls h hI hL hl
    unfold fX5_levelOf_B2 at h
    refine lv_iload_n hx hb dX5_levelOf_2 rfl (lv_at hl 2 rfl) ?_
    refine lv_aload_n hx hb dX5_levelOf_3 rfl (lv_at hl 0 rfl) ?_
    replace h := ob_s h
    obtain ⟨f1, h2, h⟩ := h
    refine hm_get S hK hI (pf_X5_13_7 hK) (gR_s h2) dX5_levelOf_4 ?_
    replace h := ob_s h
    obtain ⟨a3, rfl, h⟩ := h
    have hl : lv_has ls 3 [(0, .ref x0), (1, va_rf x1), (2, .int v2)] := hl
    replace h := ob_s h
    obtain ⟨n4, h5, h⟩ := h
    refine hm_aN S hK hI h5 dX5_levelOf_7 ?_
    refine lv_icmp_ge (tgt := 46) hx hb dX5_levelOf_8 (by decide) (fun c6 => ?_) (fun c6 => ?_)
    · replace h := it_p c6 h
      refine hm_null hx hb dX5_levelOf_46 ?_
      exact hm_aret hx hb hr (Or.inl ⟨_, rfl⟩) hI hL h (by omega) (by omega) hlocks dX5_levelOf_47
    · replace h := it_n c6 h
      refine lv_aload_n hx hb dX5_levelOf_11 rfl (lv_at hl 0 rfl) ?_
      replace h := ob_s h
      obtain ⟨f7, h8, h⟩ := h
      refine hm_get S hK hI (pf_X5_13_7 hK) (gR_s h8) dX5_levelOf_12 ?_
      refine lv_iload_n hx hb dX5_levelOf_15 rfl (lv_at hl 2 rfl) ?_
      replace h := ob_s h
      obtain ⟨a9, rfl, h⟩ := h
      have hl : lv_has ls 3 [(0, .ref x0), (1, va_rf x1), (2, .int v2)] := hl
      replace h := ob_s h
      obtain ⟨e10, h11, h⟩ := h
      refine hm_aald S hK hI h11 dX5_levelOf_16 ?_
      cases e10 with
      | none =>
        replace h := oc_n h
        have hl : lv_has ls 3 [(0, .ref x0), (1, va_rf x1), (2, .int v2)] := hl
        refine lv_ifnullN (tgt := 40) hx hb dX5_levelOf_17 (by decide) ?_
        exact hJ40 _ _ _ _ _ h hI hL (lv_sub hl [0, 1, 2] rfl)
      | some a12 =>
        replace h := oc_s h
        have hl : lv_has ls 3 [(0, .ref x0), (1, va_rf x1), (2, .int v2)] := hl
        refine lv_ifnull hx hb dX5_levelOf_17 ?_
        refine lv_aload_n hx hb dX5_levelOf_20 rfl (lv_at hl 0 rfl) ?_
        replace h := ob_s h
        obtain ⟨f13, h14, h⟩ := h
        refine hm_get S hK hI (pf_X5_13_7 hK) (gR_s h14) dX5_levelOf_21 ?_
        refine lv_iload_n hx hb dX5_levelOf_24 rfl (lv_at hl 2 rfl) ?_
        replace h := ob_s h
        obtain ⟨a15, rfl, h⟩ := h
        have hl : lv_has ls 3 [(0, .ref x0), (1, va_rf x1), (2, .int v2)] := hl
        replace h := ob_s h
        obtain ⟨e16, h17, h⟩ := h
        refine hm_aald S hK hI h17 dX5_levelOf_25 ?_
        replace h := ob_s h
        obtain ⟨a18, rfl, h⟩ := h
        have hl : lv_has ls 3 [(0, .ref x0), (1, va_rf x1), (2, .int v2)] := hl
        replace h := ob_s h
        obtain ⟨f19, h20, h⟩ := h
        refine hm_get S hK hI (pf_X5_17_5 hK) (gR_s h20) dX5_levelOf_26 ?_
        refine hm_aload_n hx hb dX5_levelOf_29 rfl (lv_at hl 1 rfl) ?_
        refine lv_acmp_ne (rx := f19) (ry := x1) (tgt := 40) hx hb dX5_levelOf_30 (by decide) (fun c21 => ?_) (fun c21 => ?_)
        · replace h := it_n c21 h
          exact hJ40 _ _ _ _ _ h hI hL (lv_sub hl [0, 1, 2] rfl)
        · replace h := it_p c21 h
          refine lv_aload_n hx hb dX5_levelOf_33 rfl (lv_at hl 0 rfl) ?_
          replace h := ob_s h
          obtain ⟨f22, h23, h⟩ := h
          refine hm_get S hK hI (pf_X5_13_7 hK) (gR_s h23) dX5_levelOf_34 ?_
          refine lv_iload_n hx hb dX5_levelOf_37 rfl (lv_at hl 2 rfl) ?_
          replace h := ob_s h
          obtain ⟨a24, rfl, h⟩ := h
          have hl : lv_has ls 3 [(0, .ref x0), (1, va_rf x1), (2, .int v2)] := hl
          replace h := ob_s h
          obtain ⟨e25, h26, h⟩ := h
          refine hm_aald S hK hI h26 dX5_levelOf_38 ?_
          exact hm_aret hx hb hr (Or.inl ⟨_, rfl⟩) hI hL h (by omega) (by omega) hlocks dX5_levelOf_39
  have hL2 : ∀ n : Nat, ∀ (v2 : Int32) (σ : hmS) (H : Heap) (locs : List Loc) (ls : Array Slot), fX5_levelOf_L2 x0 x1  n v2 σ = some (r, σ') → hmI E σ H → hmLo E locs → lv_has ls 3 [(0, .ref x0), (1, va_rf x1), (2, .int v2)] → W p l e R s m ([.ref x0, va_rf x1] : List Value).toArray below meth c H locs 0 0 (MQ below (hmQc E (some (va_rf r)) σ') ([.ref x0, va_rf x1] : List Value).toArray s 0 0 (fun q => hmL E ≤ q)) (F0 m 2 ls []) := by
    intro n
    induction n with
    | zero =>
      intro v2 σ H locs ls h
      have h : none = some (r, σ') := h
      cases h
    | succ n ih => exact hB2 _ ih
  have h := hmain
  clear hmain
  unfold fX5_levelOf at h
  refine lv_iconst (v := 0) hx hb dX5_levelOf_0 (by decide) ?_
  refine lv_istore_n (lv' := [(2, .int (0 : Int32)), (0, .ref x0), (1, va_rf x1)]) hx hb dX5_levelOf_1 rfl hl (by decide) (by cases x1 <;> rfl) (fun ls hl => ?_)
  exact hL2 20 _ _ _ _ _ h hI hL (lv_sub hl [1, 2, 0] rfl)

def fX4_has (x0 : Nat) (x1 : Int32) (σ : hmS) : Option (Int32 × hmS) :=
  if x1 < 0 then
    some ((0 : Int32), σ)
  else
    ob (gI σ x0 6 3) fun f2 => if f2 ≤ x1 then
      some ((0 : Int32), σ)
    else
      some ((1 : Int32), σ)
set_option maxHeartbeats 4000000 in
set_option maxRecDepth 100000 in
theorem mX4_has (l : Launch) (E : hmG) {x0 : Nat} {x1 : Int32} {σ σ' : hmS} {r : Int32} (h : fX4_has x0 x1 σ = some (r, σ')) : Met l yX4_has [Cond.code yX4_has cX4_has 2 (some .boolean)] { frames := 0, cells := 0, slots := 0, locals := 0 } (hmPc E [.ref x0, .int x1] σ) (hmQc E (some (.int r)) σ') 0 0 (fun q => hmL E ≤ q) := by
  refine Met.ofW (cc := cX4_has) (maxL := 2) (ret := (some .boolean)) (by decide) rfl ?_
  intro p e s m args below meth c s₁ B hml hv
  obtain ⟨rfl, hK, hI⟩ := hv
  have S : CallFix p m c cX4_has 2 s ([.ref x0, .int x1] : List Value).toArray [] RX4 := ⟨B.exec, B.bytes, hml, findClass_of_methodNamed B.named, fun w hw => by cases hw⟩
  have hx := S.1
  have hb := S.2.1
  have hr := B.returns
  have hlocks := B.notSynchronized
  have hL : hmLo E [] := hmLo.nil
  have hl : lv_has ((lg_sl ([.ref x0, .int x1]) ++ List.replicate (2 - (lg_sl ([.ref x0, .int x1])).length) Slot.unset).toArray) 2 [(0, .ref x0), (1, .int x1)] := by exact lv_entry _ (Nat.le_of_ble_eq_true rfl)
  rw [lg_entry_eq]
  generalize (lg_sl ([.ref x0, .int x1]) ++ List.replicate (2 - (lg_sl ([.ref x0, .int x1])).length) Slot.unset).toArray = ls at hl ⊢
  generalize hRe : (headSpec [Cond.code yX4_has cX4_has 2 (some .boolean)] { frames := 0, cells := 0, slots := 0, locals := 0 }).room = R
  have hR1 : R.frames = 0 ∧ R.cells = 0 ∧ R.slots = 0 ∧ R.locals = 0 := by rw [← hRe]; exact ⟨rfl, rfl, rfl, rfl⟩
  clear hRe B hml
  generalize s.heap = H at hI ⊢
  generalize ([] : List Loc) = locs at hL ⊢
  have hmain := h
  clear h
  have h := hmain
  clear hmain
  unfold fX4_has at h
  refine lv_iload_n hx hb dX4_has_0 rfl (lv_at hl 1 rfl) ?_
  refine lv_if_lt (tgt := 16) hx hb dX4_has_1 (by decide) (fun c1 => ?_) (fun c1 => ?_)
  · replace h := it_p c1 h
    refine lv_iconst (v := 0) hx hb dX4_has_16 (by decide) ?_
    exact hm_zret hx hb hr rfl hI hL h (by omega) (by omega) hlocks dX4_has_17
  · replace h := it_n c1 h
    refine lv_iload_n hx hb dX4_has_4 rfl (lv_at hl 1 rfl) ?_
    refine lv_aload_n hx hb dX4_has_5 rfl (lv_at hl 0 rfl) ?_
    replace h := ob_s h
    obtain ⟨f2, h3, h⟩ := h
    refine hm_get S hK hI (pf_X4_23_6 hK) (gI_s h3) dX4_has_6 ?_
    refine lv_icmp_ge (tgt := 16) hx hb dX4_has_9 (by decide) (fun c4 => ?_) (fun c4 => ?_)
    · replace h := it_p c4 h
      refine lv_iconst (v := 0) hx hb dX4_has_16 (by decide) ?_
      exact hm_zret hx hb hr rfl hI hL h (by omega) (by omega) hlocks dX4_has_17
    · replace h := it_n c4 h
      refine lv_iconst (v := 1) hx hb dX4_has_12 (by decide) ?_
      refine lv_goto (tgt := 17) hx hb dX4_has_13 (by decide) ?_
      exact hm_zret hx hb hr rfl hI hL h (by omega) (by omega) hlocks dX4_has_17

def fX4_set (x0 : Nat) (x1 : Int32) (x2 : Int64) (σ : hmS) : Option (Unit × hmS) :=
  ob (obC σ x0 6) fun _ => cb (fX4_has x0 x1 σ) fun r4 σ3 => if r4 = 0 then
    some ((), σ3)
  else
    ob (gR σ3 x0 6 1) fun f6 => ob f6 fun a8 => ob (sL σ3 a8 x1 x2) fun σ9 => ob (gR σ9 x0 6 2) fun f11 => ob f11 fun a13 => ob (sI σ9 2 a13 x1 (vp_nar .boolean (1 : Int32))) fun σ14 => some ((), σ14)
set_option maxHeartbeats 4000000 in
set_option maxRecDepth 100000 in
theorem mX4_set (l : Launch) (E : hmG) {x0 : Nat} {x1 : Int32} {x2 : Int64} {σ σ' : hmS} {r : Unit} (h : fX4_set x0 x1 x2 σ = some (r, σ')) : Met l yX4_set [Cond.code yX4_set cX4_set 4 none] { frames := 1, cells := 0, slots := 0, locals := 21 } (hmPc E [.ref x0, .int x1, .long x2] σ) (hmQc E none σ') 0 0 (fun q => hmL E ≤ q) := by
  refine Met.ofW (cc := cX4_set) (maxL := 4) (ret := none) (by decide) rfl ?_
  intro p e s m args below meth c s₁ B hml hv
  obtain ⟨rfl, hK, hI⟩ := hv
  have S : CallFix p m c cX4_set 4 s ([.ref x0, .int x1, .long x2] : List Value).toArray [] RX4 := ⟨B.exec, B.bytes, hml, findClass_of_methodNamed B.named, fun w hw => by cases hw⟩
  have hx := S.1
  have hb := S.2.1
  have hr := B.returns
  have hlocks := B.notSynchronized
  have hL : hmLo E [] := hmLo.nil
  have hl : lv_has ((lg_sl ([.ref x0, .int x1, .long x2]) ++ List.replicate (4 - (lg_sl ([.ref x0, .int x1, .long x2])).length) Slot.unset).toArray) 4 [(0, .ref x0), (1, .int x1), (2, .long x2)] := by exact lv_entry _ (Nat.le_of_ble_eq_true rfl)
  rw [lg_entry_eq]
  generalize (lg_sl ([.ref x0, .int x1, .long x2]) ++ List.replicate (4 - (lg_sl ([.ref x0, .int x1, .long x2])).length) Slot.unset).toArray = ls at hl ⊢
  generalize hRe : (headSpec [Cond.code yX4_set cX4_set 4 none] { frames := 1, cells := 0, slots := 0, locals := 21 }).room = R
  have hR1 : R.frames = 1 ∧ R.cells = 0 ∧ R.slots = 0 ∧ R.locals = 21 := by rw [← hRe]; exact ⟨rfl, rfl, rfl, rfl⟩
  clear hRe B hml
  generalize s.heap = H at hI ⊢
  generalize ([] : List Loc) = locs at hL ⊢
  have hmain := h
  clear h
  have h := hmain
  clear hmain
  unfold fX4_set at h
  refine lv_aload_n hx hb dX4_set_0 rfl (lv_at hl 0 rfl) ?_
  refine lv_iload_n hx hb dX4_set_1 rfl (lv_at hl 1 rfl) ?_
  replace h := ob_s h
  obtain ⟨_, h2, h⟩ := h
  replace h := cb_s h
  obtain ⟨r4, σ3, h1, h⟩ := h
  refine hm_call (hm_runV (As := [.int x1]) (rest := []) (ci := 6) S hK hI (obC_s h2) rfl (mX4_has l E h1) (pm_X4_27 hK) (pi_X4_has hK) (pl_X4_X4_has hK) ⟨by omega, by omega⟩ rfl hl.1 (Nat.le_of_ble_eq_true rfl) ⟨by omega, by omega⟩ dX4_set_2) hL (fun H locs hI hL => ?_)
  refine lv_if_eq (tgt := 22) hx hb dX4_set_5 (by decide) (fun c5 => ?_) (fun c5 => ?_)
  · replace h := it_p c5 h
    exact hm_vret hx hb hr hI hL h (by omega) (by omega) hlocks dX4_set_22
  · replace h := it_n c5 h
    refine lv_aload_n hx hb dX4_set_8 rfl (lv_at hl 0 rfl) ?_
    replace h := ob_s h
    obtain ⟨f6, h7, h⟩ := h
    refine hm_get S hK hI (pf_X4_15_6 hK) (gR_s h7) dX4_set_9 ?_
    refine lv_iload_n hx hb dX4_set_12 rfl (lv_at hl 1 rfl) ?_
    refine lv_lload_n hx hb dX4_set_13 rfl (lv_at hl 2 rfl) ?_
    replace h := ob_s h
    obtain ⟨a8, rfl, h⟩ := h
    have hl : lv_has ls 4 [(0, .ref x0), (1, .int x1), (2, .long x2)] := hl
    replace h := ob_s h
    obtain ⟨σ9, h10, h⟩ := h
    refine hm_last S hK hI hL h10 dX4_set_14 (fun H locs hI hL => ?_)
    refine lv_aload_n hx hb dX4_set_15 rfl (lv_at hl 0 rfl) ?_
    replace h := ob_s h
    obtain ⟨f11, h12, h⟩ := h
    refine hm_get S hK hI (pf_X4_19_6 hK) (gR_s h12) dX4_set_16 ?_
    refine lv_iload_n hx hb dX4_set_19 rfl (lv_at hl 1 rfl) ?_
    refine lv_iconst (v := 1) hx hb dX4_set_20 (by decide) ?_
    replace h := ob_s h
    obtain ⟨a13, rfl, h⟩ := h
    have hl : lv_has ls 4 [(0, .ref x0), (1, .int x1), (2, .long x2)] := hl
    replace h := ob_s h
    obtain ⟨σ14, h15, h⟩ := h
    refine hm_zast S hK hI hL h15 dX4_set_21 (fun H locs hI hL => ?_)
    exact hm_vret hx hb hr hI hL h (by omega) (by omega) hlocks dX4_set_22

def fX1_has (x0 : Nat) (x1 : Int32) (σ : hmS) : Option (Int32 × hmS) :=
  if x1 < 0 then
    some ((0 : Int32), σ)
  else
    ob (gI σ x0 3 3) fun f2 => if f2 ≤ x1 then
      some ((0 : Int32), σ)
    else
      some ((1 : Int32), σ)
set_option maxHeartbeats 4000000 in
set_option maxRecDepth 100000 in
theorem mX1_has (l : Launch) (E : hmG) {x0 : Nat} {x1 : Int32} {σ σ' : hmS} {r : Int32} (h : fX1_has x0 x1 σ = some (r, σ')) : Met l yX1_has [Cond.code yX1_has cX1_has 2 (some .boolean)] { frames := 0, cells := 0, slots := 0, locals := 0 } (hmPc E [.ref x0, .int x1] σ) (hmQc E (some (.int r)) σ') 0 0 (fun q => hmL E ≤ q) := by
  refine Met.ofW (cc := cX1_has) (maxL := 2) (ret := (some .boolean)) (by decide) rfl ?_
  intro p e s m args below meth c s₁ B hml hv
  obtain ⟨rfl, hK, hI⟩ := hv
  have S : CallFix p m c cX1_has 2 s ([.ref x0, .int x1] : List Value).toArray [] RX1 := ⟨B.exec, B.bytes, hml, findClass_of_methodNamed B.named, fun w hw => by cases hw⟩
  have hx := S.1
  have hb := S.2.1
  have hr := B.returns
  have hlocks := B.notSynchronized
  have hL : hmLo E [] := hmLo.nil
  have hl : lv_has ((lg_sl ([.ref x0, .int x1]) ++ List.replicate (2 - (lg_sl ([.ref x0, .int x1])).length) Slot.unset).toArray) 2 [(0, .ref x0), (1, .int x1)] := by exact lv_entry _ (Nat.le_of_ble_eq_true rfl)
  rw [lg_entry_eq]
  generalize (lg_sl ([.ref x0, .int x1]) ++ List.replicate (2 - (lg_sl ([.ref x0, .int x1])).length) Slot.unset).toArray = ls at hl ⊢
  generalize hRe : (headSpec [Cond.code yX1_has cX1_has 2 (some .boolean)] { frames := 0, cells := 0, slots := 0, locals := 0 }).room = R
  have hR1 : R.frames = 0 ∧ R.cells = 0 ∧ R.slots = 0 ∧ R.locals = 0 := by rw [← hRe]; exact ⟨rfl, rfl, rfl, rfl⟩
  clear hRe B hml
  generalize s.heap = H at hI ⊢
  generalize ([] : List Loc) = locs at hL ⊢
  have hmain := h
  clear h
  have h := hmain
  clear hmain
  unfold fX1_has at h
  refine lv_iload_n hx hb dX1_has_0 rfl (lv_at hl 1 rfl) ?_
  refine lv_if_lt (tgt := 16) hx hb dX1_has_1 (by decide) (fun c1 => ?_) (fun c1 => ?_)
  · replace h := it_p c1 h
    refine lv_iconst (v := 0) hx hb dX1_has_16 (by decide) ?_
    exact hm_zret hx hb hr rfl hI hL h (by omega) (by omega) hlocks dX1_has_17
  · replace h := it_n c1 h
    refine lv_iload_n hx hb dX1_has_4 rfl (lv_at hl 1 rfl) ?_
    refine lv_aload_n hx hb dX1_has_5 rfl (lv_at hl 0 rfl) ?_
    replace h := ob_s h
    obtain ⟨f2, h3, h⟩ := h
    refine hm_get S hK hI (pf_X1_23_3 hK) (gI_s h3) dX1_has_6 ?_
    refine lv_icmp_ge (tgt := 16) hx hb dX1_has_9 (by decide) (fun c4 => ?_) (fun c4 => ?_)
    · replace h := it_p c4 h
      refine lv_iconst (v := 0) hx hb dX1_has_16 (by decide) ?_
      exact hm_zret hx hb hr rfl hI hL h (by omega) (by omega) hlocks dX1_has_17
    · replace h := it_n c4 h
      refine lv_iconst (v := 1) hx hb dX1_has_12 (by decide) ?_
      refine lv_goto (tgt := 17) hx hb dX1_has_13 (by decide) ?_
      exact hm_zret hx hb hr rfl hI hL h (by omega) (by omega) hlocks dX1_has_17

def fX5_aroundAt (x0 : Nat) (x1 : Option Nat) (σ : hmS) : Option (Option Nat × hmS) :=
  ob (obC σ x0 7) fun _ => cb (fX5_levelOf x0 x1 σ) fun r4 σ3 => oc r4
    (some (none, σ3))
    (fun a5 => ob (gR σ3 a5 5 1) fun f6 => some (f6, σ3))
set_option maxHeartbeats 4000000 in
set_option maxRecDepth 100000 in
theorem mX5_aroundAt (l : Launch) (E : hmG) {x0 : Nat} {x1 : Option Nat} {σ σ' : hmS} {r : Option Nat} (h : fX5_aroundAt x0 x1 σ = some (r, σ')) : Met l yX5_aroundAt [Cond.code yX5_aroundAt cX5_aroundAt 3 (some (.object "InnerCaptures$Thing"))] { frames := 1, cells := 0, slots := 0, locals := 22 } (hmPc E [.ref x0, va_rf x1] σ) (hmQc E (some (va_rf r)) σ') 0 0 (fun q => hmL E ≤ q) := by
  refine Met.ofW (cc := cX5_aroundAt) (maxL := 3) (ret := (some (.object "InnerCaptures$Thing"))) (by decide) rfl ?_
  intro p e s m args below meth c s₁ B hml hv
  obtain ⟨rfl, hK, hI⟩ := hv
  have S : CallFix p m c cX5_aroundAt 3 s ([.ref x0, va_rf x1] : List Value).toArray [] RX5 := ⟨B.exec, B.bytes, hml, findClass_of_methodNamed B.named, fun w hw => by cases hw⟩
  have hx := S.1
  have hb := S.2.1
  have hr := B.returns
  have hlocks := B.notSynchronized
  have hL : hmLo E [] := hmLo.nil
  have hl : lv_has ((lg_sl ([.ref x0, va_rf x1]) ++ List.replicate (3 - (lg_sl ([.ref x0, va_rf x1])).length) Slot.unset).toArray) 3 [(0, .ref x0), (1, va_rf x1)] := by cases x1 <;> exact lv_entry _ (Nat.le_of_ble_eq_true rfl)
  rw [lg_entry_eq]
  generalize (lg_sl ([.ref x0, va_rf x1]) ++ List.replicate (3 - (lg_sl ([.ref x0, va_rf x1])).length) Slot.unset).toArray = ls at hl ⊢
  generalize hRe : (headSpec [Cond.code yX5_aroundAt cX5_aroundAt 3 (some (.object "InnerCaptures$Thing"))] { frames := 1, cells := 0, slots := 0, locals := 22 }).room = R
  have hR1 : R.frames = 1 ∧ R.cells = 0 ∧ R.slots = 0 ∧ R.locals = 22 := by rw [← hRe]; exact ⟨rfl, rfl, rfl, rfl⟩
  clear hRe B hml
  generalize s.heap = H at hI ⊢
  generalize ([] : List Loc) = locs at hL ⊢
  have hmain := h
  clear h
  have h := hmain
  clear hmain
  unfold fX5_aroundAt at h
  refine lv_aload_n hx hb dX5_aroundAt_0 rfl (lv_at hl 0 rfl) ?_
  refine hm_aload_n hx hb dX5_aroundAt_1 rfl (lv_at hl 1 rfl) ?_
  replace h := ob_s h
  obtain ⟨_, h2, h⟩ := h
  replace h := cb_s h
  obtain ⟨r4, σ3, h1, h⟩ := h
  refine hm_call (hm_runV (As := [va_rf x1]) (rest := []) (ci := 7) S hK hI (obC_s h2) rfl (mX5_levelOf l E h1) (pm_X5_22 hK) (pi_X5_levelOf hK) (pl_X5_X5_levelOf hK) ⟨by omega, by omega⟩ rfl hl.1 (Nat.le_of_ble_eq_true rfl) ⟨by omega, by omega⟩ dX5_aroundAt_2) hL (fun H locs hI hL => ?_)
  refine hm_astore_n (lv' := [(2, va_rf r4), (0, .ref x0), (1, va_rf x1)]) hx hb dX5_aroundAt_5 rfl hl (by decide) (by cases x1 <;> rfl) (fun ls hl => ?_)
  refine hm_aload_n hx hb dX5_aroundAt_6 rfl (lv_at hl 0 rfl) ?_
  cases r4 with
  | none =>
    replace h := oc_n h
    have hl : lv_has ls 3 [(2, va_rf none), (0, .ref x0), (1, va_rf x1)] := hl
    refine lv_ifnonnullN hx hb dX5_aroundAt_7 ?_
    refine hm_null hx hb dX5_aroundAt_10 ?_
    refine lv_goto (tgt := 18) hx hb dX5_aroundAt_11 (by decide) ?_
    exact hm_aret hx hb hr (Or.inl ⟨_, rfl⟩) hI hL h (by omega) (by omega) hlocks dX5_aroundAt_18
  | some a5 =>
    replace h := oc_s h
    have hl : lv_has ls 3 [(2, .ref a5), (0, .ref x0), (1, va_rf x1)] := hl
    refine lv_ifnonnull (tgt := 14) hx hb dX5_aroundAt_7 (by decide) ?_
    refine lv_aload_n hx hb dX5_aroundAt_14 rfl (lv_at hl 0 rfl) ?_
    replace h := ob_s h
    obtain ⟨f6, h7, h⟩ := h
    refine hm_get S hK hI (pf_X5_26_5 hK) (gR_s h7) dX5_aroundAt_15 ?_
    exact hm_aret hx hb hr (Or.inl ⟨_, rfl⟩) hI hL h (by omega) (by omega) hlocks dX5_aroundAt_18
