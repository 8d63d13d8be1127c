def fJ5_init_d00df (x0 : Nat) (x1 : Int32) (σ : hmS) : Option (Unit × hmS) :=
  if (1 : Int32) = 0 then
    none
  else
    cb (nA σ 3 (.inl (fun _ => 0)) 128 x1) fun q2 σ3 => ob (wF σ3 x0 1 0 (.ref q2)) fun σ5 => ob (wF σ5 x0 1 1 (.int (0 : Int32))) fun σ7 => some ((), σ7)
set_option maxHeartbeats 4000000 in
set_option maxRecDepth 100000 in
theorem mJ5_init_d00df (l : Launch) (E : hmG) {x0 : Nat} {x1 : Int32} {σ σ' : hmS} {r : Unit} (h : fJ5_init_d00df x0 x1 σ = some (r, σ')) : Met l yJ5_init_d00df [Cond.code yJ5_init_d00df cJ5_init_d00df 2 none] { frames := 1, cells := 1, slots := 128, locals := 20 } (hmPc E [.ref x0, .int x1] σ) (hmQc E none σ') 1 128 (fun q => hmL E ≤ q) := by
  refine va_MetF (cc := cJ5_init_d00df) (maxL := 2) (ret := none) (by decide +kernel) rfl ?_
  intro p e s m args below meth c s₁ B hml hv
  obtain ⟨rfl, hK, hI⟩ := hv
  have S : CallFix p m c cJ5_init_d00df 2 s ([.ref x0, .int x1] : List Value).toArray [] RJ5 := ⟨B.exec, B.bytes, hml, findClass_of_methodNamed B.named, fun w hw => by cases hw⟩
  have hx := S.1
  have hb := S.2.1
  have hr := B.returns
  have hlocks := B.notSynchronized
  have hin : meth.name = "<init>" := (name_of_methodNamed B.named B.method).1
  have hL : hmLo E [] := hmLo.nil
  have hl : lv_has ((lg_sl ([.ref x0, .int x1]) ++ List.replicate (2 - (lg_sl ([.ref x0, .int x1])).length) Slot.unset).toArray) 2 [(0, .ref x0), (1, .int x1)] := by exact lv_entry _ (Nat.le_of_ble_eq_true rfl)
  rw [lg_entry_eq]
  generalize (lg_sl ([.ref x0, .int x1]) ++ List.replicate (2 - (lg_sl ([.ref x0, .int x1])).length) Slot.unset).toArray = ls at hl ⊢
  generalize hRe : (headSpec [Cond.code yJ5_init_d00df cJ5_init_d00df 2 none] { frames := 1, cells := 1, slots := 128, locals := 20 }).room = R
  have hR1 : R.frames = 1 ∧ R.cells = 1 ∧ R.slots = 128 ∧ R.locals = 20 := by rw [← hRe]; exact ⟨rfl, rfl, rfl, rfl⟩
  clear hRe B hml
  generalize s.heap = H at hI ⊢
  generalize ([] : List Loc) = locs at hL ⊢
  have hmain := h
  clear h
  have h := hmain
  clear hmain
  unfold fJ5_init_d00df at h
  refine lv_aload_n hx hb dJ5_init_d00df_0 rfl (lv_at hl 0 rfl) ?_
  refine hm_objInit (i1 := 171) (i2 := 27) (i3 := 28) S hK (by decide +kernel) (by decide +kernel) (by decide +kernel) hl.1 dJ5_init_d00df_1 (by omega) (Nat.le_of_ble_eq_true rfl) (by omega) ?_
  refine hm_gets S hI hK.2.2.2.2.2.2.2.2.2.2.2.2.1 (hm_wd hK 172 (by decide +kernel) rfl _) dJ5_init_d00df_4 ?_
  refine lv_if_eq (tgt := 25) hx hb dJ5_init_d00df_7 (by decide) (fun c1 => ?_) (fun c1 => ?_)
  · replace h := it_p c1 h
    refine lv_aload_n hx hb dJ5_init_d00df_25 rfl (lv_at hl 0 rfl) ?_
    refine lv_iload_n hx hb dJ5_init_d00df_26 rfl (lv_at hl 1 rfl) ?_
    cases h
  · replace h := it_n c1 h
    refine lv_aload_n hx hb dJ5_init_d00df_10 rfl (lv_at hl 0 rfl) ?_
    refine lv_iload_n hx hb dJ5_init_d00df_11 rfl (lv_at hl 1 rfl) ?_
    replace h := cb_s h
    obtain ⟨q2, σ3, h4, h⟩ := h
    refine hm_newa (i := 194) S hK hI (by decide +kernel) rfl (by decide) (fun _ => rfl) h4 (by decide) (by omega) (by omega) dJ5_init_d00df_12 (fun H hI => ?_)
    replace h := ob_s h
    obtain ⟨σ5, h6, h⟩ := h
    refine hm_put S hK hI hL (pf_J5_15_1 hK) h6 ⟨rfl, rfl⟩ dJ5_init_d00df_14 (fun H locs hI hL => ?_)
    refine lv_aload_n hx hb dJ5_init_d00df_17 rfl (lv_at hl 0 rfl) ?_
    refine lv_iconst (v := 0) hx hb dJ5_init_d00df_18 (by decide) ?_
    replace h := ob_s h
    obtain ⟨σ7, h8, h⟩ := h
    refine hm_put S hK hI hL (pf_J5_22_1 hK) h8 ⟨rfl, rfl⟩ dJ5_init_d00df_19 (fun H locs hI hL => ?_)
    refine lv_goto (tgt := 38) hx hb dJ5_init_d00df_22 (by decide) ?_
    exact hm_vret hx hb hr hI hL h (by omega) (by omega) hlocks dJ5_init_d00df_38

def fJ4_init_da8c8 (x0 : Nat) (σ : hmS) : Option (Unit × hmS) :=
  cb (fJ5_init_d00df x0 (16 : Int32) σ) fun _ σ2 => some ((), σ2)
set_option maxHeartbeats 4000000 in
set_option maxRecDepth 100000 in
theorem mJ4_init_da8c8 (l : Launch) (E : hmG) {x0 : Nat} {σ σ' : hmS} {r : Unit} (h : fJ4_init_da8c8 x0 σ = some (r, σ')) : Met l yJ4_init_da8c8 [Cond.code yJ4_init_da8c8 cJ4_init_da8c8 1 none] { frames := 2, cells := 1, slots := 128, locals := 41 } (hmPc E [.ref x0] σ) (hmQc E none σ') 1 128 (fun q => hmL E ≤ q) := by
  refine va_MetF (cc := cJ4_init_da8c8) (maxL := 1) (ret := none) (by decide +kernel) rfl ?_
  intro p e s m args below meth c s₁ B hml hv
  obtain ⟨rfl, hK, hI⟩ := hv
  have S : CallFix p m c cJ4_init_da8c8 1 s ([.ref x0] : List Value).toArray [] RJ4 := ⟨B.exec, B.bytes, hml, findClass_of_methodNamed B.named, fun w hw => by cases hw⟩
  have hx := S.1
  have hb := S.2.1
  have hr := B.returns
  have hlocks := B.notSynchronized
  have hin : meth.name = "<init>" := (name_of_methodNamed B.named B.method).1
  have hL : hmLo E [] := hmLo.nil
  have hl : lv_has ((lg_sl ([.ref x0]) ++ List.replicate (1 - (lg_sl ([.ref x0])).length) Slot.unset).toArray) 1 [(0, .ref x0)] := by exact lv_entry _ (Nat.le_of_ble_eq_true rfl)
  rw [lg_entry_eq]
  generalize (lg_sl ([.ref x0]) ++ List.replicate (1 - (lg_sl ([.ref x0])).length) Slot.unset).toArray = ls at hl ⊢
  generalize hRe : (headSpec [Cond.code yJ4_init_da8c8 cJ4_init_da8c8 1 none] { frames := 2, cells := 1, slots := 128, locals := 41 }).room = R
  have hR1 : R.frames = 2 ∧ R.cells = 1 ∧ R.slots = 128 ∧ R.locals = 41 := by rw [← hRe]; exact ⟨rfl, rfl, rfl, rfl⟩
  clear hRe B hml
  generalize s.heap = H at hI ⊢
  generalize ([] : List Loc) = locs at hL ⊢
  have hmain := h
  clear h
  have h := hmain
  clear hmain
  unfold fJ4_init_da8c8 at h
  refine lv_aload_n hx hb dJ4_init_da8c8_0 rfl (lv_at hl 0 rfl) ?_
  refine lv_bipush (v := 16) hx hb dJ4_init_da8c8_1 (by decide) ?_
  replace h := cb_s h
  obtain ⟨u0, σ2, h1, h⟩ := h
  refine hm_callv (hm_runI (As := [.int (16 : Int32)]) (rest := []) S hK hI (mJ5_init_d00df l E h1) (pm_J4_1 hK) rfl (pi_J5_init_d00df hK) ⟨by omega, by omega⟩ rfl hl.1 (Nat.le_of_ble_eq_true rfl) ⟨by omega, by omega⟩ dJ4_init_da8c8_3) hL (fun H locs hI hL => ?_)
  exact hm_vret hx hb hr hI hL h (by omega) (by omega) hlocks dJ4_init_da8c8_6

def fJ0_coder_7d493 (x0 : Nat) (σ : hmS) : Option (Int32 × hmS) :=
  if (1 : Int32) = 0 then
    some ((1 : Int32), σ)
  else
    ob (gI σ x0 0 1) fun f2 => ob (okZ f2) fun _ => some (f2, σ)
set_option maxHeartbeats 4000000 in
set_option maxRecDepth 100000 in
theorem mJ0_coder_7d493 (l : Launch) (E : hmG) {x0 : Nat} {σ σ' : hmS} {r : Int32} (h : fJ0_coder_7d493 x0 σ = some (r, σ')) : Met l yJ0_coder_7d493 [Cond.code yJ0_coder_7d493 cJ0_coder_7d493 1 (some .byte)] { frames := 0, cells := 0, slots := 0, locals := 0 } (hmPc E [.ref x0] σ) (hmQc E (some (.int r)) σ') 0 0 (fun q => hmL E ≤ q) := by
  refine va_MetF (cc := cJ0_coder_7d493) (maxL := 1) (ret := (some .byte)) (by decide +kernel) rfl ?_
  intro p e s m args below meth c s₁ B hml hv
  obtain ⟨rfl, hK, hI⟩ := hv
  have S : CallFix p m c cJ0_coder_7d493 1 s ([.ref x0] : List Value).toArray [] RJ0 := ⟨B.exec, B.bytes, hml, findClass_of_methodNamed B.named, fun w hw => by cases hw⟩
  have hx := S.1
  have hb := S.2.1
  have hr := B.returns
  have hlocks := B.notSynchronized
  have hL : hmLo E [] := hmLo.nil
  have hl : lv_has ((lg_sl ([.ref x0]) ++ List.replicate (1 - (lg_sl ([.ref x0])).length) Slot.unset).toArray) 1 [(0, .ref x0)] := by exact lv_entry _ (Nat.le_of_ble_eq_true rfl)
  rw [lg_entry_eq]
  generalize (lg_sl ([.ref x0]) ++ List.replicate (1 - (lg_sl ([.ref x0])).length) Slot.unset).toArray = ls at hl ⊢
  generalize hRe : (headSpec [Cond.code yJ0_coder_7d493 cJ0_coder_7d493 1 (some .byte)] { frames := 0, cells := 0, slots := 0, locals := 0 }).room = R
  have hR1 : R.frames = 0 ∧ R.cells = 0 ∧ R.slots = 0 ∧ R.locals = 0 := by rw [← hRe]; exact ⟨rfl, rfl, rfl, rfl⟩
  clear hRe B hml
  generalize s.heap = H at hI ⊢
  generalize ([] : List Loc) = locs at hL ⊢
  have hmain := h
  clear h
  have h := hmain
  clear hmain
  unfold fJ0_coder_7d493 at h
  refine hm_gets S hI hK.2.2.2.2.2.2.2.2.2.2.2.2.1 (hm_wd hK 280 (by decide +kernel) rfl _) dJ0_coder_7d493_0 ?_
  refine lv_if_eq (tgt := 13) hx hb dJ0_coder_7d493_3 (by decide) (fun c1 => ?_) (fun c1 => ?_)
  · replace h := it_p c1 h
    refine lv_iconst (v := 1) hx hb dJ0_coder_7d493_13 (by decide) ?_
    exact hm_zret hx hb hr rfl hI hL h (by omega) (by omega) hlocks dJ0_coder_7d493_14
  · replace h := it_n c1 h
    refine lv_aload_n hx hb dJ0_coder_7d493_6 rfl (lv_at hl 0 rfl) ?_
    replace h := ob_s h
    obtain ⟨f2, h3, h⟩ := h
    refine hm_get S hK hI (pf_J0_15_0 hK) (gI_s h3) dJ0_coder_7d493_7 ?_
    refine lv_goto (tgt := 14) hx hb dJ0_coder_7d493_10 (by decide) ?_
    replace h := ob_s h
    obtain ⟨_, z4, h⟩ := h
    exact hm_zret hx hb hr (okZ_b z4).1 hI hL h (by omega) (by omega) hlocks dJ0_coder_7d493_14

def fJ0_length_8abf5 (x0 : Nat) (σ : hmS) : Option (Int32 × hmS) :=
  ob (gR σ x0 0 0) fun f1 => ob f1 fun a3 => ob (aN σ a3) fun n4 => ob (obC σ x0 0) fun _ => cb (fJ0_coder_7d493 x0 σ) fun r9 σ8 => some ((n4 >>> (r9 &&& 31)), σ8)
set_option maxHeartbeats 4000000 in
set_option maxRecDepth 100000 in
theorem mJ0_length_8abf5 (l : Launch) (E : hmG) {x0 : Nat} {σ σ' : hmS} {r : Int32} (h : fJ0_length_8abf5 x0 σ = some (r, σ')) : Met l yJ0_length_8abf5 [Cond.code yJ0_length_8abf5 cJ0_length_8abf5 1 (some .int)] { frames := 1, cells := 0, slots := 0, locals := 20 } (hmPc E [.ref x0] σ) (hmQc E (some (.int r)) σ') 0 0 (fun q => hmL E ≤ q) := by
  refine va_MetF (cc := cJ0_length_8abf5) (maxL := 1) (ret := (some .int)) (by decide +kernel) rfl ?_
  intro p e s m args below meth c s₁ B hml hv
  obtain ⟨rfl, hK, hI⟩ := hv
  have S : CallFix p m c cJ0_length_8abf5 1 s ([.ref x0] : List Value).toArray [] RJ0 := ⟨B.exec, B.bytes, hml, findClass_of_methodNamed B.named, fun w hw => by cases hw⟩
  have hx := S.1
  have hb := S.2.1
  have hr := B.returns
  have hlocks := B.notSynchronized
  have hL : hmLo E [] := hmLo.nil
  have hl : lv_has ((lg_sl ([.ref x0]) ++ List.replicate (1 - (lg_sl ([.ref x0])).length) Slot.unset).toArray) 1 [(0, .ref x0)] := by exact lv_entry _ (Nat.le_of_ble_eq_true rfl)
  rw [lg_entry_eq]
  generalize (lg_sl ([.ref x0]) ++ List.replicate (1 - (lg_sl ([.ref x0])).length) Slot.unset).toArray = ls at hl ⊢
  generalize hRe : (headSpec [Cond.code yJ0_length_8abf5 cJ0_length_8abf5 1 (some .int)] { frames := 1, cells := 0, slots := 0, locals := 20 }).room = R
  have hR1 : R.frames = 1 ∧ R.cells = 0 ∧ R.slots = 0 ∧ R.locals = 20 := by rw [← hRe]; exact ⟨rfl, rfl, rfl, rfl⟩
  clear hRe B hml
  generalize s.heap = H at hI ⊢
  generalize ([] : List Loc) = locs at hL ⊢
  have hmain := h
  clear h
  have h := hmain
  clear hmain
  unfold fJ0_length_8abf5 at h
  refine lv_aload_n hx hb dJ0_length_8abf5_0 rfl (lv_at hl 0 rfl) ?_
  replace h := ob_s h
  obtain ⟨f1, h2, h⟩ := h
  refine hm_get S hK hI (pf_J0_9_0 hK) (gR_s h2) dJ0_length_8abf5_1 ?_
  replace h := ob_s h
  obtain ⟨a3, rfl, h⟩ := h
  have hl : lv_has ls 1 [(0, .ref x0)] := hl
  replace h := ob_s h
  obtain ⟨n4, h5, h⟩ := h
  refine hm_aN S hK hI h5 dJ0_length_8abf5_4 ?_
  refine lv_aload_n hx hb dJ0_length_8abf5_5 rfl (lv_at hl 0 rfl) ?_
  replace h := ob_s h
  obtain ⟨_, h7, h⟩ := h
  replace h := cb_s h
  obtain ⟨r9, σ8, h6, h⟩ := h
  refine hm_call (hm_runV (As := []) (rest := [.int n4]) (ci := 0) S hK hI (obC_s h7) rfl (mJ0_coder_7d493 l E h6) (pm_J0_335 hK) (pi_J0_coder_7d493 hK) (pl_J0_J0_coder_7d493 hK) ⟨by omega, by omega⟩ rfl hl.1 (Nat.le_of_ble_eq_true rfl) ⟨by omega, by omega⟩ dJ0_length_8abf5_6) hL (fun H locs hI hL => ?_)
  refine lv_ishr hx hb dJ0_length_8abf5_9 ?_
  exact hm_iret hx hb hr hI hL h (by omega) (by omega) hlocks dJ0_length_8abf5_10

def fJ9_max_7cf53 (x0 : Int32) (x1 : Int32) (σ : hmS) : Option (Int32 × hmS) :=
  if x0 < x1 then
    some (x1, σ)
  else
    some (x0, σ)
set_option maxHeartbeats 4000000 in
set_option maxRecDepth 100000 in
theorem mJ9_max_7cf53 (l : Launch) (E : hmG) {x0 : Int32} {x1 : Int32} {σ σ' : hmS} {r : Int32} (h : fJ9_max_7cf53 x0 x1 σ = some (r, σ')) : Met l yJ9_max_7cf53 [Cond.code yJ9_max_7cf53 cJ9_max_7cf53 2 (some .int)] { frames := 0, cells := 0, slots := 0, locals := 0 } (hmPc E [.int x0, .int x1] σ) (hmQc E (some (.int r)) σ') 0 0 (fun q => hmL E ≤ q) := by
  refine va_MetF (cc := cJ9_max_7cf53) (maxL := 2) (ret := (some .int)) (by decide +kernel) rfl ?_
  intro p e s m args below meth c s₁ B hml hv
  obtain ⟨rfl, hK, hI⟩ := hv
  have S : CallFix p m c cJ9_max_7cf53 2 s ([.int x0, .int x1] : List Value).toArray [] RJ9 := ⟨B.exec, B.bytes, hml, findClass_of_methodNamed B.named, fun w hw => by cases hw⟩
  have hx := S.1
  have hb := S.2.1
  have hr := B.returns
  have hlocks := B.notSynchronized
  have hL : hmLo E [] := hmLo.nil
  have hl : lv_has ((lg_sl ([.int x0, .int x1]) ++ List.replicate (2 - (lg_sl ([.int x0, .int x1])).length) Slot.unset).toArray) 2 [(0, .int x0), (1, .int x1)] := by exact lv_entry _ (Nat.le_of_ble_eq_true rfl)
  rw [lg_entry_eq]
  generalize (lg_sl ([.int x0, .int x1]) ++ List.replicate (2 - (lg_sl ([.int x0, .int x1])).length) Slot.unset).toArray = ls at hl ⊢
  generalize hRe : (headSpec [Cond.code yJ9_max_7cf53 cJ9_max_7cf53 2 (some .int)] { frames := 0, cells := 0, slots := 0, locals := 0 }).room = R
  have hR1 : R.frames = 0 ∧ R.cells = 0 ∧ R.slots = 0 ∧ R.locals = 0 := by rw [← hRe]; exact ⟨rfl, rfl, rfl, rfl⟩
  clear hRe B hml
  generalize s.heap = H at hI ⊢
  generalize ([] : List Loc) = locs at hL ⊢
  have hmain := h
  clear h
  have h := hmain
  clear hmain
  unfold fJ9_max_7cf53 at h
  refine lv_iload_n hx hb dJ9_max_7cf53_0 rfl (lv_at hl 0 rfl) ?_
  refine lv_iload_n hx hb dJ9_max_7cf53_1 rfl (lv_at hl 1 rfl) ?_
  refine lv_icmp_lt (tgt := 9) hx hb dJ9_max_7cf53_2 (by decide) (fun c1 => ?_) (fun c1 => ?_)
  · replace h := it_p c1 h
    refine lv_iload_n hx hb dJ9_max_7cf53_9 rfl (lv_at hl 1 rfl) ?_
    exact hm_iret hx hb hr hI hL h (by omega) (by omega) hlocks dJ9_max_7cf53_10
  · replace h := it_n c1 h
    refine lv_iload_n hx hb dJ9_max_7cf53_5 rfl (lv_at hl 0 rfl) ?_
    refine lv_goto (tgt := 10) hx hb dJ9_max_7cf53_6 (by decide) ?_
    exact hm_iret hx hb hr hI hL h (by omega) (by omega) hlocks dJ9_max_7cf53_10

def fJ8_newLength_cabcc_J21 (x0 : Int32) (x1 : Int32) (x2 : Int32)   (σ : hmS) : Option (Int32 × hmS) :=
  none
def fJ8_newLength_cabcc (x0 : Int32) (x1 : Int32) (x2 : Int32) (σ : hmS) : Option (Int32 × hmS) :=
  cb (fJ9_max_7cf53 x1 x2 σ) fun r3 σ2 => if (x0 + r3) ≤ (0 : Int32) then
    fJ8_newLength_cabcc_J21 x0 x1 x2 σ2
  else
    if (2147483639 : Int32) < (x0 + r3) then
      fJ8_newLength_cabcc_J21 x0 x1 x2 σ2
    else
      some ((x0 + r3), σ2)
set_option maxHeartbeats 4000000 in
set_option maxRecDepth 100000 in
theorem mJ8_newLength_cabcc (l : Launch) (E : hmG) {x0 : Int32} {x1 : Int32} {x2 : Int32} {σ σ' : hmS} {r : Int32} (h : fJ8_newLength_cabcc x0 x1 x2 σ = some (r, σ')) : Met l yJ8_newLength_cabcc [Cond.code yJ8_newLength_cabcc cJ8_newLength_cabcc 4 (some .int)] { frames := 1, cells := 0, slots := 0, locals := 21 } (hmPc E [.int x0, .int x1, .int x2] σ) (hmQc E (some (.int r)) σ') 0 0 (fun q => hmL E ≤ q) := by
  refine va_MetF (cc := cJ8_newLength_cabcc) (maxL := 4) (ret := (some .int)) (by decide +kernel) rfl ?_
  intro p e s m args below meth c s₁ B hml hv
  obtain ⟨rfl, hK, hI⟩ := hv
  have S : CallFix p m c cJ8_newLength_cabcc 4 s ([.int x0, .int x1, .int x2] : List Value).toArray [] RJ8 := ⟨B.exec, B.bytes, hml, findClass_of_methodNamed B.named, fun w hw => by cases hw⟩
  have hx := S.1
  have hb := S.2.1
  have hr := B.returns
  have hlocks := B.notSynchronized
  have hL : hmLo E [] := hmLo.nil
  have hl : lv_has ((lg_sl ([.int x0, .int x1, .int x2]) ++ List.replicate (4 - (lg_sl ([.int x0, .int x1, .int x2])).length) Slot.unset).toArray) 4 [(0, .int x0), (1, .int x1), (2, .int x2)] := by exact lv_entry _ (Nat.le_of_ble_eq_true rfl)
  rw [lg_entry_eq]
  generalize (lg_sl ([.int x0, .int x1, .int x2]) ++ List.replicate (4 - (lg_sl ([.int x0, .int x1, .int x2])).length) Slot.unset).toArray = ls at hl ⊢
  generalize hRe : (headSpec [Cond.code yJ8_newLength_cabcc cJ8_newLength_cabcc 4 (some .int)] { frames := 1, cells := 0, slots := 0, locals := 21 }).room = R
  have hR1 : R.frames = 1 ∧ R.cells = 0 ∧ R.slots = 0 ∧ R.locals = 21 := by rw [← hRe]; exact ⟨rfl, rfl, rfl, rfl⟩
  clear hRe B hml
  generalize s.heap = H at hI ⊢
  generalize ([] : List Loc) = locs at hL ⊢
  have hmain := h
  clear h
  have hJ21 : ∀  (σ : hmS) (H : Heap) (locs : List Loc) (ls : Array Slot), fJ8_newLength_cabcc_J21 x0 x1 x2   σ = some (r, σ') → hmI E σ H → hmLo E locs → lv_has ls 4 [(0, .int x0), (1, .int x1)] → W p l e R s m ([.int x0, .int x1, .int x2] : List Value).toArray below meth c H locs 0 0 (MQ below (hmQc E (some (.int r)) σ') ([.int x0, .int x1, .int x2] : List Value).toArray s 0 0 (fun q => hmL E ≤ q)) (F0 m 21 ls []) := by
    intro  σ H locs ls h hI hL hl
    unfold fJ8_newLength_cabcc_J21 at h
    refine lv_iload_n hx hb dJ8_newLength_cabcc_21 rfl (lv_at hl 0 rfl) ?_
    refine lv_iload_n hx hb dJ8_newLength_cabcc_22 rfl (lv_at hl 1 rfl) ?_
    cases h
  have h := hmain
  clear hmain
  unfold fJ8_newLength_cabcc at h
  refine lv_iload_n hx hb dJ8_newLength_cabcc_0 rfl (lv_at hl 0 rfl) ?_
  refine lv_iload_n hx hb dJ8_newLength_cabcc_1 rfl (lv_at hl 1 rfl) ?_
  refine lv_iload_n hx hb dJ8_newLength_cabcc_2 rfl (lv_at hl 2 rfl) ?_
  replace h := cb_s h
  obtain ⟨r3, σ2, h1, h⟩ := h
  refine hm_call (hm_runS (As := [.int x1, .int x2]) (rest := [.int x0]) S hK hI (mJ9_max_7cf53 l E h1) (pm_J8_194 hK) (ps_J9_max_7cf53 hK) ⟨by omega, by omega⟩ rfl hl.1 (Nat.le_of_ble_eq_true rfl) ⟨by omega, by omega⟩ dJ8_newLength_cabcc_3) hL (fun H locs hI hL => ?_)
  refine lv_iadd hx hb dJ8_newLength_cabcc_6 ?_
  refine lv_istore_n (lv' := [(3, .int (x0 + r3)), (0, .int x0), (1, .int x1), (2, .int x2)]) hx hb dJ8_newLength_cabcc_7 rfl hl (by decide) rfl (fun ls hl => ?_)
  refine lv_iconst (v := 0) hx hb dJ8_newLength_cabcc_8 (by decide) ?_
  refine lv_iload_n hx hb dJ8_newLength_cabcc_9 rfl (lv_at hl 0 rfl) ?_
  refine lv_icmp_ge (tgt := 21) hx hb dJ8_newLength_cabcc_10 (by decide) (fun c4 => ?_) (fun c4 => ?_)
  · replace h := it_p c4 h
    exact hJ21 _ _ _ _ h hI hL (lv_sub hl [1, 2] rfl)
  · replace h := it_n c4 h
    refine lv_iload_n hx hb dJ8_newLength_cabcc_13 rfl (lv_at hl 0 rfl) ?_
    refine lv_ldc (v := 2147483639) hx hb S.2.2.2.1 (hm_wd hK 220 (by decide +kernel) rfl _) dJ8_newLength_cabcc_14 ?_
    refine lv_icmp_gt (tgt := 21) hx hb dJ8_newLength_cabcc_16 (by decide) (fun c5 => ?_) (fun c5 => ?_)
    · replace h := it_p c5 h
      exact hJ21 _ _ _ _ h hI hL (lv_sub hl [1, 2] rfl)
    · replace h := it_n c5 h
      refine lv_iload_n hx hb dJ8_newLength_cabcc_19 rfl (lv_at hl 0 rfl) ?_
      exact hm_iret hx hb hr hI hL h (by omega) (by omega) hlocks dJ8_newLength_cabcc_20

def fJ5_newCapacity_0f7a4 (x0 : Nat) (x1 : Int32) (σ : hmS) : Option (Int32 × hmS) :=
  ob (gR σ x0 1 0) fun f1 => ob f1 fun a3 => ob (aN σ a3) fun n4 => ob (gI σ x0 1 1) fun f6 => ob (gI σ x0 1 1) fun f8 => cb (fJ8_newLength_cabcc n4 ((x1 <<< (f6 &&& 31)) - n4) (n4 + ((2 : Int32) <<< (f8 &&& 31))) σ) fun r12 σ11 => if r12 = (2147483647 : Int32) then
    none
  else
    ob (gI σ11 x0 1 1) fun f14 => some ((r12 >>> (f14 &&& 31)), σ11)
set_option maxHeartbeats 4000000 in
set_option maxRecDepth 100000 in
theorem mJ5_newCapacity_0f7a4 (l : Launch) (E : hmG) {x0 : Nat} {x1 : Int32} {σ σ' : hmS} {r : Int32} (h : fJ5_newCapacity_0f7a4 x0 x1 σ = some (r, σ')) : Met l yJ5_newCapacity_0f7a4 [Cond.code yJ5_newCapacity_0f7a4 cJ5_newCapacity_0f7a4 6 (some .int)] { frames := 2, cells := 0, slots := 0, locals := 44 } (hmPc E [.ref x0, .int x1] σ) (hmQc E (some (.int r)) σ') 0 0 (fun q => hmL E ≤ q) := by
  refine va_MetF (cc := cJ5_newCapacity_0f7a4) (maxL := 6) (ret := (some .int)) (by decide +kernel) rfl ?_
  intro p e s m args below meth c s₁ B hml hv
  obtain ⟨rfl, hK, hI⟩ := hv
  have S : CallFix p m c cJ5_newCapacity_0f7a4 6 s ([.ref x0, .int x1] : List Value).toArray [] RJ5 := ⟨B.exec, B.bytes, hml, findClass_of_methodNamed B.named, fun w hw => by cases hw⟩
  have hx := S.1
  have hb := S.2.1
  have hr := B.returns
  have hlocks := B.notSynchronized
  have hL : hmLo E [] := hmLo.nil
  have hl : lv_has ((lg_sl ([.ref x0, .int x1]) ++ List.replicate (6 - (lg_sl ([.ref x0, .int x1])).length) Slot.unset).toArray) 6 [(0, .ref x0), (1, .int x1)] := by exact lv_entry _ (Nat.le_of_ble_eq_true rfl)
  rw [lg_entry_eq]
  generalize (lg_sl ([.ref x0, .int x1]) ++ List.replicate (6 - (lg_sl ([.ref x0, .int x1])).length) Slot.unset).toArray = ls at hl ⊢
  generalize hRe : (headSpec [Cond.code yJ5_newCapacity_0f7a4 cJ5_newCapacity_0f7a4 6 (some .int)] { frames := 2, cells := 0, slots := 0, locals := 44 }).room = R
  have hR1 : R.frames = 2 ∧ R.cells = 0 ∧ R.slots = 0 ∧ R.locals = 44 := by rw [← hRe]; exact ⟨rfl, rfl, rfl, rfl⟩
  clear hRe B hml
  generalize s.heap = H at hI ⊢
  generalize ([] : List Loc) = locs at hL ⊢
  have hmain := h
  clear h
  have h := hmain
  clear hmain
  unfold fJ5_newCapacity_0f7a4 at h
  refine lv_aload_n hx hb dJ5_newCapacity_0f7a4_0 rfl (lv_at hl 0 rfl) ?_
  replace h := ob_s h
  obtain ⟨f1, h2, h⟩ := h
  refine hm_get S hK hI (pf_J5_15_1 hK) (gR_s h2) dJ5_newCapacity_0f7a4_1 ?_
  replace h := ob_s h
  obtain ⟨a3, rfl, h⟩ := h
  have hl : lv_has ls 6 [(0, .ref x0), (1, .int x1)] := hl
  replace h := ob_s h
  obtain ⟨n4, h5, h⟩ := h
  refine hm_aN S hK hI h5 dJ5_newCapacity_0f7a4_4 ?_
  refine lv_istore_n (lv' := [(2, .int n4), (0, .ref x0), (1, .int x1)]) hx hb dJ5_newCapacity_0f7a4_5 rfl hl (by decide) rfl (fun ls hl => ?_)
  refine lv_iload_n hx hb dJ5_newCapacity_0f7a4_6 rfl (lv_at hl 2 rfl) ?_
  refine lv_aload_n hx hb dJ5_newCapacity_0f7a4_7 rfl (lv_at hl 1 rfl) ?_
  replace h := ob_s h
  obtain ⟨f6, h7, h⟩ := h
  refine hm_get S hK hI (pf_J5_22_1 hK) (gI_s h7) dJ5_newCapacity_0f7a4_8 ?_
  refine lv_ishl hx hb dJ5_newCapacity_0f7a4_11 ?_
  refine lv_istore_n (lv' := [(3, .int (x1 <<< (f6 &&& 31))), (2, .int n4), (0, .ref x0), (1, .int x1)]) hx hb dJ5_newCapacity_0f7a4_12 rfl hl (by decide) rfl (fun ls hl => ?_)
  refine lv_iload_n hx hb dJ5_newCapacity_0f7a4_13 rfl (lv_at hl 0 rfl) ?_
  refine lv_iload_n hx hb dJ5_newCapacity_0f7a4_14 rfl (lv_at hl 1 rfl) ?_
  refine lv_isub hx hb dJ5_newCapacity_0f7a4_15 ?_
  refine lv_istore (lv' := [(4, .int ((x1 <<< (f6 &&& 31)) - n4)), (3, .int (x1 <<< (f6 &&& 31))), (2, .int n4), (0, .ref x0), (1, .int x1)]) hx hb dJ5_newCapacity_0f7a4_16 hl (by decide) rfl (fun ls hl => ?_)
  refine lv_iload_n hx hb dJ5_newCapacity_0f7a4_18 rfl (lv_at hl 2 rfl) ?_
  refine lv_iload hx hb dJ5_newCapacity_0f7a4_19 (lv_at hl 0 rfl) ?_
  refine lv_iload_n hx hb dJ5_newCapacity_0f7a4_21 rfl (lv_at hl 2 rfl) ?_
  refine lv_iconst (v := 2) hx hb dJ5_newCapacity_0f7a4_22 (by decide) ?_
  refine lv_aload_n hx hb dJ5_newCapacity_0f7a4_23 rfl (lv_at hl 3 rfl) ?_
  replace h := ob_s h
  obtain ⟨f8, h9, h⟩ := h
  refine hm_get S hK hI (pf_J5_22_1 hK) (gI_s h9) dJ5_newCapacity_0f7a4_24 ?_
  refine lv_ishl hx hb dJ5_newCapacity_0f7a4_27 ?_
  refine lv_iadd hx hb dJ5_newCapacity_0f7a4_28 ?_
  replace h := cb_s h
  obtain ⟨r12, σ11, h10, h⟩ := h
  refine hm_call (hm_runS (As := [.int n4, .int ((x1 <<< (f6 &&& 31)) - n4), .int (n4 + ((2 : Int32) <<< (f8 &&& 31)))]) (rest := []) S hK hI (mJ8_newLength_cabcc l E h10) (pm_J5_114 hK) (ps_J8_newLength_cabcc hK) ⟨by omega, by omega⟩ rfl hl.1 (Nat.le_of_ble_eq_true rfl) ⟨by omega, by omega⟩ dJ5_newCapacity_0f7a4_29) hL (fun H locs hI hL => ?_)
  refine lv_istore (lv' := [(5, .int r12), (4, .int ((x1 <<< (f6 &&& 31)) - n4)), (3, .int (x1 <<< (f6 &&& 31))), (2, .int n4), (0, .ref x0), (1, .int x1)]) hx hb dJ5_newCapacity_0f7a4_32 hl (by decide) rfl (fun ls hl => ?_)
  refine lv_iload hx hb dJ5_newCapacity_0f7a4_34 (lv_at hl 0 rfl) ?_
  refine lv_ldc (v := 2147483647) hx hb S.2.2.2.1 (hm_wd hK 224 (by decide +kernel) rfl _) dJ5_newCapacity_0f7a4_36 ?_
  refine lv_icmp_ne (tgt := 51) hx hb dJ5_newCapacity_0f7a4_38 (by decide) (fun c13 => ?_) (fun c13 => ?_)
  · replace h := it_n c13 h
    refine lv_iload hx hb dJ5_newCapacity_0f7a4_51 (lv_at hl 0 rfl) ?_
    refine lv_aload_n hx hb dJ5_newCapacity_0f7a4_53 rfl (lv_at hl 4 rfl) ?_
    replace h := ob_s h
    obtain ⟨f14, h15, h⟩ := h
    refine hm_get S hK hI (pf_J5_22_1 hK) (gI_s h15) dJ5_newCapacity_0f7a4_54 ?_
    refine lv_ishr hx hb dJ5_newCapacity_0f7a4_57 ?_
    exact hm_iret hx hb hr hI hL h (by omega) (by omega) hlocks dJ5_newCapacity_0f7a4_58
  · replace h := it_p c13 h
    cases h

def fJ7_copyOf_9075b (x0 : Option Nat) (x1 : Int32) (σ : hmS) : Option (Option Nat × hmS) :=
  ob x0 fun a1 => ob (aN σ a1) fun n2 => if x1 = n2 then
    cb (clA σ 3 a1 128) fun q15 σ16 => ob (arK σ16 q15 3) fun _ => some ((some q15), σ16)
  else
    cb (nA σ 3 (.inl (fun _ => 0)) 128 x1) fun q5 σ6 => ob (aN σ6 a1) fun n8 => cb (fJ9_min_7cf53 n8 x1 σ6) fun r12 σ11 => ob (cpB σ11 a1 (0 : Int32) q5 (0 : Int32) r12) fun σ13 => some ((some q5), σ13)
set_option maxHeartbeats 4000000 in
set_option maxRecDepth 100000 in
theorem mJ7_copyOf_9075b (l : Launch) (E : hmG) {x0 : Option Nat} {x1 : Int32} {σ σ' : hmS} {r : Option Nat} (h : fJ7_copyOf_9075b x0 x1 σ = some (r, σ')) : Met l yJ7_copyOf_9075b [Cond.code yJ7_copyOf_9075b cJ7_copyOf_9075b 3 (some (.array .byte))] { frames := 1, cells := 1, slots := 128, locals := 40 } (hmPc E [va_rf x0, .int x1] σ) (hmQc E (some (va_rf r)) σ') 1 128 (fun q => hmL E ≤ q) := by
  refine va_MetF (cc := cJ7_copyOf_9075b) (maxL := 3) (ret := (some (.array .byte))) (by decide +kernel) rfl ?_
  intro p e s m args below meth c s₁ B hml hv
  obtain ⟨rfl, hK, hI⟩ := hv
  have S : CallFix p m c cJ7_copyOf_9075b 3 s ([va_rf x0, .int x1] : List Value).toArray [] RJ7 := ⟨B.exec, B.bytes, hml, findClass_of_methodNamed B.named, fun w hw => by cases hw⟩
  have hx := S.1
  have hb := S.2.1
  have hr := B.returns
  have hlocks := B.notSynchronized
  have hL : hmLo E [] := hmLo.nil
  have hl : lv_has ((lg_sl ([va_rf x0, .int x1]) ++ List.replicate (3 - (lg_sl ([va_rf x0, .int x1])).length) Slot.unset).toArray) 3 [(0, va_rf x0), (1, .int x1)] := by cases x0 <;> exact lv_entry _ (Nat.le_of_ble_eq_true rfl)
  rw [lg_entry_eq]
  generalize (lg_sl ([va_rf x0, .int x1]) ++ List.replicate (3 - (lg_sl ([va_rf x0, .int x1])).length) Slot.unset).toArray = ls at hl ⊢
  generalize hRe : (headSpec [Cond.code yJ7_copyOf_9075b cJ7_copyOf_9075b 3 (some (.array .byte))] { frames := 1, cells := 1, slots := 128, locals := 40 }).room = R
  have hR1 : R.frames = 1 ∧ R.cells = 1 ∧ R.slots = 128 ∧ R.locals = 40 := by rw [← hRe]; exact ⟨rfl, rfl, rfl, rfl⟩
  clear hRe B hml
  generalize s.heap = H at hI ⊢
  generalize ([] : List Loc) = locs at hL ⊢
  have hmain := h
  clear h
  have h := hmain
  clear hmain
  unfold fJ7_copyOf_9075b at h
  refine lv_iload_n hx hb dJ7_copyOf_9075b_0 rfl (lv_at hl 1 rfl) ?_
  refine hm_aload_n hx hb dJ7_copyOf_9075b_1 rfl (lv_at hl 0 rfl) ?_
  replace h := ob_s h
  obtain ⟨a1, rfl, h⟩ := h
  have hl : lv_has ls 3 [(0, .ref a1), (1, .int x1)] := hl
  replace h := ob_s h
  obtain ⟨n2, h3, h⟩ := h
  refine hm_aN S hK hI h3 dJ7_copyOf_9075b_2 ?_
  refine lv_icmp_ne (tgt := 14) hx hb dJ7_copyOf_9075b_3 (by decide) (fun c4 => ?_) (fun c4 => ?_)
  · replace h := it_n c4 h
    refine lv_iload_n hx hb dJ7_copyOf_9075b_14 rfl (lv_at hl 1 rfl) ?_
    replace h := cb_s h
    obtain ⟨q5, σ6, h7, h⟩ := h
    refine hm_newa (i := 194) S hK hI (by decide +kernel) rfl (by decide) (fun _ => rfl) h7 (by decide) (by omega) (by omega) dJ7_copyOf_9075b_15 (fun H hI => ?_)
    refine lv_astore_n (lv' := [(2, .ref q5), (0, .ref a1), (1, .int x1)]) hx hb dJ7_copyOf_9075b_17 rfl hl (by decide) rfl (fun ls hl => ?_)
    refine lv_aload_n hx hb dJ7_copyOf_9075b_18 rfl (lv_at hl 1 rfl) ?_
    refine lv_iconst (v := 0) hx hb dJ7_copyOf_9075b_19 (by decide) ?_
    refine lv_aload_n hx hb dJ7_copyOf_9075b_20 rfl (lv_at hl 0 rfl) ?_
    refine lv_iconst (v := 0) hx hb dJ7_copyOf_9075b_21 (by decide) ?_
    refine lv_aload_n hx hb dJ7_copyOf_9075b_22 rfl (lv_at hl 1 rfl) ?_
    replace h := ob_s h
    obtain ⟨n8, h9, h⟩ := h
    refine hm_aN S hK hI h9 dJ7_copyOf_9075b_23 ?_
    refine lv_iload_n hx hb dJ7_copyOf_9075b_24 rfl (lv_at hl 2 rfl) ?_
    replace h := cb_s h
    obtain ⟨r12, σ11, h10, h⟩ := h
    refine hm_call (hm_runS (As := [.int n8, .int x1]) (rest := [.int (0 : Int32), .ref q5, .int (0 : Int32), .ref a1]) S hK hI (mJ9_min_7cf53 l E h10) (pm_J7_304 hK) (ps_J9_min_7cf53 hK) ⟨by omega, by omega⟩ rfl hl.1 (Nat.le_of_ble_eq_true rfl) ⟨by omega, by omega⟩ dJ7_copyOf_9075b_25) hL (fun H locs hI hL => ?_)
    replace h := ob_s h
    obtain ⟨σ13, h14, h⟩ := h
    refine hm_copyB (i1 := 238) (i2 := 240) (i3 := 239) (i4 := 14) S hK hI hL (by decide +kernel) (by decide +kernel) (by decide +kernel) (by decide +kernel) h14 hl.1 (by omega) (Nat.le_of_ble_eq_true rfl) (by omega) dJ7_copyOf_9075b_28 (fun H locs hI hL => ?_)
    refine lv_aload_n hx hb dJ7_copyOf_9075b_31 rfl (lv_at hl 0 rfl) ?_
    exact hm_aret hx hb hr (Or.inr ⟨_, rfl⟩) hI hL h (by omega) (by omega) hlocks dJ7_copyOf_9075b_32
  · replace h := it_p c4 h
    refine lv_aload_n hx hb dJ7_copyOf_9075b_6 rfl (lv_at hl 0 rfl) ?_
    replace h := cb_s h
    obtain ⟨q15, σ16, h17, h⟩ := h
    refine hm_clone (i1 := 228) (i2 := 229) (i3 := 230) (i4 := 231) (i5 := 232) S hK hI (by decide +kernel) (by decide +kernel) (by decide +kernel) (by decide +kernel) (by decide +kernel) hK.2.2.2.2.2.2.2.1.1 (hm_nmB hK) h17 hl.1 (by omega) (Nat.le_of_ble_eq_true rfl) (by omega) (by omega) (by omega) dJ7_copyOf_9075b_7 (fun H hI => ?_)
    replace h := ob_s h
    obtain ⟨_, h18, h⟩ := h
    refine hm_cast (i1 := 234) S hK hI (by decide +kernel) (hm_nmB hK) h18 dJ7_copyOf_9075b_10 ?_
    exact hm_aret hx hb hr (Or.inr ⟨_, rfl⟩) hI hL h (by omega) (by omega) hlocks dJ7_copyOf_9075b_13

def fJ5_ensureCapacityInternal_d00df (x0 : Nat) (x1 : Int32) (σ : hmS) : Option (Unit × hmS) :=
  ob (gR σ x0 1 0) fun f1 => ob f1 fun a3 => ob (aN σ a3) fun n4 => ob (gI σ x0 1 1) fun f6 => if (x1 - (n4 >>> (f6 &&& 31))) ≤ 0 then
    some ((), σ)
  else
    ob (gR σ x0 1 0) fun f9 => ob (obC σ x0 1) fun _ => cb (fJ5_newCapacity_0f7a4 x0 x1 σ) fun r14 σ13 => ob (gI σ13 x0 1 1) fun f15 => cb (fJ7_copyOf_9075b f9 (r14 <<< (f15 &&& 31)) σ13) fun r19 σ18 => ob (wF σ18 x0 1 0 (va_rf r19)) fun σ20 => some ((), σ20)
set_option maxHeartbeats 4000000 in
set_option maxRecDepth 100000 in
theorem mJ5_ensureCapacityInternal_d00df (l : Launch) (E : hmG) {x0 : Nat} {x1 : Int32} {σ σ' : hmS} {r : Unit} (h : fJ5_ensureCapacityInternal_d00df x0 x1 σ = some (r, σ')) : Met l yJ5_ensureCapacityInternal_d00df [Cond.code yJ5_ensureCapacityInternal_d00df cJ5_ensureCapacityInternal_d00df 3 none] { frames := 3, cells := 1, slots := 128, locals := 69 } (hmPc E [.ref x0, .int x1] σ) (hmQc E none σ') 1 128 (fun q => hmL E ≤ q) := by
  refine va_MetF (cc := cJ5_ensureCapacityInternal_d00df) (maxL := 3) (ret := none) (by decide +kernel) rfl ?_
  intro p e s m args below meth c s₁ B hml hv
  obtain ⟨rfl, hK, hI⟩ := hv
  have S : CallFix p m c cJ5_ensureCapacityInternal_d00df 3 s ([.ref x0, .int x1] : List Value).toArray [] RJ5 := ⟨B.exec, B.bytes, hml, findClass_of_methodNamed B.named, fun w hw => by cases hw⟩
  have hx := S.1
  have hb := S.2.1
  have hr := B.returns
  have hlocks := B.notSynchronized
  have hL : hmLo E [] := hmLo.nil
  have hl : lv_has ((lg_sl ([.ref x0, .int x1]) ++ List.replicate (3 - (lg_sl ([.ref x0, .int x1])).length) Slot.unset).toArray) 3 [(0, .ref x0), (1, .int x1)] := by exact lv_entry _ (Nat.le_of_ble_eq_true rfl)
  rw [lg_entry_eq]
  generalize (lg_sl ([.ref x0, .int x1]) ++ List.replicate (3 - (lg_sl ([.ref x0, .int x1])).length) Slot.unset).toArray = ls at hl ⊢
  generalize hRe : (headSpec [Cond.code yJ5_ensureCapacityInternal_d00df cJ5_ensureCapacityInternal_d00df 3 none] { frames := 3, cells := 1, slots := 128, locals := 69 }).room = R
  have hR1 : R.frames = 3 ∧ R.cells = 1 ∧ R.slots = 128 ∧ R.locals = 69 := by rw [← hRe]; exact ⟨rfl, rfl, rfl, rfl⟩
  clear hRe B hml
  generalize s.heap = H at hI ⊢
  generalize ([] : List Loc) = locs at hL ⊢
  have hmain := h
  clear h
  have h := hmain
  clear hmain
  unfold fJ5_ensureCapacityInternal_d00df at h
  refine lv_aload_n hx hb dJ5_ensureCapacityInternal_d00df_0 rfl (lv_at hl 0 rfl) ?_
  replace h := ob_s h
  obtain ⟨f1, h2, h⟩ := h
  refine hm_get S hK hI (pf_J5_15_1 hK) (gR_s h2) dJ5_ensureCapacityInternal_d00df_1 ?_
  replace h := ob_s h
  obtain ⟨a3, rfl, h⟩ := h
  have hl : lv_has ls 3 [(0, .ref x0), (1, .int x1)] := hl
  replace h := ob_s h
  obtain ⟨n4, h5, h⟩ := h
  refine hm_aN S hK hI h5 dJ5_ensureCapacityInternal_d00df_4 ?_
  refine lv_aload_n hx hb dJ5_ensureCapacityInternal_d00df_5 rfl (lv_at hl 0 rfl) ?_
  replace h := ob_s h
  obtain ⟨f6, h7, h⟩ := h
  refine hm_get S hK hI (pf_J5_22_1 hK) (gI_s h7) dJ5_ensureCapacityInternal_d00df_6 ?_
  refine lv_ishr hx hb dJ5_ensureCapacityInternal_d00df_9 ?_
  refine lv_istore_n (lv' := [(2, .int (n4 >>> (f6 &&& 31))), (0, .ref x0), (1, .int x1)]) hx hb dJ5_ensureCapacityInternal_d00df_10 rfl hl (by decide) rfl (fun ls hl => ?_)
  refine lv_iload_n hx hb dJ5_ensureCapacityInternal_d00df_11 rfl (lv_at hl 2 rfl) ?_
  refine lv_iload_n hx hb dJ5_ensureCapacityInternal_d00df_12 rfl (lv_at hl 0 rfl) ?_
  refine lv_isub hx hb dJ5_ensureCapacityInternal_d00df_13 ?_
  refine lv_if_le (tgt := 38) hx hb dJ5_ensureCapacityInternal_d00df_14 (by decide) (fun c8 => ?_) (fun c8 => ?_)
  · replace h := it_p c8 h
    exact hm_vret hx hb hr hI hL h (by omega) (by omega) hlocks dJ5_ensureCapacityInternal_d00df_38
  · replace h := it_n c8 h
    refine lv_aload_n hx hb dJ5_ensureCapacityInternal_d00df_17 rfl (lv_at hl 1 rfl) ?_
    refine lv_aload_n hx hb dJ5_ensureCapacityInternal_d00df_18 rfl (lv_at hl 1 rfl) ?_
    replace h := ob_s h
    obtain ⟨f9, h10, h⟩ := h
    refine hm_get S hK hI (pf_J5_15_1 hK) (gR_s h10) dJ5_ensureCapacityInternal_d00df_19 ?_
    refine lv_aload_n hx hb dJ5_ensureCapacityInternal_d00df_22 rfl (lv_at hl 1 rfl) ?_
    refine lv_iload_n hx hb dJ5_ensureCapacityInternal_d00df_23 rfl (lv_at hl 2 rfl) ?_
    replace h := ob_s h
    obtain ⟨_, h12, h⟩ := h
    replace h := cb_s h
    obtain ⟨r14, σ13, h11, h⟩ := h
    refine hm_call (hm_runV (As := [.int x1]) (rest := [va_rf f9, .ref x0]) (ci := 1) S hK hI (obC_s h12) rfl (mJ5_newCapacity_0f7a4 l E h11) (pm_J5_104 hK) (pi_J5_newCapacity_0f7a4 hK) (pl_J4_J5_newCapacity_0f7a4 hK) ⟨by omega, by omega⟩ rfl hl.1 (by cases f9 <;> exact Nat.le_of_ble_eq_true rfl) ⟨by omega, by omega⟩ dJ5_ensureCapacityInternal_d00df_24) hL (fun H locs hI hL => ?_)
    refine lv_aload_n hx hb dJ5_ensureCapacityInternal_d00df_27 rfl (lv_at hl 1 rfl) ?_
    replace h := ob_s h
    obtain ⟨f15, h16, h⟩ := h
    refine hm_get S hK hI (pf_J5_22_1 hK) (gI_s h16) dJ5_ensureCapacityInternal_d00df_28 ?_
    refine lv_ishl hx hb dJ5_ensureCapacityInternal_d00df_31 ?_
    replace h := cb_s h
    obtain ⟨r19, σ18, h17, h⟩ := h
    refine hm_call (hm_runS (As := [va_rf f9, .int (r14 <<< (f15 &&& 31))]) (rest := [.ref x0]) S hK hI (mJ7_copyOf_9075b l E h17) (pm_J5_108 hK) (ps_J7_copyOf_9075b hK) ⟨by omega, by omega⟩ rfl hl.1 (Nat.le_of_ble_eq_true rfl) ⟨by omega, by omega⟩ dJ5_ensureCapacityInternal_d00df_32) hL (fun H locs hI hL => ?_)
    replace h := ob_s h
    obtain ⟨σ20, h21, h⟩ := h
    refine hm_put S hK hI hL (pf_J5_15_1 hK) h21 rf_fitA dJ5_ensureCapacityInternal_d00df_35 (fun H locs hI hL => ?_)
    exact hm_vret hx hb hr hI hL h (by omega) (by omega) hlocks dJ5_ensureCapacityInternal_d00df_38

def fJ5_inflateIfNeededFor_a7421 (x0 : Nat) (x1 : Option Nat) (σ : hmS) : Option (Unit × hmS) :=
  if (1 : Int32) = 0 then
    some ((), σ)
  else
    ob (gI σ x0 1 1) fun f2 => ob x1 fun a4 => ob (obC σ a4 0) fun _ => cb (fJ0_coder_7d493 a4 σ) fun r8 σ7 => if f2 = r8 then
      some ((), σ7)
    else
      none
set_option maxHeartbeats 4000000 in
set_option maxRecDepth 100000 in
theorem mJ5_inflateIfNeededFor_a7421 (l : Launch) (E : hmG) {x0 : Nat} {x1 : Option Nat} {σ σ' : hmS} {r : Unit} (h : fJ5_inflateIfNeededFor_a7421 x0 x1 σ = some (r, σ')) : Met l yJ5_inflateIfNeededFor_a7421 [Cond.code yJ5_inflateIfNeededFor_a7421 cJ5_inflateIfNeededFor_a7421 2 none] { frames := 1, cells := 0, slots := 0, locals := 20 } (hmPc E [.ref x0, va_rf x1] σ) (hmQc E none σ') 0 0 (fun q => hmL E ≤ q) := by
  refine va_MetF (cc := cJ5_inflateIfNeededFor_a7421) (maxL := 2) (ret := none) (by decide +kernel) rfl ?_
  intro p e s m args below meth c s₁ B hml hv
  obtain ⟨rfl, hK, hI⟩ := hv
  have S : CallFix p m c cJ5_inflateIfNeededFor_a7421 2 s ([.ref x0, va_rf x1] : List Value).toArray [] RJ5 := ⟨B.exec, B.bytes, hml, findClass_of_methodNamed B.named, fun w hw => by cases hw⟩
  have hx := S.1
  have hb := S.2.1
  have hr := B.returns
  have hlocks := B.notSynchronized
  have hL : hmLo E [] := hmLo.nil
  have hl : lv_has ((lg_sl ([.ref x0, va_rf x1]) ++ List.replicate (2 - (lg_sl ([.ref x0, va_rf x1])).length) Slot.unset).toArray) 2 [(0, .ref x0), (1, va_rf x1)] := by cases x1 <;> exact lv_entry _ (Nat.le_of_ble_eq_true rfl)
  rw [lg_entry_eq]
  generalize (lg_sl ([.ref x0, va_rf x1]) ++ List.replicate (2 - (lg_sl ([.ref x0, va_rf x1])).length) Slot.unset).toArray = ls at hl ⊢
  generalize hRe : (headSpec [Cond.code yJ5_inflateIfNeededFor_a7421 cJ5_inflateIfNeededFor_a7421 2 none] { frames := 1, cells := 0, slots := 0, locals := 20 }).room = R
  have hR1 : R.frames = 1 ∧ R.cells = 0 ∧ R.slots = 0 ∧ R.locals = 20 := by rw [← hRe]; exact ⟨rfl, rfl, rfl, rfl⟩
  clear hRe B hml
  generalize s.heap = H at hI ⊢
  generalize ([] : List Loc) = locs at hL ⊢
  have hmain := h
  clear h
  have h := hmain
  clear hmain
  unfold fJ5_inflateIfNeededFor_a7421 at h
  refine hm_gets S hI hK.2.2.2.2.2.2.2.2.2.2.2.2.1 (hm_wd hK 172 (by decide +kernel) rfl _) dJ5_inflateIfNeededFor_a7421_0 ?_
  refine lv_if_eq (tgt := 21) hx hb dJ5_inflateIfNeededFor_a7421_3 (by decide) (fun c1 => ?_) (fun c1 => ?_)
  · replace h := it_p c1 h
    exact hm_vret hx hb hr hI hL h (by omega) (by omega) hlocks dJ5_inflateIfNeededFor_a7421_21
  · replace h := it_n c1 h
    refine lv_aload_n hx hb dJ5_inflateIfNeededFor_a7421_6 rfl (lv_at hl 0 rfl) ?_
    replace h := ob_s h
    obtain ⟨f2, h3, h⟩ := h
    refine hm_get S hK hI (pf_J5_22_1 hK) (gI_s h3) dJ5_inflateIfNeededFor_a7421_7 ?_
    refine hm_aload_n hx hb dJ5_inflateIfNeededFor_a7421_10 rfl (lv_at hl 1 rfl) ?_
    replace h := ob_s h
    obtain ⟨a4, rfl, h⟩ := h
    have hl : lv_has ls 2 [(0, .ref x0), (1, .ref a4)] := hl
    replace h := ob_s h
    obtain ⟨_, h6, h⟩ := h
    replace h := cb_s h
    obtain ⟨r8, σ7, h5, h⟩ := h
    refine hm_call (hm_runV (As := []) (rest := [.int f2]) (ci := 0) S hK hI (obC_s h6) rfl (mJ0_coder_7d493 l E h5) (pm_J5_40 hK) (pi_J0_coder_7d493 hK) (pl_J0_J0_coder_7d493 hK) ⟨by omega, by omega⟩ rfl hl.1 (Nat.le_of_ble_eq_true rfl) ⟨by omega, by omega⟩ dJ5_inflateIfNeededFor_a7421_11) hL (fun H locs hI hL => ?_)
    refine lv_icmp_eq (tgt := 21) hx hb dJ5_inflateIfNeededFor_a7421_14 (by decide) (fun c9 => ?_) (fun c9 => ?_)
    · replace h := it_p c9 h
      exact hm_vret hx hb hr hI hL h (by omega) (by omega) hlocks dJ5_inflateIfNeededFor_a7421_21
    · replace h := it_n c9 h
      refine lv_aload_n hx hb dJ5_inflateIfNeededFor_a7421_17 rfl (lv_at hl 0 rfl) ?_
      cases h

def fJ0_getBytes_840e7 (x0 : Nat) (x1 : Option Nat) (x2 : Int32) (x3 : Int32) (σ : hmS) : Option (Unit × hmS) :=
  ob (obC σ x0 0) fun _ => cb (fJ0_coder_7d493 x0 σ) fun r4 σ3 => if r4 = x3 then
    ob (gR σ3 x0 0 0) fun f13 => ob (gR σ3 x0 0 0) fun f15 => ob f15 fun a17 => ob (aN σ3 a17) fun n18 => ob x1 fun a20 => ob f13 fun a21 => ob (cpB σ3 a21 (0 : Int32) a20 (x2 <<< (x3 &&& 31)) n18) fun σ22 => some ((), σ22)
  else
    ob (gR σ3 x0 0 0) fun f6 => ob (gR σ3 x0 0 0) fun f8 => ob f8 fun a10 => ob (aN σ3 a10) fun n11 => none
set_option maxHeartbeats 4000000 in
set_option maxRecDepth 100000 in
theorem mJ0_getBytes_840e7 (l : Launch) (E : hmG) {x0 : Nat} {x1 : Option Nat} {x2 : Int32} {x3 : Int32} {σ σ' : hmS} {r : Unit} (h : fJ0_getBytes_840e7 x0 x1 x2 x3 σ = some (r, σ')) : Met l yJ0_getBytes_840e7 [Cond.code yJ0_getBytes_840e7 cJ0_getBytes_840e7 4 none] { frames := 1, cells := 0, slots := 0, locals := 40 } (hmPc E [.ref x0, va_rf x1, .int x2, .int x3] σ) (hmQc E none σ') 0 0 (fun q => hmL E ≤ q) := by
  refine va_MetF (cc := cJ0_getBytes_840e7) (maxL := 4) (ret := none) (by decide +kernel) rfl ?_
  intro p e s m args below meth c s₁ B hml hv
  obtain ⟨rfl, hK, hI⟩ := hv
  have S : CallFix p m c cJ0_getBytes_840e7 4 s ([.ref x0, va_rf x1, .int x2, .int x3] : List Value).toArray [] RJ0 := ⟨B.exec, B.bytes, hml, findClass_of_methodNamed B.named, fun w hw => by cases hw⟩
  have hx := S.1
  have hb := S.2.1
  have hr := B.returns
  have hlocks := B.notSynchronized
  have hL : hmLo E [] := hmLo.nil
  have hl : lv_has ((lg_sl ([.ref x0, va_rf x1, .int x2, .int x3]) ++ List.replicate (4 - (lg_sl ([.ref x0, va_rf x1, .int x2, .int x3])).length) Slot.unset).toArray) 4 [(0, .ref x0), (1, va_rf x1), (2, .int x2), (3, .int x3)] := by cases x1 <;> exact lv_entry _ (Nat.le_of_ble_eq_true rfl)
  rw [lg_entry_eq]
  generalize (lg_sl ([.ref x0, va_rf x1, .int x2, .int x3]) ++ List.replicate (4 - (lg_sl ([.ref x0, va_rf x1, .int x2, .int x3])).length) Slot.unset).toArray = ls at hl ⊢
  generalize hRe : (headSpec [Cond.code yJ0_getBytes_840e7 cJ0_getBytes_840e7 4 none] { frames := 1, cells := 0, slots := 0, locals := 40 }).room = R
  have hR1 : R.frames = 1 ∧ R.cells = 0 ∧ R.slots = 0 ∧ R.locals = 40 := by rw [← hRe]; exact ⟨rfl, rfl, rfl, rfl⟩
  clear hRe B hml
  generalize s.heap = H at hI ⊢
  generalize ([] : List Loc) = locs at hL ⊢
  have hmain := h
  clear h
  have h := hmain
  clear hmain
  unfold fJ0_getBytes_840e7 at h
  refine lv_aload_n hx hb dJ0_getBytes_840e7_0 rfl (lv_at hl 0 rfl) ?_
  replace h := ob_s h
  obtain ⟨_, h2, h⟩ := h
  replace h := cb_s h
  obtain ⟨r4, σ3, h1, h⟩ := h
  refine hm_call (hm_runV (As := []) (rest := []) (ci := 0) S hK hI (obC_s h2) rfl (mJ0_coder_7d493 l E h1) (pm_J0_335 hK) (pi_J0_coder_7d493 hK) (pl_J0_J0_coder_7d493 hK) ⟨by omega, by omega⟩ rfl hl.1 (Nat.le_of_ble_eq_true rfl) ⟨by omega, by omega⟩ dJ0_getBytes_840e7_1) hL (fun H locs hI hL => ?_)
  refine lv_iload_n hx hb dJ0_getBytes_840e7_4 rfl (lv_at hl 3 rfl) ?_
  refine lv_icmp_ne (tgt := 28) hx hb dJ0_getBytes_840e7_5 (by decide) (fun c5 => ?_) (fun c5 => ?_)
  · replace h := it_n c5 h
    refine lv_aload_n hx hb dJ0_getBytes_840e7_28 rfl (lv_at hl 0 rfl) ?_
    replace h := ob_s h
    obtain ⟨f6, h7, h⟩ := h
    refine hm_get S hK hI (pf_J0_9_0 hK) (gR_s h7) dJ0_getBytes_840e7_29 ?_
    refine lv_iconst (v := 0) hx hb dJ0_getBytes_840e7_32 (by decide) ?_
    refine hm_aload_n hx hb dJ0_getBytes_840e7_33 rfl (lv_at hl 1 rfl) ?_
    refine lv_iload_n hx hb dJ0_getBytes_840e7_34 rfl (lv_at hl 2 rfl) ?_
    refine lv_aload_n hx hb dJ0_getBytes_840e7_35 rfl (lv_at hl 0 rfl) ?_
    replace h := ob_s h
    obtain ⟨f8, h9, h⟩ := h
    refine hm_get S hK hI (pf_J0_9_0 hK) (gR_s h9) dJ0_getBytes_840e7_36 ?_
    replace h := ob_s h
    obtain ⟨a10, rfl, h⟩ := h
    have hl : lv_has ls 4 [(0, .ref x0), (1, va_rf x1), (2, .int x2), (3, .int x3)] := hl
    replace h := ob_s h
    obtain ⟨n11, h12, h⟩ := h
    refine hm_aN S hK hI h12 dJ0_getBytes_840e7_39 ?_
    cases h
  · replace h := it_p c5 h
    refine lv_aload_n hx hb dJ0_getBytes_840e7_8 rfl (lv_at hl 0 rfl) ?_
    replace h := ob_s h
    obtain ⟨f13, h14, h⟩ := h
    refine hm_get S hK hI (pf_J0_9_0 hK) (gR_s h14) dJ0_getBytes_840e7_9 ?_
    refine lv_iconst (v := 0) hx hb dJ0_getBytes_840e7_12 (by decide) ?_
    refine hm_aload_n hx hb dJ0_getBytes_840e7_13 rfl (lv_at hl 1 rfl) ?_
    refine lv_iload_n hx hb dJ0_getBytes_840e7_14 rfl (lv_at hl 2 rfl) ?_
    refine lv_iload_n hx hb dJ0_getBytes_840e7_15 rfl (lv_at hl 3 rfl) ?_
    refine lv_ishl hx hb dJ0_getBytes_840e7_16 ?_
    refine lv_aload_n hx hb dJ0_getBytes_840e7_17 rfl (lv_at hl 0 rfl) ?_
    replace h := ob_s h
    obtain ⟨f15, h16, h⟩ := h
    refine hm_get S hK hI (pf_J0_9_0 hK) (gR_s h16) dJ0_getBytes_840e7_18 ?_
    replace h := ob_s h
    obtain ⟨a17, rfl, h⟩ := h
    have hl : lv_has ls 4 [(0, .ref x0), (1, va_rf x1), (2, .int x2), (3, .int x3)] := hl
    replace h := ob_s h
    obtain ⟨n18, h19, h⟩ := h
    refine hm_aN S hK hI h19 dJ0_getBytes_840e7_21 ?_
    replace h := ob_s h
    obtain ⟨a20, rfl, h⟩ := h
    have hl : lv_has ls 4 [(0, .ref x0), (1, .ref a20), (2, .int x2), (3, .int x3)] := hl
    replace h := ob_s h
    obtain ⟨a21, rfl, h⟩ := h
    have hl : lv_has ls 4 [(0, .ref x0), (1, .ref a20), (2, .int x2), (3, .int x3)] := hl
    replace h := ob_s h
    obtain ⟨σ22, h23, h⟩ := h
    refine hm_copyB (i1 := 313) (i2 := 240) (i3 := 239) (i4 := 14) S hK hI hL (by decide +kernel) (by decide +kernel) (by decide +kernel) (by decide +kernel) h23 hl.1 (by omega) (Nat.le_of_ble_eq_true rfl) (by omega) dJ0_getBytes_840e7_22 (fun H locs hI hL => ?_)
    refine lv_goto (tgt := 43) hx hb dJ0_getBytes_840e7_25 (by decide) ?_
    exact hm_vret hx hb hr hI hL h (by omega) (by omega) hlocks dJ0_getBytes_840e7_43

def fJ5_putStringAt_47b60 (x0 : Nat) (x1 : Int32) (x2 : Option Nat) (σ : hmS) : Option (Unit × hmS) :=
  ob (obC σ x0 1) fun _ => cb (fJ5_inflateIfNeededFor_a7421 x0 x2 σ) fun _ σ3 => ob (gR σ3 x0 1 0) fun f4 => ob (gI σ3 x0 1 1) fun f6 => ob x2 fun a8 => ob (obC σ3 a8 0) fun _ => cb (fJ0_getBytes_840e7 a8 f4 x1 f6 σ3) fun _ σ11 => some ((), σ11)
set_option maxHeartbeats 4000000 in
set_option maxRecDepth 100000 in
theorem mJ5_putStringAt_47b60 (l : Launch) (E : hmG) {x0 : Nat} {x1 : Int32} {x2 : Option Nat} {σ σ' : hmS} {r : Unit} (h : fJ5_putStringAt_47b60 x0 x1 x2 σ = some (r, σ')) : Met l yJ5_putStringAt_47b60 [Cond.code yJ5_putStringAt_47b60 cJ5_putStringAt_47b60 3 none] { frames := 2, cells := 0, slots := 0, locals := 63 } (hmPc E [.ref x0, .int x1, va_rf x2] σ) (hmQc E none σ') 0 0 (fun q => hmL E ≤ q) := by
  refine va_MetF (cc := cJ5_putStringAt_47b60) (maxL := 3) (ret := none) (by decide +kernel) rfl ?_
  intro p e s m args below meth c s₁ B hml hv
  obtain ⟨rfl, hK, hI⟩ := hv
  have S : CallFix p m c cJ5_putStringAt_47b60 3 s ([.ref x0, .int x1, va_rf x2] : List Value).toArray [] RJ5 := ⟨B.exec, B.bytes, hml, findClass_of_methodNamed B.named, fun w hw => by cases hw⟩
  have hx := S.1
  have hb := S.2.1
  have hr := B.returns
  have hlocks := B.notSynchronized
  have hL : hmLo E [] := hmLo.nil
  have hl : lv_has ((lg_sl ([.ref x0, .int x1, va_rf x2]) ++ List.replicate (3 - (lg_sl ([.ref x0, .int x1, va_rf x2])).length) Slot.unset).toArray) 3 [(0, .ref x0), (1, .int x1), (2, va_rf x2)] := by cases x2 <;> exact lv_entry _ (Nat.le_of_ble_eq_true rfl)
  rw [lg_entry_eq]
  generalize (lg_sl ([.ref x0, .int x1, va_rf x2]) ++ List.replicate (3 - (lg_sl ([.ref x0, .int x1, va_rf x2])).length) Slot.unset).toArray = ls at hl ⊢
  generalize hRe : (headSpec [Cond.code yJ5_putStringAt_47b60 cJ5_putStringAt_47b60 3 none] { frames := 2, cells := 0, slots := 0, locals := 63 }).room = R
  have hR1 : R.frames = 2 ∧ R.cells = 0 ∧ R.slots = 0 ∧ R.locals = 63 := by rw [← hRe]; exact ⟨rfl, rfl, rfl, rfl⟩
  clear hRe B hml
  generalize s.heap = H at hI ⊢
  generalize ([] : List Loc) = locs at hL ⊢
  have hmain := h
  clear h
  have h := hmain
  clear hmain
  unfold fJ5_putStringAt_47b60 at h
  refine lv_aload_n hx hb dJ5_putStringAt_47b60_0 rfl (lv_at hl 0 rfl) ?_
  refine hm_aload_n hx hb dJ5_putStringAt_47b60_1 rfl (lv_at hl 2 rfl) ?_
  replace h := ob_s h
  obtain ⟨_, h2, h⟩ := h
  replace h := cb_s h
  obtain ⟨u0, σ3, h1, h⟩ := h
  refine hm_callv (hm_runV (As := [va_rf x2]) (rest := []) (ci := 1) S hK hI (obC_s h2) rfl (mJ5_inflateIfNeededFor_a7421 l E h1) (pm_J5_397 hK) (pi_J5_inflateIfNeededFor_a7421 hK) (pl_J4_J5_inflateIfNeededFor_a7421 hK) ⟨by omega, by omega⟩ rfl hl.1 (Nat.le_of_ble_eq_true rfl) ⟨by omega, by omega⟩ dJ5_putStringAt_47b60_2) hL (fun H locs hI hL => ?_)
  refine hm_aload_n hx hb dJ5_putStringAt_47b60_5 rfl (lv_at hl 2 rfl) ?_
  refine lv_aload_n hx hb dJ5_putStringAt_47b60_6 rfl (lv_at hl 0 rfl) ?_
  replace h := ob_s h
  obtain ⟨f4, h5, h⟩ := h
  refine hm_get S hK hI (pf_J5_15_1 hK) (gR_s h5) dJ5_putStringAt_47b60_7 ?_
  refine lv_iload_n hx hb dJ5_putStringAt_47b60_10 rfl (lv_at hl 1 rfl) ?_
  refine lv_aload_n hx hb dJ5_putStringAt_47b60_11 rfl (lv_at hl 0 rfl) ?_
  replace h := ob_s h
  obtain ⟨f6, h7, h⟩ := h
  refine hm_get S hK hI (pf_J5_22_1 hK) (gI_s h7) dJ5_putStringAt_47b60_12 ?_
  replace h := ob_s h
  obtain ⟨a8, rfl, h⟩ := h
  have hl : lv_has ls 3 [(0, .ref x0), (1, .int x1), (2, .ref a8)] := hl
  replace h := ob_s h
  obtain ⟨_, h10, h⟩ := h
  replace h := cb_s h
  obtain ⟨u0, σ11, h9, h⟩ := h
  refine hm_callv (hm_runV (As := [va_rf f4, .int x1, .int f6]) (rest := []) (ci := 0) S hK hI (obC_s h10) rfl (mJ0_getBytes_840e7 l E h9) (pm_J5_399 hK) (pi_J0_getBytes_840e7 hK) (pl_J0_J0_getBytes_840e7 hK) ⟨by omega, by omega⟩ rfl hl.1 (Nat.le_of_ble_eq_true rfl) ⟨by omega, by omega⟩ dJ5_putStringAt_47b60_15) hL (fun H locs hI hL => ?_)
  exact hm_vret hx hb hr hI hL h (by omega) (by omega) hlocks dJ5_putStringAt_47b60_18

def fJ5_append_cf1ce (x0 : Nat) (x1 : Option Nat) (σ : hmS) : Option (Option Nat × hmS) :=
  oc x1
    (none)
    (fun a1 => ob (obC σ a1 0) fun _ => cb (fJ0_length_8abf5 a1 σ) fun r5 σ4 => ob (gI σ4 x0 1 3) fun f6 => ob (obC σ4 x0 1) fun _ => cb (fJ5_ensureCapacityInternal_d00df x0 (f6 + r5) σ4) fun _ σ10 => ob (gI σ10 x0 1 3) fun f11 => ob (obC σ10 x0 1) fun _ => cb (fJ5_putStringAt_47b60 x0 f11 (some a1) σ10) fun _ σ15 => ob (gI σ15 x0 1 3) fun f16 => ob (wF σ15 x0 1 3 (.int (f16 + r5))) fun σ18 => some ((some x0), σ18))
set_option maxHeartbeats 4000000 in
set_option maxRecDepth 100000 in
theorem mJ5_append_cf1ce (l : Launch) (E : hmG) {x0 : Nat} {x1 : Option Nat} {σ σ' : hmS} {r : Option Nat} (h : fJ5_append_cf1ce x0 x1 σ = some (r, σ')) : Met l yJ5_append_cf1ce [Cond.code yJ5_append_cf1ce cJ5_append_cf1ce 3 (some (.object "java/lang/AbstractStringBuilder"))] { frames := 4, cells := 1, slots := 128, locals := 91 } (hmPc E [.ref x0, va_rf x1] σ) (hmQc E (some (va_rf r)) σ') 1 128 (fun q => hmL E ≤ q) := by
  refine va_MetF (cc := cJ5_append_cf1ce) (maxL := 3) (ret := (some (.object "java/lang/AbstractStringBuilder"))) (by decide +kernel) rfl ?_
  intro p e s m args below meth c s₁ B hml hv
  obtain ⟨rfl, hK, hI⟩ := hv
  have S : CallFix p m c cJ5_append_cf1ce 3 s ([.ref x0, va_rf x1] : List Value).toArray [] RJ5 := ⟨B.exec, B.bytes, hml, findClass_of_methodNamed B.named, fun w hw => by cases hw⟩
  have hx := S.1
  have hb := S.2.1
  have hr := B.returns
  have hlocks := B.notSynchronized
  have hL : hmLo E [] := hmLo.nil
  have hl : lv_has ((lg_sl ([.ref x0, va_rf x1]) ++ List.replicate (3 - (lg_sl ([.ref x0, va_rf x1])).length) Slot.unset).toArray) 3 [(0, .ref x0), (1, va_rf x1)] := by cases x1 <;> exact lv_entry _ (Nat.le_of_ble_eq_true rfl)
  rw [lg_entry_eq]
  generalize (lg_sl ([.ref x0, va_rf x1]) ++ List.replicate (3 - (lg_sl ([.ref x0, va_rf x1])).length) Slot.unset).toArray = ls at hl ⊢
  generalize hRe : (headSpec [Cond.code yJ5_append_cf1ce cJ5_append_cf1ce 3 (some (.object "java/lang/AbstractStringBuilder"))] { frames := 4, cells := 1, slots := 128, locals := 91 }).room = R
  have hR1 : R.frames = 4 ∧ R.cells = 1 ∧ R.slots = 128 ∧ R.locals = 91 := by rw [← hRe]; exact ⟨rfl, rfl, rfl, rfl⟩
  clear hRe B hml
  generalize s.heap = H at hI ⊢
  generalize ([] : List Loc) = locs at hL ⊢
  have hmain := h
  clear h
  have h := hmain
  clear hmain
  unfold fJ5_append_cf1ce at h
  refine hm_aload_n hx hb dJ5_append_cf1ce_0 rfl (lv_at hl 1 rfl) ?_
  cases x1 with
  | none =>
    replace h := oc_n h
    have hl : lv_has ls 3 [(0, .ref x0), (1, va_rf none)] := hl
    refine lv_ifnonnullN hx hb dJ5_append_cf1ce_1 ?_
    refine lv_aload_n hx hb dJ5_append_cf1ce_4 rfl (lv_at hl 0 rfl) ?_
    cases h
  | some a1 =>
    replace h := oc_s h
    have hl : lv_has ls 3 [(0, .ref x0), (1, .ref a1)] := hl
    refine lv_ifnonnull (tgt := 9) hx hb dJ5_append_cf1ce_1 (by decide) ?_
    refine lv_aload_n hx hb dJ5_append_cf1ce_9 rfl (lv_at hl 1 rfl) ?_
    replace h := ob_s h
    obtain ⟨_, h3, h⟩ := h
    replace h := cb_s h
    obtain ⟨r5, σ4, h2, h⟩ := h
    refine hm_call (hm_runV (As := []) (rest := []) (ci := 0) S hK hI (obC_s h3) rfl (mJ0_length_8abf5 l E h2) (pm_J5_32 hK) (pi_J0_length_8abf5 hK) (pl_J0_J0_length_8abf5 hK) ⟨by omega, by omega⟩ rfl hl.1 (Nat.le_of_ble_eq_true rfl) ⟨by omega, by omega⟩ dJ5_append_cf1ce_10) hL (fun H locs hI hL => ?_)
    refine lv_istore_n (lv' := [(2, .int r5), (0, .ref x0), (1, .ref a1)]) hx hb dJ5_append_cf1ce_13 rfl hl (by decide) rfl (fun ls hl => ?_)
    refine lv_aload_n hx hb dJ5_append_cf1ce_14 rfl (lv_at hl 1 rfl) ?_
    refine lv_aload_n hx hb dJ5_append_cf1ce_15 rfl (lv_at hl 1 rfl) ?_
    replace h := ob_s h
    obtain ⟨f6, h7, h⟩ := h
    refine hm_get S hK hI (pf_J5_79_1 hK) (gI_s h7) dJ5_append_cf1ce_16 ?_
    refine lv_iload_n hx hb dJ5_append_cf1ce_19 rfl (lv_at hl 0 rfl) ?_
    refine lv_iadd hx hb dJ5_append_cf1ce_20 ?_
    replace h := ob_s h
    obtain ⟨_, h9, h⟩ := h
    replace h := cb_s h
    obtain ⟨u0, σ10, h8, h⟩ := h
    refine hm_callv (hm_runV (As := [.int (f6 + r5)]) (rest := []) (ci := 1) S hK hI (obC_s h9) rfl (mJ5_ensureCapacityInternal_d00df l E h8) (pm_J5_100 hK) (pi_J5_ensureCapacityInternal_d00df hK) (pl_J4_J5_ensureCapacityInternal_d00df hK) ⟨by omega, by omega⟩ rfl hl.1 (Nat.le_of_ble_eq_true rfl) ⟨by omega, by omega⟩ dJ5_append_cf1ce_21) hL (fun H locs hI hL => ?_)
    refine lv_aload_n hx hb dJ5_append_cf1ce_24 rfl (lv_at hl 1 rfl) ?_
    refine lv_aload_n hx hb dJ5_append_cf1ce_25 rfl (lv_at hl 1 rfl) ?_
    replace h := ob_s h
    obtain ⟨f11, h12, h⟩ := h
    refine hm_get S hK hI (pf_J5_79_1 hK) (gI_s h12) dJ5_append_cf1ce_26 ?_
    refine lv_aload_n hx hb dJ5_append_cf1ce_29 rfl (lv_at hl 2 rfl) ?_
    replace h := ob_s h
    obtain ⟨_, h14, h⟩ := h
    replace h := cb_s h
    obtain ⟨u0, σ15, h13, h⟩ := h
    refine hm_callv (hm_runV (As := [.int f11, .ref a1]) (rest := []) (ci := 1) S hK hI (obC_s h14) rfl (mJ5_putStringAt_47b60 l E h13) (pm_J5_208 hK) (pi_J5_putStringAt_47b60 hK) (pl_J4_J5_putStringAt_47b60 hK) ⟨by omega, by omega⟩ rfl hl.1 (Nat.le_of_ble_eq_true rfl) ⟨by omega, by omega⟩ dJ5_append_cf1ce_30) hL (fun H locs hI hL => ?_)
    refine lv_aload_n hx hb dJ5_append_cf1ce_33 rfl (lv_at hl 1 rfl) ?_
    refine lv_dup hx hb dJ5_append_cf1ce_34 rfl ?_
    replace h := ob_s h
    obtain ⟨f16, h17, h⟩ := h
    refine hm_get S hK hI (pf_J5_79_1 hK) (gI_s h17) dJ5_append_cf1ce_35 ?_
    refine lv_iload_n hx hb dJ5_append_cf1ce_38 rfl (lv_at hl 0 rfl) ?_
    refine lv_iadd hx hb dJ5_append_cf1ce_39 ?_
    replace h := ob_s h
    obtain ⟨σ18, h19, h⟩ := h
    refine hm_put S hK hI hL (pf_J5_79_1 hK) h19 ⟨rfl, rfl⟩ dJ5_append_cf1ce_40 (fun H locs hI hL => ?_)
    refine lv_aload_n hx hb dJ5_append_cf1ce_43 rfl (lv_at hl 1 rfl) ?_
    exact hm_aret hx hb hr (Or.inl ⟨_, rfl⟩) hI hL h (by omega) (by omega) hlocks dJ5_append_cf1ce_44

def fJ4_append_15ec4 (x0 : Nat) (x1 : Option Nat) (σ : hmS) : Option (Option Nat × hmS) :=
  ob (obC σ x0 1) fun _ => cb (fJ5_append_cf1ce x0 x1 σ) fun r4 σ3 => some ((some x0), σ3)
set_option maxHeartbeats 4000000 in
set_option maxRecDepth 100000 in
theorem mJ4_append_15ec4 (l : Launch) (E : hmG) {x0 : Nat} {x1 : Option Nat} {σ σ' : hmS} {r : Option Nat} (h : fJ4_append_15ec4 x0 x1 σ = some (r, σ')) : Met l yJ4_append_15ec4 [Cond.code yJ4_append_15ec4 cJ4_append_15ec4 2 (some (.object "java/lang/StringBuilder"))] { frames := 5, cells := 1, slots := 128, locals := 113 } (hmPc E [.ref x0, va_rf x1] σ) (hmQc E (some (va_rf r)) σ') 1 128 (fun q => hmL E ≤ q) := by
  refine va_MetF (cc := cJ4_append_15ec4) (maxL := 2) (ret := (some (.object "java/lang/StringBuilder"))) (by decide +kernel) rfl ?_
  intro p e s m args below meth c s₁ B hml hv
  obtain ⟨rfl, hK, hI⟩ := hv
  have S : CallFix p m c cJ4_append_15ec4 2 s ([.ref x0, va_rf x1] : List Value).toArray [] RJ4 := ⟨B.exec, B.bytes, hml, findClass_of_methodNamed B.named, fun w hw => by cases hw⟩
  have hx := S.1
  have hb := S.2.1
  have hr := B.returns
  have hlocks := B.notSynchronized
  have hL : hmLo E [] := hmLo.nil
  have hl : lv_has ((lg_sl ([.ref x0, va_rf x1]) ++ List.replicate (2 - (lg_sl ([.ref x0, va_rf x1])).length) Slot.unset).toArray) 2 [(0, .ref x0), (1, va_rf x1)] := by cases x1 <;> exact lv_entry _ (Nat.le_of_ble_eq_true rfl)
  rw [lg_entry_eq]
  generalize (lg_sl ([.ref x0, va_rf x1]) ++ List.replicate (2 - (lg_sl ([.ref x0, va_rf x1])).length) Slot.unset).toArray = ls at hl ⊢
  generalize hRe : (headSpec [Cond.code yJ4_append_15ec4 cJ4_append_15ec4 2 (some (.object "java/lang/StringBuilder"))] { frames := 5, cells := 1, slots := 128, locals := 113 }).room = R
  have hR1 : R.frames = 5 ∧ R.cells = 1 ∧ R.slots = 128 ∧ R.locals = 113 := by rw [← hRe]; exact ⟨rfl, rfl, rfl, rfl⟩
  clear hRe B hml
  generalize s.heap = H at hI ⊢
  generalize ([] : List Loc) = locs at hL ⊢
  have hmain := h
  clear h
  have h := hmain
  clear hmain
  unfold fJ4_append_15ec4 at h
  refine lv_aload_n hx hb dJ4_append_15ec4_0 rfl (lv_at hl 0 rfl) ?_
  refine hm_aload_n hx hb dJ4_append_15ec4_1 rfl (lv_at hl 1 rfl) ?_
  replace h := ob_s h
  obtain ⟨_, h2, h⟩ := h
  replace h := cb_s h
  obtain ⟨r4, σ3, h1, h⟩ := h
  refine hm_call (hm_runSU (As := [va_rf x1]) (rest := []) (ci := 1) S hK hI (obC_s h2) rfl (mJ5_append_cf1ce l E h1) (pm_J4_29 hK) (pi_J5_append_cf1ce hK) 1020 193 (by decide +kernel) (by decide +kernel) (by decide) ⟨by omega, by omega⟩ rfl hl.1 (Nat.le_of_ble_eq_true rfl) ⟨by omega, by omega⟩ dJ4_append_15ec4_2) hL (fun H locs hI hL => ?_)
  refine lv_pop hx hb dJ4_append_15ec4_5 (by cases r4 <;> rfl) ?_
  refine lv_aload_n hx hb dJ4_append_15ec4_6 rfl (lv_at hl 0 rfl) ?_
  exact hm_aret hx hb hr (Or.inl ⟨_, rfl⟩) hI hL h (by omega) (by omega) hlocks dJ4_append_15ec4_7

def fJ5_isLatin1_aae02 (x0 : Nat) (σ : hmS) : Option (Int32 × hmS) :=
  if (1 : Int32) = 0 then
    some ((0 : Int32), σ)
  else
    ob (gI σ x0 1 1) fun f2 => if f2 = 0 then
      some ((1 : Int32), σ)
    else
      some ((0 : Int32), σ)
set_option maxHeartbeats 4000000 in
set_option maxRecDepth 100000 in
theorem mJ5_isLatin1_aae02 (l : Launch) (E : hmG) {x0 : Nat} {σ σ' : hmS} {r : Int32} (h : fJ5_isLatin1_aae02 x0 σ = some (r, σ')) : Met l yJ5_isLatin1_aae02 [Cond.code yJ5_isLatin1_aae02 cJ5_isLatin1_aae02 1 (some .boolean)] { frames := 0, cells := 0, slots := 0, locals := 0 } (hmPc E [.ref x0] σ) (hmQc E (some (.int r)) σ') 0 0 (fun q => hmL E ≤ q) := by
  refine va_MetF (cc := cJ5_isLatin1_aae02) (maxL := 1) (ret := (some .boolean)) (by decide +kernel) rfl ?_
  intro p e s m args below meth c s₁ B hml hv
  obtain ⟨rfl, hK, hI⟩ := hv
  have S : CallFix p m c cJ5_isLatin1_aae02 1 s ([.ref x0] : List Value).toArray [] RJ5 := ⟨B.exec, B.bytes, hml, findClass_of_methodNamed B.named, fun w hw => by cases hw⟩
  have hx := S.1
  have hb := S.2.1
  have hr := B.returns
  have hlocks := B.notSynchronized
  have hL : hmLo E [] := hmLo.nil
  have hl : lv_has ((lg_sl ([.ref x0]) ++ List.replicate (1 - (lg_sl ([.ref x0])).length) Slot.unset).toArray) 1 [(0, .ref x0)] := by exact lv_entry _ (Nat.le_of_ble_eq_true rfl)
  rw [lg_entry_eq]
  generalize (lg_sl ([.ref x0]) ++ List.replicate (1 - (lg_sl ([.ref x0])).length) Slot.unset).toArray = ls at hl ⊢
  generalize hRe : (headSpec [Cond.code yJ5_isLatin1_aae02 cJ5_isLatin1_aae02 1 (some .boolean)] { frames := 0, cells := 0, slots := 0, locals := 0 }).room = R
  have hR1 : R.frames = 0 ∧ R.cells = 0 ∧ R.slots = 0 ∧ R.locals = 0 := by rw [← hRe]; exact ⟨rfl, rfl, rfl, rfl⟩
  clear hRe B hml
  generalize s.heap = H at hI ⊢
  generalize ([] : List Loc) = locs at hL ⊢
  have hmain := h
  clear h
  have h := hmain
  clear hmain
  unfold fJ5_isLatin1_aae02 at h
  refine hm_gets S hI hK.2.2.2.2.2.2.2.2.2.2.2.2.1 (hm_wd hK 172 (by decide +kernel) rfl _) dJ5_isLatin1_aae02_0 ?_
  refine lv_if_eq (tgt := 17) hx hb dJ5_isLatin1_aae02_3 (by decide) (fun c1 => ?_) (fun c1 => ?_)
  · replace h := it_p c1 h
    refine lv_iconst (v := 0) hx hb dJ5_isLatin1_aae02_17 (by decide) ?_
    exact hm_zret hx hb hr rfl hI hL h (by omega) (by omega) hlocks dJ5_isLatin1_aae02_18
  · replace h := it_n c1 h
    refine lv_aload_n hx hb dJ5_isLatin1_aae02_6 rfl (lv_at hl 0 rfl) ?_
    replace h := ob_s h
    obtain ⟨f2, h3, h⟩ := h
    refine hm_get S hK hI (pf_J5_22_1 hK) (gI_s h3) dJ5_isLatin1_aae02_7 ?_
    refine lv_if_ne (tgt := 17) hx hb dJ5_isLatin1_aae02_10 (by decide) (fun c4 => ?_) (fun c4 => ?_)
    · replace h := it_n c4 h
      refine lv_iconst (v := 0) hx hb dJ5_isLatin1_aae02_17 (by decide) ?_
      exact hm_zret hx hb hr rfl hI hL h (by omega) (by omega) hlocks dJ5_isLatin1_aae02_18
    · replace h := it_p c4 h
      refine lv_iconst (v := 1) hx hb dJ5_isLatin1_aae02_13 (by decide) ?_
      refine lv_goto (tgt := 18) hx hb dJ5_isLatin1_aae02_14 (by decide) ?_
      exact hm_zret hx hb hr rfl hI hL h (by omega) (by omega) hlocks dJ5_isLatin1_aae02_18

def fJ1_canEncode_fc78d (x0 : Int32) (σ : hmS) : Option (Int32 × hmS) :=
  if (255 : Int32) < x0 then
    some ((0 : Int32), σ)
  else
    some ((1 : Int32), σ)
set_option maxHeartbeats 4000000 in
set_option maxRecDepth 100000 in
theorem mJ1_canEncode_fc78d (l : Launch) (E : hmG) {x0 : Int32} {σ σ' : hmS} {r : Int32} (h : fJ1_canEncode_fc78d x0 σ = some (r, σ')) : Met l yJ1_canEncode_fc78d [Cond.code yJ1_canEncode_fc78d cJ1_canEncode_fc78d 1 (some .boolean)] { frames := 0, cells := 0, slots := 0, locals := 0 } (hmPc E [.int x0] σ) (hmQc E (some (.int r)) σ') 0 0 (fun q => hmL E ≤ q) := by
  refine va_MetF (cc := cJ1_canEncode_fc78d) (maxL := 1) (ret := (some .boolean)) (by decide +kernel) rfl ?_
  intro p e s m args below meth c s₁ B hml hv
  obtain ⟨rfl, hK, hI⟩ := hv
  have S : CallFix p m c cJ1_canEncode_fc78d 1 s ([.int x0] : List Value).toArray [] RJ1 := ⟨B.exec, B.bytes, hml, findClass_of_methodNamed B.named, fun w hw => by cases hw⟩
  have hx := S.1
  have hb := S.2.1
  have hr := B.returns
  have hlocks := B.notSynchronized
  have hL : hmLo E [] := hmLo.nil
  have hl : lv_has ((lg_sl ([.int x0]) ++ List.replicate (1 - (lg_sl ([.int x0])).length) Slot.unset).toArray) 1 [(0, .int x0)] := by exact lv_entry _ (Nat.le_of_ble_eq_true rfl)
  rw [lg_entry_eq]
  generalize (lg_sl ([.int x0]) ++ List.replicate (1 - (lg_sl ([.int x0])).length) Slot.unset).toArray = ls at hl ⊢
  generalize hRe : (headSpec [Cond.code yJ1_canEncode_fc78d cJ1_canEncode_fc78d 1 (some .boolean)] { frames := 0, cells := 0, slots := 0, locals := 0 }).room = R
  have hR1 : R.frames = 0 ∧ R.cells = 0 ∧ R.slots = 0 ∧ R.locals = 0 := by rw [← hRe]; exact ⟨rfl, rfl, rfl, rfl⟩
  clear hRe B hml
  generalize s.heap = H at hI ⊢
  generalize ([] : List Loc) = locs at hL ⊢
  have hmain := h
  clear h
  have h := hmain
  clear hmain
  unfold fJ1_canEncode_fc78d at h
  refine lv_iload_n hx hb dJ1_canEncode_fc78d_0 rfl (lv_at hl 0 rfl) ?_
  refine lv_sipush (v := 255) hx hb dJ1_canEncode_fc78d_1 (by decide) ?_
  refine lv_icmp_gt (tgt := 11) hx hb dJ1_canEncode_fc78d_4 (by decide) (fun c1 => ?_) (fun c1 => ?_)
  · replace h := it_p c1 h
    refine lv_iconst (v := 0) hx hb dJ1_canEncode_fc78d_11 (by decide) ?_
    exact hm_zret hx hb hr rfl hI hL h (by omega) (by omega) hlocks dJ1_canEncode_fc78d_12
  · replace h := it_n c1 h
    refine lv_iconst (v := 1) hx hb dJ1_canEncode_fc78d_7 (by decide) ?_
    refine lv_goto (tgt := 12) hx hb dJ1_canEncode_fc78d_8 (by decide) ?_
    exact hm_zret hx hb hr rfl hI hL h (by omega) (by omega) hlocks dJ1_canEncode_fc78d_12

def fJ5_append_3fe6f_J56 (x0 : Nat) (x1 : Int32)   (σ : hmS) : Option (Option Nat × hmS) :=
  ob (gR σ x0 1 0) fun f1 => ob (gI σ x0 1 3) fun f3 => ob (wF σ x0 1 3 (.int (f3 + (1 : Int32)))) fun σ5 => none
def fJ5_append_3fe6f_J45 (x0 : Nat) (x1 : Int32)   (σ : hmS) : Option (Option Nat × hmS) :=
  ob (obC σ x0 1) fun _ => cb (fJ5_isLatin1_aae02 x0 σ) fun r4 σ3 => if r4 = 0 then
    fJ5_append_3fe6f_J56 x0 x1 σ3
  else
    none
def fJ5_append_3fe6f (x0 : Nat) (x1 : Int32) (σ : hmS) : Option (Option Nat × hmS) :=
  ob (gI σ x0 1 3) fun f1 => ob (obC σ x0 1) fun _ => cb (fJ5_ensureCapacityInternal_d00df x0 (f1 + (1 : Int32)) σ) fun _ σ5 => ob (obC σ5 x0 1) fun _ => cb (fJ5_isLatin1_aae02 x0 σ5) fun r9 σ8 => if r9 = 0 then
    fJ5_append_3fe6f_J45 x0 x1 σ8
  else
    cb (fJ1_canEncode_fc78d x1 σ8) fun r13 σ12 => if r13 = 0 then
      fJ5_append_3fe6f_J45 x0 x1 σ12
    else
      ob (gR σ12 x0 1 0) fun f15 => ob (gI σ12 x0 1 3) fun f17 => ob (wF σ12 x0 1 3 (.int (f17 + (1 : Int32)))) fun σ19 => ob f15 fun a21 => ob (sI σ19 3 a21 f17 (vp_nar .byte ((x1).toInt8.toInt32))) fun σ22 => some ((some x0), σ22)
set_option maxHeartbeats 4000000 in
set_option maxRecDepth 100000 in
theorem mJ5_append_3fe6f (l : Launch) (E : hmG) {x0 : Nat} {x1 : Int32} {σ σ' : hmS} {r : Option Nat} (h : fJ5_append_3fe6f x0 x1 σ = some (r, σ')) : Met l yJ5_append_3fe6f [Cond.code yJ5_append_3fe6f cJ5_append_3fe6f 2 (some (.object "java/lang/AbstractStringBuilder"))] { frames := 4, cells := 1, slots := 128, locals := 91 } (hmPc E [.ref x0, .int x1] σ) (hmQc E (some (va_rf r)) σ') 1 128 (fun q => hmL E ≤ q) := by
  refine va_MetF (cc := cJ5_append_3fe6f) (maxL := 2) (ret := (some (.object "java/lang/AbstractStringBuilder"))) (by decide +kernel) rfl ?_
  intro p e s m args below meth c s₁ B hml hv
  obtain ⟨rfl, hK, hI⟩ := hv
  have S : CallFix p m c cJ5_append_3fe6f 2 s ([.ref x0, .int x1] : List Value).toArray [] RJ5 := ⟨B.exec, B.bytes, hml, findClass_of_methodNamed B.named, fun w hw => by cases hw⟩
  have hx := S.1
  have hb := S.2.1
  have hr := B.returns
  have hlocks := B.notSynchronized
  have hL : hmLo E [] := hmLo.nil
  have hl : lv_has ((lg_sl ([.ref x0, .int x1]) ++ List.replicate (2 - (lg_sl ([.ref x0, .int x1])).length) Slot.unset).toArray) 2 [(0, .ref x0), (1, .int x1)] := by exact lv_entry _ (Nat.le_of_ble_eq_true rfl)
  rw [lg_entry_eq]
  generalize (lg_sl ([.ref x0, .int x1]) ++ List.replicate (2 - (lg_sl ([.ref x0, .int x1])).length) Slot.unset).toArray = ls at hl ⊢
  generalize hRe : (headSpec [Cond.code yJ5_append_3fe6f cJ5_append_3fe6f 2 (some (.object "java/lang/AbstractStringBuilder"))] { frames := 4, cells := 1, slots := 128, locals := 91 }).room = R
  have hR1 : R.frames = 4 ∧ R.cells = 1 ∧ R.slots = 128 ∧ R.locals = 91 := by rw [← hRe]; exact ⟨rfl, rfl, rfl, rfl⟩
  clear hRe B hml
  generalize s.heap = H at hI ⊢
  generalize ([] : List Loc) = locs at hL ⊢
  have hmain := h
  clear h
  have hJ56 : ∀  (σ : hmS) (H : Heap) (locs : List Loc) (ls : Array Slot), fJ5_append_3fe6f_J56 x0 x1   σ = some (r, σ') → hmI E σ H → hmLo E locs → lv_has ls 2 [(0, .ref x0), (1, .int x1)] → W p l e R s m ([.ref x0, .int x1] : List Value).toArray below meth c H locs 1 128 (MQ below (hmQc E (some (va_rf r)) σ') ([.ref x0, .int x1] : List Value).toArray s 1 128 (fun q => hmL E ≤ q)) (F0 m 56 ls []) := by
    intro  σ H locs ls h hI hL hl
    unfold fJ5_append_3fe6f_J56 at h
    refine lv_aload_n hx hb dJ5_append_3fe6f_56 rfl (lv_at hl 0 rfl) ?_
    replace h := ob_s h
    obtain ⟨f1, h2, h⟩ := h
    refine hm_get S hK hI (pf_J5_15_1 hK) (gR_s h2) dJ5_append_3fe6f_57 ?_
    refine lv_aload_n hx hb dJ5_append_3fe6f_60 rfl (lv_at hl 0 rfl) ?_
    refine lv_dup hx hb dJ5_append_3fe6f_61 rfl ?_
    replace h := ob_s h
    obtain ⟨f3, h4, h⟩ := h
    refine hm_get S hK hI (pf_J5_79_1 hK) (gI_s h4) dJ5_append_3fe6f_62 ?_
    refine lv_dup_x1 hx hb dJ5_append_3fe6f_65 rfl rfl ?_
    refine lv_iconst (v := 1) hx hb dJ5_append_3fe6f_66 (by decide) ?_
    refine lv_iadd hx hb dJ5_append_3fe6f_67 ?_
    replace h := ob_s h
    obtain ⟨σ5, h6, h⟩ := h
    refine hm_put S hK hI hL (pf_J5_79_1 hK) h6 ⟨rfl, rfl⟩ dJ5_append_3fe6f_68 (fun H locs hI hL => ?_)
    refine lv_iload_n hx hb dJ5_append_3fe6f_71 rfl (lv_at hl 1 rfl) ?_
    cases h
  have hJ45 : ∀  (σ : hmS) (H : Heap) (locs : List Loc) (ls : Array Slot), fJ5_append_3fe6f_J45 x0 x1   σ = some (r, σ') → hmI E σ H → hmLo E locs → lv_has ls 2 [(0, .ref x0), (1, .int x1)] → W p l e R s m ([.ref x0, .int x1] : List Value).toArray below meth c H locs 1 128 (MQ below (hmQc E (some (va_rf r)) σ') ([.ref x0, .int x1] : List Value).toArray s 1 128 (fun q => hmL E ≤ q)) (F0 m 45 ls []) := by
    intro  σ H locs ls h hI hL hl
    unfold fJ5_append_3fe6f_J45 at h
    refine lv_aload_n hx hb dJ5_append_3fe6f_45 rfl (lv_at hl 0 rfl) ?_
    replace h := ob_s h
    obtain ⟨_, h2, h⟩ := h
    replace h := cb_s h
    obtain ⟨r4, σ3, h1, h⟩ := h
    refine hm_call (hm_runV (As := []) (rest := []) (ci := 1) S hK hI (obC_s h2) rfl (mJ5_isLatin1_aae02 l E h1) (pm_J5_83 hK) (pi_J5_isLatin1_aae02 hK) (pl_J4_J5_isLatin1_aae02 hK) ⟨by omega, by omega⟩ rfl hl.1 (Nat.le_of_ble_eq_true rfl) ⟨by omega, by omega⟩ dJ5_append_3fe6f_46) hL (fun H locs hI hL => ?_)
    refine lv_if_eq (tgt := 56) hx hb dJ5_append_3fe6f_49 (by decide) (fun c5 => ?_) (fun c5 => ?_)
    · replace h := it_p c5 h
      exact hJ56 _ _ _ _ h hI hL (lv_sub hl [0, 1] rfl)
    · replace h := it_n c5 h
      refine lv_aload_n hx hb dJ5_append_3fe6f_52 rfl (lv_at hl 0 rfl) ?_
      cases h
  have h := hmain
  clear hmain
  unfold fJ5_append_3fe6f at h
  refine lv_aload_n hx hb dJ5_append_3fe6f_0 rfl (lv_at hl 0 rfl) ?_
  refine lv_aload_n hx hb dJ5_append_3fe6f_1 rfl (lv_at hl 0 rfl) ?_
  replace h := ob_s h
  obtain ⟨f1, h2, h⟩ := h
  refine hm_get S hK hI (pf_J5_79_1 hK) (gI_s h2) dJ5_append_3fe6f_2 ?_
  refine lv_iconst (v := 1) hx hb dJ5_append_3fe6f_5 (by decide) ?_
  refine lv_iadd hx hb dJ5_append_3fe6f_6 ?_
  replace h := ob_s h
  obtain ⟨_, h4, h⟩ := h
  replace h := cb_s h
  obtain ⟨u0, σ5, h3, h⟩ := h
  refine hm_callv (hm_runV (As := [.int (f1 + (1 : Int32))]) (rest := []) (ci := 1) S hK hI (obC_s h4) rfl (mJ5_ensureCapacityInternal_d00df l E h3) (pm_J5_100 hK) (pi_J5_ensureCapacityInternal_d00df hK) (pl_J4_J5_ensureCapacityInternal_d00df hK) ⟨by omega, by omega⟩ rfl hl.1 (Nat.le_of_ble_eq_true rfl) ⟨by omega, by omega⟩ dJ5_append_3fe6f_7) hL (fun H locs hI hL => ?_)
  refine lv_aload_n hx hb dJ5_append_3fe6f_10 rfl (lv_at hl 0 rfl) ?_
  replace h := ob_s h
  obtain ⟨_, h7, h⟩ := h
  replace h := cb_s h
  obtain ⟨r9, σ8, h6, h⟩ := h
  refine hm_call (hm_runV (As := []) (rest := []) (ci := 1) S hK hI (obC_s h7) rfl (mJ5_isLatin1_aae02 l E h6) (pm_J5_83 hK) (pi_J5_isLatin1_aae02 hK) (pl_J4_J5_isLatin1_aae02 hK) ⟨by omega, by omega⟩ rfl hl.1 (Nat.le_of_ble_eq_true rfl) ⟨by omega, by omega⟩ dJ5_append_3fe6f_11) hL (fun H locs hI hL => ?_)
  refine lv_if_eq (tgt := 45) hx hb dJ5_append_3fe6f_14 (by decide) (fun c10 => ?_) (fun c10 => ?_)
  · replace h := it_p c10 h
    exact hJ45 _ _ _ _ h hI hL (lv_sub hl [0, 1] rfl)
  · replace h := it_n c10 h
    refine lv_iload_n hx hb dJ5_append_3fe6f_17 rfl (lv_at hl 1 rfl) ?_
    replace h := cb_s h
    obtain ⟨r13, σ12, h11, h⟩ := h
    refine hm_call (hm_runS (As := [.int x1]) (rest := []) S hK hI (mJ1_canEncode_fc78d l E h11) (pm_J5_191 hK) (ps_J1_canEncode_fc78d hK) ⟨by omega, by omega⟩ rfl hl.1 (Nat.le_of_ble_eq_true rfl) ⟨by omega, by omega⟩ dJ5_append_3fe6f_18) hL (fun H locs hI hL => ?_)
    refine lv_if_eq (tgt := 45) hx hb dJ5_append_3fe6f_21 (by decide) (fun c14 => ?_) (fun c14 => ?_)
    · replace h := it_p c14 h
      exact hJ45 _ _ _ _ h hI hL (lv_sub hl [0, 1] rfl)
    · replace h := it_n c14 h
      refine lv_aload_n hx hb dJ5_append_3fe6f_24 rfl (lv_at hl 0 rfl) ?_
      replace h := ob_s h
      obtain ⟨f15, h16, h⟩ := h
      refine hm_get S hK hI (pf_J5_15_1 hK) (gR_s h16) dJ5_append_3fe6f_25 ?_
      refine lv_aload_n hx hb dJ5_append_3fe6f_28 rfl (lv_at hl 0 rfl) ?_
      refine lv_dup hx hb dJ5_append_3fe6f_29 rfl ?_
      replace h := ob_s h
      obtain ⟨f17, h18, h⟩ := h
      refine hm_get S hK hI (pf_J5_79_1 hK) (gI_s h18) dJ5_append_3fe6f_30 ?_
      refine lv_dup_x1 hx hb dJ5_append_3fe6f_33 rfl rfl ?_
      refine lv_iconst (v := 1) hx hb dJ5_append_3fe6f_34 (by decide) ?_
      refine lv_iadd hx hb dJ5_append_3fe6f_35 ?_
      replace h := ob_s h
      obtain ⟨σ19, h20, h⟩ := h
      refine hm_put S hK hI hL (pf_J5_79_1 hK) h20 ⟨rfl, rfl⟩ dJ5_append_3fe6f_36 (fun H locs hI hL => ?_)
      refine lv_iload_n hx hb dJ5_append_3fe6f_39 rfl (lv_at hl 1 rfl) ?_
      refine lv_i2b hx hb dJ5_append_3fe6f_40 rfl ?_
      replace h := ob_s h
      obtain ⟨a21, rfl, h⟩ := h
      have hl : lv_has ls 2 [(0, .ref x0), (1, .int x1)] := hl
      replace h := ob_s h
      obtain ⟨σ22, h23, h⟩ := h
      refine hm_bast S hK hI hL h23 dJ5_append_3fe6f_41 (fun H locs hI hL => ?_)
      refine lv_goto (tgt := 75) hx hb dJ5_append_3fe6f_42 (by decide) ?_
      refine lv_aload_n hx hb dJ5_append_3fe6f_75 rfl (lv_at hl 0 rfl) ?_
      exact hm_aret hx hb hr (Or.inl ⟨_, rfl⟩) hI hL h (by omega) (by omega) hlocks dJ5_append_3fe6f_76

def fJ4_append_cf468 (x0 : Nat) (x1 : Int32) (σ : hmS) : Option (Option Nat × hmS) :=
  ob (obC σ x0 1) fun _ => cb (fJ5_append_3fe6f x0 x1 σ) fun r4 σ3 => some ((some x0), σ3)
set_option maxHeartbeats 4000000 in
set_option maxRecDepth 100000 in
theorem mJ4_append_cf468 (l : Launch) (E : hmG) {x0 : Nat} {x1 : Int32} {σ σ' : hmS} {r : Option Nat} (h : fJ4_append_cf468 x0 x1 σ = some (r, σ')) : Met l yJ4_append_cf468 [Cond.code yJ4_append_cf468 cJ4_append_cf468 2 (some (.object "java/lang/StringBuilder"))] { frames := 5, cells := 1, slots := 128, locals := 112 } (hmPc E [.ref x0, .int x1] σ) (hmQc E (some (va_rf r)) σ') 1 128 (fun q => hmL E ≤ q) := by
  refine va_MetF (cc := cJ4_append_cf468) (maxL := 2) (ret := (some (.object "java/lang/StringBuilder"))) (by decide +kernel) rfl ?_
  intro p e s m args below meth c s₁ B hml hv
  obtain ⟨rfl, hK, hI⟩ := hv
  have S : CallFix p m c cJ4_append_cf468 2 s ([.ref x0, .int x1] : List Value).toArray [] RJ4 := ⟨B.exec, B.bytes, hml, findClass_of_methodNamed B.named, fun w hw => by cases hw⟩
  have hx := S.1
  have hb := S.2.1
  have hr := B.returns
  have hlocks := B.notSynchronized
  have hL : hmLo E [] := hmLo.nil
  have hl : lv_has ((lg_sl ([.ref x0, .int x1]) ++ List.replicate (2 - (lg_sl ([.ref x0, .int x1])).length) Slot.unset).toArray) 2 [(0, .ref x0), (1, .int x1)] := by exact lv_entry _ (Nat.le_of_ble_eq_true rfl)
  rw [lg_entry_eq]
  generalize (lg_sl ([.ref x0, .int x1]) ++ List.replicate (2 - (lg_sl ([.ref x0, .int x1])).length) Slot.unset).toArray = ls at hl ⊢
  generalize hRe : (headSpec [Cond.code yJ4_append_cf468 cJ4_append_cf468 2 (some (.object "java/lang/StringBuilder"))] { frames := 5, cells := 1, slots := 128, locals := 112 }).room = R
  have hR1 : R.frames = 5 ∧ R.cells = 1 ∧ R.slots = 128 ∧ R.locals = 112 := by rw [← hRe]; exact ⟨rfl, rfl, rfl, rfl⟩
  clear hRe B hml
  generalize s.heap = H at hI ⊢
  generalize ([] : List Loc) = locs at hL ⊢
  have hmain := h
  clear h
  have h := hmain
  clear hmain
  unfold fJ4_append_cf468 at h
  refine lv_aload_n hx hb dJ4_append_cf468_0 rfl (lv_at hl 0 rfl) ?_
  refine lv_iload_n hx hb dJ4_append_cf468_1 rfl (lv_at hl 1 rfl) ?_
  replace h := ob_s h
  obtain ⟨_, h2, h⟩ := h
  replace h := cb_s h
  obtain ⟨r4, σ3, h1, h⟩ := h
  refine hm_call (hm_runSU (As := [.int x1]) (rest := []) (ci := 1) S hK hI (obC_s h2) rfl (mJ5_append_3fe6f l E h1) (pm_J4_50 hK) (pi_J5_append_3fe6f hK) 1027 193 (by decide +kernel) (by decide +kernel) (by decide) ⟨by omega, by omega⟩ rfl hl.1 (Nat.le_of_ble_eq_true rfl) ⟨by omega, by omega⟩ dJ4_append_cf468_2) hL (fun H locs hI hL => ?_)
  refine lv_pop hx hb dJ4_append_cf468_5 (by cases r4 <;> rfl) ?_
  refine lv_aload_n hx hb dJ4_append_cf468_6 rfl (lv_at hl 0 rfl) ?_
  exact hm_aret hx hb hr (Or.inl ⟨_, rfl⟩) hI hL h (by omega) (by omega) hlocks dJ4_append_cf468_7

def fJ6_stringSize_0f7a4_B16   (K16 : Int32 → Int32 → Int32 → Int32 → hmS → Option (Int32 × hmS)) (v0 : Int32) (v1 : Int32) (v2 : Int32) (v3 : Int32) (σ : hmS) : Option (Int32 × hmS) :=
  if (10 : Int32) ≤ v3 then
    some (((10 : Int32) + v1), σ)
  else
    if v0 ≤ v2 then
      K16 v0 v1 ((10 : Int32) * v2) (v3 + (1 : Int32)) σ
    else
      some ((v3 + v1), σ)
def fJ6_stringSize_0f7a4_L16   : Nat → Int32 → Int32 → Int32 → Int32 → hmS → Option (Int32 × hmS)
  | 0 => fun _ _ _ _ _ => none
  | n + 1 => fJ6_stringSize_0f7a4_B16   (fJ6_stringSize_0f7a4_L16   n)
def fJ6_stringSize_0f7a4_J11   (v0 : Int32) (v1 : Int32) (σ : hmS) : Option (Int32 × hmS) :=
  fJ6_stringSize_0f7a4_L16 20 v0 v1 (-10 : Int32) (1 : Int32) σ
def fJ6_stringSize_0f7a4 (x0 : Int32) (σ : hmS) : Option (Int32 × hmS) :=
  if x0 < 0 then
    fJ6_stringSize_0f7a4_J11 x0 (1 : Int32) σ
  else
    fJ6_stringSize_0f7a4_J11 (-x0) (0 : Int32) σ
set_option maxHeartbeats 4000000 in
set_option maxRecDepth 100000 in
theorem mJ6_stringSize_0f7a4 (l : Launch) (E : hmG) {x0 : Int32} {σ σ' : hmS} {r : Int32} (h : fJ6_stringSize_0f7a4 x0 σ = some (r, σ')) : Met l yJ6_stringSize_0f7a4 [Cond.code yJ6_stringSize_0f7a4 cJ6_stringSize_0f7a4 4 (some .int)] { frames := 0, cells := 0, slots := 0, locals := 0 } (hmPc E [.int x0] σ) (hmQc E (some (.int r)) σ') 0 0 (fun q => hmL E ≤ q) := by
  refine va_MetF (cc := cJ6_stringSize_0f7a4) (maxL := 4) (ret := (some .int)) (by decide +kernel) rfl ?_
  intro p e s m args below meth c s₁ B hml hv
  obtain ⟨rfl, hK, hI⟩ := hv
  have S : CallFix p m c cJ6_stringSize_0f7a4 4 s ([.int x0] : List Value).toArray [] RJ6 := ⟨B.exec, B.bytes, hml, findClass_of_methodNamed B.named, fun w hw => by cases hw⟩
  have hx := S.1
  have hb := S.2.1
  have hr := B.returns
  have hlocks := B.notSynchronized
  have hL : hmLo E [] := hmLo.nil
  have hl : lv_has ((lg_sl ([.int x0]) ++ List.replicate (4 - (lg_sl ([.int x0])).length) Slot.unset).toArray) 4 [(0, .int x0)] := by exact lv_entry _ (Nat.le_of_ble_eq_true rfl)
  rw [lg_entry_eq]
  generalize (lg_sl ([.int x0]) ++ List.replicate (4 - (lg_sl ([.int x0])).length) Slot.unset).toArray = ls at hl ⊢
  generalize hRe : (headSpec [Cond.code yJ6_stringSize_0f7a4 cJ6_stringSize_0f7a4 4 (some .int)] { frames := 0, cells := 0, slots := 0, locals := 0 }).room = R
  have hR1 : R.frames = 0 ∧ R.cells = 0 ∧ R.slots = 0 ∧ R.locals = 0 := by rw [← hRe]; exact ⟨rfl, rfl, rfl, rfl⟩
  clear hRe B hml
  generalize s.heap = H at hI ⊢
  generalize ([] : List Loc) = locs at hL ⊢
  have hmain := h
  clear h
  have hB16 : ∀ (K16 : Int32 → Int32 → Int32 → Int32 → hmS → Option (Int32 × hmS)), (∀ (v0 : Int32) (v1 : Int32) (v2 : Int32) (v3 : Int32) (σ : hmS) (H : Heap) (locs : List Loc) (ls : Array Slot), K16 v0 v1 v2 v3 σ = some (r, σ') → hmI E σ H → hmLo E locs → lv_has ls 4 [(0, .int v0), (1, .int v1), (2, .int v2), (3, .int v3)] → W p l e R s m ([.int x0] : List Value).toArray below meth c H locs 0 0 (MQ below (hmQc E (some (.int r)) σ') ([.int x0] : List Value).toArray s 0 0 (fun q => hmL E ≤ q)) (F0 m 16 ls [])) → ∀ (v0 : Int32) (v1 : Int32) (v2 : Int32) (v3 : Int32) (σ : hmS) (H : Heap) (locs : List Loc) (ls : Array Slot), fJ6_stringSize_0f7a4_B16   K16 v0 v1 v2 v3 σ = some (r, σ') → hmI E σ H → hmLo E locs → lv_has ls 4 [(0, .int v0), (1, .int v1), (2, .int v2), (3, .int v3)] → W p l e R s m ([.int x0] : List Value).toArray below meth c H locs 0 0 (MQ below (hmQc E (some (.int r)) σ') ([.int x0] : List Value).toArray s 0 0 (fun q => hmL E ≤ q)) (F0 m 16 ls []) := by
    intro K16 hk16
    intro v0 v1 v2 v3 σ H locs ls h hI hL hl
    unfold fJ6_stringSize_0f7a4_B16 at h
    refine lv_iload_n hx hb dJ6_stringSize_0f7a4_16 rfl (lv_at hl 3 rfl) ?_
    refine lv_bipush (v := 10) hx hb dJ6_stringSize_0f7a4_17 (by decide) ?_
    refine lv_icmp_ge (tgt := 42) hx hb dJ6_stringSize_0f7a4_19 (by decide) (fun c1 => ?_) (fun c1 => ?_)
    · replace h := it_p c1 h
      refine lv_bipush (v := 10) hx hb dJ6_stringSize_0f7a4_42 (by decide) ?_
      refine lv_iload_n hx hb dJ6_stringSize_0f7a4_44 rfl (lv_at hl 1 rfl) ?_
      refine lv_iadd hx hb dJ6_stringSize_0f7a4_45 ?_
      exact hm_iret hx hb hr hI hL h (by omega) (by omega) hlocks dJ6_stringSize_0f7a4_46
    · replace h := it_n c1 h
      refine lv_iload_n hx hb dJ6_stringSize_0f7a4_22 rfl (lv_at hl 0 rfl) ?_
      refine lv_iload_n hx hb dJ6_stringSize_0f7a4_23 rfl (lv_at hl 2 rfl) ?_
      refine lv_icmp_le (tgt := 31) hx hb dJ6_stringSize_0f7a4_24 (by decide) (fun c2 => ?_) (fun c2 => ?_)
      · replace h := it_p c2 h
        refine lv_bipush (v := 10) hx hb dJ6_stringSize_0f7a4_31 (by decide) ?_
        refine lv_iload_n hx hb dJ6_stringSize_0f7a4_33 rfl (lv_at hl 2 rfl) ?_
        refine lv_imul hx hb dJ6_stringSize_0f7a4_34 ?_
        refine lv_istore_n (lv' := [(2, .int ((10 : Int32) * v2)), (0, .int v0), (1, .int v1), (3, .int v3)]) hx hb dJ6_stringSize_0f7a4_35 rfl hl (by decide) rfl (fun ls hl => ?_)
        refine lv_iinc (v := (v3 + (1 : Int32))) (lv' := [(3, .int (v3 + (1 : Int32))), (2, .int ((10 : Int32) * v2)), (0, .int v0), (1, .int v1)]) hx hb dJ6_stringSize_0f7a4_36 hl (k := 3) rfl rfl (by decide) rfl (fun ls hl => ?_)
        refine lv_goto (tgt := 16) hx hb dJ6_stringSize_0f7a4_39 (by decide) ?_
        exact hk16 _ _ _ _ _ _ _ _ h hI hL (lv_sub hl [2, 3, 1, 0] rfl)
      · replace h := it_n c2 h
        refine lv_iload_n hx hb dJ6_stringSize_0f7a4_27 rfl (lv_at hl 3 rfl) ?_
        refine lv_iload_n hx hb dJ6_stringSize_0f7a4_28 rfl (lv_at hl 1 rfl) ?_
        refine lv_iadd hx hb dJ6_stringSize_0f7a4_29 ?_
        exact hm_iret hx hb hr hI hL h (by omega) (by omega) hlocks dJ6_stringSize_0f7a4_30
  have hL16 : ∀ n : Nat, ∀ (v0 : Int32) (v1 : Int32) (v2 : Int32) (v3 : Int32) (σ : hmS) (H : Heap) (locs : List Loc) (ls : Array Slot), fJ6_stringSize_0f7a4_L16   n v0 v1 v2 v3 σ = some (r, σ') → hmI E σ H → hmLo E locs → lv_has ls 4 [(0, .int v0), (1, .int v1), (2, .int v2), (3, .int v3)] → W p l e R s m ([.int x0] : List Value).toArray below meth c H locs 0 0 (MQ below (hmQc E (some (.int r)) σ') ([.int x0] : List Value).toArray s 0 0 (fun q => hmL E ≤ q)) (F0 m 16 ls []) := by
    intro n
    induction n with
    | zero =>
      intro v0 v1 v2 v3 σ H locs ls h
      have h : none = some (r, σ') := h
      cases h
    | succ n ih => exact hB16 _ ih
  have hJ11 : ∀ (v0 : Int32) (v1 : Int32) (σ : hmS) (H : Heap) (locs : List Loc) (ls : Array Slot), fJ6_stringSize_0f7a4_J11   v0 v1 σ = some (r, σ') → hmI E σ H → hmLo E locs → lv_has ls 4 [(0, .int v0), (1, .int v1)] → W p l e R s m ([.int x0] : List Value).toArray below meth c H locs 0 0 (MQ below (hmQc E (some (.int r)) σ') ([.int x0] : List Value).toArray s 0 0 (fun q => hmL E ≤ q)) (F0 m 11 ls []) := by
    intro v0 v1 σ H locs ls h hI hL hl
    unfold fJ6_stringSize_0f7a4_J11 at h
    refine lv_bipush (v := -10) hx hb dJ6_stringSize_0f7a4_11 (by decide) ?_
    refine lv_istore_n (lv' := [(2, .int (-10 : Int32)), (0, .int v0), (1, .int v1)]) hx hb dJ6_stringSize_0f7a4_13 rfl hl (by decide) rfl (fun ls hl => ?_)
    refine lv_iconst (v := 1) hx hb dJ6_stringSize_0f7a4_14 (by decide) ?_
    refine lv_istore_n (lv' := [(3, .int (1 : Int32)), (2, .int (-10 : Int32)), (0, .int v0), (1, .int v1)]) hx hb dJ6_stringSize_0f7a4_15 rfl hl (by decide) rfl (fun ls hl => ?_)
    exact hL16 20 _ _ _ _ _ _ _ _ h hI hL (lv_sub hl [2, 3, 1, 0] rfl)
  have h := hmain
  clear hmain
  unfold fJ6_stringSize_0f7a4 at h
  refine lv_iconst (v := 1) hx hb dJ6_stringSize_0f7a4_0 (by decide) ?_
  refine lv_istore_n (lv' := [(1, .int (1 : Int32)), (0, .int x0)]) hx hb dJ6_stringSize_0f7a4_1 rfl hl (by decide) rfl (fun ls hl => ?_)
  refine lv_iload_n hx hb dJ6_stringSize_0f7a4_2 rfl (lv_at hl 1 rfl) ?_
  refine lv_if_lt (tgt := 11) hx hb dJ6_stringSize_0f7a4_3 (by decide) (fun c1 => ?_) (fun c1 => ?_)
  · replace h := it_p c1 h
    exact hJ11 _ _ _ _ _ _ h hI hL (lv_sub hl [1, 0] rfl)
  · replace h := it_n c1 h
    refine lv_iconst (v := 0) hx hb dJ6_stringSize_0f7a4_6 (by decide) ?_
    refine lv_istore_n (lv' := [(1, .int (0 : Int32)), (0, .int x0)]) hx hb dJ6_stringSize_0f7a4_7 rfl hl (by decide) rfl (fun ls hl => ?_)
    refine lv_iload_n hx hb dJ6_stringSize_0f7a4_8 rfl (lv_at hl 1 rfl) ?_
    refine lv_ineg hx hb dJ6_stringSize_0f7a4_9 ?_
    refine lv_istore_n (lv' := [(0, .int (-x0)), (1, .int (0 : Int32))]) hx hb dJ6_stringSize_0f7a4_10 rfl hl (by decide) rfl (fun ls hl => ?_)
    exact hJ11 _ _ _ _ _ _ h hI hL (lv_sub hl [0, 1] rfl)

def fJ6_getChars_ba4f3_J104 (E : hmG) (x1 : Int32) (x2 : Option Nat)  (v5 : Int32) (v6 : Int32) (σ : hmS) : Option (Int32 × hmS) :=
  if v6 = 0 then
    some (v5, σ)
  else
    ob x2 fun a2 => ob (sI σ 3 a2 (v5 + (-1 : Int32)) (vp_nar .byte (45 : Int32))) fun σ3 => some ((v5 + (-1 : Int32)), σ3)
def fJ6_getChars_ba4f3_B22 (E : hmG) (x1 : Int32) (x2 : Option Nat)  (K22 : Int32 → Int32 → Int32 → hmS → Option (Int32 × hmS)) (v0 : Int32) (v5 : Int32) (v6 : Int32) (σ : hmS) : Option (Int32 × hmS) :=
  if (-100 : Int32) < v0 then
    ob (aI σ 3 (hmZ E 1) (-v0)) fun e2 => ob x2 fun a4 => ob (sI σ 3 a4 (v5 + (-1 : Int32)) (vp_nar .byte e2)) fun σ5 => if (-9 : Int32) ≤ v0 then
      fJ6_getChars_ba4f3_J104 E x1 x2 (v5 + (-1 : Int32)) v6 σ5
    else
      ob (aI σ5 3 (hmZ E 2) (-v0)) fun e8 => ob (sI σ5 3 a4 ((v5 + (-1 : Int32)) + (-1 : Int32)) (vp_nar .byte e8)) fun σ10 => fJ6_getChars_ba4f3_J104 E x1 x2 ((v5 + (-1 : Int32)) + (-1 : Int32)) v6 σ10
  else
    ob (aI σ 3 (hmZ E 1) (((v0 / (100 : Int32)) * (100 : Int32)) - v0)) fun e12 => ob x2 fun a14 => ob (sI σ 3 a14 (v5 + (-1 : Int32)) (vp_nar .byte e12)) fun σ15 => ob (aI σ15 3 (hmZ E 2) (((v0 / (100 : Int32)) * (100 : Int32)) - v0)) fun e17 => ob (sI σ15 3 a14 ((v5 + (-1 : Int32)) + (-1 : Int32)) (vp_nar .byte e17)) fun σ19 => K22 (v0 / (100 : Int32)) ((v5 + (-1 : Int32)) + (-1 : Int32)) v6 σ19
def fJ6_getChars_ba4f3_L22 (E : hmG) (x1 : Int32) (x2 : Option Nat)  : Nat → Int32 → Int32 → Int32 → hmS → Option (Int32 × hmS)
  | 0 => fun _ _ _ _ => none
  | n + 1 => fJ6_getChars_ba4f3_B22 E x1 x2  (fJ6_getChars_ba4f3_L22 E x1 x2  n)
def fJ6_getChars_ba4f3_J12 (E : hmG) (x1 : Int32) (x2 : Option Nat)  (v0 : Int32) (v5 : Int32) (w0 : Int32) (σ : hmS) : Option (Int32 × hmS) :=
  if w0 = 0 then
    fJ6_getChars_ba4f3_L22 E x1 x2 20 (-v0) v5 w0 σ
  else
    fJ6_getChars_ba4f3_L22 E x1 x2 20 v0 v5 w0 σ
def fJ6_getChars_ba4f3 (E : hmG) (x0 : Int32) (x1 : Int32) (x2 : Option Nat) (σ : hmS) : Option (Int32 × hmS) :=
  if 0 ≤ x0 then
    fJ6_getChars_ba4f3_J12 E x1 x2 x0 x1 (0 : Int32) σ
  else
    fJ6_getChars_ba4f3_J12 E x1 x2 x0 x1 (1 : Int32) σ
set_option maxHeartbeats 4000000 in
set_option maxRecDepth 100000 in
theorem mJ6_getChars_ba4f3 (l : Launch) (E : hmG) {x0 : Int32} {x1 : Int32} {x2 : Option Nat} {σ σ' : hmS} {r : Int32} (h : fJ6_getChars_ba4f3 E x0 x1 x2 σ = some (r, σ')) : Met l yJ6_getChars_ba4f3 [Cond.code yJ6_getChars_ba4f3 cJ6_getChars_ba4f3 7 (some .int)] { frames := 0, cells := 0, slots := 0, locals := 0 } (hmPc E [.int x0, .int x1, va_rf x2] σ) (hmQc E (some (.int r)) σ') 0 0 (fun q => hmL E ≤ q) := by
  refine va_MetF (cc := cJ6_getChars_ba4f3) (maxL := 7) (ret := (some .int)) (by decide +kernel) rfl ?_
  intro p e s m args below meth c s₁ B hml hv
  obtain ⟨rfl, hK, hI⟩ := hv
  have S : CallFix p m c cJ6_getChars_ba4f3 7 s ([.int x0, .int x1, va_rf x2] : List Value).toArray [] RJ6 := ⟨B.exec, B.bytes, hml, findClass_of_methodNamed B.named, fun w hw => by cases hw⟩
  have hx := S.1
  have hb := S.2.1
  have hr := B.returns
  have hlocks := B.notSynchronized
  have hL : hmLo E [] := hmLo.nil
  have hl : lv_has ((lg_sl ([.int x0, .int x1, va_rf x2]) ++ List.replicate (7 - (lg_sl ([.int x0, .int x1, va_rf x2])).length) Slot.unset).toArray) 7 [(0, .int x0), (1, .int x1), (2, va_rf x2)] := by cases x2 <;> exact lv_entry _ (Nat.le_of_ble_eq_true rfl)
  rw [lg_entry_eq]
  generalize (lg_sl ([.int x0, .int x1, va_rf x2]) ++ List.replicate (7 - (lg_sl ([.int x0, .int x1, va_rf x2])).length) Slot.unset).toArray = ls at hl ⊢
  generalize hRe : (headSpec [Cond.code yJ6_getChars_ba4f3 cJ6_getChars_ba4f3 7 (some .int)] { frames := 0, cells := 0, slots := 0, locals := 0 }).room = R
  have hR1 : R.frames = 0 ∧ R.cells = 0 ∧ R.slots = 0 ∧ R.locals = 0 := by rw [← hRe]; exact ⟨rfl, rfl, rfl, rfl⟩
  clear hRe B hml
  generalize s.heap = H at hI ⊢
  generalize ([] : List Loc) = locs at hL ⊢
  have hmain := h
  clear h
  have hJ104 : ∀ (v5 : Int32) (v6 : Int32) (σ : hmS) (H : Heap) (locs : List Loc) (ls : Array Slot), fJ6_getChars_ba4f3_J104 E x1 x2  v5 v6 σ = some (r, σ') → hmI E σ H → hmLo E locs → lv_has ls 7 [(2, va_rf x2), (5, .int v5), (6, .int v6)] → W p l e R s m ([.int x0, .int x1, va_rf x2] : List Value).toArray below meth c H locs 0 0 (MQ below (hmQc E (some (.int r)) σ') ([.int x0, .int x1, va_rf x2] : List Value).toArray s 0 0 (fun q => hmL E ≤ q)) (F0 m 104 ls []) := by
    intro v5 v6 σ H locs ls h hI hL hl
    unfold fJ6_getChars_ba4f3_J104 at h
    refine lv_iload hx hb dJ6_getChars_ba4f3_104 (lv_at hl 2 rfl) ?_
    refine lv_if_eq (tgt := 118) hx hb dJ6_getChars_ba4f3_106 (by decide) (fun c1 => ?_) (fun c1 => ?_)
    · replace h := it_p c1 h
      refine lv_iload hx hb dJ6_getChars_ba4f3_118 (lv_at hl 1 rfl) ?_
      exact hm_iret hx hb hr hI hL h (by omega) (by omega) hlocks dJ6_getChars_ba4f3_120
    · replace h := it_n c1 h
      refine hm_aload_n hx hb dJ6_getChars_ba4f3_109 rfl (lv_at hl 0 rfl) ?_
      refine lv_iinc (v := (v5 + (-1 : Int32))) (lv' := [(5, .int (v5 + (-1 : Int32))), (2, va_rf x2), (6, .int v6)]) hx hb dJ6_getChars_ba4f3_110 hl (k := 1) rfl rfl (by decide) rfl (fun ls hl => ?_)
      refine lv_iload hx hb dJ6_getChars_ba4f3_113 (lv_at hl 0 rfl) ?_
      refine lv_bipush (v := 45) hx hb dJ6_getChars_ba4f3_115 (by decide) ?_
      replace h := ob_s h
      obtain ⟨a2, rfl, h⟩ := h
      have hl : lv_has ls 7 [(5, .int (v5 + (-1 : Int32))), (2, .ref a2), (6, .int v6)] := hl
      replace h := ob_s h
      obtain ⟨σ3, h4, h⟩ := h
      refine hm_bast S hK hI hL h4 dJ6_getChars_ba4f3_117 (fun H locs hI hL => ?_)
      refine lv_iload hx hb dJ6_getChars_ba4f3_118 (lv_at hl 0 rfl) ?_
      exact hm_iret hx hb hr hI hL h (by omega) (by omega) hlocks dJ6_getChars_ba4f3_120
  have hB22 : ∀ (K22 : Int32 → Int32 → Int32 → hmS → Option (Int32 × hmS)), (∀ (v0 : Int32) (v5 : Int32) (v6 : Int32) (σ : hmS) (H : Heap) (locs : List Loc) (ls : Array Slot), K22 v0 v5 v6 σ = some (r, σ') → hmI E σ H → hmLo E locs → lv_has ls 7 [(0, .int v0), (2, va_rf x2), (5, .int v5), (6, .int v6)] → W p l e R s m ([.int x0, .int x1, va_rf x2] : List Value).toArray below meth c H locs 0 0 (MQ below (hmQc E (some (.int r)) σ') ([.int x0, .int x1, va_rf x2] : List Value).toArray s 0 0 (fun q => hmL E ≤ q)) (F0 m 22 ls [])) → ∀ (v0 : Int32) (v5 : Int32) (v6 : Int32) (σ : hmS) (H : Heap) (locs : List Loc) (ls : Array Slot), fJ6_getChars_ba4f3_B22 E x1 x2  K22 v0 v5 v6 σ = some (r, σ') → hmI E σ H → hmLo E locs → lv_has ls 7 [(0, .int v0), (2, va_rf x2), (5, .int v5), (6, .int v6)] → W p l e R s m ([.int x0, .int x1, va_rf x2] : List Value).toArray below meth c H locs 0 0 (MQ below (hmQc E (some (.int r)) σ') ([.int x0, .int x1, va_rf x2] : List Value).toArray s 0 0 (fun q => hmL E ≤ q)) (F0 m 22 ls []) := by
    intro K22 hk22
    intro v0 v5 v6 σ H locs ls h hI hL hl
    unfold fJ6_getChars_ba4f3_B22 at h
    refine lv_iload_n hx hb dJ6_getChars_ba4f3_22 rfl (lv_at hl 0 rfl) ?_
    refine lv_bipush (v := -100) hx hb dJ6_getChars_ba4f3_23 (by decide) ?_
    refine lv_icmp_gt (tgt := 72) hx hb dJ6_getChars_ba4f3_25 (by decide) (fun c1 => ?_) (fun c1 => ?_)
    · replace h := it_p c1 h
      refine hm_aload_n hx hb dJ6_getChars_ba4f3_72 rfl (lv_at hl 1 rfl) ?_
      refine lv_iinc (v := (v5 + (-1 : Int32))) (lv' := [(5, .int (v5 + (-1 : Int32))), (0, .int v0), (2, va_rf x2), (6, .int v6)]) hx hb dJ6_getChars_ba4f3_73 hl (k := 2) rfl rfl (by decide) rfl (fun ls hl => ?_)
      refine lv_iload hx hb dJ6_getChars_ba4f3_76 (lv_at hl 0 rfl) ?_
      refine hm_gets S hI hK.2.2.2.2.2.2.2.2.2.2.1 (hm_wd hK 350 (by decide +kernel) rfl _) dJ6_getChars_ba4f3_78 ?_
      refine lv_iload_n hx hb dJ6_getChars_ba4f3_81 rfl (lv_at hl 1 rfl) ?_
      refine lv_ineg hx hb dJ6_getChars_ba4f3_82 ?_
      replace h := ob_s h
      obtain ⟨e2, h3, h⟩ := h
      refine hm_bald S hK hI h3 dJ6_getChars_ba4f3_83 ?_
      replace h := ob_s h
      obtain ⟨a4, rfl, h⟩ := h
      have hl : lv_has ls 7 [(5, .int (v5 + (-1 : Int32))), (0, .int v0), (2, .ref a4), (6, .int v6)] := hl
      replace h := ob_s h
      obtain ⟨σ5, h6, h⟩ := h
      refine hm_bast S hK hI hL h6 dJ6_getChars_ba4f3_84 (fun H locs hI hL => ?_)
      refine lv_iload_n hx hb dJ6_getChars_ba4f3_85 rfl (lv_at hl 1 rfl) ?_
      refine lv_bipush (v := -9) hx hb dJ6_getChars_ba4f3_86 (by decide) ?_
      refine lv_icmp_ge (tgt := 104) hx hb dJ6_getChars_ba4f3_88 (by decide) (fun c7 => ?_) (fun c7 => ?_)
      · replace h := it_p c7 h
        exact hJ104 _ _ _ _ _ _ h hI hL (lv_sub hl [2, 0, 3] rfl)
      · replace h := it_n c7 h
        refine lv_aload_n hx hb dJ6_getChars_ba4f3_91 rfl (lv_at hl 2 rfl) ?_
        refine lv_iinc (v := ((v5 + (-1 : Int32)) + (-1 : Int32))) (lv' := [(5, .int ((v5 + (-1 : Int32)) + (-1 : Int32))), (0, .int v0), (2, .ref a4), (6, .int v6)]) hx hb dJ6_getChars_ba4f3_92 hl (k := 0) rfl rfl (by decide) rfl (fun ls hl => ?_)
        refine lv_iload hx hb dJ6_getChars_ba4f3_95 (lv_at hl 0 rfl) ?_
        refine hm_gets S hI hK.2.2.2.2.2.2.2.2.2.2.2.1 (hm_wd hK 352 (by decide +kernel) rfl _) dJ6_getChars_ba4f3_97 ?_
        refine lv_iload_n hx hb dJ6_getChars_ba4f3_100 rfl (lv_at hl 1 rfl) ?_
        refine lv_ineg hx hb dJ6_getChars_ba4f3_101 ?_
        replace h := ob_s h
        obtain ⟨e8, h9, h⟩ := h
        refine hm_bald S hK hI h9 dJ6_getChars_ba4f3_102 ?_
        replace h := ob_s h
        obtain ⟨σ10, h11, h⟩ := h
        refine hm_bast S hK hI hL h11 dJ6_getChars_ba4f3_103 (fun H locs hI hL => ?_)
        exact hJ104 _ _ _ _ _ _ h hI hL (lv_sub hl [2, 0, 3] rfl)
    · replace h := it_n c1 h
      refine lv_iload_n hx hb dJ6_getChars_ba4f3_28 rfl (lv_at hl 0 rfl) ?_
      refine lv_bipush (v := 100) hx hb dJ6_getChars_ba4f3_29 (by decide) ?_
      refine lv_idiv hx hb dJ6_getChars_ba4f3_31 (by decide) ?_
      refine lv_istore_n (lv' := [(3, .int (v0 / (100 : Int32))), (0, .int v0), (2, va_rf x2), (5, .int v5), (6, .int v6)]) hx hb dJ6_getChars_ba4f3_32 rfl hl (by decide) (by cases x2 <;> rfl) (fun ls hl => ?_)
      refine lv_iload_n hx hb dJ6_getChars_ba4f3_33 rfl (lv_at hl 0 rfl) ?_
      refine lv_bipush (v := 100) hx hb dJ6_getChars_ba4f3_34 (by decide) ?_
      refine lv_imul hx hb dJ6_getChars_ba4f3_36 ?_
      refine lv_iload_n hx hb dJ6_getChars_ba4f3_37 rfl (lv_at hl 1 rfl) ?_
      refine lv_isub hx hb dJ6_getChars_ba4f3_38 ?_
      refine lv_istore (lv' := [(4, .int (((v0 / (100 : Int32)) * (100 : Int32)) - v0)), (3, .int (v0 / (100 : Int32))), (0, .int v0), (2, va_rf x2), (5, .int v5), (6, .int v6)]) hx hb dJ6_getChars_ba4f3_39 hl (by decide) rfl (fun ls hl => ?_)
      refine lv_iload_n hx hb dJ6_getChars_ba4f3_41 rfl (lv_at hl 1 rfl) ?_
      refine lv_istore_n (lv' := [(0, .int (v0 / (100 : Int32))), (4, .int (((v0 / (100 : Int32)) * (100 : Int32)) - v0)), (3, .int (v0 / (100 : Int32))), (2, va_rf x2), (5, .int v5), (6, .int v6)]) hx hb dJ6_getChars_ba4f3_42 rfl hl (by decide) rfl (fun ls hl => ?_)
      refine hm_aload_n hx hb dJ6_getChars_ba4f3_43 rfl (lv_at hl 3 rfl) ?_
      refine lv_iinc (v := (v5 + (-1 : Int32))) (lv' := [(5, .int (v5 + (-1 : Int32))), (0, .int (v0 / (100 : Int32))), (4, .int (((v0 / (100 : Int32)) * (100 : Int32)) - v0)), (3, .int (v0 / (100 : Int32))), (2, va_rf x2), (6, .int v6)]) hx hb dJ6_getChars_ba4f3_44 hl (k := 4) rfl rfl (by decide) rfl (fun ls hl => ?_)
      refine lv_iload hx hb dJ6_getChars_ba4f3_47 (lv_at hl 0 rfl) ?_
      refine hm_gets S hI hK.2.2.2.2.2.2.2.2.2.2.1 (hm_wd hK 350 (by decide +kernel) rfl _) dJ6_getChars_ba4f3_49 ?_
      refine lv_iload hx hb dJ6_getChars_ba4f3_52 (lv_at hl 2 rfl) ?_
      replace h := ob_s h
      obtain ⟨e12, h13, h⟩ := h
      refine hm_bald S hK hI h13 dJ6_getChars_ba4f3_54 ?_
      replace h := ob_s h
      obtain ⟨a14, rfl, h⟩ := h
      have hl : lv_has ls 7 [(5, .int (v5 + (-1 : Int32))), (0, .int (v0 / (100 : Int32))), (4, .int (((v0 / (100 : Int32)) * (100 : Int32)) - v0)), (3, .int (v0 / (100 : Int32))), (2, .ref a14), (6, .int v6)] := hl
      replace h := ob_s h
      obtain ⟨σ15, h16, h⟩ := h
      refine hm_bast S hK hI hL h16 dJ6_getChars_ba4f3_55 (fun H locs hI hL => ?_)
      refine lv_aload_n hx hb dJ6_getChars_ba4f3_56 rfl (lv_at hl 4 rfl) ?_
      refine lv_iinc (v := ((v5 + (-1 : Int32)) + (-1 : Int32))) (lv' := [(5, .int ((v5 + (-1 : Int32)) + (-1 : Int32))), (0, .int (v0 / (100 : Int32))), (4, .int (((v0 / (100 : Int32)) * (100 : Int32)) - v0)), (3, .int (v0 / (100 : Int32))), (2, .ref a14), (6, .int v6)]) hx hb dJ6_getChars_ba4f3_57 hl (k := 0) rfl rfl (by decide) rfl (fun ls hl => ?_)
      refine lv_iload hx hb dJ6_getChars_ba4f3_60 (lv_at hl 0 rfl) ?_
      refine hm_gets S hI hK.2.2.2.2.2.2.2.2.2.2.2.1 (hm_wd hK 352 (by decide +kernel) rfl _) dJ6_getChars_ba4f3_62 ?_
      refine lv_iload hx hb dJ6_getChars_ba4f3_65 (lv_at hl 2 rfl) ?_
      replace h := ob_s h
      obtain ⟨e17, h18, h⟩ := h
      refine hm_bald S hK hI h18 dJ6_getChars_ba4f3_67 ?_
      replace h := ob_s h
      obtain ⟨σ19, h20, h⟩ := h
      refine hm_bast S hK hI hL h20 dJ6_getChars_ba4f3_68 (fun H locs hI hL => ?_)
      refine lv_goto (tgt := 22) hx hb dJ6_getChars_ba4f3_69 (by decide) ?_
      exact hk22 _ _ _ _ _ _ _ h hI hL (lv_sub hl [1, 4, 0, 5] rfl)
  have hL22 : ∀ n : Nat, ∀ (v0 : Int32) (v5 : Int32) (v6 : Int32) (σ : hmS) (H : Heap) (locs : List Loc) (ls : Array Slot), fJ6_getChars_ba4f3_L22 E x1 x2  n v0 v5 v6 σ = some (r, σ') → hmI E σ H → hmLo E locs → lv_has ls 7 [(0, .int v0), (2, va_rf x2), (5, .int v5), (6, .int v6)] → W p l e R s m ([.int x0, .int x1, va_rf x2] : List Value).toArray below meth c H locs 0 0 (MQ below (hmQc E (some (.int r)) σ') ([.int x0, .int x1, va_rf x2] : List Value).toArray s 0 0 (fun q => hmL E ≤ q)) (F0 m 22 ls []) := by
    intro n
    induction n with
    | zero =>
      intro v0 v5 v6 σ H locs ls h
      have h : none = some (r, σ') := h
      cases h
    | succ n ih => exact hB22 _ ih
  have hJ12 : ∀ (v0 : Int32) (v5 : Int32) (w0 : Int32) (σ : hmS) (H : Heap) (locs : List Loc) (ls : Array Slot), fJ6_getChars_ba4f3_J12 E x1 x2  v0 v5 w0 σ = some (r, σ') → hmI E σ H → hmLo E locs → lv_has ls 7 [(0, .int v0), (2, va_rf x2), (5, .int v5)] → W p l e R s m ([.int x0, .int x1, va_rf x2] : List Value).toArray below meth c H locs 0 0 (MQ below (hmQc E (some (.int r)) σ') ([.int x0, .int x1, va_rf x2] : List Value).toArray s 0 0 (fun q => hmL E ≤ q)) (F0 m 12 ls [.int w0]) := by
    intro v0 v5 w0 σ H locs ls h hI hL hl
    unfold fJ6_getChars_ba4f3_J12 at h
    refine lv_istore (lv' := [(6, .int w0), (0, .int v0), (2, va_rf x2), (5, .int v5)]) hx hb dJ6_getChars_ba4f3_12 hl (by decide) rfl (fun ls hl => ?_)
    refine lv_iload hx hb dJ6_getChars_ba4f3_14 (lv_at hl 0 rfl) ?_
    refine lv_if_ne (tgt := 22) hx hb dJ6_getChars_ba4f3_16 (by decide) (fun c1 => ?_) (fun c1 => ?_)
    · replace h := it_n c1 h
      exact hL22 20 _ _ _ _ _ _ _ h hI hL (lv_sub hl [1, 2, 3, 0] rfl)
    · replace h := it_p c1 h
      refine lv_iload_n hx hb dJ6_getChars_ba4f3_19 rfl (lv_at hl 1 rfl) ?_
      refine lv_ineg hx hb dJ6_getChars_ba4f3_20 ?_
      refine lv_istore_n (lv' := [(0, .int (-v0)), (6, .int w0), (2, va_rf x2), (5, .int v5)]) hx hb dJ6_getChars_ba4f3_21 rfl hl (by decide) rfl (fun ls hl => ?_)
      exact hL22 20 _ _ _ _ _ _ _ h hI hL (lv_sub hl [0, 2, 3, 1] rfl)
  have h := hmain
  clear hmain
  unfold fJ6_getChars_ba4f3 at h
  refine lv_iload_n hx hb dJ6_getChars_ba4f3_0 rfl (lv_at hl 1 rfl) ?_
  refine lv_istore (lv' := [(5, .int x1), (0, .int x0), (1, .int x1), (2, va_rf x2)]) hx hb dJ6_getChars_ba4f3_1 hl (by decide) rfl (fun ls hl => ?_)
  refine lv_iload_n hx hb dJ6_getChars_ba4f3_3 rfl (lv_at hl 1 rfl) ?_
  refine lv_if_ge (tgt := 11) hx hb dJ6_getChars_ba4f3_4 (by decide) (fun c1 => ?_) (fun c1 => ?_)
  · replace h := it_p c1 h
    refine lv_iconst (v := 0) hx hb dJ6_getChars_ba4f3_11 (by decide) ?_
    exact hJ12 _ _ _ _ _ _ _ h hI hL (lv_sub hl [1, 3, 0] rfl)
  · replace h := it_n c1 h
    refine lv_iconst (v := 1) hx hb dJ6_getChars_ba4f3_7 (by decide) ?_
    refine lv_goto (tgt := 12) hx hb dJ6_getChars_ba4f3_8 (by decide) ?_
    exact hJ12 _ _ _ _ _ _ _ h hI hL (lv_sub hl [1, 3, 0] rfl)

def fJ5_append_c97b9_J48 (E : hmG) (x0 : Nat) (x1 : Int32)  (v3 : Int32) (σ : hmS) : Option (Option Nat × hmS) :=
  ob (wF σ x0 1 3 (.int v3)) fun σ1 => some ((some x0), σ1)
def fJ5_append_c97b9 (E : hmG) (x0 : Nat) (x1 : Int32) (σ : hmS) : Option (Option Nat × hmS) :=
  ob (gI σ x0 1 3) fun f1 => cb (fJ6_stringSize_0f7a4 x1 σ) fun r5 σ4 => ob (obC σ4 x0 1) fun _ => cb (fJ5_ensureCapacityInternal_d00df x0 (f1 + r5) σ4) fun _ σ8 => ob (obC σ8 x0 1) fun _ => cb (fJ5_isLatin1_aae02 x0 σ8) fun r12 σ11 => if r12 = 0 then
    ob (gR σ11 x0 1 0) fun f14 => none
  else
    ob (gR σ11 x0 1 0) fun f16 => cb (fJ6_getChars_ba4f3 E x1 (f1 + r5) f16 σ11) fun r20 σ19 => fJ5_append_c97b9_J48 E x0 x1 (f1 + r5) σ19
set_option maxHeartbeats 4000000 in
set_option maxRecDepth 100000 in
theorem mJ5_append_c97b9 (l : Launch) (E : hmG) {x0 : Nat} {x1 : Int32} {σ σ' : hmS} {r : Option Nat} (h : fJ5_append_c97b9 E x0 x1 σ = some (r, σ')) : Met l yJ5_append_c97b9 [Cond.code yJ5_append_c97b9 cJ5_append_c97b9 4 (some (.object "java/lang/AbstractStringBuilder"))] { frames := 4, cells := 1, slots := 128, locals := 91 } (hmPc E [.ref x0, .int x1] σ) (hmQc E (some (va_rf r)) σ') 1 128 (fun q => hmL E ≤ q) := by
  refine va_MetF (cc := cJ5_append_c97b9) (maxL := 4) (ret := (some (.object "java/lang/AbstractStringBuilder"))) (by decide +kernel) rfl ?_
  intro p e s m args below meth c s₁ B hml hv
  obtain ⟨rfl, hK, hI⟩ := hv
  have S : CallFix p m c cJ5_append_c97b9 4 s ([.ref x0, .int x1] : List Value).toArray [] RJ5 := ⟨B.exec, B.bytes, hml, findClass_of_methodNamed B.named, fun w hw => by cases hw⟩
  have hx := S.1
  have hb := S.2.1
  have hr := B.returns
  have hlocks := B.notSynchronized
  have hL : hmLo E [] := hmLo.nil
  have hl : lv_has ((lg_sl ([.ref x0, .int x1]) ++ List.replicate (4 - (lg_sl ([.ref x0, .int x1])).length) Slot.unset).toArray) 4 [(0, .ref x0), (1, .int x1)] := by exact lv_entry _ (Nat.le_of_ble_eq_true rfl)
  rw [lg_entry_eq]
  generalize (lg_sl ([.ref x0, .int x1]) ++ List.replicate (4 - (lg_sl ([.ref x0, .int x1])).length) Slot.unset).toArray = ls at hl ⊢
  generalize hRe : (headSpec [Cond.code yJ5_append_c97b9 cJ5_append_c97b9 4 (some (.object "java/lang/AbstractStringBuilder"))] { frames := 4, cells := 1, slots := 128, locals := 91 }).room = R
  have hR1 : R.frames = 4 ∧ R.cells = 1 ∧ R.slots = 128 ∧ R.locals = 91 := by rw [← hRe]; exact ⟨rfl, rfl, rfl, rfl⟩
  clear hRe B hml
  generalize s.heap = H at hI ⊢
  generalize ([] : List Loc) = locs at hL ⊢
  have hmain := h
  clear h
  have hJ48 : ∀ (v3 : Int32) (σ : hmS) (H : Heap) (locs : List Loc) (ls : Array Slot), fJ5_append_c97b9_J48 E x0 x1  v3 σ = some (r, σ') → hmI E σ H → hmLo E locs → lv_has ls 4 [(0, .ref x0), (3, .int v3)] → W p l e R s m ([.ref x0, .int x1] : List Value).toArray below meth c H locs 1 128 (MQ below (hmQc E (some (va_rf r)) σ') ([.ref x0, .int x1] : List Value).toArray s 1 128 (fun q => hmL E ≤ q)) (F0 m 48 ls []) := by
    intro v3 σ H locs ls h hI hL hl
    unfold fJ5_append_c97b9_J48 at h
    refine lv_aload_n hx hb dJ5_append_c97b9_48 rfl (lv_at hl 0 rfl) ?_
    refine lv_iload_n hx hb dJ5_append_c97b9_49 rfl (lv_at hl 1 rfl) ?_
    replace h := ob_s h
    obtain ⟨σ1, h2, h⟩ := h
    refine hm_put S hK hI hL (pf_J5_79_1 hK) h2 ⟨rfl, rfl⟩ dJ5_append_c97b9_50 (fun H locs hI hL => ?_)
    refine lv_aload_n hx hb dJ5_append_c97b9_53 rfl (lv_at hl 0 rfl) ?_
    exact hm_aret hx hb hr (Or.inl ⟨_, rfl⟩) hI hL h (by omega) (by omega) hlocks dJ5_append_c97b9_54
  have h := hmain
  clear hmain
  unfold fJ5_append_c97b9 at h
  refine lv_aload_n hx hb dJ5_append_c97b9_0 rfl (lv_at hl 0 rfl) ?_
  replace h := ob_s h
  obtain ⟨f1, h2, h⟩ := h
  refine hm_get S hK hI (pf_J5_79_1 hK) (gI_s h2) dJ5_append_c97b9_1 ?_
  refine lv_istore_n (lv' := [(2, .int f1), (0, .ref x0), (1, .int x1)]) hx hb dJ5_append_c97b9_4 rfl hl (by decide) rfl (fun ls hl => ?_)
  refine lv_iload_n hx hb dJ5_append_c97b9_5 rfl (lv_at hl 0 rfl) ?_
  refine lv_iload_n hx hb dJ5_append_c97b9_6 rfl (lv_at hl 2 rfl) ?_
  replace h := cb_s h
  obtain ⟨r5, σ4, h3, h⟩ := h
  refine hm_call (hm_runS (As := [.int x1]) (rest := [.int f1]) S hK hI (mJ6_stringSize_0f7a4 l E h3) (pm_J5_245 hK) (ps_J6_stringSize_0f7a4 hK) ⟨by omega, by omega⟩ rfl hl.1 (Nat.le_of_ble_eq_true rfl) ⟨by omega, by omega⟩ dJ5_append_c97b9_7) hL (fun H locs hI hL => ?_)
  refine lv_iadd hx hb dJ5_append_c97b9_10 ?_
  refine lv_istore_n (lv' := [(3, .int (f1 + r5)), (2, .int f1), (0, .ref x0), (1, .int x1)]) hx hb dJ5_append_c97b9_11 rfl hl (by decide) rfl (fun ls hl => ?_)
  refine lv_aload_n hx hb dJ5_append_c97b9_12 rfl (lv_at hl 2 rfl) ?_
  refine lv_iload_n hx hb dJ5_append_c97b9_13 rfl (lv_at hl 0 rfl) ?_
  replace h := ob_s h
  obtain ⟨_, h7, h⟩ := h
  replace h := cb_s h
  obtain ⟨u0, σ8, h6, h⟩ := h
  refine hm_callv (hm_runV (As := [.int (f1 + r5)]) (rest := []) (ci := 1) S hK hI (obC_s h7) rfl (mJ5_ensureCapacityInternal_d00df l E h6) (pm_J5_100 hK) (pi_J5_ensureCapacityInternal_d00df hK) (pl_J4_J5_ensureCapacityInternal_d00df hK) ⟨by omega, by omega⟩ rfl hl.1 (Nat.le_of_ble_eq_true rfl) ⟨by omega, by omega⟩ dJ5_append_c97b9_14) hL (fun H locs hI hL => ?_)
  refine lv_aload_n hx hb dJ5_append_c97b9_17 rfl (lv_at hl 2 rfl) ?_
  replace h := ob_s h
  obtain ⟨_, h10, h⟩ := h
  replace h := cb_s h
  obtain ⟨r12, σ11, h9, h⟩ := h
  refine hm_call (hm_runV (As := []) (rest := []) (ci := 1) S hK hI (obC_s h10) rfl (mJ5_isLatin1_aae02 l E h9) (pm_J5_83 hK) (pi_J5_isLatin1_aae02 hK) (pl_J4_J5_isLatin1_aae02 hK) ⟨by omega, by omega⟩ rfl hl.1 (Nat.le_of_ble_eq_true rfl) ⟨by omega, by omega⟩ dJ5_append_c97b9_18) hL (fun H locs hI hL => ?_)
  refine lv_if_eq (tgt := 37) hx hb dJ5_append_c97b9_21 (by decide) (fun c13 => ?_) (fun c13 => ?_)
  · replace h := it_p c13 h
    refine lv_iload_n hx hb dJ5_append_c97b9_37 rfl (lv_at hl 3 rfl) ?_
    refine lv_iload_n hx hb dJ5_append_c97b9_38 rfl (lv_at hl 1 rfl) ?_
    refine lv_iload_n hx hb dJ5_append_c97b9_39 rfl (lv_at hl 0 rfl) ?_
    refine lv_aload_n hx hb dJ5_append_c97b9_40 rfl (lv_at hl 2 rfl) ?_
    replace h := ob_s h
    obtain ⟨f14, h15, h⟩ := h
    refine hm_get S hK hI (pf_J5_15_1 hK) (gR_s h15) dJ5_append_c97b9_41 ?_
    cases h
  · replace h := it_n c13 h
    refine lv_iload_n hx hb dJ5_append_c97b9_24 rfl (lv_at hl 3 rfl) ?_
    refine lv_iload_n hx hb dJ5_append_c97b9_25 rfl (lv_at hl 0 rfl) ?_
    refine lv_aload_n hx hb dJ5_append_c97b9_26 rfl (lv_at hl 2 rfl) ?_
    replace h := ob_s h
    obtain ⟨f16, h17, h⟩ := h
    refine hm_get S hK hI (pf_J5_15_1 hK) (gR_s h17) dJ5_append_c97b9_27 ?_
    replace h := cb_s h
    obtain ⟨r20, σ19, h18, h⟩ := h
    refine hm_call (hm_runS (As := [.int x1, .int (f1 + r5), va_rf f16]) (rest := []) S hK hI (mJ6_getChars_ba4f3 l E h18) (pm_J5_248 hK) (ps_J6_getChars_ba4f3 hK) ⟨by omega, by omega⟩ rfl hl.1 (Nat.le_of_ble_eq_true rfl) ⟨by omega, by omega⟩ dJ5_append_c97b9_30) hL (fun H locs hI hL => ?_)
    refine lv_pop hx hb dJ5_append_c97b9_33 rfl ?_
    refine lv_goto (tgt := 48) hx hb dJ5_append_c97b9_34 (by decide) ?_
    exact hJ48 _ _ _ _ _ h hI hL (lv_sub hl [2, 0] rfl)

def fJ4_append_bf812 (E : hmG) (x0 : Nat) (x1 : Int32) (σ : hmS) : Option (Option Nat × hmS) :=
  ob (obC σ x0 1) fun _ => cb (fJ5_append_c97b9 E x0 x1 σ) fun r4 σ3 => some ((some x0), σ3)
set_option maxHeartbeats 4000000 in
set_option maxRecDepth 100000 in
theorem mJ4_append_bf812 (l : Launch) (E : hmG) {x0 : Nat} {x1 : Int32} {σ σ' : hmS} {r : Option Nat} (h : fJ4_append_bf812 E x0 x1 σ = some (r, σ')) : Met l yJ4_append_bf812 [Cond.code yJ4_append_bf812 cJ4_append_bf812 2 (some (.object "java/lang/StringBuilder"))] { frames := 5, cells := 1, slots := 128, locals := 114 } (hmPc E [.ref x0, .int x1] σ) (hmQc E (some (va_rf r)) σ') 1 128 (fun q => hmL E ≤ q) := by
  refine va_MetF (cc := cJ4_append_bf812) (maxL := 2) (ret := (some (.object "java/lang/StringBuilder"))) (by decide +kernel) rfl ?_
  intro p e s m args below meth c s₁ B hml hv
  obtain ⟨rfl, hK, hI⟩ := hv
  have S : CallFix p m c cJ4_append_bf812 2 s ([.ref x0, .int x1] : List Value).toArray [] RJ4 := ⟨B.exec, B.bytes, hml, findClass_of_methodNamed B.named, fun w hw => by cases hw⟩
  have hx := S.1
  have hb := S.2.1
  have hr := B.returns
  have hlocks := B.notSynchronized
  have hL : hmLo E [] := hmLo.nil
  have hl : lv_has ((lg_sl ([.ref x0, .int x1]) ++ List.replicate (2 - (lg_sl ([.ref x0, .int x1])).length) Slot.unset).toArray) 2 [(0, .ref x0), (1, .int x1)] := by exact lv_entry _ (Nat.le_of_ble_eq_true rfl)
  rw [lg_entry_eq]
  generalize (lg_sl ([.ref x0, .int x1]) ++ List.replicate (2 - (lg_sl ([.ref x0, .int x1])).length) Slot.unset).toArray = ls at hl ⊢
  generalize hRe : (headSpec [Cond.code yJ4_append_bf812 cJ4_append_bf812 2 (some (.object "java/lang/StringBuilder"))] { frames := 5, cells := 1, slots := 128, locals := 114 }).room = R
  have hR1 : R.frames = 5 ∧ R.cells = 1 ∧ R.slots = 128 ∧ R.locals = 114 := by rw [← hRe]; exact ⟨rfl, rfl, rfl, rfl⟩
  clear hRe B hml
  generalize s.heap = H at hI ⊢
  generalize ([] : List Loc) = locs at hL ⊢
  have hmain := h
  clear h
  have h := hmain
  clear hmain
  unfold fJ4_append_bf812 at h
  refine lv_aload_n hx hb dJ4_append_bf812_0 rfl (lv_at hl 0 rfl) ?_
  refine lv_iload_n hx hb dJ4_append_bf812_1 rfl (lv_at hl 1 rfl) ?_
  replace h := ob_s h
  obtain ⟨_, h2, h⟩ := h
  replace h := cb_s h
  obtain ⟨r4, σ3, h1, h⟩ := h
  refine hm_call (hm_runSU (As := [.int x1]) (rest := []) (ci := 1) S hK hI (obC_s h2) rfl (mJ5_append_c97b9 l E h1) (pm_J4_53 hK) (pi_J5_append_c97b9 hK) 1028 193 (by decide +kernel) (by decide +kernel) (by decide) ⟨by omega, by omega⟩ rfl hl.1 (Nat.le_of_ble_eq_true rfl) ⟨by omega, by omega⟩ dJ4_append_bf812_2) hL (fun H locs hI hL => ?_)
  refine lv_pop hx hb dJ4_append_bf812_5 (by cases r4 <;> rfl) ?_
  refine lv_aload_n hx hb dJ4_append_bf812_6 rfl (lv_at hl 0 rfl) ?_
  exact hm_aret hx hb hr (Or.inl ⟨_, rfl⟩) hI hL h (by omega) (by omega) hlocks dJ4_append_bf812_7

def fJ5_getValue_6d5f1 (x0 : Nat) (σ : hmS) : Option (Option Nat × hmS) :=
  ob (gR σ x0 1 0) fun f1 => some (f1, σ)
set_option maxHeartbeats 4000000 in
set_option maxRecDepth 100000 in
theorem mJ5_getValue_6d5f1 (l : Launch) (E : hmG) {x0 : Nat} {σ σ' : hmS} {r : Option Nat} (h : fJ5_getValue_6d5f1 x0 σ = some (r, σ')) : Met l yJ5_getValue_6d5f1 [Cond.code yJ5_getValue_6d5f1 cJ5_getValue_6d5f1 1 (some (.array .byte))] { frames := 0, cells := 0, slots := 0, locals := 0 } (hmPc E [.ref x0] σ) (hmQc E (some (va_rf r)) σ') 0 0 (fun q => hmL E ≤ q) := by
  refine va_MetF (cc := cJ5_getValue_6d5f1) (maxL := 1) (ret := (some (.array .byte))) (by decide +kernel) rfl ?_
  intro p e s m args below meth c s₁ B hml hv
  obtain ⟨rfl, hK, hI⟩ := hv
  have S : CallFix p m c cJ5_getValue_6d5f1 1 s ([.ref x0] : List Value).toArray [] RJ5 := ⟨B.exec, B.bytes, hml, findClass_of_methodNamed B.named, fun w hw => by cases hw⟩
  have hx := S.1
  have hb := S.2.1
  have hr := B.returns
  have hlocks := B.notSynchronized
  have hL : hmLo E [] := hmLo.nil
  have hl : lv_has ((lg_sl ([.ref x0]) ++ List.replicate (1 - (lg_sl ([.ref x0])).length) Slot.unset).toArray) 1 [(0, .ref x0)] := by exact lv_entry _ (Nat.le_of_ble_eq_true rfl)
  rw [lg_entry_eq]
  generalize (lg_sl ([.ref x0]) ++ List.replicate (1 - (lg_sl ([.ref x0])).length) Slot.unset).toArray = ls at hl ⊢
  generalize hRe : (headSpec [Cond.code yJ5_getValue_6d5f1 cJ5_getValue_6d5f1 1 (some (.array .byte))] { frames := 0, cells := 0, slots := 0, locals := 0 }).room = R
  have hR1 : R.frames = 0 ∧ R.cells = 0 ∧ R.slots = 0 ∧ R.locals = 0 := by rw [← hRe]; exact ⟨rfl, rfl, rfl, rfl⟩
  clear hRe B hml
  generalize s.heap = H at hI ⊢
  generalize ([] : List Loc) = locs at hL ⊢
  have hmain := h
  clear h
  have h := hmain
  clear hmain
  unfold fJ5_getValue_6d5f1 at h
  refine lv_aload_n hx hb dJ5_getValue_6d5f1_0 rfl (lv_at hl 0 rfl) ?_
  replace h := ob_s h
  obtain ⟨f1, h2, h⟩ := h
  refine hm_get S hK hI (pf_J5_15_1 hK) (gR_s h2) dJ5_getValue_6d5f1_1 ?_
  exact hm_aret hx hb hr (Or.inr ⟨_, rfl⟩) hI hL h (by omega) (by omega) hlocks dJ5_getValue_6d5f1_4

def fJ5_length_8abf5 (x0 : Nat) (σ : hmS) : Option (Int32 × hmS) :=
  ob (gI σ x0 1 3) fun f1 => some (f1, σ)
set_option maxHeartbeats 4000000 in
set_option maxRecDepth 100000 in
theorem mJ5_length_8abf5 (l : Launch) (E : hmG) {x0 : Nat} {σ σ' : hmS} {r : Int32} (h : fJ5_length_8abf5 x0 σ = some (r, σ')) : Met l yJ5_length_8abf5 [Cond.code yJ5_length_8abf5 cJ5_length_8abf5 1 (some .int)] { frames := 0, cells := 0, slots := 0, locals := 0 } (hmPc E [.ref x0] σ) (hmQc E (some (.int r)) σ') 0 0 (fun q => hmL E ≤ q) := by
  refine va_MetF (cc := cJ5_length_8abf5) (maxL := 1) (ret := (some .int)) (by decide +kernel) rfl ?_
  intro p e s m args below meth c s₁ B hml hv
  obtain ⟨rfl, hK, hI⟩ := hv
  have S : CallFix p m c cJ5_length_8abf5 1 s ([.ref x0] : List Value).toArray [] RJ5 := ⟨B.exec, B.bytes, hml, findClass_of_methodNamed B.named, fun w hw => by cases hw⟩
  have hx := S.1
  have hb := S.2.1
  have hr := B.returns
  have hlocks := B.notSynchronized
  have hL : hmLo E [] := hmLo.nil
  have hl : lv_has ((lg_sl ([.ref x0]) ++ List.replicate (1 - (lg_sl ([.ref x0])).length) Slot.unset).toArray) 1 [(0, .ref x0)] := by exact lv_entry _ (Nat.le_of_ble_eq_true rfl)
  rw [lg_entry_eq]
  generalize (lg_sl ([.ref x0]) ++ List.replicate (1 - (lg_sl ([.ref x0])).length) Slot.unset).toArray = ls at hl ⊢
  generalize hRe : (headSpec [Cond.code yJ5_length_8abf5 cJ5_length_8abf5 1 (some .int)] { frames := 0, cells := 0, slots := 0, locals := 0 }).room = R
  have hR1 : R.frames = 0 ∧ R.cells = 0 ∧ R.slots = 0 ∧ R.locals = 0 := by rw [← hRe]; exact ⟨rfl, rfl, rfl, rfl⟩
  clear hRe B hml
  generalize s.heap = H at hI ⊢
  generalize ([] : List Loc) = locs at hL ⊢
  have hmain := h
  clear h
  have h := hmain
  clear hmain
  unfold fJ5_length_8abf5 at h
  refine lv_aload_n hx hb dJ5_length_8abf5_0 rfl (lv_at hl 0 rfl) ?_
  replace h := ob_s h
  obtain ⟨f1, h2, h⟩ := h
  refine hm_get S hK hI (pf_J5_79_1 hK) (gI_s h2) dJ5_length_8abf5_1 ?_
  exact hm_iret hx hb hr hI hL h (by omega) (by omega) hlocks dJ5_length_8abf5_4

def fJ4_length_8abf5 (x0 : Nat) (σ : hmS) : Option (Int32 × hmS) :=
  ob (obC σ x0 1) fun _ => cb (fJ5_length_8abf5 x0 σ) fun r4 σ3 => some (r4, σ3)
set_option maxHeartbeats 4000000 in
set_option maxRecDepth 100000 in
theorem mJ4_length_8abf5 (l : Launch) (E : hmG) {x0 : Nat} {σ σ' : hmS} {r : Int32} (h : fJ4_length_8abf5 x0 σ = some (r, σ')) : Met l yJ4_length_8abf5 [Cond.code yJ4_length_8abf5 cJ4_length_8abf5 1 (some .int)] { frames := 1, cells := 0, slots := 0, locals := 20 } (hmPc E [.ref x0] σ) (hmQc E (some (.int r)) σ') 0 0 (fun q => hmL E ≤ q) := by
  refine va_MetF (cc := cJ4_length_8abf5) (maxL := 1) (ret := (some .int)) (by decide +kernel) rfl ?_
  intro p e s m args below meth c s₁ B hml hv
  obtain ⟨rfl, hK, hI⟩ := hv
  have S : CallFix p m c cJ4_length_8abf5 1 s ([.ref x0] : List Value).toArray [] RJ4 := ⟨B.exec, B.bytes, hml, findClass_of_methodNamed B.named, fun w hw => by cases hw⟩
  have hx := S.1
  have hb := S.2.1
  have hr := B.returns
  have hlocks := B.notSynchronized
  have hL : hmLo E [] := hmLo.nil
  have hl : lv_has ((lg_sl ([.ref x0]) ++ List.replicate (1 - (lg_sl ([.ref x0])).length) Slot.unset).toArray) 1 [(0, .ref x0)] := by exact lv_entry _ (Nat.le_of_ble_eq_true rfl)
  rw [lg_entry_eq]
  generalize (lg_sl ([.ref x0]) ++ List.replicate (1 - (lg_sl ([.ref x0])).length) Slot.unset).toArray = ls at hl ⊢
  generalize hRe : (headSpec [Cond.code yJ4_length_8abf5 cJ4_length_8abf5 1 (some .int)] { frames := 1, cells := 0, slots := 0, locals := 20 }).room = R
  have hR1 : R.frames = 1 ∧ R.cells = 0 ∧ R.slots = 0 ∧ R.locals = 20 := by rw [← hRe]; exact ⟨rfl, rfl, rfl, rfl⟩
  clear hRe B hml
  generalize s.heap = H at hI ⊢
  generalize ([] : List Loc) = locs at hL ⊢
  have hmain := h
  clear h
  have h := hmain
  clear hmain
  unfold fJ4_length_8abf5 at h
  refine lv_aload_n hx hb dJ4_length_8abf5_0 rfl (lv_at hl 0 rfl) ?_
  replace h := ob_s h
  obtain ⟨_, h2, h⟩ := h
  replace h := cb_s h
  obtain ⟨r4, σ3, h1, h⟩ := h
  refine hm_call (hm_runSU (As := []) (rest := []) (ci := 1) S hK hI (obC_s h2) rfl (mJ5_length_8abf5 l E h1) (pm_J4_343 hK) (pi_J5_length_8abf5 hK) 382 193 (by decide +kernel) (by decide +kernel) (by decide) ⟨by omega, by omega⟩ rfl hl.1 (Nat.le_of_ble_eq_true rfl) ⟨by omega, by omega⟩ dJ4_length_8abf5_1) hL (fun H locs hI hL => ?_)
  exact hm_iret hx hb hr hI hL h (by omega) (by omega) hlocks dJ4_length_8abf5_4

def fJ7_checkLength_df160 (x0 : Int32) (x1 : Int32) (σ : hmS) : Option (Unit × hmS) :=
  if x0 ≤ x1 then
    some ((), σ)
  else
    none
set_option maxHeartbeats 4000000 in
set_option maxRecDepth 100000 in
theorem mJ7_checkLength_df160 (l : Launch) (E : hmG) {x0 : Int32} {x1 : Int32} {σ σ' : hmS} {r : Unit} (h : fJ7_checkLength_df160 x0 x1 σ = some (r, σ')) : Met l yJ7_checkLength_df160 [Cond.code yJ7_checkLength_df160 cJ7_checkLength_df160 2 none] { frames := 0, cells := 0, slots := 0, locals := 0 } (hmPc E [.int x0, .int x1] σ) (hmQc E none σ') 0 0 (fun q => hmL E ≤ q) := by
  refine va_MetF (cc := cJ7_checkLength_df160) (maxL := 2) (ret := none) (by decide +kernel) rfl ?_
  intro p e s m args below meth c s₁ B hml hv
  obtain ⟨rfl, hK, hI⟩ := hv
  have S : CallFix p m c cJ7_checkLength_df160 2 s ([.int x0, .int x1] : List Value).toArray [] RJ7 := ⟨B.exec, B.bytes, hml, findClass_of_methodNamed B.named, fun w hw => by cases hw⟩
  have hx := S.1
  have hb := S.2.1
  have hr := B.returns
  have hlocks := B.notSynchronized
  have hL : hmLo E [] := hmLo.nil
  have hl : lv_has ((lg_sl ([.int x0, .int x1]) ++ List.replicate (2 - (lg_sl ([.int x0, .int x1])).length) Slot.unset).toArray) 2 [(0, .int x0), (1, .int x1)] := by exact lv_entry _ (Nat.le_of_ble_eq_true rfl)
  rw [lg_entry_eq]
  generalize (lg_sl ([.int x0, .int x1]) ++ List.replicate (2 - (lg_sl ([.int x0, .int x1])).length) Slot.unset).toArray = ls at hl ⊢
  generalize hRe : (headSpec [Cond.code yJ7_checkLength_df160 cJ7_checkLength_df160 2 none] { frames := 0, cells := 0, slots := 0, locals := 0 }).room = R
  have hR1 : R.frames = 0 ∧ R.cells = 0 ∧ R.slots = 0 ∧ R.locals = 0 := by rw [← hRe]; exact ⟨rfl, rfl, rfl, rfl⟩
  clear hRe B hml
  generalize s.heap = H at hI ⊢
  generalize ([] : List Loc) = locs at hL ⊢
  have hmain := h
  clear h
  have h := hmain
  clear hmain
  unfold fJ7_checkLength_df160 at h
  refine lv_iload_n hx hb dJ7_checkLength_df160_0 rfl (lv_at hl 1 rfl) ?_
  refine lv_iload_n hx hb dJ7_checkLength_df160_1 rfl (lv_at hl 0 rfl) ?_
  refine lv_icmp_ge (tgt := 37) hx hb dJ7_checkLength_df160_2 (by decide) (fun c1 => ?_) (fun c1 => ?_)
  · replace h := it_p c1 h
    exact hm_vret hx hb hr hI hL h (by omega) (by omega) hlocks dJ7_checkLength_df160_37
  · replace h := it_n c1 h
    cases h

def fJ7_copyOfRangeByte_39247 (x0 : Option Nat) (x1 : Int32) (x2 : Int32) (σ : hmS) : Option (Option Nat × hmS) :=
  cb (fJ7_checkLength_df160 x1 x2 σ) fun _ σ2 => cb (nA σ2 3 (.inl (fun _ => 0)) 128 (x2 - x1)) fun q3 σ4 => ob x0 fun a6 => ob (aN σ4 a6) fun n7 => cb (fJ9_min_7cf53 (n7 - x1) (x2 - x1) σ4) fun r11 σ10 => ob (cpB σ10 a6 x1 q3 (0 : Int32) r11) fun σ12 => some ((some q3), σ12)
set_option maxHeartbeats 4000000 in
set_option maxRecDepth 100000 in
theorem mJ7_copyOfRangeByte_39247 (l : Launch) (E : hmG) {x0 : Option Nat} {x1 : Int32} {x2 : Int32} {σ σ' : hmS} {r : Option Nat} (h : fJ7_copyOfRangeByte_39247 x0 x1 x2 σ = some (r, σ')) : Met l yJ7_copyOfRangeByte_39247 [Cond.code yJ7_copyOfRangeByte_39247 cJ7_copyOfRangeByte_39247 5 (some (.array .byte))] { frames := 1, cells := 1, slots := 128, locals := 40 } (hmPc E [va_rf x0, .int x1, .int x2] σ) (hmQc E (some (va_rf r)) σ') 1 128 (fun q => hmL E ≤ q) := by
  refine va_MetF (cc := cJ7_copyOfRangeByte_39247) (maxL := 5) (ret := (some (.array .byte))) (by decide +kernel) rfl ?_
  intro p e s m args below meth c s₁ B hml hv
  obtain ⟨rfl, hK, hI⟩ := hv
  have S : CallFix p m c cJ7_copyOfRangeByte_39247 5 s ([va_rf x0, .int x1, .int x2] : List Value).toArray [] RJ7 := ⟨B.exec, B.bytes, hml, findClass_of_methodNamed B.named, fun w hw => by cases hw⟩
  have hx := S.1
  have hb := S.2.1
  have hr := B.returns
  have hlocks := B.notSynchronized
  have hL : hmLo E [] := hmLo.nil
  have hl : lv_has ((lg_sl ([va_rf x0, .int x1, .int x2]) ++ List.replicate (5 - (lg_sl ([va_rf x0, .int x1, .int x2])).length) Slot.unset).toArray) 5 [(0, va_rf x0), (1, .int x1), (2, .int x2)] := by cases x0 <;> exact lv_entry _ (Nat.le_of_ble_eq_true rfl)
  rw [lg_entry_eq]
  generalize (lg_sl ([va_rf x0, .int x1, .int x2]) ++ List.replicate (5 - (lg_sl ([va_rf x0, .int x1, .int x2])).length) Slot.unset).toArray = ls at hl ⊢
  generalize hRe : (headSpec [Cond.code yJ7_copyOfRangeByte_39247 cJ7_copyOfRangeByte_39247 5 (some (.array .byte))] { frames := 1, cells := 1, slots := 128, locals := 40 }).room = R
  have hR1 : R.frames = 1 ∧ R.cells = 1 ∧ R.slots = 128 ∧ R.locals = 40 := by rw [← hRe]; exact ⟨rfl, rfl, rfl, rfl⟩
  clear hRe B hml
  generalize s.heap = H at hI ⊢
  generalize ([] : List Loc) = locs at hL ⊢
  have hmain := h
  clear h
  have h := hmain
  clear hmain
  unfold fJ7_copyOfRangeByte_39247 at h
  refine lv_iload_n hx hb dJ7_copyOfRangeByte_39247_0 rfl (lv_at hl 1 rfl) ?_
  refine lv_iload_n hx hb dJ7_copyOfRangeByte_39247_1 rfl (lv_at hl 2 rfl) ?_
  replace h := cb_s h
  obtain ⟨u0, σ2, h1, h⟩ := h
  refine hm_callv (hm_runS (As := [.int x1, .int x2]) (rest := []) S hK hI (mJ7_checkLength_df160 l E h1) (pm_J7_343 hK) (ps_J7_checkLength_df160 hK) ⟨by omega, by omega⟩ rfl hl.1 (Nat.le_of_ble_eq_true rfl) ⟨by omega, by omega⟩ dJ7_copyOfRangeByte_39247_2) hL (fun H locs hI hL => ?_)
  refine lv_iload_n hx hb dJ7_copyOfRangeByte_39247_5 rfl (lv_at hl 2 rfl) ?_
  refine lv_iload_n hx hb dJ7_copyOfRangeByte_39247_6 rfl (lv_at hl 1 rfl) ?_
  refine lv_isub hx hb dJ7_copyOfRangeByte_39247_7 ?_
  refine lv_istore_n (lv' := [(3, .int (x2 - x1)), (0, va_rf x0), (1, .int x1), (2, .int x2)]) hx hb dJ7_copyOfRangeByte_39247_8 rfl hl (by decide) rfl (fun ls hl => ?_)
  refine lv_iload_n hx hb dJ7_copyOfRangeByte_39247_9 rfl (lv_at hl 0 rfl) ?_
  replace h := cb_s h
  obtain ⟨q3, σ4, h5, h⟩ := h
  refine hm_newa (i := 194) S hK hI (by decide +kernel) rfl (by decide) (fun _ => rfl) h5 (by decide) (by omega) (by omega) dJ7_copyOfRangeByte_39247_10 (fun H hI => ?_)
  refine lv_astore (lv' := [(4, .ref q3), (3, .int (x2 - x1)), (0, va_rf x0), (1, .int x1), (2, .int x2)]) hx hb dJ7_copyOfRangeByte_39247_12 hl (by decide) rfl (fun ls hl => ?_)
  refine hm_aload_n hx hb dJ7_copyOfRangeByte_39247_14 rfl (lv_at hl 2 rfl) ?_
  refine lv_iload_n hx hb dJ7_copyOfRangeByte_39247_15 rfl (lv_at hl 3 rfl) ?_
  refine lv_aload hx hb dJ7_copyOfRangeByte_39247_16 (lv_at hl 0 rfl) ?_
  refine lv_iconst (v := 0) hx hb dJ7_copyOfRangeByte_39247_18 (by decide) ?_
  refine hm_aload_n hx hb dJ7_copyOfRangeByte_39247_19 rfl (lv_at hl 2 rfl) ?_
  replace h := ob_s h
  obtain ⟨a6, rfl, h⟩ := h
  have hl : lv_has ls 5 [(4, .ref q3), (3, .int (x2 - x1)), (0, .ref a6), (1, .int x1), (2, .int x2)] := hl
  replace h := ob_s h
  obtain ⟨n7, h8, h⟩ := h
  refine hm_aN S hK hI h8 dJ7_copyOfRangeByte_39247_20 ?_
  refine lv_iload_n hx hb dJ7_copyOfRangeByte_39247_21 rfl (lv_at hl 3 rfl) ?_
  refine lv_isub hx hb dJ7_copyOfRangeByte_39247_22 ?_
  refine lv_iload_n hx hb dJ7_copyOfRangeByte_39247_23 rfl (lv_at hl 1 rfl) ?_
  replace h := cb_s h
  obtain ⟨r11, σ10, h9, h⟩ := h
  refine hm_call (hm_runS (As := [.int (n7 - x1), .int (x2 - x1)]) (rest := [.int (0 : Int32), .ref q3, .int x1, .ref a6]) S hK hI (mJ9_min_7cf53 l E h9) (pm_J7_304 hK) (ps_J9_min_7cf53 hK) ⟨by omega, by omega⟩ rfl hl.1 (Nat.le_of_ble_eq_true rfl) ⟨by omega, by omega⟩ dJ7_copyOfRangeByte_39247_24) hL (fun H locs hI hL => ?_)
  replace h := ob_s h
  obtain ⟨σ12, h13, h⟩ := h
  refine hm_copyB (i1 := 238) (i2 := 240) (i3 := 239) (i4 := 14) S hK hI hL (by decide +kernel) (by decide +kernel) (by decide +kernel) (by decide +kernel) h13 hl.1 (by omega) (Nat.le_of_ble_eq_true rfl) (by omega) dJ7_copyOfRangeByte_39247_27 (fun H locs hI hL => ?_)
  refine lv_aload hx hb dJ7_copyOfRangeByte_39247_30 (lv_at hl 0 rfl) ?_
  exact hm_aret hx hb hr (Or.inr ⟨_, rfl⟩) hI hL h (by omega) (by omega) hlocks dJ7_copyOfRangeByte_39247_32

def fJ7_copyOfRange_39247_J10 (x0 : Option Nat) (x1 : Int32) (x2 : Int32)   (σ : hmS) : Option (Option Nat × hmS) :=
  cb (fJ7_copyOfRangeByte_39247 x0 x1 x2 σ) fun r3 σ2 => some (r3, σ2)
def fJ7_copyOfRange_39247 (x0 : Option Nat) (x1 : Int32) (x2 : Int32) (σ : hmS) : Option (Option Nat × hmS) :=
  if x1 = 0 then
    ob x0 fun a2 => ob (aN σ a2) fun n3 => if x2 = n3 then
      cb (clA σ 3 a2 128) fun q6 σ7 => ob (arK σ7 q6 3) fun _ => some ((some q6), σ7)
    else
      fJ7_copyOfRange_39247_J10 x0 x1 x2 σ
  else
    fJ7_copyOfRange_39247_J10 x0 x1 x2 σ
set_option maxHeartbeats 4000000 in
set_option maxRecDepth 100000 in
theorem mJ7_copyOfRange_39247 (l : Launch) (E : hmG) {x0 : Option Nat} {x1 : Int32} {x2 : Int32} {σ σ' : hmS} {r : Option Nat} (h : fJ7_copyOfRange_39247 x0 x1 x2 σ = some (r, σ')) : Met l yJ7_copyOfRange_39247 [Cond.code yJ7_copyOfRange_39247 cJ7_copyOfRange_39247 3 (some (.array .byte))] { frames := 2, cells := 1, slots := 128, locals := 64 } (hmPc E [va_rf x0, .int x1, .int x2] σ) (hmQc E (some (va_rf r)) σ') 1 128 (fun q => hmL E ≤ q) := by
  refine va_MetF (cc := cJ7_copyOfRange_39247) (maxL := 3) (ret := (some (.array .byte))) (by decide +kernel) rfl ?_
  intro p e s m args below meth c s₁ B hml hv
  obtain ⟨rfl, hK, hI⟩ := hv
  have S : CallFix p m c cJ7_copyOfRange_39247 3 s ([va_rf x0, .int x1, .int x2] : List Value).toArray [] RJ7 := ⟨B.exec, B.bytes, hml, findClass_of_methodNamed B.named, fun w hw => by cases hw⟩
  have hx := S.1
  have hb := S.2.1
  have hr := B.returns
  have hlocks := B.notSynchronized
  have hL : hmLo E [] := hmLo.nil
  have hl : lv_has ((lg_sl ([va_rf x0, .int x1, .int x2]) ++ List.replicate (3 - (lg_sl ([va_rf x0, .int x1, .int x2])).length) Slot.unset).toArray) 3 [(0, va_rf x0), (1, .int x1), (2, .int x2)] := by cases x0 <;> exact lv_entry _ (Nat.le_of_ble_eq_true rfl)
  rw [lg_entry_eq]
  generalize (lg_sl ([va_rf x0, .int x1, .int x2]) ++ List.replicate (3 - (lg_sl ([va_rf x0, .int x1, .int x2])).length) Slot.unset).toArray = ls at hl ⊢
  generalize hRe : (headSpec [Cond.code yJ7_copyOfRange_39247 cJ7_copyOfRange_39247 3 (some (.array .byte))] { frames := 2, cells := 1, slots := 128, locals := 64 }).room = R
  have hR1 : R.frames = 2 ∧ R.cells = 1 ∧ R.slots = 128 ∧ R.locals = 64 := by rw [← hRe]; exact ⟨rfl, rfl, rfl, rfl⟩
  clear hRe B hml
  generalize s.heap = H at hI ⊢
  generalize ([] : List Loc) = locs at hL ⊢
  have hmain := h
  clear h
  have hJ10 : ∀  (σ : hmS) (H : Heap) (locs : List Loc) (ls : Array Slot), fJ7_copyOfRange_39247_J10 x0 x1 x2   σ = some (r, σ') → hmI E σ H → hmLo E locs → lv_has ls 3 [(0, va_rf x0), (1, .int x1), (2, .int x2)] → W p l e R s m ([va_rf x0, .int x1, .int x2] : List Value).toArray below meth c H locs 0 0 (MQ below (hmQc E (some (va_rf r)) σ') ([va_rf x0, .int x1, .int x2] : List Value).toArray s 1 128 (fun q => hmL E ≤ q)) (F0 m 10 ls []) := by
    intro  σ H locs ls h hI hL hl
    unfold fJ7_copyOfRange_39247_J10 at h
    refine hm_aload_n hx hb dJ7_copyOfRange_39247_10 rfl (lv_at hl 0 rfl) ?_
    refine lv_iload_n hx hb dJ7_copyOfRange_39247_11 rfl (lv_at hl 1 rfl) ?_
    refine lv_iload_n hx hb dJ7_copyOfRange_39247_12 rfl (lv_at hl 2 rfl) ?_
    replace h := cb_s h
    obtain ⟨r3, σ2, h1, h⟩ := h
    refine hm_call (hm_runS (As := [va_rf x0, .int x1, .int x2]) (rest := []) S hK hI (mJ7_copyOfRangeByte_39247 l E h1) (pm_J7_339 hK) (ps_J7_copyOfRangeByte_39247 hK) ⟨by omega, by omega⟩ rfl hl.1 (Nat.le_of_ble_eq_true rfl) ⟨by omega, by omega⟩ dJ7_copyOfRange_39247_13) hL (fun H locs hI hL => ?_)
    exact hm_aret hx hb hr (Or.inr ⟨_, rfl⟩) hI hL h (by omega) (by omega) hlocks dJ7_copyOfRange_39247_16
  have h := hmain
  clear hmain
  unfold fJ7_copyOfRange_39247 at h
  refine lv_iload_n hx hb dJ7_copyOfRange_39247_0 rfl (lv_at hl 1 rfl) ?_
  refine lv_if_ne (tgt := 10) hx hb dJ7_copyOfRange_39247_1 (by decide) (fun c1 => ?_) (fun c1 => ?_)
  · replace h := it_n c1 h
    exact hJ10 _ _ _ _ h hI hL (lv_sub hl [0, 1, 2] rfl)
  · replace h := it_p c1 h
    refine lv_iload_n hx hb dJ7_copyOfRange_39247_4 rfl (lv_at hl 2 rfl) ?_
    refine hm_aload_n hx hb dJ7_copyOfRange_39247_5 rfl (lv_at hl 0 rfl) ?_
    replace h := ob_s h
    obtain ⟨a2, rfl, h⟩ := h
    have hl : lv_has ls 3 [(0, .ref a2), (1, .int x1), (2, .int x2)] := hl
    replace h := ob_s h
    obtain ⟨n3, h4, h⟩ := h
    refine hm_aN S hK hI h4 dJ7_copyOfRange_39247_6 ?_
    refine lv_icmp_eq (tgt := 17) hx hb dJ7_copyOfRange_39247_7 (by decide) (fun c5 => ?_) (fun c5 => ?_)
    · replace h := it_p c5 h
      refine lv_aload_n hx hb dJ7_copyOfRange_39247_17 rfl (lv_at hl 0 rfl) ?_
      replace h := cb_s h
      obtain ⟨q6, σ7, h8, h⟩ := h
      refine hm_clone (i1 := 228) (i2 := 229) (i3 := 230) (i4 := 231) (i5 := 232) S hK hI (by decide +kernel) (by decide +kernel) (by decide +kernel) (by decide +kernel) (by decide +kernel) hK.2.2.2.2.2.2.2.1.1 (hm_nmB hK) h8 hl.1 (by omega) (Nat.le_of_ble_eq_true rfl) (by omega) (by omega) (by omega) dJ7_copyOfRange_39247_18 (fun H hI => ?_)
      replace h := ob_s h
      obtain ⟨_, h9, h⟩ := h
      refine hm_cast (i1 := 234) S hK hI (by decide +kernel) (hm_nmB hK) h9 dJ7_copyOfRange_39247_21 ?_
      exact hm_aret hx hb hr (Or.inr ⟨_, rfl⟩) hI hL h (by omega) (by omega) hlocks dJ7_copyOfRange_39247_24
    · replace h := it_n c5 h
      exact hJ10 _ _ _ _ h hI hL (lv_sub hl [0, 1, 2] rfl)

def fJ0_init_db425_J79 (x0 : Nat) (x1 : Option Nat) (x2 : Option Nat)  (v3 : Option Nat) (v4 : Int32) (σ : hmS) : Option (Unit × hmS) :=
  ob (wF σ x0 0 1 (.int (1 : Int32))) fun σ1 => cb (fJ7_copyOfRange_39247 v3 (0 : Int32) (v4 <<< ((1 : Int32) &&& 31)) σ1) fun r5 σ4 => ob (wF σ4 x0 0 0 (va_rf r5)) fun σ6 => some ((), σ6)
def fJ0_init_db425 (x0 : Nat) (x1 : Option Nat) (x2 : Option Nat) (σ : hmS) : Option (Unit × hmS) :=
  ob x1 fun a1 => ob (obC σ a1 1) fun _ => cb (fJ5_getValue_6d5f1 a1 σ) fun r5 σ4 => ob (obC σ4 a1 1) fun _ => cb (fJ4_length_8abf5 a1 σ4) fun r9 σ8 => ob (obC σ8 a1 1) fun _ => cb (fJ5_isLatin1_aae02 a1 σ8) fun r13 σ12 => if r13 = 0 then
    if (1 : Int32) = 0 then
      fJ0_init_db425_J79 x0 x1 x2 r5 r9 σ12
    else
      ob (gI σ12 a1 1 2) fun f16 => if f16 = 0 then
        fJ0_init_db425_J79 x0 x1 x2 r5 r9 σ12
      else
        none
  else
    ob (wF σ12 x0 0 1 (.int (0 : Int32))) fun σ19 => cb (fJ7_copyOfRange_39247 r5 (0 : Int32) r9 σ19) fun r23 σ22 => ob (wF σ22 x0 0 0 (va_rf r23)) fun σ24 => some ((), σ24)
set_option maxHeartbeats 4000000 in
set_option maxRecDepth 100000 in
theorem mJ0_init_db425 (l : Launch) (E : hmG) {x0 : Nat} {x1 : Option Nat} {x2 : Option Nat} {σ σ' : hmS} {r : Unit} (h : fJ0_init_db425 x0 x1 x2 σ = some (r, σ')) : Met l yJ0_init_db425 [Cond.code yJ0_init_db425 cJ0_init_db425 5 none] { frames := 3, cells := 1, slots := 128, locals := 86 } (hmPc E [.ref x0, va_rf x1, va_rf x2] σ) (hmQc E none σ') 1 128 (fun q => hmL E ≤ q) := by
  refine va_MetF (cc := cJ0_init_db425) (maxL := 5) (ret := none) (by decide +kernel) rfl ?_
  intro p e s m args below meth c s₁ B hml hv
  obtain ⟨rfl, hK, hI⟩ := hv
  have S : CallFix p m c cJ0_init_db425 5 s ([.ref x0, va_rf x1, va_rf x2] : List Value).toArray [] RJ0 := ⟨B.exec, B.bytes, hml, findClass_of_methodNamed B.named, fun w hw => by cases hw⟩
  have hx := S.1
  have hb := S.2.1
  have hr := B.returns
  have hlocks := B.notSynchronized
  have hin : meth.name = "<init>" := (name_of_methodNamed B.named B.method).1
  have hL : hmLo E [] := hmLo.nil
  have hl : lv_has ((lg_sl ([.ref x0, va_rf x1, va_rf x2]) ++ List.replicate (5 - (lg_sl ([.ref x0, va_rf x1, va_rf x2])).length) Slot.unset).toArray) 5 [(0, .ref x0), (1, va_rf x1), (2, va_rf x2)] := by cases x1 <;> cases x2 <;> exact lv_entry _ (Nat.le_of_ble_eq_true rfl)
  rw [lg_entry_eq]
  generalize (lg_sl ([.ref x0, va_rf x1, va_rf x2]) ++ List.replicate (5 - (lg_sl ([.ref x0, va_rf x1, va_rf x2])).length) Slot.unset).toArray = ls at hl ⊢
  generalize hRe : (headSpec [Cond.code yJ0_init_db425 cJ0_init_db425 5 none] { frames := 3, cells := 1, slots := 128, locals := 86 }).room = R
  have hR1 : R.frames = 3 ∧ R.cells = 1 ∧ R.slots = 128 ∧ R.locals = 86 := by rw [← hRe]; exact ⟨rfl, rfl, rfl, rfl⟩
  clear hRe B hml
  generalize s.heap = H at hI ⊢
  generalize ([] : List Loc) = locs at hL ⊢
  have hmain := h
  clear h
  have hJ79 : ∀ (v3 : Option Nat) (v4 : Int32) (σ : hmS) (H : Heap) (locs : List Loc) (ls : Array Slot), fJ0_init_db425_J79 x0 x1 x2  v3 v4 σ = some (r, σ') → hmI E σ H → hmLo E locs → lv_has ls 5 [(0, .ref x0), (3, va_rf v3), (4, .int v4)] → W p l e R s m ([.ref x0, va_rf x1, va_rf x2] : List Value).toArray below meth c H locs 0 0 (MQ below (hmQc E none σ') ([.ref x0, va_rf x1, va_rf x2] : List Value).toArray s 1 128 (fun q => hmL E ≤ q)) (F0 m 79 ls []) := by
    intro v3 v4 σ H locs ls h hI hL hl
    unfold fJ0_init_db425_J79 at h
    refine lv_aload_n hx hb dJ0_init_db425_79 rfl (lv_at hl 0 rfl) ?_
    refine lv_iconst (v := 1) hx hb dJ0_init_db425_80 (by decide) ?_
    replace h := ob_s h
    obtain ⟨σ1, h2, h⟩ := h
    refine hm_putF S hK hI hL hin (pf_J0_15_0 hK) h2 ⟨rfl, rfl⟩ dJ0_init_db425_81 (fun H locs hI hL => ?_)
    refine lv_aload_n hx hb dJ0_init_db425_84 rfl (lv_at hl 0 rfl) ?_
    refine hm_aload_n hx hb dJ0_init_db425_85 rfl (lv_at hl 1 rfl) ?_
    refine lv_iconst (v := 0) hx hb dJ0_init_db425_86 (by decide) ?_
    refine lv_iload hx hb dJ0_init_db425_87 (lv_at hl 2 rfl) ?_
    refine lv_iconst (v := 1) hx hb dJ0_init_db425_89 (by decide) ?_
    refine lv_ishl hx hb dJ0_init_db425_90 ?_
    replace h := cb_s h
    obtain ⟨r5, σ4, h3, h⟩ := h
    refine hm_call (hm_runS (As := [va_rf v3, .int (0 : Int32), .int (v4 <<< ((1 : Int32) &&& 31))]) (rest := [.ref x0]) S hK hI (mJ7_copyOfRange_39247 l E h3) (pm_J0_54 hK) (ps_J7_copyOfRange_39247 hK) ⟨by omega, by omega⟩ rfl hl.1 (Nat.le_of_ble_eq_true rfl) ⟨by omega, by omega⟩ dJ0_init_db425_91) hL (fun H locs hI hL => ?_)
    replace h := ob_s h
    obtain ⟨σ6, h7, h⟩ := h
    refine hm_putF S hK hI hL hin (pf_J0_9_0 hK) h7 rf_fitA dJ0_init_db425_94 (fun H locs hI hL => ?_)
    exact hm_vret hx hb hr hI hL h (by omega) (by omega) hlocks dJ0_init_db425_97
  have h := hmain
  clear hmain
  unfold fJ0_init_db425 at h
  refine lv_aload_n hx hb dJ0_init_db425_0 rfl (lv_at hl 0 rfl) ?_
  refine hm_objInit (i1 := 374) (i2 := 27) (i3 := 28) S hK (by decide +kernel) (by decide +kernel) (by decide +kernel) hl.1 dJ0_init_db425_1 (by omega) (Nat.le_of_ble_eq_true rfl) (by omega) ?_
  refine hm_aload_n hx hb dJ0_init_db425_4 rfl (lv_at hl 1 rfl) ?_
  replace h := ob_s h
  obtain ⟨a1, rfl, h⟩ := h
  have hl : lv_has ls 5 [(0, .ref x0), (1, .ref a1), (2, va_rf x2)] := hl
  replace h := ob_s h
  obtain ⟨_, h3, h⟩ := h
  replace h := cb_s h
  obtain ⟨r5, σ4, h2, h⟩ := h
  refine hm_call (hm_runV (As := []) (rest := []) (ci := 1) S hK hI (obC_s h3) rfl (mJ5_getValue_6d5f1 l E h2) (pm_J0_552 hK) (pi_J5_getValue_6d5f1 hK) (pl_J4_J5_getValue_6d5f1 hK) ⟨by omega, by omega⟩ rfl hl.1 (Nat.le_of_ble_eq_true rfl) ⟨by omega, by omega⟩ dJ0_init_db425_5) hL (fun H locs hI hL => ?_)
  refine hm_astore_n (lv' := [(3, va_rf r5), (0, .ref x0), (1, .ref a1), (2, va_rf x2)]) hx hb dJ0_init_db425_8 rfl hl (by decide) (by cases x2 <;> rfl) (fun ls hl => ?_)
  refine lv_aload_n hx hb dJ0_init_db425_9 rfl (lv_at hl 2 rfl) ?_
  replace h := ob_s h
  obtain ⟨_, h7, h⟩ := h
  replace h := cb_s h
  obtain ⟨r9, σ8, h6, h⟩ := h
  refine hm_call (hm_runO (As := []) (rest := []) (ci := 1) (x := (⟨"java/lang/AbstractStringBuilder", "length", "()I"⟩ : MethodName)) S hK hI (obC_s h7) rfl (mJ4_length_8abf5 l E h6) (hm_wd hK 385 (by decide +kernel) rfl) (hm_wd hK 8 (by decide +kernel) rfl) (by decide) (by decide +kernel) (hm_wd hK 380 (by decide +kernel) rfl) (hm_wd hK 382 (by decide +kernel) rfl) (hm_wd hK 381 (by decide +kernel) rfl) (hm_wd hK 387 (w := Cond.code (⟨"java/lang/AbstractStringBuilder", "length", "()I"⟩ : MethodName) prog_11_method_6_code 1 (some .int)) (by decide +kernel) rfl) (hm_wd hK 383 (by decide +kernel) rfl) (pi_J4_length_8abf5 hK) ⟨by omega, by omega⟩ rfl hl.1 (Nat.le_of_ble_eq_true rfl) ⟨by omega, by omega⟩ dJ0_init_db425_10) hL (fun H locs hI hL => ?_)
  refine lv_istore (lv' := [(4, .int r9), (3, va_rf r5), (0, .ref x0), (1, .ref a1), (2, va_rf x2)]) hx hb dJ0_init_db425_13 hl (by decide) (by cases r5 <;> rfl) (fun ls hl => ?_)
  refine lv_aload_n hx hb dJ0_init_db425_15 rfl (lv_at hl 3 rfl) ?_
  replace h := ob_s h
  obtain ⟨_, h11, h⟩ := h
  replace h := cb_s h
  obtain ⟨r13, σ12, h10, h⟩ := h
  refine hm_call (hm_runV (As := []) (rest := []) (ci := 1) S hK hI (obC_s h11) rfl (mJ5_isLatin1_aae02 l E h10) (pm_J0_1047 hK) (pi_J5_isLatin1_aae02 hK) (pl_J4_J5_isLatin1_aae02 hK) ⟨by omega, by omega⟩ rfl hl.1 (Nat.le_of_ble_eq_true rfl) ⟨by omega, by omega⟩ dJ0_init_db425_16) hL (fun H locs hI hL => ?_)
  refine lv_if_eq (tgt := 41) hx hb dJ0_init_db425_19 (by decide) (fun c14 => ?_) (fun c14 => ?_)
  · replace h := it_p c14 h
    refine hm_gets S hI hK.2.2.2.2.2.2.2.2.2.2.2.2.1 (hm_wd hK 280 (by decide +kernel) rfl _) dJ0_init_db425_41 ?_
    refine lv_if_eq (tgt := 79) hx hb dJ0_init_db425_44 (by decide) (fun c15 => ?_) (fun c15 => ?_)
    · replace h := it_p c15 h
      exact hJ79 _ _ _ _ _ _ h hI hL (lv_sub hl [2, 1, 0] rfl)
    · replace h := it_n c15 h
      refine lv_aload_n hx hb dJ0_init_db425_47 rfl (lv_at hl 3 rfl) ?_
      replace h := ob_s h
      obtain ⟨f16, h17, h⟩ := h
      refine hm_get S hK hI (pf_J0_1048_1 hK) (gI_s h17) dJ0_init_db425_48 ?_
      refine lv_if_eq (tgt := 79) hx hb dJ0_init_db425_51 (by decide) (fun c18 => ?_) (fun c18 => ?_)
      · replace h := it_p c18 h
        exact hJ79 _ _ _ _ _ _ h hI hL (lv_sub hl [2, 1, 0] rfl)
      · replace h := it_n c18 h
        refine lv_aload_n hx hb dJ0_init_db425_54 rfl (lv_at hl 2 rfl) ?_
        refine hm_aload_n hx hb dJ0_init_db425_55 rfl (lv_at hl 1 rfl) ?_
        refine lv_iconst (v := 0) hx hb dJ0_init_db425_56 (by decide) ?_
        refine lv_iload hx hb dJ0_init_db425_57 (lv_at hl 0 rfl) ?_
        cases h
  · replace h := it_n c14 h
    refine lv_aload_n hx hb dJ0_init_db425_22 rfl (lv_at hl 2 rfl) ?_
    refine lv_iconst (v := 0) hx hb dJ0_init_db425_23 (by decide) ?_
    replace h := ob_s h
    obtain ⟨σ19, h20, h⟩ := h
    refine hm_putF S hK hI hL hin (pf_J0_15_0 hK) h20 ⟨rfl, rfl⟩ dJ0_init_db425_24 (fun H locs hI hL => ?_)
    refine lv_aload_n hx hb dJ0_init_db425_27 rfl (lv_at hl 2 rfl) ?_
    refine hm_aload_n hx hb dJ0_init_db425_28 rfl (lv_at hl 1 rfl) ?_
    refine lv_iconst (v := 0) hx hb dJ0_init_db425_29 (by decide) ?_
    refine lv_iload hx hb dJ0_init_db425_30 (lv_at hl 0 rfl) ?_
    replace h := cb_s h
    obtain ⟨r23, σ22, h21, h⟩ := h
    refine hm_call (hm_runS (As := [va_rf r5, .int (0 : Int32), .int r9]) (rest := [.ref x0]) S hK hI (mJ7_copyOfRange_39247 l E h21) (pm_J0_54 hK) (ps_J7_copyOfRange_39247 hK) ⟨by omega, by omega⟩ rfl hl.1 (Nat.le_of_ble_eq_true rfl) ⟨by omega, by omega⟩ dJ0_init_db425_32) hL (fun H locs hI hL => ?_)
    replace h := ob_s h
    obtain ⟨σ24, h25, h⟩ := h
    refine hm_putF S hK hI hL hin (pf_J0_9_0 hK) h25 rf_fitA dJ0_init_db425_35 (fun H locs hI hL => ?_)
    refine lv_goto (tgt := 97) hx hb dJ0_init_db425_38 (by decide) ?_
    exact hm_vret hx hb hr hI hL h (by omega) (by omega) hlocks dJ0_init_db425_97

def fJ0_init_81219 (x0 : Nat) (x1 : Option Nat) (σ : hmS) : Option (Unit × hmS) :=
  cb (fJ0_init_db425 x0 x1 none σ) fun _ σ2 => some ((), σ2)
set_option maxHeartbeats 4000000 in
set_option maxRecDepth 100000 in
theorem mJ0_init_81219 (l : Launch) (E : hmG) {x0 : Nat} {x1 : Option Nat} {σ σ' : hmS} {r : Unit} (h : fJ0_init_81219 x0 x1 σ = some (r, σ')) : Met l yJ0_init_81219 [Cond.code yJ0_init_81219 cJ0_init_81219 2 none] { frames := 4, cells := 1, slots := 128, locals := 110 } (hmPc E [.ref x0, va_rf x1] σ) (hmQc E none σ') 1 128 (fun q => hmL E ≤ q) := by
  refine va_MetF (cc := cJ0_init_81219) (maxL := 2) (ret := none) (by decide +kernel) rfl ?_
  intro p e s m args below meth c s₁ B hml hv
  obtain ⟨rfl, hK, hI⟩ := hv
  have S : CallFix p m c cJ0_init_81219 2 s ([.ref x0, va_rf x1] : List Value).toArray [] RJ0 := ⟨B.exec, B.bytes, hml, findClass_of_methodNamed B.named, fun w hw => by cases hw⟩
  have hx := S.1
  have hb := S.2.1
  have hr := B.returns
  have hlocks := B.notSynchronized
  have hin : meth.name = "<init>" := (name_of_methodNamed B.named B.method).1
  have hL : hmLo E [] := hmLo.nil
  have hl : lv_has ((lg_sl ([.ref x0, va_rf x1]) ++ List.replicate (2 - (lg_sl ([.ref x0, va_rf x1])).length) Slot.unset).toArray) 2 [(0, .ref x0), (1, va_rf x1)] := by cases x1 <;> exact lv_entry _ (Nat.le_of_ble_eq_true rfl)
  rw [lg_entry_eq]
  generalize (lg_sl ([.ref x0, va_rf x1]) ++ List.replicate (2 - (lg_sl ([.ref x0, va_rf x1])).length) Slot.unset).toArray = ls at hl ⊢
  generalize hRe : (headSpec [Cond.code yJ0_init_81219 cJ0_init_81219 2 none] { frames := 4, cells := 1, slots := 128, locals := 110 }).room = R
  have hR1 : R.frames = 4 ∧ R.cells = 1 ∧ R.slots = 128 ∧ R.locals = 110 := by rw [← hRe]; exact ⟨rfl, rfl, rfl, rfl⟩
  clear hRe B hml
  generalize s.heap = H at hI ⊢
  generalize ([] : List Loc) = locs at hL ⊢
  have hmain := h
  clear h
  have h := hmain
  clear hmain
  unfold fJ0_init_81219 at h
  refine lv_aload_n hx hb dJ0_init_81219_0 rfl (lv_at hl 0 rfl) ?_
  refine hm_aload_n hx hb dJ0_init_81219_1 rfl (lv_at hl 1 rfl) ?_
  refine hm_null hx hb dJ0_init_81219_2 ?_
  replace h := cb_s h
  obtain ⟨u0, σ2, h1, h⟩ := h
  refine hm_callv (hm_runI (As := [va_rf x1, va_rf none]) (rest := []) S hK hI (mJ0_init_db425 l E h1) (pm_J0_489 hK) rfl (pi_J0_init_db425 hK) ⟨by omega, by omega⟩ rfl hl.1 (Nat.le_of_ble_eq_true rfl) ⟨by omega, by omega⟩ dJ0_init_81219_3) hL (fun H locs hI hL => ?_)
  exact hm_vret hx hb hr hI hL h (by omega) (by omega) hlocks dJ0_init_81219_6

def fJ4_toString_0e30d (x0 : Nat) (σ : hmS) : Option (Option Nat × hmS) :=
  nw σ (.inr (0, [.null, .int 0, .int 0, .int 0])) fun q1 σ2 => cb (fJ0_init_81219 q1 (some x0) σ2) fun _ σ6 => some ((some q1), σ6)
set_option maxHeartbeats 4000000 in
set_option maxRecDepth 100000 in
theorem mJ4_toString_0e30d (l : Launch) (E : hmG) {x0 : Nat} {σ σ' : hmS} {r : Option Nat} (h : fJ4_toString_0e30d x0 σ = some (r, σ')) : Met l yJ4_toString_0e30d [Cond.code yJ4_toString_0e30d cJ4_toString_0e30d 1 (some (.object "java/lang/String"))] { frames := 5, cells := 2, slots := 132, locals := 131 } (hmPc E [.ref x0] σ) (hmQc E (some (va_rf r)) σ') 2 132 (fun q => hmL E ≤ q) := by
  refine va_MetF (cc := cJ4_toString_0e30d) (maxL := 1) (ret := (some (.object "java/lang/String"))) (by decide +kernel) rfl ?_
  intro p e s m args below meth c s₁ B hml hv
  obtain ⟨rfl, hK, hI⟩ := hv
  have S : CallFix p m c cJ4_toString_0e30d 1 s ([.ref x0] : List Value).toArray [] RJ4 := ⟨B.exec, B.bytes, hml, findClass_of_methodNamed B.named, fun w hw => by cases hw⟩
  have hx := S.1
  have hb := S.2.1
  have hr := B.returns
  have hlocks := B.notSynchronized
  have hL : hmLo E [] := hmLo.nil
  have hl : lv_has ((lg_sl ([.ref x0]) ++ List.replicate (1 - (lg_sl ([.ref x0])).length) Slot.unset).toArray) 1 [(0, .ref x0)] := by exact lv_entry _ (Nat.le_of_ble_eq_true rfl)
  rw [lg_entry_eq]
  generalize (lg_sl ([.ref x0]) ++ List.replicate (1 - (lg_sl ([.ref x0])).length) Slot.unset).toArray = ls at hl ⊢
  generalize hRe : (headSpec [Cond.code yJ4_toString_0e30d cJ4_toString_0e30d 1 (some (.object "java/lang/String"))] { frames := 5, cells := 2, slots := 132, locals := 131 }).room = R
  have hR1 : R.frames = 5 ∧ R.cells = 2 ∧ R.slots = 132 ∧ R.locals = 131 := by rw [← hRe]; exact ⟨rfl, rfl, rfl, rfl⟩
  clear hRe B hml
  generalize s.heap = H at hI ⊢
  generalize ([] : List Loc) = locs at hL ⊢
  have hmain := h
  clear h
  have h := hmain
  clear hmain
  unfold fJ4_toString_0e30d at h
  replace h := nw_s h
  obtain ⟨q1, σ2, h3, h4, h⟩ := h
  refine hm_new S hK hI (pn_J4_18 hK) h3 h4 (by omega) (by omega) dJ4_toString_0e30d_0 (fun H hI => ?_)
  refine lv_dup hx hb dJ4_toString_0e30d_3 rfl ?_
  refine lv_aload_n hx hb dJ4_toString_0e30d_4 rfl (lv_at hl 0 rfl) ?_
  replace h := cb_s h
  obtain ⟨u0, σ6, h5, h⟩ := h
  refine hm_callv (hm_runI (As := [.ref x0]) (rest := [.ref q1]) S hK hI (mJ0_init_81219 l E h5) (pm_J4_137 hK) rfl (pi_J0_init_81219 hK) ⟨by omega, by omega⟩ rfl hl.1 (Nat.le_of_ble_eq_true rfl) ⟨by omega, by omega⟩ dJ4_toString_0e30d_5) hL (fun H locs hI hL => ?_)
  exact hm_aret hx hb hr (Or.inl ⟨_, rfl⟩) hI hL h (by omega) (by omega) hlocks dJ4_toString_0e30d_8

def fJ0_isLatin1_aae02 (x0 : Nat) (σ : hmS) : Option (Int32 × hmS) :=
  if (1 : Int32) = 0 then
    some ((0 : Int32), σ)
  else
    ob (gI σ x0 0 1) fun f2 => if f2 = 0 then
      some ((1 : Int32), σ)
    else
      some ((0 : Int32), σ)
set_option maxHeartbeats 4000000 in
set_option maxRecDepth 100000 in
theorem mJ0_isLatin1_aae02 (l : Launch) (E : hmG) {x0 : Nat} {σ σ' : hmS} {r : Int32} (h : fJ0_isLatin1_aae02 x0 σ = some (r, σ')) : Met l yJ0_isLatin1_aae02 [Cond.code yJ0_isLatin1_aae02 cJ0_isLatin1_aae02 1 (some .boolean)] { frames := 0, cells := 0, slots := 0, locals := 0 } (hmPc E [.ref x0] σ) (hmQc E (some (.int r)) σ') 0 0 (fun q => hmL E ≤ q) := by
  refine va_MetF (cc := cJ0_isLatin1_aae02) (maxL := 1) (ret := (some .boolean)) (by decide +kernel) rfl ?_
  intro p e s m args below meth c s₁ B hml hv
  obtain ⟨rfl, hK, hI⟩ := hv
  have S : CallFix p m c cJ0_isLatin1_aae02 1 s ([.ref x0] : List Value).toArray [] RJ0 := ⟨B.exec, B.bytes, hml, findClass_of_methodNamed B.named, fun w hw => by cases hw⟩
  have hx := S.1
  have hb := S.2.1
  have hr := B.returns
  have hlocks := B.notSynchronized
  have hL : hmLo E [] := hmLo.nil
  have hl : lv_has ((lg_sl ([.ref x0]) ++ List.replicate (1 - (lg_sl ([.ref x0])).length) Slot.unset).toArray) 1 [(0, .ref x0)] := by exact lv_entry _ (Nat.le_of_ble_eq_true rfl)
  rw [lg_entry_eq]
  generalize (lg_sl ([.ref x0]) ++ List.replicate (1 - (lg_sl ([.ref x0])).length) Slot.unset).toArray = ls at hl ⊢
  generalize hRe : (headSpec [Cond.code yJ0_isLatin1_aae02 cJ0_isLatin1_aae02 1 (some .boolean)] { frames := 0, cells := 0, slots := 0, locals := 0 }).room = R
  have hR1 : R.frames = 0 ∧ R.cells = 0 ∧ R.slots = 0 ∧ R.locals = 0 := by rw [← hRe]; exact ⟨rfl, rfl, rfl, rfl⟩
  clear hRe B hml
  generalize s.heap = H at hI ⊢
  generalize ([] : List Loc) = locs at hL ⊢
  have hmain := h
  clear h
  have h := hmain
  clear hmain
  unfold fJ0_isLatin1_aae02 at h
  refine hm_gets S hI hK.2.2.2.2.2.2.2.2.2.2.2.2.1 (hm_wd hK 280 (by decide +kernel) rfl _) dJ0_isLatin1_aae02_0 ?_
  refine lv_if_eq (tgt := 17) hx hb dJ0_isLatin1_aae02_3 (by decide) (fun c1 => ?_) (fun c1 => ?_)
  · replace h := it_p c1 h
    refine lv_iconst (v := 0) hx hb dJ0_isLatin1_aae02_17 (by decide) ?_
    exact hm_zret hx hb hr rfl hI hL h (by omega) (by omega) hlocks dJ0_isLatin1_aae02_18
  · replace h := it_n c1 h
    refine lv_aload_n hx hb dJ0_isLatin1_aae02_6 rfl (lv_at hl 0 rfl) ?_
    replace h := ob_s h
    obtain ⟨f2, h3, h⟩ := h
    refine hm_get S hK hI (pf_J0_15_0 hK) (gI_s h3) dJ0_isLatin1_aae02_7 ?_
    refine lv_if_ne (tgt := 17) hx hb dJ0_isLatin1_aae02_10 (by decide) (fun c4 => ?_) (fun c4 => ?_)
    · replace h := it_n c4 h
      refine lv_iconst (v := 0) hx hb dJ0_isLatin1_aae02_17 (by decide) ?_
      exact hm_zret hx hb hr rfl hI hL h (by omega) (by omega) hlocks dJ0_isLatin1_aae02_18
    · replace h := it_p c4 h
      refine lv_iconst (v := 1) hx hb dJ0_isLatin1_aae02_13 (by decide) ?_
      refine lv_goto (tgt := 18) hx hb dJ0_isLatin1_aae02_14 (by decide) ?_
      exact hm_zret hx hb hr rfl hI hL h (by omega) (by omega) hlocks dJ0_isLatin1_aae02_18

def fJ3_checkIndex_8e157_J9 (x0 : Int32) (x1 : Int32) (x2 : Option Nat)   (σ : hmS) : Option (Int32 × hmS) :=
  none
def fJ3_checkIndex_8e157 (x0 : Int32) (x1 : Int32) (x2 : Option Nat) (σ : hmS) : Option (Int32 × hmS) :=
  if x0 < 0 then
    fJ3_checkIndex_8e157_J9 x0 x1 x2 σ
  else
    if x0 < x1 then
      some (x0, σ)
    else
      fJ3_checkIndex_8e157_J9 x0 x1 x2 σ
set_option maxHeartbeats 4000000 in
set_option maxRecDepth 100000 in
theorem mJ3_checkIndex_8e157 (l : Launch) (E : hmG) {x0 : Int32} {x1 : Int32} {x2 : Option Nat} {σ σ' : hmS} {r : Int32} (h : fJ3_checkIndex_8e157 x0 x1 x2 σ = some (r, σ')) : Met l yJ3_checkIndex_8e157 [Cond.code yJ3_checkIndex_8e157 cJ3_checkIndex_8e157 3 (some .int)] { frames := 0, cells := 0, slots := 0, locals := 0 } (hmPc E [.int x0, .int x1, va_rf x2] σ) (hmQc E (some (.int r)) σ') 0 0 (fun q => hmL E ≤ q) := by
  refine va_MetF (cc := cJ3_checkIndex_8e157) (maxL := 3) (ret := (some .int)) (by decide +kernel) rfl ?_
  intro p e s m args below meth c s₁ B hml hv
  obtain ⟨rfl, hK, hI⟩ := hv
  have S : CallFix p m c cJ3_checkIndex_8e157 3 s ([.int x0, .int x1, va_rf x2] : List Value).toArray [] RJ3 := ⟨B.exec, B.bytes, hml, findClass_of_methodNamed B.named, fun w hw => by cases hw⟩
  have hx := S.1
  have hb := S.2.1
  have hr := B.returns
  have hlocks := B.notSynchronized
  have hL : hmLo E [] := hmLo.nil
  have hl : lv_has ((lg_sl ([.int x0, .int x1, va_rf x2]) ++ List.replicate (3 - (lg_sl ([.int x0, .int x1, va_rf x2])).length) Slot.unset).toArray) 3 [(0, .int x0), (1, .int x1), (2, va_rf x2)] := by cases x2 <;> exact lv_entry _ (Nat.le_of_ble_eq_true rfl)
  rw [lg_entry_eq]
  generalize (lg_sl ([.int x0, .int x1, va_rf x2]) ++ List.replicate (3 - (lg_sl ([.int x0, .int x1, va_rf x2])).length) Slot.unset).toArray = ls at hl ⊢
  generalize hRe : (headSpec [Cond.code yJ3_checkIndex_8e157 cJ3_checkIndex_8e157 3 (some .int)] { frames := 0, cells := 0, slots := 0, locals := 0 }).room = R
  have hR1 : R.frames = 0 ∧ R.cells = 0 ∧ R.slots = 0 ∧ R.locals = 0 := by rw [← hRe]; exact ⟨rfl, rfl, rfl, rfl⟩
  clear hRe B hml
  generalize s.heap = H at hI ⊢
  generalize ([] : List Loc) = locs at hL ⊢
  have hmain := h
  clear h
  have hJ9 : ∀  (σ : hmS) (H : Heap) (locs : List Loc) (ls : Array Slot), fJ3_checkIndex_8e157_J9 x0 x1 x2   σ = some (r, σ') → hmI E σ H → hmLo E locs → lv_has ls 3 [(0, .int x0), (1, .int x1), (2, va_rf x2)] → W p l e R s m ([.int x0, .int x1, va_rf x2] : List Value).toArray below meth c H locs 0 0 (MQ below (hmQc E (some (.int r)) σ') ([.int x0, .int x1, va_rf x2] : List Value).toArray s 0 0 (fun q => hmL E ≤ q)) (F0 m 9 ls []) := by
    intro  σ H locs ls h hI hL hl
    unfold fJ3_checkIndex_8e157_J9 at h
    refine hm_aload_n hx hb dJ3_checkIndex_8e157_9 rfl (lv_at hl 2 rfl) ?_
    refine lv_iload_n hx hb dJ3_checkIndex_8e157_10 rfl (lv_at hl 0 rfl) ?_
    refine lv_iload_n hx hb dJ3_checkIndex_8e157_11 rfl (lv_at hl 1 rfl) ?_
    cases h
  have h := hmain
  clear hmain
  unfold fJ3_checkIndex_8e157 at h
  refine lv_iload_n hx hb dJ3_checkIndex_8e157_0 rfl (lv_at hl 0 rfl) ?_
  refine lv_if_lt (tgt := 9) hx hb dJ3_checkIndex_8e157_1 (by decide) (fun c1 => ?_) (fun c1 => ?_)
  · replace h := it_p c1 h
    exact hJ9 _ _ _ _ h hI hL (lv_sub hl [0, 1, 2] rfl)
  · replace h := it_n c1 h
    refine lv_iload_n hx hb dJ3_checkIndex_8e157_4 rfl (lv_at hl 0 rfl) ?_
    refine lv_iload_n hx hb dJ3_checkIndex_8e157_5 rfl (lv_at hl 1 rfl) ?_
    refine lv_icmp_lt (tgt := 16) hx hb dJ3_checkIndex_8e157_6 (by decide) (fun c2 => ?_) (fun c2 => ?_)
    · replace h := it_p c2 h
      refine lv_iload_n hx hb dJ3_checkIndex_8e157_16 rfl (lv_at hl 0 rfl) ?_
      exact hm_iret hx hb hr hI hL h (by omega) (by omega) hlocks dJ3_checkIndex_8e157_17
    · replace h := it_n c2 h
      exact hJ9 _ _ _ _ h hI hL (lv_sub hl [0, 1, 2] rfl)

def fJ0_checkIndex_df160 (E : hmG) (x0 : Int32) (x1 : Int32) (σ : hmS) : Option (Unit × hmS) :=
  cb (fJ3_checkIndex_8e157 x0 x1 (hmq E) σ) fun r3 σ2 => some ((), σ2)
set_option maxHeartbeats 4000000 in
set_option maxRecDepth 100000 in
theorem mJ0_checkIndex_df160 (l : Launch) (E : hmG) {x0 : Int32} {x1 : Int32} {σ σ' : hmS} {r : Unit} (h : fJ0_checkIndex_df160 E x0 x1 σ = some (r, σ')) : Met l yJ0_checkIndex_df160 [Cond.code yJ0_checkIndex_df160 cJ0_checkIndex_df160 2 none] { frames := 1, cells := 0, slots := 0, locals := 22 } (hmPc E [.int x0, .int x1] σ) (hmQc E none σ') 0 0 (fun q => hmL E ≤ q) := by
  refine va_MetF (cc := cJ0_checkIndex_df160) (maxL := 2) (ret := none) (by decide +kernel) rfl ?_
  intro p e s m args below meth c s₁ B hml hv
  obtain ⟨rfl, hK, hI⟩ := hv
  have S : CallFix p m c cJ0_checkIndex_df160 2 s ([.int x0, .int x1] : List Value).toArray [] RJ0 := ⟨B.exec, B.bytes, hml, findClass_of_methodNamed B.named, fun w hw => by cases hw⟩
  have hx := S.1
  have hb := S.2.1
  have hr := B.returns
  have hlocks := B.notSynchronized
  have hL : hmLo E [] := hmLo.nil
  have hl : lv_has ((lg_sl ([.int x0, .int x1]) ++ List.replicate (2 - (lg_sl ([.int x0, .int x1])).length) Slot.unset).toArray) 2 [(0, .int x0), (1, .int x1)] := by exact lv_entry _ (Nat.le_of_ble_eq_true rfl)
  rw [lg_entry_eq]
  generalize (lg_sl ([.int x0, .int x1]) ++ List.replicate (2 - (lg_sl ([.int x0, .int x1])).length) Slot.unset).toArray = ls at hl ⊢
  generalize hRe : (headSpec [Cond.code yJ0_checkIndex_df160 cJ0_checkIndex_df160 2 none] { frames := 1, cells := 0, slots := 0, locals := 22 }).room = R
  have hR1 : R.frames = 1 ∧ R.cells = 0 ∧ R.slots = 0 ∧ R.locals = 22 := by rw [← hRe]; exact ⟨rfl, rfl, rfl, rfl⟩
  clear hRe B hml
  generalize s.heap = H at hI ⊢
  generalize ([] : List Loc) = locs at hL ⊢
  have hmain := h
  clear h
  have h := hmain
  clear hmain
  unfold fJ0_checkIndex_df160 at h
  refine lv_iload_n hx hb dJ0_checkIndex_df160_0 rfl (lv_at hl 0 rfl) ?_
  refine lv_iload_n hx hb dJ0_checkIndex_df160_1 rfl (lv_at hl 1 rfl) ?_
  refine hm_gets S hI hK.2.2.2.2.2.2.2.2.2.2.2.2.2 (hm_wd hK 258 (by decide +kernel) rfl _) dJ0_checkIndex_df160_2 ?_
  replace h := cb_s h
  obtain ⟨r3, σ2, h1, h⟩ := h
  refine hm_call (hm_runS (As := [.int x0, .int x1, va_rf (hmq E)]) (rest := []) S hK hI (mJ3_checkIndex_8e157 l E h1) (pm_J0_1059 hK) (ps_J3_checkIndex_8e157 hK) ⟨by omega, by omega⟩ rfl hl.1 (Nat.le_of_ble_eq_true rfl) ⟨by omega, by omega⟩ dJ0_checkIndex_df160_5) hL (fun H locs hI hL => ?_)
  refine lv_pop hx hb dJ0_checkIndex_df160_8 rfl ?_
  exact hm_vret hx hb hr hI hL h (by omega) (by omega) hlocks dJ0_checkIndex_df160_9

def fJ1_charAt_3b067 (E : hmG) (x0 : Option Nat) (x1 : Int32) (σ : hmS) : Option (Int32 × hmS) :=
  ob x0 fun a1 => ob (aN σ a1) fun n2 => cb (fJ0_checkIndex_df160 E x1 n2 σ) fun _ σ5 => ob (aI σ5 3 a1 x1) fun e6 => ob (okC ((((e6 &&& (255 : Int32))).toUInt32 % 65536).toInt32)) fun _ => some (((((e6 &&& (255 : Int32))).toUInt32 % 65536).toInt32), σ5)
set_option maxHeartbeats 4000000 in
set_option maxRecDepth 100000 in
theorem mJ1_charAt_3b067 (l : Launch) (E : hmG) {x0 : Option Nat} {x1 : Int32} {σ σ' : hmS} {r : Int32} (h : fJ1_charAt_3b067 E x0 x1 σ = some (r, σ')) : Met l yJ1_charAt_3b067 [Cond.code yJ1_charAt_3b067 cJ1_charAt_3b067 2 (some .char)] { frames := 2, cells := 0, slots := 0, locals := 43 } (hmPc E [va_rf x0, .int x1] σ) (hmQc E (some (.int r)) σ') 0 0 (fun q => hmL E ≤ q) := by
  refine va_MetF (cc := cJ1_charAt_3b067) (maxL := 2) (ret := (some .char)) (by decide +kernel) rfl ?_
  intro p e s m args below meth c s₁ B hml hv
  obtain ⟨rfl, hK, hI⟩ := hv
  have S : CallFix p m c cJ1_charAt_3b067 2 s ([va_rf x0, .int x1] : List Value).toArray [] RJ1 := ⟨B.exec, B.bytes, hml, findClass_of_methodNamed B.named, fun w hw => by cases hw⟩
  have hx := S.1
  have hb := S.2.1
  have hr := B.returns
  have hlocks := B.notSynchronized
  have hL : hmLo E [] := hmLo.nil
  have hl : lv_has ((lg_sl ([va_rf x0, .int x1]) ++ List.replicate (2 - (lg_sl ([va_rf x0, .int x1])).length) Slot.unset).toArray) 2 [(0, va_rf x0), (1, .int x1)] := by cases x0 <;> exact lv_entry _ (Nat.le_of_ble_eq_true rfl)
  rw [lg_entry_eq]
  generalize (lg_sl ([va_rf x0, .int x1]) ++ List.replicate (2 - (lg_sl ([va_rf x0, .int x1])).length) Slot.unset).toArray = ls at hl ⊢
  generalize hRe : (headSpec [Cond.code yJ1_charAt_3b067 cJ1_charAt_3b067 2 (some .char)] { frames := 2, cells := 0, slots := 0, locals := 43 }).room = R
  have hR1 : R.frames = 2 ∧ R.cells = 0 ∧ R.slots = 0 ∧ R.locals = 43 := by rw [← hRe]; exact ⟨rfl, rfl, rfl, rfl⟩
  clear hRe B hml
  generalize s.heap = H at hI ⊢
  generalize ([] : List Loc) = locs at hL ⊢
  have hmain := h
  clear h
  have h := hmain
  clear hmain
  unfold fJ1_charAt_3b067 at h
  refine lv_iload_n hx hb dJ1_charAt_3b067_0 rfl (lv_at hl 1 rfl) ?_
  refine hm_aload_n hx hb dJ1_charAt_3b067_1 rfl (lv_at hl 0 rfl) ?_
  replace h := ob_s h
  obtain ⟨a1, rfl, h⟩ := h
  have hl : lv_has ls 2 [(0, .ref a1), (1, .int x1)] := hl
  replace h := ob_s h
  obtain ⟨n2, h3, h⟩ := h
  refine hm_aN S hK hI h3 dJ1_charAt_3b067_2 ?_
  replace h := cb_s h
  obtain ⟨u0, σ5, h4, h⟩ := h
  refine hm_callv (hm_runS (As := [.int x1, .int n2]) (rest := []) S hK hI (mJ0_checkIndex_df160 l E h4) (pm_J1_9 hK) (ps_J0_checkIndex_df160 hK) ⟨by omega, by omega⟩ rfl hl.1 (Nat.le_of_ble_eq_true rfl) ⟨by omega, by omega⟩ dJ1_charAt_3b067_3) hL (fun H locs hI hL => ?_)
  refine lv_aload_n hx hb dJ1_charAt_3b067_6 rfl (lv_at hl 0 rfl) ?_
  refine lv_iload_n hx hb dJ1_charAt_3b067_7 rfl (lv_at hl 1 rfl) ?_
  replace h := ob_s h
  obtain ⟨e6, h7, h⟩ := h
  refine hm_bald S hK hI h7 dJ1_charAt_3b067_8 ?_
  refine lv_sipush (v := 255) hx hb dJ1_charAt_3b067_9 (by decide) ?_
  refine lv_iand hx hb dJ1_charAt_3b067_12 ?_
  refine lv_i2c hx hb dJ1_charAt_3b067_13 rfl ?_
  replace h := ob_s h
  obtain ⟨_, z8, h⟩ := h
  exact hm_zret hx hb hr (okC_s z8) hI hL h (by omega) (by omega) hlocks dJ1_charAt_3b067_14

def fJ0_charAt_5068e (E : hmG) (x0 : Nat) (x1 : Int32) (σ : hmS) : Option (Int32 × hmS) :=
  ob (obC σ x0 0) fun _ => cb (fJ0_isLatin1_aae02 x0 σ) fun r4 σ3 => if r4 = 0 then
    ob (gR σ3 x0 0 0) fun f6 => none
  else
    ob (gR σ3 x0 0 0) fun f8 => cb (fJ1_charAt_3b067 E f8 x1 σ3) fun r12 σ11 => ob (okC r12) fun _ => some (r12, σ11)
set_option maxHeartbeats 4000000 in
set_option maxRecDepth 100000 in
theorem mJ0_charAt_5068e (l : Launch) (E : hmG) {x0 : Nat} {x1 : Int32} {σ σ' : hmS} {r : Int32} (h : fJ0_charAt_5068e E x0 x1 σ = some (r, σ')) : Met l yJ0_charAt_5068e [Cond.code yJ0_charAt_5068e cJ0_charAt_5068e 2 (some .char)] { frames := 3, cells := 0, slots := 0, locals := 64 } (hmPc E [.ref x0, .int x1] σ) (hmQc E (some (.int r)) σ') 0 0 (fun q => hmL E ≤ q) := by
  refine va_MetF (cc := cJ0_charAt_5068e) (maxL := 2) (ret := (some .char)) (by decide +kernel) rfl ?_
  intro p e s m args below meth c s₁ B hml hv
  obtain ⟨rfl, hK, hI⟩ := hv
  have S : CallFix p m c cJ0_charAt_5068e 2 s ([.ref x0, .int x1] : List Value).toArray [] RJ0 := ⟨B.exec, B.bytes, hml, findClass_of_methodNamed B.named, fun w hw => by cases hw⟩
  have hx := S.1
  have hb := S.2.1
  have hr := B.returns
  have hlocks := B.notSynchronized
  have hL : hmLo E [] := hmLo.nil
  have hl : lv_has ((lg_sl ([.ref x0, .int x1]) ++ List.replicate (2 - (lg_sl ([.ref x0, .int x1])).length) Slot.unset).toArray) 2 [(0, .ref x0), (1, .int x1)] := by exact lv_entry _ (Nat.le_of_ble_eq_true rfl)
  rw [lg_entry_eq]
  generalize (lg_sl ([.ref x0, .int x1]) ++ List.replicate (2 - (lg_sl ([.ref x0, .int x1])).length) Slot.unset).toArray = ls at hl ⊢
  generalize hRe : (headSpec [Cond.code yJ0_charAt_5068e cJ0_charAt_5068e 2 (some .char)] { frames := 3, cells := 0, slots := 0, locals := 64 }).room = R
  have hR1 : R.frames = 3 ∧ R.cells = 0 ∧ R.slots = 0 ∧ R.locals = 64 := by rw [← hRe]; exact ⟨rfl, rfl, rfl, rfl⟩
  clear hRe B hml
  generalize s.heap = H at hI ⊢
  generalize ([] : List Loc) = locs at hL ⊢
  have hmain := h
  clear h
  have h := hmain
  clear hmain
  unfold fJ0_charAt_5068e at h
  refine lv_aload_n hx hb dJ0_charAt_5068e_0 rfl (lv_at hl 0 rfl) ?_
  replace h := ob_s h
  obtain ⟨_, h2, h⟩ := h
  replace h := cb_s h
  obtain ⟨r4, σ3, h1, h⟩ := h
  refine hm_call (hm_runV (As := []) (rest := []) (ci := 0) S hK hI (obC_s h2) rfl (mJ0_isLatin1_aae02 l E h1) (pm_J0_492 hK) (pi_J0_isLatin1_aae02 hK) (pl_J0_J0_isLatin1_aae02 hK) ⟨by omega, by omega⟩ rfl hl.1 (Nat.le_of_ble_eq_true rfl) ⟨by omega, by omega⟩ dJ0_charAt_5068e_1) hL (fun H locs hI hL => ?_)
  refine lv_if_eq (tgt := 16) hx hb dJ0_charAt_5068e_4 (by decide) (fun c5 => ?_) (fun c5 => ?_)
  · replace h := it_p c5 h
    refine lv_aload_n hx hb dJ0_charAt_5068e_16 rfl (lv_at hl 0 rfl) ?_
    replace h := ob_s h
    obtain ⟨f6, h7, h⟩ := h
    refine hm_get S hK hI (pf_J0_9_0 hK) (gR_s h7) dJ0_charAt_5068e_17 ?_
    refine lv_iload_n hx hb dJ0_charAt_5068e_20 rfl (lv_at hl 1 rfl) ?_
    cases h
  · replace h := it_n c5 h
    refine lv_aload_n hx hb dJ0_charAt_5068e_7 rfl (lv_at hl 0 rfl) ?_
    replace h := ob_s h
    obtain ⟨f8, h9, h⟩ := h
    refine hm_get S hK hI (pf_J0_9_0 hK) (gR_s h9) dJ0_charAt_5068e_8 ?_
    refine lv_iload_n hx hb dJ0_charAt_5068e_11 rfl (lv_at hl 1 rfl) ?_
    replace h := cb_s h
    obtain ⟨r12, σ11, h10, h⟩ := h
    refine hm_call (hm_runS (As := [va_rf f8, .int x1]) (rest := []) S hK hI (mJ1_charAt_3b067 l E h10) (pm_J0_495 hK) (ps_J1_charAt_3b067 hK) ⟨by omega, by omega⟩ rfl hl.1 (Nat.le_of_ble_eq_true rfl) ⟨by omega, by omega⟩ dJ0_charAt_5068e_12) hL (fun H locs hI hL => ?_)
    replace h := ob_s h
    obtain ⟨_, z13, h⟩ := h
    exact hm_zret hx hb hr (okC_s z13) hI hL h (by omega) (by omega) hlocks dJ0_charAt_5068e_15
