def fJ9_min_7cf53 (x0 : Int32) (x1 : Int32) (σ : hmS) : Option (Int32 × hmS) :=
  if x1 < x0 then
    some (x1, σ)
  else
    some (x0, σ)
set_option maxHeartbeats 4000000 in
set_option maxRecDepth 100000 in
theorem mJ9_min_7cf53 (l : Launch) (E : hmG) {x0 : Int32} {x1 : Int32} {σ σ' : hmS} {r : Int32} (h : fJ9_min_7cf53 x0 x1 σ = some (r, σ')) : Met l yJ9_min_7cf53 [Cond.code yJ9_min_7cf53 cJ9_min_7cf53 2 (some .int)] { frames := 0, cells := 0, slots := 0, locals := 0 } (hmPc E [.int x0, .int x1] σ) (hmQc E (some (.int r)) σ') 0 0 (fun q => hmL E ≤ q) := by
  refine va_MetF (cc := cJ9_min_7cf53) (maxL := 2) (ret := (some .int)) (by decide +kernel) rfl ?_
  intro p e s m args below meth c s₁ B hml hv
  obtain ⟨rfl, hK, hI⟩ := hv
  have S : CallFix p m c cJ9_min_7cf53 2 s ([.int x0, .int x1] : List Value).toArray [] RJ9 := ⟨B.exec, B.bytes, hml, findClass_of_methodNamed B.named, fun w hw => by cases hw⟩
  have hx := S.1
  have hb := S.2.1
  have hr := B.returns
  have hlocks := B.notSynchronized
  have hL : hmLo E [] := hmLo.nil
  have hl : lv_has ((lg_sl ([.int x0, .int x1]) ++ List.replicate (2 - (lg_sl ([.int x0, .int x1])).length) Slot.unset).toArray) 2 [(0, .int x0), (1, .int x1)] := by exact lv_entry _ (Nat.le_of_ble_eq_true rfl)
  rw [lg_entry_eq]
  generalize (lg_sl ([.int x0, .int x1]) ++ List.replicate (2 - (lg_sl ([.int x0, .int x1])).length) Slot.unset).toArray = ls at hl ⊢
  generalize hRe : (headSpec [Cond.code yJ9_min_7cf53 cJ9_min_7cf53 2 (some .int)] { frames := 0, cells := 0, slots := 0, locals := 0 }).room = R
  have hR1 : R.frames = 0 ∧ R.cells = 0 ∧ R.slots = 0 ∧ R.locals = 0 := by rw [← hRe]; exact ⟨rfl, rfl, rfl, rfl⟩
  clear hRe B hml
  generalize s.heap = H at hI ⊢
  generalize ([] : List Loc) = locs at hL ⊢
  have hmain := h
  clear h
  have h := hmain
  clear hmain
  unfold fJ9_min_7cf53 at h
  refine lv_iload_n hx hb dJ9_min_7cf53_0 rfl (lv_at hl 0 rfl) ?_
  refine lv_iload_n hx hb dJ9_min_7cf53_1 rfl (lv_at hl 1 rfl) ?_
  refine lv_icmp_gt (tgt := 9) hx hb dJ9_min_7cf53_2 (by decide) (fun c1 => ?_) (fun c1 => ?_)
  · replace h := it_p c1 h
    refine lv_iload_n hx hb dJ9_min_7cf53_9 rfl (lv_at hl 1 rfl) ?_
    exact hm_iret hx hb hr hI hL h (by omega) (by omega) hlocks dJ9_min_7cf53_10
  · replace h := it_n c1 h
    refine lv_iload_n hx hb dJ9_min_7cf53_5 rfl (lv_at hl 0 rfl) ?_
    refine lv_goto (tgt := 10) hx hb dJ9_min_7cf53_6 (by decide) ?_
    exact hm_iret hx hb hr hI hL h (by omega) (by omega) hlocks dJ9_min_7cf53_10

def fJ7_copyOf_c38d5 (x0 : Option Nat) (x1 : Int32) (σ : hmS) : Option (Option Nat × hmS) :=
  ob x0 fun a1 => ob (aN σ a1) fun n2 => if x1 = n2 then
    cb (clA σ 1 a1 8) fun q15 σ16 => ob (arK σ16 q15 1) fun _ => some ((some q15), σ16)
  else
    cb (nA σ 1 (.inr (.inl (fun _ => 0))) 8 x1) fun q5 σ6 => ob (aN σ6 a1) fun n8 => cb (fJ9_min_7cf53 n8 x1 σ6) fun r12 σ11 => ob (cpL σ11 a1 (0 : Int32) q5 (0 : Int32) r12) fun σ13 => some ((some q5), σ13)
set_option maxHeartbeats 4000000 in
set_option maxRecDepth 100000 in
theorem mJ7_copyOf_c38d5 (l : Launch) (E : hmG) {x0 : Option Nat} {x1 : Int32} {σ σ' : hmS} {r : Option Nat} (h : fJ7_copyOf_c38d5 x0 x1 σ = some (r, σ')) : Met l yJ7_copyOf_c38d5 [Cond.code yJ7_copyOf_c38d5 cJ7_copyOf_c38d5 3 (some (.array .long))] { frames := 1, cells := 1, slots := 8, locals := 40 } (hmPc E [va_rf x0, .int x1] σ) (hmQc E (some (va_rf r)) σ') 1 8 (fun q => hmL E ≤ q) := by
  refine va_MetF (cc := cJ7_copyOf_c38d5) (maxL := 3) (ret := (some (.array .long))) (by decide +kernel) rfl ?_
  intro p e s m args below meth c s₁ B hml hv
  obtain ⟨rfl, hK, hI⟩ := hv
  have S : CallFix p m c cJ7_copyOf_c38d5 3 s ([va_rf x0, .int x1] : List Value).toArray [] RJ7 := ⟨B.exec, B.bytes, hml, findClass_of_methodNamed B.named, fun w hw => by cases hw⟩
  have hx := S.1
  have hb := S.2.1
  have hr := B.returns
  have hlocks := B.notSynchronized
  have hL : hmLo E [] := hmLo.nil
  have hl : lv_has ((lg_sl ([va_rf x0, .int x1]) ++ List.replicate (3 - (lg_sl ([va_rf x0, .int x1])).length) Slot.unset).toArray) 3 [(0, va_rf x0), (1, .int x1)] := by cases x0 <;> exact lv_entry _ (Nat.le_of_ble_eq_true rfl)
  rw [lg_entry_eq]
  generalize (lg_sl ([va_rf x0, .int x1]) ++ List.replicate (3 - (lg_sl ([va_rf x0, .int x1])).length) Slot.unset).toArray = ls at hl ⊢
  generalize hRe : (headSpec [Cond.code yJ7_copyOf_c38d5 cJ7_copyOf_c38d5 3 (some (.array .long))] { frames := 1, cells := 1, slots := 8, locals := 40 }).room = R
  have hR1 : R.frames = 1 ∧ R.cells = 1 ∧ R.slots = 8 ∧ R.locals = 40 := by rw [← hRe]; exact ⟨rfl, rfl, rfl, rfl⟩
  clear hRe B hml
  generalize s.heap = H at hI ⊢
  generalize ([] : List Loc) = locs at hL ⊢
  have hmain := h
  clear h
  have h := hmain
  clear hmain
  unfold fJ7_copyOf_c38d5 at h
  refine lv_iload_n hx hb dJ7_copyOf_c38d5_0 rfl (lv_at hl 1 rfl) ?_
  refine hm_aload_n hx hb dJ7_copyOf_c38d5_1 rfl (lv_at hl 0 rfl) ?_
  replace h := ob_s h
  obtain ⟨a1, rfl, h⟩ := h
  have hl : lv_has ls 3 [(0, .ref a1), (1, .int x1)] := hl
  replace h := ob_s h
  obtain ⟨n2, h3, h⟩ := h
  refine hm_aN S hK hI h3 dJ7_copyOf_c38d5_2 ?_
  refine lv_icmp_ne (tgt := 14) hx hb dJ7_copyOf_c38d5_3 (by decide) (fun c4 => ?_) (fun c4 => ?_)
  · replace h := it_n c4 h
    refine lv_iload_n hx hb dJ7_copyOf_c38d5_14 rfl (lv_at hl 1 rfl) ?_
    replace h := cb_s h
    obtain ⟨q5, σ6, h7, h⟩ := h
    refine hm_newa (i := 136) S hK hI (by decide +kernel) rfl (by decide) (fun _ => rfl) h7 (by decide) (by omega) (by omega) dJ7_copyOf_c38d5_15 (fun H hI => ?_)
    refine lv_astore_n (lv' := [(2, .ref q5), (0, .ref a1), (1, .int x1)]) hx hb dJ7_copyOf_c38d5_17 rfl hl (by decide) rfl (fun ls hl => ?_)
    refine lv_aload_n hx hb dJ7_copyOf_c38d5_18 rfl (lv_at hl 1 rfl) ?_
    refine lv_iconst (v := 0) hx hb dJ7_copyOf_c38d5_19 (by decide) ?_
    refine lv_aload_n hx hb dJ7_copyOf_c38d5_20 rfl (lv_at hl 0 rfl) ?_
    refine lv_iconst (v := 0) hx hb dJ7_copyOf_c38d5_21 (by decide) ?_
    refine lv_aload_n hx hb dJ7_copyOf_c38d5_22 rfl (lv_at hl 1 rfl) ?_
    replace h := ob_s h
    obtain ⟨n8, h9, h⟩ := h
    refine hm_aN S hK hI h9 dJ7_copyOf_c38d5_23 ?_
    refine lv_iload_n hx hb dJ7_copyOf_c38d5_24 rfl (lv_at hl 2 rfl) ?_
    replace h := cb_s h
    obtain ⟨r12, σ11, h10, h⟩ := h
    refine hm_call (hm_runS (As := [.int n8, .int x1]) (rest := [.int (0 : Int32), .ref q5, .int (0 : Int32), .ref a1]) S hK hI (mJ9_min_7cf53 l E h10) (pm_J7_304 hK) (ps_J9_min_7cf53 hK) ⟨by omega, by omega⟩ rfl hl.1 (Nat.le_of_ble_eq_true rfl) ⟨by omega, by omega⟩ dJ7_copyOf_c38d5_25) hL (fun H locs hI hL => ?_)
    replace h := ob_s h
    obtain ⟨σ13, h14, h⟩ := h
    refine hm_copyL (i1 := 238) (i2 := 240) (i3 := 239) (i4 := 14) S hK hI hL (by decide +kernel) (by decide +kernel) (by decide +kernel) (by decide +kernel) h14 hl.1 (by omega) (Nat.le_of_ble_eq_true rfl) (by omega) dJ7_copyOf_c38d5_28 (fun H locs hI hL => ?_)
    refine lv_aload_n hx hb dJ7_copyOf_c38d5_31 rfl (lv_at hl 0 rfl) ?_
    exact hm_aret hx hb hr (Or.inr ⟨_, rfl⟩) hI hL h (by omega) (by omega) hlocks dJ7_copyOf_c38d5_32
  · replace h := it_p c4 h
    refine lv_aload_n hx hb dJ7_copyOf_c38d5_6 rfl (lv_at hl 0 rfl) ?_
    replace h := cb_s h
    obtain ⟨q15, σ16, h17, h⟩ := h
    refine hm_clone (i1 := 586) (i2 := 587) (i3 := 230) (i4 := 231) (i5 := 588) S hK hI (by decide +kernel) (by decide +kernel) (by decide +kernel) (by decide +kernel) (by decide +kernel) hK.2.2.2.2.2.2.2.1.2 (hm_nmJ hK) h17 hl.1 (by omega) (Nat.le_of_ble_eq_true rfl) (by omega) (by omega) (by omega) dJ7_copyOf_c38d5_7 (fun H hI => ?_)
    replace h := ob_s h
    obtain ⟨_, h18, h⟩ := h
    refine hm_cast (i1 := 590) S hK hI (by decide +kernel) (hm_nmJ hK) h18 dJ7_copyOf_c38d5_10 ?_
    exact hm_aret hx hb hr (Or.inr ⟨_, rfl⟩) hI hL h (by omega) (by omega) hlocks dJ7_copyOf_c38d5_13

def fX1_firstCells (E : hmG) (x0 : Nat) (σ : hmS) : Option (Option Nat × hmS) :=
  ob (gI σ x0 3 3) fun f1 => if 0 < f1 then
    ob (gR σ x0 3 1) fun f4 => ob (gI σ x0 3 3) fun f6 => cb (fJ7_copyOf_c38d5 f4 f6 σ) fun r10 σ9 => some (r10, σ9)
  else
    some ((some (hmZ E 0)), σ)
set_option maxHeartbeats 4000000 in
set_option maxRecDepth 100000 in
theorem mX1_firstCells (l : Launch) (E : hmG) {x0 : Nat} {σ σ' : hmS} {r : Option Nat} (h : fX1_firstCells E x0 σ = some (r, σ')) : Met l yX1_firstCells [Cond.code yX1_firstCells cX1_firstCells 1 (some (.array .long))] { frames := 2, cells := 1, slots := 8, locals := 62 } (hmPc E [.ref x0] σ) (hmQc E (some (va_rf r)) σ') 1 8 (fun q => hmL E ≤ q) := by
  refine Met.ofW (cc := cX1_firstCells) (maxL := 1) (ret := (some (.array .long))) (by decide) rfl ?_
  intro p e s m args below meth c s₁ B hml hv
  obtain ⟨rfl, hK, hI⟩ := hv
  have S : CallFix p m c cX1_firstCells 1 s ([.ref x0] : List Value).toArray [] RX1 := ⟨B.exec, B.bytes, hml, findClass_of_methodNamed B.named, fun w hw => by cases hw⟩
  have hx := S.1
  have hb := S.2.1
  have hr := B.returns
  have hlocks := B.notSynchronized
  have hL : hmLo E [] := hmLo.nil
  have hl : lv_has ((lg_sl ([.ref x0]) ++ List.replicate (1 - (lg_sl ([.ref x0])).length) Slot.unset).toArray) 1 [(0, .ref x0)] := by exact lv_entry _ (Nat.le_of_ble_eq_true rfl)
  rw [lg_entry_eq]
  generalize (lg_sl ([.ref x0]) ++ List.replicate (1 - (lg_sl ([.ref x0])).length) Slot.unset).toArray = ls at hl ⊢
  generalize hRe : (headSpec [Cond.code yX1_firstCells cX1_firstCells 1 (some (.array .long))] { frames := 2, cells := 1, slots := 8, locals := 62 }).room = R
  have hR1 : R.frames = 2 ∧ R.cells = 1 ∧ R.slots = 8 ∧ R.locals = 62 := by rw [← hRe]; exact ⟨rfl, rfl, rfl, rfl⟩
  clear hRe B hml
  generalize s.heap = H at hI ⊢
  generalize ([] : List Loc) = locs at hL ⊢
  have hmain := h
  clear h
  have h := hmain
  clear hmain
  unfold fX1_firstCells at h
  refine lv_aload_n hx hb dX1_firstCells_0 rfl (lv_at hl 0 rfl) ?_
  replace h := ob_s h
  obtain ⟨f1, h2, h⟩ := h
  refine hm_get S hK hI (pf_X1_23_3 hK) (gI_s h2) dX1_firstCells_1 ?_
  refine lv_if_gt (tgt := 13) hx hb dX1_firstCells_4 (by decide) (fun c3 => ?_) (fun c3 => ?_)
  · replace h := it_p c3 h
    refine lv_aload_n hx hb dX1_firstCells_13 rfl (lv_at hl 0 rfl) ?_
    replace h := ob_s h
    obtain ⟨f4, h5, h⟩ := h
    refine hm_get S hK hI (pf_X1_15_3 hK) (gR_s h5) dX1_firstCells_14 ?_
    refine lv_aload_n hx hb dX1_firstCells_17 rfl (lv_at hl 0 rfl) ?_
    replace h := ob_s h
    obtain ⟨f6, h7, h⟩ := h
    refine hm_get S hK hI (pf_X1_23_3 hK) (gI_s h7) dX1_firstCells_18 ?_
    replace h := cb_s h
    obtain ⟨r10, σ9, h8, h⟩ := h
    refine hm_call (hm_runS (As := [va_rf f4, .int f6]) (rest := []) S hK hI (mJ7_copyOf_c38d5 l E h8) (pm_X1_34 hK) (ps_J7_copyOf_c38d5 hK) ⟨by omega, by omega⟩ rfl hl.1 (Nat.le_of_ble_eq_true rfl) ⟨by omega, by omega⟩ dX1_firstCells_21) hL (fun H locs hI hL => ?_)
    exact hm_aret hx hb hr (Or.inr ⟨_, rfl⟩) hI hL h (by omega) (by omega) hlocks dX1_firstCells_24
  · replace h := it_n c3 h
    refine hm_getsN S hI hK.2.2.2.2.2.2.2.2.2.1 (hK.2.2.2.2.2.2.1.2.1) dX1_firstCells_7 ?_
    refine lv_goto (tgt := 24) hx hb dX1_firstCells_10 (by decide) ?_
    exact hm_aret hx hb hr (Or.inr ⟨_, rfl⟩) hI hL h (by omega) (by omega) hlocks dX1_firstCells_24

def fX4_copyOfFirst (E : hmG) (x0 : Nat) (x1 : Int32) (σ : hmS) : Option (Option Nat × hmS) :=
  ob (gI σ x0 6 3) fun f1 => cb (fJ9_min_7cf53 x1 f1 σ) fun r5 σ4 => if 0 < r5 then
    ob (gR σ4 x0 6 1) fun f7 => cb (fJ7_copyOf_c38d5 f7 r5 σ4) fun r11 σ10 => some (r11, σ10)
  else
    some ((some (hmZ E 0)), σ4)
set_option maxHeartbeats 4000000 in
set_option maxRecDepth 100000 in
theorem mX4_copyOfFirst (l : Launch) (E : hmG) {x0 : Nat} {x1 : Int32} {σ σ' : hmS} {r : Option Nat} (h : fX4_copyOfFirst E x0 x1 σ = some (r, σ')) : Met l yX4_copyOfFirst [Cond.code yX4_copyOfFirst cX4_copyOfFirst 3 (some (.array .long))] { frames := 2, cells := 1, slots := 8, locals := 62 } (hmPc E [.ref x0, .int x1] σ) (hmQc E (some (va_rf r)) σ') 1 8 (fun q => hmL E ≤ q) := by
  refine Met.ofW (cc := cX4_copyOfFirst) (maxL := 3) (ret := (some (.array .long))) (by decide) rfl ?_
  intro p e s m args below meth c s₁ B hml hv
  obtain ⟨rfl, hK, hI⟩ := hv
  have S : CallFix p m c cX4_copyOfFirst 3 s ([.ref x0, .int x1] : List Value).toArray [] RX4 := ⟨B.exec, B.bytes, hml, findClass_of_methodNamed B.named, fun w hw => by cases hw⟩
  have hx := S.1
  have hb := S.2.1
  have hr := B.returns
  have hlocks := B.notSynchronized
  have hL : hmLo E [] := hmLo.nil
  have hl : lv_has ((lg_sl ([.ref x0, .int x1]) ++ List.replicate (3 - (lg_sl ([.ref x0, .int x1])).length) Slot.unset).toArray) 3 [(0, .ref x0), (1, .int x1)] := by exact lv_entry _ (Nat.le_of_ble_eq_true rfl)
  rw [lg_entry_eq]
  generalize (lg_sl ([.ref x0, .int x1]) ++ List.replicate (3 - (lg_sl ([.ref x0, .int x1])).length) Slot.unset).toArray = ls at hl ⊢
  generalize hRe : (headSpec [Cond.code yX4_copyOfFirst cX4_copyOfFirst 3 (some (.array .long))] { frames := 2, cells := 1, slots := 8, locals := 62 }).room = R
  have hR1 : R.frames = 2 ∧ R.cells = 1 ∧ R.slots = 8 ∧ R.locals = 62 := by rw [← hRe]; exact ⟨rfl, rfl, rfl, rfl⟩
  clear hRe B hml
  generalize s.heap = H at hI ⊢
  generalize ([] : List Loc) = locs at hL ⊢
  have hmain := h
  clear h
  have h := hmain
  clear hmain
  unfold fX4_copyOfFirst at h
  refine lv_iload_n hx hb dX4_copyOfFirst_0 rfl (lv_at hl 1 rfl) ?_
  refine lv_aload_n hx hb dX4_copyOfFirst_1 rfl (lv_at hl 0 rfl) ?_
  replace h := ob_s h
  obtain ⟨f1, h2, h⟩ := h
  refine hm_get S hK hI (pf_X4_23_6 hK) (gI_s h2) dX4_copyOfFirst_2 ?_
  replace h := cb_s h
  obtain ⟨r5, σ4, h3, h⟩ := h
  refine hm_call (hm_runS (As := [.int x1, .int f1]) (rest := []) S hK hI (mJ9_min_7cf53 l E h3) (pm_X4_31 hK) (ps_J9_min_7cf53 hK) ⟨by omega, by omega⟩ rfl hl.1 (Nat.le_of_ble_eq_true rfl) ⟨by omega, by omega⟩ dX4_copyOfFirst_5) hL (fun H locs hI hL => ?_)
  refine lv_istore_n (lv' := [(2, .int r5), (0, .ref x0), (1, .int x1)]) hx hb dX4_copyOfFirst_8 rfl hl (by decide) rfl (fun ls hl => ?_)
  refine lv_iload_n hx hb dX4_copyOfFirst_9 rfl (lv_at hl 0 rfl) ?_
  refine lv_if_gt (tgt := 19) hx hb dX4_copyOfFirst_10 (by decide) (fun c6 => ?_) (fun c6 => ?_)
  · replace h := it_p c6 h
    refine lv_aload_n hx hb dX4_copyOfFirst_19 rfl (lv_at hl 1 rfl) ?_
    replace h := ob_s h
    obtain ⟨f7, h8, h⟩ := h
    refine hm_get S hK hI (pf_X4_15_6 hK) (gR_s h8) dX4_copyOfFirst_20 ?_
    refine lv_iload_n hx hb dX4_copyOfFirst_23 rfl (lv_at hl 0 rfl) ?_
    replace h := cb_s h
    obtain ⟨r11, σ10, h9, h⟩ := h
    refine hm_call (hm_runS (As := [va_rf f7, .int r5]) (rest := []) S hK hI (mJ7_copyOf_c38d5 l E h9) (pm_X4_40 hK) (ps_J7_copyOf_c38d5 hK) ⟨by omega, by omega⟩ rfl hl.1 (Nat.le_of_ble_eq_true rfl) ⟨by omega, by omega⟩ dX4_copyOfFirst_24) hL (fun H locs hI hL => ?_)
    exact hm_aret hx hb hr (Or.inr ⟨_, rfl⟩) hI hL h (by omega) (by omega) hlocks dX4_copyOfFirst_27
  · replace h := it_n c6 h
    refine hm_getsN S hI hK.2.2.2.2.2.2.2.2.2.1 (hK.2.2.2.2.2.2.1.2.2.1) dX4_copyOfFirst_13 ?_
    refine lv_goto (tgt := 27) hx hb dX4_copyOfFirst_16 (by decide) ?_
    exact hm_aret hx hb hr (Or.inr ⟨_, rfl⟩) hI hL h (by omega) (by omega) hlocks dX4_copyOfFirst_27
