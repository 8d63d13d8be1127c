def fX0_init (E : hmG) (x0 : Nat) (σ : hmS) : Option (Unit × hmS) :=
  ob (wF σ x0 2 0 (.ref (hmZ E 0))) fun σ1 => ob (wF σ1 x0 2 1 (.int (0 : Int32))) fun σ3 => ob (wF σ3 x0 2 2 (.int (0 : Int32))) fun σ5 => some ((), σ5)
set_option maxHeartbeats 4000000 in
set_option maxRecDepth 100000 in
theorem mX0_init (l : Launch) (E : hmG) {x0 : Nat} {σ σ' : hmS} {r : Unit} (h : fX0_init E x0 σ = some (r, σ')) : Met l yX0_init [Cond.code yX0_init cX0_init 1 none] { frames := 1, cells := 0, slots := 0, locals := 20 } (hmPc E [.ref x0] σ) (hmQc E none σ') 0 0 (fun q => hmL E ≤ q) := by
  refine Met.ofW (cc := cX0_init) (maxL := 1) (ret := none) (by decide) rfl ?_
  intro p e s m args below meth c s₁ B hml hv
  obtain ⟨rfl, hK, hI⟩ := hv
  have S : CallFix p m c cX0_init 1 s ([.ref x0] : List Value).toArray [] RX0 := ⟨B.exec, B.bytes, hml, findClass_of_methodNamed B.named, fun w hw => by cases hw⟩
  have hx := S.1
  have hb := S.2.1
  have hr := B.returns
  have hlocks := B.notSynchronized
  have hin : meth.name = "<init>" := (name_of_methodNamed B.named B.method).1
  have hL : hmLo E [] := hmLo.nil
  have hl : lv_has ((lg_sl ([.ref x0]) ++ List.replicate (1 - (lg_sl ([.ref x0])).length) Slot.unset).toArray) 1 [(0, .ref x0)] := by exact lv_entry _ (Nat.le_of_ble_eq_true rfl)
  rw [lg_entry_eq]
  generalize (lg_sl ([.ref x0]) ++ List.replicate (1 - (lg_sl ([.ref x0])).length) Slot.unset).toArray = ls at hl ⊢
  generalize hRe : (headSpec [Cond.code yX0_init cX0_init 1 none] { frames := 1, cells := 0, slots := 0, locals := 20 }).room = R
  have hR1 : R.frames = 1 ∧ R.cells = 0 ∧ R.slots = 0 ∧ R.locals = 20 := by rw [← hRe]; exact ⟨rfl, rfl, rfl, rfl⟩
  clear hRe B hml
  generalize s.heap = H at hI ⊢
  generalize ([] : List Loc) = locs at hL ⊢
  have hmain := h
  clear h
  have h := hmain
  clear hmain
  unfold fX0_init at h
  refine lv_aload_n hx hb dX0_init_0 rfl (lv_at hl 0 rfl) ?_
  refine hm_objInit (i1 := 40) (i2 := 27) (i3 := 28) S hK (by decide +kernel) (by decide +kernel) (by decide +kernel) hl.1 dX0_init_1 (by omega) (Nat.le_of_ble_eq_true rfl) (by omega) ?_
  refine lv_aload_n hx hb dX0_init_4 rfl (lv_at hl 0 rfl) ?_
  refine hm_getsN S hI hK.2.2.2.2.2.2.2.2.2.1 (hK.2.2.2.2.2.2.1.1) dX0_init_5 ?_
  replace h := ob_s h
  obtain ⟨σ1, h2, h⟩ := h
  refine hm_put S hK hI hL (pf_X0_13_2 hK) h2 ⟨rfl, rfl⟩ dX0_init_8 (fun H locs hI hL => ?_)
  refine lv_aload_n hx hb dX0_init_11 rfl (lv_at hl 0 rfl) ?_
  refine lv_iconst (v := 0) hx hb dX0_init_12 (by decide) ?_
  replace h := ob_s h
  obtain ⟨σ3, h4, h⟩ := h
  refine hm_put S hK hI hL (pf_X0_18_2 hK) h4 ⟨rfl, rfl⟩ dX0_init_13 (fun H locs hI hL => ?_)
  refine lv_aload_n hx hb dX0_init_16 rfl (lv_at hl 0 rfl) ?_
  refine lv_iconst (v := 0) hx hb dX0_init_17 (by decide) ?_
  replace h := ob_s h
  obtain ⟨σ5, h6, h⟩ := h
  refine hm_put S hK hI hL (pf_X0_22_2 hK) h6 ⟨rfl, rfl⟩ dX0_init_18 (fun H locs hI hL => ?_)
  exact hm_vret hx hb hr hI hL h (by omega) (by omega) hlocks dX0_init_21

def fX7_init (E : hmG) (x0 : Nat) (σ : hmS) : Option (Unit × hmS) :=
  cb (nA σ 4 (.inr (.inr (.inr (.inr (fun _ => none))))) 12 (12 : Int32)) fun q1 σ2 => ob (wF σ2 x0 9 0 (.ref q1)) fun σ4 => ob (wF σ4 x0 9 1 (.int (0 : Int32))) fun σ6 => cb (nA σ6 5 (.inr (.inr (.inr (.inr (fun _ => none))))) 8 (8 : Int32)) fun q8 σ9 => ob (wF σ9 x0 9 2 (.ref q8)) fun σ11 => ob (wF σ11 x0 9 3 (.int (0 : Int32))) fun σ13 => cb (nA σ13 6 (.inr (.inr (.inr (.inr (fun _ => none))))) 6 (6 : Int32)) fun q15 σ16 => ob (wF σ16 x0 9 4 (.ref q15)) fun σ18 => ob (wF σ18 x0 9 5 (.int (0 : Int32))) fun σ20 => nw σ20 (.inr (2, [.null, .int 0, .int 0])) fun q22 σ23 => cb (fX0_init E q22 σ23) fun _ σ27 => ob (wF σ27 x0 9 6 (.ref q22)) fun σ28 => ob (wF σ28 x0 9 7 (.int (0 : Int32))) fun σ30 => some ((), σ30)
set_option maxHeartbeats 4000000 in
set_option maxRecDepth 100000 in
theorem mX7_init (l : Launch) (E : hmG) {x0 : Nat} {σ σ' : hmS} {r : Unit} (h : fX7_init E x0 σ = some (r, σ')) : Met l yX7_init [Cond.code yX7_init cX7_init 1 none] { frames := 2, cells := 4, slots := 29, locals := 40 } (hmPc E [.ref x0] σ) (hmQc E none σ') 4 29 (fun q => hmL E ≤ q) := by
  refine Met.ofW (cc := cX7_init) (maxL := 1) (ret := none) (by decide) rfl ?_
  intro p e s m args below meth c s₁ B hml hv
  obtain ⟨rfl, hK, hI⟩ := hv
  have S : CallFix p m c cX7_init 1 s ([.ref x0] : List Value).toArray [] RX7 := ⟨B.exec, B.bytes, hml, findClass_of_methodNamed B.named, fun w hw => by cases hw⟩
  have hx := S.1
  have hb := S.2.1
  have hr := B.returns
  have hlocks := B.notSynchronized
  have hin : meth.name = "<init>" := (name_of_methodNamed B.named B.method).1
  have hL : hmLo E [] := hmLo.nil
  have hl : lv_has ((lg_sl ([.ref x0]) ++ List.replicate (1 - (lg_sl ([.ref x0])).length) Slot.unset).toArray) 1 [(0, .ref x0)] := by exact lv_entry _ (Nat.le_of_ble_eq_true rfl)
  rw [lg_entry_eq]
  generalize (lg_sl ([.ref x0]) ++ List.replicate (1 - (lg_sl ([.ref x0])).length) Slot.unset).toArray = ls at hl ⊢
  generalize hRe : (headSpec [Cond.code yX7_init cX7_init 1 none] { frames := 2, cells := 4, slots := 29, locals := 40 }).room = R
  have hR1 : R.frames = 2 ∧ R.cells = 4 ∧ R.slots = 29 ∧ R.locals = 40 := by rw [← hRe]; exact ⟨rfl, rfl, rfl, rfl⟩
  clear hRe B hml
  generalize s.heap = H at hI ⊢
  generalize ([] : List Loc) = locs at hL ⊢
  have hmain := h
  clear h
  have h := hmain
  clear hmain
  unfold fX7_init at h
  refine lv_aload_n hx hb dX7_init_0 rfl (lv_at hl 0 rfl) ?_
  refine hm_objInit (i1 := 26) (i2 := 27) (i3 := 28) S hK (by decide +kernel) (by decide +kernel) (by decide +kernel) hl.1 dX7_init_1 (by omega) (Nat.le_of_ble_eq_true rfl) (by omega) ?_
  refine lv_aload_n hx hb dX7_init_4 rfl (lv_at hl 0 rfl) ?_
  refine lv_bipush (v := 12) hx hb dX7_init_5 (by decide) ?_
  replace h := cb_s h
  obtain ⟨q1, σ2, h3, h⟩ := h
  refine hm_anew (i1 := 29) S hK hI (by decide +kernel) rfl (by decide) h3 (by decide) (by omega) (by omega) dX7_init_7 (fun H hI => ?_)
  replace h := ob_s h
  obtain ⟨σ4, h5, h⟩ := h
  refine hm_putF S hK hI hL hin (pf_X7_11_9 hK) h5 ⟨rfl, rfl⟩ dX7_init_10 (fun H locs hI hL => ?_)
  refine lv_aload_n hx hb dX7_init_13 rfl (lv_at hl 0 rfl) ?_
  refine lv_iconst (v := 0) hx hb dX7_init_14 (by decide) ?_
  replace h := ob_s h
  obtain ⟨σ6, h7, h⟩ := h
  refine hm_put S hK hI hL (pf_X7_15_9 hK) h7 ⟨rfl, rfl⟩ dX7_init_15 (fun H locs hI hL => ?_)
  refine lv_aload_n hx hb dX7_init_18 rfl (lv_at hl 0 rfl) ?_
  refine lv_bipush (v := 8) hx hb dX7_init_19 (by decide) ?_
  replace h := cb_s h
  obtain ⟨q8, σ9, h10, h⟩ := h
  refine hm_anew (i1 := 31) S hK hI (by decide +kernel) rfl (by decide) h10 (by decide) (by omega) (by omega) dX7_init_21 (fun H hI => ?_)
  replace h := ob_s h
  obtain ⟨σ11, h12, h⟩ := h
  refine hm_putF S hK hI hL hin (pf_X7_21_9 hK) h12 ⟨rfl, rfl⟩ dX7_init_24 (fun H locs hI hL => ?_)
  refine lv_aload_n hx hb dX7_init_27 rfl (lv_at hl 0 rfl) ?_
  refine lv_iconst (v := 0) hx hb dX7_init_28 (by decide) ?_
  replace h := ob_s h
  obtain ⟨σ13, h14, h⟩ := h
  refine hm_put S hK hI hL (pf_X7_25_9 hK) h14 ⟨rfl, rfl⟩ dX7_init_29 (fun H locs hI hL => ?_)
  refine lv_aload_n hx hb dX7_init_32 rfl (lv_at hl 0 rfl) ?_
  refine lv_bipush (v := 6) hx hb dX7_init_33 (by decide) ?_
  replace h := cb_s h
  obtain ⟨q15, σ16, h17, h⟩ := h
  refine hm_anew (i1 := 33) S hK hI (by decide +kernel) rfl (by decide) h17 (by decide) (by omega) (by omega) dX7_init_35 (fun H hI => ?_)
  replace h := ob_s h
  obtain ⟨σ18, h19, h⟩ := h
  refine hm_putF S hK hI hL hin (pf_X7_30_9 hK) h19 ⟨rfl, rfl⟩ dX7_init_38 (fun H locs hI hL => ?_)
  refine lv_aload_n hx hb dX7_init_41 rfl (lv_at hl 0 rfl) ?_
  refine lv_iconst (v := 0) hx hb dX7_init_42 (by decide) ?_
  replace h := ob_s h
  obtain ⟨σ20, h21, h⟩ := h
  refine hm_put S hK hI hL (pf_X7_34_9 hK) h21 ⟨rfl, rfl⟩ dX7_init_43 (fun H locs hI hL => ?_)
  refine lv_aload_n hx hb dX7_init_46 rfl (lv_at hl 0 rfl) ?_
  replace h := nw_s h
  obtain ⟨q22, σ23, h24, h25, h⟩ := h
  refine hm_new S hK hI (pn_X7_37 hK) h24 h25 (by omega) (by omega) dX7_init_47 (fun H hI => ?_)
  refine lv_dup hx hb dX7_init_50 rfl ?_
  replace h := cb_s h
  obtain ⟨u0, σ27, h26, h⟩ := h
  refine hm_callv (hm_runIN (As := []) (rest := [.ref q22, .ref x0]) S hK hI (mX0_init l E h26) (pm_X7_39 hK) rfl (pi_X0_init hK) ⟨by omega, by omega⟩ rfl hl.1 (Nat.le_of_ble_eq_true rfl) ⟨by omega, by omega⟩ dX7_init_51) hL (fun H locs hI hL => ?_)
  replace h := ob_s h
  obtain ⟨σ28, h29, h⟩ := h
  refine hm_putF S hK hI hL hin (pf_X7_40_9 hK) h29 ⟨rfl, rfl⟩ dX7_init_54 (fun H locs hI hL => ?_)
  refine lv_aload_n hx hb dX7_init_57 rfl (lv_at hl 0 rfl) ?_
  refine lv_iconst (v := 0) hx hb dX7_init_58 (by decide) ?_
  replace h := ob_s h
  obtain ⟨σ30, h31, h⟩ := h
  refine hm_put S hK hI hL (pf_X7_44_9 hK) h31 ⟨rfl, rfl⟩ dX7_init_59 (fun H locs hI hL => ?_)
  exact hm_vret hx hb hr hI hL h (by omega) (by omega) hlocks dX7_init_62

def fX7_isMember_J10 (x0 : Int32)   (σ : hmS) : Option (Int32 × hmS) :=
  some ((1 : Int32), σ)
def fX7_isMember (x0 : Int32) (σ : hmS) : Option (Int32 × hmS) :=
  if x0 = (1 : Int32) then
    fX7_isMember_J10 x0 σ
  else
    if x0 = (2 : Int32) then
      fX7_isMember_J10 x0 σ
    else
      some ((0 : Int32), σ)
set_option maxHeartbeats 4000000 in
set_option maxRecDepth 100000 in
theorem mX7_isMember (l : Launch) (E : hmG) {x0 : Int32} {σ σ' : hmS} {r : Int32} (h : fX7_isMember x0 σ = some (r, σ')) : Met l yX7_isMember [Cond.code yX7_isMember cX7_isMember 1 (some .boolean)] { frames := 0, cells := 0, slots := 0, locals := 0 } (hmPc E [.int x0] σ) (hmQc E (some (.int r)) σ') 0 0 (fun q => hmL E ≤ q) := by
  refine Met.ofW (cc := cX7_isMember) (maxL := 1) (ret := (some .boolean)) (by decide) rfl ?_
  intro p e s m args below meth c s₁ B hml hv
  obtain ⟨rfl, hK, hI⟩ := hv
  have S : CallFix p m c cX7_isMember 1 s ([.int x0] : List Value).toArray [] RX7 := ⟨B.exec, B.bytes, hml, findClass_of_methodNamed B.named, fun w hw => by cases hw⟩
  have hx := S.1
  have hb := S.2.1
  have hr := B.returns
  have hlocks := B.notSynchronized
  have hL : hmLo E [] := hmLo.nil
  have hl : lv_has ((lg_sl ([.int x0]) ++ List.replicate (1 - (lg_sl ([.int x0])).length) Slot.unset).toArray) 1 [(0, .int x0)] := by exact lv_entry _ (Nat.le_of_ble_eq_true rfl)
  rw [lg_entry_eq]
  generalize (lg_sl ([.int x0]) ++ List.replicate (1 - (lg_sl ([.int x0])).length) Slot.unset).toArray = ls at hl ⊢
  generalize hRe : (headSpec [Cond.code yX7_isMember cX7_isMember 1 (some .boolean)] { frames := 0, cells := 0, slots := 0, locals := 0 }).room = R
  have hR1 : R.frames = 0 ∧ R.cells = 0 ∧ R.slots = 0 ∧ R.locals = 0 := by rw [← hRe]; exact ⟨rfl, rfl, rfl, rfl⟩
  clear hRe B hml
  generalize s.heap = H at hI ⊢
  generalize ([] : List Loc) = locs at hL ⊢
  have hmain := h
  clear h
  have hJ10 : ∀  (σ : hmS) (H : Heap) (locs : List Loc) (ls : Array Slot), fX7_isMember_J10 x0   σ = some (r, σ') → hmI E σ H → hmLo E locs → lv_has ls 1 [] → W p l e R s m ([.int x0] : List Value).toArray below meth c H locs 0 0 (MQ below (hmQc E (some (.int r)) σ') ([.int x0] : List Value).toArray s 0 0 (fun q => hmL E ≤ q)) (F0 m 10 ls []) := by
    intro  σ H locs ls h hI hL hl
    unfold fX7_isMember_J10 at h
    refine lv_iconst (v := 1) hx hb dX7_isMember_10 (by decide) ?_
    refine lv_goto (tgt := 15) hx hb dX7_isMember_11 (by decide) ?_
    exact hm_zret hx hb hr rfl hI hL h (by omega) (by omega) hlocks dX7_isMember_15
  have h := hmain
  clear hmain
  unfold fX7_isMember at h
  refine lv_iload_n hx hb dX7_isMember_0 rfl (lv_at hl 0 rfl) ?_
  refine lv_iconst (v := 1) hx hb dX7_isMember_1 (by decide) ?_
  refine lv_icmp_eq (tgt := 10) hx hb dX7_isMember_2 (by decide) (fun c1 => ?_) (fun c1 => ?_)
  · replace h := it_p c1 h
    exact hJ10 _ _ _ _ h hI hL (lv_sub hl [] rfl)
  · replace h := it_n c1 h
    refine lv_iload_n hx hb dX7_isMember_5 rfl (lv_at hl 0 rfl) ?_
    refine lv_iconst (v := 2) hx hb dX7_isMember_6 (by decide) ?_
    refine lv_icmp_ne (tgt := 14) hx hb dX7_isMember_7 (by decide) (fun c2 => ?_) (fun c2 => ?_)
    · replace h := it_n c2 h
      refine lv_iconst (v := 0) hx hb dX7_isMember_14 (by decide) ?_
      exact hm_zret hx hb hr rfl hI hL h (by omega) (by omega) hlocks dX7_isMember_15
    · replace h := it_p c2 h
      exact hJ10 _ _ _ _ h hI hL (lv_sub hl [] rfl)

def fX7_hasMemberWith_J54 (x0 : Nat) (x1 : Option Nat) (x2 : Int32) (K2 : Int32 → hmS → Option (Int32 × hmS)) (v3 : Int32) (σ : hmS) : Option (Int32 × hmS) :=
  K2 (v3 + (1 : Int32)) σ
def fX7_hasMemberWith_B2 (x0 : Nat) (x1 : Option Nat) (x2 : Int32)  (K2 : Int32 → hmS → Option (Int32 × hmS)) (v3 : Int32) (σ : hmS) : Option (Int32 × hmS) :=
  ob (gI σ x0 9 1) fun f1 => if f1 ≤ v3 then
    some ((0 : Int32), σ)
  else
    ob (gR σ x0 9 0) fun f4 => ob f4 fun a6 => ob (aR σ a6 v3) fun e7 => oc e7
      (fX7_hasMemberWith_J54 x0 x1 x2 K2 v3 σ)
      (fun a9 => ob (gI σ a9 8 1) fun f10 => cb (fX7_isMember f10 σ) fun r14 σ13 => if r14 = 0 then
        fX7_hasMemberWith_J54 x0 x1 x2 K2 v3 σ13
      else
        ob (gR σ13 a9 8 2) fun f16 => if f16 = x1 then
          ob (gI σ13 a9 8 3) fun f19 => if f19 = x2 then
            some ((1 : Int32), σ13)
          else
            fX7_hasMemberWith_J54 x0 x1 x2 K2 v3 σ13
        else
          fX7_hasMemberWith_J54 x0 x1 x2 K2 v3 σ13)
def fX7_hasMemberWith_L2 (x0 : Nat) (x1 : Option Nat) (x2 : Int32)  : Nat → Int32 → hmS → Option (Int32 × hmS)
  | 0 => fun _ _ => none
  | n + 1 => fX7_hasMemberWith_B2 x0 x1 x2  (fX7_hasMemberWith_L2 x0 x1 x2  n)
def fX7_hasMemberWith (x0 : Nat) (x1 : Option Nat) (x2 : Int32) (σ : hmS) : Option (Int32 × hmS) :=
  fX7_hasMemberWith_L2 x0 x1 x2 20 (0 : Int32) σ
set_option maxHeartbeats 4000000 in
set_option maxRecDepth 100000 in
theorem mX7_hasMemberWith (l : Launch) (E : hmG) {x0 : Nat} {x1 : Option Nat} {x2 : Int32} {σ σ' : hmS} {r : Int32} (h : fX7_hasMemberWith x0 x1 x2 σ = some (r, σ')) : Met l yX7_hasMemberWith [Cond.code yX7_hasMemberWith cX7_hasMemberWith 5 (some .boolean)] { frames := 1, cells := 0, slots := 0, locals := 20 } (hmPc E [.ref x0, va_rf x1, .int x2] σ) (hmQc E (some (.int r)) σ') 0 0 (fun q => hmL E ≤ q) := by
  refine Met.ofW (cc := cX7_hasMemberWith) (maxL := 5) (ret := (some .boolean)) (by decide) rfl ?_
  intro p e s m args below meth c s₁ B hml hv
  obtain ⟨rfl, hK, hI⟩ := hv
  have S : CallFix p m c cX7_hasMemberWith 5 s ([.ref x0, va_rf x1, .int x2] : List Value).toArray [] RX7 := ⟨B.exec, B.bytes, hml, findClass_of_methodNamed B.named, fun w hw => by cases hw⟩
  have hx := S.1
  have hb := S.2.1
  have hr := B.returns
  have hlocks := B.notSynchronized
  have hL : hmLo E [] := hmLo.nil
  have hl : lv_has ((lg_sl ([.ref x0, va_rf x1, .int x2]) ++ List.replicate (5 - (lg_sl ([.ref x0, va_rf x1, .int x2])).length) Slot.unset).toArray) 5 [(0, .ref x0), (1, va_rf x1), (2, .int x2)] := by cases x1 <;> exact lv_entry _ (Nat.le_of_ble_eq_true rfl)
  rw [lg_entry_eq]
  generalize (lg_sl ([.ref x0, va_rf x1, .int x2]) ++ List.replicate (5 - (lg_sl ([.ref x0, va_rf x1, .int x2])).length) Slot.unset).toArray = ls at hl ⊢
  generalize hRe : (headSpec [Cond.code yX7_hasMemberWith cX7_hasMemberWith 5 (some .boolean)] { frames := 1, cells := 0, slots := 0, locals := 20 }).room = R
  have hR1 : R.frames = 1 ∧ R.cells = 0 ∧ R.slots = 0 ∧ R.locals = 20 := by rw [← hRe]; exact ⟨rfl, rfl, rfl, rfl⟩
  clear hRe B hml
  generalize s.heap = H at hI ⊢
  generalize ([] : List Loc) = locs at hL ⊢
  have hmain := h
  clear h
  have hB2 : ∀ (K2 : Int32 → hmS → Option (Int32 × hmS)), (∀ (v3 : Int32) (σ : hmS) (H : Heap) (locs : List Loc) (ls : Array Slot), K2 v3 σ = some (r, σ') → hmI E σ H → hmLo E locs → lv_has ls 5 [(0, .ref x0), (1, va_rf x1), (2, .int x2), (3, .int v3)] → W p l e R s m ([.ref x0, va_rf x1, .int x2] : List Value).toArray below meth c H locs 0 0 (MQ below (hmQc E (some (.int r)) σ') ([.ref x0, va_rf x1, .int x2] : List Value).toArray s 0 0 (fun q => hmL E ≤ q)) (F0 m 2 ls [])) → ∀ (v3 : Int32) (σ : hmS) (H : Heap) (locs : List Loc) (ls : Array Slot), fX7_hasMemberWith_B2 x0 x1 x2  K2 v3 σ = some (r, σ') → hmI E σ H → hmLo E locs → lv_has ls 5 [(0, .ref x0), (1, va_rf x1), (2, .int x2), (3, .int v3)] → W p l e R s m ([.ref x0, va_rf x1, .int x2] : List Value).toArray below meth c H locs 0 0 (MQ below (hmQc E (some (.int r)) σ') ([.ref x0, va_rf x1, .int x2] : List Value).toArray s 0 0 (fun q => hmL E ≤ q)) (F0 m 2 ls []) := by
    intro K2 hk2
    have hJ54 : ∀ (v3 : Int32) (σ : hmS) (H : Heap) (locs : List Loc) (ls : Array Slot), fX7_hasMemberWith_J54 x0 x1 x2 K2 v3 σ = some (r, σ') → hmI E σ H → hmLo E locs → lv_has ls 5 [(0, .ref x0), (1, va_rf x1), (2, .int x2), (3, .int v3)] → W p l e R s m ([.ref x0, va_rf x1, .int x2] : List Value).toArray below meth c H locs 0 0 (MQ below (hmQc E (some (.int r)) σ') ([.ref x0, va_rf x1, .int x2] : List Value).toArray s 0 0 (fun q => hmL E ≤ q)) (F0 m 54 ls []) := by
      intro v3 σ H locs ls h hI hL hl
      unfold fX7_hasMemberWith_J54 at h
      refine lv_iinc (v := (v3 + (1 : Int32))) (lv' := [(3, .int (v3 + (1 : Int32))), (0, .ref x0), (1, va_rf x1), (2, .int x2)]) hx hb dX7_hasMemberWith_54 hl (k := 3) rfl rfl (by decide) rfl (fun ls hl => ?_)
      refine lv_goto (tgt := 2) hx hb dX7_hasMemberWith_57 (by decide) ?_
      exact hk2 _ _ _ _ _ h hI hL (lv_sub hl [1, 2, 3, 0] rfl)
    intro v3 σ H locs ls h hI hL hl
    unfold fX7_hasMemberWith_B2 at h
    refine lv_iload_n hx hb dX7_hasMemberWith_2 rfl (lv_at hl 3 rfl) ?_
    refine lv_aload_n hx hb dX7_hasMemberWith_3 rfl (lv_at hl 0 rfl) ?_
    replace h := ob_s h
    obtain ⟨f1, h2, h⟩ := h
    refine hm_get S hK hI (pf_X7_15_9 hK) (gI_s h2) dX7_hasMemberWith_4 ?_
    refine lv_icmp_ge (tgt := 60) hx hb dX7_hasMemberWith_7 (by decide) (fun c3 => ?_) (fun c3 => ?_)
    · replace h := it_p c3 h
      refine lv_iconst (v := 0) hx hb dX7_hasMemberWith_60 (by decide) ?_
      exact hm_zret hx hb hr rfl hI hL h (by omega) (by omega) hlocks dX7_hasMemberWith_61
    · replace h := it_n c3 h
      refine lv_aload_n hx hb dX7_hasMemberWith_10 rfl (lv_at hl 0 rfl) ?_
      replace h := ob_s h
      obtain ⟨f4, h5, h⟩ := h
      refine hm_get S hK hI (pf_X7_11_9 hK) (gR_s h5) dX7_hasMemberWith_11 ?_
      refine lv_iload_n hx hb dX7_hasMemberWith_14 rfl (lv_at hl 3 rfl) ?_
      replace h := ob_s h
      obtain ⟨a6, rfl, h⟩ := h
      have hl : lv_has ls 5 [(0, .ref x0), (1, va_rf x1), (2, .int x2), (3, .int v3)] := hl
      replace h := ob_s h
      obtain ⟨e7, h8, h⟩ := h
      refine hm_aald S hK hI h8 dX7_hasMemberWith_15 ?_
      refine hm_astore (lv' := [(4, va_rf e7), (0, .ref x0), (1, va_rf x1), (2, .int x2), (3, .int v3)]) hx hb dX7_hasMemberWith_16 hl (by decide) rfl (fun ls hl => ?_)
      refine hm_aload hx hb dX7_hasMemberWith_18 (lv_at hl 0 rfl) ?_
      cases e7 with
      | none =>
        replace h := oc_n h
        have hl : lv_has ls 5 [(4, va_rf none), (0, .ref x0), (1, va_rf x1), (2, .int x2), (3, .int v3)] := hl
        refine lv_ifnullN (tgt := 54) hx hb dX7_hasMemberWith_20 (by decide) ?_
        exact hJ54 _ _ _ _ _ h hI hL (lv_sub hl [1, 2, 3, 4] rfl)
      | some a9 =>
        replace h := oc_s h
        have hl : lv_has ls 5 [(4, .ref a9), (0, .ref x0), (1, va_rf x1), (2, .int x2), (3, .int v3)] := hl
        refine lv_ifnull hx hb dX7_hasMemberWith_20 ?_
        refine lv_aload hx hb dX7_hasMemberWith_23 (lv_at hl 0 rfl) ?_
        replace h := ob_s h
        obtain ⟨f10, h11, h⟩ := h
        refine hm_get S hK hI (pf_X7_110_8 hK) (gI_s h11) dX7_hasMemberWith_25 ?_
        replace h := cb_s h
        obtain ⟨r14, σ13, h12, h⟩ := h
        refine hm_call (hm_runS (As := [.int f10]) (rest := []) S hK hI (mX7_isMember l E h12) (pm_X7_206 hK) (ps_X7_isMember hK) ⟨by omega, by omega⟩ rfl hl.1 (Nat.le_of_ble_eq_true rfl) ⟨by omega, by omega⟩ dX7_hasMemberWith_28) hL (fun H locs hI hL => ?_)
        refine lv_if_eq (tgt := 54) hx hb dX7_hasMemberWith_31 (by decide) (fun c15 => ?_) (fun c15 => ?_)
        · replace h := it_p c15 h
          exact hJ54 _ _ _ _ _ h hI hL (lv_sub hl [1, 2, 3, 4] rfl)
        · replace h := it_n c15 h
          refine lv_aload hx hb dX7_hasMemberWith_34 (lv_at hl 0 rfl) ?_
          replace h := ob_s h
          obtain ⟨f16, h17, h⟩ := h
          refine hm_get S hK hI (pf_X7_216_8 hK) (gR_s h17) dX7_hasMemberWith_36 ?_
          refine hm_aload_n hx hb dX7_hasMemberWith_39 rfl (lv_at hl 2 rfl) ?_
          refine lv_acmp_ne (rx := f16) (ry := x1) (tgt := 54) hx hb dX7_hasMemberWith_40 (by decide) (fun c18 => ?_) (fun c18 => ?_)
          · replace h := it_n c18 h
            exact hJ54 _ _ _ _ _ h hI hL (lv_sub hl [1, 2, 3, 4] rfl)
          · replace h := it_p c18 h
            refine lv_aload hx hb dX7_hasMemberWith_43 (lv_at hl 0 rfl) ?_
            replace h := ob_s h
            obtain ⟨f19, h20, h⟩ := h
            refine hm_get S hK hI (pf_X7_213_8 hK) (gI_s h20) dX7_hasMemberWith_45 ?_
            refine lv_iload_n hx hb dX7_hasMemberWith_48 rfl (lv_at hl 3 rfl) ?_
            refine lv_icmp_ne (tgt := 54) hx hb dX7_hasMemberWith_49 (by decide) (fun c21 => ?_) (fun c21 => ?_)
            · replace h := it_n c21 h
              exact hJ54 _ _ _ _ _ h hI hL (lv_sub hl [1, 2, 3, 4] rfl)
            · replace h := it_p c21 h
              refine lv_iconst (v := 1) hx hb dX7_hasMemberWith_52 (by decide) ?_
              exact hm_zret hx hb hr rfl hI hL h (by omega) (by omega) hlocks dX7_hasMemberWith_53
  have hL2 : ∀ n : Nat, ∀ (v3 : Int32) (σ : hmS) (H : Heap) (locs : List Loc) (ls : Array Slot), fX7_hasMemberWith_L2 x0 x1 x2  n v3 σ = some (r, σ') → hmI E σ H → hmLo E locs → lv_has ls 5 [(0, .ref x0), (1, va_rf x1), (2, .int x2), (3, .int v3)] → W p l e R s m ([.ref x0, va_rf x1, .int x2] : List Value).toArray below meth c H locs 0 0 (MQ below (hmQc E (some (.int r)) σ') ([.ref x0, va_rf x1, .int x2] : List Value).toArray s 0 0 (fun q => hmL E ≤ q)) (F0 m 2 ls []) := by
    intro n
    induction n with
    | zero =>
      intro v3 σ H locs ls h
      have h : none = some (r, σ') := h
      cases h
    | succ n ih => exact hB2 _ ih
  have h := hmain
  clear hmain
  unfold fX7_hasMemberWith at h
  refine lv_iconst (v := 0) hx hb dX7_hasMemberWith_0 (by decide) ?_
  refine lv_istore_n (lv' := [(3, .int (0 : Int32)), (0, .ref x0), (1, va_rf x1), (2, .int x2)]) hx hb dX7_hasMemberWith_1 rfl hl (by decide) rfl (fun ls hl => ?_)
  exact hL2 20 _ _ _ _ _ h hI hL (lv_sub hl [1, 2, 3, 0] rfl)

def fX7_hasTopWith_J38 (x0 : Nat) (x1 : Int32) (K2 : Int32 → hmS → Option (Int32 × hmS)) (v2 : Int32) (σ : hmS) : Option (Int32 × hmS) :=
  K2 (v2 + (1 : Int32)) σ
def fX7_hasTopWith_B2 (x0 : Nat) (x1 : Int32)  (K2 : Int32 → hmS → Option (Int32 × hmS)) (v2 : Int32) (σ : hmS) : Option (Int32 × hmS) :=
  ob (gI σ x0 9 1) fun f1 => if f1 ≤ v2 then
    some ((0 : Int32), σ)
  else
    ob (gR σ x0 9 0) fun f4 => ob f4 fun a6 => ob (aR σ a6 v2) fun e7 => oc e7
      (fX7_hasTopWith_J38 x0 x1 K2 v2 σ)
      (fun a9 => ob (gI σ a9 8 1) fun f10 => if f10 = 0 then
        ob (gI σ a9 8 3) fun f13 => if f13 = x1 then
          some ((1 : Int32), σ)
        else
          fX7_hasTopWith_J38 x0 x1 K2 v2 σ
      else
        fX7_hasTopWith_J38 x0 x1 K2 v2 σ)
def fX7_hasTopWith_L2 (x0 : Nat) (x1 : Int32)  : Nat → Int32 → hmS → Option (Int32 × hmS)
  | 0 => fun _ _ => none
  | n + 1 => fX7_hasTopWith_B2 x0 x1  (fX7_hasTopWith_L2 x0 x1  n)
def fX7_hasTopWith (x0 : Nat) (x1 : Int32) (σ : hmS) : Option (Int32 × hmS) :=
  fX7_hasTopWith_L2 x0 x1 20 (0 : Int32) σ
set_option maxHeartbeats 4000000 in
set_option maxRecDepth 100000 in
theorem mX7_hasTopWith (l : Launch) (E : hmG) {x0 : Nat} {x1 : Int32} {σ σ' : hmS} {r : Int32} (h : fX7_hasTopWith x0 x1 σ = some (r, σ')) : Met l yX7_hasTopWith [Cond.code yX7_hasTopWith cX7_hasTopWith 4 (some .boolean)] { frames := 0, cells := 0, slots := 0, locals := 0 } (hmPc E [.ref x0, .int x1] σ) (hmQc E (some (.int r)) σ') 0 0 (fun q => hmL E ≤ q) := by
  refine Met.ofW (cc := cX7_hasTopWith) (maxL := 4) (ret := (some .boolean)) (by decide) rfl ?_
  intro p e s m args below meth c s₁ B hml hv
  obtain ⟨rfl, hK, hI⟩ := hv
  have S : CallFix p m c cX7_hasTopWith 4 s ([.ref x0, .int x1] : List Value).toArray [] RX7 := ⟨B.exec, B.bytes, hml, findClass_of_methodNamed B.named, fun w hw => by cases hw⟩
  have hx := S.1
  have hb := S.2.1
  have hr := B.returns
  have hlocks := B.notSynchronized
  have hL : hmLo E [] := hmLo.nil
  have hl : lv_has ((lg_sl ([.ref x0, .int x1]) ++ List.replicate (4 - (lg_sl ([.ref x0, .int x1])).length) Slot.unset).toArray) 4 [(0, .ref x0), (1, .int x1)] := by exact lv_entry _ (Nat.le_of_ble_eq_true rfl)
  rw [lg_entry_eq]
  generalize (lg_sl ([.ref x0, .int x1]) ++ List.replicate (4 - (lg_sl ([.ref x0, .int x1])).length) Slot.unset).toArray = ls at hl ⊢
  generalize hRe : (headSpec [Cond.code yX7_hasTopWith cX7_hasTopWith 4 (some .boolean)] { frames := 0, cells := 0, slots := 0, locals := 0 }).room = R
  have hR1 : R.frames = 0 ∧ R.cells = 0 ∧ R.slots = 0 ∧ R.locals = 0 := by rw [← hRe]; exact ⟨rfl, rfl, rfl, rfl⟩
  clear hRe B hml
  generalize s.heap = H at hI ⊢
  generalize ([] : List Loc) = locs at hL ⊢
  have hmain := h
  clear h
  have hB2 : ∀ (K2 : Int32 → hmS → Option (Int32 × hmS)), (∀ (v2 : Int32) (σ : hmS) (H : Heap) (locs : List Loc) (ls : Array Slot), K2 v2 σ = some (r, σ') → hmI E σ H → hmLo E locs → lv_has ls 4 [(0, .ref x0), (1, .int x1), (2, .int v2)] → W p l e R s m ([.ref x0, .int x1] : List Value).toArray below meth c H locs 0 0 (MQ below (hmQc E (some (.int r)) σ') ([.ref x0, .int x1] : List Value).toArray s 0 0 (fun q => hmL E ≤ q)) (F0 m 2 ls [])) → ∀ (v2 : Int32) (σ : hmS) (H : Heap) (locs : List Loc) (ls : Array Slot), fX7_hasTopWith_B2 x0 x1  K2 v2 σ = some (r, σ') → hmI E σ H → hmLo E locs → lv_has ls 4 [(0, .ref x0), (1, .int x1), (2, .int v2)] → W p l e R s m ([.ref x0, .int x1] : List Value).toArray below meth c H locs 0 0 (MQ below (hmQc E (some (.int r)) σ') ([.ref x0, .int x1] : List Value).toArray s 0 0 (fun q => hmL E ≤ q)) (F0 m 2 ls []) := by
    intro K2 hk2
    have hJ38 : ∀ (v2 : Int32) (σ : hmS) (H : Heap) (locs : List Loc) (ls : Array Slot), fX7_hasTopWith_J38 x0 x1 K2 v2 σ = some (r, σ') → hmI E σ H → hmLo E locs → lv_has ls 4 [(0, .ref x0), (1, .int x1), (2, .int v2)] → W p l e R s m ([.ref x0, .int x1] : List Value).toArray below meth c H locs 0 0 (MQ below (hmQc E (some (.int r)) σ') ([.ref x0, .int x1] : List Value).toArray s 0 0 (fun q => hmL E ≤ q)) (F0 m 38 ls []) := by
      intro v2 σ H locs ls h hI hL hl
      unfold fX7_hasTopWith_J38 at h
      refine lv_iinc (v := (v2 + (1 : Int32))) (lv' := [(2, .int (v2 + (1 : Int32))), (0, .ref x0), (1, .int x1)]) hx hb dX7_hasTopWith_38 hl (k := 2) rfl rfl (by decide) rfl (fun ls hl => ?_)
      refine lv_goto (tgt := 2) hx hb dX7_hasTopWith_41 (by decide) ?_
      exact hk2 _ _ _ _ _ h hI hL (lv_sub hl [1, 2, 0] rfl)
    intro v2 σ H locs ls h hI hL hl
    unfold fX7_hasTopWith_B2 at h
    refine lv_iload_n hx hb dX7_hasTopWith_2 rfl (lv_at hl 2 rfl) ?_
    refine lv_aload_n hx hb dX7_hasTopWith_3 rfl (lv_at hl 0 rfl) ?_
    replace h := ob_s h
    obtain ⟨f1, h2, h⟩ := h
    refine hm_get S hK hI (pf_X7_15_9 hK) (gI_s h2) dX7_hasTopWith_4 ?_
    refine lv_icmp_ge (tgt := 44) hx hb dX7_hasTopWith_7 (by decide) (fun c3 => ?_) (fun c3 => ?_)
    · replace h := it_p c3 h
      refine lv_iconst (v := 0) hx hb dX7_hasTopWith_44 (by decide) ?_
      exact hm_zret hx hb hr rfl hI hL h (by omega) (by omega) hlocks dX7_hasTopWith_45
    · replace h := it_n c3 h
      refine lv_aload_n hx hb dX7_hasTopWith_10 rfl (lv_at hl 0 rfl) ?_
      replace h := ob_s h
      obtain ⟨f4, h5, h⟩ := h
      refine hm_get S hK hI (pf_X7_11_9 hK) (gR_s h5) dX7_hasTopWith_11 ?_
      refine lv_iload_n hx hb dX7_hasTopWith_14 rfl (lv_at hl 2 rfl) ?_
      replace h := ob_s h
      obtain ⟨a6, rfl, h⟩ := h
      have hl : lv_has ls 4 [(0, .ref x0), (1, .int x1), (2, .int v2)] := hl
      replace h := ob_s h
      obtain ⟨e7, h8, h⟩ := h
      refine hm_aald S hK hI h8 dX7_hasTopWith_15 ?_
      refine hm_astore_n (lv' := [(3, va_rf e7), (0, .ref x0), (1, .int x1), (2, .int v2)]) hx hb dX7_hasTopWith_16 rfl hl (by decide) rfl (fun ls hl => ?_)
      refine hm_aload_n hx hb dX7_hasTopWith_17 rfl (lv_at hl 0 rfl) ?_
      cases e7 with
      | none =>
        replace h := oc_n h
        have hl : lv_has ls 4 [(3, va_rf none), (0, .ref x0), (1, .int x1), (2, .int v2)] := hl
        refine lv_ifnullN (tgt := 38) hx hb dX7_hasTopWith_18 (by decide) ?_
        exact hJ38 _ _ _ _ _ h hI hL (lv_sub hl [1, 2, 3] rfl)
      | some a9 =>
        replace h := oc_s h
        have hl : lv_has ls 4 [(3, .ref a9), (0, .ref x0), (1, .int x1), (2, .int v2)] := hl
        refine lv_ifnull hx hb dX7_hasTopWith_18 ?_
        refine lv_aload_n hx hb dX7_hasTopWith_21 rfl (lv_at hl 0 rfl) ?_
        replace h := ob_s h
        obtain ⟨f10, h11, h⟩ := h
        refine hm_get S hK hI (pf_X7_110_8 hK) (gI_s h11) dX7_hasTopWith_22 ?_
        refine lv_if_ne (tgt := 38) hx hb dX7_hasTopWith_25 (by decide) (fun c12 => ?_) (fun c12 => ?_)
        · replace h := it_n c12 h
          exact hJ38 _ _ _ _ _ h hI hL (lv_sub hl [1, 2, 3] rfl)
        · replace h := it_p c12 h
          refine lv_aload_n hx hb dX7_hasTopWith_28 rfl (lv_at hl 0 rfl) ?_
          replace h := ob_s h
          obtain ⟨f13, h14, h⟩ := h
          refine hm_get S hK hI (pf_X7_213_8 hK) (gI_s h14) dX7_hasTopWith_29 ?_
          refine lv_iload_n hx hb dX7_hasTopWith_32 rfl (lv_at hl 2 rfl) ?_
          refine lv_icmp_ne (tgt := 38) hx hb dX7_hasTopWith_33 (by decide) (fun c15 => ?_) (fun c15 => ?_)
          · replace h := it_n c15 h
            exact hJ38 _ _ _ _ _ h hI hL (lv_sub hl [1, 2, 3] rfl)
          · replace h := it_p c15 h
            refine lv_iconst (v := 1) hx hb dX7_hasTopWith_36 (by decide) ?_
            exact hm_zret hx hb hr rfl hI hL h (by omega) (by omega) hlocks dX7_hasTopWith_37
  have hL2 : ∀ n : Nat, ∀ (v2 : Int32) (σ : hmS) (H : Heap) (locs : List Loc) (ls : Array Slot), fX7_hasTopWith_L2 x0 x1  n v2 σ = some (r, σ') → hmI E σ H → hmLo E locs → lv_has ls 4 [(0, .ref x0), (1, .int x1), (2, .int v2)] → W p l e R s m ([.ref x0, .int x1] : List Value).toArray below meth c H locs 0 0 (MQ below (hmQc E (some (.int r)) σ') ([.ref x0, .int x1] : List Value).toArray s 0 0 (fun q => hmL E ≤ q)) (F0 m 2 ls []) := by
    intro n
    induction n with
    | zero =>
      intro v2 σ H locs ls h
      have h : none = some (r, σ') := h
      cases h
    | succ n ih => exact hB2 _ ih
  have h := hmain
  clear hmain
  unfold fX7_hasTopWith at h
  refine lv_iconst (v := 0) hx hb dX7_hasTopWith_0 (by decide) ?_
  refine lv_istore_n (lv' := [(2, .int (0 : Int32)), (0, .ref x0), (1, .int x1)]) hx hb dX7_hasTopWith_1 rfl hl (by decide) rfl (fun ls hl => ?_)
  exact hL2 20 _ _ _ _ _ h hI hL (lv_sub hl [1, 2, 0] rfl)

def fX7_isLetterTaken_B41 (x0 : Nat) (x1 : Int32) (x2 : Option Nat) (x3 : Int32)  (K41 : Option Nat → Int32 → hmS → Option (Int32 × hmS)) (v4 : Option Nat) (v5 : Int32) (σ : hmS) : Option (Int32 × hmS) :=
  oc v4
    (some ((0 : Int32), σ))
    (fun a1 => if (12 : Int32) ≤ v5 then
      some ((0 : Int32), σ)
    else
      ob (gI σ a1 8 3) fun f3 => if f3 = x3 then
        some ((1 : Int32), σ)
      else
        ob (gR σ a1 8 2) fun f6 => K41 f6 (v5 + (1 : Int32)) σ)
def fX7_isLetterTaken_L41 (x0 : Nat) (x1 : Int32) (x2 : Option Nat) (x3 : Int32)  : Nat → Option Nat → Int32 → hmS → Option (Int32 × hmS)
  | 0 => fun _ _ _ => none
  | n + 1 => fX7_isLetterTaken_B41 x0 x1 x2 x3  (fX7_isLetterTaken_L41 x0 x1 x2 x3  n)
def fX7_isLetterTaken_J35 (x0 : Nat) (x1 : Int32) (x2 : Option Nat) (x3 : Int32)   (σ : hmS) : Option (Int32 × hmS) :=
  fX7_isLetterTaken_L41 x0 x1 x2 x3 20 x2 (0 : Int32) σ
def fX7_isLetterTaken (x0 : Nat) (x1 : Int32) (x2 : Option Nat) (x3 : Int32) (σ : hmS) : Option (Int32 × hmS) :=
  if x1 = (5 : Int32) then
    some ((0 : Int32), σ)
  else
    if x1 = 0 then
      ob (obC σ x0 9) fun _ => cb (fX7_hasTopWith x0 x3 σ) fun r15 σ14 => ob (okZ r15) fun _ => some (r15, σ14)
    else
      cb (fX7_isMember x1 σ) fun r5 σ4 => if r5 = 0 then
        fX7_isLetterTaken_J35 x0 x1 x2 x3 σ4
      else
        ob (obC σ4 x0 9) fun _ => cb (fX7_hasMemberWith x0 x2 x3 σ4) fun r10 σ9 => if r10 = 0 then
          fX7_isLetterTaken_J35 x0 x1 x2 x3 σ9
        else
          some ((1 : Int32), σ9)
set_option maxHeartbeats 4000000 in
set_option maxRecDepth 100000 in
theorem mX7_isLetterTaken (l : Launch) (E : hmG) {x0 : Nat} {x1 : Int32} {x2 : Option Nat} {x3 : Int32} {σ σ' : hmS} {r : Int32} (h : fX7_isLetterTaken x0 x1 x2 x3 σ = some (r, σ')) : Met l yX7_isLetterTaken [Cond.code yX7_isLetterTaken cX7_isLetterTaken 6 (some .boolean)] { frames := 2, cells := 0, slots := 0, locals := 44 } (hmPc E [.ref x0, .int x1, va_rf x2, .int x3] σ) (hmQc E (some (.int r)) σ') 0 0 (fun q => hmL E ≤ q) := by
  refine Met.ofW (cc := cX7_isLetterTaken) (maxL := 6) (ret := (some .boolean)) (by decide) rfl ?_
  intro p e s m args below meth c s₁ B hml hv
  obtain ⟨rfl, hK, hI⟩ := hv
  have S : CallFix p m c cX7_isLetterTaken 6 s ([.ref x0, .int x1, va_rf x2, .int x3] : List Value).toArray [] RX7 := ⟨B.exec, B.bytes, hml, findClass_of_methodNamed B.named, fun w hw => by cases hw⟩
  have hx := S.1
  have hb := S.2.1
  have hr := B.returns
  have hlocks := B.notSynchronized
  have hL : hmLo E [] := hmLo.nil
  have hl : lv_has ((lg_sl ([.ref x0, .int x1, va_rf x2, .int x3]) ++ List.replicate (6 - (lg_sl ([.ref x0, .int x1, va_rf x2, .int x3])).length) Slot.unset).toArray) 6 [(0, .ref x0), (1, .int x1), (2, va_rf x2), (3, .int x3)] := by cases x2 <;> exact lv_entry _ (Nat.le_of_ble_eq_true rfl)
  rw [lg_entry_eq]
  generalize (lg_sl ([.ref x0, .int x1, va_rf x2, .int x3]) ++ List.replicate (6 - (lg_sl ([.ref x0, .int x1, va_rf x2, .int x3])).length) Slot.unset).toArray = ls at hl ⊢
  generalize hRe : (headSpec [Cond.code yX7_isLetterTaken cX7_isLetterTaken 6 (some .boolean)] { frames := 2, cells := 0, slots := 0, locals := 44 }).room = R
  have hR1 : R.frames = 2 ∧ R.cells = 0 ∧ R.slots = 0 ∧ R.locals = 44 := by rw [← hRe]; exact ⟨rfl, rfl, rfl, rfl⟩
  clear hRe B hml
  generalize s.heap = H at hI ⊢
  generalize ([] : List Loc) = locs at hL ⊢
  have hmain := h
  clear h
  have hB41 : ∀ (K41 : Option Nat → Int32 → hmS → Option (Int32 × hmS)), (∀ (v4 : Option Nat) (v5 : Int32) (σ : hmS) (H : Heap) (locs : List Loc) (ls : Array Slot), K41 v4 v5 σ = some (r, σ') → hmI E σ H → hmLo E locs → lv_has ls 6 [(3, .int x3), (4, va_rf v4), (5, .int v5)] → W p l e R s m ([.ref x0, .int x1, va_rf x2, .int x3] : List Value).toArray below meth c H locs 0 0 (MQ below (hmQc E (some (.int r)) σ') ([.ref x0, .int x1, va_rf x2, .int x3] : List Value).toArray s 0 0 (fun q => hmL E ≤ q)) (F0 m 41 ls [])) → ∀ (v4 : Option Nat) (v5 : Int32) (σ : hmS) (H : Heap) (locs : List Loc) (ls : Array Slot), fX7_isLetterTaken_B41 x0 x1 x2 x3  K41 v4 v5 σ = some (r, σ') → hmI E σ H → hmLo E locs → lv_has ls 6 [(3, .int x3), (4, va_rf v4), (5, .int v5)] → W p l e R s m ([.ref x0, .int x1, va_rf x2, .int x3] : List Value).toArray below meth c H locs 0 0 (MQ below (hmQc E (some (.int r)) σ') ([.ref x0, .int x1, va_rf x2, .int x3] : List Value).toArray s 0 0 (fun q => hmL E ≤ q)) (F0 m 41 ls []) := by
    intro K41 hk41
    intro v4 v5 σ H locs ls h hI hL hl
    unfold fX7_isLetterTaken_B41 at h
    refine hm_aload hx hb dX7_isLetterTaken_41 (lv_at hl 1 rfl) ?_
    cases v4 with
    | none =>
      replace h := oc_n h
      have hl : lv_has ls 6 [(3, .int x3), (4, va_rf none), (5, .int v5)] := hl
      refine lv_ifnullN (tgt := 77) hx hb dX7_isLetterTaken_43 (by decide) ?_
      refine lv_iconst (v := 0) hx hb dX7_isLetterTaken_77 (by decide) ?_
      exact hm_zret hx hb hr rfl hI hL h (by omega) (by omega) hlocks dX7_isLetterTaken_78
    | some a1 =>
      replace h := oc_s h
      have hl : lv_has ls 6 [(3, .int x3), (4, .ref a1), (5, .int v5)] := hl
      refine lv_ifnull hx hb dX7_isLetterTaken_43 ?_
      refine lv_iload hx hb dX7_isLetterTaken_46 (lv_at hl 2 rfl) ?_
      refine lv_bipush (v := 12) hx hb dX7_isLetterTaken_48 (by decide) ?_
      refine lv_icmp_ge (tgt := 77) hx hb dX7_isLetterTaken_50 (by decide) (fun c2 => ?_) (fun c2 => ?_)
      · replace h := it_p c2 h
        refine lv_iconst (v := 0) hx hb dX7_isLetterTaken_77 (by decide) ?_
        exact hm_zret hx hb hr rfl hI hL h (by omega) (by omega) hlocks dX7_isLetterTaken_78
      · replace h := it_n c2 h
        refine lv_aload hx hb dX7_isLetterTaken_53 (lv_at hl 1 rfl) ?_
        replace h := ob_s h
        obtain ⟨f3, h4, h⟩ := h
        refine hm_get S hK hI (pf_X7_213_8 hK) (gI_s h4) dX7_isLetterTaken_55 ?_
        refine lv_iload_n hx hb dX7_isLetterTaken_58 rfl (lv_at hl 0 rfl) ?_
        refine lv_icmp_ne (tgt := 64) hx hb dX7_isLetterTaken_59 (by decide) (fun c5 => ?_) (fun c5 => ?_)
        · replace h := it_n c5 h
          refine lv_aload hx hb dX7_isLetterTaken_64 (lv_at hl 1 rfl) ?_
          replace h := ob_s h
          obtain ⟨f6, h7, h⟩ := h
          refine hm_get S hK hI (pf_X7_216_8 hK) (gR_s h7) dX7_isLetterTaken_66 ?_
          refine hm_astore (lv' := [(4, va_rf f6), (3, .int x3), (5, .int v5)]) hx hb dX7_isLetterTaken_69 hl (by decide) rfl (fun ls hl => ?_)
          refine lv_iinc (v := (v5 + (1 : Int32))) (lv' := [(5, .int (v5 + (1 : Int32))), (4, va_rf f6), (3, .int x3)]) hx hb dX7_isLetterTaken_71 hl (k := 2) rfl rfl (by decide) (by cases f6 <;> rfl) (fun ls hl => ?_)
          refine lv_goto (tgt := 41) hx hb dX7_isLetterTaken_74 (by decide) ?_
          exact hk41 _ _ _ _ _ _ h hI hL (lv_sub hl [2, 1, 0] rfl)
        · replace h := it_p c5 h
          refine lv_iconst (v := 1) hx hb dX7_isLetterTaken_62 (by decide) ?_
          exact hm_zret hx hb hr rfl hI hL h (by omega) (by omega) hlocks dX7_isLetterTaken_63
  have hL41 : ∀ n : Nat, ∀ (v4 : Option Nat) (v5 : Int32) (σ : hmS) (H : Heap) (locs : List Loc) (ls : Array Slot), fX7_isLetterTaken_L41 x0 x1 x2 x3  n v4 v5 σ = some (r, σ') → hmI E σ H → hmLo E locs → lv_has ls 6 [(3, .int x3), (4, va_rf v4), (5, .int v5)] → W p l e R s m ([.ref x0, .int x1, va_rf x2, .int x3] : List Value).toArray below meth c H locs 0 0 (MQ below (hmQc E (some (.int r)) σ') ([.ref x0, .int x1, va_rf x2, .int x3] : List Value).toArray s 0 0 (fun q => hmL E ≤ q)) (F0 m 41 ls []) := by
    intro n
    induction n with
    | zero =>
      intro v4 v5 σ H locs ls h
      have h : none = some (r, σ') := h
      cases h
    | succ n ih => exact hB41 _ ih
  have hJ35 : ∀  (σ : hmS) (H : Heap) (locs : List Loc) (ls : Array Slot), fX7_isLetterTaken_J35 x0 x1 x2 x3   σ = some (r, σ') → hmI E σ H → hmLo E locs → lv_has ls 6 [(2, va_rf x2), (3, .int x3)] → W p l e R s m ([.ref x0, .int x1, va_rf x2, .int x3] : List Value).toArray below meth c H locs 0 0 (MQ below (hmQc E (some (.int r)) σ') ([.ref x0, .int x1, va_rf x2, .int x3] : List Value).toArray s 0 0 (fun q => hmL E ≤ q)) (F0 m 35 ls []) := by
    intro  σ H locs ls h hI hL hl
    unfold fX7_isLetterTaken_J35 at h
    refine hm_aload_n hx hb dX7_isLetterTaken_35 rfl (lv_at hl 0 rfl) ?_
    refine hm_astore (lv' := [(4, va_rf x2), (2, va_rf x2), (3, .int x3)]) hx hb dX7_isLetterTaken_36 hl (by decide) rfl (fun ls hl => ?_)
    refine lv_iconst (v := 0) hx hb dX7_isLetterTaken_38 (by decide) ?_
    refine lv_istore (lv' := [(5, .int (0 : Int32)), (4, va_rf x2), (2, va_rf x2), (3, .int x3)]) hx hb dX7_isLetterTaken_39 hl (by decide) (by cases x2 <;> rfl) (fun ls hl => ?_)
    exact hL41 20 _ _ _ _ _ _ h hI hL (lv_sub hl [3, 1, 0] rfl)
  have h := hmain
  clear hmain
  unfold fX7_isLetterTaken at h
  refine lv_iload_n hx hb dX7_isLetterTaken_0 rfl (lv_at hl 1 rfl) ?_
  refine lv_iconst (v := 5) hx hb dX7_isLetterTaken_1 (by decide) ?_
  refine lv_icmp_ne (tgt := 7) hx hb dX7_isLetterTaken_2 (by decide) (fun c1 => ?_) (fun c1 => ?_)
  · replace h := it_n c1 h
    refine lv_iload_n hx hb dX7_isLetterTaken_7 rfl (lv_at hl 1 rfl) ?_
    refine lv_if_ne (tgt := 17) hx hb dX7_isLetterTaken_8 (by decide) (fun c2 => ?_) (fun c2 => ?_)
    · replace h := it_n c2 h
      refine lv_iload_n hx hb dX7_isLetterTaken_17 rfl (lv_at hl 1 rfl) ?_
      replace h := cb_s h
      obtain ⟨r5, σ4, h3, h⟩ := h
      refine hm_call (hm_runS (As := [.int x1]) (rest := []) S hK hI (mX7_isMember l E h3) (pm_X7_206 hK) (ps_X7_isMember hK) ⟨by omega, by omega⟩ rfl hl.1 (Nat.le_of_ble_eq_true rfl) ⟨by omega, by omega⟩ dX7_isLetterTaken_18) hL (fun H locs hI hL => ?_)
      refine lv_if_eq (tgt := 35) hx hb dX7_isLetterTaken_21 (by decide) (fun c6 => ?_) (fun c6 => ?_)
      · replace h := it_p c6 h
        exact hJ35 _ _ _ _ h hI hL (lv_sub hl [2, 3] rfl)
      · replace h := it_n c6 h
        refine lv_aload_n hx hb dX7_isLetterTaken_24 rfl (lv_at hl 0 rfl) ?_
        refine hm_aload_n hx hb dX7_isLetterTaken_25 rfl (lv_at hl 2 rfl) ?_
        refine lv_iload_n hx hb dX7_isLetterTaken_26 rfl (lv_at hl 3 rfl) ?_
        replace h := ob_s h
        obtain ⟨_, h8, h⟩ := h
        replace h := cb_s h
        obtain ⟨r10, σ9, h7, h⟩ := h
        refine hm_call (hm_runV (As := [va_rf x2, .int x3]) (rest := []) (ci := 9) S hK hI (obC_s h8) rfl (mX7_hasMemberWith l E h7) (pm_X7_209 hK) (pi_X7_hasMemberWith hK) (pl_X7_X7_hasMemberWith hK) ⟨by omega, by omega⟩ rfl hl.1 (Nat.le_of_ble_eq_true rfl) ⟨by omega, by omega⟩ dX7_isLetterTaken_27) hL (fun H locs hI hL => ?_)
        refine lv_if_eq (tgt := 35) hx hb dX7_isLetterTaken_30 (by decide) (fun c11 => ?_) (fun c11 => ?_)
        · replace h := it_p c11 h
          exact hJ35 _ _ _ _ h hI hL (lv_sub hl [2, 3] rfl)
        · replace h := it_n c11 h
          refine lv_iconst (v := 1) hx hb dX7_isLetterTaken_33 (by decide) ?_
          exact hm_zret hx hb hr rfl hI hL h (by omega) (by omega) hlocks dX7_isLetterTaken_34
    · replace h := it_p c2 h
      refine lv_aload_n hx hb dX7_isLetterTaken_11 rfl (lv_at hl 0 rfl) ?_
      refine lv_iload_n hx hb dX7_isLetterTaken_12 rfl (lv_at hl 3 rfl) ?_
      replace h := ob_s h
      obtain ⟨_, h13, h⟩ := h
      replace h := cb_s h
      obtain ⟨r15, σ14, h12, h⟩ := h
      refine hm_call (hm_runV (As := [.int x3]) (rest := []) (ci := 9) S hK hI (obC_s h13) rfl (mX7_hasTopWith l E h12) (pm_X7_203 hK) (pi_X7_hasTopWith hK) (pl_X7_X7_hasTopWith hK) ⟨by omega, by omega⟩ rfl hl.1 (Nat.le_of_ble_eq_true rfl) ⟨by omega, by omega⟩ dX7_isLetterTaken_13) hL (fun H locs hI hL => ?_)
      replace h := ob_s h
      obtain ⟨_, z16, h⟩ := h
      exact hm_zret hx hb hr (okZ_n z16).1 hI hL h (by omega) (by omega) hlocks dX7_isLetterTaken_16
  · replace h := it_p c1 h
    refine lv_iconst (v := 0) hx hb dX7_isLetterTaken_5 (by decide) ?_
    exact hm_zret hx hb hr rfl hI hL h (by omega) (by omega) hlocks dX7_isLetterTaken_6

def fX7_standsInMethod_J15 (x0 : Int32)   (σ : hmS) : Option (Int32 × hmS) :=
  some ((1 : Int32), σ)
def fX7_standsInMethod (x0 : Int32) (σ : hmS) : Option (Int32 × hmS) :=
  if x0 = (3 : Int32) then
    fX7_standsInMethod_J15 x0 σ
  else
    if x0 = (4 : Int32) then
      fX7_standsInMethod_J15 x0 σ
    else
      if x0 = (5 : Int32) then
        fX7_standsInMethod_J15 x0 σ
      else
        some ((0 : Int32), σ)
set_option maxHeartbeats 4000000 in
set_option maxRecDepth 100000 in
theorem mX7_standsInMethod (l : Launch) (E : hmG) {x0 : Int32} {σ σ' : hmS} {r : Int32} (h : fX7_standsInMethod x0 σ = some (r, σ')) : Met l yX7_standsInMethod [Cond.code yX7_standsInMethod cX7_standsInMethod 1 (some .boolean)] { frames := 0, cells := 0, slots := 0, locals := 0 } (hmPc E [.int x0] σ) (hmQc E (some (.int r)) σ') 0 0 (fun q => hmL E ≤ q) := by
  refine Met.ofW (cc := cX7_standsInMethod) (maxL := 1) (ret := (some .boolean)) (by decide) rfl ?_
  intro p e s m args below meth c s₁ B hml hv
  obtain ⟨rfl, hK, hI⟩ := hv
  have S : CallFix p m c cX7_standsInMethod 1 s ([.int x0] : List Value).toArray [] RX7 := ⟨B.exec, B.bytes, hml, findClass_of_methodNamed B.named, fun w hw => by cases hw⟩
  have hx := S.1
  have hb := S.2.1
  have hr := B.returns
  have hlocks := B.notSynchronized
  have hL : hmLo E [] := hmLo.nil
  have hl : lv_has ((lg_sl ([.int x0]) ++ List.replicate (1 - (lg_sl ([.int x0])).length) Slot.unset).toArray) 1 [(0, .int x0)] := by exact lv_entry _ (Nat.le_of_ble_eq_true rfl)
  rw [lg_entry_eq]
  generalize (lg_sl ([.int x0]) ++ List.replicate (1 - (lg_sl ([.int x0])).length) Slot.unset).toArray = ls at hl ⊢
  generalize hRe : (headSpec [Cond.code yX7_standsInMethod cX7_standsInMethod 1 (some .boolean)] { frames := 0, cells := 0, slots := 0, locals := 0 }).room = R
  have hR1 : R.frames = 0 ∧ R.cells = 0 ∧ R.slots = 0 ∧ R.locals = 0 := by rw [← hRe]; exact ⟨rfl, rfl, rfl, rfl⟩
  clear hRe B hml
  generalize s.heap = H at hI ⊢
  generalize ([] : List Loc) = locs at hL ⊢
  have hmain := h
  clear h
  have hJ15 : ∀  (σ : hmS) (H : Heap) (locs : List Loc) (ls : Array Slot), fX7_standsInMethod_J15 x0   σ = some (r, σ') → hmI E σ H → hmLo E locs → lv_has ls 1 [] → W p l e R s m ([.int x0] : List Value).toArray below meth c H locs 0 0 (MQ below (hmQc E (some (.int r)) σ') ([.int x0] : List Value).toArray s 0 0 (fun q => hmL E ≤ q)) (F0 m 15 ls []) := by
    intro  σ H locs ls h hI hL hl
    unfold fX7_standsInMethod_J15 at h
    refine lv_iconst (v := 1) hx hb dX7_standsInMethod_15 (by decide) ?_
    refine lv_goto (tgt := 20) hx hb dX7_standsInMethod_16 (by decide) ?_
    exact hm_zret hx hb hr rfl hI hL h (by omega) (by omega) hlocks dX7_standsInMethod_20
  have h := hmain
  clear hmain
  unfold fX7_standsInMethod at h
  refine lv_iload_n hx hb dX7_standsInMethod_0 rfl (lv_at hl 0 rfl) ?_
  refine lv_iconst (v := 3) hx hb dX7_standsInMethod_1 (by decide) ?_
  refine lv_icmp_eq (tgt := 15) hx hb dX7_standsInMethod_2 (by decide) (fun c1 => ?_) (fun c1 => ?_)
  · replace h := it_p c1 h
    exact hJ15 _ _ _ _ h hI hL (lv_sub hl [] rfl)
  · replace h := it_n c1 h
    refine lv_iload_n hx hb dX7_standsInMethod_5 rfl (lv_at hl 0 rfl) ?_
    refine lv_iconst (v := 4) hx hb dX7_standsInMethod_6 (by decide) ?_
    refine lv_icmp_eq (tgt := 15) hx hb dX7_standsInMethod_7 (by decide) (fun c2 => ?_) (fun c2 => ?_)
    · replace h := it_p c2 h
      exact hJ15 _ _ _ _ h hI hL (lv_sub hl [] rfl)
    · replace h := it_n c2 h
      refine lv_iload_n hx hb dX7_standsInMethod_10 rfl (lv_at hl 0 rfl) ?_
      refine lv_iconst (v := 5) hx hb dX7_standsInMethod_11 (by decide) ?_
      refine lv_icmp_ne (tgt := 19) hx hb dX7_standsInMethod_12 (by decide) (fun c3 => ?_) (fun c3 => ?_)
      · replace h := it_n c3 h
        refine lv_iconst (v := 0) hx hb dX7_standsInMethod_19 (by decide) ?_
        exact hm_zret hx hb hr rfl hI hL h (by omega) (by omega) hlocks dX7_standsInMethod_20
      · replace h := it_p c3 h
        exact hJ15 _ _ _ _ h hI hL (lv_sub hl [] rfl)

def fX7_twinNumber_J70 (x0 : Nat) (x1 : Int32) (x2 : Option Nat) (x3 : Int32) (K15 : Int32 → Int32 → hmS → Option (Int32 × hmS)) (v4 : Int32) (v5 : Int32) (σ : hmS) : Option (Int32 × hmS) :=
  K15 v4 (v5 + (1 : Int32)) σ
def fX7_twinNumber_B15 (x0 : Nat) (x1 : Int32) (x2 : Option Nat) (x3 : Int32)  (K15 : Int32 → Int32 → hmS → Option (Int32 × hmS)) (v4 : Int32) (v5 : Int32) (σ : hmS) : Option (Int32 × hmS) :=
  ob (gI σ x0 9 1) fun f1 => if f1 ≤ v5 then
    some (v4, σ)
  else
    ob (gR σ x0 9 0) fun f4 => ob f4 fun a6 => ob (aR σ a6 v5) fun e7 => oc e7
      (fX7_twinNumber_J70 x0 x1 x2 x3 K15 v4 v5 σ)
      (fun a9 => ob (gI σ a9 8 1) fun f10 => cb (fX7_standsInMethod f10 σ) fun r14 σ13 => if r14 = 0 then
        fX7_twinNumber_J70 x0 x1 x2 x3 K15 v4 v5 σ13
      else
        ob (gR σ13 a9 8 2) fun f16 => if f16 = x2 then
          ob (gI σ13 a9 8 3) fun f19 => if f19 = x3 then
            fX7_twinNumber_J70 x0 x1 x2 x3 K15 (v4 + (1 : Int32)) v5 σ13
          else
            fX7_twinNumber_J70 x0 x1 x2 x3 K15 v4 v5 σ13
        else
          fX7_twinNumber_J70 x0 x1 x2 x3 K15 v4 v5 σ13)
def fX7_twinNumber_L15 (x0 : Nat) (x1 : Int32) (x2 : Option Nat) (x3 : Int32)  : Nat → Int32 → Int32 → hmS → Option (Int32 × hmS)
  | 0 => fun _ _ _ => none
  | n + 1 => fX7_twinNumber_B15 x0 x1 x2 x3  (fX7_twinNumber_L15 x0 x1 x2 x3  n)
def fX7_twinNumber (x0 : Nat) (x1 : Int32) (x2 : Option Nat) (x3 : Int32) (σ : hmS) : Option (Int32 × hmS) :=
  cb (fX7_standsInMethod x1 σ) fun r3 σ2 => if r3 = 0 then
    some ((0 : Int32), σ2)
  else
    fX7_twinNumber_L15 x0 x1 x2 x3 20 (1 : Int32) (0 : Int32) σ2
set_option maxHeartbeats 4000000 in
set_option maxRecDepth 100000 in
theorem mX7_twinNumber (l : Launch) (E : hmG) {x0 : Nat} {x1 : Int32} {x2 : Option Nat} {x3 : Int32} {σ σ' : hmS} {r : Int32} (h : fX7_twinNumber x0 x1 x2 x3 σ = some (r, σ')) : Met l yX7_twinNumber [Cond.code yX7_twinNumber cX7_twinNumber 7 (some .int)] { frames := 1, cells := 0, slots := 0, locals := 20 } (hmPc E [.ref x0, .int x1, va_rf x2, .int x3] σ) (hmQc E (some (.int r)) σ') 0 0 (fun q => hmL E ≤ q) := by
  refine Met.ofW (cc := cX7_twinNumber) (maxL := 7) (ret := (some .int)) (by decide) rfl ?_
  intro p e s m args below meth c s₁ B hml hv
  obtain ⟨rfl, hK, hI⟩ := hv
  have S : CallFix p m c cX7_twinNumber 7 s ([.ref x0, .int x1, va_rf x2, .int x3] : List Value).toArray [] RX7 := ⟨B.exec, B.bytes, hml, findClass_of_methodNamed B.named, fun w hw => by cases hw⟩
  have hx := S.1
  have hb := S.2.1
  have hr := B.returns
  have hlocks := B.notSynchronized
  have hL : hmLo E [] := hmLo.nil
  have hl : lv_has ((lg_sl ([.ref x0, .int x1, va_rf x2, .int x3]) ++ List.replicate (7 - (lg_sl ([.ref x0, .int x1, va_rf x2, .int x3])).length) Slot.unset).toArray) 7 [(0, .ref x0), (1, .int x1), (2, va_rf x2), (3, .int x3)] := by cases x2 <;> exact lv_entry _ (Nat.le_of_ble_eq_true rfl)
  rw [lg_entry_eq]
  generalize (lg_sl ([.ref x0, .int x1, va_rf x2, .int x3]) ++ List.replicate (7 - (lg_sl ([.ref x0, .int x1, va_rf x2, .int x3])).length) Slot.unset).toArray = ls at hl ⊢
  generalize hRe : (headSpec [Cond.code yX7_twinNumber cX7_twinNumber 7 (some .int)] { frames := 1, cells := 0, slots := 0, locals := 20 }).room = R
  have hR1 : R.frames = 1 ∧ R.cells = 0 ∧ R.slots = 0 ∧ R.locals = 20 := by rw [← hRe]; exact ⟨rfl, rfl, rfl, rfl⟩
  clear hRe B hml
  generalize s.heap = H at hI ⊢
  generalize ([] : List Loc) = locs at hL ⊢
  have hmain := h
  clear h
  have hB15 : ∀ (K15 : Int32 → Int32 → hmS → Option (Int32 × hmS)), (∀ (v4 : Int32) (v5 : Int32) (σ : hmS) (H : Heap) (locs : List Loc) (ls : Array Slot), K15 v4 v5 σ = some (r, σ') → hmI E σ H → hmLo E locs → lv_has ls 7 [(0, .ref x0), (2, va_rf x2), (3, .int x3), (4, .int v4), (5, .int v5)] → W p l e R s m ([.ref x0, .int x1, va_rf x2, .int x3] : List Value).toArray below meth c H locs 0 0 (MQ below (hmQc E (some (.int r)) σ') ([.ref x0, .int x1, va_rf x2, .int x3] : List Value).toArray s 0 0 (fun q => hmL E ≤ q)) (F0 m 15 ls [])) → ∀ (v4 : Int32) (v5 : Int32) (σ : hmS) (H : Heap) (locs : List Loc) (ls : Array Slot), fX7_twinNumber_B15 x0 x1 x2 x3  K15 v4 v5 σ = some (r, σ') → hmI E σ H → hmLo E locs → lv_has ls 7 [(0, .ref x0), (2, va_rf x2), (3, .int x3), (4, .int v4), (5, .int v5)] → W p l e R s m ([.ref x0, .int x1, va_rf x2, .int x3] : List Value).toArray below meth c H locs 0 0 (MQ below (hmQc E (some (.int r)) σ') ([.ref x0, .int x1, va_rf x2, .int x3] : List Value).toArray s 0 0 (fun q => hmL E ≤ q)) (F0 m 15 ls []) := by
    intro K15 hk15
    have hJ70 : ∀ (v4 : Int32) (v5 : Int32) (σ : hmS) (H : Heap) (locs : List Loc) (ls : Array Slot), fX7_twinNumber_J70 x0 x1 x2 x3 K15 v4 v5 σ = some (r, σ') → hmI E σ H → hmLo E locs → lv_has ls 7 [(0, .ref x0), (2, va_rf x2), (3, .int x3), (4, .int v4), (5, .int v5)] → W p l e R s m ([.ref x0, .int x1, va_rf x2, .int x3] : List Value).toArray below meth c H locs 0 0 (MQ below (hmQc E (some (.int r)) σ') ([.ref x0, .int x1, va_rf x2, .int x3] : List Value).toArray s 0 0 (fun q => hmL E ≤ q)) (F0 m 70 ls []) := by
      intro v4 v5 σ H locs ls h hI hL hl
      unfold fX7_twinNumber_J70 at h
      refine lv_iinc (v := (v5 + (1 : Int32))) (lv' := [(5, .int (v5 + (1 : Int32))), (0, .ref x0), (2, va_rf x2), (3, .int x3), (4, .int v4)]) hx hb dX7_twinNumber_70 hl (k := 4) rfl rfl (by decide) rfl (fun ls hl => ?_)
      refine lv_goto (tgt := 15) hx hb dX7_twinNumber_73 (by decide) ?_
      exact hk15 _ _ _ _ _ _ h hI hL (lv_sub hl [1, 2, 3, 4, 0] rfl)
    intro v4 v5 σ H locs ls h hI hL hl
    unfold fX7_twinNumber_B15 at h
    refine lv_iload hx hb dX7_twinNumber_15 (lv_at hl 4 rfl) ?_
    refine lv_aload_n hx hb dX7_twinNumber_17 rfl (lv_at hl 0 rfl) ?_
    replace h := ob_s h
    obtain ⟨f1, h2, h⟩ := h
    refine hm_get S hK hI (pf_X7_15_9 hK) (gI_s h2) dX7_twinNumber_18 ?_
    refine lv_icmp_ge (tgt := 76) hx hb dX7_twinNumber_21 (by decide) (fun c3 => ?_) (fun c3 => ?_)
    · replace h := it_p c3 h
      refine lv_iload hx hb dX7_twinNumber_76 (lv_at hl 3 rfl) ?_
      exact hm_iret hx hb hr hI hL h (by omega) (by omega) hlocks dX7_twinNumber_78
    · replace h := it_n c3 h
      refine lv_aload_n hx hb dX7_twinNumber_24 rfl (lv_at hl 0 rfl) ?_
      replace h := ob_s h
      obtain ⟨f4, h5, h⟩ := h
      refine hm_get S hK hI (pf_X7_11_9 hK) (gR_s h5) dX7_twinNumber_25 ?_
      refine lv_iload hx hb dX7_twinNumber_28 (lv_at hl 4 rfl) ?_
      replace h := ob_s h
      obtain ⟨a6, rfl, h⟩ := h
      have hl : lv_has ls 7 [(0, .ref x0), (2, va_rf x2), (3, .int x3), (4, .int v4), (5, .int v5)] := hl
      replace h := ob_s h
      obtain ⟨e7, h8, h⟩ := h
      refine hm_aald S hK hI h8 dX7_twinNumber_30 ?_
      refine hm_astore (lv' := [(6, va_rf e7), (0, .ref x0), (2, va_rf x2), (3, .int x3), (4, .int v4), (5, .int v5)]) hx hb dX7_twinNumber_31 hl (by decide) rfl (fun ls hl => ?_)
      refine hm_aload hx hb dX7_twinNumber_33 (lv_at hl 0 rfl) ?_
      cases e7 with
      | none =>
        replace h := oc_n h
        have hl : lv_has ls 7 [(6, va_rf none), (0, .ref x0), (2, va_rf x2), (3, .int x3), (4, .int v4), (5, .int v5)] := hl
        refine lv_ifnullN (tgt := 70) hx hb dX7_twinNumber_35 (by decide) ?_
        exact hJ70 _ _ _ _ _ _ h hI hL (lv_sub hl [1, 2, 3, 4, 5] rfl)
      | some a9 =>
        replace h := oc_s h
        have hl : lv_has ls 7 [(6, .ref a9), (0, .ref x0), (2, va_rf x2), (3, .int x3), (4, .int v4), (5, .int v5)] := hl
        refine lv_ifnull hx hb dX7_twinNumber_35 ?_
        refine lv_aload hx hb dX7_twinNumber_38 (lv_at hl 0 rfl) ?_
        replace h := ob_s h
        obtain ⟨f10, h11, h⟩ := h
        refine hm_get S hK hI (pf_X7_110_8 hK) (gI_s h11) dX7_twinNumber_40 ?_
        replace h := cb_s h
        obtain ⟨r14, σ13, h12, h⟩ := h
        refine hm_call (hm_runS (As := [.int f10]) (rest := []) S hK hI (mX7_standsInMethod l E h12) (pm_X7_219 hK) (ps_X7_standsInMethod hK) ⟨by omega, by omega⟩ rfl hl.1 (Nat.le_of_ble_eq_true rfl) ⟨by omega, by omega⟩ dX7_twinNumber_43) hL (fun H locs hI hL => ?_)
        refine lv_if_eq (tgt := 70) hx hb dX7_twinNumber_46 (by decide) (fun c15 => ?_) (fun c15 => ?_)
        · replace h := it_p c15 h
          exact hJ70 _ _ _ _ _ _ h hI hL (lv_sub hl [1, 2, 3, 4, 5] rfl)
        · replace h := it_n c15 h
          refine lv_aload hx hb dX7_twinNumber_49 (lv_at hl 0 rfl) ?_
          replace h := ob_s h
          obtain ⟨f16, h17, h⟩ := h
          refine hm_get S hK hI (pf_X7_216_8 hK) (gR_s h17) dX7_twinNumber_51 ?_
          refine hm_aload_n hx hb dX7_twinNumber_54 rfl (lv_at hl 2 rfl) ?_
          refine lv_acmp_ne (rx := f16) (ry := x2) (tgt := 70) hx hb dX7_twinNumber_55 (by decide) (fun c18 => ?_) (fun c18 => ?_)
          · replace h := it_n c18 h
            exact hJ70 _ _ _ _ _ _ h hI hL (lv_sub hl [1, 2, 3, 4, 5] rfl)
          · replace h := it_p c18 h
            refine lv_aload hx hb dX7_twinNumber_58 (lv_at hl 0 rfl) ?_
            replace h := ob_s h
            obtain ⟨f19, h20, h⟩ := h
            refine hm_get S hK hI (pf_X7_213_8 hK) (gI_s h20) dX7_twinNumber_60 ?_
            refine lv_iload_n hx hb dX7_twinNumber_63 rfl (lv_at hl 3 rfl) ?_
            refine lv_icmp_ne (tgt := 70) hx hb dX7_twinNumber_64 (by decide) (fun c21 => ?_) (fun c21 => ?_)
            · replace h := it_n c21 h
              exact hJ70 _ _ _ _ _ _ h hI hL (lv_sub hl [1, 2, 3, 4, 5] rfl)
            · replace h := it_p c21 h
              refine lv_iinc (v := (v4 + (1 : Int32))) (lv' := [(4, .int (v4 + (1 : Int32))), (6, .ref a9), (0, .ref x0), (2, va_rf x2), (3, .int x3), (5, .int v5)]) hx hb dX7_twinNumber_67 hl (k := 4) rfl rfl (by decide) rfl (fun ls hl => ?_)
              exact hJ70 _ _ _ _ _ _ h hI hL (lv_sub hl [2, 3, 4, 0, 5] rfl)
  have hL15 : ∀ n : Nat, ∀ (v4 : Int32) (v5 : Int32) (σ : hmS) (H : Heap) (locs : List Loc) (ls : Array Slot), fX7_twinNumber_L15 x0 x1 x2 x3  n v4 v5 σ = some (r, σ') → hmI E σ H → hmLo E locs → lv_has ls 7 [(0, .ref x0), (2, va_rf x2), (3, .int x3), (4, .int v4), (5, .int v5)] → W p l e R s m ([.ref x0, .int x1, va_rf x2, .int x3] : List Value).toArray below meth c H locs 0 0 (MQ below (hmQc E (some (.int r)) σ') ([.ref x0, .int x1, va_rf x2, .int x3] : List Value).toArray s 0 0 (fun q => hmL E ≤ q)) (F0 m 15 ls []) := by
    intro n
    induction n with
    | zero =>
      intro v4 v5 σ H locs ls h
      have h : none = some (r, σ') := h
      cases h
    | succ n ih => exact hB15 _ ih
  have h := hmain
  clear hmain
  unfold fX7_twinNumber at h
  refine lv_iload_n hx hb dX7_twinNumber_0 rfl (lv_at hl 1 rfl) ?_
  replace h := cb_s h
  obtain ⟨r3, σ2, h1, h⟩ := h
  refine hm_call (hm_runS (As := [.int x1]) (rest := []) S hK hI (mX7_standsInMethod l E h1) (pm_X7_219 hK) (ps_X7_standsInMethod hK) ⟨by omega, by omega⟩ rfl hl.1 (Nat.le_of_ble_eq_true rfl) ⟨by omega, by omega⟩ dX7_twinNumber_1) hL (fun H locs hI hL => ?_)
  refine lv_if_ne (tgt := 9) hx hb dX7_twinNumber_4 (by decide) (fun c4 => ?_) (fun c4 => ?_)
  · replace h := it_n c4 h
    refine lv_iconst (v := 1) hx hb dX7_twinNumber_9 (by decide) ?_
    refine lv_istore (lv' := [(4, .int (1 : Int32)), (0, .ref x0), (1, .int x1), (2, va_rf x2), (3, .int x3)]) hx hb dX7_twinNumber_10 hl (by decide) rfl (fun ls hl => ?_)
    refine lv_iconst (v := 0) hx hb dX7_twinNumber_12 (by decide) ?_
    refine lv_istore (lv' := [(5, .int (0 : Int32)), (4, .int (1 : Int32)), (0, .ref x0), (1, .int x1), (2, va_rf x2), (3, .int x3)]) hx hb dX7_twinNumber_13 hl (by decide) rfl (fun ls hl => ?_)
    exact hL15 20 _ _ _ _ _ _ h hI hL (lv_sub hl [2, 4, 5, 1, 0] rfl)
  · replace h := it_p c4 h
    refine lv_iconst (v := 0) hx hb dX7_twinNumber_7 (by decide) ?_
    exact hm_iret hx hb hr hI hL h (by omega) (by omega) hlocks dX7_twinNumber_8

def fX1_init (x0 : Nat) (σ : hmS) : Option (Unit × hmS) :=
  cb (nA σ 0 (.inl (fun _ => 0)) 4 (4 : Int32)) fun q1 σ2 => ob (wF σ2 x0 3 0 (.ref q1)) fun σ4 => cb (nA σ4 1 (.inr (.inl (fun _ => 0))) 4 (4 : Int32)) fun q6 σ7 => ob (wF σ7 x0 3 1 (.ref q6)) fun σ9 => cb (nA σ9 2 (.inl (fun _ => 0)) 4 (4 : Int32)) fun q11 σ12 => ob (wF σ12 x0 3 2 (.ref q11)) fun σ14 => ob (wF σ14 x0 3 3 (.int (0 : Int32))) fun σ16 => some ((), σ16)
set_option maxHeartbeats 4000000 in
set_option maxRecDepth 100000 in
theorem mX1_init (l : Launch) (E : hmG) {x0 : Nat} {σ σ' : hmS} {r : Unit} (h : fX1_init x0 σ = some (r, σ')) : Met l yX1_init [Cond.code yX1_init cX1_init 1 none] { frames := 1, cells := 3, slots := 12, locals := 20 } (hmPc E [.ref x0] σ) (hmQc E none σ') 3 12 (fun q => hmL E ≤ q) := by
  refine Met.ofW (cc := cX1_init) (maxL := 1) (ret := none) (by decide) rfl ?_
  intro p e s m args below meth c s₁ B hml hv
  obtain ⟨rfl, hK, hI⟩ := hv
  have S : CallFix p m c cX1_init 1 s ([.ref x0] : List Value).toArray [] RX1 := ⟨B.exec, B.bytes, hml, findClass_of_methodNamed B.named, fun w hw => by cases hw⟩
  have hx := S.1
  have hb := S.2.1
  have hr := B.returns
  have hlocks := B.notSynchronized
  have hin : meth.name = "<init>" := (name_of_methodNamed B.named B.method).1
  have hL : hmLo E [] := hmLo.nil
  have hl : lv_has ((lg_sl ([.ref x0]) ++ List.replicate (1 - (lg_sl ([.ref x0])).length) Slot.unset).toArray) 1 [(0, .ref x0)] := by exact lv_entry _ (Nat.le_of_ble_eq_true rfl)
  rw [lg_entry_eq]
  generalize (lg_sl ([.ref x0]) ++ List.replicate (1 - (lg_sl ([.ref x0])).length) Slot.unset).toArray = ls at hl ⊢
  generalize hRe : (headSpec [Cond.code yX1_init cX1_init 1 none] { frames := 1, cells := 3, slots := 12, locals := 20 }).room = R
  have hR1 : R.frames = 1 ∧ R.cells = 3 ∧ R.slots = 12 ∧ R.locals = 20 := by rw [← hRe]; exact ⟨rfl, rfl, rfl, rfl⟩
  clear hRe B hml
  generalize s.heap = H at hI ⊢
  generalize ([] : List Loc) = locs at hL ⊢
  have hmain := h
  clear h
  have h := hmain
  clear hmain
  unfold fX1_init at h
  refine lv_aload_n hx hb dX1_init_0 rfl (lv_at hl 0 rfl) ?_
  refine hm_objInit (i1 := 119) (i2 := 27) (i3 := 28) S hK (by decide +kernel) (by decide +kernel) (by decide +kernel) hl.1 dX1_init_1 (by omega) (Nat.le_of_ble_eq_true rfl) (by omega) ?_
  refine lv_aload_n hx hb dX1_init_4 rfl (lv_at hl 0 rfl) ?_
  refine lv_iconst (v := 4) hx hb dX1_init_5 (by decide) ?_
  replace h := cb_s h
  obtain ⟨q1, σ2, h3, h⟩ := h
  refine hm_newa (i := 135) S hK hI (by decide +kernel) rfl (by decide) (fun _ => rfl) h3 (by decide) (by omega) (by omega) dX1_init_6 (fun H hI => ?_)
  replace h := ob_s h
  obtain ⟨σ4, h5, h⟩ := h
  refine hm_putF S hK hI hL hin (pf_X1_9_3 hK) h5 ⟨rfl, rfl⟩ dX1_init_8 (fun H locs hI hL => ?_)
  refine lv_aload_n hx hb dX1_init_11 rfl (lv_at hl 0 rfl) ?_
  refine lv_iconst (v := 4) hx hb dX1_init_12 (by decide) ?_
  replace h := cb_s h
  obtain ⟨q6, σ7, h8, h⟩ := h
  refine hm_newa (i := 136) S hK hI (by decide +kernel) rfl (by decide) (fun _ => rfl) h8 (by decide) (by omega) (by omega) dX1_init_13 (fun H hI => ?_)
  replace h := ob_s h
  obtain ⟨σ9, h10, h⟩ := h
  refine hm_putF S hK hI hL hin (pf_X1_15_3 hK) h10 ⟨rfl, rfl⟩ dX1_init_15 (fun H locs hI hL => ?_)
  refine lv_aload_n hx hb dX1_init_18 rfl (lv_at hl 0 rfl) ?_
  refine lv_iconst (v := 4) hx hb dX1_init_19 (by decide) ?_
  replace h := cb_s h
  obtain ⟨q11, σ12, h13, h⟩ := h
  refine hm_newa (i := 137) S hK hI (by decide +kernel) rfl (by decide) (fun _ => rfl) h13 (by decide) (by omega) (by omega) dX1_init_20 (fun H hI => ?_)
  replace h := ob_s h
  obtain ⟨σ14, h15, h⟩ := h
  refine hm_putF S hK hI hL hin (pf_X1_19_3 hK) h15 ⟨rfl, rfl⟩ dX1_init_22 (fun H locs hI hL => ?_)
  refine lv_aload_n hx hb dX1_init_25 rfl (lv_at hl 0 rfl) ?_
  refine lv_iconst (v := 0) hx hb dX1_init_26 (by decide) ?_
  replace h := ob_s h
  obtain ⟨σ16, h17, h⟩ := h
  refine hm_put S hK hI hL (pf_X1_23_3 hK) h17 ⟨rfl, rfl⟩ dX1_init_27 (fun H locs hI hL => ?_)
  exact hm_vret hx hb hr hI hL h (by omega) (by omega) hlocks dX1_init_30

def fX4_init (x0 : Nat) (σ : hmS) : Option (Unit × hmS) :=
  cb (nA σ 0 (.inl (fun _ => 0)) 4 (4 : Int32)) fun q1 σ2 => ob (wF σ2 x0 6 0 (.ref q1)) fun σ4 => cb (nA σ4 1 (.inr (.inl (fun _ => 0))) 4 (4 : Int32)) fun q6 σ7 => ob (wF σ7 x0 6 1 (.ref q6)) fun σ9 => cb (nA σ9 2 (.inl (fun _ => 0)) 4 (4 : Int32)) fun q11 σ12 => ob (wF σ12 x0 6 2 (.ref q11)) fun σ14 => ob (wF σ14 x0 6 3 (.int (0 : Int32))) fun σ16 => some ((), σ16)
set_option maxHeartbeats 4000000 in
set_option maxRecDepth 100000 in
theorem mX4_init (l : Launch) (E : hmG) {x0 : Nat} {σ σ' : hmS} {r : Unit} (h : fX4_init x0 σ = some (r, σ')) : Met l yX4_init [Cond.code yX4_init cX4_init 1 none] { frames := 1, cells := 3, slots := 12, locals := 20 } (hmPc E [.ref x0] σ) (hmQc E none σ') 3 12 (fun q => hmL E ≤ q) := by
  refine Met.ofW (cc := cX4_init) (maxL := 1) (ret := none) (by decide) rfl ?_
  intro p e s m args below meth c s₁ B hml hv
  obtain ⟨rfl, hK, hI⟩ := hv
  have S : CallFix p m c cX4_init 1 s ([.ref x0] : List Value).toArray [] RX4 := ⟨B.exec, B.bytes, hml, findClass_of_methodNamed B.named, fun w hw => by cases hw⟩
  have hx := S.1
  have hb := S.2.1
  have hr := B.returns
  have hlocks := B.notSynchronized
  have hin : meth.name = "<init>" := (name_of_methodNamed B.named B.method).1
  have hL : hmLo E [] := hmLo.nil
  have hl : lv_has ((lg_sl ([.ref x0]) ++ List.replicate (1 - (lg_sl ([.ref x0])).length) Slot.unset).toArray) 1 [(0, .ref x0)] := by exact lv_entry _ (Nat.le_of_ble_eq_true rfl)
  rw [lg_entry_eq]
  generalize (lg_sl ([.ref x0]) ++ List.replicate (1 - (lg_sl ([.ref x0])).length) Slot.unset).toArray = ls at hl ⊢
  generalize hRe : (headSpec [Cond.code yX4_init cX4_init 1 none] { frames := 1, cells := 3, slots := 12, locals := 20 }).room = R
  have hR1 : R.frames = 1 ∧ R.cells = 3 ∧ R.slots = 12 ∧ R.locals = 20 := by rw [← hRe]; exact ⟨rfl, rfl, rfl, rfl⟩
  clear hRe B hml
  generalize s.heap = H at hI ⊢
  generalize ([] : List Loc) = locs at hL ⊢
  have hmain := h
  clear h
  have h := hmain
  clear hmain
  unfold fX4_init at h
  refine lv_aload_n hx hb dX4_init_0 rfl (lv_at hl 0 rfl) ?_
  refine hm_objInit (i1 := 143) (i2 := 27) (i3 := 28) S hK (by decide +kernel) (by decide +kernel) (by decide +kernel) hl.1 dX4_init_1 (by omega) (Nat.le_of_ble_eq_true rfl) (by omega) ?_
  refine lv_aload_n hx hb dX4_init_4 rfl (lv_at hl 0 rfl) ?_
  refine lv_iconst (v := 4) hx hb dX4_init_5 (by decide) ?_
  replace h := cb_s h
  obtain ⟨q1, σ2, h3, h⟩ := h
  refine hm_newa (i := 135) S hK hI (by decide +kernel) rfl (by decide) (fun _ => rfl) h3 (by decide) (by omega) (by omega) dX4_init_6 (fun H hI => ?_)
  replace h := ob_s h
  obtain ⟨σ4, h5, h⟩ := h
  refine hm_putF S hK hI hL hin (pf_X4_9_6 hK) h5 ⟨rfl, rfl⟩ dX4_init_8 (fun H locs hI hL => ?_)
  refine lv_aload_n hx hb dX4_init_11 rfl (lv_at hl 0 rfl) ?_
  refine lv_iconst (v := 4) hx hb dX4_init_12 (by decide) ?_
  replace h := cb_s h
  obtain ⟨q6, σ7, h8, h⟩ := h
  refine hm_newa (i := 136) S hK hI (by decide +kernel) rfl (by decide) (fun _ => rfl) h8 (by decide) (by omega) (by omega) dX4_init_13 (fun H hI => ?_)
  replace h := ob_s h
  obtain ⟨σ9, h10, h⟩ := h
  refine hm_putF S hK hI hL hin (pf_X4_15_6 hK) h10 ⟨rfl, rfl⟩ dX4_init_15 (fun H locs hI hL => ?_)
  refine lv_aload_n hx hb dX4_init_18 rfl (lv_at hl 0 rfl) ?_
  refine lv_iconst (v := 4) hx hb dX4_init_19 (by decide) ?_
  replace h := cb_s h
  obtain ⟨q11, σ12, h13, h⟩ := h
  refine hm_newa (i := 137) S hK hI (by decide +kernel) rfl (by decide) (fun _ => rfl) h13 (by decide) (by omega) (by omega) dX4_init_20 (fun H hI => ?_)
  replace h := ob_s h
  obtain ⟨σ14, h15, h⟩ := h
  refine hm_putF S hK hI hL hin (pf_X4_19_6 hK) h15 ⟨rfl, rfl⟩ dX4_init_22 (fun H locs hI hL => ?_)
  refine lv_aload_n hx hb dX4_init_25 rfl (lv_at hl 0 rfl) ?_
  refine lv_iconst (v := 0) hx hb dX4_init_26 (by decide) ?_
  replace h := ob_s h
  obtain ⟨σ16, h17, h⟩ := h
  refine hm_put S hK hI hL (pf_X4_23_6 hK) h17 ⟨rfl, rfl⟩ dX4_init_27 (fun H locs hI hL => ?_)
  exact hm_vret hx hb hr hI hL h (by omega) (by omega) hlocks dX4_init_30

def fX6_classNameOf_J53 (E : hmG) (x0 : Option Nat) (x1 : Int32) (x2 : Int32)  (v3 : Nat) (σ : hmS) : Option (Option Nat × hmS) :=
  ob (obC σ v3 1) fun _ => cb (fJ4_toString_0e30d v3 σ) fun r4 σ3 => some (r4, σ3)
def fX6_classNameOf_J38 (E : hmG) (x0 : Option Nat) (x1 : Int32) (x2 : Int32)  (v3 : Nat) (σ : hmS) : Option (Option Nat × hmS) :=
  if x1 = (-1 : Int32) then
    fX6_classNameOf_J53 E x0 x1 x2 v3 σ
  else
    ob (obC σ v3 1) fun _ => cb (fJ4_append_cf468 v3 (((((65 : Int32) + x1)).toUInt32 % 65536).toInt32) σ) fun r5 σ4 => fX6_classNameOf_J53 E x0 x1 x2 v3 σ4
def fX6_classNameOf_J28 (E : hmG) (x0 : Option Nat) (x1 : Int32) (x2 : Int32)  (v3 : Nat) (σ : hmS) : Option (Option Nat × hmS) :=
  if x2 ≤ 0 then
    fX6_classNameOf_J38 E x0 x1 x2 v3 σ
  else
    ob (obC σ v3 1) fun _ => cb (fJ4_append_bf812 E v3 x2 σ) fun r5 σ4 => fX6_classNameOf_J38 E x0 x1 x2 v3 σ4
def fX6_classNameOf (E : hmG) (x0 : Option Nat) (x1 : Int32) (x2 : Int32) (σ : hmS) : Option (Option Nat × hmS) :=
  nw σ (.inr (1, [.null, .int 0, .int 0, .int 0])) fun q1 σ2 => cb (fJ4_init_da8c8 q1 σ2) fun _ σ6 => oc x0
    (fX6_classNameOf_J28 E x0 x1 x2 q1 σ6)
    (fun a7 => ob (gR σ6 a7 8 6) fun f8 => ob (obC σ6 q1 1) fun _ => cb (fJ4_append_15ec4 q1 f8 σ6) fun r13 σ12 => ob (obC σ12 q1 1) fun _ => cb (fJ4_append_cf468 q1 (36 : Int32) σ12) fun r17 σ16 => fX6_classNameOf_J28 E x0 x1 x2 q1 σ16)
set_option maxHeartbeats 4000000 in
set_option maxRecDepth 100000 in
theorem mX6_classNameOf (l : Launch) (E : hmG) {x0 : Option Nat} {x1 : Int32} {x2 : Int32} {σ σ' : hmS} {r : Option Nat} (h : fX6_classNameOf E x0 x1 x2 σ = some (r, σ')) : Met l yX6_classNameOf [Cond.code yX6_classNameOf cX6_classNameOf 4 (some (.object "java/lang/String"))] { frames := 6, cells := 8, slots := 776, locals := 151 } (hmPc E [va_rf x0, .int x1, .int x2] σ) (hmQc E (some (va_rf r)) σ') 8 776 (fun q => hmL E ≤ q) := by
  refine Met.ofW (cc := cX6_classNameOf) (maxL := 4) (ret := (some (.object "java/lang/String"))) (by decide) rfl ?_
  intro p e s m args below meth c s₁ B hml hv
  obtain ⟨rfl, hK, hI⟩ := hv
  have S : CallFix p m c cX6_classNameOf 4 s ([va_rf x0, .int x1, .int x2] : List Value).toArray [] RX6 := ⟨B.exec, B.bytes, hml, findClass_of_methodNamed B.named, fun w hw => by cases hw⟩
  have hx := S.1
  have hb := S.2.1
  have hr := B.returns
  have hlocks := B.notSynchronized
  have hL : hmLo E [] := hmLo.nil
  have hl : lv_has ((lg_sl ([va_rf x0, .int x1, .int x2]) ++ List.replicate (4 - (lg_sl ([va_rf x0, .int x1, .int x2])).length) Slot.unset).toArray) 4 [(0, va_rf x0), (1, .int x1), (2, .int x2)] := by cases x0 <;> exact lv_entry _ (Nat.le_of_ble_eq_true rfl)
  rw [lg_entry_eq]
  generalize (lg_sl ([va_rf x0, .int x1, .int x2]) ++ List.replicate (4 - (lg_sl ([va_rf x0, .int x1, .int x2])).length) Slot.unset).toArray = ls at hl ⊢
  generalize hRe : (headSpec [Cond.code yX6_classNameOf cX6_classNameOf 4 (some (.object "java/lang/String"))] { frames := 6, cells := 8, slots := 776, locals := 151 }).room = R
  have hR1 : R.frames = 6 ∧ R.cells = 8 ∧ R.slots = 776 ∧ R.locals = 151 := by rw [← hRe]; exact ⟨rfl, rfl, rfl, rfl⟩
  clear hRe B hml
  generalize s.heap = H at hI ⊢
  generalize ([] : List Loc) = locs at hL ⊢
  have hmain := h
  clear h
  have hJ53 : ∀ (v3 : Nat) (σ : hmS) (H : Heap) (locs : List Loc) (ls : Array Slot), fX6_classNameOf_J53 E x0 x1 x2  v3 σ = some (r, σ') → hmI E σ H → hmLo E locs → lv_has ls 4 [(3, .ref v3)] → W p l e R s m ([va_rf x0, .int x1, .int x2] : List Value).toArray below meth c H locs 6 644 (MQ below (hmQc E (some (va_rf r)) σ') ([va_rf x0, .int x1, .int x2] : List Value).toArray s 8 776 (fun q => hmL E ≤ q)) (F0 m 53 ls []) := by
    intro v3 σ H locs ls h hI hL hl
    unfold fX6_classNameOf_J53 at h
    refine lv_aload_n hx hb dX6_classNameOf_53 rfl (lv_at hl 0 rfl) ?_
    replace h := ob_s h
    obtain ⟨_, h2, h⟩ := h
    replace h := cb_s h
    obtain ⟨r4, σ3, h1, h⟩ := h
    refine hm_call (hm_runV (As := []) (rest := []) (ci := 1) S hK hI (obC_s h2) rfl (mJ4_toString_0e30d l E h1) (pm_X6_80 hK) (pi_J4_toString_0e30d hK) (pl_J4_J4_toString_0e30d hK) ⟨by omega, by omega⟩ rfl hl.1 (Nat.le_of_ble_eq_true rfl) ⟨by omega, by omega⟩ dX6_classNameOf_54) hL (fun H locs hI hL => ?_)
    exact hm_aret hx hb hr (Or.inl ⟨_, rfl⟩) hI hL h (by omega) (by omega) hlocks dX6_classNameOf_57
  have hJ38 : ∀ (v3 : Nat) (σ : hmS) (H : Heap) (locs : List Loc) (ls : Array Slot), fX6_classNameOf_J38 E x0 x1 x2  v3 σ = some (r, σ') → hmI E σ H → hmLo E locs → lv_has ls 4 [(1, .int x1), (3, .ref v3)] → W p l e R s m ([va_rf x0, .int x1, .int x2] : List Value).toArray below meth c H locs 5 516 (MQ below (hmQc E (some (va_rf r)) σ') ([va_rf x0, .int x1, .int x2] : List Value).toArray s 8 776 (fun q => hmL E ≤ q)) (F0 m 38 ls []) := by
    intro v3 σ H locs ls h hI hL hl
    unfold fX6_classNameOf_J38 at h
    refine lv_iload_n hx hb dX6_classNameOf_38 rfl (lv_at hl 0 rfl) ?_
    refine lv_iconst (v := -1) hx hb dX6_classNameOf_39 (by decide) ?_
    refine lv_icmp_eq (tgt := 53) hx hb dX6_classNameOf_40 (by decide) (fun c1 => ?_) (fun c1 => ?_)
    · replace h := it_p c1 h
      refine W.widen (k := 6) (n := 644) (by omega) (by omega) ?_
      exact hJ53 _ _ _ _ _ h hI hL (lv_sub hl [1] rfl)
    · replace h := it_n c1 h
      refine lv_aload_n hx hb dX6_classNameOf_43 rfl (lv_at hl 1 rfl) ?_
      refine lv_bipush (v := 65) hx hb dX6_classNameOf_44 (by decide) ?_
      refine lv_iload_n hx hb dX6_classNameOf_46 rfl (lv_at hl 0 rfl) ?_
      refine lv_iadd hx hb dX6_classNameOf_47 ?_
      refine lv_i2c hx hb dX6_classNameOf_48 rfl ?_
      replace h := ob_s h
      obtain ⟨_, h3, h⟩ := h
      replace h := cb_s h
      obtain ⟨r5, σ4, h2, h⟩ := h
      refine hm_call (hm_runV (As := [.int (((((65 : Int32) + x1)).toUInt32 % 65536).toInt32)]) (rest := []) (ci := 1) S hK hI (obC_s h3) rfl (mJ4_append_cf468 l E h2) (pm_X6_74 hK) (pi_J4_append_cf468 hK) (pl_J4_J4_append_cf468 hK) ⟨by omega, by omega⟩ rfl hl.1 (Nat.le_of_ble_eq_true rfl) ⟨by omega, by omega⟩ dX6_classNameOf_49) hL (fun H locs hI hL => ?_)
      refine lv_pop hx hb dX6_classNameOf_52 (by cases r5 <;> rfl) ?_
      exact hJ53 _ _ _ _ _ h hI hL (lv_sub hl [1] rfl)
  have hJ28 : ∀ (v3 : Nat) (σ : hmS) (H : Heap) (locs : List Loc) (ls : Array Slot), fX6_classNameOf_J28 E x0 x1 x2  v3 σ = some (r, σ') → hmI E σ H → hmLo E locs → lv_has ls 4 [(1, .int x1), (2, .int x2), (3, .ref v3)] → W p l e R s m ([va_rf x0, .int x1, .int x2] : List Value).toArray below meth c H locs 4 388 (MQ below (hmQc E (some (va_rf r)) σ') ([va_rf x0, .int x1, .int x2] : List Value).toArray s 8 776 (fun q => hmL E ≤ q)) (F0 m 28 ls []) := by
    intro v3 σ H locs ls h hI hL hl
    unfold fX6_classNameOf_J28 at h
    refine lv_iload_n hx hb dX6_classNameOf_28 rfl (lv_at hl 1 rfl) ?_
    refine lv_if_le (tgt := 38) hx hb dX6_classNameOf_29 (by decide) (fun c1 => ?_) (fun c1 => ?_)
    · replace h := it_p c1 h
      refine W.widen (k := 5) (n := 516) (by omega) (by omega) ?_
      exact hJ38 _ _ _ _ _ h hI hL (lv_sub hl [0, 2] rfl)
    · replace h := it_n c1 h
      refine lv_aload_n hx hb dX6_classNameOf_32 rfl (lv_at hl 2 rfl) ?_
      refine lv_iload_n hx hb dX6_classNameOf_33 rfl (lv_at hl 1 rfl) ?_
      replace h := ob_s h
      obtain ⟨_, h3, h⟩ := h
      replace h := cb_s h
      obtain ⟨r5, σ4, h2, h⟩ := h
      refine hm_call (hm_runV (As := [.int x2]) (rest := []) (ci := 1) S hK hI (obC_s h3) rfl (mJ4_append_bf812 l E h2) (pm_X6_77 hK) (pi_J4_append_bf812 hK) (pl_J4_J4_append_bf812 hK) ⟨by omega, by omega⟩ rfl hl.1 (Nat.le_of_ble_eq_true rfl) ⟨by omega, by omega⟩ dX6_classNameOf_34) hL (fun H locs hI hL => ?_)
      refine lv_pop hx hb dX6_classNameOf_37 (by cases r5 <;> rfl) ?_
      exact hJ38 _ _ _ _ _ h hI hL (lv_sub hl [0, 2] rfl)
  have h := hmain
  clear hmain
  unfold fX6_classNameOf at h
  replace h := nw_s h
  obtain ⟨q1, σ2, h3, h4, h⟩ := h
  refine hm_new S hK hI (pn_X6_67 hK) h3 h4 (by omega) (by omega) dX6_classNameOf_0 (fun H hI => ?_)
  refine lv_dup hx hb dX6_classNameOf_3 rfl ?_
  replace h := cb_s h
  obtain ⟨u0, σ6, h5, h⟩ := h
  refine hm_callv (hm_runI (As := []) (rest := [.ref q1]) S hK hI (mJ4_init_da8c8 l E h5) (pm_X6_69 hK) rfl (pi_J4_init_da8c8 hK) ⟨by omega, by omega⟩ rfl hl.1 (Nat.le_of_ble_eq_true rfl) ⟨by omega, by omega⟩ dX6_classNameOf_4) hL (fun H locs hI hL => ?_)
  refine lv_astore_n (lv' := [(3, .ref q1), (0, va_rf x0), (1, .int x1), (2, .int x2)]) hx hb dX6_classNameOf_7 rfl hl (by decide) rfl (fun ls hl => ?_)
  refine hm_aload_n hx hb dX6_classNameOf_8 rfl (lv_at hl 1 rfl) ?_
  cases x0 with
  | none =>
    replace h := oc_n h
    have hl : lv_has ls 4 [(3, .ref q1), (0, va_rf none), (1, .int x1), (2, .int x2)] := hl
    refine lv_ifnullN (tgt := 28) hx hb dX6_classNameOf_9 (by decide) ?_
    refine W.widen (k := 4) (n := 388) (by omega) (by omega) ?_
    exact hJ28 _ _ _ _ _ h hI hL (lv_sub hl [2, 3, 0] rfl)
  | some a7 =>
    replace h := oc_s h
    have hl : lv_has ls 4 [(3, .ref q1), (0, .ref a7), (1, .int x1), (2, .int x2)] := hl
    refine lv_ifnull hx hb dX6_classNameOf_9 ?_
    refine lv_aload_n hx hb dX6_classNameOf_12 rfl (lv_at hl 0 rfl) ?_
    refine lv_aload_n hx hb dX6_classNameOf_13 rfl (lv_at hl 1 rfl) ?_
    replace h := ob_s h
    obtain ⟨f8, h9, h⟩ := h
    refine hm_get S hK hI (pf_X6_63_8 hK) (gR_s h9) dX6_classNameOf_14 ?_
    replace h := ob_s h
    obtain ⟨_, h11, h⟩ := h
    replace h := cb_s h
    obtain ⟨r13, σ12, h10, h⟩ := h
    refine hm_call (hm_runV (As := [va_rf f8]) (rest := []) (ci := 1) S hK hI (obC_s h11) rfl (mJ4_append_15ec4 l E h10) (pm_X6_70 hK) (pi_J4_append_15ec4 hK) (pl_J4_J4_append_15ec4 hK) ⟨by omega, by omega⟩ rfl hl.1 (Nat.le_of_ble_eq_true rfl) ⟨by omega, by omega⟩ dX6_classNameOf_17) hL (fun H locs hI hL => ?_)
    refine lv_pop hx hb dX6_classNameOf_20 (by cases r13 <;> rfl) ?_
    refine lv_aload_n hx hb dX6_classNameOf_21 rfl (lv_at hl 0 rfl) ?_
    refine lv_bipush (v := 36) hx hb dX6_classNameOf_22 (by decide) ?_
    replace h := ob_s h
    obtain ⟨_, h15, h⟩ := h
    replace h := cb_s h
    obtain ⟨r17, σ16, h14, h⟩ := h
    refine hm_call (hm_runV (As := [.int (36 : Int32)]) (rest := []) (ci := 1) S hK hI (obC_s h15) rfl (mJ4_append_cf468 l E h14) (pm_X6_74 hK) (pi_J4_append_cf468 hK) (pl_J4_J4_append_cf468 hK) ⟨by omega, by omega⟩ rfl hl.1 (Nat.le_of_ble_eq_true rfl) ⟨by omega, by omega⟩ dX6_classNameOf_24) hL (fun H locs hI hL => ?_)
    refine lv_pop hx hb dX6_classNameOf_27 (by cases r17 <;> rfl) ?_
    exact hJ28 _ _ _ _ _ h hI hL (lv_sub hl [2, 3, 0] rfl)

def fX6_init_J123 (E : hmG) (x0 : Nat) (x1 : Int32) (x2 : Int32) (x3 : Option Nat) (x4 : Int32) (x5 : Int32)  (w0 : Int32) (σ : hmS) : Option (Unit × hmS) :=
  ob (okZ w0) fun _ => ob (wF σ x0 8 5 (.int w0)) fun σ2 => cb (fX6_classNameOf E x3 x4 x5 σ2) fun r6 σ5 => ob (wF σ5 x0 8 6 (va_rf r6)) fun σ7 => some ((), σ7)
def fX6_init_J122 (E : hmG) (x0 : Nat) (x1 : Int32) (x2 : Int32) (x3 : Option Nat) (x4 : Int32) (x5 : Int32)   (σ : hmS) : Option (Unit × hmS) :=
  fX6_init_J123 E x0 x1 x2 x3 x4 x5 (0 : Int32) σ
def fX6_init_J118 (E : hmG) (x0 : Nat) (x1 : Int32) (x2 : Int32) (x3 : Option Nat) (x4 : Int32) (x5 : Int32)   (σ : hmS) : Option (Unit × hmS) :=
  fX6_init_J123 E x0 x1 x2 x3 x4 x5 (1 : Int32) σ
def fX6_init_J92 (E : hmG) (x0 : Nat) (x1 : Int32) (x2 : Int32) (x3 : Option Nat) (x4 : Int32) (x5 : Int32)  (v6 : Int32) (w0 : Int32) (σ : hmS) : Option (Unit × hmS) :=
  ob (wF σ x0 8 4 (.int w0)) fun σ1 => if x2 = (2 : Int32) then
    fX6_init_J118 E x0 x1 x2 x3 x4 x5 σ1
  else
    if v6 = 0 then
      fX6_init_J122 E x0 x1 x2 x3 x4 x5 σ1
    else
      if x2 = (4 : Int32) then
        fX6_init_J122 E x0 x1 x2 x3 x4 x5 σ1
      else
        ob x3 fun a6 => ob (gI σ1 a6 8 9) fun f7 => if f7 = 0 then
          fX6_init_J118 E x0 x1 x2 x3 x4 x5 σ1
        else
          fX6_init_J122 E x0 x1 x2 x3 x4 x5 σ1
def fX6_init_J73 (E : hmG) (x0 : Nat) (x1 : Int32) (x2 : Int32) (x3 : Option Nat) (x4 : Int32) (x5 : Int32)  (w0 : Int32) (σ : hmS) : Option (Unit × hmS) :=
  if w0 = 0 then
    fX6_init_J92 E x0 x1 x2 x3 x4 x5 w0 (0 : Int32) σ
  else
    ob x3 fun a2 => ob (gR σ a2 8 8) fun f3 => ob f3 fun a5 => ob (gI σ a5 6 3) fun f6 => fX6_init_J92 E x0 x1 x2 x3 x4 x5 w0 f6 σ
def fX6_init_J72 (E : hmG) (x0 : Nat) (x1 : Int32) (x2 : Int32) (x3 : Option Nat) (x4 : Int32) (x5 : Int32)   (σ : hmS) : Option (Unit × hmS) :=
  fX6_init_J73 E x0 x1 x2 x3 x4 x5 (0 : Int32) σ
def fX6_init (E : hmG) (x0 : Nat) (x1 : Int32) (x2 : Int32) (x3 : Option Nat) (x4 : Int32) (x5 : Int32) (σ : hmS) : Option (Unit × hmS) :=
  nw σ (.inr (3, [.null, .null, .null, .int 0])) fun q1 σ2 => cb (fX1_init q1 σ2) fun _ σ6 => ob (wF σ6 x0 8 7 (.ref q1)) fun σ7 => nw σ7 (.inr (6, [.null, .null, .null, .int 0])) fun q9 σ10 => cb (fX4_init q9 σ10) fun _ σ14 => ob (wF σ14 x0 8 8 (.ref q9)) fun σ15 => ob (wF σ15 x0 8 9 (.int (0 : Int32))) fun σ17 => ob (wF σ17 x0 8 10 (va_rf none)) fun σ19 => ob (wF σ19 x0 8 0 (.int x1)) fun σ21 => ob (wF σ21 x0 8 1 (.int x2)) fun σ23 => ob (wF σ23 x0 8 2 (va_rf x3)) fun σ25 => ob (wF σ25 x0 8 3 (.int x4)) fun σ27 => oc x3
    (fX6_init_J72 E x0 x1 x2 x3 x4 x5 σ27)
    (fun a29 => cb (fX7_standsInMethod x2 σ27) fun r32 σ31 => if r32 = 0 then
      fX6_init_J72 E x0 x1 x2 x3 x4 x5 σ31
    else
      fX6_init_J73 E x0 x1 x2 x3 x4 x5 (1 : Int32) σ31)
set_option maxHeartbeats 4000000 in
set_option maxRecDepth 100000 in
theorem mX6_init (l : Launch) (E : hmG) {x0 : Nat} {x1 : Int32} {x2 : Int32} {x3 : Option Nat} {x4 : Int32} {x5 : Int32} {σ σ' : hmS} {r : Unit} (h : fX6_init E x0 x1 x2 x3 x4 x5 σ = some (r, σ')) : Met l yX6_init [Cond.code yX6_init cX6_init 7 none] { frames := 7, cells := 16, slots := 808, locals := 174 } (hmPc E [.ref x0, .int x1, .int x2, va_rf x3, .int x4, .int x5] σ) (hmQc E none σ') 16 808 (fun q => hmL E ≤ q) := by
  refine Met.ofW (cc := cX6_init) (maxL := 7) (ret := none) (by decide) rfl ?_
  intro p e s m args below meth c s₁ B hml hv
  obtain ⟨rfl, hK, hI⟩ := hv
  have S : CallFix p m c cX6_init 7 s ([.ref x0, .int x1, .int x2, va_rf x3, .int x4, .int x5] : List Value).toArray [] RX6 := ⟨B.exec, B.bytes, hml, findClass_of_methodNamed B.named, fun w hw => by cases hw⟩
  have hx := S.1
  have hb := S.2.1
  have hr := B.returns
  have hlocks := B.notSynchronized
  have hin : meth.name = "<init>" := (name_of_methodNamed B.named B.method).1
  have hL : hmLo E [] := hmLo.nil
  have hl : lv_has ((lg_sl ([.ref x0, .int x1, .int x2, va_rf x3, .int x4, .int x5]) ++ List.replicate (7 - (lg_sl ([.ref x0, .int x1, .int x2, va_rf x3, .int x4, .int x5])).length) Slot.unset).toArray) 7 [(0, .ref x0), (1, .int x1), (2, .int x2), (3, va_rf x3), (4, .int x4), (5, .int x5)] := by cases x3 <;> exact lv_entry _ (Nat.le_of_ble_eq_true rfl)
  rw [lg_entry_eq]
  generalize (lg_sl ([.ref x0, .int x1, .int x2, va_rf x3, .int x4, .int x5]) ++ List.replicate (7 - (lg_sl ([.ref x0, .int x1, .int x2, va_rf x3, .int x4, .int x5])).length) Slot.unset).toArray = ls at hl ⊢
  generalize hRe : (headSpec [Cond.code yX6_init cX6_init 7 none] { frames := 7, cells := 16, slots := 808, locals := 174 }).room = R
  have hR1 : R.frames = 7 ∧ R.cells = 16 ∧ R.slots = 808 ∧ R.locals = 174 := by rw [← hRe]; exact ⟨rfl, rfl, rfl, rfl⟩
  clear hRe B hml
  generalize s.heap = H at hI ⊢
  generalize ([] : List Loc) = locs at hL ⊢
  have hmain := h
  clear h
  have hJ123 : ∀ (w0 : Int32) (σ : hmS) (H : Heap) (locs : List Loc) (ls : Array Slot), fX6_init_J123 E x0 x1 x2 x3 x4 x5  w0 σ = some (r, σ') → hmI E σ H → hmLo E locs → lv_has ls 7 [(0, .ref x0), (3, va_rf x3), (4, .int x4), (5, .int x5)] → W p l e R s m ([.ref x0, .int x1, .int x2, va_rf x3, .int x4, .int x5] : List Value).toArray below meth c H locs 8 32 (MQ below (hmQc E none σ') ([.ref x0, .int x1, .int x2, va_rf x3, .int x4, .int x5] : List Value).toArray s 16 808 (fun q => hmL E ≤ q)) (F0 m 123 ls [.int w0, .ref x0]) := by
    intro w0 σ H locs ls h hI hL hl
    unfold fX6_init_J123 at h
    replace h := ob_s h
    obtain ⟨_, z1, h⟩ := h
    replace h := ob_s h
    obtain ⟨σ2, h3, h⟩ := h
    refine hm_putF S hK hI hL hin (pf_X6_56_8 hK) h3 (okZ_n z1) dX6_init_123 (fun H locs hI hL => ?_)
    refine lv_aload_n hx hb dX6_init_126 rfl (lv_at hl 0 rfl) ?_
    refine hm_aload_n hx hb dX6_init_127 rfl (lv_at hl 1 rfl) ?_
    refine lv_iload hx hb dX6_init_128 (lv_at hl 2 rfl) ?_
    refine lv_iload hx hb dX6_init_130 (lv_at hl 3 rfl) ?_
    replace h := cb_s h
    obtain ⟨r6, σ5, h4, h⟩ := h
    refine hm_call (hm_runS (As := [va_rf x3, .int x4, .int x5]) (rest := [.ref x0]) S hK hI (mX6_classNameOf l E h4) (pm_X6_59 hK) (ps_X6_classNameOf hK) ⟨by omega, by omega⟩ rfl hl.1 (Nat.le_of_ble_eq_true rfl) ⟨by omega, by omega⟩ dX6_init_132) hL (fun H locs hI hL => ?_)
    replace h := ob_s h
    obtain ⟨σ7, h8, h⟩ := h
    refine hm_putF S hK hI hL hin (pf_X6_63_8 hK) h8 rf_fit dX6_init_135 (fun H locs hI hL => ?_)
    exact hm_vret hx hb hr hI hL h (by omega) (by omega) hlocks dX6_init_138
  have hJ122 : ∀  (σ : hmS) (H : Heap) (locs : List Loc) (ls : Array Slot), fX6_init_J122 E x0 x1 x2 x3 x4 x5   σ = some (r, σ') → hmI E σ H → hmLo E locs → lv_has ls 7 [(0, .ref x0), (3, va_rf x3), (4, .int x4), (5, .int x5)] → W p l e R s m ([.ref x0, .int x1, .int x2, va_rf x3, .int x4, .int x5] : List Value).toArray below meth c H locs 8 32 (MQ below (hmQc E none σ') ([.ref x0, .int x1, .int x2, va_rf x3, .int x4, .int x5] : List Value).toArray s 16 808 (fun q => hmL E ≤ q)) (F0 m 122 ls [.ref x0]) := by
    intro  σ H locs ls h hI hL hl
    unfold fX6_init_J122 at h
    refine lv_iconst (v := 0) hx hb dX6_init_122 (by decide) ?_
    exact hJ123 _ _ _ _ _ h hI hL (lv_sub hl [0, 1, 2, 3] rfl)
  have hJ118 : ∀  (σ : hmS) (H : Heap) (locs : List Loc) (ls : Array Slot), fX6_init_J118 E x0 x1 x2 x3 x4 x5   σ = some (r, σ') → hmI E σ H → hmLo E locs → lv_has ls 7 [(0, .ref x0), (3, va_rf x3), (4, .int x4), (5, .int x5)] → W p l e R s m ([.ref x0, .int x1, .int x2, va_rf x3, .int x4, .int x5] : List Value).toArray below meth c H locs 8 32 (MQ below (hmQc E none σ') ([.ref x0, .int x1, .int x2, va_rf x3, .int x4, .int x5] : List Value).toArray s 16 808 (fun q => hmL E ≤ q)) (F0 m 118 ls [.ref x0]) := by
    intro  σ H locs ls h hI hL hl
    unfold fX6_init_J118 at h
    refine lv_iconst (v := 1) hx hb dX6_init_118 (by decide) ?_
    refine lv_goto (tgt := 123) hx hb dX6_init_119 (by decide) ?_
    exact hJ123 _ _ _ _ _ h hI hL (lv_sub hl [0, 1, 2, 3] rfl)
  have hJ92 : ∀ (v6 : Int32) (w0 : Int32) (σ : hmS) (H : Heap) (locs : List Loc) (ls : Array Slot), fX6_init_J92 E x0 x1 x2 x3 x4 x5  v6 w0 σ = some (r, σ') → hmI E σ H → hmLo E locs → lv_has ls 7 [(0, .ref x0), (2, .int x2), (3, va_rf x3), (4, .int x4), (5, .int x5), (6, .int v6)] → W p l e R s m ([.ref x0, .int x1, .int x2, va_rf x3, .int x4, .int x5] : List Value).toArray below meth c H locs 8 32 (MQ below (hmQc E none σ') ([.ref x0, .int x1, .int x2, va_rf x3, .int x4, .int x5] : List Value).toArray s 16 808 (fun q => hmL E ≤ q)) (F0 m 92 ls [.int w0, .ref x0]) := by
    intro v6 w0 σ H locs ls h hI hL hl
    unfold fX6_init_J92 at h
    replace h := ob_s h
    obtain ⟨σ1, h2, h⟩ := h
    refine hm_putF S hK hI hL hin (pf_X6_53_8 hK) h2 ⟨rfl, rfl⟩ dX6_init_92 (fun H locs hI hL => ?_)
    refine lv_aload_n hx hb dX6_init_95 rfl (lv_at hl 0 rfl) ?_
    refine lv_iload_n hx hb dX6_init_96 rfl (lv_at hl 1 rfl) ?_
    refine lv_iconst (v := 2) hx hb dX6_init_97 (by decide) ?_
    refine lv_icmp_eq (tgt := 118) hx hb dX6_init_98 (by decide) (fun c3 => ?_) (fun c3 => ?_)
    · replace h := it_p c3 h
      exact hJ118 _ _ _ _ h hI hL (lv_sub hl [0, 2, 3, 4] rfl)
    · replace h := it_n c3 h
      refine lv_iload hx hb dX6_init_101 (lv_at hl 5 rfl) ?_
      refine lv_if_eq (tgt := 122) hx hb dX6_init_103 (by decide) (fun c4 => ?_) (fun c4 => ?_)
      · replace h := it_p c4 h
        exact hJ122 _ _ _ _ h hI hL (lv_sub hl [0, 2, 3, 4] rfl)
      · replace h := it_n c4 h
        refine lv_iload_n hx hb dX6_init_106 rfl (lv_at hl 1 rfl) ?_
        refine lv_iconst (v := 4) hx hb dX6_init_107 (by decide) ?_
        refine lv_icmp_eq (tgt := 122) hx hb dX6_init_108 (by decide) (fun c5 => ?_) (fun c5 => ?_)
        · replace h := it_p c5 h
          exact hJ122 _ _ _ _ h hI hL (lv_sub hl [0, 2, 3, 4] rfl)
        · replace h := it_n c5 h
          refine hm_aload_n hx hb dX6_init_111 rfl (lv_at hl 2 rfl) ?_
          replace h := ob_s h
          obtain ⟨a6, rfl, h⟩ := h
          have hl : lv_has ls 7 [(0, .ref x0), (2, .int x2), (3, .ref a6), (4, .int x4), (5, .int x5), (6, .int v6)] := hl
          replace h := ob_s h
          obtain ⟨f7, h8, h⟩ := h
          refine hm_get S hK hI (pf_X6_25_8 hK) (gI_s h8) dX6_init_112 ?_
          refine lv_if_ne (tgt := 122) hx hb dX6_init_115 (by decide) (fun c9 => ?_) (fun c9 => ?_)
          · replace h := it_n c9 h
            exact hJ122 _ _ _ _ h hI hL (lv_sub hl [0, 2, 3, 4] rfl)
          · replace h := it_p c9 h
            exact hJ118 _ _ _ _ h hI hL (lv_sub hl [0, 2, 3, 4] rfl)
  have hJ73 : ∀ (w0 : Int32) (σ : hmS) (H : Heap) (locs : List Loc) (ls : Array Slot), fX6_init_J73 E x0 x1 x2 x3 x4 x5  w0 σ = some (r, σ') → hmI E σ H → hmLo E locs → lv_has ls 7 [(0, .ref x0), (2, .int x2), (3, va_rf x3), (4, .int x4), (5, .int x5)] → W p l e R s m ([.ref x0, .int x1, .int x2, va_rf x3, .int x4, .int x5] : List Value).toArray below meth c H locs 8 32 (MQ below (hmQc E none σ') ([.ref x0, .int x1, .int x2, va_rf x3, .int x4, .int x5] : List Value).toArray s 16 808 (fun q => hmL E ≤ q)) (F0 m 73 ls [.int w0]) := by
    intro w0 σ H locs ls h hI hL hl
    unfold fX6_init_J73 at h
    refine lv_istore (lv' := [(6, .int w0), (0, .ref x0), (2, .int x2), (3, va_rf x3), (4, .int x4), (5, .int x5)]) hx hb dX6_init_73 hl (by decide) rfl (fun ls hl => ?_)
    refine lv_aload_n hx hb dX6_init_75 rfl (lv_at hl 1 rfl) ?_
    refine lv_iload hx hb dX6_init_76 (lv_at hl 0 rfl) ?_
    refine lv_if_eq (tgt := 91) hx hb dX6_init_78 (by decide) (fun c1 => ?_) (fun c1 => ?_)
    · replace h := it_p c1 h
      refine lv_iconst (v := 0) hx hb dX6_init_91 (by decide) ?_
      exact hJ92 _ _ _ _ _ _ h hI hL (lv_sub hl [1, 2, 3, 4, 5, 0] rfl)
    · replace h := it_n c1 h
      refine hm_aload_n hx hb dX6_init_81 rfl (lv_at hl 3 rfl) ?_
      replace h := ob_s h
      obtain ⟨a2, rfl, h⟩ := h
      have hl : lv_has ls 7 [(6, .int w0), (0, .ref x0), (2, .int x2), (3, .ref a2), (4, .int x4), (5, .int x5)] := hl
      replace h := ob_s h
      obtain ⟨f3, h4, h⟩ := h
      refine hm_get S hK hI (pf_X6_21_8 hK) (gR_s h4) dX6_init_82 ?_
      replace h := ob_s h
      obtain ⟨a5, rfl, h⟩ := h
      have hl : lv_has ls 7 [(6, .int w0), (0, .ref x0), (2, .int x2), (3, .ref a2), (4, .int x4), (5, .int x5)] := hl
      replace h := ob_s h
      obtain ⟨f6, h7, h⟩ := h
      refine hm_get S hK hI (pf_X6_50_6 hK) (gI_s h7) dX6_init_85 ?_
      refine lv_goto (tgt := 92) hx hb dX6_init_88 (by decide) ?_
      exact hJ92 _ _ _ _ _ _ h hI hL (lv_sub hl [1, 2, 3, 4, 5, 0] rfl)
  have hJ72 : ∀  (σ : hmS) (H : Heap) (locs : List Loc) (ls : Array Slot), fX6_init_J72 E x0 x1 x2 x3 x4 x5   σ = some (r, σ') → hmI E σ H → hmLo E locs → lv_has ls 7 [(0, .ref x0), (2, .int x2), (3, va_rf x3), (4, .int x4), (5, .int x5)] → W p l e R s m ([.ref x0, .int x1, .int x2, va_rf x3, .int x4, .int x5] : List Value).toArray below meth c H locs 8 32 (MQ below (hmQc E none σ') ([.ref x0, .int x1, .int x2, va_rf x3, .int x4, .int x5] : List Value).toArray s 16 808 (fun q => hmL E ≤ q)) (F0 m 72 ls []) := by
    intro  σ H locs ls h hI hL hl
    unfold fX6_init_J72 at h
    refine lv_iconst (v := 0) hx hb dX6_init_72 (by decide) ?_
    exact hJ73 _ _ _ _ _ h hI hL (lv_sub hl [0, 1, 2, 3, 4] rfl)
  have h := hmain
  clear hmain
  unfold fX6_init at h
  refine lv_aload_n hx hb dX6_init_0 rfl (lv_at hl 0 rfl) ?_
  refine hm_objInit (i1 := 113) (i2 := 27) (i3 := 28) S hK (by decide +kernel) (by decide +kernel) (by decide +kernel) hl.1 dX6_init_1 (by omega) (Nat.le_of_ble_eq_true rfl) (by omega) ?_
  refine lv_aload_n hx hb dX6_init_4 rfl (lv_at hl 0 rfl) ?_
  replace h := nw_s h
  obtain ⟨q1, σ2, h3, h4, h⟩ := h
  refine hm_new S hK hI (pn_X6_9 hK) h3 h4 (by omega) (by omega) dX6_init_5 (fun H hI => ?_)
  refine lv_dup hx hb dX6_init_8 rfl ?_
  replace h := cb_s h
  obtain ⟨u0, σ6, h5, h⟩ := h
  refine hm_callv (hm_runIN (As := []) (rest := [.ref q1, .ref x0]) S hK hI (mX1_init l E h5) (pm_X6_11 hK) rfl (pi_X1_init hK) ⟨by omega, by omega⟩ rfl hl.1 (Nat.le_of_ble_eq_true rfl) ⟨by omega, by omega⟩ dX6_init_9) hL (fun H locs hI hL => ?_)
  replace h := ob_s h
  obtain ⟨σ7, h8, h⟩ := h
  refine hm_putF S hK hI hL hin (pf_X6_12_8 hK) h8 ⟨rfl, rfl⟩ dX6_init_12 (fun H locs hI hL => ?_)
  refine lv_aload_n hx hb dX6_init_15 rfl (lv_at hl 0 rfl) ?_
  replace h := nw_s h
  obtain ⟨q9, σ10, h11, h12, h⟩ := h
  refine hm_new S hK hI (pn_X6_18 hK) h11 h12 (by omega) (by omega) dX6_init_16 (fun H hI => ?_)
  refine lv_dup hx hb dX6_init_19 rfl ?_
  replace h := cb_s h
  obtain ⟨u0, σ14, h13, h⟩ := h
  refine hm_callv (hm_runIN (As := []) (rest := [.ref q9, .ref x0]) S hK hI (mX4_init l E h13) (pm_X6_20 hK) rfl (pi_X4_init hK) ⟨by omega, by omega⟩ rfl hl.1 (Nat.le_of_ble_eq_true rfl) ⟨by omega, by omega⟩ dX6_init_20) hL (fun H locs hI hL => ?_)
  replace h := ob_s h
  obtain ⟨σ15, h16, h⟩ := h
  refine hm_putF S hK hI hL hin (pf_X6_21_8 hK) h16 ⟨rfl, rfl⟩ dX6_init_23 (fun H locs hI hL => ?_)
  refine lv_aload_n hx hb dX6_init_26 rfl (lv_at hl 0 rfl) ?_
  refine lv_iconst (v := 0) hx hb dX6_init_27 (by decide) ?_
  replace h := ob_s h
  obtain ⟨σ17, h18, h⟩ := h
  refine hm_put S hK hI hL (pf_X6_25_8 hK) h18 ⟨rfl, rfl⟩ dX6_init_28 (fun H locs hI hL => ?_)
  refine lv_aload_n hx hb dX6_init_31 rfl (lv_at hl 0 rfl) ?_
  refine hm_null hx hb dX6_init_32 ?_
  replace h := ob_s h
  obtain ⟨σ19, h20, h⟩ := h
  refine hm_put S hK hI hL (pf_X6_29_8 hK) h20 ⟨rfl, rfl⟩ dX6_init_33 (fun H locs hI hL => ?_)
  refine lv_aload_n hx hb dX6_init_36 rfl (lv_at hl 0 rfl) ?_
  refine lv_iload_n hx hb dX6_init_37 rfl (lv_at hl 1 rfl) ?_
  replace h := ob_s h
  obtain ⟨σ21, h22, h⟩ := h
  refine hm_putF S hK hI hL hin (pf_X6_33_8 hK) h22 ⟨rfl, rfl⟩ dX6_init_38 (fun H locs hI hL => ?_)
  refine lv_aload_n hx hb dX6_init_41 rfl (lv_at hl 0 rfl) ?_
  refine lv_iload_n hx hb dX6_init_42 rfl (lv_at hl 2 rfl) ?_
  replace h := ob_s h
  obtain ⟨σ23, h24, h⟩ := h
  refine hm_putF S hK hI hL hin (pf_X6_37_8 hK) h24 ⟨rfl, rfl⟩ dX6_init_43 (fun H locs hI hL => ?_)
  refine lv_aload_n hx hb dX6_init_46 rfl (lv_at hl 0 rfl) ?_
  refine hm_aload_n hx hb dX6_init_47 rfl (lv_at hl 3 rfl) ?_
  replace h := ob_s h
  obtain ⟨σ25, h26, h⟩ := h
  refine hm_putF S hK hI hL hin (pf_X6_40_8 hK) h26 rf_fit dX6_init_48 (fun H locs hI hL => ?_)
  refine lv_aload_n hx hb dX6_init_51 rfl (lv_at hl 0 rfl) ?_
  refine lv_iload hx hb dX6_init_52 (lv_at hl 4 rfl) ?_
  replace h := ob_s h
  obtain ⟨σ27, h28, h⟩ := h
  refine hm_putF S hK hI hL hin (pf_X6_43_8 hK) h28 ⟨rfl, rfl⟩ dX6_init_54 (fun H locs hI hL => ?_)
  refine hm_aload_n hx hb dX6_init_57 rfl (lv_at hl 3 rfl) ?_
  cases x3 with
  | none =>
    replace h := oc_n h
    have hl : lv_has ls 7 [(0, .ref x0), (1, .int x1), (2, .int x2), (3, va_rf none), (4, .int x4), (5, .int x5)] := hl
    refine lv_ifnullN (tgt := 72) hx hb dX6_init_58 (by decide) ?_
    exact hJ72 _ _ _ _ h hI hL (lv_sub hl [0, 2, 3, 4, 5] rfl)
  | some a29 =>
    replace h := oc_s h
    have hl : lv_has ls 7 [(0, .ref x0), (1, .int x1), (2, .int x2), (3, .ref a29), (4, .int x4), (5, .int x5)] := hl
    refine lv_ifnull hx hb dX6_init_58 ?_
    refine lv_iload_n hx hb dX6_init_61 rfl (lv_at hl 2 rfl) ?_
    replace h := cb_s h
    obtain ⟨r32, σ31, h30, h⟩ := h
    refine hm_call (hm_runSN (As := [.int x2]) (rest := []) S hK hI (mX7_standsInMethod l E h30) (pm_X6_46 hK) (ps_X7_standsInMethod hK) ⟨by omega, by omega⟩ rfl hl.1 (Nat.le_of_ble_eq_true rfl) ⟨by omega, by omega⟩ dX6_init_62) hL (fun H locs hI hL => ?_)
    refine lv_if_eq (tgt := 72) hx hb dX6_init_65 (by decide) (fun c33 => ?_) (fun c33 => ?_)
    · replace h := it_p c33 h
      exact hJ72 _ _ _ _ h hI hL (lv_sub hl [0, 2, 3, 4, 5] rfl)
    · replace h := it_n c33 h
      refine lv_iconst (v := 1) hx hb dX6_init_68 (by decide) ?_
      refine lv_goto (tgt := 73) hx hb dX6_init_69 (by decide) ?_
      exact hJ73 _ _ _ _ _ h hI hL (lv_sub hl [0, 2, 3, 4, 5] rfl)

def fX7_type_J76 (E : hmG) (x0 : Nat) (x1 : Int32) (x2 : Int32) (x3 : Int32)  (v4 : Option Nat) (w0 : Int32) (σ : hmS) : Option (Int32 × hmS) :=
  ob (obC σ x0 9) fun _ => cb (fX7_isLetterTaken x0 x1 v4 w0 σ) fun r4 σ3 => if r4 = 0 then
    ob (obC σ3 x0 9) fun _ => cb (fX7_twinNumber x0 x1 v4 w0 σ3) fun r9 σ8 => ob (gR σ8 x0 9 0) fun f10 => ob (gI σ8 x0 9 1) fun f12 => nw σ8 (.inr (8, [.int 0, .int 0, .null, .int 0, .int 0, .int 0, .null, .null, .null, .int 0, .null])) fun q14 σ15 => ob (gI σ15 x0 9 1) fun f18 => cb (fX6_init E q14 f18 x1 v4 w0 r9 σ15) fun _ σ21 => ob f10 fun a22 => ob (sR σ21 a22 f12 (some q14)) fun σ23 => ob (gI σ23 x0 9 1) fun f25 => ob (wF σ23 x0 9 1 (.int (f25 + (1 : Int32)))) fun σ27 => ob (gI σ27 x0 9 1) fun f29 => some ((f29 - (1 : Int32)), σ27)
  else
    some ((-4 : Int32), σ3)
def fX7_type_J54 (E : hmG) (x0 : Nat) (x1 : Int32) (x2 : Int32) (x3 : Int32)  (v4 : Option Nat) (σ : hmS) : Option (Int32 × hmS) :=
  ob (gI σ x0 9 1) fun f1 => if f1 < (12 : Int32) then
    if x1 = (5 : Int32) then
      fX7_type_J76 E x0 x1 x2 x3 v4 (-1 : Int32) σ
    else
      fX7_type_J76 E x0 x1 x2 x3 v4 x3 σ
  else
    some ((-2 : Int32), σ)
def fX7_type_J41 (E : hmG) (x0 : Nat) (x1 : Int32) (x2 : Int32) (x3 : Int32)  (w0 : Option Nat) (σ : hmS) : Option (Int32 × hmS) :=
  if x1 = 0 then
    fX7_type_J54 E x0 x1 x2 x3 w0 σ
  else
    oc w0
      (some ((-1 : Int32), σ))
      (fun a2 => fX7_type_J54 E x0 x1 x2 x3 (some a2) σ)
def fX7_type_J28 (E : hmG) (x0 : Nat) (x1 : Int32) (x2 : Int32) (x3 : Int32)   (σ : hmS) : Option (Int32 × hmS) :=
  if x1 = 0 then
    fX7_type_J41 E x0 x1 x2 x3 none σ
  else
    ob (obC σ x0 9) fun _ => cb (fX7_typeAt x0 x2 σ) fun r5 σ4 => fX7_type_J41 E x0 x1 x2 x3 r5 σ4
def fX7_type (E : hmG) (x0 : Nat) (x1 : Int32) (x2 : Int32) (x3 : Int32) (σ : hmS) : Option (Int32 × hmS) :=
  if x1 < 0 then
    some ((-1 : Int32), σ)
  else
    if x1 ≤ (5 : Int32) then
      if x1 = (5 : Int32) then
        fX7_type_J28 E x0 x1 x2 x3 σ
      else
        if x3 < 0 then
          some ((-1 : Int32), σ)
        else
          if x3 < (26 : Int32) then
            fX7_type_J28 E x0 x1 x2 x3 σ
          else
            some ((-1 : Int32), σ)
    else
      some ((-1 : Int32), σ)
set_option maxHeartbeats 4000000 in
set_option maxRecDepth 100000 in
theorem mX7_type (l : Launch) (E : hmG) {x0 : Nat} {x1 : Int32} {x2 : Int32} {x3 : Int32} {σ σ' : hmS} {r : Int32} (h : fX7_type E x0 x1 x2 x3 σ = some (r, σ')) : Met l yX7_type [Cond.code yX7_type cX7_type 7 (some .int)] { frames := 8, cells := 17, slots := 819, locals := 200 } (hmPc E [.ref x0, .int x1, .int x2, .int x3] σ) (hmQc E (some (.int r)) σ') 17 819 (fun q => hmL E ≤ q) := by
  refine Met.ofW (cc := cX7_type) (maxL := 7) (ret := (some .int)) (by decide) rfl ?_
  intro p e s m args below meth c s₁ B hml hv
  obtain ⟨rfl, hK, hI⟩ := hv
  have S : CallFix p m c cX7_type 7 s ([.ref x0, .int x1, .int x2, .int x3] : List Value).toArray [] RX7 := ⟨B.exec, B.bytes, hml, findClass_of_methodNamed B.named, fun w hw => by cases hw⟩
  have hx := S.1
  have hb := S.2.1
  have hr := B.returns
  have hlocks := B.notSynchronized
  have hL : hmLo E [] := hmLo.nil
  have hl : lv_has ((lg_sl ([.ref x0, .int x1, .int x2, .int x3]) ++ List.replicate (7 - (lg_sl ([.ref x0, .int x1, .int x2, .int x3])).length) Slot.unset).toArray) 7 [(0, .ref x0), (1, .int x1), (2, .int x2), (3, .int x3)] := by exact lv_entry _ (Nat.le_of_ble_eq_true rfl)
  rw [lg_entry_eq]
  generalize (lg_sl ([.ref x0, .int x1, .int x2, .int x3]) ++ List.replicate (7 - (lg_sl ([.ref x0, .int x1, .int x2, .int x3])).length) Slot.unset).toArray = ls at hl ⊢
  generalize hRe : (headSpec [Cond.code yX7_type cX7_type 7 (some .int)] { frames := 8, cells := 17, slots := 819, locals := 200 }).room = R
  have hR1 : R.frames = 8 ∧ R.cells = 17 ∧ R.slots = 819 ∧ R.locals = 200 := by rw [← hRe]; exact ⟨rfl, rfl, rfl, rfl⟩
  clear hRe B hml
  generalize s.heap = H at hI ⊢
  generalize ([] : List Loc) = locs at hL ⊢
  have hmain := h
  clear h
  have hJ76 : ∀ (v4 : Option Nat) (w0 : Int32) (σ : hmS) (H : Heap) (locs : List Loc) (ls : Array Slot), fX7_type_J76 E x0 x1 x2 x3  v4 w0 σ = some (r, σ') → hmI E σ H → hmLo E locs → lv_has ls 7 [(0, .ref x0), (1, .int x1), (4, va_rf v4)] → W p l e R s m ([.ref x0, .int x1, .int x2, .int x3] : List Value).toArray below meth c H locs 0 0 (MQ below (hmQc E (some (.int r)) σ') ([.ref x0, .int x1, .int x2, .int x3] : List Value).toArray s 17 819 (fun q => hmL E ≤ q)) (F0 m 76 ls [.int w0]) := by
    intro v4 w0 σ H locs ls h hI hL hl
    unfold fX7_type_J76 at h
    refine lv_istore (lv' := [(5, .int w0), (0, .ref x0), (1, .int x1), (4, va_rf v4)]) hx hb dX7_type_76 hl (by decide) (by cases v4 <;> rfl) (fun ls hl => ?_)
    refine lv_aload_n hx hb dX7_type_78 rfl (lv_at hl 1 rfl) ?_
    refine lv_iload_n hx hb dX7_type_79 rfl (lv_at hl 2 rfl) ?_
    refine hm_aload hx hb dX7_type_80 (lv_at hl 3 rfl) ?_
    refine lv_iload hx hb dX7_type_82 (lv_at hl 0 rfl) ?_
    replace h := ob_s h
    obtain ⟨_, h2, h⟩ := h
    replace h := cb_s h
    obtain ⟨r4, σ3, h1, h⟩ := h
    refine hm_call (hm_runV (As := [.int x1, va_rf v4, .int w0]) (rest := []) (ci := 9) S hK hI (obC_s h2) rfl (mX7_isLetterTaken l E h1) (pm_X7_51 hK) (pi_X7_isLetterTaken hK) (pl_X7_X7_isLetterTaken hK) ⟨by omega, by omega⟩ rfl hl.1 (Nat.le_of_ble_eq_true rfl) ⟨by omega, by omega⟩ dX7_type_84) hL (fun H locs hI hL => ?_)
    refine lv_if_eq (tgt := 93) hx hb dX7_type_87 (by decide) (fun c5 => ?_) (fun c5 => ?_)
    · replace h := it_p c5 h
      refine lv_aload_n hx hb dX7_type_93 rfl (lv_at hl 1 rfl) ?_
      refine lv_iload_n hx hb dX7_type_94 rfl (lv_at hl 2 rfl) ?_
      refine hm_aload hx hb dX7_type_95 (lv_at hl 3 rfl) ?_
      refine lv_iload hx hb dX7_type_97 (lv_at hl 0 rfl) ?_
      replace h := ob_s h
      obtain ⟨_, h7, h⟩ := h
      replace h := cb_s h
      obtain ⟨r9, σ8, h6, h⟩ := h
      refine hm_call (hm_runV (As := [.int x1, va_rf v4, .int w0]) (rest := []) (ci := 9) S hK hI (obC_s h7) rfl (mX7_twinNumber l E h6) (pm_X7_55 hK) (pi_X7_twinNumber hK) (pl_X7_X7_twinNumber hK) ⟨by omega, by omega⟩ rfl hl.1 (Nat.le_of_ble_eq_true rfl) ⟨by omega, by omega⟩ dX7_type_99) hL (fun H locs hI hL => ?_)
      refine lv_istore (lv' := [(6, .int r9), (5, .int w0), (0, .ref x0), (1, .int x1), (4, va_rf v4)]) hx hb dX7_type_102 hl (by decide) rfl (fun ls hl => ?_)
      refine lv_aload_n hx hb dX7_type_104 rfl (lv_at hl 2 rfl) ?_
      replace h := ob_s h
      obtain ⟨f10, h11, h⟩ := h
      refine hm_get S hK hI (pf_X7_11_9 hK) (gR_s h11) dX7_type_105 ?_
      refine lv_aload_n hx hb dX7_type_108 rfl (lv_at hl 2 rfl) ?_
      replace h := ob_s h
      obtain ⟨f12, h13, h⟩ := h
      refine hm_get S hK hI (pf_X7_15_9 hK) (gI_s h13) dX7_type_109 ?_
      replace h := nw_s h
      obtain ⟨q14, σ15, h16, h17, h⟩ := h
      refine hm_new S hK hI (pn_X7_9 hK) h16 h17 (by omega) (by omega) dX7_type_112 (fun H hI => ?_)
      refine lv_dup hx hb dX7_type_115 rfl ?_
      refine lv_aload_n hx hb dX7_type_116 rfl (lv_at hl 2 rfl) ?_
      replace h := ob_s h
      obtain ⟨f18, h19, h⟩ := h
      refine hm_get S hK hI (pf_X7_15_9 hK) (gI_s h19) dX7_type_117 ?_
      refine lv_iload_n hx hb dX7_type_120 rfl (lv_at hl 3 rfl) ?_
      refine hm_aload hx hb dX7_type_121 (lv_at hl 4 rfl) ?_
      refine lv_iload hx hb dX7_type_123 (lv_at hl 1 rfl) ?_
      refine lv_iload hx hb dX7_type_125 (lv_at hl 0 rfl) ?_
      replace h := cb_s h
      obtain ⟨u0, σ21, h20, h⟩ := h
      refine hm_callv (hm_runI (As := [.int f18, .int x1, va_rf v4, .int w0, .int r9]) (rest := [.ref q14, .int f12, va_rf f10]) S hK hI (mX6_init l E h20) (pm_X7_59 hK) rfl (pi_X6_init hK) ⟨by omega, by omega⟩ rfl hl.1 (by cases f10 <;> exact Nat.le_of_ble_eq_true rfl) ⟨by omega, by omega⟩ dX7_type_127) hL (fun H locs hI hL => ?_)
      replace h := ob_s h
      obtain ⟨a22, rfl, h⟩ := h
      have hl : lv_has ls 7 [(6, .int r9), (5, .int w0), (0, .ref x0), (1, .int x1), (4, va_rf v4)] := hl
      replace h := ob_s h
      obtain ⟨σ23, h24, h⟩ := h
      refine hm_aast (r := (some q14)) S hK hI hL h24 dX7_type_130 (fun H locs hI hL => ?_)
      refine lv_aload_n hx hb dX7_type_131 rfl (lv_at hl 2 rfl) ?_
      refine lv_dup hx hb dX7_type_132 rfl ?_
      replace h := ob_s h
      obtain ⟨f25, h26, h⟩ := h
      refine hm_get S hK hI (pf_X7_15_9 hK) (gI_s h26) dX7_type_133 ?_
      refine lv_iconst (v := 1) hx hb dX7_type_136 (by decide) ?_
      refine lv_iadd hx hb dX7_type_137 ?_
      replace h := ob_s h
      obtain ⟨σ27, h28, h⟩ := h
      refine hm_put S hK hI hL (pf_X7_15_9 hK) h28 ⟨rfl, rfl⟩ dX7_type_138 (fun H locs hI hL => ?_)
      refine lv_aload_n hx hb dX7_type_141 rfl (lv_at hl 2 rfl) ?_
      replace h := ob_s h
      obtain ⟨f29, h30, h⟩ := h
      refine hm_get S hK hI (pf_X7_15_9 hK) (gI_s h30) dX7_type_142 ?_
      refine lv_iconst (v := 1) hx hb dX7_type_145 (by decide) ?_
      refine lv_isub hx hb dX7_type_146 ?_
      exact hm_iret hx hb hr hI hL h (by omega) (by omega) hlocks dX7_type_147
    · replace h := it_n c5 h
      refine lv_bipush (v := -4) hx hb dX7_type_90 (by decide) ?_
      exact hm_iret hx hb hr hI hL h (by omega) (by omega) hlocks dX7_type_92
  have hJ54 : ∀ (v4 : Option Nat) (σ : hmS) (H : Heap) (locs : List Loc) (ls : Array Slot), fX7_type_J54 E x0 x1 x2 x3  v4 σ = some (r, σ') → hmI E σ H → hmLo E locs → lv_has ls 7 [(0, .ref x0), (1, .int x1), (3, .int x3), (4, va_rf v4)] → W p l e R s m ([.ref x0, .int x1, .int x2, .int x3] : List Value).toArray below meth c H locs 0 0 (MQ below (hmQc E (some (.int r)) σ') ([.ref x0, .int x1, .int x2, .int x3] : List Value).toArray s 17 819 (fun q => hmL E ≤ q)) (F0 m 54 ls []) := by
    intro v4 σ H locs ls h hI hL hl
    unfold fX7_type_J54 at h
    refine lv_aload_n hx hb dX7_type_54 rfl (lv_at hl 0 rfl) ?_
    replace h := ob_s h
    obtain ⟨f1, h2, h⟩ := h
    refine hm_get S hK hI (pf_X7_15_9 hK) (gI_s h2) dX7_type_55 ?_
    refine lv_bipush (v := 12) hx hb dX7_type_58 (by decide) ?_
    refine lv_icmp_lt (tgt := 66) hx hb dX7_type_60 (by decide) (fun c3 => ?_) (fun c3 => ?_)
    · replace h := it_p c3 h
      refine lv_iload_n hx hb dX7_type_66 rfl (lv_at hl 1 rfl) ?_
      refine lv_iconst (v := 5) hx hb dX7_type_67 (by decide) ?_
      refine lv_icmp_ne (tgt := 75) hx hb dX7_type_68 (by decide) (fun c4 => ?_) (fun c4 => ?_)
      · replace h := it_n c4 h
        refine lv_iload_n hx hb dX7_type_75 rfl (lv_at hl 2 rfl) ?_
        exact hJ76 _ _ _ _ _ _ h hI hL (lv_sub hl [0, 1, 3] rfl)
      · replace h := it_p c4 h
        refine lv_iconst (v := -1) hx hb dX7_type_71 (by decide) ?_
        refine lv_goto (tgt := 76) hx hb dX7_type_72 (by decide) ?_
        exact hJ76 _ _ _ _ _ _ h hI hL (lv_sub hl [0, 1, 3] rfl)
    · replace h := it_n c3 h
      refine lv_bipush (v := -2) hx hb dX7_type_63 (by decide) ?_
      exact hm_iret hx hb hr hI hL h (by omega) (by omega) hlocks dX7_type_65
  have hJ41 : ∀ (w0 : Option Nat) (σ : hmS) (H : Heap) (locs : List Loc) (ls : Array Slot), fX7_type_J41 E x0 x1 x2 x3  w0 σ = some (r, σ') → hmI E σ H → hmLo E locs → lv_has ls 7 [(0, .ref x0), (1, .int x1), (3, .int x3)] → W p l e R s m ([.ref x0, .int x1, .int x2, .int x3] : List Value).toArray below meth c H locs 0 0 (MQ below (hmQc E (some (.int r)) σ') ([.ref x0, .int x1, .int x2, .int x3] : List Value).toArray s 17 819 (fun q => hmL E ≤ q)) (F0 m 41 ls [va_rf w0]) := by
    intro w0 σ H locs ls h hI hL hl
    unfold fX7_type_J41 at h
    refine hm_astore (lv' := [(4, va_rf w0), (0, .ref x0), (1, .int x1), (3, .int x3)]) hx hb dX7_type_41 hl (by decide) rfl (fun ls hl => ?_)
    refine lv_iload_n hx hb dX7_type_43 rfl (lv_at hl 2 rfl) ?_
    refine lv_if_eq (tgt := 54) hx hb dX7_type_44 (by decide) (fun c1 => ?_) (fun c1 => ?_)
    · replace h := it_p c1 h
      exact hJ54 _ _ _ _ _ h hI hL (lv_sub hl [1, 2, 3, 0] rfl)
    · replace h := it_n c1 h
      refine hm_aload hx hb dX7_type_47 (lv_at hl 0 rfl) ?_
      cases w0 with
      | none =>
        replace h := oc_n h
        have hl : lv_has ls 7 [(4, va_rf none), (0, .ref x0), (1, .int x1), (3, .int x3)] := hl
        refine lv_ifnonnullN hx hb dX7_type_49 ?_
        refine lv_iconst (v := -1) hx hb dX7_type_52 (by decide) ?_
        exact hm_iret hx hb hr hI hL h (by omega) (by omega) hlocks dX7_type_53
      | some a2 =>
        replace h := oc_s h
        have hl : lv_has ls 7 [(4, .ref a2), (0, .ref x0), (1, .int x1), (3, .int x3)] := hl
        refine lv_ifnonnull (tgt := 54) hx hb dX7_type_49 (by decide) ?_
        exact hJ54 _ _ _ _ _ h hI hL (lv_sub hl [1, 2, 3, 0] rfl)
  have hJ28 : ∀  (σ : hmS) (H : Heap) (locs : List Loc) (ls : Array Slot), fX7_type_J28 E x0 x1 x2 x3   σ = some (r, σ') → hmI E σ H → hmLo E locs → lv_has ls 7 [(0, .ref x0), (1, .int x1), (2, .int x2), (3, .int x3)] → W p l e R s m ([.ref x0, .int x1, .int x2, .int x3] : List Value).toArray below meth c H locs 0 0 (MQ below (hmQc E (some (.int r)) σ') ([.ref x0, .int x1, .int x2, .int x3] : List Value).toArray s 17 819 (fun q => hmL E ≤ q)) (F0 m 28 ls []) := by
    intro  σ H locs ls h hI hL hl
    unfold fX7_type_J28 at h
    refine lv_iload_n hx hb dX7_type_28 rfl (lv_at hl 1 rfl) ?_
    refine lv_if_ne (tgt := 36) hx hb dX7_type_29 (by decide) (fun c1 => ?_) (fun c1 => ?_)
    · replace h := it_n c1 h
      refine lv_aload_n hx hb dX7_type_36 rfl (lv_at hl 0 rfl) ?_
      refine lv_iload_n hx hb dX7_type_37 rfl (lv_at hl 2 rfl) ?_
      replace h := ob_s h
      obtain ⟨_, h3, h⟩ := h
      replace h := cb_s h
      obtain ⟨r5, σ4, h2, h⟩ := h
      refine hm_call (hm_runV (As := [.int x2]) (rest := []) (ci := 9) S hK hI (obC_s h3) rfl (mX7_typeAt l E h2) (pm_X7_47 hK) (pi_X7_typeAt hK) (pl_X7_X7_typeAt hK) ⟨by omega, by omega⟩ rfl hl.1 (Nat.le_of_ble_eq_true rfl) ⟨by omega, by omega⟩ dX7_type_38) hL (fun H locs hI hL => ?_)
      exact hJ41 _ _ _ _ _ h hI hL (lv_sub hl [0, 1, 3] rfl)
    · replace h := it_p c1 h
      refine hm_null hx hb dX7_type_32 ?_
      refine lv_goto (tgt := 41) hx hb dX7_type_33 (by decide) ?_
      exact hJ41 _ _ _ _ _ h hI hL (lv_sub hl [0, 1, 3] rfl)
  have h := hmain
  clear hmain
  unfold fX7_type at h
  refine lv_iload_n hx hb dX7_type_0 rfl (lv_at hl 1 rfl) ?_
  refine lv_if_lt (tgt := 9) hx hb dX7_type_1 (by decide) (fun c1 => ?_) (fun c1 => ?_)
  · replace h := it_p c1 h
    refine lv_iconst (v := -1) hx hb dX7_type_9 (by decide) ?_
    exact hm_iret hx hb hr hI hL h (by omega) (by omega) hlocks dX7_type_10
  · replace h := it_n c1 h
    refine lv_iload_n hx hb dX7_type_4 rfl (lv_at hl 1 rfl) ?_
    refine lv_iconst (v := 5) hx hb dX7_type_5 (by decide) ?_
    refine lv_icmp_le (tgt := 11) hx hb dX7_type_6 (by decide) (fun c2 => ?_) (fun c2 => ?_)
    · replace h := it_p c2 h
      refine lv_iload_n hx hb dX7_type_11 rfl (lv_at hl 1 rfl) ?_
      refine lv_iconst (v := 5) hx hb dX7_type_12 (by decide) ?_
      refine lv_icmp_eq (tgt := 28) hx hb dX7_type_13 (by decide) (fun c3 => ?_) (fun c3 => ?_)
      · replace h := it_p c3 h
        exact hJ28 _ _ _ _ h hI hL (lv_sub hl [0, 1, 2, 3] rfl)
      · replace h := it_n c3 h
        refine lv_iload_n hx hb dX7_type_16 rfl (lv_at hl 3 rfl) ?_
        refine lv_if_lt (tgt := 26) hx hb dX7_type_17 (by decide) (fun c4 => ?_) (fun c4 => ?_)
        · replace h := it_p c4 h
          refine lv_iconst (v := -1) hx hb dX7_type_26 (by decide) ?_
          exact hm_iret hx hb hr hI hL h (by omega) (by omega) hlocks dX7_type_27
        · replace h := it_n c4 h
          refine lv_iload_n hx hb dX7_type_20 rfl (lv_at hl 3 rfl) ?_
          refine lv_bipush (v := 26) hx hb dX7_type_21 (by decide) ?_
          refine lv_icmp_lt (tgt := 28) hx hb dX7_type_23 (by decide) (fun c5 => ?_) (fun c5 => ?_)
          · replace h := it_p c5 h
            exact hJ28 _ _ _ _ h hI hL (lv_sub hl [0, 1, 2, 3] rfl)
          · replace h := it_n c5 h
            refine lv_iconst (v := -1) hx hb dX7_type_26 (by decide) ?_
            exact hm_iret hx hb hr hI hL h (by omega) (by omega) hlocks dX7_type_27
    · replace h := it_n c2 h
      refine lv_iconst (v := -1) hx hb dX7_type_9 (by decide) ?_
      exact hm_iret hx hb hr hI hL h (by omega) (by omega) hlocks dX7_type_10

def fX1_add (x0 : Nat) (x1 : Int32) (x2 : Int64) (x3 : Int32) (σ : hmS) : Option (Unit × hmS) :=
  ob (gI σ x0 3 3) fun f1 => if f1 < (4 : Int32) then
    ob (gR σ x0 3 0) fun f4 => ob (gI σ x0 3 3) fun f6 => ob f4 fun a8 => ob (sI σ 0 a8 f6 x1) fun σ9 => ob (gR σ9 x0 3 1) fun f11 => ob (gI σ9 x0 3 3) fun f13 => ob f11 fun a15 => ob (sL σ9 a15 f13 x2) fun σ16 => ob (gR σ16 x0 3 2) fun f18 => ob (gI σ16 x0 3 3) fun f20 => ob f18 fun a22 => ob (sI σ16 2 a22 f20 (vp_nar .boolean x3)) fun σ23 => ob (gI σ23 x0 3 3) fun f25 => ob (wF σ23 x0 3 3 (.int (f25 + (1 : Int32)))) fun σ27 => some ((), σ27)
  else
    some ((), σ)
set_option maxHeartbeats 4000000 in
set_option maxRecDepth 100000 in
theorem mX1_add (l : Launch) (E : hmG) {x0 : Nat} {x1 : Int32} {x2 : Int64} {x3 : Int32} {σ σ' : hmS} {r : Unit} (h : fX1_add x0 x1 x2 x3 σ = some (r, σ')) : Met l yX1_add [Cond.code yX1_add cX1_add 5 none] { frames := 0, cells := 0, slots := 0, locals := 0 } (hmPc E [.ref x0, .int x1, .long x2, .int x3] σ) (hmQc E none σ') 0 0 (fun q => hmL E ≤ q) := by
  refine Met.ofW (cc := cX1_add) (maxL := 5) (ret := none) (by decide) rfl ?_
  intro p e s m args below meth c s₁ B hml hv
  obtain ⟨rfl, hK, hI⟩ := hv
  have S : CallFix p m c cX1_add 5 s ([.ref x0, .int x1, .long x2, .int x3] : List Value).toArray [] RX1 := ⟨B.exec, B.bytes, hml, findClass_of_methodNamed B.named, fun w hw => by cases hw⟩
  have hx := S.1
  have hb := S.2.1
  have hr := B.returns
  have hlocks := B.notSynchronized
  have hL : hmLo E [] := hmLo.nil
  have hl : lv_has ((lg_sl ([.ref x0, .int x1, .long x2, .int x3]) ++ List.replicate (5 - (lg_sl ([.ref x0, .int x1, .long x2, .int x3])).length) Slot.unset).toArray) 5 [(0, .ref x0), (1, .int x1), (2, .long x2), (4, .int x3)] := by exact lv_entry _ (Nat.le_of_ble_eq_true rfl)
  rw [lg_entry_eq]
  generalize (lg_sl ([.ref x0, .int x1, .long x2, .int x3]) ++ List.replicate (5 - (lg_sl ([.ref x0, .int x1, .long x2, .int x3])).length) Slot.unset).toArray = ls at hl ⊢
  generalize hRe : (headSpec [Cond.code yX1_add cX1_add 5 none] { frames := 0, cells := 0, slots := 0, locals := 0 }).room = R
  have hR1 : R.frames = 0 ∧ R.cells = 0 ∧ R.slots = 0 ∧ R.locals = 0 := by rw [← hRe]; exact ⟨rfl, rfl, rfl, rfl⟩
  clear hRe B hml
  generalize s.heap = H at hI ⊢
  generalize ([] : List Loc) = locs at hL ⊢
  have hmain := h
  clear h
  have h := hmain
  clear hmain
  unfold fX1_add at h
  refine lv_aload_n hx hb dX1_add_0 rfl (lv_at hl 0 rfl) ?_
  replace h := ob_s h
  obtain ⟨f1, h2, h⟩ := h
  refine hm_get S hK hI (pf_X1_23_3 hK) (gI_s h2) dX1_add_1 ?_
  refine lv_iconst (v := 4) hx hb dX1_add_4 (by decide) ?_
  refine lv_icmp_lt (tgt := 9) hx hb dX1_add_5 (by decide) (fun c3 => ?_) (fun c3 => ?_)
  · replace h := it_p c3 h
    refine lv_aload_n hx hb dX1_add_9 rfl (lv_at hl 0 rfl) ?_
    replace h := ob_s h
    obtain ⟨f4, h5, h⟩ := h
    refine hm_get S hK hI (pf_X1_9_3 hK) (gR_s h5) dX1_add_10 ?_
    refine lv_aload_n hx hb dX1_add_13 rfl (lv_at hl 0 rfl) ?_
    replace h := ob_s h
    obtain ⟨f6, h7, h⟩ := h
    refine hm_get S hK hI (pf_X1_23_3 hK) (gI_s h7) dX1_add_14 ?_
    refine lv_iload_n hx hb dX1_add_17 rfl (lv_at hl 1 rfl) ?_
    replace h := ob_s h
    obtain ⟨a8, rfl, h⟩ := h
    have hl : lv_has ls 5 [(0, .ref x0), (1, .int x1), (2, .long x2), (4, .int x3)] := hl
    replace h := ob_s h
    obtain ⟨σ9, h10, h⟩ := h
    refine hm_iast S hK hI hL h10 dX1_add_18 (fun H locs hI hL => ?_)
    refine lv_aload_n hx hb dX1_add_19 rfl (lv_at hl 0 rfl) ?_
    replace h := ob_s h
    obtain ⟨f11, h12, h⟩ := h
    refine hm_get S hK hI (pf_X1_15_3 hK) (gR_s h12) dX1_add_20 ?_
    refine lv_aload_n hx hb dX1_add_23 rfl (lv_at hl 0 rfl) ?_
    replace h := ob_s h
    obtain ⟨f13, h14, h⟩ := h
    refine hm_get S hK hI (pf_X1_23_3 hK) (gI_s h14) dX1_add_24 ?_
    refine lv_lload_n hx hb dX1_add_27 rfl (lv_at hl 2 rfl) ?_
    replace h := ob_s h
    obtain ⟨a15, rfl, h⟩ := h
    have hl : lv_has ls 5 [(0, .ref x0), (1, .int x1), (2, .long x2), (4, .int x3)] := hl
    replace h := ob_s h
    obtain ⟨σ16, h17, h⟩ := h
    refine hm_last S hK hI hL h17 dX1_add_28 (fun H locs hI hL => ?_)
    refine lv_aload_n hx hb dX1_add_29 rfl (lv_at hl 0 rfl) ?_
    replace h := ob_s h
    obtain ⟨f18, h19, h⟩ := h
    refine hm_get S hK hI (pf_X1_19_3 hK) (gR_s h19) dX1_add_30 ?_
    refine lv_aload_n hx hb dX1_add_33 rfl (lv_at hl 0 rfl) ?_
    replace h := ob_s h
    obtain ⟨f20, h21, h⟩ := h
    refine hm_get S hK hI (pf_X1_23_3 hK) (gI_s h21) dX1_add_34 ?_
    refine lv_iload hx hb dX1_add_37 (lv_at hl 3 rfl) ?_
    replace h := ob_s h
    obtain ⟨a22, rfl, h⟩ := h
    have hl : lv_has ls 5 [(0, .ref x0), (1, .int x1), (2, .long x2), (4, .int x3)] := hl
    replace h := ob_s h
    obtain ⟨σ23, h24, h⟩ := h
    refine hm_zast S hK hI hL h24 dX1_add_39 (fun H locs hI hL => ?_)
    refine lv_aload_n hx hb dX1_add_40 rfl (lv_at hl 0 rfl) ?_
    refine lv_dup hx hb dX1_add_41 rfl ?_
    replace h := ob_s h
    obtain ⟨f25, h26, h⟩ := h
    refine hm_get S hK hI (pf_X1_23_3 hK) (gI_s h26) dX1_add_42 ?_
    refine lv_iconst (v := 1) hx hb dX1_add_45 (by decide) ?_
    refine lv_iadd hx hb dX1_add_46 ?_
    replace h := ob_s h
    obtain ⟨σ27, h28, h⟩ := h
    refine hm_put S hK hI hL (pf_X1_23_3 hK) h28 ⟨rfl, rfl⟩ dX1_add_47 (fun H locs hI hL => ?_)
    exact hm_vret hx hb hr hI hL h (by omega) (by omega) hlocks dX1_add_50
  · replace h := it_n c3 h
    exact hm_vret hx hb hr hI hL h (by omega) (by omega) hlocks dX1_add_8

def fX7_field (x0 : Nat) (x1 : Int32) (x2 : Int32) (x3 : Int64) (x4 : Int32) (σ : hmS) : Option (Int32 × hmS) :=
  ob (obC σ x0 9) fun _ => cb (fX7_typeAt x0 x1 σ) fun r4 σ3 => oc r4
    (some ((-1 : Int32), σ3))
    (fun a5 => cb (fX7_isName x2 σ3) fun r8 σ7 => if r8 = 0 then
      some ((-1 : Int32), σ7)
    else
      ob (gR σ7 a5 8 7) fun f10 => ob f10 fun a12 => ob (gI σ7 a12 3 3) fun f13 => if f13 < (4 : Int32) then
        ob (obC σ7 a12 3) fun _ => cb (fX1_indexOf a12 x2 σ7) fun r19 σ18 => if r19 = (-1 : Int32) then
          ob (obC σ18 a12 3) fun _ => cb (fX1_add a12 x2 x3 x4 σ18) fun _ σ23 => ob (gI σ23 a12 3 3) fun f24 => some (f24, σ23)
        else
          some ((-4 : Int32), σ18)
      else
        some ((-2 : Int32), σ7))
set_option maxHeartbeats 4000000 in
set_option maxRecDepth 100000 in
theorem mX7_field (l : Launch) (E : hmG) {x0 : Nat} {x1 : Int32} {x2 : Int32} {x3 : Int64} {x4 : Int32} {σ σ' : hmS} {r : Int32} (h : fX7_field x0 x1 x2 x3 x4 σ = some (r, σ')) : Met l yX7_field [Cond.code yX7_field cX7_field 8 (some .int)] { frames := 1, cells := 0, slots := 0, locals := 24 } (hmPc E [.ref x0, .int x1, .int x2, .long x3, .int x4] σ) (hmQc E (some (.int r)) σ') 0 0 (fun q => hmL E ≤ q) := by
  refine Met.ofW (cc := cX7_field) (maxL := 8) (ret := (some .int)) (by decide) rfl ?_
  intro p e s m args below meth c s₁ B hml hv
  obtain ⟨rfl, hK, hI⟩ := hv
  have S : CallFix p m c cX7_field 8 s ([.ref x0, .int x1, .int x2, .long x3, .int x4] : List Value).toArray [] RX7 := ⟨B.exec, B.bytes, hml, findClass_of_methodNamed B.named, fun w hw => by cases hw⟩
  have hx := S.1
  have hb := S.2.1
  have hr := B.returns
  have hlocks := B.notSynchronized
  have hL : hmLo E [] := hmLo.nil
  have hl : lv_has ((lg_sl ([.ref x0, .int x1, .int x2, .long x3, .int x4]) ++ List.replicate (8 - (lg_sl ([.ref x0, .int x1, .int x2, .long x3, .int x4])).length) Slot.unset).toArray) 8 [(0, .ref x0), (1, .int x1), (2, .int x2), (3, .long x3), (5, .int x4)] := by exact lv_entry _ (Nat.le_of_ble_eq_true rfl)
  rw [lg_entry_eq]
  generalize (lg_sl ([.ref x0, .int x1, .int x2, .long x3, .int x4]) ++ List.replicate (8 - (lg_sl ([.ref x0, .int x1, .int x2, .long x3, .int x4])).length) Slot.unset).toArray = ls at hl ⊢
  generalize hRe : (headSpec [Cond.code yX7_field cX7_field 8 (some .int)] { frames := 1, cells := 0, slots := 0, locals := 24 }).room = R
  have hR1 : R.frames = 1 ∧ R.cells = 0 ∧ R.slots = 0 ∧ R.locals = 24 := by rw [← hRe]; exact ⟨rfl, rfl, rfl, rfl⟩
  clear hRe B hml
  generalize s.heap = H at hI ⊢
  generalize ([] : List Loc) = locs at hL ⊢
  have hmain := h
  clear h
  have h := hmain
  clear hmain
  unfold fX7_field at h
  refine lv_aload_n hx hb dX7_field_0 rfl (lv_at hl 0 rfl) ?_
  refine lv_iload_n hx hb dX7_field_1 rfl (lv_at hl 1 rfl) ?_
  replace h := ob_s h
  obtain ⟨_, h2, h⟩ := h
  replace h := cb_s h
  obtain ⟨r4, σ3, h1, h⟩ := h
  refine hm_call (hm_runV (As := [.int x1]) (rest := []) (ci := 9) S hK hI (obC_s h2) rfl (mX7_typeAt l E h1) (pm_X7_47 hK) (pi_X7_typeAt hK) (pl_X7_X7_typeAt hK) ⟨by omega, by omega⟩ rfl hl.1 (Nat.le_of_ble_eq_true rfl) ⟨by omega, by omega⟩ dX7_field_2) hL (fun H locs hI hL => ?_)
  refine hm_astore (lv' := [(6, va_rf r4), (0, .ref x0), (1, .int x1), (2, .int x2), (3, .long x3), (5, .int x4)]) hx hb dX7_field_5 hl (by decide) rfl (fun ls hl => ?_)
  refine hm_aload hx hb dX7_field_7 (lv_at hl 0 rfl) ?_
  cases r4 with
  | none =>
    replace h := oc_n h
    have hl : lv_has ls 8 [(6, va_rf none), (0, .ref x0), (1, .int x1), (2, .int x2), (3, .long x3), (5, .int x4)] := hl
    refine lv_ifnullN (tgt := 19) hx hb dX7_field_9 (by decide) ?_
    refine lv_iconst (v := -1) hx hb dX7_field_19 (by decide) ?_
    exact hm_iret hx hb hr hI hL h (by omega) (by omega) hlocks dX7_field_20
  | some a5 =>
    replace h := oc_s h
    have hl : lv_has ls 8 [(6, .ref a5), (0, .ref x0), (1, .int x1), (2, .int x2), (3, .long x3), (5, .int x4)] := hl
    refine lv_ifnull hx hb dX7_field_9 ?_
    refine lv_iload_n hx hb dX7_field_12 rfl (lv_at hl 3 rfl) ?_
    replace h := cb_s h
    obtain ⟨r8, σ7, h6, h⟩ := h
    refine hm_call (hm_runS (As := [.int x2]) (rest := []) S hK hI (mX7_isName l E h6) (pm_X7_62 hK) (ps_X7_isName hK) ⟨by omega, by omega⟩ rfl hl.1 (Nat.le_of_ble_eq_true rfl) ⟨by omega, by omega⟩ dX7_field_13) hL (fun H locs hI hL => ?_)
    refine lv_if_ne (tgt := 21) hx hb dX7_field_16 (by decide) (fun c9 => ?_) (fun c9 => ?_)
    · replace h := it_n c9 h
      refine lv_aload hx hb dX7_field_21 (lv_at hl 0 rfl) ?_
      replace h := ob_s h
      obtain ⟨f10, h11, h⟩ := h
      refine hm_get S hK hI (pf_X7_66_8 hK) (gR_s h11) dX7_field_23 ?_
      refine hm_astore (lv' := [(7, va_rf f10), (6, .ref a5), (0, .ref x0), (1, .int x1), (2, .int x2), (3, .long x3), (5, .int x4)]) hx hb dX7_field_26 hl (by decide) rfl (fun ls hl => ?_)
      refine hm_aload hx hb dX7_field_28 (lv_at hl 0 rfl) ?_
      replace h := ob_s h
      obtain ⟨a12, rfl, h⟩ := h
      have hl : lv_has ls 8 [(7, .ref a12), (6, .ref a5), (0, .ref x0), (1, .int x1), (2, .int x2), (3, .long x3), (5, .int x4)] := hl
      replace h := ob_s h
      obtain ⟨f13, h14, h⟩ := h
      refine hm_get S hK hI (pf_X7_70_3 hK) (gI_s h14) dX7_field_30 ?_
      refine lv_iconst (v := 4) hx hb dX7_field_33 (by decide) ?_
      refine lv_icmp_lt (tgt := 40) hx hb dX7_field_34 (by decide) (fun c15 => ?_) (fun c15 => ?_)
      · replace h := it_p c15 h
        refine lv_aload hx hb dX7_field_40 (lv_at hl 0 rfl) ?_
        refine lv_iload_n hx hb dX7_field_42 rfl (lv_at hl 4 rfl) ?_
        replace h := ob_s h
        obtain ⟨_, h17, h⟩ := h
        replace h := cb_s h
        obtain ⟨r19, σ18, h16, h⟩ := h
        refine hm_call (hm_runV (As := [.int x2]) (rest := []) (ci := 3) S hK hI (obC_s h17) rfl (mX1_indexOf l E h16) (pm_X7_75 hK) (pi_X1_indexOf hK) (pl_X1_X1_indexOf hK) ⟨by omega, by omega⟩ rfl hl.1 (Nat.le_of_ble_eq_true rfl) ⟨by omega, by omega⟩ dX7_field_43) hL (fun H locs hI hL => ?_)
        refine lv_iconst (v := -1) hx hb dX7_field_46 (by decide) ?_
        refine lv_icmp_eq (tgt := 53) hx hb dX7_field_47 (by decide) (fun c20 => ?_) (fun c20 => ?_)
        · replace h := it_p c20 h
          refine lv_aload hx hb dX7_field_53 (lv_at hl 0 rfl) ?_
          refine lv_iload_n hx hb dX7_field_55 rfl (lv_at hl 4 rfl) ?_
          refine lv_lload_n hx hb dX7_field_56 rfl (lv_at hl 5 rfl) ?_
          refine lv_iload hx hb dX7_field_57 (lv_at hl 6 rfl) ?_
          replace h := ob_s h
          obtain ⟨_, h22, h⟩ := h
          replace h := cb_s h
          obtain ⟨u0, σ23, h21, h⟩ := h
          refine hm_callv (hm_runV (As := [.int x2, .long x3, .int x4]) (rest := []) (ci := 3) S hK hI (obC_s h22) rfl (mX1_add l E h21) (pm_X7_79 hK) (pi_X1_add hK) (pl_X1_X1_add hK) ⟨by omega, by omega⟩ rfl hl.1 (Nat.le_of_ble_eq_true rfl) ⟨by omega, by omega⟩ dX7_field_59) hL (fun H locs hI hL => ?_)
          refine lv_aload hx hb dX7_field_62 (lv_at hl 0 rfl) ?_
          replace h := ob_s h
          obtain ⟨f24, h25, h⟩ := h
          refine hm_get S hK hI (pf_X7_70_3 hK) (gI_s h25) dX7_field_64 ?_
          exact hm_iret hx hb hr hI hL h (by omega) (by omega) hlocks dX7_field_67
        · replace h := it_n c20 h
          refine lv_bipush (v := -4) hx hb dX7_field_50 (by decide) ?_
          exact hm_iret hx hb hr hI hL h (by omega) (by omega) hlocks dX7_field_52
      · replace h := it_n c15 h
        refine lv_bipush (v := -2) hx hb dX7_field_37 (by decide) ?_
        exact hm_iret hx hb hr hI hL h (by omega) (by omega) hlocks dX7_field_39
    · replace h := it_p c9 h
      refine lv_iconst (v := -1) hx hb dX7_field_19 (by decide) ?_
      exact hm_iret hx hb hr hI hL h (by omega) (by omega) hlocks dX7_field_20

def fX4_add (x0 : Nat) (x1 : Int32) (x2 : Int64) (σ : hmS) : Option (Unit × hmS) :=
  ob (gI σ x0 6 3) fun f1 => if f1 < (4 : Int32) then
    ob (gR σ x0 6 0) fun f4 => ob (gI σ x0 6 3) fun f6 => ob f4 fun a8 => ob (sI σ 0 a8 f6 x1) fun σ9 => ob (gR σ9 x0 6 1) fun f11 => ob (gI σ9 x0 6 3) fun f13 => ob f11 fun a15 => ob (sL σ9 a15 f13 x2) fun σ16 => ob (gI σ16 x0 6 3) fun f18 => ob (wF σ16 x0 6 3 (.int (f18 + (1 : Int32)))) fun σ20 => some ((), σ20)
  else
    some ((), σ)
set_option maxHeartbeats 4000000 in
set_option maxRecDepth 100000 in
theorem mX4_add (l : Launch) (E : hmG) {x0 : Nat} {x1 : Int32} {x2 : Int64} {σ σ' : hmS} {r : Unit} (h : fX4_add x0 x1 x2 σ = some (r, σ')) : Met l yX4_add [Cond.code yX4_add cX4_add 4 none] { frames := 0, cells := 0, slots := 0, locals := 0 } (hmPc E [.ref x0, .int x1, .long x2] σ) (hmQc E none σ') 0 0 (fun q => hmL E ≤ q) := by
  refine Met.ofW (cc := cX4_add) (maxL := 4) (ret := none) (by decide) rfl ?_
  intro p e s m args below meth c s₁ B hml hv
  obtain ⟨rfl, hK, hI⟩ := hv
  have S : CallFix p m c cX4_add 4 s ([.ref x0, .int x1, .long x2] : List Value).toArray [] RX4 := ⟨B.exec, B.bytes, hml, findClass_of_methodNamed B.named, fun w hw => by cases hw⟩
  have hx := S.1
  have hb := S.2.1
  have hr := B.returns
  have hlocks := B.notSynchronized
  have hL : hmLo E [] := hmLo.nil
  have hl : lv_has ((lg_sl ([.ref x0, .int x1, .long x2]) ++ List.replicate (4 - (lg_sl ([.ref x0, .int x1, .long x2])).length) Slot.unset).toArray) 4 [(0, .ref x0), (1, .int x1), (2, .long x2)] := by exact lv_entry _ (Nat.le_of_ble_eq_true rfl)
  rw [lg_entry_eq]
  generalize (lg_sl ([.ref x0, .int x1, .long x2]) ++ List.replicate (4 - (lg_sl ([.ref x0, .int x1, .long x2])).length) Slot.unset).toArray = ls at hl ⊢
  generalize hRe : (headSpec [Cond.code yX4_add cX4_add 4 none] { frames := 0, cells := 0, slots := 0, locals := 0 }).room = R
  have hR1 : R.frames = 0 ∧ R.cells = 0 ∧ R.slots = 0 ∧ R.locals = 0 := by rw [← hRe]; exact ⟨rfl, rfl, rfl, rfl⟩
  clear hRe B hml
  generalize s.heap = H at hI ⊢
  generalize ([] : List Loc) = locs at hL ⊢
  have hmain := h
  clear h
  have h := hmain
  clear hmain
  unfold fX4_add at h
  refine lv_aload_n hx hb dX4_add_0 rfl (lv_at hl 0 rfl) ?_
  replace h := ob_s h
  obtain ⟨f1, h2, h⟩ := h
  refine hm_get S hK hI (pf_X4_23_6 hK) (gI_s h2) dX4_add_1 ?_
  refine lv_iconst (v := 4) hx hb dX4_add_4 (by decide) ?_
  refine lv_icmp_lt (tgt := 9) hx hb dX4_add_5 (by decide) (fun c3 => ?_) (fun c3 => ?_)
  · replace h := it_p c3 h
    refine lv_aload_n hx hb dX4_add_9 rfl (lv_at hl 0 rfl) ?_
    replace h := ob_s h
    obtain ⟨f4, h5, h⟩ := h
    refine hm_get S hK hI (pf_X4_9_6 hK) (gR_s h5) dX4_add_10 ?_
    refine lv_aload_n hx hb dX4_add_13 rfl (lv_at hl 0 rfl) ?_
    replace h := ob_s h
    obtain ⟨f6, h7, h⟩ := h
    refine hm_get S hK hI (pf_X4_23_6 hK) (gI_s h7) dX4_add_14 ?_
    refine lv_iload_n hx hb dX4_add_17 rfl (lv_at hl 1 rfl) ?_
    replace h := ob_s h
    obtain ⟨a8, rfl, h⟩ := h
    have hl : lv_has ls 4 [(0, .ref x0), (1, .int x1), (2, .long x2)] := hl
    replace h := ob_s h
    obtain ⟨σ9, h10, h⟩ := h
    refine hm_iast S hK hI hL h10 dX4_add_18 (fun H locs hI hL => ?_)
    refine lv_aload_n hx hb dX4_add_19 rfl (lv_at hl 0 rfl) ?_
    replace h := ob_s h
    obtain ⟨f11, h12, h⟩ := h
    refine hm_get S hK hI (pf_X4_15_6 hK) (gR_s h12) dX4_add_20 ?_
    refine lv_aload_n hx hb dX4_add_23 rfl (lv_at hl 0 rfl) ?_
    replace h := ob_s h
    obtain ⟨f13, h14, h⟩ := h
    refine hm_get S hK hI (pf_X4_23_6 hK) (gI_s h14) dX4_add_24 ?_
    refine lv_lload_n hx hb dX4_add_27 rfl (lv_at hl 2 rfl) ?_
    replace h := ob_s h
    obtain ⟨a15, rfl, h⟩ := h
    have hl : lv_has ls 4 [(0, .ref x0), (1, .int x1), (2, .long x2)] := hl
    replace h := ob_s h
    obtain ⟨σ16, h17, h⟩ := h
    refine hm_last S hK hI hL h17 dX4_add_28 (fun H locs hI hL => ?_)
    refine lv_aload_n hx hb dX4_add_29 rfl (lv_at hl 0 rfl) ?_
    refine lv_dup hx hb dX4_add_30 rfl ?_
    replace h := ob_s h
    obtain ⟨f18, h19, h⟩ := h
    refine hm_get S hK hI (pf_X4_23_6 hK) (gI_s h19) dX4_add_31 ?_
    refine lv_iconst (v := 1) hx hb dX4_add_34 (by decide) ?_
    refine lv_iadd hx hb dX4_add_35 ?_
    replace h := ob_s h
    obtain ⟨σ20, h21, h⟩ := h
    refine hm_put S hK hI hL (pf_X4_23_6 hK) h21 ⟨rfl, rfl⟩ dX4_add_36 (fun H locs hI hL => ?_)
    exact hm_vret hx hb hr hI hL h (by omega) (by omega) hlocks dX4_add_39
  · replace h := it_n c3 h
    exact hm_vret hx hb hr hI hL h (by omega) (by omega) hlocks dX4_add_8

def fX7_local (x0 : Nat) (x1 : Int32) (x2 : Int32) (x3 : Int64) (σ : hmS) : Option (Int32 × hmS) :=
  ob (obC σ x0 9) fun _ => cb (fX7_typeAt x0 x1 σ) fun r4 σ3 => oc r4
    (some ((-1 : Int32), σ3))
    (fun a5 => cb (fX7_isName x2 σ3) fun r8 σ7 => if r8 = 0 then
      some ((-1 : Int32), σ7)
    else
      ob (gR σ7 a5 8 8) fun f10 => ob f10 fun a12 => ob (gI σ7 a12 6 3) fun f13 => if f13 < (4 : Int32) then
        ob (obC σ7 a12 6) fun _ => cb (fX4_add a12 x2 x3 σ7) fun _ σ18 => ob (gI σ18 a12 6 3) fun f19 => some (f19, σ18)
      else
        some ((-2 : Int32), σ7))
set_option maxHeartbeats 4000000 in
set_option maxRecDepth 100000 in
theorem mX7_local (l : Launch) (E : hmG) {x0 : Nat} {x1 : Int32} {x2 : Int32} {x3 : Int64} {σ σ' : hmS} {r : Int32} (h : fX7_local x0 x1 x2 x3 σ = some (r, σ')) : Met l yX7_local [Cond.code yX7_local cX7_local 7 (some .int)] { frames := 1, cells := 0, slots := 0, locals := 23 } (hmPc E [.ref x0, .int x1, .int x2, .long x3] σ) (hmQc E (some (.int r)) σ') 0 0 (fun q => hmL E ≤ q) := by
  refine Met.ofW (cc := cX7_local) (maxL := 7) (ret := (some .int)) (by decide) rfl ?_
  intro p e s m args below meth c s₁ B hml hv
  obtain ⟨rfl, hK, hI⟩ := hv
  have S : CallFix p m c cX7_local 7 s ([.ref x0, .int x1, .int x2, .long x3] : List Value).toArray [] RX7 := ⟨B.exec, B.bytes, hml, findClass_of_methodNamed B.named, fun w hw => by cases hw⟩
  have hx := S.1
  have hb := S.2.1
  have hr := B.returns
  have hlocks := B.notSynchronized
  have hL : hmLo E [] := hmLo.nil
  have hl : lv_has ((lg_sl ([.ref x0, .int x1, .int x2, .long x3]) ++ List.replicate (7 - (lg_sl ([.ref x0, .int x1, .int x2, .long x3])).length) Slot.unset).toArray) 7 [(0, .ref x0), (1, .int x1), (2, .int x2), (3, .long x3)] := by exact lv_entry _ (Nat.le_of_ble_eq_true rfl)
  rw [lg_entry_eq]
  generalize (lg_sl ([.ref x0, .int x1, .int x2, .long x3]) ++ List.replicate (7 - (lg_sl ([.ref x0, .int x1, .int x2, .long x3])).length) Slot.unset).toArray = ls at hl ⊢
  generalize hRe : (headSpec [Cond.code yX7_local cX7_local 7 (some .int)] { frames := 1, cells := 0, slots := 0, locals := 23 }).room = R
  have hR1 : R.frames = 1 ∧ R.cells = 0 ∧ R.slots = 0 ∧ R.locals = 23 := by rw [← hRe]; exact ⟨rfl, rfl, rfl, rfl⟩
  clear hRe B hml
  generalize s.heap = H at hI ⊢
  generalize ([] : List Loc) = locs at hL ⊢
  have hmain := h
  clear h
  have h := hmain
  clear hmain
  unfold fX7_local at h
  refine lv_aload_n hx hb dX7_local_0 rfl (lv_at hl 0 rfl) ?_
  refine lv_iload_n hx hb dX7_local_1 rfl (lv_at hl 1 rfl) ?_
  replace h := ob_s h
  obtain ⟨_, h2, h⟩ := h
  replace h := cb_s h
  obtain ⟨r4, σ3, h1, h⟩ := h
  refine hm_call (hm_runV (As := [.int x1]) (rest := []) (ci := 9) S hK hI (obC_s h2) rfl (mX7_typeAt l E h1) (pm_X7_47 hK) (pi_X7_typeAt hK) (pl_X7_X7_typeAt hK) ⟨by omega, by omega⟩ rfl hl.1 (Nat.le_of_ble_eq_true rfl) ⟨by omega, by omega⟩ dX7_local_2) hL (fun H locs hI hL => ?_)
  refine hm_astore (lv' := [(5, va_rf r4), (0, .ref x0), (1, .int x1), (2, .int x2), (3, .long x3)]) hx hb dX7_local_5 hl (by decide) rfl (fun ls hl => ?_)
  refine hm_aload hx hb dX7_local_7 (lv_at hl 0 rfl) ?_
  cases r4 with
  | none =>
    replace h := oc_n h
    have hl : lv_has ls 7 [(5, va_rf none), (0, .ref x0), (1, .int x1), (2, .int x2), (3, .long x3)] := hl
    refine lv_ifnullN (tgt := 19) hx hb dX7_local_9 (by decide) ?_
    refine lv_iconst (v := -1) hx hb dX7_local_19 (by decide) ?_
    exact hm_iret hx hb hr hI hL h (by omega) (by omega) hlocks dX7_local_20
  | some a5 =>
    replace h := oc_s h
    have hl : lv_has ls 7 [(5, .ref a5), (0, .ref x0), (1, .int x1), (2, .int x2), (3, .long x3)] := hl
    refine lv_ifnull hx hb dX7_local_9 ?_
    refine lv_iload_n hx hb dX7_local_12 rfl (lv_at hl 3 rfl) ?_
    replace h := cb_s h
    obtain ⟨r8, σ7, h6, h⟩ := h
    refine hm_call (hm_runS (As := [.int x2]) (rest := []) S hK hI (mX7_isName l E h6) (pm_X7_62 hK) (ps_X7_isName hK) ⟨by omega, by omega⟩ rfl hl.1 (Nat.le_of_ble_eq_true rfl) ⟨by omega, by omega⟩ dX7_local_13) hL (fun H locs hI hL => ?_)
    refine lv_if_ne (tgt := 21) hx hb dX7_local_16 (by decide) (fun c9 => ?_) (fun c9 => ?_)
    · replace h := it_n c9 h
      refine lv_aload hx hb dX7_local_21 (lv_at hl 0 rfl) ?_
      replace h := ob_s h
      obtain ⟨f10, h11, h⟩ := h
      refine hm_get S hK hI (pf_X7_83_8 hK) (gR_s h11) dX7_local_23 ?_
      refine hm_astore (lv' := [(6, va_rf f10), (5, .ref a5), (0, .ref x0), (1, .int x1), (2, .int x2), (3, .long x3)]) hx hb dX7_local_26 hl (by decide) rfl (fun ls hl => ?_)
      refine hm_aload hx hb dX7_local_28 (lv_at hl 0 rfl) ?_
      replace h := ob_s h
      obtain ⟨a12, rfl, h⟩ := h
      have hl : lv_has ls 7 [(6, .ref a12), (5, .ref a5), (0, .ref x0), (1, .int x1), (2, .int x2), (3, .long x3)] := hl
      replace h := ob_s h
      obtain ⟨f13, h14, h⟩ := h
      refine hm_get S hK hI (pf_X7_87_6 hK) (gI_s h14) dX7_local_30 ?_
      refine lv_iconst (v := 4) hx hb dX7_local_33 (by decide) ?_
      refine lv_icmp_lt (tgt := 40) hx hb dX7_local_34 (by decide) (fun c15 => ?_) (fun c15 => ?_)
      · replace h := it_p c15 h
        refine lv_aload hx hb dX7_local_40 (lv_at hl 0 rfl) ?_
        refine lv_iload_n hx hb dX7_local_42 rfl (lv_at hl 4 rfl) ?_
        refine lv_lload_n hx hb dX7_local_43 rfl (lv_at hl 5 rfl) ?_
        replace h := ob_s h
        obtain ⟨_, h17, h⟩ := h
        replace h := cb_s h
        obtain ⟨u0, σ18, h16, h⟩ := h
        refine hm_callv (hm_runV (As := [.int x2, .long x3]) (rest := []) (ci := 6) S hK hI (obC_s h17) rfl (mX4_add l E h16) (pm_X7_90 hK) (pi_X4_add hK) (pl_X4_X4_add hK) ⟨by omega, by omega⟩ rfl hl.1 (Nat.le_of_ble_eq_true rfl) ⟨by omega, by omega⟩ dX7_local_44) hL (fun H locs hI hL => ?_)
        refine lv_aload hx hb dX7_local_47 (lv_at hl 0 rfl) ?_
        replace h := ob_s h
        obtain ⟨f19, h20, h⟩ := h
        refine hm_get S hK hI (pf_X7_87_6 hK) (gI_s h20) dX7_local_49 ?_
        exact hm_iret hx hb hr hI hL h (by omega) (by omega) hlocks dX7_local_52
      · replace h := it_n c15 h
        refine lv_bipush (v := -2) hx hb dX7_local_37 (by decide) ?_
        exact hm_iret hx hb hr hI hL h (by omega) (by omega) hlocks dX7_local_39
    · replace h := it_p c9 h
      refine lv_iconst (v := -1) hx hb dX7_local_19 (by decide) ?_
      exact hm_iret hx hb hr hI hL h (by omega) (by omega) hlocks dX7_local_20

def fX4_isAssigned (x0 : Nat) (x1 : Int32) (σ : hmS) : Option (Int32 × hmS) :=
  ob (obC σ x0 6) fun _ => cb (fX4_has x0 x1 σ) fun r4 σ3 => if r4 = 0 then
    some ((0 : Int32), σ3)
  else
    ob (gR σ3 x0 6 2) fun f6 => ob f6 fun a8 => ob (aI σ3 2 a8 x1) fun e9 => if e9 = 0 then
      some ((0 : Int32), σ3)
    else
      some ((1 : Int32), σ3)
set_option maxHeartbeats 4000000 in
set_option maxRecDepth 100000 in
theorem mX4_isAssigned (l : Launch) (E : hmG) {x0 : Nat} {x1 : Int32} {σ σ' : hmS} {r : Int32} (h : fX4_isAssigned x0 x1 σ = some (r, σ')) : Met l yX4_isAssigned [Cond.code yX4_isAssigned cX4_isAssigned 2 (some .boolean)] { frames := 1, cells := 0, slots := 0, locals := 21 } (hmPc E [.ref x0, .int x1] σ) (hmQc E (some (.int r)) σ') 0 0 (fun q => hmL E ≤ q) := by
  refine Met.ofW (cc := cX4_isAssigned) (maxL := 2) (ret := (some .boolean)) (by decide) rfl ?_
  intro p e s m args below meth c s₁ B hml hv
  obtain ⟨rfl, hK, hI⟩ := hv
  have S : CallFix p m c cX4_isAssigned 2 s ([.ref x0, .int x1] : List Value).toArray [] RX4 := ⟨B.exec, B.bytes, hml, findClass_of_methodNamed B.named, fun w hw => by cases hw⟩
  have hx := S.1
  have hb := S.2.1
  have hr := B.returns
  have hlocks := B.notSynchronized
  have hL : hmLo E [] := hmLo.nil
  have hl : lv_has ((lg_sl ([.ref x0, .int x1]) ++ List.replicate (2 - (lg_sl ([.ref x0, .int x1])).length) Slot.unset).toArray) 2 [(0, .ref x0), (1, .int x1)] := by exact lv_entry _ (Nat.le_of_ble_eq_true rfl)
  rw [lg_entry_eq]
  generalize (lg_sl ([.ref x0, .int x1]) ++ List.replicate (2 - (lg_sl ([.ref x0, .int x1])).length) Slot.unset).toArray = ls at hl ⊢
  generalize hRe : (headSpec [Cond.code yX4_isAssigned cX4_isAssigned 2 (some .boolean)] { frames := 1, cells := 0, slots := 0, locals := 21 }).room = R
  have hR1 : R.frames = 1 ∧ R.cells = 0 ∧ R.slots = 0 ∧ R.locals = 21 := by rw [← hRe]; exact ⟨rfl, rfl, rfl, rfl⟩
  clear hRe B hml
  generalize s.heap = H at hI ⊢
  generalize ([] : List Loc) = locs at hL ⊢
  have hmain := h
  clear h
  have h := hmain
  clear hmain
  unfold fX4_isAssigned at h
  refine lv_aload_n hx hb dX4_isAssigned_0 rfl (lv_at hl 0 rfl) ?_
  refine lv_iload_n hx hb dX4_isAssigned_1 rfl (lv_at hl 1 rfl) ?_
  replace h := ob_s h
  obtain ⟨_, h2, h⟩ := h
  replace h := cb_s h
  obtain ⟨r4, σ3, h1, h⟩ := h
  refine hm_call (hm_runV (As := [.int x1]) (rest := []) (ci := 6) S hK hI (obC_s h2) rfl (mX4_has l E h1) (pm_X4_27 hK) (pi_X4_has hK) (pl_X4_X4_has hK) ⟨by omega, by omega⟩ rfl hl.1 (Nat.le_of_ble_eq_true rfl) ⟨by omega, by omega⟩ dX4_isAssigned_2) hL (fun H locs hI hL => ?_)
  refine lv_if_eq (tgt := 21) hx hb dX4_isAssigned_5 (by decide) (fun c5 => ?_) (fun c5 => ?_)
  · replace h := it_p c5 h
    refine lv_iconst (v := 0) hx hb dX4_isAssigned_21 (by decide) ?_
    exact hm_zret hx hb hr rfl hI hL h (by omega) (by omega) hlocks dX4_isAssigned_22
  · replace h := it_n c5 h
    refine lv_aload_n hx hb dX4_isAssigned_8 rfl (lv_at hl 0 rfl) ?_
    replace h := ob_s h
    obtain ⟨f6, h7, h⟩ := h
    refine hm_get S hK hI (pf_X4_19_6 hK) (gR_s h7) dX4_isAssigned_9 ?_
    refine lv_iload_n hx hb dX4_isAssigned_12 rfl (lv_at hl 1 rfl) ?_
    replace h := ob_s h
    obtain ⟨a8, rfl, h⟩ := h
    have hl : lv_has ls 2 [(0, .ref x0), (1, .int x1)] := hl
    replace h := ob_s h
    obtain ⟨e9, h10, h⟩ := h
    refine hm_zald S hK hI h10 dX4_isAssigned_13 ?_
    refine lv_if_eq (tgt := 21) hx hb dX4_isAssigned_14 (by decide) (fun c11 => ?_) (fun c11 => ?_)
    · replace h := it_p c11 h
      refine lv_iconst (v := 0) hx hb dX4_isAssigned_21 (by decide) ?_
      exact hm_zret hx hb hr rfl hI hL h (by omega) (by omega) hlocks dX4_isAssigned_22
    · replace h := it_n c11 h
      refine lv_iconst (v := 1) hx hb dX4_isAssigned_17 (by decide) ?_
      refine lv_goto (tgt := 22) hx hb dX4_isAssigned_18 (by decide) ?_
      exact hm_zret hx hb hr rfl hI hL h (by omega) (by omega) hlocks dX4_isAssigned_22

def fX7_assign (x0 : Nat) (x1 : Int32) (x2 : Int32) (x3 : Int64) (σ : hmS) : Option (Int32 × hmS) :=
  ob (obC σ x0 9) fun _ => cb (fX7_typeAt x0 x1 σ) fun r4 σ3 => oc r4
    (some ((-1 : Int32), σ3))
    (fun a5 => ob (gR σ3 a5 8 8) fun f6 => ob f6 fun a8 => ob (obC σ3 a8 6) fun _ => cb (fX4_has a8 x2 σ3) fun r12 σ11 => if r12 = 0 then
      some ((-1 : Int32), σ11)
    else
      ob (gR σ11 a5 8 8) fun f14 => ob f14 fun a16 => ob (obC σ11 a16 6) fun _ => cb (fX4_isAssigned a16 x2 σ11) fun r20 σ19 => ob (gR σ19 a5 8 8) fun f21 => ob f21 fun a23 => ob (obC σ19 a23 6) fun _ => cb (fX4_set a23 x2 x3 σ19) fun _ σ26 => if r20 = 0 then
        some ((0 : Int32), σ26)
      else
        some ((1 : Int32), σ26))
set_option maxHeartbeats 4000000 in
set_option maxRecDepth 100000 in
theorem mX7_assign (l : Launch) (E : hmG) {x0 : Nat} {x1 : Int32} {x2 : Int32} {x3 : Int64} {σ σ' : hmS} {r : Int32} (h : fX7_assign x0 x1 x2 x3 σ = some (r, σ')) : Met l yX7_assign [Cond.code yX7_assign cX7_assign 7 (some .int)] { frames := 2, cells := 0, slots := 0, locals := 44 } (hmPc E [.ref x0, .int x1, .int x2, .long x3] σ) (hmQc E (some (.int r)) σ') 0 0 (fun q => hmL E ≤ q) := by
  refine Met.ofW (cc := cX7_assign) (maxL := 7) (ret := (some .int)) (by decide) rfl ?_
  intro p e s m args below meth c s₁ B hml hv
  obtain ⟨rfl, hK, hI⟩ := hv
  have S : CallFix p m c cX7_assign 7 s ([.ref x0, .int x1, .int x2, .long x3] : List Value).toArray [] RX7 := ⟨B.exec, B.bytes, hml, findClass_of_methodNamed B.named, fun w hw => by cases hw⟩
  have hx := S.1
  have hb := S.2.1
  have hr := B.returns
  have hlocks := B.notSynchronized
  have hL : hmLo E [] := hmLo.nil
  have hl : lv_has ((lg_sl ([.ref x0, .int x1, .int x2, .long x3]) ++ List.replicate (7 - (lg_sl ([.ref x0, .int x1, .int x2, .long x3])).length) Slot.unset).toArray) 7 [(0, .ref x0), (1, .int x1), (2, .int x2), (3, .long x3)] := by exact lv_entry _ (Nat.le_of_ble_eq_true rfl)
  rw [lg_entry_eq]
  generalize (lg_sl ([.ref x0, .int x1, .int x2, .long x3]) ++ List.replicate (7 - (lg_sl ([.ref x0, .int x1, .int x2, .long x3])).length) Slot.unset).toArray = ls at hl ⊢
  generalize hRe : (headSpec [Cond.code yX7_assign cX7_assign 7 (some .int)] { frames := 2, cells := 0, slots := 0, locals := 44 }).room = R
  have hR1 : R.frames = 2 ∧ R.cells = 0 ∧ R.slots = 0 ∧ R.locals = 44 := by rw [← hRe]; exact ⟨rfl, rfl, rfl, rfl⟩
  clear hRe B hml
  generalize s.heap = H at hI ⊢
  generalize ([] : List Loc) = locs at hL ⊢
  have hmain := h
  clear h
  have h := hmain
  clear hmain
  unfold fX7_assign at h
  refine lv_aload_n hx hb dX7_assign_0 rfl (lv_at hl 0 rfl) ?_
  refine lv_iload_n hx hb dX7_assign_1 rfl (lv_at hl 1 rfl) ?_
  replace h := ob_s h
  obtain ⟨_, h2, h⟩ := h
  replace h := cb_s h
  obtain ⟨r4, σ3, h1, h⟩ := h
  refine hm_call (hm_runV (As := [.int x1]) (rest := []) (ci := 9) S hK hI (obC_s h2) rfl (mX7_typeAt l E h1) (pm_X7_47 hK) (pi_X7_typeAt hK) (pl_X7_X7_typeAt hK) ⟨by omega, by omega⟩ rfl hl.1 (Nat.le_of_ble_eq_true rfl) ⟨by omega, by omega⟩ dX7_assign_2) hL (fun H locs hI hL => ?_)
  refine hm_astore (lv' := [(5, va_rf r4), (0, .ref x0), (1, .int x1), (2, .int x2), (3, .long x3)]) hx hb dX7_assign_5 hl (by decide) rfl (fun ls hl => ?_)
  refine hm_aload hx hb dX7_assign_7 (lv_at hl 0 rfl) ?_
  cases r4 with
  | none =>
    replace h := oc_n h
    have hl : lv_has ls 7 [(5, va_rf none), (0, .ref x0), (1, .int x1), (2, .int x2), (3, .long x3)] := hl
    refine lv_ifnullN (tgt := 24) hx hb dX7_assign_9 (by decide) ?_
    refine lv_iconst (v := -1) hx hb dX7_assign_24 (by decide) ?_
    exact hm_iret hx hb hr hI hL h (by omega) (by omega) hlocks dX7_assign_25
  | some a5 =>
    replace h := oc_s h
    have hl : lv_has ls 7 [(5, .ref a5), (0, .ref x0), (1, .int x1), (2, .int x2), (3, .long x3)] := hl
    refine lv_ifnull hx hb dX7_assign_9 ?_
    refine lv_aload hx hb dX7_assign_12 (lv_at hl 0 rfl) ?_
    replace h := ob_s h
    obtain ⟨f6, h7, h⟩ := h
    refine hm_get S hK hI (pf_X7_83_8 hK) (gR_s h7) dX7_assign_14 ?_
    refine lv_iload_n hx hb dX7_assign_17 rfl (lv_at hl 3 rfl) ?_
    replace h := ob_s h
    obtain ⟨a8, rfl, h⟩ := h
    have hl : lv_has ls 7 [(5, .ref a5), (0, .ref x0), (1, .int x1), (2, .int x2), (3, .long x3)] := hl
    replace h := ob_s h
    obtain ⟨_, h10, h⟩ := h
    replace h := cb_s h
    obtain ⟨r12, σ11, h9, h⟩ := h
    refine hm_call (hm_runV (As := [.int x2]) (rest := []) (ci := 6) S hK hI (obC_s h10) rfl (mX4_has l E h9) (pm_X7_93 hK) (pi_X4_has hK) (pl_X4_X4_has hK) ⟨by omega, by omega⟩ rfl hl.1 (Nat.le_of_ble_eq_true rfl) ⟨by omega, by omega⟩ dX7_assign_18) hL (fun H locs hI hL => ?_)
    refine lv_if_ne (tgt := 26) hx hb dX7_assign_21 (by decide) (fun c13 => ?_) (fun c13 => ?_)
    · replace h := it_n c13 h
      refine lv_aload hx hb dX7_assign_26 (lv_at hl 0 rfl) ?_
      replace h := ob_s h
      obtain ⟨f14, h15, h⟩ := h
      refine hm_get S hK hI (pf_X7_83_8 hK) (gR_s h15) dX7_assign_28 ?_
      refine lv_iload_n hx hb dX7_assign_31 rfl (lv_at hl 3 rfl) ?_
      replace h := ob_s h
      obtain ⟨a16, rfl, h⟩ := h
      have hl : lv_has ls 7 [(5, .ref a5), (0, .ref x0), (1, .int x1), (2, .int x2), (3, .long x3)] := hl
      replace h := ob_s h
      obtain ⟨_, h18, h⟩ := h
      replace h := cb_s h
      obtain ⟨r20, σ19, h17, h⟩ := h
      refine hm_call (hm_runV (As := [.int x2]) (rest := []) (ci := 6) S hK hI (obC_s h18) rfl (mX4_isAssigned l E h17) (pm_X7_96 hK) (pi_X4_isAssigned hK) (pl_X4_X4_isAssigned hK) ⟨by omega, by omega⟩ rfl hl.1 (Nat.le_of_ble_eq_true rfl) ⟨by omega, by omega⟩ dX7_assign_32) hL (fun H locs hI hL => ?_)
      refine lv_istore (lv' := [(6, .int r20), (5, .ref a5), (0, .ref x0), (1, .int x1), (2, .int x2), (3, .long x3)]) hx hb dX7_assign_35 hl (by decide) rfl (fun ls hl => ?_)
      refine lv_aload hx hb dX7_assign_37 (lv_at hl 1 rfl) ?_
      replace h := ob_s h
      obtain ⟨f21, h22, h⟩ := h
      refine hm_get S hK hI (pf_X7_83_8 hK) (gR_s h22) dX7_assign_39 ?_
      refine lv_iload_n hx hb dX7_assign_42 rfl (lv_at hl 4 rfl) ?_
      refine lv_lload_n hx hb dX7_assign_43 rfl (lv_at hl 5 rfl) ?_
      replace h := ob_s h
      obtain ⟨a23, rfl, h⟩ := h
      have hl : lv_has ls 7 [(6, .int r20), (5, .ref a5), (0, .ref x0), (1, .int x1), (2, .int x2), (3, .long x3)] := hl
      replace h := ob_s h
      obtain ⟨_, h25, h⟩ := h
      replace h := cb_s h
      obtain ⟨u0, σ26, h24, h⟩ := h
      refine hm_callv (hm_runV (As := [.int x2, .long x3]) (rest := []) (ci := 6) S hK hI (obC_s h25) rfl (mX4_set l E h24) (pm_X7_99 hK) (pi_X4_set hK) (pl_X4_X4_set hK) ⟨by omega, by omega⟩ rfl hl.1 (Nat.le_of_ble_eq_true rfl) ⟨by omega, by omega⟩ dX7_assign_44) hL (fun H locs hI hL => ?_)
      refine lv_iload hx hb dX7_assign_47 (lv_at hl 0 rfl) ?_
      refine lv_if_eq (tgt := 56) hx hb dX7_assign_49 (by decide) (fun c27 => ?_) (fun c27 => ?_)
      · replace h := it_p c27 h
        refine lv_iconst (v := 0) hx hb dX7_assign_56 (by decide) ?_
        exact hm_iret hx hb hr hI hL h (by omega) (by omega) hlocks dX7_assign_57
      · replace h := it_n c27 h
        refine lv_iconst (v := 1) hx hb dX7_assign_52 (by decide) ?_
        refine lv_goto (tgt := 57) hx hb dX7_assign_53 (by decide) ?_
        exact hm_iret hx hb hr hI hL h (by omega) (by omega) hlocks dX7_assign_57
    · replace h := it_p c13 h
      refine lv_iconst (v := -1) hx hb dX7_assign_24 (by decide) ?_
      exact hm_iret hx hb hr hI hL h (by omega) (by omega) hlocks dX7_assign_25

def fX7_hasTypeInMethod_J41 (x0 : Nat) (x1 : Option Nat) (K2 : Int32 → hmS → Option (Int32 × hmS)) (v2 : Int32) (σ : hmS) : Option (Int32 × hmS) :=
  K2 (v2 + (1 : Int32)) σ
def fX7_hasTypeInMethod_B2 (x0 : Nat) (x1 : Option Nat)  (K2 : Int32 → hmS → Option (Int32 × hmS)) (v2 : Int32) (σ : hmS) : Option (Int32 × hmS) :=
  ob (gI σ x0 9 1) fun f1 => if f1 ≤ v2 then
    some ((0 : Int32), σ)
  else
    ob (gR σ x0 9 0) fun f4 => ob f4 fun a6 => ob (aR σ a6 v2) fun e7 => oc e7
      (fX7_hasTypeInMethod_J41 x0 x1 K2 v2 σ)
      (fun a9 => ob (gI σ a9 8 1) fun f10 => cb (fX7_standsInMethod f10 σ) fun r14 σ13 => if r14 = 0 then
        fX7_hasTypeInMethod_J41 x0 x1 K2 v2 σ13
      else
        ob (gR σ13 a9 8 2) fun f16 => if f16 = x1 then
          some ((1 : Int32), σ13)
        else
          fX7_hasTypeInMethod_J41 x0 x1 K2 v2 σ13)
def fX7_hasTypeInMethod_L2 (x0 : Nat) (x1 : Option Nat)  : Nat → Int32 → hmS → Option (Int32 × hmS)
  | 0 => fun _ _ => none
  | n + 1 => fX7_hasTypeInMethod_B2 x0 x1  (fX7_hasTypeInMethod_L2 x0 x1  n)
def fX7_hasTypeInMethod (x0 : Nat) (x1 : Option Nat) (σ : hmS) : Option (Int32 × hmS) :=
  fX7_hasTypeInMethod_L2 x0 x1 20 (0 : Int32) σ
set_option maxHeartbeats 4000000 in
set_option maxRecDepth 100000 in
theorem mX7_hasTypeInMethod (l : Launch) (E : hmG) {x0 : Nat} {x1 : Option Nat} {σ σ' : hmS} {r : Int32} (h : fX7_hasTypeInMethod x0 x1 σ = some (r, σ')) : Met l yX7_hasTypeInMethod [Cond.code yX7_hasTypeInMethod cX7_hasTypeInMethod 4 (some .boolean)] { frames := 1, cells := 0, slots := 0, locals := 20 } (hmPc E [.ref x0, va_rf x1] σ) (hmQc E (some (.int r)) σ') 0 0 (fun q => hmL E ≤ q) := by
  refine Met.ofW (cc := cX7_hasTypeInMethod) (maxL := 4) (ret := (some .boolean)) (by decide) rfl ?_
  intro p e s m args below meth c s₁ B hml hv
  obtain ⟨rfl, hK, hI⟩ := hv
  have S : CallFix p m c cX7_hasTypeInMethod 4 s ([.ref x0, va_rf x1] : List Value).toArray [] RX7 := ⟨B.exec, B.bytes, hml, findClass_of_methodNamed B.named, fun w hw => by cases hw⟩
  have hx := S.1
  have hb := S.2.1
  have hr := B.returns
  have hlocks := B.notSynchronized
  have hL : hmLo E [] := hmLo.nil
  have hl : lv_has ((lg_sl ([.ref x0, va_rf x1]) ++ List.replicate (4 - (lg_sl ([.ref x0, va_rf x1])).length) Slot.unset).toArray) 4 [(0, .ref x0), (1, va_rf x1)] := by cases x1 <;> exact lv_entry _ (Nat.le_of_ble_eq_true rfl)
  rw [lg_entry_eq]
  generalize (lg_sl ([.ref x0, va_rf x1]) ++ List.replicate (4 - (lg_sl ([.ref x0, va_rf x1])).length) Slot.unset).toArray = ls at hl ⊢
  generalize hRe : (headSpec [Cond.code yX7_hasTypeInMethod cX7_hasTypeInMethod 4 (some .boolean)] { frames := 1, cells := 0, slots := 0, locals := 20 }).room = R
  have hR1 : R.frames = 1 ∧ R.cells = 0 ∧ R.slots = 0 ∧ R.locals = 20 := by rw [← hRe]; exact ⟨rfl, rfl, rfl, rfl⟩
  clear hRe B hml
  generalize s.heap = H at hI ⊢
  generalize ([] : List Loc) = locs at hL ⊢
  have hmain := h
  clear h
  have hB2 : ∀ (K2 : Int32 → hmS → Option (Int32 × hmS)), (∀ (v2 : Int32) (σ : hmS) (H : Heap) (locs : List Loc) (ls : Array Slot), K2 v2 σ = some (r, σ') → hmI E σ H → hmLo E locs → lv_has ls 4 [(0, .ref x0), (1, va_rf x1), (2, .int v2)] → W p l e R s m ([.ref x0, va_rf x1] : List Value).toArray below meth c H locs 0 0 (MQ below (hmQc E (some (.int r)) σ') ([.ref x0, va_rf x1] : List Value).toArray s 0 0 (fun q => hmL E ≤ q)) (F0 m 2 ls [])) → ∀ (v2 : Int32) (σ : hmS) (H : Heap) (locs : List Loc) (ls : Array Slot), fX7_hasTypeInMethod_B2 x0 x1  K2 v2 σ = some (r, σ') → hmI E σ H → hmLo E locs → lv_has ls 4 [(0, .ref x0), (1, va_rf x1), (2, .int v2)] → W p l e R s m ([.ref x0, va_rf x1] : List Value).toArray below meth c H locs 0 0 (MQ below (hmQc E (some (.int r)) σ') ([.ref x0, va_rf x1] : List Value).toArray s 0 0 (fun q => hmL E ≤ q)) (F0 m 2 ls []) := by
    intro K2 hk2
    have hJ41 : ∀ (v2 : Int32) (σ : hmS) (H : Heap) (locs : List Loc) (ls : Array Slot), fX7_hasTypeInMethod_J41 x0 x1 K2 v2 σ = some (r, σ') → hmI E σ H → hmLo E locs → lv_has ls 4 [(0, .ref x0), (1, va_rf x1), (2, .int v2)] → W p l e R s m ([.ref x0, va_rf x1] : List Value).toArray below meth c H locs 0 0 (MQ below (hmQc E (some (.int r)) σ') ([.ref x0, va_rf x1] : List Value).toArray s 0 0 (fun q => hmL E ≤ q)) (F0 m 41 ls []) := by
      intro v2 σ H locs ls h hI hL hl
      unfold fX7_hasTypeInMethod_J41 at h
      refine lv_iinc (v := (v2 + (1 : Int32))) (lv' := [(2, .int (v2 + (1 : Int32))), (0, .ref x0), (1, va_rf x1)]) hx hb dX7_hasTypeInMethod_41 hl (k := 2) rfl rfl (by decide) (by cases x1 <;> rfl) (fun ls hl => ?_)
      refine lv_goto (tgt := 2) hx hb dX7_hasTypeInMethod_44 (by decide) ?_
      exact hk2 _ _ _ _ _ h hI hL (lv_sub hl [1, 2, 0] rfl)
    intro v2 σ H locs ls h hI hL hl
    unfold fX7_hasTypeInMethod_B2 at h
    refine lv_iload_n hx hb dX7_hasTypeInMethod_2 rfl (lv_at hl 2 rfl) ?_
    refine lv_aload_n hx hb dX7_hasTypeInMethod_3 rfl (lv_at hl 0 rfl) ?_
    replace h := ob_s h
    obtain ⟨f1, h2, h⟩ := h
    refine hm_get S hK hI (pf_X7_15_9 hK) (gI_s h2) dX7_hasTypeInMethod_4 ?_
    refine lv_icmp_ge (tgt := 47) hx hb dX7_hasTypeInMethod_7 (by decide) (fun c3 => ?_) (fun c3 => ?_)
    · replace h := it_p c3 h
      refine lv_iconst (v := 0) hx hb dX7_hasTypeInMethod_47 (by decide) ?_
      exact hm_zret hx hb hr rfl hI hL h (by omega) (by omega) hlocks dX7_hasTypeInMethod_48
    · replace h := it_n c3 h
      refine lv_aload_n hx hb dX7_hasTypeInMethod_10 rfl (lv_at hl 0 rfl) ?_
      replace h := ob_s h
      obtain ⟨f4, h5, h⟩ := h
      refine hm_get S hK hI (pf_X7_11_9 hK) (gR_s h5) dX7_hasTypeInMethod_11 ?_
      refine lv_iload_n hx hb dX7_hasTypeInMethod_14 rfl (lv_at hl 2 rfl) ?_
      replace h := ob_s h
      obtain ⟨a6, rfl, h⟩ := h
      have hl : lv_has ls 4 [(0, .ref x0), (1, va_rf x1), (2, .int v2)] := hl
      replace h := ob_s h
      obtain ⟨e7, h8, h⟩ := h
      refine hm_aald S hK hI h8 dX7_hasTypeInMethod_15 ?_
      refine hm_astore_n (lv' := [(3, va_rf e7), (0, .ref x0), (1, va_rf x1), (2, .int v2)]) hx hb dX7_hasTypeInMethod_16 rfl hl (by decide) rfl (fun ls hl => ?_)
      refine hm_aload_n hx hb dX7_hasTypeInMethod_17 rfl (lv_at hl 0 rfl) ?_
      cases e7 with
      | none =>
        replace h := oc_n h
        have hl : lv_has ls 4 [(3, va_rf none), (0, .ref x0), (1, va_rf x1), (2, .int v2)] := hl
        refine lv_ifnullN (tgt := 41) hx hb dX7_hasTypeInMethod_18 (by decide) ?_
        exact hJ41 _ _ _ _ _ h hI hL (lv_sub hl [1, 2, 3] rfl)
      | some a9 =>
        replace h := oc_s h
        have hl : lv_has ls 4 [(3, .ref a9), (0, .ref x0), (1, va_rf x1), (2, .int v2)] := hl
        refine lv_ifnull hx hb dX7_hasTypeInMethod_18 ?_
        refine lv_aload_n hx hb dX7_hasTypeInMethod_21 rfl (lv_at hl 0 rfl) ?_
        replace h := ob_s h
        obtain ⟨f10, h11, h⟩ := h
        refine hm_get S hK hI (pf_X7_110_8 hK) (gI_s h11) dX7_hasTypeInMethod_22 ?_
        replace h := cb_s h
        obtain ⟨r14, σ13, h12, h⟩ := h
        refine hm_call (hm_runS (As := [.int f10]) (rest := []) S hK hI (mX7_standsInMethod l E h12) (pm_X7_219 hK) (ps_X7_standsInMethod hK) ⟨by omega, by omega⟩ rfl hl.1 (Nat.le_of_ble_eq_true rfl) ⟨by omega, by omega⟩ dX7_hasTypeInMethod_25) hL (fun H locs hI hL => ?_)
        refine lv_if_eq (tgt := 41) hx hb dX7_hasTypeInMethod_28 (by decide) (fun c15 => ?_) (fun c15 => ?_)
        · replace h := it_p c15 h
          exact hJ41 _ _ _ _ _ h hI hL (lv_sub hl [1, 2, 3] rfl)
        · replace h := it_n c15 h
          refine lv_aload_n hx hb dX7_hasTypeInMethod_31 rfl (lv_at hl 0 rfl) ?_
          replace h := ob_s h
          obtain ⟨f16, h17, h⟩ := h
          refine hm_get S hK hI (pf_X7_216_8 hK) (gR_s h17) dX7_hasTypeInMethod_32 ?_
          refine hm_aload_n hx hb dX7_hasTypeInMethod_35 rfl (lv_at hl 2 rfl) ?_
          refine lv_acmp_ne (rx := f16) (ry := x1) (tgt := 41) hx hb dX7_hasTypeInMethod_36 (by decide) (fun c18 => ?_) (fun c18 => ?_)
          · replace h := it_n c18 h
            exact hJ41 _ _ _ _ _ h hI hL (lv_sub hl [1, 2, 3] rfl)
          · replace h := it_p c18 h
            refine lv_iconst (v := 1) hx hb dX7_hasTypeInMethod_39 (by decide) ?_
            exact hm_zret hx hb hr rfl hI hL h (by omega) (by omega) hlocks dX7_hasTypeInMethod_40
  have hL2 : ∀ n : Nat, ∀ (v2 : Int32) (σ : hmS) (H : Heap) (locs : List Loc) (ls : Array Slot), fX7_hasTypeInMethod_L2 x0 x1  n v2 σ = some (r, σ') → hmI E σ H → hmLo E locs → lv_has ls 4 [(0, .ref x0), (1, va_rf x1), (2, .int v2)] → W p l e R s m ([.ref x0, va_rf x1] : List Value).toArray below meth c H locs 0 0 (MQ below (hmQc E (some (.int r)) σ') ([.ref x0, va_rf x1] : List Value).toArray s 0 0 (fun q => hmL E ≤ q)) (F0 m 2 ls []) := by
    intro n
    induction n with
    | zero =>
      intro v2 σ H locs ls h
      have h : none = some (r, σ') := h
      cases h
    | succ n ih => exact hB2 _ ih
  have h := hmain
  clear hmain
  unfold fX7_hasTypeInMethod at h
  refine lv_iconst (v := 0) hx hb dX7_hasTypeInMethod_0 (by decide) ?_
  refine lv_istore_n (lv' := [(2, .int (0 : Int32)), (0, .ref x0), (1, va_rf x1)]) hx hb dX7_hasTypeInMethod_1 rfl hl (by decide) (by cases x1 <;> rfl) (fun ls hl => ?_)
  exact hL2 20 _ _ _ _ _ h hI hL (lv_sub hl [1, 2, 0] rfl)

def fX7_method (x0 : Nat) (x1 : Int32) (x2 : Int32) (σ : hmS) : Option (Int32 × hmS) :=
  ob (obC σ x0 9) fun _ => cb (fX7_typeAt x0 x1 σ) fun r4 σ3 => oc r4
    (some ((-1 : Int32), σ3))
    (fun a5 => ob (obC σ3 x0 9) fun _ => cb (fX7_hasTypeInMethod x0 (some a5) σ3) fun r9 σ8 => if r9 = 0 then
      ob (gI σ8 a5 8 9) fun f11 => ob (okZ x2) fun _ => ob (wF σ8 a5 8 9 (.int x2)) fun σ14 => if f11 = 0 then
        some ((0 : Int32), σ14)
      else
        some ((1 : Int32), σ14)
    else
      some ((-4 : Int32), σ8))
set_option maxHeartbeats 4000000 in
set_option maxRecDepth 100000 in
theorem mX7_method (l : Launch) (E : hmG) {x0 : Nat} {x1 : Int32} {x2 : Int32} {σ σ' : hmS} {r : Int32} (h : fX7_method x0 x1 x2 σ = some (r, σ')) : Met l yX7_method [Cond.code yX7_method cX7_method 5 (some .int)] { frames := 2, cells := 0, slots := 0, locals := 43 } (hmPc E [.ref x0, .int x1, .int x2] σ) (hmQc E (some (.int r)) σ') 0 0 (fun q => hmL E ≤ q) := by
  refine Met.ofW (cc := cX7_method) (maxL := 5) (ret := (some .int)) (by decide) rfl ?_
  intro p e s m args below meth c s₁ B hml hv
  obtain ⟨rfl, hK, hI⟩ := hv
  have S : CallFix p m c cX7_method 5 s ([.ref x0, .int x1, .int x2] : List Value).toArray [] RX7 := ⟨B.exec, B.bytes, hml, findClass_of_methodNamed B.named, fun w hw => by cases hw⟩
  have hx := S.1
  have hb := S.2.1
  have hr := B.returns
  have hlocks := B.notSynchronized
  have hL : hmLo E [] := hmLo.nil
  have hl : lv_has ((lg_sl ([.ref x0, .int x1, .int x2]) ++ List.replicate (5 - (lg_sl ([.ref x0, .int x1, .int x2])).length) Slot.unset).toArray) 5 [(0, .ref x0), (1, .int x1), (2, .int x2)] := by exact lv_entry _ (Nat.le_of_ble_eq_true rfl)
  rw [lg_entry_eq]
  generalize (lg_sl ([.ref x0, .int x1, .int x2]) ++ List.replicate (5 - (lg_sl ([.ref x0, .int x1, .int x2])).length) Slot.unset).toArray = ls at hl ⊢
  generalize hRe : (headSpec [Cond.code yX7_method cX7_method 5 (some .int)] { frames := 2, cells := 0, slots := 0, locals := 43 }).room = R
  have hR1 : R.frames = 2 ∧ R.cells = 0 ∧ R.slots = 0 ∧ R.locals = 43 := by rw [← hRe]; exact ⟨rfl, rfl, rfl, rfl⟩
  clear hRe B hml
  generalize s.heap = H at hI ⊢
  generalize ([] : List Loc) = locs at hL ⊢
  have hmain := h
  clear h
  have h := hmain
  clear hmain
  unfold fX7_method at h
  refine lv_aload_n hx hb dX7_method_0 rfl (lv_at hl 0 rfl) ?_
  refine lv_iload_n hx hb dX7_method_1 rfl (lv_at hl 1 rfl) ?_
  replace h := ob_s h
  obtain ⟨_, h2, h⟩ := h
  replace h := cb_s h
  obtain ⟨r4, σ3, h1, h⟩ := h
  refine hm_call (hm_runV (As := [.int x1]) (rest := []) (ci := 9) S hK hI (obC_s h2) rfl (mX7_typeAt l E h1) (pm_X7_47 hK) (pi_X7_typeAt hK) (pl_X7_X7_typeAt hK) ⟨by omega, by omega⟩ rfl hl.1 (Nat.le_of_ble_eq_true rfl) ⟨by omega, by omega⟩ dX7_method_2) hL (fun H locs hI hL => ?_)
  refine hm_astore_n (lv' := [(3, va_rf r4), (0, .ref x0), (1, .int x1), (2, .int x2)]) hx hb dX7_method_5 rfl hl (by decide) rfl (fun ls hl => ?_)
  refine hm_aload_n hx hb dX7_method_6 rfl (lv_at hl 0 rfl) ?_
  cases r4 with
  | none =>
    replace h := oc_n h
    have hl : lv_has ls 5 [(3, va_rf none), (0, .ref x0), (1, .int x1), (2, .int x2)] := hl
    refine lv_ifnonnullN hx hb dX7_method_7 ?_
    refine lv_iconst (v := -1) hx hb dX7_method_10 (by decide) ?_
    exact hm_iret hx hb hr hI hL h (by omega) (by omega) hlocks dX7_method_11
  | some a5 =>
    replace h := oc_s h
    have hl : lv_has ls 5 [(3, .ref a5), (0, .ref x0), (1, .int x1), (2, .int x2)] := hl
    refine lv_ifnonnull (tgt := 12) hx hb dX7_method_7 (by decide) ?_
    refine lv_aload_n hx hb dX7_method_12 rfl (lv_at hl 1 rfl) ?_
    refine lv_aload_n hx hb dX7_method_13 rfl (lv_at hl 0 rfl) ?_
    replace h := ob_s h
    obtain ⟨_, h7, h⟩ := h
    replace h := cb_s h
    obtain ⟨r9, σ8, h6, h⟩ := h
    refine hm_call (hm_runV (As := [.ref a5]) (rest := []) (ci := 9) S hK hI (obC_s h7) rfl (mX7_hasTypeInMethod l E h6) (pm_X7_102 hK) (pi_X7_hasTypeInMethod hK) (pl_X7_X7_hasTypeInMethod hK) ⟨by omega, by omega⟩ rfl hl.1 (Nat.le_of_ble_eq_true rfl) ⟨by omega, by omega⟩ dX7_method_14) hL (fun H locs hI hL => ?_)
    refine lv_if_eq (tgt := 23) hx hb dX7_method_17 (by decide) (fun c10 => ?_) (fun c10 => ?_)
    · replace h := it_p c10 h
      refine lv_aload_n hx hb dX7_method_23 rfl (lv_at hl 0 rfl) ?_
      replace h := ob_s h
      obtain ⟨f11, h12, h⟩ := h
      refine hm_get S hK hI (pf_X7_106_8 hK) (gI_s h12) dX7_method_24 ?_
      refine lv_istore (lv' := [(4, .int f11), (3, .ref a5), (0, .ref x0), (1, .int x1), (2, .int x2)]) hx hb dX7_method_27 hl (by decide) rfl (fun ls hl => ?_)
      refine lv_aload_n hx hb dX7_method_29 rfl (lv_at hl 1 rfl) ?_
      refine lv_iload_n hx hb dX7_method_30 rfl (lv_at hl 4 rfl) ?_
      replace h := ob_s h
      obtain ⟨_, z13, h⟩ := h
      replace h := ob_s h
      obtain ⟨σ14, h15, h⟩ := h
      refine hm_put S hK hI hL (pf_X7_106_8 hK) h15 (okZ_n z13) dX7_method_31 (fun H locs hI hL => ?_)
      refine lv_iload hx hb dX7_method_34 (lv_at hl 0 rfl) ?_
      refine lv_if_eq (tgt := 43) hx hb dX7_method_36 (by decide) (fun c16 => ?_) (fun c16 => ?_)
      · replace h := it_p c16 h
        refine lv_iconst (v := 0) hx hb dX7_method_43 (by decide) ?_
        exact hm_iret hx hb hr hI hL h (by omega) (by omega) hlocks dX7_method_44
      · replace h := it_n c16 h
        refine lv_iconst (v := 1) hx hb dX7_method_39 (by decide) ?_
        refine lv_goto (tgt := 44) hx hb dX7_method_40 (by decide) ?_
        exact hm_iret hx hb hr hI hL h (by omega) (by omega) hlocks dX7_method_44
    · replace h := it_n c10 h
      refine lv_bipush (v := -4) hx hb dX7_method_20 (by decide) ?_
      exact hm_iret hx hb hr hI hL h (by omega) (by omega) hlocks dX7_method_22

def fX7_isSameOrAbove_B4 (x0 : Option Nat) (x1 : Option Nat)  (K4 : Option Nat → Int32 → hmS → Option (Int32 × hmS)) (v2 : Option Nat) (v3 : Int32) (σ : hmS) : Option (Int32 × hmS) :=
  oc v2
    (some ((0 : Int32), σ))
    (fun a1 => if (12 : Int32) ≤ v3 then
      some ((0 : Int32), σ)
    else
      if (some a1) = x0 then
        some ((1 : Int32), σ)
      else
        ob (gR σ a1 8 10) fun f4 => K4 f4 (v3 + (1 : Int32)) σ)
def fX7_isSameOrAbove_L4 (x0 : Option Nat) (x1 : Option Nat)  : Nat → Option Nat → Int32 → hmS → Option (Int32 × hmS)
  | 0 => fun _ _ _ => none
  | n + 1 => fX7_isSameOrAbove_B4 x0 x1  (fX7_isSameOrAbove_L4 x0 x1  n)
def fX7_isSameOrAbove (x0 : Option Nat) (x1 : Option Nat) (σ : hmS) : Option (Int32 × hmS) :=
  fX7_isSameOrAbove_L4 x0 x1 20 x1 (0 : Int32) σ
set_option maxHeartbeats 4000000 in
set_option maxRecDepth 100000 in
theorem mX7_isSameOrAbove (l : Launch) (E : hmG) {x0 : Option Nat} {x1 : Option Nat} {σ σ' : hmS} {r : Int32} (h : fX7_isSameOrAbove x0 x1 σ = some (r, σ')) : Met l yX7_isSameOrAbove [Cond.code yX7_isSameOrAbove cX7_isSameOrAbove 4 (some .boolean)] { frames := 0, cells := 0, slots := 0, locals := 0 } (hmPc E [va_rf x0, va_rf x1] σ) (hmQc E (some (.int r)) σ') 0 0 (fun q => hmL E ≤ q) := by
  refine Met.ofW (cc := cX7_isSameOrAbove) (maxL := 4) (ret := (some .boolean)) (by decide) rfl ?_
  intro p e s m args below meth c s₁ B hml hv
  obtain ⟨rfl, hK, hI⟩ := hv
  have S : CallFix p m c cX7_isSameOrAbove 4 s ([va_rf x0, va_rf x1] : List Value).toArray [] RX7 := ⟨B.exec, B.bytes, hml, findClass_of_methodNamed B.named, fun w hw => by cases hw⟩
  have hx := S.1
  have hb := S.2.1
  have hr := B.returns
  have hlocks := B.notSynchronized
  have hL : hmLo E [] := hmLo.nil
  have hl : lv_has ((lg_sl ([va_rf x0, va_rf x1]) ++ List.replicate (4 - (lg_sl ([va_rf x0, va_rf x1])).length) Slot.unset).toArray) 4 [(0, va_rf x0), (1, va_rf x1)] := by cases x0 <;> cases x1 <;> exact lv_entry _ (Nat.le_of_ble_eq_true rfl)
  rw [lg_entry_eq]
  generalize (lg_sl ([va_rf x0, va_rf x1]) ++ List.replicate (4 - (lg_sl ([va_rf x0, va_rf x1])).length) Slot.unset).toArray = ls at hl ⊢
  generalize hRe : (headSpec [Cond.code yX7_isSameOrAbove cX7_isSameOrAbove 4 (some .boolean)] { frames := 0, cells := 0, slots := 0, locals := 0 }).room = R
  have hR1 : R.frames = 0 ∧ R.cells = 0 ∧ R.slots = 0 ∧ R.locals = 0 := by rw [← hRe]; exact ⟨rfl, rfl, rfl, rfl⟩
  clear hRe B hml
  generalize s.heap = H at hI ⊢
  generalize ([] : List Loc) = locs at hL ⊢
  have hmain := h
  clear h
  have hB4 : ∀ (K4 : Option Nat → Int32 → hmS → Option (Int32 × hmS)), (∀ (v2 : Option Nat) (v3 : Int32) (σ : hmS) (H : Heap) (locs : List Loc) (ls : Array Slot), K4 v2 v3 σ = some (r, σ') → hmI E σ H → hmLo E locs → lv_has ls 4 [(0, va_rf x0), (2, va_rf v2), (3, .int v3)] → W p l e R s m ([va_rf x0, va_rf x1] : List Value).toArray below meth c H locs 0 0 (MQ below (hmQc E (some (.int r)) σ') ([va_rf x0, va_rf x1] : List Value).toArray s 0 0 (fun q => hmL E ≤ q)) (F0 m 4 ls [])) → ∀ (v2 : Option Nat) (v3 : Int32) (σ : hmS) (H : Heap) (locs : List Loc) (ls : Array Slot), fX7_isSameOrAbove_B4 x0 x1  K4 v2 v3 σ = some (r, σ') → hmI E σ H → hmLo E locs → lv_has ls 4 [(0, va_rf x0), (2, va_rf v2), (3, .int v3)] → W p l e R s m ([va_rf x0, va_rf x1] : List Value).toArray below meth c H locs 0 0 (MQ below (hmQc E (some (.int r)) σ') ([va_rf x0, va_rf x1] : List Value).toArray s 0 0 (fun q => hmL E ≤ q)) (F0 m 4 ls []) := by
    intro K4 hk4
    intro v2 v3 σ H locs ls h hI hL hl
    unfold fX7_isSameOrAbove_B4 at h
    refine hm_aload_n hx hb dX7_isSameOrAbove_4 rfl (lv_at hl 1 rfl) ?_
    cases v2 with
    | none =>
      replace h := oc_n h
      have hl : lv_has ls 4 [(0, va_rf x0), (2, va_rf none), (3, .int v3)] := hl
      refine lv_ifnullN (tgt := 32) hx hb dX7_isSameOrAbove_5 (by decide) ?_
      refine lv_iconst (v := 0) hx hb dX7_isSameOrAbove_32 (by decide) ?_
      exact hm_zret hx hb hr rfl hI hL h (by omega) (by omega) hlocks dX7_isSameOrAbove_33
    | some a1 =>
      replace h := oc_s h
      have hl : lv_has ls 4 [(0, va_rf x0), (2, .ref a1), (3, .int v3)] := hl
      refine lv_ifnull hx hb dX7_isSameOrAbove_5 ?_
      refine lv_iload_n hx hb dX7_isSameOrAbove_8 rfl (lv_at hl 2 rfl) ?_
      refine lv_bipush (v := 12) hx hb dX7_isSameOrAbove_9 (by decide) ?_
      refine lv_icmp_ge (tgt := 32) hx hb dX7_isSameOrAbove_11 (by decide) (fun c2 => ?_) (fun c2 => ?_)
      · replace h := it_p c2 h
        refine lv_iconst (v := 0) hx hb dX7_isSameOrAbove_32 (by decide) ?_
        exact hm_zret hx hb hr rfl hI hL h (by omega) (by omega) hlocks dX7_isSameOrAbove_33
      · replace h := it_n c2 h
        refine lv_aload_n hx hb dX7_isSameOrAbove_14 rfl (lv_at hl 1 rfl) ?_
        refine hm_aload_n hx hb dX7_isSameOrAbove_15 rfl (lv_at hl 0 rfl) ?_
        refine lv_acmp_ne (rx := (some a1)) (ry := x0) (tgt := 21) hx hb dX7_isSameOrAbove_16 (by decide) (fun c3 => ?_) (fun c3 => ?_)
        · replace h := it_n c3 h
          refine lv_aload_n hx hb dX7_isSameOrAbove_21 rfl (lv_at hl 1 rfl) ?_
          replace h := ob_s h
          obtain ⟨f4, h5, h⟩ := h
          refine hm_get S hK hI (pf_X7_113_8 hK) (gR_s h5) dX7_isSameOrAbove_22 ?_
          refine hm_astore_n (lv' := [(2, va_rf f4), (0, va_rf x0), (3, .int v3)]) hx hb dX7_isSameOrAbove_25 rfl hl (by decide) rfl (fun ls hl => ?_)
          refine lv_iinc (v := (v3 + (1 : Int32))) (lv' := [(3, .int (v3 + (1 : Int32))), (2, va_rf f4), (0, va_rf x0)]) hx hb dX7_isSameOrAbove_26 hl (k := 2) rfl rfl (by decide) (by cases f4 <;> rfl) (fun ls hl => ?_)
          refine lv_goto (tgt := 4) hx hb dX7_isSameOrAbove_29 (by decide) ?_
          exact hk4 _ _ _ _ _ _ h hI hL (lv_sub hl [2, 1, 0] rfl)
        · replace h := it_p c3 h
          refine lv_iconst (v := 1) hx hb dX7_isSameOrAbove_19 (by decide) ?_
          exact hm_zret hx hb hr rfl hI hL h (by omega) (by omega) hlocks dX7_isSameOrAbove_20
  have hL4 : ∀ n : Nat, ∀ (v2 : Option Nat) (v3 : Int32) (σ : hmS) (H : Heap) (locs : List Loc) (ls : Array Slot), fX7_isSameOrAbove_L4 x0 x1  n v2 v3 σ = some (r, σ') → hmI E σ H → hmLo E locs → lv_has ls 4 [(0, va_rf x0), (2, va_rf v2), (3, .int v3)] → W p l e R s m ([va_rf x0, va_rf x1] : List Value).toArray below meth c H locs 0 0 (MQ below (hmQc E (some (.int r)) σ') ([va_rf x0, va_rf x1] : List Value).toArray s 0 0 (fun q => hmL E ≤ q)) (F0 m 4 ls []) := by
    intro n
    induction n with
    | zero =>
      intro v2 v3 σ H locs ls h
      have h : none = some (r, σ') := h
      cases h
    | succ n ih => exact hB4 _ ih
  have h := hmain
  clear hmain
  unfold fX7_isSameOrAbove at h
  refine hm_aload_n hx hb dX7_isSameOrAbove_0 rfl (lv_at hl 1 rfl) ?_
  refine hm_astore_n (lv' := [(2, va_rf x1), (0, va_rf x0), (1, va_rf x1)]) hx hb dX7_isSameOrAbove_1 rfl hl (by decide) (by cases x1 <;> rfl) (fun ls hl => ?_)
  refine lv_iconst (v := 0) hx hb dX7_isSameOrAbove_2 (by decide) ?_
  refine lv_istore_n (lv' := [(3, .int (0 : Int32)), (2, va_rf x1), (0, va_rf x0), (1, va_rf x1)]) hx hb dX7_isSameOrAbove_3 rfl hl (by decide) (by cases x1 <;> rfl) (fun ls hl => ?_)
  exact hL4 20 _ _ _ _ _ _ h hI hL (lv_sub hl [2, 1, 0] rfl)

def fX7_parent (x0 : Nat) (x1 : Int32) (x2 : Int32) (σ : hmS) : Option (Int32 × hmS) :=
  ob (obC σ x0 9) fun _ => cb (fX7_typeAt x0 x1 σ) fun r4 σ3 => ob (obC σ3 x0 9) fun _ => cb (fX7_typeAt x0 x2 σ3) fun r8 σ7 => oc r4
    (some ((-1 : Int32), σ7))
    (fun a9 => oc r8
      (some ((-1 : Int32), σ7))
      (fun a10 => ob (gI σ7 a9 8 1) fun f11 => if f11 = (4 : Int32) then
        some ((-1 : Int32), σ7)
      else
        ob (gI σ7 a10 8 1) fun f14 => if f14 = (4 : Int32) then
          some ((-1 : Int32), σ7)
        else
          ob (gR σ7 a9 8 10) fun f17 => oc f17
            (cb (fX7_isSameOrAbove (some a9) (some a10) σ7) fun r22 σ21 => if r22 = 0 then
              ob (wF σ21 a9 8 10 (.ref a10)) fun σ24 => some ((1 : Int32), σ24)
            else
              some ((-4 : Int32), σ21))
            (fun a19 => some ((-4 : Int32), σ7))))
set_option maxHeartbeats 4000000 in
set_option maxRecDepth 100000 in
theorem mX7_parent (l : Launch) (E : hmG) {x0 : Nat} {x1 : Int32} {x2 : Int32} {σ σ' : hmS} {r : Int32} (h : fX7_parent x0 x1 x2 σ = some (r, σ')) : Met l yX7_parent [Cond.code yX7_parent cX7_parent 5 (some .int)] { frames := 1, cells := 0, slots := 0, locals := 23 } (hmPc E [.ref x0, .int x1, .int x2] σ) (hmQc E (some (.int r)) σ') 0 0 (fun q => hmL E ≤ q) := by
  refine Met.ofW (cc := cX7_parent) (maxL := 5) (ret := (some .int)) (by decide) rfl ?_
  intro p e s m args below meth c s₁ B hml hv
  obtain ⟨rfl, hK, hI⟩ := hv
  have S : CallFix p m c cX7_parent 5 s ([.ref x0, .int x1, .int x2] : List Value).toArray [] RX7 := ⟨B.exec, B.bytes, hml, findClass_of_methodNamed B.named, fun w hw => by cases hw⟩
  have hx := S.1
  have hb := S.2.1
  have hr := B.returns
  have hlocks := B.notSynchronized
  have hL : hmLo E [] := hmLo.nil
  have hl : lv_has ((lg_sl ([.ref x0, .int x1, .int x2]) ++ List.replicate (5 - (lg_sl ([.ref x0, .int x1, .int x2])).length) Slot.unset).toArray) 5 [(0, .ref x0), (1, .int x1), (2, .int x2)] := by exact lv_entry _ (Nat.le_of_ble_eq_true rfl)
  rw [lg_entry_eq]
  generalize (lg_sl ([.ref x0, .int x1, .int x2]) ++ List.replicate (5 - (lg_sl ([.ref x0, .int x1, .int x2])).length) Slot.unset).toArray = ls at hl ⊢
  generalize hRe : (headSpec [Cond.code yX7_parent cX7_parent 5 (some .int)] { frames := 1, cells := 0, slots := 0, locals := 23 }).room = R
  have hR1 : R.frames = 1 ∧ R.cells = 0 ∧ R.slots = 0 ∧ R.locals = 23 := by rw [← hRe]; exact ⟨rfl, rfl, rfl, rfl⟩
  clear hRe B hml
  generalize s.heap = H at hI ⊢
  generalize ([] : List Loc) = locs at hL ⊢
  have hmain := h
  clear h
  have h := hmain
  clear hmain
  unfold fX7_parent at h
  refine lv_aload_n hx hb dX7_parent_0 rfl (lv_at hl 0 rfl) ?_
  refine lv_iload_n hx hb dX7_parent_1 rfl (lv_at hl 1 rfl) ?_
  replace h := ob_s h
  obtain ⟨_, h2, h⟩ := h
  replace h := cb_s h
  obtain ⟨r4, σ3, h1, h⟩ := h
  refine hm_call (hm_runV (As := [.int x1]) (rest := []) (ci := 9) S hK hI (obC_s h2) rfl (mX7_typeAt l E h1) (pm_X7_47 hK) (pi_X7_typeAt hK) (pl_X7_X7_typeAt hK) ⟨by omega, by omega⟩ rfl hl.1 (Nat.le_of_ble_eq_true rfl) ⟨by omega, by omega⟩ dX7_parent_2) hL (fun H locs hI hL => ?_)
  refine hm_astore_n (lv' := [(3, va_rf r4), (0, .ref x0), (1, .int x1), (2, .int x2)]) hx hb dX7_parent_5 rfl hl (by decide) rfl (fun ls hl => ?_)
  refine lv_aload_n hx hb dX7_parent_6 rfl (lv_at hl 1 rfl) ?_
  refine lv_iload_n hx hb dX7_parent_7 rfl (lv_at hl 3 rfl) ?_
  replace h := ob_s h
  obtain ⟨_, h6, h⟩ := h
  replace h := cb_s h
  obtain ⟨r8, σ7, h5, h⟩ := h
  refine hm_call (hm_runV (As := [.int x2]) (rest := []) (ci := 9) S hK hI (obC_s h6) rfl (mX7_typeAt l E h5) (pm_X7_47 hK) (pi_X7_typeAt hK) (pl_X7_X7_typeAt hK) ⟨by omega, by omega⟩ rfl hl.1 (Nat.le_of_ble_eq_true rfl) ⟨by omega, by omega⟩ dX7_parent_8) hL (fun H locs hI hL => ?_)
  refine hm_astore (lv' := [(4, va_rf r8), (3, va_rf r4), (0, .ref x0), (1, .int x1), (2, .int x2)]) hx hb dX7_parent_11 hl (by decide) (by cases r4 <;> rfl) (fun ls hl => ?_)
  refine hm_aload_n hx hb dX7_parent_13 rfl (lv_at hl 1 rfl) ?_
  cases r4 with
  | none =>
    replace h := oc_n h
    have hl : lv_has ls 5 [(4, va_rf r8), (3, va_rf none), (0, .ref x0), (1, .int x1), (2, .int x2)] := hl
    refine lv_ifnullN (tgt := 22) hx hb dX7_parent_14 (by decide) ?_
    refine lv_iconst (v := -1) hx hb dX7_parent_22 (by decide) ?_
    exact hm_iret hx hb hr hI hL h (by omega) (by omega) hlocks dX7_parent_23
  | some a9 =>
    replace h := oc_s h
    have hl : lv_has ls 5 [(4, va_rf r8), (3, .ref a9), (0, .ref x0), (1, .int x1), (2, .int x2)] := hl
    refine lv_ifnull hx hb dX7_parent_14 ?_
    refine hm_aload hx hb dX7_parent_17 (lv_at hl 0 rfl) ?_
    cases r8 with
    | none =>
      replace h := oc_n h
      have hl : lv_has ls 5 [(4, va_rf none), (3, .ref a9), (0, .ref x0), (1, .int x1), (2, .int x2)] := hl
      refine lv_ifnonnullN hx hb dX7_parent_19 ?_
      refine lv_iconst (v := -1) hx hb dX7_parent_22 (by decide) ?_
      exact hm_iret hx hb hr hI hL h (by omega) (by omega) hlocks dX7_parent_23
    | some a10 =>
      replace h := oc_s h
      have hl : lv_has ls 5 [(4, .ref a10), (3, .ref a9), (0, .ref x0), (1, .int x1), (2, .int x2)] := hl
      refine lv_ifnonnull (tgt := 24) hx hb dX7_parent_19 (by decide) ?_
      refine lv_aload_n hx hb dX7_parent_24 rfl (lv_at hl 1 rfl) ?_
      replace h := ob_s h
      obtain ⟨f11, h12, h⟩ := h
      refine hm_get S hK hI (pf_X7_110_8 hK) (gI_s h12) dX7_parent_25 ?_
      refine lv_iconst (v := 4) hx hb dX7_parent_28 (by decide) ?_
      refine lv_icmp_eq (tgt := 41) hx hb dX7_parent_29 (by decide) (fun c13 => ?_) (fun c13 => ?_)
      · replace h := it_p c13 h
        refine lv_iconst (v := -1) hx hb dX7_parent_41 (by decide) ?_
        exact hm_iret hx hb hr hI hL h (by omega) (by omega) hlocks dX7_parent_42
      · replace h := it_n c13 h
        refine lv_aload hx hb dX7_parent_32 (lv_at hl 0 rfl) ?_
        replace h := ob_s h
        obtain ⟨f14, h15, h⟩ := h
        refine hm_get S hK hI (pf_X7_110_8 hK) (gI_s h15) dX7_parent_34 ?_
        refine lv_iconst (v := 4) hx hb dX7_parent_37 (by decide) ?_
        refine lv_icmp_ne (tgt := 43) hx hb dX7_parent_38 (by decide) (fun c16 => ?_) (fun c16 => ?_)
        · replace h := it_n c16 h
          refine lv_aload_n hx hb dX7_parent_43 rfl (lv_at hl 1 rfl) ?_
          replace h := ob_s h
          obtain ⟨f17, h18, h⟩ := h
          refine hm_get S hK hI (pf_X7_113_8 hK) (gR_s h18) dX7_parent_44 ?_
          cases f17 with
          | none =>
            replace h := oc_n h
            have hl : lv_has ls 5 [(4, .ref a10), (3, .ref a9), (0, .ref x0), (1, .int x1), (2, .int x2)] := hl
            refine lv_ifnonnullN hx hb dX7_parent_47 ?_
            refine lv_aload_n hx hb dX7_parent_50 rfl (lv_at hl 1 rfl) ?_
            refine lv_aload hx hb dX7_parent_51 (lv_at hl 0 rfl) ?_
            replace h := cb_s h
            obtain ⟨r22, σ21, h20, h⟩ := h
            refine hm_call (hm_runS (As := [.ref a9, .ref a10]) (rest := []) S hK hI (mX7_isSameOrAbove l E h20) (pm_X7_117 hK) (ps_X7_isSameOrAbove hK) ⟨by omega, by omega⟩ rfl hl.1 (Nat.le_of_ble_eq_true rfl) ⟨by omega, by omega⟩ dX7_parent_53) hL (fun H locs hI hL => ?_)
            refine lv_if_eq (tgt := 62) hx hb dX7_parent_56 (by decide) (fun c23 => ?_) (fun c23 => ?_)
            · replace h := it_p c23 h
              refine lv_aload_n hx hb dX7_parent_62 rfl (lv_at hl 1 rfl) ?_
              refine lv_aload hx hb dX7_parent_63 (lv_at hl 0 rfl) ?_
              replace h := ob_s h
              obtain ⟨σ24, h25, h⟩ := h
              refine hm_put S hK hI hL (pf_X7_113_8 hK) h25 ⟨rfl, rfl⟩ dX7_parent_65 (fun H locs hI hL => ?_)
              refine lv_iconst (v := 1) hx hb dX7_parent_68 (by decide) ?_
              exact hm_iret hx hb hr hI hL h (by omega) (by omega) hlocks dX7_parent_69
            · replace h := it_n c23 h
              refine lv_bipush (v := -4) hx hb dX7_parent_59 (by decide) ?_
              exact hm_iret hx hb hr hI hL h (by omega) (by omega) hlocks dX7_parent_61
          | some a19 =>
            replace h := oc_s h
            have hl : lv_has ls 5 [(4, .ref a10), (3, .ref a9), (0, .ref x0), (1, .int x1), (2, .int x2)] := hl
            refine lv_ifnonnull (tgt := 59) hx hb dX7_parent_47 (by decide) ?_
            refine lv_bipush (v := -4) hx hb dX7_parent_59 (by decide) ?_
            exact hm_iret hx hb hr hI hL h (by omega) (by omega) hlocks dX7_parent_61
        · replace h := it_p c16 h
          refine lv_iconst (v := -1) hx hb dX7_parent_41 (by decide) ?_
          exact hm_iret hx hb hr hI hL h (by omega) (by omega) hlocks dX7_parent_42

def fX7_name (E : hmG) (x0 : Nat) (x1 : Int32) (x2 : Int32) (σ : hmS) : Option (Int32 × hmS) :=
  ob (obC σ x0 9) fun _ => cb (fX7_typeAt x0 x1 σ) fun r4 σ3 => oc r4
    (some ((-1 : Int32), σ3))
    (fun a5 => ob (gR σ3 a5 8 6) fun f6 => if x2 = (-3 : Int32) then
      ob f6 fun a20 => ob (obC σ3 a20 0) fun _ => cb (fJ0_length_8abf5 a20 σ3) fun r24 σ23 => some (r24, σ23)
    else
      if x2 < 0 then
        some ((-1 : Int32), σ3)
      else
        ob f6 fun a10 => ob (obC σ3 a10 0) fun _ => cb (fJ0_length_8abf5 a10 σ3) fun r14 σ13 => if x2 < r14 then
          ob (obC σ13 a10 0) fun _ => cb (fJ0_charAt_5068e E a10 x2 σ13) fun r19 σ18 => some (r19, σ18)
        else
          some ((-1 : Int32), σ13))
set_option maxHeartbeats 4000000 in
set_option maxRecDepth 100000 in
theorem mX7_name (l : Launch) (E : hmG) {x0 : Nat} {x1 : Int32} {x2 : Int32} {σ σ' : hmS} {r : Int32} (h : fX7_name E x0 x1 x2 σ = some (r, σ')) : Met l yX7_name [Cond.code yX7_name cX7_name 5 (some .int)] { frames := 4, cells := 0, slots := 0, locals := 85 } (hmPc E [.ref x0, .int x1, .int x2] σ) (hmQc E (some (.int r)) σ') 0 0 (fun q => hmL E ≤ q) := by
  refine Met.ofW (cc := cX7_name) (maxL := 5) (ret := (some .int)) (by decide) rfl ?_
  intro p e s m args below meth c s₁ B hml hv
  obtain ⟨rfl, hK, hI⟩ := hv
  have S : CallFix p m c cX7_name 5 s ([.ref x0, .int x1, .int x2] : List Value).toArray [] RX7 := ⟨B.exec, B.bytes, hml, findClass_of_methodNamed B.named, fun w hw => by cases hw⟩
  have hx := S.1
  have hb := S.2.1
  have hr := B.returns
  have hlocks := B.notSynchronized
  have hL : hmLo E [] := hmLo.nil
  have hl : lv_has ((lg_sl ([.ref x0, .int x1, .int x2]) ++ List.replicate (5 - (lg_sl ([.ref x0, .int x1, .int x2])).length) Slot.unset).toArray) 5 [(0, .ref x0), (1, .int x1), (2, .int x2)] := by exact lv_entry _ (Nat.le_of_ble_eq_true rfl)
  rw [lg_entry_eq]
  generalize (lg_sl ([.ref x0, .int x1, .int x2]) ++ List.replicate (5 - (lg_sl ([.ref x0, .int x1, .int x2])).length) Slot.unset).toArray = ls at hl ⊢
  generalize hRe : (headSpec [Cond.code yX7_name cX7_name 5 (some .int)] { frames := 4, cells := 0, slots := 0, locals := 85 }).room = R
  have hR1 : R.frames = 4 ∧ R.cells = 0 ∧ R.slots = 0 ∧ R.locals = 85 := by rw [← hRe]; exact ⟨rfl, rfl, rfl, rfl⟩
  clear hRe B hml
  generalize s.heap = H at hI ⊢
  generalize ([] : List Loc) = locs at hL ⊢
  have hmain := h
  clear h
  have h := hmain
  clear hmain
  unfold fX7_name at h
  refine lv_aload_n hx hb dX7_name_0 rfl (lv_at hl 0 rfl) ?_
  refine lv_iload_n hx hb dX7_name_1 rfl (lv_at hl 1 rfl) ?_
  replace h := ob_s h
  obtain ⟨_, h2, h⟩ := h
  replace h := cb_s h
  obtain ⟨r4, σ3, h1, h⟩ := h
  refine hm_call (hm_runV (As := [.int x1]) (rest := []) (ci := 9) S hK hI (obC_s h2) rfl (mX7_typeAt l E h1) (pm_X7_47 hK) (pi_X7_typeAt hK) (pl_X7_X7_typeAt hK) ⟨by omega, by omega⟩ rfl hl.1 (Nat.le_of_ble_eq_true rfl) ⟨by omega, by omega⟩ dX7_name_2) hL (fun H locs hI hL => ?_)
  refine hm_astore_n (lv' := [(3, va_rf r4), (0, .ref x0), (1, .int x1), (2, .int x2)]) hx hb dX7_name_5 rfl hl (by decide) rfl (fun ls hl => ?_)
  refine hm_aload_n hx hb dX7_name_6 rfl (lv_at hl 0 rfl) ?_
  cases r4 with
  | none =>
    replace h := oc_n h
    have hl : lv_has ls 5 [(3, va_rf none), (0, .ref x0), (1, .int x1), (2, .int x2)] := hl
    refine lv_ifnonnullN hx hb dX7_name_7 ?_
    refine lv_iconst (v := -1) hx hb dX7_name_10 (by decide) ?_
    exact hm_iret hx hb hr hI hL h (by omega) (by omega) hlocks dX7_name_11
  | some a5 =>
    replace h := oc_s h
    have hl : lv_has ls 5 [(3, .ref a5), (0, .ref x0), (1, .int x1), (2, .int x2)] := hl
    refine lv_ifnonnull (tgt := 12) hx hb dX7_name_7 (by decide) ?_
    refine lv_aload_n hx hb dX7_name_12 rfl (lv_at hl 0 rfl) ?_
    replace h := ob_s h
    obtain ⟨f6, h7, h⟩ := h
    refine hm_get S hK hI (pf_X7_121_8 hK) (gR_s h7) dX7_name_13 ?_
    refine hm_astore (lv' := [(4, va_rf f6), (3, .ref a5), (0, .ref x0), (1, .int x1), (2, .int x2)]) hx hb dX7_name_16 hl (by decide) rfl (fun ls hl => ?_)
    refine lv_iload_n hx hb dX7_name_18 rfl (lv_at hl 4 rfl) ?_
    refine lv_bipush (v := -3) hx hb dX7_name_19 (by decide) ?_
    refine lv_icmp_ne (tgt := 30) hx hb dX7_name_21 (by decide) (fun c8 => ?_) (fun c8 => ?_)
    · replace h := it_n c8 h
      refine lv_iload_n hx hb dX7_name_30 rfl (lv_at hl 4 rfl) ?_
      refine lv_if_lt (tgt := 43) hx hb dX7_name_31 (by decide) (fun c9 => ?_) (fun c9 => ?_)
      · replace h := it_p c9 h
        refine lv_iconst (v := -1) hx hb dX7_name_43 (by decide) ?_
        exact hm_iret hx hb hr hI hL h (by omega) (by omega) hlocks dX7_name_44
      · replace h := it_n c9 h
        refine lv_iload_n hx hb dX7_name_34 rfl (lv_at hl 4 rfl) ?_
        refine hm_aload hx hb dX7_name_35 (lv_at hl 0 rfl) ?_
        replace h := ob_s h
        obtain ⟨a10, rfl, h⟩ := h
        have hl : lv_has ls 5 [(4, .ref a10), (3, .ref a5), (0, .ref x0), (1, .int x1), (2, .int x2)] := hl
        replace h := ob_s h
        obtain ⟨_, h12, h⟩ := h
        replace h := cb_s h
        obtain ⟨r14, σ13, h11, h⟩ := h
        refine hm_call (hm_runV (As := []) (rest := [.int x2]) (ci := 0) S hK hI (obC_s h12) rfl (mJ0_length_8abf5 l E h11) (pm_X7_125 hK) (pi_J0_length_8abf5 hK) (pl_J0_J0_length_8abf5 hK) ⟨by omega, by omega⟩ rfl hl.1 (Nat.le_of_ble_eq_true rfl) ⟨by omega, by omega⟩ dX7_name_37) hL (fun H locs hI hL => ?_)
        refine lv_icmp_lt (tgt := 45) hx hb dX7_name_40 (by decide) (fun c15 => ?_) (fun c15 => ?_)
        · replace h := it_p c15 h
          refine lv_aload hx hb dX7_name_45 (lv_at hl 0 rfl) ?_
          refine lv_iload_n hx hb dX7_name_47 rfl (lv_at hl 4 rfl) ?_
          replace h := ob_s h
          obtain ⟨_, h17, h⟩ := h
          replace h := cb_s h
          obtain ⟨r19, σ18, h16, h⟩ := h
          refine hm_call (hm_runV (As := [.int x2]) (rest := []) (ci := 0) S hK hI (obC_s h17) rfl (mJ0_charAt_5068e l E h16) (pm_X7_131 hK) (pi_J0_charAt_5068e hK) (pl_J0_J0_charAt_5068e hK) ⟨by omega, by omega⟩ rfl hl.1 (Nat.le_of_ble_eq_true rfl) ⟨by omega, by omega⟩ dX7_name_48) hL (fun H locs hI hL => ?_)
          exact hm_iret hx hb hr hI hL h (by omega) (by omega) hlocks dX7_name_51
        · replace h := it_n c15 h
          refine lv_iconst (v := -1) hx hb dX7_name_43 (by decide) ?_
          exact hm_iret hx hb hr hI hL h (by omega) (by omega) hlocks dX7_name_44
    · replace h := it_p c8 h
      refine hm_aload hx hb dX7_name_24 (lv_at hl 0 rfl) ?_
      replace h := ob_s h
      obtain ⟨a20, rfl, h⟩ := h
      have hl : lv_has ls 5 [(4, .ref a20), (3, .ref a5), (0, .ref x0), (1, .int x1), (2, .int x2)] := hl
      replace h := ob_s h
      obtain ⟨_, h22, h⟩ := h
      replace h := cb_s h
      obtain ⟨r24, σ23, h21, h⟩ := h
      refine hm_call (hm_runV (As := []) (rest := []) (ci := 0) S hK hI (obC_s h22) rfl (mJ0_length_8abf5 l E h21) (pm_X7_125 hK) (pi_J0_length_8abf5 hK) (pl_J0_J0_length_8abf5 hK) ⟨by omega, by omega⟩ rfl hl.1 (Nat.le_of_ble_eq_true rfl) ⟨by omega, by omega⟩ dX7_name_26) hL (fun H locs hI hL => ?_)
      exact hm_iret hx hb hr hI hL h (by omega) (by omega) hlocks dX7_name_29

def fX7_levelCount_B4 (x0 : Option Nat)  (K4 : Int32 → Option Nat → hmS → Option (Int32 × hmS)) (v1 : Int32) (v2 : Option Nat) (σ : hmS) : Option (Int32 × hmS) :=
  oc v2
    (some (v1, σ))
    (fun a1 => if (12 : Int32) ≤ v1 then
      some (v1, σ)
    else
      ob (gR σ a1 8 10) fun f3 => K4 (v1 + (1 : Int32)) f3 σ)
def fX7_levelCount_L4 (x0 : Option Nat)  : Nat → Int32 → Option Nat → hmS → Option (Int32 × hmS)
  | 0 => fun _ _ _ => none
  | n + 1 => fX7_levelCount_B4 x0  (fX7_levelCount_L4 x0  n)
def fX7_levelCount (x0 : Option Nat) (σ : hmS) : Option (Int32 × hmS) :=
  fX7_levelCount_L4 x0 20 (0 : Int32) x0 σ
set_option maxHeartbeats 4000000 in
set_option maxRecDepth 100000 in
theorem mX7_levelCount (l : Launch) (E : hmG) {x0 : Option Nat} {σ σ' : hmS} {r : Int32} (h : fX7_levelCount x0 σ = some (r, σ')) : Met l yX7_levelCount [Cond.code yX7_levelCount cX7_levelCount 3 (some .int)] { frames := 0, cells := 0, slots := 0, locals := 0 } (hmPc E [va_rf x0] σ) (hmQc E (some (.int r)) σ') 0 0 (fun q => hmL E ≤ q) := by
  refine Met.ofW (cc := cX7_levelCount) (maxL := 3) (ret := (some .int)) (by decide) rfl ?_
  intro p e s m args below meth c s₁ B hml hv
  obtain ⟨rfl, hK, hI⟩ := hv
  have S : CallFix p m c cX7_levelCount 3 s ([va_rf x0] : List Value).toArray [] RX7 := ⟨B.exec, B.bytes, hml, findClass_of_methodNamed B.named, fun w hw => by cases hw⟩
  have hx := S.1
  have hb := S.2.1
  have hr := B.returns
  have hlocks := B.notSynchronized
  have hL : hmLo E [] := hmLo.nil
  have hl : lv_has ((lg_sl ([va_rf x0]) ++ List.replicate (3 - (lg_sl ([va_rf x0])).length) Slot.unset).toArray) 3 [(0, va_rf x0)] := by cases x0 <;> exact lv_entry _ (Nat.le_of_ble_eq_true rfl)
  rw [lg_entry_eq]
  generalize (lg_sl ([va_rf x0]) ++ List.replicate (3 - (lg_sl ([va_rf x0])).length) Slot.unset).toArray = ls at hl ⊢
  generalize hRe : (headSpec [Cond.code yX7_levelCount cX7_levelCount 3 (some .int)] { frames := 0, cells := 0, slots := 0, locals := 0 }).room = R
  have hR1 : R.frames = 0 ∧ R.cells = 0 ∧ R.slots = 0 ∧ R.locals = 0 := by rw [← hRe]; exact ⟨rfl, rfl, rfl, rfl⟩
  clear hRe B hml
  generalize s.heap = H at hI ⊢
  generalize ([] : List Loc) = locs at hL ⊢
  have hmain := h
  clear h
  have hB4 : ∀ (K4 : Int32 → Option Nat → hmS → Option (Int32 × hmS)), (∀ (v1 : Int32) (v2 : Option Nat) (σ : hmS) (H : Heap) (locs : List Loc) (ls : Array Slot), K4 v1 v2 σ = some (r, σ') → hmI E σ H → hmLo E locs → lv_has ls 3 [(1, .int v1), (2, va_rf v2)] → W p l e R s m ([va_rf x0] : List Value).toArray below meth c H locs 0 0 (MQ below (hmQc E (some (.int r)) σ') ([va_rf x0] : List Value).toArray s 0 0 (fun q => hmL E ≤ q)) (F0 m 4 ls [])) → ∀ (v1 : Int32) (v2 : Option Nat) (σ : hmS) (H : Heap) (locs : List Loc) (ls : Array Slot), fX7_levelCount_B4 x0  K4 v1 v2 σ = some (r, σ') → hmI E σ H → hmLo E locs → lv_has ls 3 [(1, .int v1), (2, va_rf v2)] → W p l e R s m ([va_rf x0] : List Value).toArray below meth c H locs 0 0 (MQ below (hmQc E (some (.int r)) σ') ([va_rf x0] : List Value).toArray s 0 0 (fun q => hmL E ≤ q)) (F0 m 4 ls []) := by
    intro K4 hk4
    intro v1 v2 σ H locs ls h hI hL hl
    unfold fX7_levelCount_B4 at h
    refine hm_aload_n hx hb dX7_levelCount_4 rfl (lv_at hl 1 rfl) ?_
    cases v2 with
    | none =>
      replace h := oc_n h
      have hl : lv_has ls 3 [(1, .int v1), (2, va_rf none)] := hl
      refine lv_ifnullN (tgt := 25) hx hb dX7_levelCount_5 (by decide) ?_
      refine lv_iload_n hx hb dX7_levelCount_25 rfl (lv_at hl 0 rfl) ?_
      exact hm_iret hx hb hr hI hL h (by omega) (by omega) hlocks dX7_levelCount_26
    | some a1 =>
      replace h := oc_s h
      have hl : lv_has ls 3 [(1, .int v1), (2, .ref a1)] := hl
      refine lv_ifnull hx hb dX7_levelCount_5 ?_
      refine lv_iload_n hx hb dX7_levelCount_8 rfl (lv_at hl 0 rfl) ?_
      refine lv_bipush (v := 12) hx hb dX7_levelCount_9 (by decide) ?_
      refine lv_icmp_ge (tgt := 25) hx hb dX7_levelCount_11 (by decide) (fun c2 => ?_) (fun c2 => ?_)
      · replace h := it_p c2 h
        refine lv_iload_n hx hb dX7_levelCount_25 rfl (lv_at hl 0 rfl) ?_
        exact hm_iret hx hb hr hI hL h (by omega) (by omega) hlocks dX7_levelCount_26
      · replace h := it_n c2 h
        refine lv_iinc (v := (v1 + (1 : Int32))) (lv' := [(1, .int (v1 + (1 : Int32))), (2, .ref a1)]) hx hb dX7_levelCount_14 hl (k := 0) rfl rfl (by decide) rfl (fun ls hl => ?_)
        refine lv_aload_n hx hb dX7_levelCount_17 rfl (lv_at hl 1 rfl) ?_
        replace h := ob_s h
        obtain ⟨f3, h4, h⟩ := h
        refine hm_get S hK hI (pf_X7_113_8 hK) (gR_s h4) dX7_levelCount_18 ?_
        refine hm_astore_n (lv' := [(2, va_rf f3), (1, .int (v1 + (1 : Int32)))]) hx hb dX7_levelCount_21 rfl hl (by decide) rfl (fun ls hl => ?_)
        refine lv_goto (tgt := 4) hx hb dX7_levelCount_22 (by decide) ?_
        exact hk4 _ _ _ _ _ _ h hI hL (lv_sub hl [1, 0] rfl)
  have hL4 : ∀ n : Nat, ∀ (v1 : Int32) (v2 : Option Nat) (σ : hmS) (H : Heap) (locs : List Loc) (ls : Array Slot), fX7_levelCount_L4 x0  n v1 v2 σ = some (r, σ') → hmI E σ H → hmLo E locs → lv_has ls 3 [(1, .int v1), (2, va_rf v2)] → W p l e R s m ([va_rf x0] : List Value).toArray below meth c H locs 0 0 (MQ below (hmQc E (some (.int r)) σ') ([va_rf x0] : List Value).toArray s 0 0 (fun q => hmL E ≤ q)) (F0 m 4 ls []) := by
    intro n
    induction n with
    | zero =>
      intro v1 v2 σ H locs ls h
      have h : none = some (r, σ') := h
      cases h
    | succ n ih => exact hB4 _ ih
  have h := hmain
  clear hmain
  unfold fX7_levelCount at h
  refine lv_iconst (v := 0) hx hb dX7_levelCount_0 (by decide) ?_
  refine lv_istore_n (lv' := [(1, .int (0 : Int32)), (0, va_rf x0)]) hx hb dX7_levelCount_1 rfl hl (by decide) (by cases x0 <;> rfl) (fun ls hl => ?_)
  refine hm_aload_n hx hb dX7_levelCount_2 rfl (lv_at hl 1 rfl) ?_
  refine hm_astore_n (lv' := [(2, va_rf x0), (1, .int (0 : Int32)), (0, va_rf x0)]) hx hb dX7_levelCount_3 rfl hl (by decide) rfl (fun ls hl => ?_)
  exact hL4 20 _ _ _ _ _ _ h hI hL (lv_sub hl [1, 0] rfl)

def fX7_nearestOf_B11 (x0 : Option Nat) (x1 : Option Nat) (x2 : Option Nat)  (K11 : Option Nat → Option Nat → Int32 → hmS → Option (Option Nat × hmS)) (v3 : Option Nat) (v4 : Option Nat) (v5 : Int32) (σ : hmS) : Option (Option Nat × hmS) :=
  oc v3
    (some (none, σ))
    (fun a1 => oc v4
      (some (none, σ))
      (fun a2 => if (12 : Int32) ≤ v5 then
        some (none, σ)
      else
        ob (obC σ a1 7) fun _ => cb (fX5_levelOf a1 x0 σ) fun r7 σ6 => oc r7
          (ob (obC σ6 a1 7) fun _ => cb (fX5_aroundAt a1 (some a2) σ6) fun r12 σ11 => ob (gR σ11 a2 8 2) fun f13 => K11 r12 f13 (v5 + (1 : Int32)) σ11)
          (fun a8 => some ((some a1), σ6))))
def fX7_nearestOf_L11 (x0 : Option Nat) (x1 : Option Nat) (x2 : Option Nat)  : Nat → Option Nat → Option Nat → Int32 → hmS → Option (Option Nat × hmS)
  | 0 => fun _ _ _ _ => none
  | n + 1 => fX7_nearestOf_B11 x0 x1 x2  (fX7_nearestOf_L11 x0 x1 x2  n)
def fX7_nearestOf (x0 : Option Nat) (x1 : Option Nat) (x2 : Option Nat) (σ : hmS) : Option (Option Nat × hmS) :=
  ob x1 fun a1 => ob (gR σ a1 8 2) fun f2 => fX7_nearestOf_L11 x0 x1 x2 20 x2 f2 (0 : Int32) σ
set_option maxHeartbeats 4000000 in
set_option maxRecDepth 100000 in
theorem mX7_nearestOf (l : Launch) (E : hmG) {x0 : Option Nat} {x1 : Option Nat} {x2 : Option Nat} {σ σ' : hmS} {r : Option Nat} (h : fX7_nearestOf x0 x1 x2 σ = some (r, σ')) : Met l yX7_nearestOf [Cond.code yX7_nearestOf cX7_nearestOf 6 (some (.object "InnerCaptures$Thing"))] { frames := 2, cells := 0, slots := 0, locals := 44 } (hmPc E [va_rf x0, va_rf x1, va_rf x2] σ) (hmQc E (some (va_rf r)) σ') 0 0 (fun q => hmL E ≤ q) := by
  refine Met.ofW (cc := cX7_nearestOf) (maxL := 6) (ret := (some (.object "InnerCaptures$Thing"))) (by decide) rfl ?_
  intro p e s m args below meth c s₁ B hml hv
  obtain ⟨rfl, hK, hI⟩ := hv
  have S : CallFix p m c cX7_nearestOf 6 s ([va_rf x0, va_rf x1, va_rf x2] : List Value).toArray [] RX7 := ⟨B.exec, B.bytes, hml, findClass_of_methodNamed B.named, fun w hw => by cases hw⟩
  have hx := S.1
  have hb := S.2.1
  have hr := B.returns
  have hlocks := B.notSynchronized
  have hL : hmLo E [] := hmLo.nil
  have hl : lv_has ((lg_sl ([va_rf x0, va_rf x1, va_rf x2]) ++ List.replicate (6 - (lg_sl ([va_rf x0, va_rf x1, va_rf x2])).length) Slot.unset).toArray) 6 [(0, va_rf x0), (1, va_rf x1), (2, va_rf x2)] := by cases x0 <;> cases x1 <;> cases x2 <;> exact lv_entry _ (Nat.le_of_ble_eq_true rfl)
  rw [lg_entry_eq]
  generalize (lg_sl ([va_rf x0, va_rf x1, va_rf x2]) ++ List.replicate (6 - (lg_sl ([va_rf x0, va_rf x1, va_rf x2])).length) Slot.unset).toArray = ls at hl ⊢
  generalize hRe : (headSpec [Cond.code yX7_nearestOf cX7_nearestOf 6 (some (.object "InnerCaptures$Thing"))] { frames := 2, cells := 0, slots := 0, locals := 44 }).room = R
  have hR1 : R.frames = 2 ∧ R.cells = 0 ∧ R.slots = 0 ∧ R.locals = 44 := by rw [← hRe]; exact ⟨rfl, rfl, rfl, rfl⟩
  clear hRe B hml
  generalize s.heap = H at hI ⊢
  generalize ([] : List Loc) = locs at hL ⊢
  have hmain := h
  clear h
  have hB11 : ∀ (K11 : Option Nat → Option Nat → Int32 → hmS → Option (Option Nat × hmS)), (∀ (v3 : Option Nat) (v4 : Option Nat) (v5 : Int32) (σ : hmS) (H : Heap) (locs : List Loc) (ls : Array Slot), K11 v3 v4 v5 σ = some (r, σ') → hmI E σ H → hmLo E locs → lv_has ls 6 [(0, va_rf x0), (3, va_rf v3), (4, va_rf v4), (5, .int v5)] → W p l e R s m ([va_rf x0, va_rf x1, va_rf x2] : List Value).toArray below meth c H locs 0 0 (MQ below (hmQc E (some (va_rf r)) σ') ([va_rf x0, va_rf x1, va_rf x2] : List Value).toArray s 0 0 (fun q => hmL E ≤ q)) (F0 m 11 ls [])) → ∀ (v3 : Option Nat) (v4 : Option Nat) (v5 : Int32) (σ : hmS) (H : Heap) (locs : List Loc) (ls : Array Slot), fX7_nearestOf_B11 x0 x1 x2  K11 v3 v4 v5 σ = some (r, σ') → hmI E σ H → hmLo E locs → lv_has ls 6 [(0, va_rf x0), (3, va_rf v3), (4, va_rf v4), (5, .int v5)] → W p l e R s m ([va_rf x0, va_rf x1, va_rf x2] : List Value).toArray below meth c H locs 0 0 (MQ below (hmQc E (some (va_rf r)) σ') ([va_rf x0, va_rf x1, va_rf x2] : List Value).toArray s 0 0 (fun q => hmL E ≤ q)) (F0 m 11 ls []) := by
    intro K11 hk11
    intro v3 v4 v5 σ H locs ls h hI hL hl
    unfold fX7_nearestOf_B11 at h
    refine hm_aload_n hx hb dX7_nearestOf_11 rfl (lv_at hl 1 rfl) ?_
    cases v3 with
    | none =>
      replace h := oc_n h
      have hl : lv_has ls 6 [(0, va_rf x0), (3, va_rf none), (4, va_rf v4), (5, .int v5)] := hl
      refine lv_ifnullN (tgt := 57) hx hb dX7_nearestOf_12 (by decide) ?_
      refine hm_null hx hb dX7_nearestOf_57 ?_
      exact hm_aret hx hb hr (Or.inl ⟨_, rfl⟩) hI hL h (by omega) (by omega) hlocks dX7_nearestOf_58
    | some a1 =>
      replace h := oc_s h
      have hl : lv_has ls 6 [(0, va_rf x0), (3, .ref a1), (4, va_rf v4), (5, .int v5)] := hl
      refine lv_ifnull hx hb dX7_nearestOf_12 ?_
      refine hm_aload hx hb dX7_nearestOf_15 (lv_at hl 2 rfl) ?_
      cases v4 with
      | none =>
        replace h := oc_n h
        have hl : lv_has ls 6 [(0, va_rf x0), (3, .ref a1), (4, va_rf none), (5, .int v5)] := hl
        refine lv_ifnullN (tgt := 57) hx hb dX7_nearestOf_17 (by decide) ?_
        refine hm_null hx hb dX7_nearestOf_57 ?_
        exact hm_aret hx hb hr (Or.inl ⟨_, rfl⟩) hI hL h (by omega) (by omega) hlocks dX7_nearestOf_58
      | some a2 =>
        replace h := oc_s h
        have hl : lv_has ls 6 [(0, va_rf x0), (3, .ref a1), (4, .ref a2), (5, .int v5)] := hl
        refine lv_ifnull hx hb dX7_nearestOf_17 ?_
        refine lv_iload hx hb dX7_nearestOf_20 (lv_at hl 3 rfl) ?_
        refine lv_bipush (v := 12) hx hb dX7_nearestOf_22 (by decide) ?_
        refine lv_icmp_ge (tgt := 57) hx hb dX7_nearestOf_24 (by decide) (fun c3 => ?_) (fun c3 => ?_)
        · replace h := it_p c3 h
          refine hm_null hx hb dX7_nearestOf_57 ?_
          exact hm_aret hx hb hr (Or.inl ⟨_, rfl⟩) hI hL h (by omega) (by omega) hlocks dX7_nearestOf_58
        · replace h := it_n c3 h
          refine lv_aload_n hx hb dX7_nearestOf_27 rfl (lv_at hl 1 rfl) ?_
          refine hm_aload_n hx hb dX7_nearestOf_28 rfl (lv_at hl 0 rfl) ?_
          replace h := ob_s h
          obtain ⟨_, h5, h⟩ := h
          replace h := cb_s h
          obtain ⟨r7, σ6, h4, h⟩ := h
          refine hm_call (hm_runV (As := [va_rf x0]) (rest := []) (ci := 7) S hK hI (obC_s h5) rfl (mX5_levelOf l E h4) (pm_X7_156 hK) (pi_X5_levelOf hK) (pl_X5_X5_levelOf hK) ⟨by omega, by omega⟩ rfl hl.1 (Nat.le_of_ble_eq_true rfl) ⟨by omega, by omega⟩ dX7_nearestOf_29) hL (fun H locs hI hL => ?_)
          cases r7 with
          | none =>
            replace h := oc_n h
            have hl : lv_has ls 6 [(0, va_rf x0), (3, .ref a1), (4, .ref a2), (5, .int v5)] := hl
            refine lv_ifnullN (tgt := 37) hx hb dX7_nearestOf_32 (by decide) ?_
            refine lv_aload_n hx hb dX7_nearestOf_37 rfl (lv_at hl 1 rfl) ?_
            refine lv_aload hx hb dX7_nearestOf_38 (lv_at hl 2 rfl) ?_
            replace h := ob_s h
            obtain ⟨_, h10, h⟩ := h
            replace h := cb_s h
            obtain ⟨r12, σ11, h9, h⟩ := h
            refine hm_call (hm_runV (As := [.ref a2]) (rest := []) (ci := 7) S hK hI (obC_s h10) rfl (mX5_aroundAt l E h9) (pm_X7_152 hK) (pi_X5_aroundAt hK) (pl_X5_X5_aroundAt hK) ⟨by omega, by omega⟩ rfl hl.1 (Nat.le_of_ble_eq_true rfl) ⟨by omega, by omega⟩ dX7_nearestOf_40) hL (fun H locs hI hL => ?_)
            refine hm_astore_n (lv' := [(3, va_rf r12), (0, va_rf x0), (4, .ref a2), (5, .int v5)]) hx hb dX7_nearestOf_43 rfl hl (by decide) rfl (fun ls hl => ?_)
            refine lv_aload hx hb dX7_nearestOf_44 (lv_at hl 2 rfl) ?_
            replace h := ob_s h
            obtain ⟨f13, h14, h⟩ := h
            refine hm_get S hK hI (pf_X7_216_8 hK) (gR_s h14) dX7_nearestOf_46 ?_
            refine hm_astore (lv' := [(4, va_rf f13), (3, va_rf r12), (0, va_rf x0), (5, .int v5)]) hx hb dX7_nearestOf_49 hl (by decide) (by cases r12 <;> rfl) (fun ls hl => ?_)
            refine lv_iinc (v := (v5 + (1 : Int32))) (lv' := [(5, .int (v5 + (1 : Int32))), (4, va_rf f13), (3, va_rf r12), (0, va_rf x0)]) hx hb dX7_nearestOf_51 hl (k := 3) rfl rfl (by decide) (by cases f13 <;> rfl) (fun ls hl => ?_)
            refine lv_goto (tgt := 11) hx hb dX7_nearestOf_54 (by decide) ?_
            exact hk11 _ _ _ _ _ _ _ h hI hL (lv_sub hl [3, 2, 1, 0] rfl)
          | some a8 =>
            replace h := oc_s h
            have hl : lv_has ls 6 [(0, va_rf x0), (3, .ref a1), (4, .ref a2), (5, .int v5)] := hl
            refine lv_ifnull hx hb dX7_nearestOf_32 ?_
            refine lv_aload_n hx hb dX7_nearestOf_35 rfl (lv_at hl 1 rfl) ?_
            exact hm_aret hx hb hr (Or.inl ⟨_, rfl⟩) hI hL h (by omega) (by omega) hlocks dX7_nearestOf_36
  have hL11 : ∀ n : Nat, ∀ (v3 : Option Nat) (v4 : Option Nat) (v5 : Int32) (σ : hmS) (H : Heap) (locs : List Loc) (ls : Array Slot), fX7_nearestOf_L11 x0 x1 x2  n v3 v4 v5 σ = some (r, σ') → hmI E σ H → hmLo E locs → lv_has ls 6 [(0, va_rf x0), (3, va_rf v3), (4, va_rf v4), (5, .int v5)] → W p l e R s m ([va_rf x0, va_rf x1, va_rf x2] : List Value).toArray below meth c H locs 0 0 (MQ below (hmQc E (some (va_rf r)) σ') ([va_rf x0, va_rf x1, va_rf x2] : List Value).toArray s 0 0 (fun q => hmL E ≤ q)) (F0 m 11 ls []) := by
    intro n
    induction n with
    | zero =>
      intro v3 v4 v5 σ H locs ls h
      have h : none = some (r, σ') := h
      cases h
    | succ n ih => exact hB11 _ ih
  have h := hmain
  clear hmain
  unfold fX7_nearestOf at h
  refine hm_aload_n hx hb dX7_nearestOf_0 rfl (lv_at hl 2 rfl) ?_
  refine hm_astore_n (lv' := [(3, va_rf x2), (0, va_rf x0), (1, va_rf x1), (2, va_rf x2)]) hx hb dX7_nearestOf_1 rfl hl (by decide) (by cases x2 <;> rfl) (fun ls hl => ?_)
  refine hm_aload_n hx hb dX7_nearestOf_2 rfl (lv_at hl 2 rfl) ?_
  replace h := ob_s h
  obtain ⟨a1, rfl, h⟩ := h
  have hl : lv_has ls 6 [(3, va_rf x2), (0, va_rf x0), (1, .ref a1), (2, va_rf x2)] := hl
  replace h := ob_s h
  obtain ⟨f2, h3, h⟩ := h
  refine hm_get S hK hI (pf_X7_216_8 hK) (gR_s h3) dX7_nearestOf_3 ?_
  refine hm_astore (lv' := [(4, va_rf f2), (3, va_rf x2), (0, va_rf x0), (1, .ref a1), (2, va_rf x2)]) hx hb dX7_nearestOf_6 hl (by decide) (by cases x2 <;> rfl) (fun ls hl => ?_)
  refine lv_iconst (v := 0) hx hb dX7_nearestOf_8 (by decide) ?_
  refine lv_istore (lv' := [(5, .int (0 : Int32)), (4, va_rf f2), (3, va_rf x2), (0, va_rf x0), (1, .ref a1), (2, va_rf x2)]) hx hb dX7_nearestOf_9 hl (by decide) (by cases f2 <;> rfl) (fun ls hl => ?_)
  exact hL11 20 _ _ _ _ _ _ _ h hI hL (lv_sub hl [3, 2, 1, 0] rfl)

def fX6_copyLocalsAhead_J15 (E : hmG) (x0 : Nat)   (σ : hmS) : Option (Option Nat × hmS) :=
  some ((some (hmZ E 0)), σ)
def fX6_copyLocalsAhead (E : hmG) (x0 : Nat) (σ : hmS) : Option (Option Nat × hmS) :=
  ob (gR σ x0 8 2) fun f1 => oc f1
    (fX6_copyLocalsAhead_J15 E x0 σ)
    (fun a3 => ob (gI σ x0 8 1) fun f4 => if f4 = (4 : Int32) then
      fX6_copyLocalsAhead_J15 E x0 σ
    else
      ob (gR σ x0 8 2) fun f7 => ob f7 fun a9 => ob (gR σ a9 8 8) fun f10 => ob (gI σ x0 8 4) fun f12 => ob f10 fun a14 => ob (obC σ a14 6) fun _ => cb (fX4_copyOfFirst E a14 f12 σ) fun r18 σ17 => some (r18, σ17))
set_option maxHeartbeats 4000000 in
set_option maxRecDepth 100000 in
theorem mX6_copyLocalsAhead (l : Launch) (E : hmG) {x0 : Nat} {σ σ' : hmS} {r : Option Nat} (h : fX6_copyLocalsAhead E x0 σ = some (r, σ')) : Met l yX6_copyLocalsAhead [Cond.code yX6_copyLocalsAhead cX6_copyLocalsAhead 1 (some (.array .long))] { frames := 3, cells := 1, slots := 8, locals := 84 } (hmPc E [.ref x0] σ) (hmQc E (some (va_rf r)) σ') 1 8 (fun q => hmL E ≤ q) := by
  refine Met.ofW (cc := cX6_copyLocalsAhead) (maxL := 1) (ret := (some (.array .long))) (by decide) rfl ?_
  intro p e s m args below meth c s₁ B hml hv
  obtain ⟨rfl, hK, hI⟩ := hv
  have S : CallFix p m c cX6_copyLocalsAhead 1 s ([.ref x0] : List Value).toArray [] RX6 := ⟨B.exec, B.bytes, hml, findClass_of_methodNamed B.named, fun w hw => by cases hw⟩
  have hx := S.1
  have hb := S.2.1
  have hr := B.returns
  have hlocks := B.notSynchronized
  have hL : hmLo E [] := hmLo.nil
  have hl : lv_has ((lg_sl ([.ref x0]) ++ List.replicate (1 - (lg_sl ([.ref x0])).length) Slot.unset).toArray) 1 [(0, .ref x0)] := by exact lv_entry _ (Nat.le_of_ble_eq_true rfl)
  rw [lg_entry_eq]
  generalize (lg_sl ([.ref x0]) ++ List.replicate (1 - (lg_sl ([.ref x0])).length) Slot.unset).toArray = ls at hl ⊢
  generalize hRe : (headSpec [Cond.code yX6_copyLocalsAhead cX6_copyLocalsAhead 1 (some (.array .long))] { frames := 3, cells := 1, slots := 8, locals := 84 }).room = R
  have hR1 : R.frames = 3 ∧ R.cells = 1 ∧ R.slots = 8 ∧ R.locals = 84 := by rw [← hRe]; exact ⟨rfl, rfl, rfl, rfl⟩
  clear hRe B hml
  generalize s.heap = H at hI ⊢
  generalize ([] : List Loc) = locs at hL ⊢
  have hmain := h
  clear h
  have hJ15 : ∀  (σ : hmS) (H : Heap) (locs : List Loc) (ls : Array Slot), fX6_copyLocalsAhead_J15 E x0   σ = some (r, σ') → hmI E σ H → hmLo E locs → lv_has ls 1 [] → W p l e R s m ([.ref x0] : List Value).toArray below meth c H locs 0 0 (MQ below (hmQc E (some (va_rf r)) σ') ([.ref x0] : List Value).toArray s 1 8 (fun q => hmL E ≤ q)) (F0 m 15 ls []) := by
    intro  σ H locs ls h hI hL hl
    unfold fX6_copyLocalsAhead_J15 at h
    refine hm_getsN S hI hK.2.2.2.2.2.2.2.2.2.1 (hK.2.2.2.2.2.2.1.2.2.2) dX6_copyLocalsAhead_15 ?_
    exact hm_aret hx hb hr (Or.inr ⟨_, rfl⟩) hI hL h (by omega) (by omega) hlocks dX6_copyLocalsAhead_18
  have h := hmain
  clear hmain
  unfold fX6_copyLocalsAhead at h
  refine lv_aload_n hx hb dX6_copyLocalsAhead_0 rfl (lv_at hl 0 rfl) ?_
  replace h := ob_s h
  obtain ⟨f1, h2, h⟩ := h
  refine hm_get S hK hI (pf_X6_40_8 hK) (gR_s h2) dX6_copyLocalsAhead_1 ?_
  cases f1 with
  | none =>
    replace h := oc_n h
    have hl : lv_has ls 1 [(0, .ref x0)] := hl
    refine lv_ifnullN (tgt := 15) hx hb dX6_copyLocalsAhead_4 (by decide) ?_
    exact hJ15 _ _ _ _ h hI hL (lv_sub hl [] rfl)
  | some a3 =>
    replace h := oc_s h
    have hl : lv_has ls 1 [(0, .ref x0)] := hl
    refine lv_ifnull hx hb dX6_copyLocalsAhead_4 ?_
    refine lv_aload_n hx hb dX6_copyLocalsAhead_7 rfl (lv_at hl 0 rfl) ?_
    replace h := ob_s h
    obtain ⟨f4, h5, h⟩ := h
    refine hm_get S hK hI (pf_X6_37_8 hK) (gI_s h5) dX6_copyLocalsAhead_8 ?_
    refine lv_iconst (v := 4) hx hb dX6_copyLocalsAhead_11 (by decide) ?_
    refine lv_icmp_ne (tgt := 19) hx hb dX6_copyLocalsAhead_12 (by decide) (fun c6 => ?_) (fun c6 => ?_)
    · replace h := it_n c6 h
      refine lv_aload_n hx hb dX6_copyLocalsAhead_19 rfl (lv_at hl 0 rfl) ?_
      replace h := ob_s h
      obtain ⟨f7, h8, h⟩ := h
      refine hm_get S hK hI (pf_X6_40_8 hK) (gR_s h8) dX6_copyLocalsAhead_20 ?_
      replace h := ob_s h
      obtain ⟨a9, rfl, h⟩ := h
      have hl : lv_has ls 1 [(0, .ref x0)] := hl
      replace h := ob_s h
      obtain ⟨f10, h11, h⟩ := h
      refine hm_get S hK hI (pf_X6_21_8 hK) (gR_s h11) dX6_copyLocalsAhead_23 ?_
      refine lv_aload_n hx hb dX6_copyLocalsAhead_26 rfl (lv_at hl 0 rfl) ?_
      replace h := ob_s h
      obtain ⟨f12, h13, h⟩ := h
      refine hm_get S hK hI (pf_X6_53_8 hK) (gI_s h13) dX6_copyLocalsAhead_27 ?_
      replace h := ob_s h
      obtain ⟨a14, rfl, h⟩ := h
      have hl : lv_has ls 1 [(0, .ref x0)] := hl
      replace h := ob_s h
      obtain ⟨_, h16, h⟩ := h
      replace h := cb_s h
      obtain ⟨r18, σ17, h15, h⟩ := h
      refine hm_call (hm_runV (As := [.int f12]) (rest := []) (ci := 6) S hK hI (obC_s h16) rfl (mX4_copyOfFirst l E h15) (pm_X6_92 hK) (pi_X4_copyOfFirst hK) (pl_X4_X4_copyOfFirst hK) ⟨by omega, by omega⟩ rfl hl.1 (Nat.le_of_ble_eq_true rfl) ⟨by omega, by omega⟩ dX6_copyLocalsAhead_30) hL (fun H locs hI hL => ?_)
      exact hm_aret hx hb hr (Or.inr ⟨_, rfl⟩) hI hL h (by omega) (by omega) hlocks dX6_copyLocalsAhead_33
    · replace h := it_p c6 h
      exact hJ15 _ _ _ _ h hI hL (lv_sub hl [] rfl)

def fX3_init (E : hmG) (x0 : Nat) (x1 : Option Nat) (x2 : Option Nat) (σ : hmS) : Option (Unit × hmS) :=
  ob (wF σ x0 5 0 (va_rf x1)) fun σ1 => ob (wF σ1 x0 5 1 (va_rf x2)) fun σ3 => ob x1 fun a5 => ob (gR σ3 a5 8 7) fun f6 => ob f6 fun a8 => ob (obC σ3 a8 3) fun _ => cb (fX1_firstCells E a8 σ3) fun r12 σ11 => ob (wF σ11 x0 5 2 (va_rf r12)) fun σ13 => ob (obC σ13 a5 8) fun _ => cb (fX6_copyLocalsAhead E a5 σ13) fun r18 σ17 => ob (wF σ17 x0 5 3 (va_rf r18)) fun σ19 => some ((), σ19)
set_option maxHeartbeats 4000000 in
set_option maxRecDepth 100000 in
theorem mX3_init (l : Launch) (E : hmG) {x0 : Nat} {x1 : Option Nat} {x2 : Option Nat} {σ σ' : hmS} {r : Unit} (h : fX3_init E x0 x1 x2 σ = some (r, σ')) : Met l yX3_init [Cond.code yX3_init cX3_init 3 none] { frames := 4, cells := 2, slots := 16, locals := 104 } (hmPc E [.ref x0, va_rf x1, va_rf x2] σ) (hmQc E none σ') 2 16 (fun q => hmL E ≤ q) := by
  refine Met.ofW (cc := cX3_init) (maxL := 3) (ret := none) (by decide) rfl ?_
  intro p e s m args below meth c s₁ B hml hv
  obtain ⟨rfl, hK, hI⟩ := hv
  have S : CallFix p m c cX3_init 3 s ([.ref x0, va_rf x1, va_rf x2] : List Value).toArray [] RX3 := ⟨B.exec, B.bytes, hml, findClass_of_methodNamed B.named, fun w hw => by cases hw⟩
  have hx := S.1
  have hb := S.2.1
  have hr := B.returns
  have hlocks := B.notSynchronized
  have hin : meth.name = "<init>" := (name_of_methodNamed B.named B.method).1
  have hL : hmLo E [] := hmLo.nil
  have hl : lv_has ((lg_sl ([.ref x0, va_rf x1, va_rf x2]) ++ List.replicate (3 - (lg_sl ([.ref x0, va_rf x1, va_rf x2])).length) Slot.unset).toArray) 3 [(0, .ref x0), (1, va_rf x1), (2, va_rf x2)] := by cases x1 <;> cases x2 <;> exact lv_entry _ (Nat.le_of_ble_eq_true rfl)
  rw [lg_entry_eq]
  generalize (lg_sl ([.ref x0, va_rf x1, va_rf x2]) ++ List.replicate (3 - (lg_sl ([.ref x0, va_rf x1, va_rf x2])).length) Slot.unset).toArray = ls at hl ⊢
  generalize hRe : (headSpec [Cond.code yX3_init cX3_init 3 none] { frames := 4, cells := 2, slots := 16, locals := 104 }).room = R
  have hR1 : R.frames = 4 ∧ R.cells = 2 ∧ R.slots = 16 ∧ R.locals = 104 := by rw [← hRe]; exact ⟨rfl, rfl, rfl, rfl⟩
  clear hRe B hml
  generalize s.heap = H at hI ⊢
  generalize ([] : List Loc) = locs at hL ⊢
  have hmain := h
  clear h
  have h := hmain
  clear hmain
  unfold fX3_init at h
  refine lv_aload_n hx hb dX3_init_0 rfl (lv_at hl 0 rfl) ?_
  refine hm_objInit (i1 := 577) (i2 := 27) (i3 := 28) S hK (by decide +kernel) (by decide +kernel) (by decide +kernel) hl.1 dX3_init_1 (by omega) (Nat.le_of_ble_eq_true rfl) (by omega) ?_
  refine lv_aload_n hx hb dX3_init_4 rfl (lv_at hl 0 rfl) ?_
  refine hm_aload_n hx hb dX3_init_5 rfl (lv_at hl 1 rfl) ?_
  replace h := ob_s h
  obtain ⟨σ1, h2, h⟩ := h
  refine hm_putF S hK hI hL hin (pf_X3_7_5 hK) h2 rf_fit dX3_init_6 (fun H locs hI hL => ?_)
  refine lv_aload_n hx hb dX3_init_9 rfl (lv_at hl 0 rfl) ?_
  refine hm_aload_n hx hb dX3_init_10 rfl (lv_at hl 2 rfl) ?_
  replace h := ob_s h
  obtain ⟨σ3, h4, h⟩ := h
  refine hm_putF S hK hI hL hin (pf_X3_13_5 hK) h4 rf_fit dX3_init_11 (fun H locs hI hL => ?_)
  refine lv_aload_n hx hb dX3_init_14 rfl (lv_at hl 0 rfl) ?_
  refine hm_aload_n hx hb dX3_init_15 rfl (lv_at hl 1 rfl) ?_
  replace h := ob_s h
  obtain ⟨a5, rfl, h⟩ := h
  have hl : lv_has ls 3 [(0, .ref x0), (1, .ref a5), (2, va_rf x2)] := hl
  replace h := ob_s h
  obtain ⟨f6, h7, h⟩ := h
  refine hm_get S hK hI (pf_X3_17_8 hK) (gR_s h7) dX3_init_16 ?_
  replace h := ob_s h
  obtain ⟨a8, rfl, h⟩ := h
  have hl : lv_has ls 3 [(0, .ref x0), (1, .ref a5), (2, va_rf x2)] := hl
  replace h := ob_s h
  obtain ⟨_, h10, h⟩ := h
  replace h := cb_s h
  obtain ⟨r12, σ11, h9, h⟩ := h
  refine hm_call (hm_runV (As := []) (rest := [.ref x0]) (ci := 3) S hK hI (obC_s h10) rfl (mX1_firstCells l E h9) (pm_X3_23 hK) (pi_X1_firstCells hK) (pl_X1_X1_firstCells hK) ⟨by omega, by omega⟩ rfl hl.1 (Nat.le_of_ble_eq_true rfl) ⟨by omega, by omega⟩ dX3_init_19) hL (fun H locs hI hL => ?_)
  replace h := ob_s h
  obtain ⟨σ13, h14, h⟩ := h
  refine hm_putF S hK hI hL hin (pf_X3_29_5 hK) h14 rf_fitA dX3_init_22 (fun H locs hI hL => ?_)
  refine lv_aload_n hx hb dX3_init_25 rfl (lv_at hl 0 rfl) ?_
  refine lv_aload_n hx hb dX3_init_26 rfl (lv_at hl 1 rfl) ?_
  replace h := ob_s h
  obtain ⟨_, h16, h⟩ := h
  replace h := cb_s h
  obtain ⟨r18, σ17, h15, h⟩ := h
  refine hm_call (hm_runV (As := []) (rest := [.ref x0]) (ci := 8) S hK hI (obC_s h16) rfl (mX6_copyLocalsAhead l E h15) (pm_X3_33 hK) (pi_X6_copyLocalsAhead hK) (pl_X6_X6_copyLocalsAhead hK) ⟨by omega, by omega⟩ rfl hl.1 (Nat.le_of_ble_eq_true rfl) ⟨by omega, by omega⟩ dX3_init_27) hL (fun H locs hI hL => ?_)
  replace h := ob_s h
  obtain ⟨σ19, h20, h⟩ := h
  refine hm_putF S hK hI hL hin (pf_X3_36_5 hK) h20 rf_fitA dX3_init_30 (fun H locs hI hL => ?_)
  exact hm_vret hx hb hr hI hL h (by omega) (by omega) hlocks dX3_init_33

def fX7_levelsFor_J61 (E : hmG) (x0 : Option Nat) (x1 : Option Nat) (K13 : Nat → Option Nat → Int32 → hmS → Option (Option Nat × hmS)) (v2 : Nat) (v3 : Nat) (v4 : Int32) (v5 : Option Nat) (σ : hmS) : Option (Option Nat × hmS) :=
  nw σ (.inr (5, [.null, .null, .null, .null])) fun q1 σ2 => cb (fX3_init E q1 (some v3) v5 σ2) fun _ σ6 => ob (sR σ6 v2 v4 (some q1)) fun σ7 => ob (gR σ7 v3 8 10) fun f9 => K13 v2 f9 (v4 + (1 : Int32)) σ7
def fX7_levelsFor_J52 (E : hmG) (x0 : Option Nat) (x1 : Option Nat) (K13 : Nat → Option Nat → Int32 → hmS → Option (Option Nat × hmS)) (v2 : Nat) (v3 : Nat) (v4 : Int32) (w0 : Option Nat) (σ : hmS) : Option (Option Nat × hmS) :=
  oc w0
    (some (none, σ))
    (fun a1 => fX7_levelsFor_J61 E x0 x1 K13 v2 v3 v4 (some a1) σ)
def fX7_levelsFor_B13 (E : hmG) (x0 : Option Nat) (x1 : Option Nat)  (K13 : Nat → Option Nat → Int32 → hmS → Option (Option Nat × hmS)) (v2 : Nat) (v3 : Option Nat) (v4 : Int32) (σ : hmS) : Option (Option Nat × hmS) :=
  ob (aN σ v2) fun n1 => if n1 ≤ v4 then
    some ((some v2), σ)
  else
    oc v3
      (some ((some v2), σ))
      (fun a4 => ob (gI σ a4 8 5) fun f5 => if f5 = 0 then
        fX7_levelsFor_J61 E x0 x1 K13 v2 a4 v4 none σ
      else
        if v4 = 0 then
          fX7_levelsFor_J52 E x0 x1 K13 v2 a4 v4 x1 σ
        else
          ob (gR σ a4 8 2) fun f9 => cb (fX7_nearestOf f9 x0 x1 σ) fun r13 σ12 => fX7_levelsFor_J52 E x0 x1 K13 v2 a4 v4 r13 σ12)
def fX7_levelsFor_L13 (E : hmG) (x0 : Option Nat) (x1 : Option Nat)  : Nat → Nat → Option Nat → Int32 → hmS → Option (Option Nat × hmS)
  | 0 => fun _ _ _ _ => none
  | n + 1 => fX7_levelsFor_B13 E x0 x1  (fX7_levelsFor_L13 E x0 x1  n)
def fX7_levelsFor (E : hmG) (x0 : Option Nat) (x1 : Option Nat) (σ : hmS) : Option (Option Nat × hmS) :=
  cb (fX7_levelCount x0 σ) fun r3 σ2 => cb (nA σ2 7 (.inr (.inr (.inr (.inr (fun _ => none))))) 128 r3) fun q4 σ5 => fX7_levelsFor_L13 E x0 x1 14 q4 x0 (0 : Int32) σ5
set_option maxHeartbeats 4000000 in
set_option maxRecDepth 100000 in
theorem mX7_levelsFor (l : Launch) (E : hmG) {x0 : Option Nat} {x1 : Option Nat} {σ σ' : hmS} {r : Option Nat} (h : fX7_levelsFor E x0 x1 σ = some (r, σ')) : Met l yX7_levelsFor [Cond.code yX7_levelsFor cX7_levelsFor 6 (some (.array (.object "InnerCaptures$Level")))] { frames := 5, cells := 43, slots := 408, locals := 126 } (hmPc E [va_rf x0, va_rf x1] σ) (hmQc E (some (va_rf r)) σ') 43 408 (fun q => hmL E ≤ q) := by
  refine Met.ofW (cc := cX7_levelsFor) (maxL := 6) (ret := (some (.array (.object "InnerCaptures$Level")))) (by decide) rfl ?_
  intro p e s m args below meth c s₁ B hml hv
  obtain ⟨rfl, hK, hI⟩ := hv
  have S : CallFix p m c cX7_levelsFor 6 s ([va_rf x0, va_rf x1] : List Value).toArray [] RX7 := ⟨B.exec, B.bytes, hml, findClass_of_methodNamed B.named, fun w hw => by cases hw⟩
  have hx := S.1
  have hb := S.2.1
  have hr := B.returns
  have hlocks := B.notSynchronized
  have hL : hmLo E [] := hmLo.nil
  have hl : lv_has ((lg_sl ([va_rf x0, va_rf x1]) ++ List.replicate (6 - (lg_sl ([va_rf x0, va_rf x1])).length) Slot.unset).toArray) 6 [(0, va_rf x0), (1, va_rf x1)] := by cases x0 <;> cases x1 <;> exact lv_entry _ (Nat.le_of_ble_eq_true rfl)
  rw [lg_entry_eq]
  generalize (lg_sl ([va_rf x0, va_rf x1]) ++ List.replicate (6 - (lg_sl ([va_rf x0, va_rf x1])).length) Slot.unset).toArray = ls at hl ⊢
  generalize hRe : (headSpec [Cond.code yX7_levelsFor cX7_levelsFor 6 (some (.array (.object "InnerCaptures$Level")))] { frames := 5, cells := 43, slots := 408, locals := 126 }).room = R
  have hR1 : R.frames = 5 ∧ R.cells = 43 ∧ R.slots = 408 ∧ R.locals = 126 := by rw [← hRe]; exact ⟨rfl, rfl, rfl, rfl⟩
  clear hRe B hml
  generalize s.heap = H at hI ⊢
  generalize ([] : List Loc) = locs at hL ⊢
  have hmain := h
  clear h
  have hB13 : ∀ N : Nat, N + 1 ≤ 14 → ∀ (K13 : Nat → Option Nat → Int32 → hmS → Option (Option Nat × hmS)), (∀ (v2 : Nat) (v3 : Option Nat) (v4 : Int32) (σ : hmS) (H : Heap) (locs : List Loc) (ls : Array Slot), K13 v2 v3 v4 σ = some (r, σ') → hmI E σ H → hmLo E locs → lv_has ls 6 [(0, va_rf x0), (1, va_rf x1), (2, .ref v2), (3, va_rf v3), (4, .int v4)] → W p l e R s m ([va_rf x0, va_rf x1] : List Value).toArray below meth c H locs (43 - 3 * N) (408 - 20 * N) (MQ below (hmQc E (some (va_rf r)) σ') ([va_rf x0, va_rf x1] : List Value).toArray s 43 408 (fun q => hmL E ≤ q)) (F0 m 13 ls [])) → ∀ (v2 : Nat) (v3 : Option Nat) (v4 : Int32) (σ : hmS) (H : Heap) (locs : List Loc) (ls : Array Slot), fX7_levelsFor_B13 E x0 x1  K13 v2 v3 v4 σ = some (r, σ') → hmI E σ H → hmLo E locs → lv_has ls 6 [(0, va_rf x0), (1, va_rf x1), (2, .ref v2), (3, va_rf v3), (4, .int v4)] → W p l e R s m ([va_rf x0, va_rf x1] : List Value).toArray below meth c H locs (43 - 3 * (N + 1)) (408 - 20 * (N + 1)) (MQ below (hmQc E (some (va_rf r)) σ') ([va_rf x0, va_rf x1] : List Value).toArray s 43 408 (fun q => hmL E ≤ q)) (F0 m 13 ls []) := by
    intro N hN
    intro K13 hk13
    have hJ61 : ∀ (v2 : Nat) (v3 : Nat) (v4 : Int32) (v5 : Option Nat) (σ : hmS) (H : Heap) (locs : List Loc) (ls : Array Slot), fX7_levelsFor_J61 E x0 x1 K13 v2 v3 v4 v5 σ = some (r, σ') → hmI E σ H → hmLo E locs → lv_has ls 6 [(0, va_rf x0), (1, va_rf x1), (2, .ref v2), (3, .ref v3), (4, .int v4), (5, va_rf v5)] → W p l e R s m ([va_rf x0, va_rf x1] : List Value).toArray below meth c H locs (43 - 3 * (N + 1)) (408 - 20 * (N + 1)) (MQ below (hmQc E (some (va_rf r)) σ') ([va_rf x0, va_rf x1] : List Value).toArray s 43 408 (fun q => hmL E ≤ q)) (F0 m 61 ls []) := by
      intro v2 v3 v4 v5 σ H locs ls h hI hL hl
      unfold fX7_levelsFor_J61 at h
      refine lv_aload_n hx hb dX7_levelsFor_61 rfl (lv_at hl 2 rfl) ?_
      refine lv_iload hx hb dX7_levelsFor_62 (lv_at hl 4 rfl) ?_
      replace h := nw_s h
      obtain ⟨q1, σ2, h3, h4, h⟩ := h
      refine hm_new S hK hI (pn_X7_161 hK) h3 h4 (by omega) (by omega) dX7_levelsFor_64 (fun H hI => ?_)
      refine lv_dup hx hb dX7_levelsFor_67 rfl ?_
      refine lv_aload_n hx hb dX7_levelsFor_68 rfl (lv_at hl 3 rfl) ?_
      refine hm_aload hx hb dX7_levelsFor_69 (lv_at hl 5 rfl) ?_
      replace h := cb_s h
      obtain ⟨u0, σ6, h5, h⟩ := h
      refine hm_callv (hm_runI (As := [.ref v3, va_rf v5]) (rest := [.ref q1, .int v4, .ref v2]) S hK hI (mX3_init l E h5) (pm_X7_240 hK) rfl (pi_X3_init hK) ⟨by omega, by omega⟩ rfl hl.1 (Nat.le_of_ble_eq_true rfl) ⟨by omega, by omega⟩ dX7_levelsFor_71) hL (fun H locs hI hL => ?_)
      replace h := ob_s h
      obtain ⟨σ7, h8, h⟩ := h
      refine hm_aast (r := (some q1)) S hK hI hL h8 dX7_levelsFor_74 (fun H locs hI hL => ?_)
      refine lv_aload_n hx hb dX7_levelsFor_75 rfl (lv_at hl 3 rfl) ?_
      replace h := ob_s h
      obtain ⟨f9, h10, h⟩ := h
      refine hm_get S hK hI (pf_X7_113_8 hK) (gR_s h10) dX7_levelsFor_76 ?_
      refine hm_astore_n (lv' := [(3, va_rf f9), (0, va_rf x0), (1, va_rf x1), (2, .ref v2), (4, .int v4), (5, va_rf v5)]) hx hb dX7_levelsFor_79 rfl hl (by decide) rfl (fun ls hl => ?_)
      refine lv_iinc (v := (v4 + (1 : Int32))) (lv' := [(4, .int (v4 + (1 : Int32))), (3, va_rf f9), (0, va_rf x0), (1, va_rf x1), (2, .ref v2), (5, va_rf v5)]) hx hb dX7_levelsFor_80 hl (k := 4) rfl rfl (by decide) (by cases f9 <;> rfl) (fun ls hl => ?_)
      refine lv_goto (tgt := 13) hx hb dX7_levelsFor_83 (by decide) ?_
      refine W.widen (k := (43 - 3 * N)) (n := (408 - 20 * N)) (by omega) (by omega) ?_
      exact hk13 _ _ _ _ _ _ _ h hI hL (lv_sub hl [2, 3, 4, 1, 0] rfl)
    have hJ52 : ∀ (v2 : Nat) (v3 : Nat) (v4 : Int32) (w0 : Option Nat) (σ : hmS) (H : Heap) (locs : List Loc) (ls : Array Slot), fX7_levelsFor_J52 E x0 x1 K13 v2 v3 v4 w0 σ = some (r, σ') → hmI E σ H → hmLo E locs → lv_has ls 6 [(0, va_rf x0), (1, va_rf x1), (2, .ref v2), (3, .ref v3), (4, .int v4)] → W p l e R s m ([va_rf x0, va_rf x1] : List Value).toArray below meth c H locs (43 - 3 * (N + 1)) (408 - 20 * (N + 1)) (MQ below (hmQc E (some (va_rf r)) σ') ([va_rf x0, va_rf x1] : List Value).toArray s 43 408 (fun q => hmL E ≤ q)) (F0 m 52 ls [va_rf w0]) := by
      intro v2 v3 v4 w0 σ H locs ls h hI hL hl
      unfold fX7_levelsFor_J52 at h
      refine hm_astore (lv' := [(5, va_rf w0), (0, va_rf x0), (1, va_rf x1), (2, .ref v2), (3, .ref v3), (4, .int v4)]) hx hb dX7_levelsFor_52 hl (by decide) rfl (fun ls hl => ?_)
      refine hm_aload hx hb dX7_levelsFor_54 (lv_at hl 0 rfl) ?_
      cases w0 with
      | none =>
        replace h := oc_n h
        have hl : lv_has ls 6 [(5, va_rf none), (0, va_rf x0), (1, va_rf x1), (2, .ref v2), (3, .ref v3), (4, .int v4)] := hl
        refine lv_ifnonnullN hx hb dX7_levelsFor_56 ?_
        refine hm_null hx hb dX7_levelsFor_59 ?_
        exact hm_aret hx hb hr (Or.inr ⟨_, rfl⟩) hI hL h (by omega) (by omega) hlocks dX7_levelsFor_60
      | some a1 =>
        replace h := oc_s h
        have hl : lv_has ls 6 [(5, .ref a1), (0, va_rf x0), (1, va_rf x1), (2, .ref v2), (3, .ref v3), (4, .int v4)] := hl
        refine lv_ifnonnull (tgt := 61) hx hb dX7_levelsFor_56 (by decide) ?_
        exact hJ61 _ _ _ _ _ _ _ _ h hI hL (lv_sub hl [1, 2, 3, 4, 5, 0] rfl)
    intro v2 v3 v4 σ H locs ls h hI hL hl
    unfold fX7_levelsFor_B13 at h
    refine lv_iload hx hb dX7_levelsFor_13 (lv_at hl 4 rfl) ?_
    refine lv_aload_n hx hb dX7_levelsFor_15 rfl (lv_at hl 2 rfl) ?_
    replace h := ob_s h
    obtain ⟨n1, h2, h⟩ := h
    refine hm_aN S hK hI h2 dX7_levelsFor_16 ?_
    refine lv_icmp_ge (tgt := 86) hx hb dX7_levelsFor_17 (by decide) (fun c3 => ?_) (fun c3 => ?_)
    · replace h := it_p c3 h
      refine lv_aload_n hx hb dX7_levelsFor_86 rfl (lv_at hl 2 rfl) ?_
      exact hm_aret hx hb hr (Or.inr ⟨_, rfl⟩) hI hL h (by omega) (by omega) hlocks dX7_levelsFor_87
    · replace h := it_n c3 h
      refine hm_aload_n hx hb dX7_levelsFor_20 rfl (lv_at hl 3 rfl) ?_
      cases v3 with
      | none =>
        replace h := oc_n h
        have hl : lv_has ls 6 [(0, va_rf x0), (1, va_rf x1), (2, .ref v2), (3, va_rf none), (4, .int v4)] := hl
        refine lv_ifnullN (tgt := 86) hx hb dX7_levelsFor_21 (by decide) ?_
        refine lv_aload_n hx hb dX7_levelsFor_86 rfl (lv_at hl 2 rfl) ?_
        exact hm_aret hx hb hr (Or.inr ⟨_, rfl⟩) hI hL h (by omega) (by omega) hlocks dX7_levelsFor_87
      | some a4 =>
        replace h := oc_s h
        have hl : lv_has ls 6 [(0, va_rf x0), (1, va_rf x1), (2, .ref v2), (3, .ref a4), (4, .int v4)] := hl
        refine lv_ifnull hx hb dX7_levelsFor_21 ?_
        refine hm_null hx hb dX7_levelsFor_24 ?_
        refine hm_astore (lv' := [(5, va_rf none), (0, va_rf x0), (1, va_rf x1), (2, .ref v2), (3, .ref a4), (4, .int v4)]) hx hb dX7_levelsFor_25 hl (by decide) rfl (fun ls hl => ?_)
        refine lv_aload_n hx hb dX7_levelsFor_27 rfl (lv_at hl 4 rfl) ?_
        replace h := ob_s h
        obtain ⟨f5, h6, h⟩ := h
        refine hm_get S hK hI (pf_X7_222_8 hK) (gI_s h6) dX7_levelsFor_28 ?_
        refine lv_if_eq (tgt := 61) hx hb dX7_levelsFor_31 (by decide) (fun c7 => ?_) (fun c7 => ?_)
        · replace h := it_p c7 h
          exact hJ61 _ _ _ _ _ _ _ _ h hI hL (lv_sub hl [1, 2, 3, 4, 5, 0] rfl)
        · replace h := it_n c7 h
          refine lv_iload hx hb dX7_levelsFor_34 (lv_at hl 5 rfl) ?_
          refine lv_if_ne (tgt := 43) hx hb dX7_levelsFor_36 (by decide) (fun c8 => ?_) (fun c8 => ?_)
          · replace h := it_n c8 h
            refine lv_aload_n hx hb dX7_levelsFor_43 rfl (lv_at hl 4 rfl) ?_
            replace h := ob_s h
            obtain ⟨f9, h10, h⟩ := h
            refine hm_get S hK hI (pf_X7_216_8 hK) (gR_s h10) dX7_levelsFor_44 ?_
            refine hm_aload_n hx hb dX7_levelsFor_47 rfl (lv_at hl 1 rfl) ?_
            refine hm_aload_n hx hb dX7_levelsFor_48 rfl (lv_at hl 2 rfl) ?_
            replace h := cb_s h
            obtain ⟨r13, σ12, h11, h⟩ := h
            refine hm_call (hm_runS (As := [va_rf f9, va_rf x0, va_rf x1]) (rest := []) S hK hI (mX7_nearestOf l E h11) (pm_X7_236 hK) (ps_X7_nearestOf hK) ⟨by omega, by omega⟩ rfl hl.1 (Nat.le_of_ble_eq_true rfl) ⟨by omega, by omega⟩ dX7_levelsFor_49) hL (fun H locs hI hL => ?_)
            exact hJ52 _ _ _ _ _ _ _ _ h hI hL (lv_sub hl [1, 2, 3, 4, 5] rfl)
          · replace h := it_p c8 h
            refine hm_aload_n hx hb dX7_levelsFor_39 rfl (lv_at hl 2 rfl) ?_
            refine lv_goto (tgt := 52) hx hb dX7_levelsFor_40 (by decide) ?_
            exact hJ52 _ _ _ _ _ _ _ _ h hI hL (lv_sub hl [1, 2, 3, 4, 5] rfl)
  have hL13 : ∀ n : Nat, n ≤ 14 → ∀ (v2 : Nat) (v3 : Option Nat) (v4 : Int32) (σ : hmS) (H : Heap) (locs : List Loc) (ls : Array Slot), fX7_levelsFor_L13 E x0 x1  n v2 v3 v4 σ = some (r, σ') → hmI E σ H → hmLo E locs → lv_has ls 6 [(0, va_rf x0), (1, va_rf x1), (2, .ref v2), (3, va_rf v3), (4, .int v4)] → W p l e R s m ([va_rf x0, va_rf x1] : List Value).toArray below meth c H locs (43 - 3 * n) (408 - 20 * n) (MQ below (hmQc E (some (va_rf r)) σ') ([va_rf x0, va_rf x1] : List Value).toArray s 43 408 (fun q => hmL E ≤ q)) (F0 m 13 ls []) := by
    intro n
    induction n with
    | zero =>
      intro _ v2 v3 v4 σ H locs ls h
      have h : none = some (r, σ') := h
      cases h
    | succ n ih => exact fun hn => hB13 n hn _ (ih (by omega))
  have h := hmain
  clear hmain
  unfold fX7_levelsFor at h
  refine hm_aload_n hx hb dX7_levelsFor_0 rfl (lv_at hl 0 rfl) ?_
  replace h := cb_s h
  obtain ⟨r3, σ2, h1, h⟩ := h
  refine hm_call (hm_runS (As := [va_rf x0]) (rest := []) S hK hI (mX7_levelCount l E h1) (pm_X7_232 hK) (ps_X7_levelCount hK) ⟨by omega, by omega⟩ rfl hl.1 (Nat.le_of_ble_eq_true rfl) ⟨by omega, by omega⟩ dX7_levelsFor_1) hL (fun H locs hI hL => ?_)
  replace h := cb_s h
  obtain ⟨q4, σ5, h6, h⟩ := h
  refine hm_anew (i1 := 563) S hK hI (by decide +kernel) rfl (by decide) h6 (by decide) (by omega) (by omega) dX7_levelsFor_4 (fun H hI => ?_)
  refine lv_astore_n (lv' := [(2, .ref q4), (0, va_rf x0), (1, va_rf x1)]) hx hb dX7_levelsFor_7 rfl hl (by decide) (by cases x1 <;> rfl) (fun ls hl => ?_)
  refine hm_aload_n hx hb dX7_levelsFor_8 rfl (lv_at hl 1 rfl) ?_
  refine hm_astore_n (lv' := [(3, va_rf x0), (2, .ref q4), (0, va_rf x0), (1, va_rf x1)]) hx hb dX7_levelsFor_9 rfl hl (by decide) rfl (fun ls hl => ?_)
  refine lv_iconst (v := 0) hx hb dX7_levelsFor_10 (by decide) ?_
  refine lv_istore (lv' := [(4, .int (0 : Int32)), (3, va_rf x0), (2, .ref q4), (0, va_rf x0), (1, va_rf x1)]) hx hb dX7_levelsFor_11 hl (by decide) (by cases x0 <;> rfl) (fun ls hl => ?_)
  refine W.widen (k := (43 - 3 * 14)) (n := (408 - 20 * 14)) (by omega) (by omega) ?_
  exact hL13 14 (Nat.le_refl _) _ _ _ _ _ _ _ h hI hL (lv_sub hl [3, 4, 2, 1, 0] rfl)

def fX5_init (x0 : Nat) (x1 : Option Nat) (x2 : Option Nat) (σ : hmS) : Option (Unit × hmS) :=
  ob (wF σ x0 7 0 (va_rf x1)) fun σ1 => ob (wF σ1 x0 7 1 (va_rf x2)) fun σ3 => some ((), σ3)
set_option maxHeartbeats 4000000 in
set_option maxRecDepth 100000 in
theorem mX5_init (l : Launch) (E : hmG) {x0 : Nat} {x1 : Option Nat} {x2 : Option Nat} {σ σ' : hmS} {r : Unit} (h : fX5_init x0 x1 x2 σ = some (r, σ')) : Met l yX5_init [Cond.code yX5_init cX5_init 3 none] { frames := 1, cells := 0, slots := 0, locals := 20 } (hmPc E [.ref x0, va_rf x1, va_rf x2] σ) (hmQc E none σ') 0 0 (fun q => hmL E ≤ q) := by
  refine Met.ofW (cc := cX5_init) (maxL := 3) (ret := none) (by decide) rfl ?_
  intro p e s m args below meth c s₁ B hml hv
  obtain ⟨rfl, hK, hI⟩ := hv
  have S : CallFix p m c cX5_init 3 s ([.ref x0, va_rf x1, va_rf x2] : List Value).toArray [] RX5 := ⟨B.exec, B.bytes, hml, findClass_of_methodNamed B.named, fun w hw => by cases hw⟩
  have hx := S.1
  have hb := S.2.1
  have hr := B.returns
  have hlocks := B.notSynchronized
  have hin : meth.name = "<init>" := (name_of_methodNamed B.named B.method).1
  have hL : hmLo E [] := hmLo.nil
  have hl : lv_has ((lg_sl ([.ref x0, va_rf x1, va_rf x2]) ++ List.replicate (3 - (lg_sl ([.ref x0, va_rf x1, va_rf x2])).length) Slot.unset).toArray) 3 [(0, .ref x0), (1, va_rf x1), (2, va_rf x2)] := by cases x1 <;> cases x2 <;> exact lv_entry _ (Nat.le_of_ble_eq_true rfl)
  rw [lg_entry_eq]
  generalize (lg_sl ([.ref x0, va_rf x1, va_rf x2]) ++ List.replicate (3 - (lg_sl ([.ref x0, va_rf x1, va_rf x2])).length) Slot.unset).toArray = ls at hl ⊢
  generalize hRe : (headSpec [Cond.code yX5_init cX5_init 3 none] { frames := 1, cells := 0, slots := 0, locals := 20 }).room = R
  have hR1 : R.frames = 1 ∧ R.cells = 0 ∧ R.slots = 0 ∧ R.locals = 20 := by rw [← hRe]; exact ⟨rfl, rfl, rfl, rfl⟩
  clear hRe B hml
  generalize s.heap = H at hI ⊢
  generalize ([] : List Loc) = locs at hL ⊢
  have hmain := h
  clear h
  have h := hmain
  clear hmain
  unfold fX5_init at h
  refine lv_aload_n hx hb dX5_init_0 rfl (lv_at hl 0 rfl) ?_
  refine hm_objInit (i1 := 624) (i2 := 27) (i3 := 28) S hK (by decide +kernel) (by decide +kernel) (by decide +kernel) hl.1 dX5_init_1 (by omega) (Nat.le_of_ble_eq_true rfl) (by omega) ?_
  refine lv_aload_n hx hb dX5_init_4 rfl (lv_at hl 0 rfl) ?_
  refine hm_aload_n hx hb dX5_init_5 rfl (lv_at hl 1 rfl) ?_
  replace h := ob_s h
  obtain ⟨σ1, h2, h⟩ := h
  refine hm_putF S hK hI hL hin (pf_X5_7_7 hK) h2 rf_fit dX5_init_6 (fun H locs hI hL => ?_)
  refine lv_aload_n hx hb dX5_init_9 rfl (lv_at hl 0 rfl) ?_
  refine hm_aload_n hx hb dX5_init_10 rfl (lv_at hl 2 rfl) ?_
  replace h := ob_s h
  obtain ⟨σ3, h4, h⟩ := h
  refine hm_putF S hK hI hL hin (pf_X5_13_7 hK) h4 rf_fitA dX5_init_11 (fun H locs hI hL => ?_)
  exact hm_vret hx hb hr hI hL h (by omega) (by omega) hlocks dX5_init_14

def fX7_makeInto_J71 (E : hmG) (x0 : Nat) (x1 : Int32) (x2 : Int32) (x3 : Int32)  (v4 : Nat) (v5 : Option Nat) (σ : hmS) : Option (Int32 × hmS) :=
  cb (fX7_levelsFor E (some v4) v5 σ) fun r3 σ2 => oc r3
    (some ((3 : Int32), σ2))
    (fun a4 => ob (gR σ2 x0 9 2) fun f5 => nw σ2 (.inr (7, [.null, .null])) fun q7 σ8 => cb (fX5_init q7 (some v4) (some a4) σ8) fun _ σ12 => ob f5 fun a13 => ob (sR σ12 a13 x3 (some q7)) fun σ14 => ob (gI σ14 x0 9 3) fun f16 => ob (wF σ14 x0 9 3 (.int (f16 + (1 : Int32)))) fun σ18 => some ((0 : Int32), σ18))
def fX7_makeInto (E : hmG) (x0 : Nat) (x1 : Int32) (x2 : Int32) (x3 : Int32) (σ : hmS) : Option (Int32 × hmS) :=
  ob (obC σ x0 9) fun _ => cb (fX7_typeAt x0 x1 σ) fun r4 σ3 => oc r4
    (some ((-1 : Int32), σ3))
    (fun a5 => cb (fX7_isPlace x3 σ3) fun r8 σ7 => if r8 = 0 then
      some ((-1 : Int32), σ7)
    else
      ob (gI σ7 a5 8 5) fun f10 => if f10 = 0 then
        fX7_makeInto_J71 E x0 x1 x2 x3 a5 none σ7
      else
        cb (fX7_isPlace x2 σ7) fun r15 σ14 => if r15 = 0 then
          some ((-1 : Int32), σ14)
        else
          ob (gR σ14 x0 9 2) fun f17 => ob f17 fun a19 => ob (aR σ14 a19 x2) fun e20 => oc e20
            (some ((1 : Int32), σ14))
            (fun a22 => ob (gR σ14 a5 8 2) fun f23 => ob (obC σ14 a22 7) fun _ => cb (fX5_levelOf a22 f23 σ14) fun r28 σ27 => oc r28
              (some ((2 : Int32), σ27))
              (fun a29 => fX7_makeInto_J71 E x0 x1 x2 x3 a5 (some a22) σ27)))
set_option maxHeartbeats 4000000 in
set_option maxRecDepth 100000 in
theorem mX7_makeInto (l : Launch) (E : hmG) {x0 : Nat} {x1 : Int32} {x2 : Int32} {x3 : Int32} {σ σ' : hmS} {r : Int32} (h : fX7_makeInto E x0 x1 x2 x3 σ = some (r, σ')) : Met l yX7_makeInto [Cond.code yX7_makeInto cX7_makeInto 7 (some .int)] { frames := 6, cells := 44, slots := 410, locals := 151 } (hmPc E [.ref x0, .int x1, .int x2, .int x3] σ) (hmQc E (some (.int r)) σ') 44 410 (fun q => hmL E ≤ q) := by
  refine Met.ofW (cc := cX7_makeInto) (maxL := 7) (ret := (some .int)) (by decide) rfl ?_
  intro p e s m args below meth c s₁ B hml hv
  obtain ⟨rfl, hK, hI⟩ := hv
  have S : CallFix p m c cX7_makeInto 7 s ([.ref x0, .int x1, .int x2, .int x3] : List Value).toArray [] RX7 := ⟨B.exec, B.bytes, hml, findClass_of_methodNamed B.named, fun w hw => by cases hw⟩
  have hx := S.1
  have hb := S.2.1
  have hr := B.returns
  have hlocks := B.notSynchronized
  have hL : hmLo E [] := hmLo.nil
  have hl : lv_has ((lg_sl ([.ref x0, .int x1, .int x2, .int x3]) ++ List.replicate (7 - (lg_sl ([.ref x0, .int x1, .int x2, .int x3])).length) Slot.unset).toArray) 7 [(0, .ref x0), (1, .int x1), (2, .int x2), (3, .int x3)] := by exact lv_entry _ (Nat.le_of_ble_eq_true rfl)
  rw [lg_entry_eq]
  generalize (lg_sl ([.ref x0, .int x1, .int x2, .int x3]) ++ List.replicate (7 - (lg_sl ([.ref x0, .int x1, .int x2, .int x3])).length) Slot.unset).toArray = ls at hl ⊢
  generalize hRe : (headSpec [Cond.code yX7_makeInto cX7_makeInto 7 (some .int)] { frames := 6, cells := 44, slots := 410, locals := 151 }).room = R
  have hR1 : R.frames = 6 ∧ R.cells = 44 ∧ R.slots = 410 ∧ R.locals = 151 := by rw [← hRe]; exact ⟨rfl, rfl, rfl, rfl⟩
  clear hRe B hml
  generalize s.heap = H at hI ⊢
  generalize ([] : List Loc) = locs at hL ⊢
  have hmain := h
  clear h
  have hJ71 : ∀ (v4 : Nat) (v5 : Option Nat) (σ : hmS) (H : Heap) (locs : List Loc) (ls : Array Slot), fX7_makeInto_J71 E x0 x1 x2 x3  v4 v5 σ = some (r, σ') → hmI E σ H → hmLo E locs → lv_has ls 7 [(0, .ref x0), (3, .int x3), (4, .ref v4), (5, va_rf v5)] → W p l e R s m ([.ref x0, .int x1, .int x2, .int x3] : List Value).toArray below meth c H locs 0 0 (MQ below (hmQc E (some (.int r)) σ') ([.ref x0, .int x1, .int x2, .int x3] : List Value).toArray s 44 410 (fun q => hmL E ≤ q)) (F0 m 71 ls []) := by
    intro v4 v5 σ H locs ls h hI hL hl
    unfold fX7_makeInto_J71 at h
    refine lv_aload hx hb dX7_makeInto_71 (lv_at hl 2 rfl) ?_
    refine hm_aload hx hb dX7_makeInto_73 (lv_at hl 3 rfl) ?_
    replace h := cb_s h
    obtain ⟨r3, σ2, h1, h⟩ := h
    refine hm_call (hm_runS (As := [.ref v4, va_rf v5]) (rest := []) S hK hI (mX7_levelsFor l E h1) (pm_X7_225 hK) (ps_X7_levelsFor hK) ⟨by omega, by omega⟩ rfl hl.1 (Nat.le_of_ble_eq_true rfl) ⟨by omega, by omega⟩ dX7_makeInto_75) hL (fun H locs hI hL => ?_)
    refine hm_astore (lv' := [(6, va_rf r3), (0, .ref x0), (3, .int x3), (4, .ref v4), (5, va_rf v5)]) hx hb dX7_makeInto_78 hl (by decide) (by cases v5 <;> rfl) (fun ls hl => ?_)
    refine hm_aload hx hb dX7_makeInto_80 (lv_at hl 0 rfl) ?_
    cases r3 with
    | none =>
      replace h := oc_n h
      have hl : lv_has ls 7 [(6, va_rf none), (0, .ref x0), (3, .int x3), (4, .ref v4), (5, va_rf v5)] := hl
      refine lv_ifnonnullN hx hb dX7_makeInto_82 ?_
      refine lv_iconst (v := 3) hx hb dX7_makeInto_85 (by decide) ?_
      exact hm_iret hx hb hr hI hL h (by omega) (by omega) hlocks dX7_makeInto_86
    | some a4 =>
      replace h := oc_s h
      have hl : lv_has ls 7 [(6, .ref a4), (0, .ref x0), (3, .int x3), (4, .ref v4), (5, va_rf v5)] := hl
      refine lv_ifnonnull (tgt := 87) hx hb dX7_makeInto_82 (by decide) ?_
      refine lv_aload_n hx hb dX7_makeInto_87 rfl (lv_at hl 1 rfl) ?_
      replace h := ob_s h
      obtain ⟨f5, h6, h⟩ := h
      refine hm_get S hK hI (pf_X7_21_9 hK) (gR_s h6) dX7_makeInto_88 ?_
      refine lv_iload_n hx hb dX7_makeInto_91 rfl (lv_at hl 2 rfl) ?_
      replace h := nw_s h
      obtain ⟨q7, σ8, h9, h10, h⟩ := h
      refine hm_new S hK hI (pn_X7_19 hK) h9 h10 (by omega) (by omega) dX7_makeInto_92 (fun H hI => ?_)
      refine lv_dup hx hb dX7_makeInto_95 rfl ?_
      refine lv_aload hx hb dX7_makeInto_96 (lv_at hl 3 rfl) ?_
      refine lv_aload hx hb dX7_makeInto_98 (lv_at hl 0 rfl) ?_
      replace h := cb_s h
      obtain ⟨u0, σ12, h11, h⟩ := h
      refine hm_callv (hm_runI (As := [.ref v4, .ref a4]) (rest := [.ref q7, .int x3, va_rf f5]) S hK hI (mX5_init l E h11) (pm_X7_229 hK) rfl (pi_X5_init hK) ⟨by omega, by omega⟩ rfl hl.1 (by cases f5 <;> exact Nat.le_of_ble_eq_true rfl) ⟨by omega, by omega⟩ dX7_makeInto_100) hL (fun H locs hI hL => ?_)
      replace h := ob_s h
      obtain ⟨a13, rfl, h⟩ := h
      have hl : lv_has ls 7 [(6, .ref a4), (0, .ref x0), (3, .int x3), (4, .ref v4), (5, va_rf v5)] := hl
      replace h := ob_s h
      obtain ⟨σ14, h15, h⟩ := h
      refine hm_aast (r := (some q7)) S hK hI hL h15 dX7_makeInto_103 (fun H locs hI hL => ?_)
      refine lv_aload_n hx hb dX7_makeInto_104 rfl (lv_at hl 1 rfl) ?_
      refine lv_dup hx hb dX7_makeInto_105 rfl ?_
      replace h := ob_s h
      obtain ⟨f16, h17, h⟩ := h
      refine hm_get S hK hI (pf_X7_25_9 hK) (gI_s h17) dX7_makeInto_106 ?_
      refine lv_iconst (v := 1) hx hb dX7_makeInto_109 (by decide) ?_
      refine lv_iadd hx hb dX7_makeInto_110 ?_
      replace h := ob_s h
      obtain ⟨σ18, h19, h⟩ := h
      refine hm_put S hK hI hL (pf_X7_25_9 hK) h19 ⟨rfl, rfl⟩ dX7_makeInto_111 (fun H locs hI hL => ?_)
      refine lv_iconst (v := 0) hx hb dX7_makeInto_114 (by decide) ?_
      exact hm_iret hx hb hr hI hL h (by omega) (by omega) hlocks dX7_makeInto_115
  have h := hmain
  clear hmain
  unfold fX7_makeInto at h
  refine lv_aload_n hx hb dX7_makeInto_0 rfl (lv_at hl 0 rfl) ?_
  refine lv_iload_n hx hb dX7_makeInto_1 rfl (lv_at hl 1 rfl) ?_
  replace h := ob_s h
  obtain ⟨_, h2, h⟩ := h
  replace h := cb_s h
  obtain ⟨r4, σ3, h1, h⟩ := h
  refine hm_call (hm_runV (As := [.int x1]) (rest := []) (ci := 9) S hK hI (obC_s h2) rfl (mX7_typeAt l E h1) (pm_X7_47 hK) (pi_X7_typeAt hK) (pl_X7_X7_typeAt hK) ⟨by omega, by omega⟩ rfl hl.1 (Nat.le_of_ble_eq_true rfl) ⟨by omega, by omega⟩ dX7_makeInto_2) hL (fun H locs hI hL => ?_)
  refine hm_astore (lv' := [(4, va_rf r4), (0, .ref x0), (1, .int x1), (2, .int x2), (3, .int x3)]) hx hb dX7_makeInto_5 hl (by decide) rfl (fun ls hl => ?_)
  refine hm_aload hx hb dX7_makeInto_7 (lv_at hl 0 rfl) ?_
  cases r4 with
  | none =>
    replace h := oc_n h
    have hl : lv_has ls 7 [(4, va_rf none), (0, .ref x0), (1, .int x1), (2, .int x2), (3, .int x3)] := hl
    refine lv_ifnullN (tgt := 19) hx hb dX7_makeInto_9 (by decide) ?_
    refine lv_iconst (v := -1) hx hb dX7_makeInto_19 (by decide) ?_
    exact hm_iret hx hb hr hI hL h (by omega) (by omega) hlocks dX7_makeInto_20
  | some a5 =>
    replace h := oc_s h
    have hl : lv_has ls 7 [(4, .ref a5), (0, .ref x0), (1, .int x1), (2, .int x2), (3, .int x3)] := hl
    refine lv_ifnull hx hb dX7_makeInto_9 ?_
    refine lv_iload_n hx hb dX7_makeInto_12 rfl (lv_at hl 4 rfl) ?_
    replace h := cb_s h
    obtain ⟨r8, σ7, h6, h⟩ := h
    refine hm_call (hm_runS (As := [.int x3]) (rest := []) S hK hI (mX7_isPlace l E h6) (pm_X7_139 hK) (ps_X7_isPlace hK) ⟨by omega, by omega⟩ rfl hl.1 (Nat.le_of_ble_eq_true rfl) ⟨by omega, by omega⟩ dX7_makeInto_13) hL (fun H locs hI hL => ?_)
    refine lv_if_ne (tgt := 21) hx hb dX7_makeInto_16 (by decide) (fun c9 => ?_) (fun c9 => ?_)
    · replace h := it_n c9 h
      refine hm_null hx hb dX7_makeInto_21 ?_
      refine hm_astore (lv' := [(5, va_rf none), (4, .ref a5), (0, .ref x0), (1, .int x1), (2, .int x2), (3, .int x3)]) hx hb dX7_makeInto_22 hl (by decide) rfl (fun ls hl => ?_)
      refine lv_aload hx hb dX7_makeInto_24 (lv_at hl 1 rfl) ?_
      replace h := ob_s h
      obtain ⟨f10, h11, h⟩ := h
      refine hm_get S hK hI (pf_X7_222_8 hK) (gI_s h11) dX7_makeInto_26 ?_
      refine lv_if_eq (tgt := 71) hx hb dX7_makeInto_29 (by decide) (fun c12 => ?_) (fun c12 => ?_)
      · replace h := it_p c12 h
        exact hJ71 _ _ _ _ _ _ h hI hL (lv_sub hl [2, 5, 1, 0] rfl)
      · replace h := it_n c12 h
        refine lv_iload_n hx hb dX7_makeInto_32 rfl (lv_at hl 4 rfl) ?_
        replace h := cb_s h
        obtain ⟨r15, σ14, h13, h⟩ := h
        refine hm_call (hm_runS (As := [.int x2]) (rest := []) S hK hI (mX7_isPlace l E h13) (pm_X7_139 hK) (ps_X7_isPlace hK) ⟨by omega, by omega⟩ rfl hl.1 (Nat.le_of_ble_eq_true rfl) ⟨by omega, by omega⟩ dX7_makeInto_33) hL (fun H locs hI hL => ?_)
        refine lv_if_ne (tgt := 41) hx hb dX7_makeInto_36 (by decide) (fun c16 => ?_) (fun c16 => ?_)
        · replace h := it_n c16 h
          refine lv_aload_n hx hb dX7_makeInto_41 rfl (lv_at hl 2 rfl) ?_
          replace h := ob_s h
          obtain ⟨f17, h18, h⟩ := h
          refine hm_get S hK hI (pf_X7_21_9 hK) (gR_s h18) dX7_makeInto_42 ?_
          refine lv_iload_n hx hb dX7_makeInto_45 rfl (lv_at hl 4 rfl) ?_
          replace h := ob_s h
          obtain ⟨a19, rfl, h⟩ := h
          have hl : lv_has ls 7 [(5, va_rf none), (4, .ref a5), (0, .ref x0), (1, .int x1), (2, .int x2), (3, .int x3)] := hl
          replace h := ob_s h
          obtain ⟨e20, h21, h⟩ := h
          refine hm_aald S hK hI h21 dX7_makeInto_46 ?_
          refine hm_astore (lv' := [(5, va_rf e20), (4, .ref a5), (0, .ref x0), (1, .int x1), (2, .int x2), (3, .int x3)]) hx hb dX7_makeInto_47 hl (by decide) rfl (fun ls hl => ?_)
          refine hm_aload hx hb dX7_makeInto_49 (lv_at hl 0 rfl) ?_
          cases e20 with
          | none =>
            replace h := oc_n h
            have hl : lv_has ls 7 [(5, va_rf none), (4, .ref a5), (0, .ref x0), (1, .int x1), (2, .int x2), (3, .int x3)] := hl
            refine lv_ifnonnullN hx hb dX7_makeInto_51 ?_
            refine lv_iconst (v := 1) hx hb dX7_makeInto_54 (by decide) ?_
            exact hm_iret hx hb hr hI hL h (by omega) (by omega) hlocks dX7_makeInto_55
          | some a22 =>
            replace h := oc_s h
            have hl : lv_has ls 7 [(5, .ref a22), (4, .ref a5), (0, .ref x0), (1, .int x1), (2, .int x2), (3, .int x3)] := hl
            refine lv_ifnonnull (tgt := 56) hx hb dX7_makeInto_51 (by decide) ?_
            refine lv_aload hx hb dX7_makeInto_56 (lv_at hl 0 rfl) ?_
            refine lv_aload hx hb dX7_makeInto_58 (lv_at hl 1 rfl) ?_
            replace h := ob_s h
            obtain ⟨f23, h24, h⟩ := h
            refine hm_get S hK hI (pf_X7_216_8 hK) (gR_s h24) dX7_makeInto_60 ?_
            replace h := ob_s h
            obtain ⟨_, h26, h⟩ := h
            replace h := cb_s h
            obtain ⟨r28, σ27, h25, h⟩ := h
            refine hm_call (hm_runV (As := [va_rf f23]) (rest := []) (ci := 7) S hK hI (obC_s h26) rfl (mX5_levelOf l E h25) (pm_X7_156 hK) (pi_X5_levelOf hK) (pl_X5_X5_levelOf hK) ⟨by omega, by omega⟩ rfl hl.1 (Nat.le_of_ble_eq_true rfl) ⟨by omega, by omega⟩ dX7_makeInto_63) hL (fun H locs hI hL => ?_)
            cases r28 with
            | none =>
              replace h := oc_n h
              have hl : lv_has ls 7 [(5, .ref a22), (4, .ref a5), (0, .ref x0), (1, .int x1), (2, .int x2), (3, .int x3)] := hl
              refine lv_ifnonnullN hx hb dX7_makeInto_66 ?_
              refine lv_iconst (v := 2) hx hb dX7_makeInto_69 (by decide) ?_
              exact hm_iret hx hb hr hI hL h (by omega) (by omega) hlocks dX7_makeInto_70
            | some a29 =>
              replace h := oc_s h
              have hl : lv_has ls 7 [(5, .ref a22), (4, .ref a5), (0, .ref x0), (1, .int x1), (2, .int x2), (3, .int x3)] := hl
              refine lv_ifnonnull (tgt := 71) hx hb dX7_makeInto_66 (by decide) ?_
              exact hJ71 _ _ _ _ _ _ h hI hL (lv_sub hl [2, 5, 1, 0] rfl)
        · replace h := it_p c16 h
          refine lv_iconst (v := -1) hx hb dX7_makeInto_39 (by decide) ?_
          exact hm_iret hx hb hr hI hL h (by omega) (by omega) hlocks dX7_makeInto_40
    · replace h := it_p c9 h
      refine lv_iconst (v := -1) hx hb dX7_makeInto_19 (by decide) ?_
      exact hm_iret hx hb hr hI hL h (by omega) (by omega) hlocks dX7_makeInto_20

def fX7_make (E : hmG) (x0 : Nat) (x1 : Int32) (x2 : Int32) (x3 : Int32) (σ : hmS) : Option (Int32 × hmS) :=
  ob (obC σ x0 9) fun _ => cb (fX7_makeInto E x0 x1 x2 x3 σ) fun r4 σ3 => ob (wF σ3 x0 9 7 (.int r4)) fun σ5 => ob (gI σ5 x0 9 7) fun f7 => some (f7, σ5)
set_option maxHeartbeats 4000000 in
set_option maxRecDepth 100000 in
theorem mX7_make (l : Launch) (E : hmG) {x0 : Nat} {x1 : Int32} {x2 : Int32} {x3 : Int32} {σ σ' : hmS} {r : Int32} (h : fX7_make E x0 x1 x2 x3 σ = some (r, σ')) : Met l yX7_make [Cond.code yX7_make cX7_make 4 (some .int)] { frames := 7, cells := 44, slots := 410, locals := 177 } (hmPc E [.ref x0, .int x1, .int x2, .int x3] σ) (hmQc E (some (.int r)) σ') 44 410 (fun q => hmL E ≤ q) := by
  refine Met.ofW (cc := cX7_make) (maxL := 4) (ret := (some .int)) (by decide) rfl ?_
  intro p e s m args below meth c s₁ B hml hv
  obtain ⟨rfl, hK, hI⟩ := hv
  have S : CallFix p m c cX7_make 4 s ([.ref x0, .int x1, .int x2, .int x3] : List Value).toArray [] RX7 := ⟨B.exec, B.bytes, hml, findClass_of_methodNamed B.named, fun w hw => by cases hw⟩
  have hx := S.1
  have hb := S.2.1
  have hr := B.returns
  have hlocks := B.notSynchronized
  have hL : hmLo E [] := hmLo.nil
  have hl : lv_has ((lg_sl ([.ref x0, .int x1, .int x2, .int x3]) ++ List.replicate (4 - (lg_sl ([.ref x0, .int x1, .int x2, .int x3])).length) Slot.unset).toArray) 4 [(0, .ref x0), (1, .int x1), (2, .int x2), (3, .int x3)] := by exact lv_entry _ (Nat.le_of_ble_eq_true rfl)
  rw [lg_entry_eq]
  generalize (lg_sl ([.ref x0, .int x1, .int x2, .int x3]) ++ List.replicate (4 - (lg_sl ([.ref x0, .int x1, .int x2, .int x3])).length) Slot.unset).toArray = ls at hl ⊢
  generalize hRe : (headSpec [Cond.code yX7_make cX7_make 4 (some .int)] { frames := 7, cells := 44, slots := 410, locals := 177 }).room = R
  have hR1 : R.frames = 7 ∧ R.cells = 44 ∧ R.slots = 410 ∧ R.locals = 177 := by rw [← hRe]; exact ⟨rfl, rfl, rfl, rfl⟩
  clear hRe B hml
  generalize s.heap = H at hI ⊢
  generalize ([] : List Loc) = locs at hL ⊢
  have hmain := h
  clear h
  have h := hmain
  clear hmain
  unfold fX7_make at h
  refine lv_aload_n hx hb dX7_make_0 rfl (lv_at hl 0 rfl) ?_
  refine lv_aload_n hx hb dX7_make_1 rfl (lv_at hl 0 rfl) ?_
  refine lv_iload_n hx hb dX7_make_2 rfl (lv_at hl 1 rfl) ?_
  refine lv_iload_n hx hb dX7_make_3 rfl (lv_at hl 2 rfl) ?_
  refine lv_iload_n hx hb dX7_make_4 rfl (lv_at hl 3 rfl) ?_
  replace h := ob_s h
  obtain ⟨_, h2, h⟩ := h
  replace h := cb_s h
  obtain ⟨r4, σ3, h1, h⟩ := h
  refine hm_call (hm_runV (As := [.int x1, .int x2, .int x3]) (rest := [.ref x0]) (ci := 9) S hK hI (obC_s h2) rfl (mX7_makeInto l E h1) (pm_X7_135 hK) (pi_X7_makeInto hK) (pl_X7_X7_makeInto hK) ⟨by omega, by omega⟩ rfl hl.1 (Nat.le_of_ble_eq_true rfl) ⟨by omega, by omega⟩ dX7_make_5) hL (fun H locs hI hL => ?_)
  replace h := ob_s h
  obtain ⟨σ5, h6, h⟩ := h
  refine hm_put S hK hI hL (pf_X7_44_9 hK) h6 ⟨rfl, rfl⟩ dX7_make_8 (fun H locs hI hL => ?_)
  refine lv_aload_n hx hb dX7_make_11 rfl (lv_at hl 0 rfl) ?_
  replace h := ob_s h
  obtain ⟨f7, h8, h⟩ := h
  refine hm_get S hK hI (pf_X7_44_9 hK) (gI_s h8) dX7_make_12 ?_
  exact hm_iret hx hb hr hI hL h (by omega) (by omega) hlocks dX7_make_15
