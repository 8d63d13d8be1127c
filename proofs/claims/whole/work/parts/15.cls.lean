def fX7_share (x0 : Nat) (x1 : Int32) (x2 : Int32) (σ : hmS) : Option (Int32 × hmS) :=
  cb (fX7_isPlace x1 σ) fun r3 σ2 => if r3 = 0 then
    some ((-1 : Int32), σ2)
  else
    cb (fX7_isPlace x2 σ2) fun r7 σ6 => if r7 = 0 then
      some ((-1 : Int32), σ6)
    else
      ob (gR σ6 x0 9 2) fun f9 => ob (gR σ6 x0 9 2) fun f11 => ob f11 fun a13 => ob (aR σ6 a13 x1) fun e14 => ob f9 fun a16 => ob (sR σ6 a16 x2 e14) fun σ17 => ob (gR σ17 x0 9 2) fun f19 => ob f19 fun a21 => ob (aR σ17 a21 x2) fun e22 => oc e22
        (some ((0 : Int32), σ17))
        (fun a24 => some ((1 : Int32), σ17))
set_option maxHeartbeats 4000000 in
set_option maxRecDepth 100000 in
theorem mX7_share (l : Launch) (E : hmG) {x0 : Nat} {x1 : Int32} {x2 : Int32} {σ σ' : hmS} {r : Int32} (h : fX7_share x0 x1 x2 σ = some (r, σ')) : Met l yX7_share [Cond.code yX7_share cX7_share 3 (some .int)] { frames := 1, cells := 0, slots := 0, locals := 20 } (hmPc E [.ref x0, .int x1, .int x2] σ) (hmQc E (some (.int r)) σ') 0 0 (fun q => hmL E ≤ q) := by
  refine Met.ofW (cc := cX7_share) (maxL := 3) (ret := (some .int)) (by decide) rfl ?_
  intro p e s m args below meth c s₁ B hml hv
  obtain ⟨rfl, hK, hI⟩ := hv
  have S : CallFix p m c cX7_share 3 s ([.ref x0, .int x1, .int x2] : List Value).toArray [] RX7 := ⟨B.exec, B.bytes, hml, findClass_of_methodNamed B.named, fun w hw => by cases hw⟩
  have hx := S.1
  have hb := S.2.1
  have hr := B.returns
  have hlocks := B.notSynchronized
  have hL : hmLo E [] := hmLo.nil
  have hl : lv_has ((lg_sl ([.ref x0, .int x1, .int x2]) ++ List.replicate (3 - (lg_sl ([.ref x0, .int x1, .int x2])).length) Slot.unset).toArray) 3 [(0, .ref x0), (1, .int x1), (2, .int x2)] := by exact lv_entry _ (Nat.le_of_ble_eq_true rfl)
  rw [lg_entry_eq]
  generalize (lg_sl ([.ref x0, .int x1, .int x2]) ++ List.replicate (3 - (lg_sl ([.ref x0, .int x1, .int x2])).length) Slot.unset).toArray = ls at hl ⊢
  generalize hRe : (headSpec [Cond.code yX7_share cX7_share 3 (some .int)] { frames := 1, cells := 0, slots := 0, locals := 20 }).room = R
  have hR1 : R.frames = 1 ∧ R.cells = 0 ∧ R.slots = 0 ∧ R.locals = 20 := by rw [← hRe]; exact ⟨rfl, rfl, rfl, rfl⟩
  clear hRe B hml
  generalize s.heap = H at hI ⊢
  generalize ([] : List Loc) = locs at hL ⊢
  have hmain := h
  clear h
  have h := hmain
  clear hmain
  unfold fX7_share at h
  refine lv_iload_n hx hb dX7_share_0 rfl (lv_at hl 1 rfl) ?_
  replace h := cb_s h
  obtain ⟨r3, σ2, h1, h⟩ := h
  refine hm_call (hm_runS (As := [.int x1]) (rest := []) S hK hI (mX7_isPlace l E h1) (pm_X7_139 hK) (ps_X7_isPlace hK) ⟨by omega, by omega⟩ rfl hl.1 (Nat.le_of_ble_eq_true rfl) ⟨by omega, by omega⟩ dX7_share_1) hL (fun H locs hI hL => ?_)
  refine lv_if_eq (tgt := 14) hx hb dX7_share_4 (by decide) (fun c4 => ?_) (fun c4 => ?_)
  · replace h := it_p c4 h
    refine lv_iconst (v := -1) hx hb dX7_share_14 (by decide) ?_
    exact hm_iret hx hb hr hI hL h (by omega) (by omega) hlocks dX7_share_15
  · replace h := it_n c4 h
    refine lv_iload_n hx hb dX7_share_7 rfl (lv_at hl 2 rfl) ?_
    replace h := cb_s h
    obtain ⟨r7, σ6, h5, h⟩ := h
    refine hm_call (hm_runS (As := [.int x2]) (rest := []) S hK hI (mX7_isPlace l E h5) (pm_X7_139 hK) (ps_X7_isPlace hK) ⟨by omega, by omega⟩ rfl hl.1 (Nat.le_of_ble_eq_true rfl) ⟨by omega, by omega⟩ dX7_share_8) hL (fun H locs hI hL => ?_)
    refine lv_if_ne (tgt := 16) hx hb dX7_share_11 (by decide) (fun c8 => ?_) (fun c8 => ?_)
    · replace h := it_n c8 h
      refine lv_aload_n hx hb dX7_share_16 rfl (lv_at hl 0 rfl) ?_
      replace h := ob_s h
      obtain ⟨f9, h10, h⟩ := h
      refine hm_get S hK hI (pf_X7_21_9 hK) (gR_s h10) dX7_share_17 ?_
      refine lv_iload_n hx hb dX7_share_20 rfl (lv_at hl 2 rfl) ?_
      refine lv_aload_n hx hb dX7_share_21 rfl (lv_at hl 0 rfl) ?_
      replace h := ob_s h
      obtain ⟨f11, h12, h⟩ := h
      refine hm_get S hK hI (pf_X7_21_9 hK) (gR_s h12) dX7_share_22 ?_
      refine lv_iload_n hx hb dX7_share_25 rfl (lv_at hl 1 rfl) ?_
      replace h := ob_s h
      obtain ⟨a13, rfl, h⟩ := h
      have hl : lv_has ls 3 [(0, .ref x0), (1, .int x1), (2, .int x2)] := hl
      replace h := ob_s h
      obtain ⟨e14, h15, h⟩ := h
      refine hm_aald S hK hI h15 dX7_share_26 ?_
      replace h := ob_s h
      obtain ⟨a16, rfl, h⟩ := h
      have hl : lv_has ls 3 [(0, .ref x0), (1, .int x1), (2, .int x2)] := hl
      replace h := ob_s h
      obtain ⟨σ17, h18, h⟩ := h
      refine hm_aast (r := e14) S hK hI hL h18 dX7_share_27 (fun H locs hI hL => ?_)
      refine lv_aload_n hx hb dX7_share_28 rfl (lv_at hl 0 rfl) ?_
      replace h := ob_s h
      obtain ⟨f19, h20, h⟩ := h
      refine hm_get S hK hI (pf_X7_21_9 hK) (gR_s h20) dX7_share_29 ?_
      refine lv_iload_n hx hb dX7_share_32 rfl (lv_at hl 2 rfl) ?_
      replace h := ob_s h
      obtain ⟨a21, rfl, h⟩ := h
      have hl : lv_has ls 3 [(0, .ref x0), (1, .int x1), (2, .int x2)] := hl
      replace h := ob_s h
      obtain ⟨e22, h23, h⟩ := h
      refine hm_aald S hK hI h23 dX7_share_33 ?_
      cases e22 with
      | none =>
        replace h := oc_n h
        have hl : lv_has ls 3 [(0, .ref x0), (1, .int x1), (2, .int x2)] := hl
        refine lv_ifnullN (tgt := 41) hx hb dX7_share_34 (by decide) ?_
        refine lv_iconst (v := 0) hx hb dX7_share_41 (by decide) ?_
        exact hm_iret hx hb hr hI hL h (by omega) (by omega) hlocks dX7_share_42
      | some a24 =>
        replace h := oc_s h
        have hl : lv_has ls 3 [(0, .ref x0), (1, .int x1), (2, .int x2)] := hl
        refine lv_ifnull hx hb dX7_share_34 ?_
        refine lv_iconst (v := 1) hx hb dX7_share_37 (by decide) ?_
        refine lv_goto (tgt := 42) hx hb dX7_share_38 (by decide) ?_
        exact hm_iret hx hb hr hI hL h (by omega) (by omega) hlocks dX7_share_42
    · replace h := it_p c8 h
      refine lv_iconst (v := -1) hx hb dX7_share_14 (by decide) ?_
      exact hm_iret hx hb hr hI hL h (by omega) (by omega) hlocks dX7_share_15

def fX7_free_J23 (x0 : Nat) (x1 : Int32)  (w0 : Int32) (σ : hmS) : Option (Int32 × hmS) :=
  ob (gR σ x0 9 2) fun f1 => ob f1 fun a3 => ob (sR σ a3 x1 none) fun σ4 => if w0 = 0 then
    some ((0 : Int32), σ4)
  else
    some ((1 : Int32), σ4)
def fX7_free (x0 : Nat) (x1 : Int32) (σ : hmS) : Option (Int32 × hmS) :=
  cb (fX7_isPlace x1 σ) fun r3 σ2 => if r3 = 0 then
    some ((-1 : Int32), σ2)
  else
    ob (gR σ2 x0 9 2) fun f5 => ob f5 fun a7 => ob (aR σ2 a7 x1) fun e8 => oc e8
      (fX7_free_J23 x0 x1 (0 : Int32) σ2)
      (fun a10 => fX7_free_J23 x0 x1 (1 : Int32) σ2)
set_option maxHeartbeats 4000000 in
set_option maxRecDepth 100000 in
theorem mX7_free (l : Launch) (E : hmG) {x0 : Nat} {x1 : Int32} {σ σ' : hmS} {r : Int32} (h : fX7_free x0 x1 σ = some (r, σ')) : Met l yX7_free [Cond.code yX7_free cX7_free 3 (some .int)] { frames := 1, cells := 0, slots := 0, locals := 20 } (hmPc E [.ref x0, .int x1] σ) (hmQc E (some (.int r)) σ') 0 0 (fun q => hmL E ≤ q) := by
  refine Met.ofW (cc := cX7_free) (maxL := 3) (ret := (some .int)) (by decide) rfl ?_
  intro p e s m args below meth c s₁ B hml hv
  obtain ⟨rfl, hK, hI⟩ := hv
  have S : CallFix p m c cX7_free 3 s ([.ref x0, .int x1] : List Value).toArray [] RX7 := ⟨B.exec, B.bytes, hml, findClass_of_methodNamed B.named, fun w hw => by cases hw⟩
  have hx := S.1
  have hb := S.2.1
  have hr := B.returns
  have hlocks := B.notSynchronized
  have hL : hmLo E [] := hmLo.nil
  have hl : lv_has ((lg_sl ([.ref x0, .int x1]) ++ List.replicate (3 - (lg_sl ([.ref x0, .int x1])).length) Slot.unset).toArray) 3 [(0, .ref x0), (1, .int x1)] := by exact lv_entry _ (Nat.le_of_ble_eq_true rfl)
  rw [lg_entry_eq]
  generalize (lg_sl ([.ref x0, .int x1]) ++ List.replicate (3 - (lg_sl ([.ref x0, .int x1])).length) Slot.unset).toArray = ls at hl ⊢
  generalize hRe : (headSpec [Cond.code yX7_free cX7_free 3 (some .int)] { frames := 1, cells := 0, slots := 0, locals := 20 }).room = R
  have hR1 : R.frames = 1 ∧ R.cells = 0 ∧ R.slots = 0 ∧ R.locals = 20 := by rw [← hRe]; exact ⟨rfl, rfl, rfl, rfl⟩
  clear hRe B hml
  generalize s.heap = H at hI ⊢
  generalize ([] : List Loc) = locs at hL ⊢
  have hmain := h
  clear h
  have hJ23 : ∀ (w0 : Int32) (σ : hmS) (H : Heap) (locs : List Loc) (ls : Array Slot), fX7_free_J23 x0 x1  w0 σ = some (r, σ') → hmI E σ H → hmLo E locs → lv_has ls 3 [(0, .ref x0), (1, .int x1)] → W p l e R s m ([.ref x0, .int x1] : List Value).toArray below meth c H locs 0 0 (MQ below (hmQc E (some (.int r)) σ') ([.ref x0, .int x1] : List Value).toArray s 0 0 (fun q => hmL E ≤ q)) (F0 m 23 ls [.int w0]) := by
    intro w0 σ H locs ls h hI hL hl
    unfold fX7_free_J23 at h
    refine lv_istore_n (lv' := [(2, .int w0), (0, .ref x0), (1, .int x1)]) hx hb dX7_free_23 rfl hl (by decide) rfl (fun ls hl => ?_)
    refine lv_aload_n hx hb dX7_free_24 rfl (lv_at hl 1 rfl) ?_
    replace h := ob_s h
    obtain ⟨f1, h2, h⟩ := h
    refine hm_get S hK hI (pf_X7_21_9 hK) (gR_s h2) dX7_free_25 ?_
    refine lv_iload_n hx hb dX7_free_28 rfl (lv_at hl 2 rfl) ?_
    refine hm_null hx hb dX7_free_29 ?_
    replace h := ob_s h
    obtain ⟨a3, rfl, h⟩ := h
    have hl : lv_has ls 3 [(2, .int w0), (0, .ref x0), (1, .int x1)] := hl
    replace h := ob_s h
    obtain ⟨σ4, h5, h⟩ := h
    refine hm_aast (r := none) S hK hI hL h5 dX7_free_30 (fun H locs hI hL => ?_)
    refine lv_iload_n hx hb dX7_free_31 rfl (lv_at hl 0 rfl) ?_
    refine lv_if_eq (tgt := 39) hx hb dX7_free_32 (by decide) (fun c6 => ?_) (fun c6 => ?_)
    · replace h := it_p c6 h
      refine lv_iconst (v := 0) hx hb dX7_free_39 (by decide) ?_
      exact hm_iret hx hb hr hI hL h (by omega) (by omega) hlocks dX7_free_40
    · replace h := it_n c6 h
      refine lv_iconst (v := 1) hx hb dX7_free_35 (by decide) ?_
      refine lv_goto (tgt := 40) hx hb dX7_free_36 (by decide) ?_
      exact hm_iret hx hb hr hI hL h (by omega) (by omega) hlocks dX7_free_40
  have h := hmain
  clear hmain
  unfold fX7_free at h
  refine lv_iload_n hx hb dX7_free_0 rfl (lv_at hl 1 rfl) ?_
  replace h := cb_s h
  obtain ⟨r3, σ2, h1, h⟩ := h
  refine hm_call (hm_runS (As := [.int x1]) (rest := []) S hK hI (mX7_isPlace l E h1) (pm_X7_139 hK) (ps_X7_isPlace hK) ⟨by omega, by omega⟩ rfl hl.1 (Nat.le_of_ble_eq_true rfl) ⟨by omega, by omega⟩ dX7_free_1) hL (fun H locs hI hL => ?_)
  refine lv_if_ne (tgt := 9) hx hb dX7_free_4 (by decide) (fun c4 => ?_) (fun c4 => ?_)
  · replace h := it_n c4 h
    refine lv_aload_n hx hb dX7_free_9 rfl (lv_at hl 0 rfl) ?_
    replace h := ob_s h
    obtain ⟨f5, h6, h⟩ := h
    refine hm_get S hK hI (pf_X7_21_9 hK) (gR_s h6) dX7_free_10 ?_
    refine lv_iload_n hx hb dX7_free_13 rfl (lv_at hl 1 rfl) ?_
    replace h := ob_s h
    obtain ⟨a7, rfl, h⟩ := h
    have hl : lv_has ls 3 [(0, .ref x0), (1, .int x1)] := hl
    replace h := ob_s h
    obtain ⟨e8, h9, h⟩ := h
    refine hm_aald S hK hI h9 dX7_free_14 ?_
    cases e8 with
    | none =>
      replace h := oc_n h
      have hl : lv_has ls 3 [(0, .ref x0), (1, .int x1)] := hl
      refine lv_ifnullN (tgt := 22) hx hb dX7_free_15 (by decide) ?_
      refine lv_iconst (v := 0) hx hb dX7_free_22 (by decide) ?_
      exact hJ23 _ _ _ _ _ h hI hL (lv_sub hl [0, 1] rfl)
    | some a10 =>
      replace h := oc_s h
      have hl : lv_has ls 3 [(0, .ref x0), (1, .int x1)] := hl
      refine lv_ifnull hx hb dX7_free_15 ?_
      refine lv_iconst (v := 1) hx hb dX7_free_18 (by decide) ?_
      refine lv_goto (tgt := 23) hx hb dX7_free_19 (by decide) ?_
      exact hJ23 _ _ _ _ _ h hI hL (lv_sub hl [0, 1] rfl)
  · replace h := it_p c4 h
    refine lv_iconst (v := -1) hx hb dX7_free_7 (by decide) ?_
    exact hm_iret hx hb hr hI hL h (by omega) (by omega) hlocks dX7_free_8

def fX7_about (x0 : Nat) (x1 : Int32) (x2 : Int32) (σ : hmS) : Option (Int32 × hmS) :=
  cb (fX7_isPlace x1 σ) fun r3 σ2 => if r3 = 0 then
    some ((-1 : Int32), σ2)
  else
    if x2 < 0 then
      some ((-1 : Int32), σ2)
    else
      if x2 ≤ (3 : Int32) then
        ob (gR σ2 x0 9 2) fun f7 => ob f7 fun a9 => ob (aR σ2 a9 x1) fun e10 => oc e10
          (some ((-3 : Int32), σ2))
          (fun a12 => if x2 = (0 : Int32) then
            ob (gR σ2 a12 7 0) fun f14 => ob f14 fun a16 => ob (gI σ2 a16 8 0) fun f17 => some (f17, σ2)
          else
            if x2 = (1 : Int32) then
              ob (gR σ2 a12 7 1) fun f19 => ob f19 fun a21 => ob (aN σ2 a21) fun n22 => some (n22, σ2)
            else
              if x2 = (2 : Int32) then
                ob (gR σ2 a12 7 0) fun f24 => ob (obC σ2 a12 7) fun _ => cb (fX5_aroundAt a12 f24 σ2) fun r29 σ28 => oc r29
                  (some ((-3 : Int32), σ28))
                  (fun a30 => ob (gR σ28 a30 7 0) fun f31 => ob f31 fun a33 => ob (gI σ28 a33 8 0) fun f34 => some (f34, σ28))
              else
                ob (gR σ2 a12 7 0) fun f36 => ob (obC σ2 a12 7) fun _ => cb (fX5_levelOf a12 f36 σ2) fun r41 σ40 => oc r41
                  (some ((0 : Int32), σ40))
                  (fun a42 => ob (gR σ40 a42 5 3) fun f43 => ob f43 fun a45 => ob (aN σ40 a45) fun n46 => some (n46, σ40)))
      else
        some ((-1 : Int32), σ2)
set_option maxHeartbeats 4000000 in
set_option maxRecDepth 100000 in
theorem mX7_about (l : Launch) (E : hmG) {x0 : Nat} {x1 : Int32} {x2 : Int32} {σ σ' : hmS} {r : Int32} (h : fX7_about x0 x1 x2 σ = some (r, σ')) : Met l yX7_about [Cond.code yX7_about cX7_about 6 (some .int)] { frames := 2, cells := 0, slots := 0, locals := 44 } (hmPc E [.ref x0, .int x1, .int x2] σ) (hmQc E (some (.int r)) σ') 0 0 (fun q => hmL E ≤ q) := by
  refine Met.ofW (cc := cX7_about) (maxL := 6) (ret := (some .int)) (by decide) rfl ?_
  intro p e s m args below meth c s₁ B hml hv
  obtain ⟨rfl, hK, hI⟩ := hv
  have S : CallFix p m c cX7_about 6 s ([.ref x0, .int x1, .int x2] : List Value).toArray [] RX7 := ⟨B.exec, B.bytes, hml, findClass_of_methodNamed B.named, fun w hw => by cases hw⟩
  have hx := S.1
  have hb := S.2.1
  have hr := B.returns
  have hlocks := B.notSynchronized
  have hL : hmLo E [] := hmLo.nil
  have hl : lv_has ((lg_sl ([.ref x0, .int x1, .int x2]) ++ List.replicate (6 - (lg_sl ([.ref x0, .int x1, .int x2])).length) Slot.unset).toArray) 6 [(0, .ref x0), (1, .int x1), (2, .int x2)] := by exact lv_entry _ (Nat.le_of_ble_eq_true rfl)
  rw [lg_entry_eq]
  generalize (lg_sl ([.ref x0, .int x1, .int x2]) ++ List.replicate (6 - (lg_sl ([.ref x0, .int x1, .int x2])).length) Slot.unset).toArray = ls at hl ⊢
  generalize hRe : (headSpec [Cond.code yX7_about cX7_about 6 (some .int)] { frames := 2, cells := 0, slots := 0, locals := 44 }).room = R
  have hR1 : R.frames = 2 ∧ R.cells = 0 ∧ R.slots = 0 ∧ R.locals = 44 := by rw [← hRe]; exact ⟨rfl, rfl, rfl, rfl⟩
  clear hRe B hml
  generalize s.heap = H at hI ⊢
  generalize ([] : List Loc) = locs at hL ⊢
  have hmain := h
  clear h
  have h := hmain
  clear hmain
  unfold fX7_about at h
  refine lv_iload_n hx hb dX7_about_0 rfl (lv_at hl 1 rfl) ?_
  replace h := cb_s h
  obtain ⟨r3, σ2, h1, h⟩ := h
  refine hm_call (hm_runS (As := [.int x1]) (rest := []) S hK hI (mX7_isPlace l E h1) (pm_X7_139 hK) (ps_X7_isPlace hK) ⟨by omega, by omega⟩ rfl hl.1 (Nat.le_of_ble_eq_true rfl) ⟨by omega, by omega⟩ dX7_about_1) hL (fun H locs hI hL => ?_)
  refine lv_if_eq (tgt := 16) hx hb dX7_about_4 (by decide) (fun c4 => ?_) (fun c4 => ?_)
  · replace h := it_p c4 h
    refine lv_iconst (v := -1) hx hb dX7_about_16 (by decide) ?_
    exact hm_iret hx hb hr hI hL h (by omega) (by omega) hlocks dX7_about_17
  · replace h := it_n c4 h
    refine lv_iload_n hx hb dX7_about_7 rfl (lv_at hl 2 rfl) ?_
    refine lv_if_lt (tgt := 16) hx hb dX7_about_8 (by decide) (fun c5 => ?_) (fun c5 => ?_)
    · replace h := it_p c5 h
      refine lv_iconst (v := -1) hx hb dX7_about_16 (by decide) ?_
      exact hm_iret hx hb hr hI hL h (by omega) (by omega) hlocks dX7_about_17
    · replace h := it_n c5 h
      refine lv_iload_n hx hb dX7_about_11 rfl (lv_at hl 2 rfl) ?_
      refine lv_iconst (v := 3) hx hb dX7_about_12 (by decide) ?_
      refine lv_icmp_le (tgt := 18) hx hb dX7_about_13 (by decide) (fun c6 => ?_) (fun c6 => ?_)
      · replace h := it_p c6 h
        refine lv_aload_n hx hb dX7_about_18 rfl (lv_at hl 0 rfl) ?_
        replace h := ob_s h
        obtain ⟨f7, h8, h⟩ := h
        refine hm_get S hK hI (pf_X7_21_9 hK) (gR_s h8) dX7_about_19 ?_
        refine lv_iload_n hx hb dX7_about_22 rfl (lv_at hl 1 rfl) ?_
        replace h := ob_s h
        obtain ⟨a9, rfl, h⟩ := h
        have hl : lv_has ls 6 [(0, .ref x0), (1, .int x1), (2, .int x2)] := hl
        replace h := ob_s h
        obtain ⟨e10, h11, h⟩ := h
        refine hm_aald S hK hI h11 dX7_about_23 ?_
        refine hm_astore_n (lv' := [(3, va_rf e10), (0, .ref x0), (1, .int x1), (2, .int x2)]) hx hb dX7_about_24 rfl hl (by decide) rfl (fun ls hl => ?_)
        refine hm_aload_n hx hb dX7_about_25 rfl (lv_at hl 0 rfl) ?_
        cases e10 with
        | none =>
          replace h := oc_n h
          have hl : lv_has ls 6 [(3, va_rf none), (0, .ref x0), (1, .int x1), (2, .int x2)] := hl
          refine lv_ifnonnullN hx hb dX7_about_26 ?_
          refine lv_bipush (v := -3) hx hb dX7_about_29 (by decide) ?_
          exact hm_iret hx hb hr hI hL h (by omega) (by omega) hlocks dX7_about_31
        | some a12 =>
          replace h := oc_s h
          have hl : lv_has ls 6 [(3, .ref a12), (0, .ref x0), (1, .int x1), (2, .int x2)] := hl
          refine lv_ifnonnull (tgt := 32) hx hb dX7_about_26 (by decide) ?_
          refine lv_iload_n hx hb dX7_about_32 rfl (lv_at hl 3 rfl) ?_
          by_cases c13_0 : x2 = (0 : Int32)
          · replace h := it_p c13_0 h
            refine hm_tableIn (k := 0) (tgt := 60) hx hb dX7_about_33 c13_0 (by decide) (by decide) rfl (by decide) ?_
            refine lv_aload_n hx hb dX7_about_60 rfl (lv_at hl 0 rfl) ?_
            replace h := ob_s h
            obtain ⟨f14, h15, h⟩ := h
            refine hm_get S hK hI (pf_X7_142_7 hK) (gR_s h15) dX7_about_61 ?_
            replace h := ob_s h
            obtain ⟨a16, rfl, h⟩ := h
            have hl : lv_has ls 6 [(3, .ref a12), (0, .ref x0), (1, .int x1), (2, .int x2)] := hl
            replace h := ob_s h
            obtain ⟨f17, h18, h⟩ := h
            refine hm_get S hK hI (pf_X7_145_8 hK) (gI_s h18) dX7_about_64 ?_
            exact hm_iret hx hb hr hI hL h (by omega) (by omega) hlocks dX7_about_67
          replace h := it_n c13_0 h
          by_cases c13_1 : x2 = (1 : Int32)
          · replace h := it_p c13_1 h
            refine hm_tableIn (k := 1) (tgt := 68) hx hb dX7_about_33 c13_1 (by decide) (by decide) rfl (by decide) ?_
            refine lv_aload_n hx hb dX7_about_68 rfl (lv_at hl 0 rfl) ?_
            replace h := ob_s h
            obtain ⟨f19, h20, h⟩ := h
            refine hm_get S hK hI (pf_X7_148_7 hK) (gR_s h20) dX7_about_69 ?_
            replace h := ob_s h
            obtain ⟨a21, rfl, h⟩ := h
            have hl : lv_has ls 6 [(3, .ref a12), (0, .ref x0), (1, .int x1), (2, .int x2)] := hl
            replace h := ob_s h
            obtain ⟨n22, h23, h⟩ := h
            refine hm_aN S hK hI h23 dX7_about_72 ?_
            exact hm_iret hx hb hr hI hL h (by omega) (by omega) hlocks dX7_about_73
          replace h := it_n c13_1 h
          by_cases c13_2 : x2 = (2 : Int32)
          · replace h := it_p c13_2 h
            refine hm_tableIn (k := 2) (tgt := 74) hx hb dX7_about_33 c13_2 (by decide) (by decide) rfl (by decide) ?_
            refine lv_aload_n hx hb dX7_about_74 rfl (lv_at hl 0 rfl) ?_
            refine lv_aload_n hx hb dX7_about_75 rfl (lv_at hl 0 rfl) ?_
            replace h := ob_s h
            obtain ⟨f24, h25, h⟩ := h
            refine hm_get S hK hI (pf_X7_142_7 hK) (gR_s h25) dX7_about_76 ?_
            replace h := ob_s h
            obtain ⟨_, h27, h⟩ := h
            replace h := cb_s h
            obtain ⟨r29, σ28, h26, h⟩ := h
            refine hm_call (hm_runV (As := [va_rf f24]) (rest := []) (ci := 7) S hK hI (obC_s h27) rfl (mX5_aroundAt l E h26) (pm_X7_152 hK) (pi_X5_aroundAt hK) (pl_X5_X5_aroundAt hK) ⟨by omega, by omega⟩ rfl hl.1 (Nat.le_of_ble_eq_true rfl) ⟨by omega, by omega⟩ dX7_about_79) hL (fun H locs hI hL => ?_)
            refine hm_astore (lv' := [(4, va_rf r29), (3, .ref a12), (0, .ref x0), (1, .int x1), (2, .int x2)]) hx hb dX7_about_82 hl (by decide) rfl (fun ls hl => ?_)
            refine hm_aload hx hb dX7_about_84 (lv_at hl 0 rfl) ?_
            cases r29 with
            | none =>
              replace h := oc_n h
              have hl : lv_has ls 6 [(4, va_rf none), (3, .ref a12), (0, .ref x0), (1, .int x1), (2, .int x2)] := hl
              refine lv_ifnonnullN hx hb dX7_about_86 ?_
              refine lv_bipush (v := -3) hx hb dX7_about_89 (by decide) ?_
              refine lv_goto (tgt := 102) hx hb dX7_about_91 (by decide) ?_
              exact hm_iret hx hb hr hI hL h (by omega) (by omega) hlocks dX7_about_102
            | some a30 =>
              replace h := oc_s h
              have hl : lv_has ls 6 [(4, .ref a30), (3, .ref a12), (0, .ref x0), (1, .int x1), (2, .int x2)] := hl
              refine lv_ifnonnull (tgt := 94) hx hb dX7_about_86 (by decide) ?_
              refine lv_aload hx hb dX7_about_94 (lv_at hl 0 rfl) ?_
              replace h := ob_s h
              obtain ⟨f31, h32, h⟩ := h
              refine hm_get S hK hI (pf_X7_142_7 hK) (gR_s h32) dX7_about_96 ?_
              replace h := ob_s h
              obtain ⟨a33, rfl, h⟩ := h
              have hl : lv_has ls 6 [(4, .ref a30), (3, .ref a12), (0, .ref x0), (1, .int x1), (2, .int x2)] := hl
              replace h := ob_s h
              obtain ⟨f34, h35, h⟩ := h
              refine hm_get S hK hI (pf_X7_145_8 hK) (gI_s h35) dX7_about_99 ?_
              exact hm_iret hx hb hr hI hL h (by omega) (by omega) hlocks dX7_about_102
          replace h := it_n c13_2 h
          refine hm_tableOut 3 (by decide) (x := x2) (tgt := 103) hx hb dX7_about_33 (by decide) (fun j hj => match j, hj with | 0, _ => c13_0 | 1, _ => c13_1 | 2, _ => c13_2 | j + 3, hj => absurd hj (by omega)) (by decide) ?_
          refine lv_aload_n hx hb dX7_about_103 rfl (lv_at hl 0 rfl) ?_
          refine lv_aload_n hx hb dX7_about_104 rfl (lv_at hl 0 rfl) ?_
          replace h := ob_s h
          obtain ⟨f36, h37, h⟩ := h
          refine hm_get S hK hI (pf_X7_142_7 hK) (gR_s h37) dX7_about_105 ?_
          replace h := ob_s h
          obtain ⟨_, h39, h⟩ := h
          replace h := cb_s h
          obtain ⟨r41, σ40, h38, h⟩ := h
          refine hm_call (hm_runV (As := [va_rf f36]) (rest := []) (ci := 7) S hK hI (obC_s h39) rfl (mX5_levelOf l E h38) (pm_X7_156 hK) (pi_X5_levelOf hK) (pl_X5_X5_levelOf hK) ⟨by omega, by omega⟩ rfl hl.1 (Nat.le_of_ble_eq_true rfl) ⟨by omega, by omega⟩ dX7_about_108) hL (fun H locs hI hL => ?_)
          refine hm_astore (lv' := [(5, va_rf r41), (3, .ref a12), (0, .ref x0), (1, .int x1), (2, .int x2)]) hx hb dX7_about_111 hl (by decide) rfl (fun ls hl => ?_)
          refine hm_aload hx hb dX7_about_113 (lv_at hl 0 rfl) ?_
          cases r41 with
          | none =>
            replace h := oc_n h
            have hl : lv_has ls 6 [(5, va_rf none), (3, .ref a12), (0, .ref x0), (1, .int x1), (2, .int x2)] := hl
            refine lv_ifnonnullN hx hb dX7_about_115 ?_
            refine lv_iconst (v := 0) hx hb dX7_about_118 (by decide) ?_
            refine lv_goto (tgt := 128) hx hb dX7_about_119 (by decide) ?_
            exact hm_iret hx hb hr hI hL h (by omega) (by omega) hlocks dX7_about_128
          | some a42 =>
            replace h := oc_s h
            have hl : lv_has ls 6 [(5, .ref a42), (3, .ref a12), (0, .ref x0), (1, .int x1), (2, .int x2)] := hl
            refine lv_ifnonnull (tgt := 122) hx hb dX7_about_115 (by decide) ?_
            refine lv_aload hx hb dX7_about_122 (lv_at hl 0 rfl) ?_
            replace h := ob_s h
            obtain ⟨f43, h44, h⟩ := h
            refine hm_get S hK hI (pf_X7_160_5 hK) (gR_s h44) dX7_about_124 ?_
            replace h := ob_s h
            obtain ⟨a45, rfl, h⟩ := h
            have hl : lv_has ls 6 [(5, .ref a42), (3, .ref a12), (0, .ref x0), (1, .int x1), (2, .int x2)] := hl
            replace h := ob_s h
            obtain ⟨n46, h47, h⟩ := h
            refine hm_aN S hK hI h47 dX7_about_127 ?_
            exact hm_iret hx hb hr hI hL h (by omega) (by omega) hlocks dX7_about_128
      · replace h := it_n c6 h
        refine lv_iconst (v := -1) hx hb dX7_about_16 (by decide) ?_
        exact hm_iret hx hb hr hI hL h (by omega) (by omega) hlocks dX7_about_17

def fX7_same (x0 : Nat) (x1 : Int32) (x2 : Int32) (σ : hmS) : Option (Int32 × hmS) :=
  cb (fX7_isPlace x1 σ) fun r3 σ2 => if r3 = 0 then
    some ((-1 : Int32), σ2)
  else
    cb (fX7_isPlace x2 σ2) fun r7 σ6 => if r7 = 0 then
      some ((-1 : Int32), σ6)
    else
      ob (gR σ6 x0 9 2) fun f9 => ob f9 fun a11 => ob (aR σ6 a11 x1) fun e12 => ob (gR σ6 x0 9 2) fun f14 => ob f14 fun a16 => ob (aR σ6 a16 x2) fun e17 => if e12 = e17 then
        some ((1 : Int32), σ6)
      else
        some ((0 : Int32), σ6)
set_option maxHeartbeats 4000000 in
set_option maxRecDepth 100000 in
theorem mX7_same (l : Launch) (E : hmG) {x0 : Nat} {x1 : Int32} {x2 : Int32} {σ σ' : hmS} {r : Int32} (h : fX7_same x0 x1 x2 σ = some (r, σ')) : Met l yX7_same [Cond.code yX7_same cX7_same 3 (some .int)] { frames := 1, cells := 0, slots := 0, locals := 20 } (hmPc E [.ref x0, .int x1, .int x2] σ) (hmQc E (some (.int r)) σ') 0 0 (fun q => hmL E ≤ q) := by
  refine Met.ofW (cc := cX7_same) (maxL := 3) (ret := (some .int)) (by decide) rfl ?_
  intro p e s m args below meth c s₁ B hml hv
  obtain ⟨rfl, hK, hI⟩ := hv
  have S : CallFix p m c cX7_same 3 s ([.ref x0, .int x1, .int x2] : List Value).toArray [] RX7 := ⟨B.exec, B.bytes, hml, findClass_of_methodNamed B.named, fun w hw => by cases hw⟩
  have hx := S.1
  have hb := S.2.1
  have hr := B.returns
  have hlocks := B.notSynchronized
  have hL : hmLo E [] := hmLo.nil
  have hl : lv_has ((lg_sl ([.ref x0, .int x1, .int x2]) ++ List.replicate (3 - (lg_sl ([.ref x0, .int x1, .int x2])).length) Slot.unset).toArray) 3 [(0, .ref x0), (1, .int x1), (2, .int x2)] := by exact lv_entry _ (Nat.le_of_ble_eq_true rfl)
  rw [lg_entry_eq]
  generalize (lg_sl ([.ref x0, .int x1, .int x2]) ++ List.replicate (3 - (lg_sl ([.ref x0, .int x1, .int x2])).length) Slot.unset).toArray = ls at hl ⊢
  generalize hRe : (headSpec [Cond.code yX7_same cX7_same 3 (some .int)] { frames := 1, cells := 0, slots := 0, locals := 20 }).room = R
  have hR1 : R.frames = 1 ∧ R.cells = 0 ∧ R.slots = 0 ∧ R.locals = 20 := by rw [← hRe]; exact ⟨rfl, rfl, rfl, rfl⟩
  clear hRe B hml
  generalize s.heap = H at hI ⊢
  generalize ([] : List Loc) = locs at hL ⊢
  have hmain := h
  clear h
  have h := hmain
  clear hmain
  unfold fX7_same at h
  refine lv_iload_n hx hb dX7_same_0 rfl (lv_at hl 1 rfl) ?_
  replace h := cb_s h
  obtain ⟨r3, σ2, h1, h⟩ := h
  refine hm_call (hm_runS (As := [.int x1]) (rest := []) S hK hI (mX7_isPlace l E h1) (pm_X7_139 hK) (ps_X7_isPlace hK) ⟨by omega, by omega⟩ rfl hl.1 (Nat.le_of_ble_eq_true rfl) ⟨by omega, by omega⟩ dX7_same_1) hL (fun H locs hI hL => ?_)
  refine lv_if_eq (tgt := 14) hx hb dX7_same_4 (by decide) (fun c4 => ?_) (fun c4 => ?_)
  · replace h := it_p c4 h
    refine lv_iconst (v := -1) hx hb dX7_same_14 (by decide) ?_
    exact hm_iret hx hb hr hI hL h (by omega) (by omega) hlocks dX7_same_15
  · replace h := it_n c4 h
    refine lv_iload_n hx hb dX7_same_7 rfl (lv_at hl 2 rfl) ?_
    replace h := cb_s h
    obtain ⟨r7, σ6, h5, h⟩ := h
    refine hm_call (hm_runS (As := [.int x2]) (rest := []) S hK hI (mX7_isPlace l E h5) (pm_X7_139 hK) (ps_X7_isPlace hK) ⟨by omega, by omega⟩ rfl hl.1 (Nat.le_of_ble_eq_true rfl) ⟨by omega, by omega⟩ dX7_same_8) hL (fun H locs hI hL => ?_)
    refine lv_if_ne (tgt := 16) hx hb dX7_same_11 (by decide) (fun c8 => ?_) (fun c8 => ?_)
    · replace h := it_n c8 h
      refine lv_aload_n hx hb dX7_same_16 rfl (lv_at hl 0 rfl) ?_
      replace h := ob_s h
      obtain ⟨f9, h10, h⟩ := h
      refine hm_get S hK hI (pf_X7_21_9 hK) (gR_s h10) dX7_same_17 ?_
      refine lv_iload_n hx hb dX7_same_20 rfl (lv_at hl 1 rfl) ?_
      replace h := ob_s h
      obtain ⟨a11, rfl, h⟩ := h
      have hl : lv_has ls 3 [(0, .ref x0), (1, .int x1), (2, .int x2)] := hl
      replace h := ob_s h
      obtain ⟨e12, h13, h⟩ := h
      refine hm_aald S hK hI h13 dX7_same_21 ?_
      refine lv_aload_n hx hb dX7_same_22 rfl (lv_at hl 0 rfl) ?_
      replace h := ob_s h
      obtain ⟨f14, h15, h⟩ := h
      refine hm_get S hK hI (pf_X7_21_9 hK) (gR_s h15) dX7_same_23 ?_
      refine lv_iload_n hx hb dX7_same_26 rfl (lv_at hl 2 rfl) ?_
      replace h := ob_s h
      obtain ⟨a16, rfl, h⟩ := h
      have hl : lv_has ls 3 [(0, .ref x0), (1, .int x1), (2, .int x2)] := hl
      replace h := ob_s h
      obtain ⟨e17, h18, h⟩ := h
      refine hm_aald S hK hI h18 dX7_same_27 ?_
      refine lv_acmp_ne (rx := e12) (ry := e17) (tgt := 35) hx hb dX7_same_28 (by decide) (fun c19 => ?_) (fun c19 => ?_)
      · replace h := it_n c19 h
        refine lv_iconst (v := 0) hx hb dX7_same_35 (by decide) ?_
        exact hm_iret hx hb hr hI hL h (by omega) (by omega) hlocks dX7_same_36
      · replace h := it_p c19 h
        refine lv_iconst (v := 1) hx hb dX7_same_31 (by decide) ?_
        refine lv_goto (tgt := 36) hx hb dX7_same_32 (by decide) ?_
        exact hm_iret hx hb hr hI hL h (by omega) (by omega) hlocks dX7_same_36
    · replace h := it_p c8 h
      refine lv_iconst (v := -1) hx hb dX7_same_14 (by decide) ?_
      exact hm_iret hx hb hr hI hL h (by omega) (by omega) hlocks dX7_same_15

def fX7_ownerOfField_B4 (x0 : Option Nat) (x1 : Int32)  (K4 : Option Nat → Int32 → hmS → Option (Option Nat × hmS)) (v2 : Option Nat) (v3 : Int32) (σ : hmS) : Option (Option Nat × hmS) :=
  oc v2
    (some (none, σ))
    (fun a1 => if (12 : Int32) ≤ v3 then
      some (none, σ)
    else
      ob (gR σ a1 8 7) fun f3 => ob f3 fun a5 => ob (obC σ a5 3) fun _ => cb (fX1_indexOf a5 x1 σ) fun r9 σ8 => if r9 = (-1 : Int32) then
        ob (gR σ8 a1 8 10) fun f11 => K4 f11 (v3 + (1 : Int32)) σ8
      else
        some ((some a1), σ8))
def fX7_ownerOfField_L4 (x0 : Option Nat) (x1 : Int32)  : Nat → Option Nat → Int32 → hmS → Option (Option Nat × hmS)
  | 0 => fun _ _ _ => none
  | n + 1 => fX7_ownerOfField_B4 x0 x1  (fX7_ownerOfField_L4 x0 x1  n)
def fX7_ownerOfField (x0 : Option Nat) (x1 : Int32) (σ : hmS) : Option (Option Nat × hmS) :=
  fX7_ownerOfField_L4 x0 x1 20 x0 (0 : Int32) σ
set_option maxHeartbeats 4000000 in
set_option maxRecDepth 100000 in
theorem mX7_ownerOfField (l : Launch) (E : hmG) {x0 : Option Nat} {x1 : Int32} {σ σ' : hmS} {r : Option Nat} (h : fX7_ownerOfField x0 x1 σ = some (r, σ')) : Met l yX7_ownerOfField [Cond.code yX7_ownerOfField cX7_ownerOfField 4 (some (.object "InnerCaptures$Type"))] { frames := 1, cells := 0, slots := 0, locals := 22 } (hmPc E [va_rf x0, .int x1] σ) (hmQc E (some (va_rf r)) σ') 0 0 (fun q => hmL E ≤ q) := by
  refine Met.ofW (cc := cX7_ownerOfField) (maxL := 4) (ret := (some (.object "InnerCaptures$Type"))) (by decide) rfl ?_
  intro p e s m args below meth c s₁ B hml hv
  obtain ⟨rfl, hK, hI⟩ := hv
  have S : CallFix p m c cX7_ownerOfField 4 s ([va_rf x0, .int x1] : List Value).toArray [] RX7 := ⟨B.exec, B.bytes, hml, findClass_of_methodNamed B.named, fun w hw => by cases hw⟩
  have hx := S.1
  have hb := S.2.1
  have hr := B.returns
  have hlocks := B.notSynchronized
  have hL : hmLo E [] := hmLo.nil
  have hl : lv_has ((lg_sl ([va_rf x0, .int x1]) ++ List.replicate (4 - (lg_sl ([va_rf x0, .int x1])).length) Slot.unset).toArray) 4 [(0, va_rf x0), (1, .int x1)] := by cases x0 <;> exact lv_entry _ (Nat.le_of_ble_eq_true rfl)
  rw [lg_entry_eq]
  generalize (lg_sl ([va_rf x0, .int x1]) ++ List.replicate (4 - (lg_sl ([va_rf x0, .int x1])).length) Slot.unset).toArray = ls at hl ⊢
  generalize hRe : (headSpec [Cond.code yX7_ownerOfField cX7_ownerOfField 4 (some (.object "InnerCaptures$Type"))] { frames := 1, cells := 0, slots := 0, locals := 22 }).room = R
  have hR1 : R.frames = 1 ∧ R.cells = 0 ∧ R.slots = 0 ∧ R.locals = 22 := by rw [← hRe]; exact ⟨rfl, rfl, rfl, rfl⟩
  clear hRe B hml
  generalize s.heap = H at hI ⊢
  generalize ([] : List Loc) = locs at hL ⊢
  have hmain := h
  clear h
  have hB4 : ∀ (K4 : Option Nat → Int32 → hmS → Option (Option Nat × hmS)), (∀ (v2 : Option Nat) (v3 : Int32) (σ : hmS) (H : Heap) (locs : List Loc) (ls : Array Slot), K4 v2 v3 σ = some (r, σ') → hmI E σ H → hmLo E locs → lv_has ls 4 [(1, .int x1), (2, va_rf v2), (3, .int v3)] → W p l e R s m ([va_rf x0, .int x1] : List Value).toArray below meth c H locs 0 0 (MQ below (hmQc E (some (va_rf r)) σ') ([va_rf x0, .int x1] : List Value).toArray s 0 0 (fun q => hmL E ≤ q)) (F0 m 4 ls [])) → ∀ (v2 : Option Nat) (v3 : Int32) (σ : hmS) (H : Heap) (locs : List Loc) (ls : Array Slot), fX7_ownerOfField_B4 x0 x1  K4 v2 v3 σ = some (r, σ') → hmI E σ H → hmLo E locs → lv_has ls 4 [(1, .int x1), (2, va_rf v2), (3, .int v3)] → W p l e R s m ([va_rf x0, .int x1] : List Value).toArray below meth c H locs 0 0 (MQ below (hmQc E (some (va_rf r)) σ') ([va_rf x0, .int x1] : List Value).toArray s 0 0 (fun q => hmL E ≤ q)) (F0 m 4 ls []) := by
    intro K4 hk4
    intro v2 v3 σ H locs ls h hI hL hl
    unfold fX7_ownerOfField_B4 at h
    refine hm_aload_n hx hb dX7_ownerOfField_4 rfl (lv_at hl 1 rfl) ?_
    cases v2 with
    | none =>
      replace h := oc_n h
      have hl : lv_has ls 4 [(1, .int x1), (2, va_rf none), (3, .int v3)] := hl
      refine lv_ifnullN (tgt := 39) hx hb dX7_ownerOfField_5 (by decide) ?_
      refine hm_null hx hb dX7_ownerOfField_39 ?_
      exact hm_aret hx hb hr (Or.inl ⟨_, rfl⟩) hI hL h (by omega) (by omega) hlocks dX7_ownerOfField_40
    | some a1 =>
      replace h := oc_s h
      have hl : lv_has ls 4 [(1, .int x1), (2, .ref a1), (3, .int v3)] := hl
      refine lv_ifnull hx hb dX7_ownerOfField_5 ?_
      refine lv_iload_n hx hb dX7_ownerOfField_8 rfl (lv_at hl 2 rfl) ?_
      refine lv_bipush (v := 12) hx hb dX7_ownerOfField_9 (by decide) ?_
      refine lv_icmp_ge (tgt := 39) hx hb dX7_ownerOfField_11 (by decide) (fun c2 => ?_) (fun c2 => ?_)
      · replace h := it_p c2 h
        refine hm_null hx hb dX7_ownerOfField_39 ?_
        exact hm_aret hx hb hr (Or.inl ⟨_, rfl⟩) hI hL h (by omega) (by omega) hlocks dX7_ownerOfField_40
      · replace h := it_n c2 h
        refine lv_aload_n hx hb dX7_ownerOfField_14 rfl (lv_at hl 1 rfl) ?_
        replace h := ob_s h
        obtain ⟨f3, h4, h⟩ := h
        refine hm_get S hK hI (pf_X7_66_8 hK) (gR_s h4) dX7_ownerOfField_15 ?_
        refine lv_iload_n hx hb dX7_ownerOfField_18 rfl (lv_at hl 0 rfl) ?_
        replace h := ob_s h
        obtain ⟨a5, rfl, h⟩ := h
        have hl : lv_has ls 4 [(1, .int x1), (2, .ref a1), (3, .int v3)] := hl
        replace h := ob_s h
        obtain ⟨_, h7, h⟩ := h
        replace h := cb_s h
        obtain ⟨r9, σ8, h6, h⟩ := h
        refine hm_call (hm_runV (As := [.int x1]) (rest := []) (ci := 3) S hK hI (obC_s h7) rfl (mX1_indexOf l E h6) (pm_X7_75 hK) (pi_X1_indexOf hK) (pl_X1_X1_indexOf hK) ⟨by omega, by omega⟩ rfl hl.1 (Nat.le_of_ble_eq_true rfl) ⟨by omega, by omega⟩ dX7_ownerOfField_19) hL (fun H locs hI hL => ?_)
        refine lv_iconst (v := -1) hx hb dX7_ownerOfField_22 (by decide) ?_
        refine lv_icmp_eq (tgt := 28) hx hb dX7_ownerOfField_23 (by decide) (fun c10 => ?_) (fun c10 => ?_)
        · replace h := it_p c10 h
          refine lv_aload_n hx hb dX7_ownerOfField_28 rfl (lv_at hl 1 rfl) ?_
          replace h := ob_s h
          obtain ⟨f11, h12, h⟩ := h
          refine hm_get S hK hI (pf_X7_113_8 hK) (gR_s h12) dX7_ownerOfField_29 ?_
          refine hm_astore_n (lv' := [(2, va_rf f11), (1, .int x1), (3, .int v3)]) hx hb dX7_ownerOfField_32 rfl hl (by decide) rfl (fun ls hl => ?_)
          refine lv_iinc (v := (v3 + (1 : Int32))) (lv' := [(3, .int (v3 + (1 : Int32))), (2, va_rf f11), (1, .int x1)]) hx hb dX7_ownerOfField_33 hl (k := 2) rfl rfl (by decide) (by cases f11 <;> rfl) (fun ls hl => ?_)
          refine lv_goto (tgt := 4) hx hb dX7_ownerOfField_36 (by decide) ?_
          exact hk4 _ _ _ _ _ _ h hI hL (lv_sub hl [2, 1, 0] rfl)
        · replace h := it_n c10 h
          refine lv_aload_n hx hb dX7_ownerOfField_26 rfl (lv_at hl 1 rfl) ?_
          exact hm_aret hx hb hr (Or.inl ⟨_, rfl⟩) hI hL h (by omega) (by omega) hlocks dX7_ownerOfField_27
  have hL4 : ∀ n : Nat, ∀ (v2 : Option Nat) (v3 : Int32) (σ : hmS) (H : Heap) (locs : List Loc) (ls : Array Slot), fX7_ownerOfField_L4 x0 x1  n v2 v3 σ = some (r, σ') → hmI E σ H → hmLo E locs → lv_has ls 4 [(1, .int x1), (2, va_rf v2), (3, .int v3)] → W p l e R s m ([va_rf x0, .int x1] : List Value).toArray below meth c H locs 0 0 (MQ below (hmQc E (some (va_rf r)) σ') ([va_rf x0, .int x1] : List Value).toArray s 0 0 (fun q => hmL E ≤ q)) (F0 m 4 ls []) := by
    intro n
    induction n with
    | zero =>
      intro v2 v3 σ H locs ls h
      have h : none = some (r, σ') := h
      cases h
    | succ n ih => exact hB4 _ ih
  have h := hmain
  clear hmain
  unfold fX7_ownerOfField at h
  refine hm_aload_n hx hb dX7_ownerOfField_0 rfl (lv_at hl 0 rfl) ?_
  refine hm_astore_n (lv' := [(2, va_rf x0), (0, va_rf x0), (1, .int x1)]) hx hb dX7_ownerOfField_1 rfl hl (by decide) rfl (fun ls hl => ?_)
  refine lv_iconst (v := 0) hx hb dX7_ownerOfField_2 (by decide) ?_
  refine lv_istore_n (lv' := [(3, .int (0 : Int32)), (2, va_rf x0), (0, va_rf x0), (1, .int x1)]) hx hb dX7_ownerOfField_3 rfl hl (by decide) (by cases x0 <;> rfl) (fun ls hl => ?_)
  exact hL4 20 _ _ _ _ _ _ h hI hL (lv_sub hl [3, 1, 0] rfl)

def fX4_latest_B11 (x0 : Nat) (x1 : Int32) (x2 : Int32)  (K11 : Int32 → hmS → Option (Int32 × hmS)) (v3 : Int32) (σ : hmS) : Option (Int32 × hmS) :=
  if v3 < 0 then
    some ((-1 : Int32), σ)
  else
    ob (gR σ x0 6 0) fun f2 => ob f2 fun a4 => ob (aI σ 0 a4 v3) fun e5 => if e5 = x1 then
      some (v3, σ)
    else
      K11 (v3 + (-1 : Int32)) σ
def fX4_latest_L11 (x0 : Nat) (x1 : Int32) (x2 : Int32)  : Nat → Int32 → hmS → Option (Int32 × hmS)
  | 0 => fun _ _ => none
  | n + 1 => fX4_latest_B11 x0 x1 x2  (fX4_latest_L11 x0 x1 x2  n)
def fX4_latest (x0 : Nat) (x1 : Int32) (x2 : Int32) (σ : hmS) : Option (Int32 × hmS) :=
  ob (gI σ x0 6 3) fun f1 => cb (fJ9_min_7cf53 x2 f1 σ) fun r5 σ4 => fX4_latest_L11 x0 x1 x2 20 (r5 - (1 : Int32)) σ4
set_option maxHeartbeats 4000000 in
set_option maxRecDepth 100000 in
theorem mX4_latest (l : Launch) (E : hmG) {x0 : Nat} {x1 : Int32} {x2 : Int32} {σ σ' : hmS} {r : Int32} (h : fX4_latest x0 x1 x2 σ = some (r, σ')) : Met l yX4_latest [Cond.code yX4_latest cX4_latest 4 (some .int)] { frames := 1, cells := 0, slots := 0, locals := 21 } (hmPc E [.ref x0, .int x1, .int x2] σ) (hmQc E (some (.int r)) σ') 0 0 (fun q => hmL E ≤ q) := by
  refine Met.ofW (cc := cX4_latest) (maxL := 4) (ret := (some .int)) (by decide) rfl ?_
  intro p e s m args below meth c s₁ B hml hv
  obtain ⟨rfl, hK, hI⟩ := hv
  have S : CallFix p m c cX4_latest 4 s ([.ref x0, .int x1, .int x2] : List Value).toArray [] RX4 := ⟨B.exec, B.bytes, hml, findClass_of_methodNamed B.named, fun w hw => by cases hw⟩
  have hx := S.1
  have hb := S.2.1
  have hr := B.returns
  have hlocks := B.notSynchronized
  have hL : hmLo E [] := hmLo.nil
  have hl : lv_has ((lg_sl ([.ref x0, .int x1, .int x2]) ++ List.replicate (4 - (lg_sl ([.ref x0, .int x1, .int x2])).length) Slot.unset).toArray) 4 [(0, .ref x0), (1, .int x1), (2, .int x2)] := by exact lv_entry _ (Nat.le_of_ble_eq_true rfl)
  rw [lg_entry_eq]
  generalize (lg_sl ([.ref x0, .int x1, .int x2]) ++ List.replicate (4 - (lg_sl ([.ref x0, .int x1, .int x2])).length) Slot.unset).toArray = ls at hl ⊢
  generalize hRe : (headSpec [Cond.code yX4_latest cX4_latest 4 (some .int)] { frames := 1, cells := 0, slots := 0, locals := 21 }).room = R
  have hR1 : R.frames = 1 ∧ R.cells = 0 ∧ R.slots = 0 ∧ R.locals = 21 := by rw [← hRe]; exact ⟨rfl, rfl, rfl, rfl⟩
  clear hRe B hml
  generalize s.heap = H at hI ⊢
  generalize ([] : List Loc) = locs at hL ⊢
  have hmain := h
  clear h
  have hB11 : ∀ (K11 : Int32 → hmS → Option (Int32 × hmS)), (∀ (v3 : Int32) (σ : hmS) (H : Heap) (locs : List Loc) (ls : Array Slot), K11 v3 σ = some (r, σ') → hmI E σ H → hmLo E locs → lv_has ls 4 [(0, .ref x0), (1, .int x1), (3, .int v3)] → W p l e R s m ([.ref x0, .int x1, .int x2] : List Value).toArray below meth c H locs 0 0 (MQ below (hmQc E (some (.int r)) σ') ([.ref x0, .int x1, .int x2] : List Value).toArray s 0 0 (fun q => hmL E ≤ q)) (F0 m 11 ls [])) → ∀ (v3 : Int32) (σ : hmS) (H : Heap) (locs : List Loc) (ls : Array Slot), fX4_latest_B11 x0 x1 x2  K11 v3 σ = some (r, σ') → hmI E σ H → hmLo E locs → lv_has ls 4 [(0, .ref x0), (1, .int x1), (3, .int v3)] → W p l e R s m ([.ref x0, .int x1, .int x2] : List Value).toArray below meth c H locs 0 0 (MQ below (hmQc E (some (.int r)) σ') ([.ref x0, .int x1, .int x2] : List Value).toArray s 0 0 (fun q => hmL E ≤ q)) (F0 m 11 ls []) := by
    intro K11 hk11
    intro v3 σ H locs ls h hI hL hl
    unfold fX4_latest_B11 at h
    refine lv_iload_n hx hb dX4_latest_11 rfl (lv_at hl 2 rfl) ?_
    refine lv_if_lt (tgt := 33) hx hb dX4_latest_12 (by decide) (fun c1 => ?_) (fun c1 => ?_)
    · replace h := it_p c1 h
      refine lv_iconst (v := -1) hx hb dX4_latest_33 (by decide) ?_
      exact hm_iret hx hb hr hI hL h (by omega) (by omega) hlocks dX4_latest_34
    · replace h := it_n c1 h
      refine lv_aload_n hx hb dX4_latest_15 rfl (lv_at hl 0 rfl) ?_
      replace h := ob_s h
      obtain ⟨f2, h3, h⟩ := h
      refine hm_get S hK hI (pf_X4_9_6 hK) (gR_s h3) dX4_latest_16 ?_
      refine lv_iload_n hx hb dX4_latest_19 rfl (lv_at hl 2 rfl) ?_
      replace h := ob_s h
      obtain ⟨a4, rfl, h⟩ := h
      have hl : lv_has ls 4 [(0, .ref x0), (1, .int x1), (3, .int v3)] := hl
      replace h := ob_s h
      obtain ⟨e5, h6, h⟩ := h
      refine hm_iald S hK hI h6 dX4_latest_20 ?_
      refine lv_iload_n hx hb dX4_latest_21 rfl (lv_at hl 1 rfl) ?_
      refine lv_icmp_ne (tgt := 27) hx hb dX4_latest_22 (by decide) (fun c7 => ?_) (fun c7 => ?_)
      · replace h := it_n c7 h
        refine lv_iinc (v := (v3 + (-1 : Int32))) (lv' := [(3, .int (v3 + (-1 : Int32))), (0, .ref x0), (1, .int x1)]) hx hb dX4_latest_27 hl (k := 2) rfl rfl (by decide) rfl (fun ls hl => ?_)
        refine lv_goto (tgt := 11) hx hb dX4_latest_30 (by decide) ?_
        exact hk11 _ _ _ _ _ h hI hL (lv_sub hl [1, 2, 0] rfl)
      · replace h := it_p c7 h
        refine lv_iload_n hx hb dX4_latest_25 rfl (lv_at hl 2 rfl) ?_
        exact hm_iret hx hb hr hI hL h (by omega) (by omega) hlocks dX4_latest_26
  have hL11 : ∀ n : Nat, ∀ (v3 : Int32) (σ : hmS) (H : Heap) (locs : List Loc) (ls : Array Slot), fX4_latest_L11 x0 x1 x2  n v3 σ = some (r, σ') → hmI E σ H → hmLo E locs → lv_has ls 4 [(0, .ref x0), (1, .int x1), (3, .int v3)] → W p l e R s m ([.ref x0, .int x1, .int x2] : List Value).toArray below meth c H locs 0 0 (MQ below (hmQc E (some (.int r)) σ') ([.ref x0, .int x1, .int x2] : List Value).toArray s 0 0 (fun q => hmL E ≤ q)) (F0 m 11 ls []) := by
    intro n
    induction n with
    | zero =>
      intro v3 σ H locs ls h
      have h : none = some (r, σ') := h
      cases h
    | succ n ih => exact hB11 _ ih
  have h := hmain
  clear hmain
  unfold fX4_latest at h
  refine lv_iload_n hx hb dX4_latest_0 rfl (lv_at hl 2 rfl) ?_
  refine lv_aload_n hx hb dX4_latest_1 rfl (lv_at hl 0 rfl) ?_
  replace h := ob_s h
  obtain ⟨f1, h2, h⟩ := h
  refine hm_get S hK hI (pf_X4_23_6 hK) (gI_s h2) dX4_latest_2 ?_
  replace h := cb_s h
  obtain ⟨r5, σ4, h3, h⟩ := h
  refine hm_call (hm_runS (As := [.int x2, .int f1]) (rest := []) S hK hI (mJ9_min_7cf53 l E h3) (pm_X4_31 hK) (ps_J9_min_7cf53 hK) ⟨by omega, by omega⟩ rfl hl.1 (Nat.le_of_ble_eq_true rfl) ⟨by omega, by omega⟩ dX4_latest_5) hL (fun H locs hI hL => ?_)
  refine lv_iconst (v := 1) hx hb dX4_latest_8 (by decide) ?_
  refine lv_isub hx hb dX4_latest_9 ?_
  refine lv_istore_n (lv' := [(3, .int (r5 - (1 : Int32))), (0, .ref x0), (1, .int x1), (2, .int x2)]) hx hb dX4_latest_10 rfl hl (by decide) rfl (fun ls hl => ?_)
  exact hL11 20 _ _ _ _ _ h hI hL (lv_sub hl [1, 2, 0] rfl)

def fX6_latestLocalAhead (x0 : Nat) (x1 : Int32) (σ : hmS) : Option (Int32 × hmS) :=
  ob (gR σ x0 8 2) fun f1 => oc f1
    (some ((-1 : Int32), σ))
    (fun a3 => ob (gR σ x0 8 2) fun f4 => ob f4 fun a6 => ob (gR σ a6 8 8) fun f7 => ob (gI σ x0 8 4) fun f9 => ob f7 fun a11 => ob (obC σ a11 6) fun _ => cb (fX4_latest a11 x1 f9 σ) fun r15 σ14 => some (r15, σ14))
set_option maxHeartbeats 4000000 in
set_option maxRecDepth 100000 in
theorem mX6_latestLocalAhead (l : Launch) (E : hmG) {x0 : Nat} {x1 : Int32} {σ σ' : hmS} {r : Int32} (h : fX6_latestLocalAhead x0 x1 σ = some (r, σ')) : Met l yX6_latestLocalAhead [Cond.code yX6_latestLocalAhead cX6_latestLocalAhead 2 (some .int)] { frames := 2, cells := 0, slots := 0, locals := 44 } (hmPc E [.ref x0, .int x1] σ) (hmQc E (some (.int r)) σ') 0 0 (fun q => hmL E ≤ q) := by
  refine Met.ofW (cc := cX6_latestLocalAhead) (maxL := 2) (ret := (some .int)) (by decide) rfl ?_
  intro p e s m args below meth c s₁ B hml hv
  obtain ⟨rfl, hK, hI⟩ := hv
  have S : CallFix p m c cX6_latestLocalAhead 2 s ([.ref x0, .int x1] : List Value).toArray [] RX6 := ⟨B.exec, B.bytes, hml, findClass_of_methodNamed B.named, fun w hw => by cases hw⟩
  have hx := S.1
  have hb := S.2.1
  have hr := B.returns
  have hlocks := B.notSynchronized
  have hL : hmLo E [] := hmLo.nil
  have hl : lv_has ((lg_sl ([.ref x0, .int x1]) ++ List.replicate (2 - (lg_sl ([.ref x0, .int x1])).length) Slot.unset).toArray) 2 [(0, .ref x0), (1, .int x1)] := by exact lv_entry _ (Nat.le_of_ble_eq_true rfl)
  rw [lg_entry_eq]
  generalize (lg_sl ([.ref x0, .int x1]) ++ List.replicate (2 - (lg_sl ([.ref x0, .int x1])).length) Slot.unset).toArray = ls at hl ⊢
  generalize hRe : (headSpec [Cond.code yX6_latestLocalAhead cX6_latestLocalAhead 2 (some .int)] { frames := 2, cells := 0, slots := 0, locals := 44 }).room = R
  have hR1 : R.frames = 2 ∧ R.cells = 0 ∧ R.slots = 0 ∧ R.locals = 44 := by rw [← hRe]; exact ⟨rfl, rfl, rfl, rfl⟩
  clear hRe B hml
  generalize s.heap = H at hI ⊢
  generalize ([] : List Loc) = locs at hL ⊢
  have hmain := h
  clear h
  have h := hmain
  clear hmain
  unfold fX6_latestLocalAhead at h
  refine lv_aload_n hx hb dX6_latestLocalAhead_0 rfl (lv_at hl 0 rfl) ?_
  replace h := ob_s h
  obtain ⟨f1, h2, h⟩ := h
  refine hm_get S hK hI (pf_X6_40_8 hK) (gR_s h2) dX6_latestLocalAhead_1 ?_
  cases f1 with
  | none =>
    replace h := oc_n h
    have hl : lv_has ls 2 [(0, .ref x0), (1, .int x1)] := hl
    refine lv_ifnonnullN hx hb dX6_latestLocalAhead_4 ?_
    refine lv_iconst (v := -1) hx hb dX6_latestLocalAhead_7 (by decide) ?_
    refine lv_goto (tgt := 26) hx hb dX6_latestLocalAhead_8 (by decide) ?_
    exact hm_iret hx hb hr hI hL h (by omega) (by omega) hlocks dX6_latestLocalAhead_26
  | some a3 =>
    replace h := oc_s h
    have hl : lv_has ls 2 [(0, .ref x0), (1, .int x1)] := hl
    refine lv_ifnonnull (tgt := 11) hx hb dX6_latestLocalAhead_4 (by decide) ?_
    refine lv_aload_n hx hb dX6_latestLocalAhead_11 rfl (lv_at hl 0 rfl) ?_
    replace h := ob_s h
    obtain ⟨f4, h5, h⟩ := h
    refine hm_get S hK hI (pf_X6_40_8 hK) (gR_s h5) dX6_latestLocalAhead_12 ?_
    replace h := ob_s h
    obtain ⟨a6, rfl, h⟩ := h
    have hl : lv_has ls 2 [(0, .ref x0), (1, .int x1)] := hl
    replace h := ob_s h
    obtain ⟨f7, h8, h⟩ := h
    refine hm_get S hK hI (pf_X6_21_8 hK) (gR_s h8) dX6_latestLocalAhead_15 ?_
    refine lv_iload_n hx hb dX6_latestLocalAhead_18 rfl (lv_at hl 1 rfl) ?_
    refine lv_aload_n hx hb dX6_latestLocalAhead_19 rfl (lv_at hl 0 rfl) ?_
    replace h := ob_s h
    obtain ⟨f9, h10, h⟩ := h
    refine hm_get S hK hI (pf_X6_53_8 hK) (gI_s h10) dX6_latestLocalAhead_20 ?_
    replace h := ob_s h
    obtain ⟨a11, rfl, h⟩ := h
    have hl : lv_has ls 2 [(0, .ref x0), (1, .int x1)] := hl
    replace h := ob_s h
    obtain ⟨_, h13, h⟩ := h
    replace h := cb_s h
    obtain ⟨r15, σ14, h12, h⟩ := h
    refine hm_call (hm_runV (As := [.int x1, .int f9]) (rest := []) (ci := 6) S hK hI (obC_s h13) rfl (mX4_latest l E h12) (pm_X6_84 hK) (pi_X4_latest hK) (pl_X4_X4_latest hK) ⟨by omega, by omega⟩ rfl hl.1 (Nat.le_of_ble_eq_true rfl) ⟨by omega, by omega⟩ dX6_latestLocalAhead_23) hL (fun H locs hI hL => ?_)
    exact hm_iret hx hb hr hI hL h (by omega) (by omega) hlocks dX6_latestLocalAhead_26

def fX0_pointAt (x0 : Nat) (x1 : Option Nat) (x2 : Int32) (x3 : Int32) (σ : hmS) : Option (Unit × hmS) :=
  ob (wF σ x0 2 0 (va_rf x1)) fun σ1 => ob (wF σ1 x0 2 1 (.int x2)) fun σ3 => ob (okZ x3) fun _ => ob (wF σ3 x0 2 2 (.int x3)) fun σ6 => some ((), σ6)
set_option maxHeartbeats 4000000 in
set_option maxRecDepth 100000 in
theorem mX0_pointAt (l : Launch) (E : hmG) {x0 : Nat} {x1 : Option Nat} {x2 : Int32} {x3 : Int32} {σ σ' : hmS} {r : Unit} (h : fX0_pointAt x0 x1 x2 x3 σ = some (r, σ')) : Met l yX0_pointAt [Cond.code yX0_pointAt cX0_pointAt 4 none] { frames := 0, cells := 0, slots := 0, locals := 0 } (hmPc E [.ref x0, va_rf x1, .int x2, .int x3] σ) (hmQc E none σ') 0 0 (fun q => hmL E ≤ q) := by
  refine Met.ofW (cc := cX0_pointAt) (maxL := 4) (ret := none) (by decide) rfl ?_
  intro p e s m args below meth c s₁ B hml hv
  obtain ⟨rfl, hK, hI⟩ := hv
  have S : CallFix p m c cX0_pointAt 4 s ([.ref x0, va_rf x1, .int x2, .int x3] : List Value).toArray [] RX0 := ⟨B.exec, B.bytes, hml, findClass_of_methodNamed B.named, fun w hw => by cases hw⟩
  have hx := S.1
  have hb := S.2.1
  have hr := B.returns
  have hlocks := B.notSynchronized
  have hL : hmLo E [] := hmLo.nil
  have hl : lv_has ((lg_sl ([.ref x0, va_rf x1, .int x2, .int x3]) ++ List.replicate (4 - (lg_sl ([.ref x0, va_rf x1, .int x2, .int x3])).length) Slot.unset).toArray) 4 [(0, .ref x0), (1, va_rf x1), (2, .int x2), (3, .int x3)] := by cases x1 <;> exact lv_entry _ (Nat.le_of_ble_eq_true rfl)
  rw [lg_entry_eq]
  generalize (lg_sl ([.ref x0, va_rf x1, .int x2, .int x3]) ++ List.replicate (4 - (lg_sl ([.ref x0, va_rf x1, .int x2, .int x3])).length) Slot.unset).toArray = ls at hl ⊢
  generalize hRe : (headSpec [Cond.code yX0_pointAt cX0_pointAt 4 none] { frames := 0, cells := 0, slots := 0, locals := 0 }).room = R
  have hR1 : R.frames = 0 ∧ R.cells = 0 ∧ R.slots = 0 ∧ R.locals = 0 := by rw [← hRe]; exact ⟨rfl, rfl, rfl, rfl⟩
  clear hRe B hml
  generalize s.heap = H at hI ⊢
  generalize ([] : List Loc) = locs at hL ⊢
  have hmain := h
  clear h
  have h := hmain
  clear hmain
  unfold fX0_pointAt at h
  refine lv_aload_n hx hb dX0_pointAt_0 rfl (lv_at hl 0 rfl) ?_
  refine hm_aload_n hx hb dX0_pointAt_1 rfl (lv_at hl 1 rfl) ?_
  replace h := ob_s h
  obtain ⟨σ1, h2, h⟩ := h
  refine hm_put S hK hI hL (pf_X0_13_2 hK) h2 rf_fitA dX0_pointAt_2 (fun H locs hI hL => ?_)
  refine lv_aload_n hx hb dX0_pointAt_5 rfl (lv_at hl 0 rfl) ?_
  refine lv_iload_n hx hb dX0_pointAt_6 rfl (lv_at hl 2 rfl) ?_
  replace h := ob_s h
  obtain ⟨σ3, h4, h⟩ := h
  refine hm_put S hK hI hL (pf_X0_18_2 hK) h4 ⟨rfl, rfl⟩ dX0_pointAt_7 (fun H locs hI hL => ?_)
  refine lv_aload_n hx hb dX0_pointAt_10 rfl (lv_at hl 0 rfl) ?_
  refine lv_iload_n hx hb dX0_pointAt_11 rfl (lv_at hl 3 rfl) ?_
  replace h := ob_s h
  obtain ⟨_, z5, h⟩ := h
  replace h := ob_s h
  obtain ⟨σ6, h7, h⟩ := h
  refine hm_put S hK hI hL (pf_X0_22_2 hK) h7 (okZ_n z5) dX0_pointAt_12 (fun H locs hI hL => ?_)
  exact hm_vret hx hb hr hI hL h (by omega) (by omega) hlocks dX0_pointAt_15

def fX7_findCopy_J35 (x0 : Nat) (x1 : Option Nat) (x2 : Option Nat) (x3 : Int32)   (σ : hmS) : Option (Int32 × hmS) :=
  oc x2
    (some ((4 : Int32), σ))
    (fun a1 => ob (obC σ a1 7) fun _ => cb (fX5_levelOf a1 x1 σ) fun r5 σ4 => oc r5
      (some ((5 : Int32), σ4))
      (fun a6 => ob (gR σ4 a6 5 3) fun f7 => ob f7 fun a9 => ob (aN σ4 a9) fun n10 => if x3 < n10 then
        ob (gR σ4 x0 9 6) fun f13 => ob (gR σ4 a6 5 3) fun f15 => ob f13 fun a17 => ob (obC σ4 a17 2) fun _ => cb (fX0_pointAt a17 f15 x3 (1 : Int32) σ4) fun _ σ20 => some ((0 : Int32), σ20)
      else
        some ((5 : Int32), σ4)))
def fX7_findCopy (x0 : Nat) (x1 : Option Nat) (x2 : Option Nat) (x3 : Int32) (σ : hmS) : Option (Int32 × hmS) :=
  ob x1 fun a1 => ob (gI σ a1 8 1) fun f2 => if f2 = (4 : Int32) then
    some ((6 : Int32), σ)
  else
    ob (gR σ a1 8 2) fun f5 => oc f5
      (fX7_findCopy_J35 x0 x1 x2 x3 σ)
      (fun a7 => ob (gR σ a1 8 2) fun f8 => ob f8 fun a10 => ob (gR σ a10 8 8) fun f11 => ob f11 fun a13 => ob (obC σ a13 6) fun _ => cb (fX4_isAssigned a13 x3 σ) fun r17 σ16 => if r17 = 0 then
        fX7_findCopy_J35 x0 x1 x2 x3 σ16
      else
        some ((7 : Int32), σ16))
set_option maxHeartbeats 4000000 in
set_option maxRecDepth 100000 in
theorem mX7_findCopy (l : Launch) (E : hmG) {x0 : Nat} {x1 : Option Nat} {x2 : Option Nat} {x3 : Int32} {σ σ' : hmS} {r : Int32} (h : fX7_findCopy x0 x1 x2 x3 σ = some (r, σ')) : Met l yX7_findCopy [Cond.code yX7_findCopy cX7_findCopy 5 (some .int)] { frames := 2, cells := 0, slots := 0, locals := 42 } (hmPc E [.ref x0, va_rf x1, va_rf x2, .int x3] σ) (hmQc E (some (.int r)) σ') 0 0 (fun q => hmL E ≤ q) := by
  refine Met.ofW (cc := cX7_findCopy) (maxL := 5) (ret := (some .int)) (by decide) rfl ?_
  intro p e s m args below meth c s₁ B hml hv
  obtain ⟨rfl, hK, hI⟩ := hv
  have S : CallFix p m c cX7_findCopy 5 s ([.ref x0, va_rf x1, va_rf x2, .int x3] : List Value).toArray [] RX7 := ⟨B.exec, B.bytes, hml, findClass_of_methodNamed B.named, fun w hw => by cases hw⟩
  have hx := S.1
  have hb := S.2.1
  have hr := B.returns
  have hlocks := B.notSynchronized
  have hL : hmLo E [] := hmLo.nil
  have hl : lv_has ((lg_sl ([.ref x0, va_rf x1, va_rf x2, .int x3]) ++ List.replicate (5 - (lg_sl ([.ref x0, va_rf x1, va_rf x2, .int x3])).length) Slot.unset).toArray) 5 [(0, .ref x0), (1, va_rf x1), (2, va_rf x2), (3, .int x3)] := by cases x1 <;> cases x2 <;> exact lv_entry _ (Nat.le_of_ble_eq_true rfl)
  rw [lg_entry_eq]
  generalize (lg_sl ([.ref x0, va_rf x1, va_rf x2, .int x3]) ++ List.replicate (5 - (lg_sl ([.ref x0, va_rf x1, va_rf x2, .int x3])).length) Slot.unset).toArray = ls at hl ⊢
  generalize hRe : (headSpec [Cond.code yX7_findCopy cX7_findCopy 5 (some .int)] { frames := 2, cells := 0, slots := 0, locals := 42 }).room = R
  have hR1 : R.frames = 2 ∧ R.cells = 0 ∧ R.slots = 0 ∧ R.locals = 42 := by rw [← hRe]; exact ⟨rfl, rfl, rfl, rfl⟩
  clear hRe B hml
  generalize s.heap = H at hI ⊢
  generalize ([] : List Loc) = locs at hL ⊢
  have hmain := h
  clear h
  have hJ35 : ∀  (σ : hmS) (H : Heap) (locs : List Loc) (ls : Array Slot), fX7_findCopy_J35 x0 x1 x2 x3   σ = some (r, σ') → hmI E σ H → hmLo E locs → lv_has ls 5 [(0, .ref x0), (1, va_rf x1), (2, va_rf x2), (3, .int x3)] → W p l e R s m ([.ref x0, va_rf x1, va_rf x2, .int x3] : List Value).toArray below meth c H locs 0 0 (MQ below (hmQc E (some (.int r)) σ') ([.ref x0, va_rf x1, va_rf x2, .int x3] : List Value).toArray s 0 0 (fun q => hmL E ≤ q)) (F0 m 35 ls []) := by
    intro  σ H locs ls h hI hL hl
    unfold fX7_findCopy_J35 at h
    refine hm_aload_n hx hb dX7_findCopy_35 rfl (lv_at hl 2 rfl) ?_
    cases x2 with
    | none =>
      replace h := oc_n h
      have hl : lv_has ls 5 [(0, .ref x0), (1, va_rf x1), (2, va_rf none), (3, .int x3)] := hl
      refine lv_ifnonnullN hx hb dX7_findCopy_36 ?_
      refine lv_iconst (v := 4) hx hb dX7_findCopy_39 (by decide) ?_
      exact hm_iret hx hb hr hI hL h (by omega) (by omega) hlocks dX7_findCopy_40
    | some a1 =>
      replace h := oc_s h
      have hl : lv_has ls 5 [(0, .ref x0), (1, va_rf x1), (2, .ref a1), (3, .int x3)] := hl
      refine lv_ifnonnull (tgt := 41) hx hb dX7_findCopy_36 (by decide) ?_
      refine lv_aload_n hx hb dX7_findCopy_41 rfl (lv_at hl 2 rfl) ?_
      refine hm_aload_n hx hb dX7_findCopy_42 rfl (lv_at hl 1 rfl) ?_
      replace h := ob_s h
      obtain ⟨_, h3, h⟩ := h
      replace h := cb_s h
      obtain ⟨r5, σ4, h2, h⟩ := h
      refine hm_call (hm_runV (As := [va_rf x1]) (rest := []) (ci := 7) S hK hI (obC_s h3) rfl (mX5_levelOf l E h2) (pm_X7_156 hK) (pi_X5_levelOf hK) (pl_X5_X5_levelOf hK) ⟨by omega, by omega⟩ rfl hl.1 (Nat.le_of_ble_eq_true rfl) ⟨by omega, by omega⟩ dX7_findCopy_43) hL (fun H locs hI hL => ?_)
      refine hm_astore (lv' := [(4, va_rf r5), (0, .ref x0), (1, va_rf x1), (2, .ref a1), (3, .int x3)]) hx hb dX7_findCopy_46 hl (by decide) rfl (fun ls hl => ?_)
      refine hm_aload hx hb dX7_findCopy_48 (lv_at hl 0 rfl) ?_
      cases r5 with
      | none =>
        replace h := oc_n h
        have hl : lv_has ls 5 [(4, va_rf none), (0, .ref x0), (1, va_rf x1), (2, .ref a1), (3, .int x3)] := hl
        refine lv_ifnullN (tgt := 63) hx hb dX7_findCopy_50 (by decide) ?_
        refine lv_iconst (v := 5) hx hb dX7_findCopy_63 (by decide) ?_
        exact hm_iret hx hb hr hI hL h (by omega) (by omega) hlocks dX7_findCopy_64
      | some a6 =>
        replace h := oc_s h
        have hl : lv_has ls 5 [(4, .ref a6), (0, .ref x0), (1, va_rf x1), (2, .ref a1), (3, .int x3)] := hl
        refine lv_ifnull hx hb dX7_findCopy_50 ?_
        refine lv_iload_n hx hb dX7_findCopy_53 rfl (lv_at hl 4 rfl) ?_
        refine lv_aload hx hb dX7_findCopy_54 (lv_at hl 0 rfl) ?_
        replace h := ob_s h
        obtain ⟨f7, h8, h⟩ := h
        refine hm_get S hK hI (pf_X7_160_5 hK) (gR_s h8) dX7_findCopy_56 ?_
        replace h := ob_s h
        obtain ⟨a9, rfl, h⟩ := h
        have hl : lv_has ls 5 [(4, .ref a6), (0, .ref x0), (1, va_rf x1), (2, .ref a1), (3, .int x3)] := hl
        replace h := ob_s h
        obtain ⟨n10, h11, h⟩ := h
        refine hm_aN S hK hI h11 dX7_findCopy_59 ?_
        refine lv_icmp_lt (tgt := 65) hx hb dX7_findCopy_60 (by decide) (fun c12 => ?_) (fun c12 => ?_)
        · replace h := it_p c12 h
          refine lv_aload_n hx hb dX7_findCopy_65 rfl (lv_at hl 1 rfl) ?_
          replace h := ob_s h
          obtain ⟨f13, h14, h⟩ := h
          refine hm_get S hK hI (pf_X7_40_9 hK) (gR_s h14) dX7_findCopy_66 ?_
          refine lv_aload hx hb dX7_findCopy_69 (lv_at hl 0 rfl) ?_
          replace h := ob_s h
          obtain ⟨f15, h16, h⟩ := h
          refine hm_get S hK hI (pf_X7_160_5 hK) (gR_s h16) dX7_findCopy_71 ?_
          refine lv_iload_n hx hb dX7_findCopy_74 rfl (lv_at hl 4 rfl) ?_
          refine lv_iconst (v := 1) hx hb dX7_findCopy_75 (by decide) ?_
          replace h := ob_s h
          obtain ⟨a17, rfl, h⟩ := h
          have hl : lv_has ls 5 [(4, .ref a6), (0, .ref x0), (1, va_rf x1), (2, .ref a1), (3, .int x3)] := hl
          replace h := ob_s h
          obtain ⟨_, h19, h⟩ := h
          replace h := cb_s h
          obtain ⟨u0, σ20, h18, h⟩ := h
          refine hm_callv (hm_runV (As := [va_rf f15, .int x3, .int (1 : Int32)]) (rest := []) (ci := 2) S hK hI (obC_s h19) rfl (mX0_pointAt l E h18) (pm_X7_262 hK) (pi_X0_pointAt hK) (pl_X0_X0_pointAt hK) ⟨by omega, by omega⟩ rfl hl.1 (Nat.le_of_ble_eq_true rfl) ⟨by omega, by omega⟩ dX7_findCopy_76) hL (fun H locs hI hL => ?_)
          refine lv_iconst (v := 0) hx hb dX7_findCopy_79 (by decide) ?_
          exact hm_iret hx hb hr hI hL h (by omega) (by omega) hlocks dX7_findCopy_80
        · replace h := it_n c12 h
          refine lv_iconst (v := 5) hx hb dX7_findCopy_63 (by decide) ?_
          exact hm_iret hx hb hr hI hL h (by omega) (by omega) hlocks dX7_findCopy_64
  have h := hmain
  clear hmain
  unfold fX7_findCopy at h
  refine hm_aload_n hx hb dX7_findCopy_0 rfl (lv_at hl 1 rfl) ?_
  replace h := ob_s h
  obtain ⟨a1, rfl, h⟩ := h
  have hl : lv_has ls 5 [(0, .ref x0), (1, .ref a1), (2, va_rf x2), (3, .int x3)] := hl
  replace h := ob_s h
  obtain ⟨f2, h3, h⟩ := h
  refine hm_get S hK hI (pf_X7_110_8 hK) (gI_s h3) dX7_findCopy_1 ?_
  refine lv_iconst (v := 4) hx hb dX7_findCopy_4 (by decide) ?_
  refine lv_icmp_ne (tgt := 11) hx hb dX7_findCopy_5 (by decide) (fun c4 => ?_) (fun c4 => ?_)
  · replace h := it_n c4 h
    refine lv_aload_n hx hb dX7_findCopy_11 rfl (lv_at hl 1 rfl) ?_
    replace h := ob_s h
    obtain ⟨f5, h6, h⟩ := h
    refine hm_get S hK hI (pf_X7_216_8 hK) (gR_s h6) dX7_findCopy_12 ?_
    cases f5 with
    | none =>
      replace h := oc_n h
      have hl : lv_has ls 5 [(0, .ref x0), (1, .ref a1), (2, va_rf x2), (3, .int x3)] := hl
      refine lv_ifnullN (tgt := 35) hx hb dX7_findCopy_15 (by decide) ?_
      exact hJ35 _ _ _ _ h hI hL (lv_sub hl [0, 1, 2, 3] rfl)
    | some a7 =>
      replace h := oc_s h
      have hl : lv_has ls 5 [(0, .ref x0), (1, .ref a1), (2, va_rf x2), (3, .int x3)] := hl
      refine lv_ifnull hx hb dX7_findCopy_15 ?_
      refine lv_aload_n hx hb dX7_findCopy_18 rfl (lv_at hl 1 rfl) ?_
      replace h := ob_s h
      obtain ⟨f8, h9, h⟩ := h
      refine hm_get S hK hI (pf_X7_216_8 hK) (gR_s h9) dX7_findCopy_19 ?_
      replace h := ob_s h
      obtain ⟨a10, rfl, h⟩ := h
      have hl : lv_has ls 5 [(0, .ref x0), (1, .ref a1), (2, va_rf x2), (3, .int x3)] := hl
      replace h := ob_s h
      obtain ⟨f11, h12, h⟩ := h
      refine hm_get S hK hI (pf_X7_83_8 hK) (gR_s h12) dX7_findCopy_22 ?_
      refine lv_iload_n hx hb dX7_findCopy_25 rfl (lv_at hl 3 rfl) ?_
      replace h := ob_s h
      obtain ⟨a13, rfl, h⟩ := h
      have hl : lv_has ls 5 [(0, .ref x0), (1, .ref a1), (2, va_rf x2), (3, .int x3)] := hl
      replace h := ob_s h
      obtain ⟨_, h15, h⟩ := h
      replace h := cb_s h
      obtain ⟨r17, σ16, h14, h⟩ := h
      refine hm_call (hm_runV (As := [.int x3]) (rest := []) (ci := 6) S hK hI (obC_s h15) rfl (mX4_isAssigned l E h14) (pm_X7_96 hK) (pi_X4_isAssigned hK) (pl_X4_X4_isAssigned hK) ⟨by omega, by omega⟩ rfl hl.1 (Nat.le_of_ble_eq_true rfl) ⟨by omega, by omega⟩ dX7_findCopy_26) hL (fun H locs hI hL => ?_)
      refine lv_if_eq (tgt := 35) hx hb dX7_findCopy_29 (by decide) (fun c18 => ?_) (fun c18 => ?_)
      · replace h := it_p c18 h
        exact hJ35 _ _ _ _ h hI hL (lv_sub hl [0, 1, 2, 3] rfl)
      · replace h := it_n c18 h
        refine lv_bipush (v := 7) hx hb dX7_findCopy_32 (by decide) ?_
        exact hm_iret hx hb hr hI hL h (by omega) (by omega) hlocks dX7_findCopy_34
  · replace h := it_p c4 h
    refine lv_bipush (v := 6) hx hb dX7_findCopy_8 (by decide) ?_
    exact hm_iret hx hb hr hI hL h (by omega) (by omega) hlocks dX7_findCopy_10

def fX1_isStatic (x0 : Nat) (x1 : Int32) (σ : hmS) : Option (Int32 × hmS) :=
  ob (obC σ x0 3) fun _ => cb (fX1_has x0 x1 σ) fun r4 σ3 => if r4 = 0 then
    some ((0 : Int32), σ3)
  else
    ob (gR σ3 x0 3 2) fun f6 => ob f6 fun a8 => ob (aI σ3 2 a8 x1) fun e9 => if e9 = 0 then
      some ((0 : Int32), σ3)
    else
      some ((1 : Int32), σ3)
set_option maxHeartbeats 4000000 in
set_option maxRecDepth 100000 in
theorem mX1_isStatic (l : Launch) (E : hmG) {x0 : Nat} {x1 : Int32} {σ σ' : hmS} {r : Int32} (h : fX1_isStatic x0 x1 σ = some (r, σ')) : Met l yX1_isStatic [Cond.code yX1_isStatic cX1_isStatic 2 (some .boolean)] { frames := 1, cells := 0, slots := 0, locals := 21 } (hmPc E [.ref x0, .int x1] σ) (hmQc E (some (.int r)) σ') 0 0 (fun q => hmL E ≤ q) := by
  refine Met.ofW (cc := cX1_isStatic) (maxL := 2) (ret := (some .boolean)) (by decide) rfl ?_
  intro p e s m args below meth c s₁ B hml hv
  obtain ⟨rfl, hK, hI⟩ := hv
  have S : CallFix p m c cX1_isStatic 2 s ([.ref x0, .int x1] : List Value).toArray [] RX1 := ⟨B.exec, B.bytes, hml, findClass_of_methodNamed B.named, fun w hw => by cases hw⟩
  have hx := S.1
  have hb := S.2.1
  have hr := B.returns
  have hlocks := B.notSynchronized
  have hL : hmLo E [] := hmLo.nil
  have hl : lv_has ((lg_sl ([.ref x0, .int x1]) ++ List.replicate (2 - (lg_sl ([.ref x0, .int x1])).length) Slot.unset).toArray) 2 [(0, .ref x0), (1, .int x1)] := by exact lv_entry _ (Nat.le_of_ble_eq_true rfl)
  rw [lg_entry_eq]
  generalize (lg_sl ([.ref x0, .int x1]) ++ List.replicate (2 - (lg_sl ([.ref x0, .int x1])).length) Slot.unset).toArray = ls at hl ⊢
  generalize hRe : (headSpec [Cond.code yX1_isStatic cX1_isStatic 2 (some .boolean)] { frames := 1, cells := 0, slots := 0, locals := 21 }).room = R
  have hR1 : R.frames = 1 ∧ R.cells = 0 ∧ R.slots = 0 ∧ R.locals = 21 := by rw [← hRe]; exact ⟨rfl, rfl, rfl, rfl⟩
  clear hRe B hml
  generalize s.heap = H at hI ⊢
  generalize ([] : List Loc) = locs at hL ⊢
  have hmain := h
  clear h
  have h := hmain
  clear hmain
  unfold fX1_isStatic at h
  refine lv_aload_n hx hb dX1_isStatic_0 rfl (lv_at hl 0 rfl) ?_
  refine lv_iload_n hx hb dX1_isStatic_1 rfl (lv_at hl 1 rfl) ?_
  replace h := ob_s h
  obtain ⟨_, h2, h⟩ := h
  replace h := cb_s h
  obtain ⟨r4, σ3, h1, h⟩ := h
  refine hm_call (hm_runV (As := [.int x1]) (rest := []) (ci := 3) S hK hI (obC_s h2) rfl (mX1_has l E h1) (pm_X1_27 hK) (pi_X1_has hK) (pl_X1_X1_has hK) ⟨by omega, by omega⟩ rfl hl.1 (Nat.le_of_ble_eq_true rfl) ⟨by omega, by omega⟩ dX1_isStatic_2) hL (fun H locs hI hL => ?_)
  refine lv_if_eq (tgt := 21) hx hb dX1_isStatic_5 (by decide) (fun c5 => ?_) (fun c5 => ?_)
  · replace h := it_p c5 h
    refine lv_iconst (v := 0) hx hb dX1_isStatic_21 (by decide) ?_
    exact hm_zret hx hb hr rfl hI hL h (by omega) (by omega) hlocks dX1_isStatic_22
  · replace h := it_n c5 h
    refine lv_aload_n hx hb dX1_isStatic_8 rfl (lv_at hl 0 rfl) ?_
    replace h := ob_s h
    obtain ⟨f6, h7, h⟩ := h
    refine hm_get S hK hI (pf_X1_19_3 hK) (gR_s h7) dX1_isStatic_9 ?_
    refine lv_iload_n hx hb dX1_isStatic_12 rfl (lv_at hl 1 rfl) ?_
    replace h := ob_s h
    obtain ⟨a8, rfl, h⟩ := h
    have hl : lv_has ls 2 [(0, .ref x0), (1, .int x1)] := hl
    replace h := ob_s h
    obtain ⟨e9, h10, h⟩ := h
    refine hm_zald S hK hI h10 dX1_isStatic_13 ?_
    refine lv_if_eq (tgt := 21) hx hb dX1_isStatic_14 (by decide) (fun c11 => ?_) (fun c11 => ?_)
    · replace h := it_p c11 h
      refine lv_iconst (v := 0) hx hb dX1_isStatic_21 (by decide) ?_
      exact hm_zret hx hb hr rfl hI hL h (by omega) (by omega) hlocks dX1_isStatic_22
    · replace h := it_n c11 h
      refine lv_iconst (v := 1) hx hb dX1_isStatic_17 (by decide) ?_
      refine lv_goto (tgt := 22) hx hb dX1_isStatic_18 (by decide) ?_
      exact hm_zret hx hb hr rfl hI hL h (by omega) (by omega) hlocks dX1_isStatic_22

def fX7_findField (x0 : Nat) (x1 : Option Nat) (x2 : Option Nat) (x3 : Int32) (σ : hmS) : Option (Int32 × hmS) :=
  ob x1 fun a1 => ob (gR σ a1 8 7) fun f2 => ob f2 fun a4 => ob (obC σ a4 3) fun _ => cb (fX1_indexOf a4 x3 σ) fun r8 σ7 => ob (obC σ7 a4 3) fun _ => cb (fX1_isStatic a4 r8 σ7) fun r12 σ11 => if r12 = 0 then
    oc x2
      (some ((4 : Int32), σ11))
      (fun a14 => ob (obC σ11 a14 7) fun _ => cb (fX5_levelOf a14 (some a1) σ11) fun r18 σ17 => oc r18
        (some ((5 : Int32), σ17))
        (fun a19 => ob (gR σ17 a19 5 2) fun f20 => ob f20 fun a22 => ob (aN σ17 a22) fun n23 => if r8 < n23 then
          ob (gR σ17 x0 9 6) fun f26 => ob (gR σ17 a19 5 2) fun f28 => ob f26 fun a30 => ob (obC σ17 a30 2) fun _ => cb (fX0_pointAt a30 f28 r8 (0 : Int32) σ17) fun _ σ33 => some ((0 : Int32), σ33)
        else
          some ((5 : Int32), σ17)))
  else
    ob (gR σ11 x0 9 6) fun f34 => ob (gR σ11 a4 3 1) fun f36 => ob f34 fun a38 => ob (obC σ11 a38 2) fun _ => cb (fX0_pointAt a38 f36 r8 (0 : Int32) σ11) fun _ σ41 => some ((0 : Int32), σ41)
set_option maxHeartbeats 4000000 in
set_option maxRecDepth 100000 in
theorem mX7_findField (l : Launch) (E : hmG) {x0 : Nat} {x1 : Option Nat} {x2 : Option Nat} {x3 : Int32} {σ σ' : hmS} {r : Int32} (h : fX7_findField x0 x1 x2 x3 σ = some (r, σ')) : Met l yX7_findField [Cond.code yX7_findField cX7_findField 7 (some .int)] { frames := 2, cells := 0, slots := 0, locals := 42 } (hmPc E [.ref x0, va_rf x1, va_rf x2, .int x3] σ) (hmQc E (some (.int r)) σ') 0 0 (fun q => hmL E ≤ q) := by
  refine Met.ofW (cc := cX7_findField) (maxL := 7) (ret := (some .int)) (by decide) rfl ?_
  intro p e s m args below meth c s₁ B hml hv
  obtain ⟨rfl, hK, hI⟩ := hv
  have S : CallFix p m c cX7_findField 7 s ([.ref x0, va_rf x1, va_rf x2, .int x3] : List Value).toArray [] RX7 := ⟨B.exec, B.bytes, hml, findClass_of_methodNamed B.named, fun w hw => by cases hw⟩
  have hx := S.1
  have hb := S.2.1
  have hr := B.returns
  have hlocks := B.notSynchronized
  have hL : hmLo E [] := hmLo.nil
  have hl : lv_has ((lg_sl ([.ref x0, va_rf x1, va_rf x2, .int x3]) ++ List.replicate (7 - (lg_sl ([.ref x0, va_rf x1, va_rf x2, .int x3])).length) Slot.unset).toArray) 7 [(0, .ref x0), (1, va_rf x1), (2, va_rf x2), (3, .int x3)] := by cases x1 <;> cases x2 <;> exact lv_entry _ (Nat.le_of_ble_eq_true rfl)
  rw [lg_entry_eq]
  generalize (lg_sl ([.ref x0, va_rf x1, va_rf x2, .int x3]) ++ List.replicate (7 - (lg_sl ([.ref x0, va_rf x1, va_rf x2, .int x3])).length) Slot.unset).toArray = ls at hl ⊢
  generalize hRe : (headSpec [Cond.code yX7_findField cX7_findField 7 (some .int)] { frames := 2, cells := 0, slots := 0, locals := 42 }).room = R
  have hR1 : R.frames = 2 ∧ R.cells = 0 ∧ R.slots = 0 ∧ R.locals = 42 := by rw [← hRe]; exact ⟨rfl, rfl, rfl, rfl⟩
  clear hRe B hml
  generalize s.heap = H at hI ⊢
  generalize ([] : List Loc) = locs at hL ⊢
  have hmain := h
  clear h
  have h := hmain
  clear hmain
  unfold fX7_findField at h
  refine hm_aload_n hx hb dX7_findField_0 rfl (lv_at hl 1 rfl) ?_
  replace h := ob_s h
  obtain ⟨a1, rfl, h⟩ := h
  have hl : lv_has ls 7 [(0, .ref x0), (1, .ref a1), (2, va_rf x2), (3, .int x3)] := hl
  replace h := ob_s h
  obtain ⟨f2, h3, h⟩ := h
  refine hm_get S hK hI (pf_X7_66_8 hK) (gR_s h3) dX7_findField_1 ?_
  refine hm_astore (lv' := [(4, va_rf f2), (0, .ref x0), (1, .ref a1), (2, va_rf x2), (3, .int x3)]) hx hb dX7_findField_4 hl (by decide) rfl (fun ls hl => ?_)
  refine hm_aload hx hb dX7_findField_6 (lv_at hl 0 rfl) ?_
  refine lv_iload_n hx hb dX7_findField_8 rfl (lv_at hl 4 rfl) ?_
  replace h := ob_s h
  obtain ⟨a4, rfl, h⟩ := h
  have hl : lv_has ls 7 [(4, .ref a4), (0, .ref x0), (1, .ref a1), (2, va_rf x2), (3, .int x3)] := hl
  replace h := ob_s h
  obtain ⟨_, h6, h⟩ := h
  replace h := cb_s h
  obtain ⟨r8, σ7, h5, h⟩ := h
  refine hm_call (hm_runV (As := [.int x3]) (rest := []) (ci := 3) S hK hI (obC_s h6) rfl (mX1_indexOf l E h5) (pm_X7_75 hK) (pi_X1_indexOf hK) (pl_X1_X1_indexOf hK) ⟨by omega, by omega⟩ rfl hl.1 (Nat.le_of_ble_eq_true rfl) ⟨by omega, by omega⟩ dX7_findField_9) hL (fun H locs hI hL => ?_)
  refine lv_istore (lv' := [(5, .int r8), (4, .ref a4), (0, .ref x0), (1, .ref a1), (2, va_rf x2), (3, .int x3)]) hx hb dX7_findField_12 hl (by decide) rfl (fun ls hl => ?_)
  refine lv_aload hx hb dX7_findField_14 (lv_at hl 1 rfl) ?_
  refine lv_iload hx hb dX7_findField_16 (lv_at hl 0 rfl) ?_
  replace h := ob_s h
  obtain ⟨_, h10, h⟩ := h
  replace h := cb_s h
  obtain ⟨r12, σ11, h9, h⟩ := h
  refine hm_call (hm_runV (As := [.int r8]) (rest := []) (ci := 3) S hK hI (obC_s h10) rfl (mX1_isStatic l E h9) (pm_X7_184 hK) (pi_X1_isStatic hK) (pl_X1_X1_isStatic hK) ⟨by omega, by omega⟩ rfl hl.1 (Nat.le_of_ble_eq_true rfl) ⟨by omega, by omega⟩ dX7_findField_18) hL (fun H locs hI hL => ?_)
  refine lv_if_eq (tgt := 41) hx hb dX7_findField_21 (by decide) (fun c13 => ?_) (fun c13 => ?_)
  · replace h := it_p c13 h
    refine hm_aload_n hx hb dX7_findField_41 rfl (lv_at hl 4 rfl) ?_
    cases x2 with
    | none =>
      replace h := oc_n h
      have hl : lv_has ls 7 [(5, .int r8), (4, .ref a4), (0, .ref x0), (1, .ref a1), (2, va_rf none), (3, .int x3)] := hl
      refine lv_ifnonnullN hx hb dX7_findField_42 ?_
      refine lv_iconst (v := 4) hx hb dX7_findField_45 (by decide) ?_
      exact hm_iret hx hb hr hI hL h (by omega) (by omega) hlocks dX7_findField_46
    | some a14 =>
      replace h := oc_s h
      have hl : lv_has ls 7 [(5, .int r8), (4, .ref a4), (0, .ref x0), (1, .ref a1), (2, .ref a14), (3, .int x3)] := hl
      refine lv_ifnonnull (tgt := 47) hx hb dX7_findField_42 (by decide) ?_
      refine lv_aload_n hx hb dX7_findField_47 rfl (lv_at hl 4 rfl) ?_
      refine lv_aload_n hx hb dX7_findField_48 rfl (lv_at hl 3 rfl) ?_
      replace h := ob_s h
      obtain ⟨_, h16, h⟩ := h
      replace h := cb_s h
      obtain ⟨r18, σ17, h15, h⟩ := h
      refine hm_call (hm_runV (As := [.ref a1]) (rest := []) (ci := 7) S hK hI (obC_s h16) rfl (mX5_levelOf l E h15) (pm_X7_156 hK) (pi_X5_levelOf hK) (pl_X5_X5_levelOf hK) ⟨by omega, by omega⟩ rfl hl.1 (Nat.le_of_ble_eq_true rfl) ⟨by omega, by omega⟩ dX7_findField_49) hL (fun H locs hI hL => ?_)
      refine hm_astore (lv' := [(6, va_rf r18), (5, .int r8), (4, .ref a4), (0, .ref x0), (1, .ref a1), (2, .ref a14), (3, .int x3)]) hx hb dX7_findField_52 hl (by decide) rfl (fun ls hl => ?_)
      refine hm_aload hx hb dX7_findField_54 (lv_at hl 0 rfl) ?_
      cases r18 with
      | none =>
        replace h := oc_n h
        have hl : lv_has ls 7 [(6, va_rf none), (5, .int r8), (4, .ref a4), (0, .ref x0), (1, .ref a1), (2, .ref a14), (3, .int x3)] := hl
        refine lv_ifnullN (tgt := 70) hx hb dX7_findField_56 (by decide) ?_
        refine lv_iconst (v := 5) hx hb dX7_findField_70 (by decide) ?_
        exact hm_iret hx hb hr hI hL h (by omega) (by omega) hlocks dX7_findField_71
      | some a19 =>
        replace h := oc_s h
        have hl : lv_has ls 7 [(6, .ref a19), (5, .int r8), (4, .ref a4), (0, .ref x0), (1, .ref a1), (2, .ref a14), (3, .int x3)] := hl
        refine lv_ifnull hx hb dX7_findField_56 ?_
        refine lv_iload hx hb dX7_findField_59 (lv_at hl 1 rfl) ?_
        refine lv_aload hx hb dX7_findField_61 (lv_at hl 0 rfl) ?_
        replace h := ob_s h
        obtain ⟨f20, h21, h⟩ := h
        refine hm_get S hK hI (pf_X7_279_5 hK) (gR_s h21) dX7_findField_63 ?_
        replace h := ob_s h
        obtain ⟨a22, rfl, h⟩ := h
        have hl : lv_has ls 7 [(6, .ref a19), (5, .int r8), (4, .ref a4), (0, .ref x0), (1, .ref a1), (2, .ref a14), (3, .int x3)] := hl
        replace h := ob_s h
        obtain ⟨n23, h24, h⟩ := h
        refine hm_aN S hK hI h24 dX7_findField_66 ?_
        refine lv_icmp_lt (tgt := 72) hx hb dX7_findField_67 (by decide) (fun c25 => ?_) (fun c25 => ?_)
        · replace h := it_p c25 h
          refine lv_aload_n hx hb dX7_findField_72 rfl (lv_at hl 3 rfl) ?_
          replace h := ob_s h
          obtain ⟨f26, h27, h⟩ := h
          refine hm_get S hK hI (pf_X7_40_9 hK) (gR_s h27) dX7_findField_73 ?_
          refine lv_aload hx hb dX7_findField_76 (lv_at hl 0 rfl) ?_
          replace h := ob_s h
          obtain ⟨f28, h29, h⟩ := h
          refine hm_get S hK hI (pf_X7_279_5 hK) (gR_s h29) dX7_findField_78 ?_
          refine lv_iload hx hb dX7_findField_81 (lv_at hl 1 rfl) ?_
          refine lv_iconst (v := 0) hx hb dX7_findField_83 (by decide) ?_
          replace h := ob_s h
          obtain ⟨a30, rfl, h⟩ := h
          have hl : lv_has ls 7 [(6, .ref a19), (5, .int r8), (4, .ref a4), (0, .ref x0), (1, .ref a1), (2, .ref a14), (3, .int x3)] := hl
          replace h := ob_s h
          obtain ⟨_, h32, h⟩ := h
          replace h := cb_s h
          obtain ⟨u0, σ33, h31, h⟩ := h
          refine hm_callv (hm_runV (As := [va_rf f28, .int r8, .int (0 : Int32)]) (rest := []) (ci := 2) S hK hI (obC_s h32) rfl (mX0_pointAt l E h31) (pm_X7_262 hK) (pi_X0_pointAt hK) (pl_X0_X0_pointAt hK) ⟨by omega, by omega⟩ rfl hl.1 (Nat.le_of_ble_eq_true rfl) ⟨by omega, by omega⟩ dX7_findField_84) hL (fun H locs hI hL => ?_)
          refine lv_iconst (v := 0) hx hb dX7_findField_87 (by decide) ?_
          exact hm_iret hx hb hr hI hL h (by omega) (by omega) hlocks dX7_findField_88
        · replace h := it_n c25 h
          refine lv_iconst (v := 5) hx hb dX7_findField_70 (by decide) ?_
          exact hm_iret hx hb hr hI hL h (by omega) (by omega) hlocks dX7_findField_71
  · replace h := it_n c13 h
    refine lv_aload_n hx hb dX7_findField_24 rfl (lv_at hl 2 rfl) ?_
    replace h := ob_s h
    obtain ⟨f34, h35, h⟩ := h
    refine hm_get S hK hI (pf_X7_40_9 hK) (gR_s h35) dX7_findField_25 ?_
    refine lv_aload hx hb dX7_findField_28 (lv_at hl 1 rfl) ?_
    replace h := ob_s h
    obtain ⟨f36, h37, h⟩ := h
    refine hm_get S hK hI (pf_X7_187_3 hK) (gR_s h37) dX7_findField_30 ?_
    refine lv_iload hx hb dX7_findField_33 (lv_at hl 0 rfl) ?_
    refine lv_iconst (v := 0) hx hb dX7_findField_35 (by decide) ?_
    replace h := ob_s h
    obtain ⟨a38, rfl, h⟩ := h
    have hl : lv_has ls 7 [(5, .int r8), (4, .ref a4), (0, .ref x0), (1, .ref a1), (2, va_rf x2), (3, .int x3)] := hl
    replace h := ob_s h
    obtain ⟨_, h40, h⟩ := h
    replace h := cb_s h
    obtain ⟨u0, σ41, h39, h⟩ := h
    refine hm_callv (hm_runV (As := [va_rf f36, .int r8, .int (0 : Int32)]) (rest := []) (ci := 2) S hK hI (obC_s h40) rfl (mX0_pointAt l E h39) (pm_X7_262 hK) (pi_X0_pointAt hK) (pl_X0_X0_pointAt hK) ⟨by omega, by omega⟩ rfl hl.1 (Nat.le_of_ble_eq_true rfl) ⟨by omega, by omega⟩ dX7_findField_36) hL (fun H locs hI hL => ?_)
    refine lv_iconst (v := 0) hx hb dX7_findField_39 (by decide) ?_
    exact hm_iret hx hb hr hI hL h (by omega) (by omega) hlocks dX7_findField_40

def fX7_findFromType_J85 (x0 : Nat) (x1 : Option Nat) (x2 : Option Nat) (x3 : Int32) (K9 : Option Nat → Option Nat → Int32 → hmS → Option (Int32 × hmS)) (v4 : Nat) (v6 : Int32) (w0 : Option Nat) (σ : hmS) : Option (Int32 × hmS) :=
  ob (gR σ v4 8 2) fun f1 => K9 f1 w0 (v6 + (1 : Int32)) σ
def fX7_findFromType_B9 (x0 : Nat) (x1 : Option Nat) (x2 : Option Nat) (x3 : Int32)  (K9 : Option Nat → Option Nat → Int32 → hmS → Option (Int32 × hmS)) (v4 : Option Nat) (v5 : Option Nat) (v6 : Int32) (σ : hmS) : Option (Int32 × hmS) :=
  oc v4
    (some ((8 : Int32), σ))
    (fun a1 => if (12 : Int32) ≤ v6 then
      some ((8 : Int32), σ)
    else
      cb (fX7_ownerOfField (some a1) x3 σ) fun r5 σ4 => oc r5
        (ob (obC σ4 a1 8) fun _ => cb (fX6_latestLocalAhead a1 x3 σ4) fun r10 σ9 => if r10 = (-1 : Int32) then
          oc v5
            (fX7_findFromType_J85 x0 x1 x2 x3 K9 a1 v6 none σ9)
            (fun a12 => ob (obC σ9 a12 7) fun _ => cb (fX5_aroundAt a12 (some a1) σ9) fun r16 σ15 => fX7_findFromType_J85 x0 x1 x2 x3 K9 a1 v6 r16 σ15)
        else
          ob (obC σ9 x0 9) fun _ => cb (fX7_findCopy x0 (some a1) v5 r10 σ9) fun r20 σ19 => some (r20, σ19))
        (fun a6 => ob (obC σ4 x0 9) fun _ => cb (fX7_findField x0 (some a6) v5 x3 σ4) fun r24 σ23 => some (r24, σ23)))
def fX7_findFromType_L9 (x0 : Nat) (x1 : Option Nat) (x2 : Option Nat) (x3 : Int32)  : Nat → Option Nat → Option Nat → Int32 → hmS → Option (Int32 × hmS)
  | 0 => fun _ _ _ _ => none
  | n + 1 => fX7_findFromType_B9 x0 x1 x2 x3  (fX7_findFromType_L9 x0 x1 x2 x3  n)
def fX7_findFromType (x0 : Nat) (x1 : Option Nat) (x2 : Option Nat) (x3 : Int32) (σ : hmS) : Option (Int32 × hmS) :=
  fX7_findFromType_L9 x0 x1 x2 x3 20 x1 x2 (0 : Int32) σ
set_option maxHeartbeats 4000000 in
set_option maxRecDepth 100000 in
theorem mX7_findFromType (l : Launch) (E : hmG) {x0 : Nat} {x1 : Option Nat} {x2 : Option Nat} {x3 : Int32} {σ σ' : hmS} {r : Int32} (h : fX7_findFromType x0 x1 x2 x3 σ = some (r, σ')) : Met l yX7_findFromType [Cond.code yX7_findFromType cX7_findFromType 9 (some .int)] { frames := 3, cells := 0, slots := 0, locals := 68 } (hmPc E [.ref x0, va_rf x1, va_rf x2, .int x3] σ) (hmQc E (some (.int r)) σ') 0 0 (fun q => hmL E ≤ q) := by
  refine Met.ofW (cc := cX7_findFromType) (maxL := 9) (ret := (some .int)) (by decide) rfl ?_
  intro p e s m args below meth c s₁ B hml hv
  obtain ⟨rfl, hK, hI⟩ := hv
  have S : CallFix p m c cX7_findFromType 9 s ([.ref x0, va_rf x1, va_rf x2, .int x3] : List Value).toArray [] RX7 := ⟨B.exec, B.bytes, hml, findClass_of_methodNamed B.named, fun w hw => by cases hw⟩
  have hx := S.1
  have hb := S.2.1
  have hr := B.returns
  have hlocks := B.notSynchronized
  have hL : hmLo E [] := hmLo.nil
  have hl : lv_has ((lg_sl ([.ref x0, va_rf x1, va_rf x2, .int x3]) ++ List.replicate (9 - (lg_sl ([.ref x0, va_rf x1, va_rf x2, .int x3])).length) Slot.unset).toArray) 9 [(0, .ref x0), (1, va_rf x1), (2, va_rf x2), (3, .int x3)] := by cases x1 <;> cases x2 <;> exact lv_entry _ (Nat.le_of_ble_eq_true rfl)
  rw [lg_entry_eq]
  generalize (lg_sl ([.ref x0, va_rf x1, va_rf x2, .int x3]) ++ List.replicate (9 - (lg_sl ([.ref x0, va_rf x1, va_rf x2, .int x3])).length) Slot.unset).toArray = ls at hl ⊢
  generalize hRe : (headSpec [Cond.code yX7_findFromType cX7_findFromType 9 (some .int)] { frames := 3, cells := 0, slots := 0, locals := 68 }).room = R
  have hR1 : R.frames = 3 ∧ R.cells = 0 ∧ R.slots = 0 ∧ R.locals = 68 := by rw [← hRe]; exact ⟨rfl, rfl, rfl, rfl⟩
  clear hRe B hml
  generalize s.heap = H at hI ⊢
  generalize ([] : List Loc) = locs at hL ⊢
  have hmain := h
  clear h
  have hB9 : ∀ (K9 : Option Nat → Option Nat → Int32 → hmS → Option (Int32 × hmS)), (∀ (v4 : Option Nat) (v5 : Option Nat) (v6 : Int32) (σ : hmS) (H : Heap) (locs : List Loc) (ls : Array Slot), K9 v4 v5 v6 σ = some (r, σ') → hmI E σ H → hmLo E locs → lv_has ls 9 [(0, .ref x0), (3, .int x3), (4, va_rf v4), (5, va_rf v5), (6, .int v6)] → W p l e R s m ([.ref x0, va_rf x1, va_rf x2, .int x3] : List Value).toArray below meth c H locs 0 0 (MQ below (hmQc E (some (.int r)) σ') ([.ref x0, va_rf x1, va_rf x2, .int x3] : List Value).toArray s 0 0 (fun q => hmL E ≤ q)) (F0 m 9 ls [])) → ∀ (v4 : Option Nat) (v5 : Option Nat) (v6 : Int32) (σ : hmS) (H : Heap) (locs : List Loc) (ls : Array Slot), fX7_findFromType_B9 x0 x1 x2 x3  K9 v4 v5 v6 σ = some (r, σ') → hmI E σ H → hmLo E locs → lv_has ls 9 [(0, .ref x0), (3, .int x3), (4, va_rf v4), (5, va_rf v5), (6, .int v6)] → W p l e R s m ([.ref x0, va_rf x1, va_rf x2, .int x3] : List Value).toArray below meth c H locs 0 0 (MQ below (hmQc E (some (.int r)) σ') ([.ref x0, va_rf x1, va_rf x2, .int x3] : List Value).toArray s 0 0 (fun q => hmL E ≤ q)) (F0 m 9 ls []) := by
    intro K9 hk9
    have hJ85 : ∀ (v4 : Nat) (v6 : Int32) (w0 : Option Nat) (σ : hmS) (H : Heap) (locs : List Loc) (ls : Array Slot), fX7_findFromType_J85 x0 x1 x2 x3 K9 v4 v6 w0 σ = some (r, σ') → hmI E σ H → hmLo E locs → lv_has ls 9 [(0, .ref x0), (3, .int x3), (4, .ref v4), (6, .int v6)] → W p l e R s m ([.ref x0, va_rf x1, va_rf x2, .int x3] : List Value).toArray below meth c H locs 0 0 (MQ below (hmQc E (some (.int r)) σ') ([.ref x0, va_rf x1, va_rf x2, .int x3] : List Value).toArray s 0 0 (fun q => hmL E ≤ q)) (F0 m 85 ls [va_rf w0]) := by
      intro v4 v6 w0 σ H locs ls h hI hL hl
      unfold fX7_findFromType_J85 at h
      refine hm_astore (lv' := [(5, va_rf w0), (0, .ref x0), (3, .int x3), (4, .ref v4), (6, .int v6)]) hx hb dX7_findFromType_85 hl (by decide) rfl (fun ls hl => ?_)
      refine lv_aload hx hb dX7_findFromType_87 (lv_at hl 3 rfl) ?_
      replace h := ob_s h
      obtain ⟨f1, h2, h⟩ := h
      refine hm_get S hK hI (pf_X7_216_8 hK) (gR_s h2) dX7_findFromType_89 ?_
      refine hm_astore (lv' := [(4, va_rf f1), (5, va_rf w0), (0, .ref x0), (3, .int x3), (6, .int v6)]) hx hb dX7_findFromType_92 hl (by decide) rfl (fun ls hl => ?_)
      refine lv_iinc (v := (v6 + (1 : Int32))) (lv' := [(6, .int (v6 + (1 : Int32))), (4, va_rf f1), (5, va_rf w0), (0, .ref x0), (3, .int x3)]) hx hb dX7_findFromType_94 hl (k := 4) rfl rfl (by decide) (by cases w0 <;> rfl) (fun ls hl => ?_)
      refine lv_goto (tgt := 9) hx hb dX7_findFromType_97 (by decide) ?_
      exact hk9 _ _ _ _ _ _ _ h hI hL (lv_sub hl [3, 4, 1, 2, 0] rfl)
    intro v4 v5 v6 σ H locs ls h hI hL hl
    unfold fX7_findFromType_B9 at h
    refine hm_aload hx hb dX7_findFromType_9 (lv_at hl 2 rfl) ?_
    cases v4 with
    | none =>
      replace h := oc_n h
      have hl : lv_has ls 9 [(0, .ref x0), (3, .int x3), (4, va_rf none), (5, va_rf v5), (6, .int v6)] := hl
      refine lv_ifnullN (tgt := 100) hx hb dX7_findFromType_11 (by decide) ?_
      refine lv_bipush (v := 8) hx hb dX7_findFromType_100 (by decide) ?_
      exact hm_iret hx hb hr hI hL h (by omega) (by omega) hlocks dX7_findFromType_102
    | some a1 =>
      replace h := oc_s h
      have hl : lv_has ls 9 [(0, .ref x0), (3, .int x3), (4, .ref a1), (5, va_rf v5), (6, .int v6)] := hl
      refine lv_ifnull hx hb dX7_findFromType_11 ?_
      refine lv_iload hx hb dX7_findFromType_14 (lv_at hl 4 rfl) ?_
      refine lv_bipush (v := 12) hx hb dX7_findFromType_16 (by decide) ?_
      refine lv_icmp_ge (tgt := 100) hx hb dX7_findFromType_18 (by decide) (fun c2 => ?_) (fun c2 => ?_)
      · replace h := it_p c2 h
        refine lv_bipush (v := 8) hx hb dX7_findFromType_100 (by decide) ?_
        exact hm_iret hx hb hr hI hL h (by omega) (by omega) hlocks dX7_findFromType_102
      · replace h := it_n c2 h
        refine lv_aload hx hb dX7_findFromType_21 (lv_at hl 2 rfl) ?_
        refine lv_iload_n hx hb dX7_findFromType_23 rfl (lv_at hl 1 rfl) ?_
        replace h := cb_s h
        obtain ⟨r5, σ4, h3, h⟩ := h
        refine hm_call (hm_runS (As := [.ref a1, .int x3]) (rest := []) S hK hI (mX7_ownerOfField l E h3) (pm_X7_266 hK) (ps_X7_ownerOfField hK) ⟨by omega, by omega⟩ rfl hl.1 (Nat.le_of_ble_eq_true rfl) ⟨by omega, by omega⟩ dX7_findFromType_24) hL (fun H locs hI hL => ?_)
        refine hm_astore (lv' := [(7, va_rf r5), (0, .ref x0), (3, .int x3), (4, .ref a1), (5, va_rf v5), (6, .int v6)]) hx hb dX7_findFromType_27 hl (by decide) rfl (fun ls hl => ?_)
        refine hm_aload hx hb dX7_findFromType_29 (lv_at hl 0 rfl) ?_
        cases r5 with
        | none =>
          replace h := oc_n h
          have hl : lv_has ls 9 [(7, va_rf none), (0, .ref x0), (3, .int x3), (4, .ref a1), (5, va_rf v5), (6, .int v6)] := hl
          refine lv_ifnullN (tgt := 44) hx hb dX7_findFromType_31 (by decide) ?_
          refine lv_aload hx hb dX7_findFromType_44 (lv_at hl 3 rfl) ?_
          refine lv_iload_n hx hb dX7_findFromType_46 rfl (lv_at hl 2 rfl) ?_
          replace h := ob_s h
          obtain ⟨_, h8, h⟩ := h
          replace h := cb_s h
          obtain ⟨r10, σ9, h7, h⟩ := h
          refine hm_call (hm_runV (As := [.int x3]) (rest := []) (ci := 8) S hK hI (obC_s h8) rfl (mX6_latestLocalAhead l E h7) (pm_X7_273 hK) (pi_X6_latestLocalAhead hK) (pl_X6_X6_latestLocalAhead hK) ⟨by omega, by omega⟩ rfl hl.1 (Nat.le_of_ble_eq_true rfl) ⟨by omega, by omega⟩ dX7_findFromType_47) hL (fun H locs hI hL => ?_)
          refine lv_istore (lv' := [(8, .int r10), (7, va_rf none), (0, .ref x0), (3, .int x3), (4, .ref a1), (5, va_rf v5), (6, .int v6)]) hx hb dX7_findFromType_50 hl (by decide) rfl (fun ls hl => ?_)
          refine lv_iload hx hb dX7_findFromType_52 (lv_at hl 0 rfl) ?_
          refine lv_iconst (v := -1) hx hb dX7_findFromType_54 (by decide) ?_
          refine lv_icmp_eq (tgt := 69) hx hb dX7_findFromType_55 (by decide) (fun c11 => ?_) (fun c11 => ?_)
          · replace h := it_p c11 h
            refine hm_aload hx hb dX7_findFromType_69 (lv_at hl 5 rfl) ?_
            cases v5 with
            | none =>
              replace h := oc_n h
              have hl : lv_has ls 9 [(8, .int r10), (7, va_rf none), (0, .ref x0), (3, .int x3), (4, .ref a1), (5, va_rf none), (6, .int v6)] := hl
              refine lv_ifnonnullN hx hb dX7_findFromType_71 ?_
              refine hm_null hx hb dX7_findFromType_74 ?_
              refine lv_goto (tgt := 85) hx hb dX7_findFromType_75 (by decide) ?_
              exact hJ85 _ _ _ _ _ _ _ h hI hL (lv_sub hl [2, 3, 4, 6] rfl)
            | some a12 =>
              replace h := oc_s h
              have hl : lv_has ls 9 [(8, .int r10), (7, va_rf none), (0, .ref x0), (3, .int x3), (4, .ref a1), (5, .ref a12), (6, .int v6)] := hl
              refine lv_ifnonnull (tgt := 78) hx hb dX7_findFromType_71 (by decide) ?_
              refine lv_aload hx hb dX7_findFromType_78 (lv_at hl 5 rfl) ?_
              refine lv_aload hx hb dX7_findFromType_80 (lv_at hl 4 rfl) ?_
              replace h := ob_s h
              obtain ⟨_, h14, h⟩ := h
              replace h := cb_s h
              obtain ⟨r16, σ15, h13, h⟩ := h
              refine hm_call (hm_runV (As := [.ref a1]) (rest := []) (ci := 7) S hK hI (obC_s h14) rfl (mX5_aroundAt l E h13) (pm_X7_152 hK) (pi_X5_aroundAt hK) (pl_X5_X5_aroundAt hK) ⟨by omega, by omega⟩ rfl hl.1 (Nat.le_of_ble_eq_true rfl) ⟨by omega, by omega⟩ dX7_findFromType_82) hL (fun H locs hI hL => ?_)
              exact hJ85 _ _ _ _ _ _ _ h hI hL (lv_sub hl [2, 3, 4, 6] rfl)
          · replace h := it_n c11 h
            refine lv_aload_n hx hb dX7_findFromType_58 rfl (lv_at hl 2 rfl) ?_
            refine lv_aload hx hb dX7_findFromType_59 (lv_at hl 4 rfl) ?_
            refine hm_aload hx hb dX7_findFromType_61 (lv_at hl 5 rfl) ?_
            refine lv_iload hx hb dX7_findFromType_63 (lv_at hl 0 rfl) ?_
            replace h := ob_s h
            obtain ⟨_, h18, h⟩ := h
            replace h := cb_s h
            obtain ⟨r20, σ19, h17, h⟩ := h
            refine hm_call (hm_runV (As := [.ref a1, va_rf v5, .int r10]) (rest := []) (ci := 9) S hK hI (obC_s h18) rfl (mX7_findCopy l E h17) (pm_X7_276 hK) (pi_X7_findCopy hK) (pl_X7_X7_findCopy hK) ⟨by omega, by omega⟩ rfl hl.1 (Nat.le_of_ble_eq_true rfl) ⟨by omega, by omega⟩ dX7_findFromType_65) hL (fun H locs hI hL => ?_)
            exact hm_iret hx hb hr hI hL h (by omega) (by omega) hlocks dX7_findFromType_68
        | some a6 =>
          replace h := oc_s h
          have hl : lv_has ls 9 [(7, .ref a6), (0, .ref x0), (3, .int x3), (4, .ref a1), (5, va_rf v5), (6, .int v6)] := hl
          refine lv_ifnull hx hb dX7_findFromType_31 ?_
          refine lv_aload_n hx hb dX7_findFromType_34 rfl (lv_at hl 1 rfl) ?_
          refine lv_aload hx hb dX7_findFromType_35 (lv_at hl 0 rfl) ?_
          refine hm_aload hx hb dX7_findFromType_37 (lv_at hl 4 rfl) ?_
          refine lv_iload_n hx hb dX7_findFromType_39 rfl (lv_at hl 2 rfl) ?_
          replace h := ob_s h
          obtain ⟨_, h22, h⟩ := h
          replace h := cb_s h
          obtain ⟨r24, σ23, h21, h⟩ := h
          refine hm_call (hm_runV (As := [.ref a6, va_rf v5, .int x3]) (rest := []) (ci := 9) S hK hI (obC_s h22) rfl (mX7_findField l E h21) (pm_X7_270 hK) (pi_X7_findField hK) (pl_X7_X7_findField hK) ⟨by omega, by omega⟩ rfl hl.1 (Nat.le_of_ble_eq_true rfl) ⟨by omega, by omega⟩ dX7_findFromType_40) hL (fun H locs hI hL => ?_)
          exact hm_iret hx hb hr hI hL h (by omega) (by omega) hlocks dX7_findFromType_43
  have hL9 : ∀ n : Nat, ∀ (v4 : Option Nat) (v5 : Option Nat) (v6 : Int32) (σ : hmS) (H : Heap) (locs : List Loc) (ls : Array Slot), fX7_findFromType_L9 x0 x1 x2 x3  n v4 v5 v6 σ = some (r, σ') → hmI E σ H → hmLo E locs → lv_has ls 9 [(0, .ref x0), (3, .int x3), (4, va_rf v4), (5, va_rf v5), (6, .int v6)] → W p l e R s m ([.ref x0, va_rf x1, va_rf x2, .int x3] : List Value).toArray below meth c H locs 0 0 (MQ below (hmQc E (some (.int r)) σ') ([.ref x0, va_rf x1, va_rf x2, .int x3] : List Value).toArray s 0 0 (fun q => hmL E ≤ q)) (F0 m 9 ls []) := by
    intro n
    induction n with
    | zero =>
      intro v4 v5 v6 σ H locs ls h
      have h : none = some (r, σ') := h
      cases h
    | succ n ih => exact hB9 _ ih
  have h := hmain
  clear hmain
  unfold fX7_findFromType at h
  refine hm_aload_n hx hb dX7_findFromType_0 rfl (lv_at hl 1 rfl) ?_
  refine hm_astore (lv' := [(4, va_rf x1), (0, .ref x0), (1, va_rf x1), (2, va_rf x2), (3, .int x3)]) hx hb dX7_findFromType_1 hl (by decide) rfl (fun ls hl => ?_)
  refine hm_aload_n hx hb dX7_findFromType_3 rfl (lv_at hl 3 rfl) ?_
  refine hm_astore (lv' := [(5, va_rf x2), (4, va_rf x1), (0, .ref x0), (1, va_rf x1), (2, va_rf x2), (3, .int x3)]) hx hb dX7_findFromType_4 hl (by decide) (by cases x1 <;> rfl) (fun ls hl => ?_)
  refine lv_iconst (v := 0) hx hb dX7_findFromType_6 (by decide) ?_
  refine lv_istore (lv' := [(6, .int (0 : Int32)), (5, va_rf x2), (4, va_rf x1), (0, .ref x0), (1, va_rf x1), (2, va_rf x2), (3, .int x3)]) hx hb dX7_findFromType_7 hl (by decide) (by cases x2 <;> rfl) (fun ls hl => ?_)
  exact hL9 20 _ _ _ _ _ _ _ h hI hL (lv_sub hl [3, 6, 2, 1, 0] rfl)

def fX7_findFromPlace (x0 : Nat) (x1 : Int32) (x2 : Int32) (σ : hmS) : Option (Int32 × hmS) :=
  cb (fX7_isPlace x1 σ) fun r3 σ2 => if r3 = 0 then
    some ((-1 : Int32), σ2)
  else
    cb (fX7_isName x2 σ2) fun r7 σ6 => if r7 = 0 then
      some ((-1 : Int32), σ6)
    else
      ob (gR σ6 x0 9 2) fun f9 => ob f9 fun a11 => ob (aR σ6 a11 x1) fun e12 => oc e12
        (some ((9 : Int32), σ6))
        (fun a14 => ob (gR σ6 a14 7 0) fun f15 => ob (obC σ6 x0 9) fun _ => cb (fX7_findFromType x0 f15 (some a14) x2 σ6) fun r20 σ19 => some (r20, σ19))
set_option maxHeartbeats 4000000 in
set_option maxRecDepth 100000 in
theorem mX7_findFromPlace (l : Launch) (E : hmG) {x0 : Nat} {x1 : Int32} {x2 : Int32} {σ σ' : hmS} {r : Int32} (h : fX7_findFromPlace x0 x1 x2 σ = some (r, σ')) : Met l yX7_findFromPlace [Cond.code yX7_findFromPlace cX7_findFromPlace 4 (some .int)] { frames := 4, cells := 0, slots := 0, locals := 96 } (hmPc E [.ref x0, .int x1, .int x2] σ) (hmQc E (some (.int r)) σ') 0 0 (fun q => hmL E ≤ q) := by
  refine Met.ofW (cc := cX7_findFromPlace) (maxL := 4) (ret := (some .int)) (by decide) rfl ?_
  intro p e s m args below meth c s₁ B hml hv
  obtain ⟨rfl, hK, hI⟩ := hv
  have S : CallFix p m c cX7_findFromPlace 4 s ([.ref x0, .int x1, .int x2] : List Value).toArray [] RX7 := ⟨B.exec, B.bytes, hml, findClass_of_methodNamed B.named, fun w hw => by cases hw⟩
  have hx := S.1
  have hb := S.2.1
  have hr := B.returns
  have hlocks := B.notSynchronized
  have hL : hmLo E [] := hmLo.nil
  have hl : lv_has ((lg_sl ([.ref x0, .int x1, .int x2]) ++ List.replicate (4 - (lg_sl ([.ref x0, .int x1, .int x2])).length) Slot.unset).toArray) 4 [(0, .ref x0), (1, .int x1), (2, .int x2)] := by exact lv_entry _ (Nat.le_of_ble_eq_true rfl)
  rw [lg_entry_eq]
  generalize (lg_sl ([.ref x0, .int x1, .int x2]) ++ List.replicate (4 - (lg_sl ([.ref x0, .int x1, .int x2])).length) Slot.unset).toArray = ls at hl ⊢
  generalize hRe : (headSpec [Cond.code yX7_findFromPlace cX7_findFromPlace 4 (some .int)] { frames := 4, cells := 0, slots := 0, locals := 96 }).room = R
  have hR1 : R.frames = 4 ∧ R.cells = 0 ∧ R.slots = 0 ∧ R.locals = 96 := by rw [← hRe]; exact ⟨rfl, rfl, rfl, rfl⟩
  clear hRe B hml
  generalize s.heap = H at hI ⊢
  generalize ([] : List Loc) = locs at hL ⊢
  have hmain := h
  clear h
  have h := hmain
  clear hmain
  unfold fX7_findFromPlace at h
  refine lv_iload_n hx hb dX7_findFromPlace_0 rfl (lv_at hl 1 rfl) ?_
  replace h := cb_s h
  obtain ⟨r3, σ2, h1, h⟩ := h
  refine hm_call (hm_runS (As := [.int x1]) (rest := []) S hK hI (mX7_isPlace l E h1) (pm_X7_139 hK) (ps_X7_isPlace hK) ⟨by omega, by omega⟩ rfl hl.1 (Nat.le_of_ble_eq_true rfl) ⟨by omega, by omega⟩ dX7_findFromPlace_1) hL (fun H locs hI hL => ?_)
  refine lv_if_eq (tgt := 14) hx hb dX7_findFromPlace_4 (by decide) (fun c4 => ?_) (fun c4 => ?_)
  · replace h := it_p c4 h
    refine lv_iconst (v := -1) hx hb dX7_findFromPlace_14 (by decide) ?_
    exact hm_iret hx hb hr hI hL h (by omega) (by omega) hlocks dX7_findFromPlace_15
  · replace h := it_n c4 h
    refine lv_iload_n hx hb dX7_findFromPlace_7 rfl (lv_at hl 2 rfl) ?_
    replace h := cb_s h
    obtain ⟨r7, σ6, h5, h⟩ := h
    refine hm_call (hm_runS (As := [.int x2]) (rest := []) S hK hI (mX7_isName l E h5) (pm_X7_62 hK) (ps_X7_isName hK) ⟨by omega, by omega⟩ rfl hl.1 (Nat.le_of_ble_eq_true rfl) ⟨by omega, by omega⟩ dX7_findFromPlace_8) hL (fun H locs hI hL => ?_)
    refine lv_if_ne (tgt := 16) hx hb dX7_findFromPlace_11 (by decide) (fun c8 => ?_) (fun c8 => ?_)
    · replace h := it_n c8 h
      refine lv_aload_n hx hb dX7_findFromPlace_16 rfl (lv_at hl 0 rfl) ?_
      replace h := ob_s h
      obtain ⟨f9, h10, h⟩ := h
      refine hm_get S hK hI (pf_X7_21_9 hK) (gR_s h10) dX7_findFromPlace_17 ?_
      refine lv_iload_n hx hb dX7_findFromPlace_20 rfl (lv_at hl 1 rfl) ?_
      replace h := ob_s h
      obtain ⟨a11, rfl, h⟩ := h
      have hl : lv_has ls 4 [(0, .ref x0), (1, .int x1), (2, .int x2)] := hl
      replace h := ob_s h
      obtain ⟨e12, h13, h⟩ := h
      refine hm_aald S hK hI h13 dX7_findFromPlace_21 ?_
      refine hm_astore_n (lv' := [(3, va_rf e12), (0, .ref x0), (1, .int x1), (2, .int x2)]) hx hb dX7_findFromPlace_22 rfl hl (by decide) rfl (fun ls hl => ?_)
      refine hm_aload_n hx hb dX7_findFromPlace_23 rfl (lv_at hl 0 rfl) ?_
      cases e12 with
      | none =>
        replace h := oc_n h
        have hl : lv_has ls 4 [(3, va_rf none), (0, .ref x0), (1, .int x1), (2, .int x2)] := hl
        refine lv_ifnonnullN hx hb dX7_findFromPlace_24 ?_
        refine lv_bipush (v := 9) hx hb dX7_findFromPlace_27 (by decide) ?_
        exact hm_iret hx hb hr hI hL h (by omega) (by omega) hlocks dX7_findFromPlace_29
      | some a14 =>
        replace h := oc_s h
        have hl : lv_has ls 4 [(3, .ref a14), (0, .ref x0), (1, .int x1), (2, .int x2)] := hl
        refine lv_ifnonnull (tgt := 30) hx hb dX7_findFromPlace_24 (by decide) ?_
        refine lv_aload_n hx hb dX7_findFromPlace_30 rfl (lv_at hl 1 rfl) ?_
        refine lv_aload_n hx hb dX7_findFromPlace_31 rfl (lv_at hl 0 rfl) ?_
        replace h := ob_s h
        obtain ⟨f15, h16, h⟩ := h
        refine hm_get S hK hI (pf_X7_142_7 hK) (gR_s h16) dX7_findFromPlace_32 ?_
        refine lv_aload_n hx hb dX7_findFromPlace_35 rfl (lv_at hl 0 rfl) ?_
        refine lv_iload_n hx hb dX7_findFromPlace_36 rfl (lv_at hl 3 rfl) ?_
        replace h := ob_s h
        obtain ⟨_, h18, h⟩ := h
        replace h := cb_s h
        obtain ⟨r20, σ19, h17, h⟩ := h
        refine hm_call (hm_runV (As := [va_rf f15, .ref a14, .int x2]) (rest := []) (ci := 9) S hK hI (obC_s h18) rfl (mX7_findFromType l E h17) (pm_X7_243 hK) (pi_X7_findFromType hK) (pl_X7_X7_findFromType hK) ⟨by omega, by omega⟩ rfl hl.1 (Nat.le_of_ble_eq_true rfl) ⟨by omega, by omega⟩ dX7_findFromPlace_37) hL (fun H locs hI hL => ?_)
        exact hm_iret hx hb hr hI hL h (by omega) (by omega) hlocks dX7_findFromPlace_40
    · replace h := it_p c8 h
      refine lv_iconst (v := -1) hx hb dX7_findFromPlace_14 (by decide) ?_
      exact hm_iret hx hb hr hI hL h (by omega) (by omega) hlocks dX7_findFromPlace_15

def fX0_isThere (x0 : Nat) (σ : hmS) : Option (Int32 × hmS) :=
  ob (gR σ x0 2 0) fun f1 => oc f1
    (some ((0 : Int32), σ))
    (fun a3 => ob (gI σ x0 2 1) fun f4 => if f4 < 0 then
      some ((0 : Int32), σ)
    else
      ob (gI σ x0 2 1) fun f7 => ob (gR σ x0 2 0) fun f9 => ob f9 fun a11 => ob (aN σ a11) fun n12 => if n12 ≤ f7 then
        some ((0 : Int32), σ)
      else
        some ((1 : Int32), σ))
set_option maxHeartbeats 4000000 in
set_option maxRecDepth 100000 in
theorem mX0_isThere (l : Launch) (E : hmG) {x0 : Nat} {σ σ' : hmS} {r : Int32} (h : fX0_isThere x0 σ = some (r, σ')) : Met l yX0_isThere [Cond.code yX0_isThere cX0_isThere 1 (some .boolean)] { frames := 0, cells := 0, slots := 0, locals := 0 } (hmPc E [.ref x0] σ) (hmQc E (some (.int r)) σ') 0 0 (fun q => hmL E ≤ q) := by
  refine Met.ofW (cc := cX0_isThere) (maxL := 1) (ret := (some .boolean)) (by decide) rfl ?_
  intro p e s m args below meth c s₁ B hml hv
  obtain ⟨rfl, hK, hI⟩ := hv
  have S : CallFix p m c cX0_isThere 1 s ([.ref x0] : List Value).toArray [] RX0 := ⟨B.exec, B.bytes, hml, findClass_of_methodNamed B.named, fun w hw => by cases hw⟩
  have hx := S.1
  have hb := S.2.1
  have hr := B.returns
  have hlocks := B.notSynchronized
  have hL : hmLo E [] := hmLo.nil
  have hl : lv_has ((lg_sl ([.ref x0]) ++ List.replicate (1 - (lg_sl ([.ref x0])).length) Slot.unset).toArray) 1 [(0, .ref x0)] := by exact lv_entry _ (Nat.le_of_ble_eq_true rfl)
  rw [lg_entry_eq]
  generalize (lg_sl ([.ref x0]) ++ List.replicate (1 - (lg_sl ([.ref x0])).length) Slot.unset).toArray = ls at hl ⊢
  generalize hRe : (headSpec [Cond.code yX0_isThere cX0_isThere 1 (some .boolean)] { frames := 0, cells := 0, slots := 0, locals := 0 }).room = R
  have hR1 : R.frames = 0 ∧ R.cells = 0 ∧ R.slots = 0 ∧ R.locals = 0 := by rw [← hRe]; exact ⟨rfl, rfl, rfl, rfl⟩
  clear hRe B hml
  generalize s.heap = H at hI ⊢
  generalize ([] : List Loc) = locs at hL ⊢
  have hmain := h
  clear h
  have h := hmain
  clear hmain
  unfold fX0_isThere at h
  refine lv_aload_n hx hb dX0_isThere_0 rfl (lv_at hl 0 rfl) ?_
  replace h := ob_s h
  obtain ⟨f1, h2, h⟩ := h
  refine hm_get S hK hI (pf_X0_13_2 hK) (gR_s h2) dX0_isThere_1 ?_
  cases f1 with
  | none =>
    replace h := oc_n h
    have hl : lv_has ls 1 [(0, .ref x0)] := hl
    refine lv_ifnullN (tgt := 30) hx hb dX0_isThere_4 (by decide) ?_
    refine lv_iconst (v := 0) hx hb dX0_isThere_30 (by decide) ?_
    exact hm_zret hx hb hr rfl hI hL h (by omega) (by omega) hlocks dX0_isThere_31
  | some a3 =>
    replace h := oc_s h
    have hl : lv_has ls 1 [(0, .ref x0)] := hl
    refine lv_ifnull hx hb dX0_isThere_4 ?_
    refine lv_aload_n hx hb dX0_isThere_7 rfl (lv_at hl 0 rfl) ?_
    replace h := ob_s h
    obtain ⟨f4, h5, h⟩ := h
    refine hm_get S hK hI (pf_X0_18_2 hK) (gI_s h5) dX0_isThere_8 ?_
    refine lv_if_lt (tgt := 30) hx hb dX0_isThere_11 (by decide) (fun c6 => ?_) (fun c6 => ?_)
    · replace h := it_p c6 h
      refine lv_iconst (v := 0) hx hb dX0_isThere_30 (by decide) ?_
      exact hm_zret hx hb hr rfl hI hL h (by omega) (by omega) hlocks dX0_isThere_31
    · replace h := it_n c6 h
      refine lv_aload_n hx hb dX0_isThere_14 rfl (lv_at hl 0 rfl) ?_
      replace h := ob_s h
      obtain ⟨f7, h8, h⟩ := h
      refine hm_get S hK hI (pf_X0_18_2 hK) (gI_s h8) dX0_isThere_15 ?_
      refine lv_aload_n hx hb dX0_isThere_18 rfl (lv_at hl 0 rfl) ?_
      replace h := ob_s h
      obtain ⟨f9, h10, h⟩ := h
      refine hm_get S hK hI (pf_X0_13_2 hK) (gR_s h10) dX0_isThere_19 ?_
      replace h := ob_s h
      obtain ⟨a11, rfl, h⟩ := h
      have hl : lv_has ls 1 [(0, .ref x0)] := hl
      replace h := ob_s h
      obtain ⟨n12, h13, h⟩ := h
      refine hm_aN S hK hI h13 dX0_isThere_22 ?_
      refine lv_icmp_ge (tgt := 30) hx hb dX0_isThere_23 (by decide) (fun c14 => ?_) (fun c14 => ?_)
      · replace h := it_p c14 h
        refine lv_iconst (v := 0) hx hb dX0_isThere_30 (by decide) ?_
        exact hm_zret hx hb hr rfl hI hL h (by omega) (by omega) hlocks dX0_isThere_31
      · replace h := it_n c14 h
        refine lv_iconst (v := 1) hx hb dX0_isThere_26 (by decide) ?_
        refine lv_goto (tgt := 31) hx hb dX0_isThere_27 (by decide) ?_
        exact hm_zret hx hb hr rfl hI hL h (by omega) (by omega) hlocks dX0_isThere_31

def fX0_read (x0 : Nat) (σ : hmS) : Option (Int64 × hmS) :=
  ob (obC σ x0 2) fun _ => cb (fX0_isThere x0 σ) fun r4 σ3 => if r4 = 0 then
    some ((0 : Int64), σ3)
  else
    ob (gR σ3 x0 2 0) fun f6 => ob (gI σ3 x0 2 1) fun f8 => ob f6 fun a10 => ob (aL σ3 a10 f8) fun e11 => some (e11, σ3)
set_option maxHeartbeats 4000000 in
set_option maxRecDepth 100000 in
theorem mX0_read (l : Launch) (E : hmG) {x0 : Nat} {σ σ' : hmS} {r : Int64} (h : fX0_read x0 σ = some (r, σ')) : Met l yX0_read [Cond.code yX0_read cX0_read 1 (some .long)] { frames := 1, cells := 0, slots := 0, locals := 20 } (hmPc E [.ref x0] σ) (hmQc E (some (.long r)) σ') 0 0 (fun q => hmL E ≤ q) := by
  refine Met.ofW (cc := cX0_read) (maxL := 1) (ret := (some .long)) (by decide) rfl ?_
  intro p e s m args below meth c s₁ B hml hv
  obtain ⟨rfl, hK, hI⟩ := hv
  have S : CallFix p m c cX0_read 1 s ([.ref x0] : List Value).toArray [] RX0 := ⟨B.exec, B.bytes, hml, findClass_of_methodNamed B.named, fun w hw => by cases hw⟩
  have hx := S.1
  have hb := S.2.1
  have hr := B.returns
  have hlocks := B.notSynchronized
  have hL : hmLo E [] := hmLo.nil
  have hl : lv_has ((lg_sl ([.ref x0]) ++ List.replicate (1 - (lg_sl ([.ref x0])).length) Slot.unset).toArray) 1 [(0, .ref x0)] := by exact lv_entry _ (Nat.le_of_ble_eq_true rfl)
  rw [lg_entry_eq]
  generalize (lg_sl ([.ref x0]) ++ List.replicate (1 - (lg_sl ([.ref x0])).length) Slot.unset).toArray = ls at hl ⊢
  generalize hRe : (headSpec [Cond.code yX0_read cX0_read 1 (some .long)] { frames := 1, cells := 0, slots := 0, locals := 20 }).room = R
  have hR1 : R.frames = 1 ∧ R.cells = 0 ∧ R.slots = 0 ∧ R.locals = 20 := by rw [← hRe]; exact ⟨rfl, rfl, rfl, rfl⟩
  clear hRe B hml
  generalize s.heap = H at hI ⊢
  generalize ([] : List Loc) = locs at hL ⊢
  have hmain := h
  clear h
  have h := hmain
  clear hmain
  unfold fX0_read at h
  refine lv_aload_n hx hb dX0_read_0 rfl (lv_at hl 0 rfl) ?_
  replace h := ob_s h
  obtain ⟨_, h2, h⟩ := h
  replace h := cb_s h
  obtain ⟨r4, σ3, h1, h⟩ := h
  refine hm_call (hm_runV (As := []) (rest := []) (ci := 2) S hK hI (obC_s h2) rfl (mX0_isThere l E h1) (pm_X0_26 hK) (pi_X0_isThere hK) (pl_X0_X0_isThere hK) ⟨by omega, by omega⟩ rfl hl.1 (Nat.le_of_ble_eq_true rfl) ⟨by omega, by omega⟩ dX0_read_1) hL (fun H locs hI hL => ?_)
  refine lv_if_eq (tgt := 19) hx hb dX0_read_4 (by decide) (fun c5 => ?_) (fun c5 => ?_)
  · replace h := it_p c5 h
    refine lv_lconst (v := 0) hx hb dX0_read_19 (by decide) ?_
    exact hm_lret hx hb hr hI hL h (by omega) (by omega) hlocks dX0_read_20
  · replace h := it_n c5 h
    refine lv_aload_n hx hb dX0_read_7 rfl (lv_at hl 0 rfl) ?_
    replace h := ob_s h
    obtain ⟨f6, h7, h⟩ := h
    refine hm_get S hK hI (pf_X0_13_2 hK) (gR_s h7) dX0_read_8 ?_
    refine lv_aload_n hx hb dX0_read_11 rfl (lv_at hl 0 rfl) ?_
    replace h := ob_s h
    obtain ⟨f8, h9, h⟩ := h
    refine hm_get S hK hI (pf_X0_18_2 hK) (gI_s h9) dX0_read_12 ?_
    replace h := ob_s h
    obtain ⟨a10, rfl, h⟩ := h
    have hl : lv_has ls 1 [(0, .ref x0)] := hl
    replace h := ob_s h
    obtain ⟨e11, h12, h⟩ := h
    refine hm_lald S hK hI h12 dX0_read_15 ?_
    refine lv_goto (tgt := 20) hx hb dX0_read_16 (by decide) ?_
    exact hm_lret hx hb hr hI hL h (by omega) (by omega) hlocks dX0_read_20

def fX7_see (x0 : Nat) (x1 : Int32) (x2 : Int32) (σ : hmS) : Option (Int64 × hmS) :=
  ob (obC σ x0 9) fun _ => cb (fX7_findFromPlace x0 x1 x2 σ) fun r4 σ3 => ob (wF σ3 x0 9 7 (.int r4)) fun σ5 => ob (gI σ5 x0 9 7) fun f7 => if f7 = 0 then
    ob (gR σ5 x0 9 6) fun f10 => ob f10 fun a12 => ob (obC σ5 a12 2) fun _ => cb (fX0_read a12 σ5) fun r16 σ15 => some (r16, σ15)
  else
    some ((0 : Int64), σ5)
set_option maxHeartbeats 4000000 in
set_option maxRecDepth 100000 in
theorem mX7_see (l : Launch) (E : hmG) {x0 : Nat} {x1 : Int32} {x2 : Int32} {σ σ' : hmS} {r : Int64} (h : fX7_see x0 x1 x2 σ = some (r, σ')) : Met l yX7_see [Cond.code yX7_see cX7_see 3 (some .long)] { frames := 5, cells := 0, slots := 0, locals := 119 } (hmPc E [.ref x0, .int x1, .int x2] σ) (hmQc E (some (.long r)) σ') 0 0 (fun q => hmL E ≤ q) := by
  refine Met.ofW (cc := cX7_see) (maxL := 3) (ret := (some .long)) (by decide) rfl ?_
  intro p e s m args below meth c s₁ B hml hv
  obtain ⟨rfl, hK, hI⟩ := hv
  have S : CallFix p m c cX7_see 3 s ([.ref x0, .int x1, .int x2] : List Value).toArray [] RX7 := ⟨B.exec, B.bytes, hml, findClass_of_methodNamed B.named, fun w hw => by cases hw⟩
  have hx := S.1
  have hb := S.2.1
  have hr := B.returns
  have hlocks := B.notSynchronized
  have hL : hmLo E [] := hmLo.nil
  have hl : lv_has ((lg_sl ([.ref x0, .int x1, .int x2]) ++ List.replicate (3 - (lg_sl ([.ref x0, .int x1, .int x2])).length) Slot.unset).toArray) 3 [(0, .ref x0), (1, .int x1), (2, .int x2)] := by exact lv_entry _ (Nat.le_of_ble_eq_true rfl)
  rw [lg_entry_eq]
  generalize (lg_sl ([.ref x0, .int x1, .int x2]) ++ List.replicate (3 - (lg_sl ([.ref x0, .int x1, .int x2])).length) Slot.unset).toArray = ls at hl ⊢
  generalize hRe : (headSpec [Cond.code yX7_see cX7_see 3 (some .long)] { frames := 5, cells := 0, slots := 0, locals := 119 }).room = R
  have hR1 : R.frames = 5 ∧ R.cells = 0 ∧ R.slots = 0 ∧ R.locals = 119 := by rw [← hRe]; exact ⟨rfl, rfl, rfl, rfl⟩
  clear hRe B hml
  generalize s.heap = H at hI ⊢
  generalize ([] : List Loc) = locs at hL ⊢
  have hmain := h
  clear h
  have h := hmain
  clear hmain
  unfold fX7_see at h
  refine lv_aload_n hx hb dX7_see_0 rfl (lv_at hl 0 rfl) ?_
  refine lv_aload_n hx hb dX7_see_1 rfl (lv_at hl 0 rfl) ?_
  refine lv_iload_n hx hb dX7_see_2 rfl (lv_at hl 1 rfl) ?_
  refine lv_iload_n hx hb dX7_see_3 rfl (lv_at hl 2 rfl) ?_
  replace h := ob_s h
  obtain ⟨_, h2, h⟩ := h
  replace h := cb_s h
  obtain ⟨r4, σ3, h1, h⟩ := h
  refine hm_call (hm_runV (As := [.int x1, .int x2]) (rest := [.ref x0]) (ci := 9) S hK hI (obC_s h2) rfl (mX7_findFromPlace l E h1) (pm_X7_166 hK) (pi_X7_findFromPlace hK) (pl_X7_X7_findFromPlace hK) ⟨by omega, by omega⟩ rfl hl.1 (Nat.le_of_ble_eq_true rfl) ⟨by omega, by omega⟩ dX7_see_4) hL (fun H locs hI hL => ?_)
  replace h := ob_s h
  obtain ⟨σ5, h6, h⟩ := h
  refine hm_put S hK hI hL (pf_X7_44_9 hK) h6 ⟨rfl, rfl⟩ dX7_see_7 (fun H locs hI hL => ?_)
  refine lv_aload_n hx hb dX7_see_10 rfl (lv_at hl 0 rfl) ?_
  replace h := ob_s h
  obtain ⟨f7, h8, h⟩ := h
  refine hm_get S hK hI (pf_X7_44_9 hK) (gI_s h8) dX7_see_11 ?_
  refine lv_if_ne (tgt := 27) hx hb dX7_see_14 (by decide) (fun c9 => ?_) (fun c9 => ?_)
  · replace h := it_n c9 h
    refine lv_lconst (v := 0) hx hb dX7_see_27 (by decide) ?_
    exact hm_lret hx hb hr hI hL h (by omega) (by omega) hlocks dX7_see_28
  · replace h := it_p c9 h
    refine lv_aload_n hx hb dX7_see_17 rfl (lv_at hl 0 rfl) ?_
    replace h := ob_s h
    obtain ⟨f10, h11, h⟩ := h
    refine hm_get S hK hI (pf_X7_40_9 hK) (gR_s h11) dX7_see_18 ?_
    replace h := ob_s h
    obtain ⟨a12, rfl, h⟩ := h
    have hl : lv_has ls 3 [(0, .ref x0), (1, .int x1), (2, .int x2)] := hl
    replace h := ob_s h
    obtain ⟨_, h14, h⟩ := h
    replace h := cb_s h
    obtain ⟨r16, σ15, h13, h⟩ := h
    refine hm_call (hm_runV (As := []) (rest := []) (ci := 2) S hK hI (obC_s h14) rfl (mX0_read l E h13) (pm_X7_170 hK) (pi_X0_read hK) (pl_X0_X0_read hK) ⟨by omega, by omega⟩ rfl hl.1 (Nat.le_of_ble_eq_true rfl) ⟨by omega, by omega⟩ dX7_see_21) hL (fun H locs hI hL => ?_)
    refine lv_goto (tgt := 28) hx hb dX7_see_24 (by decide) ?_
    exact hm_lret hx hb hr hI hL h (by omega) (by omega) hlocks dX7_see_28

def fX0_write (x0 : Nat) (x1 : Int64) (σ : hmS) : Option (Unit × hmS) :=
  ob (obC σ x0 2) fun _ => cb (fX0_isThere x0 σ) fun r4 σ3 => if r4 = 0 then
    some ((), σ3)
  else
    ob (gR σ3 x0 2 0) fun f6 => ob (gI σ3 x0 2 1) fun f8 => ob f6 fun a10 => ob (sL σ3 a10 f8 x1) fun σ11 => some ((), σ11)
set_option maxHeartbeats 4000000 in
set_option maxRecDepth 100000 in
theorem mX0_write (l : Launch) (E : hmG) {x0 : Nat} {x1 : Int64} {σ σ' : hmS} {r : Unit} (h : fX0_write x0 x1 σ = some (r, σ')) : Met l yX0_write [Cond.code yX0_write cX0_write 3 none] { frames := 1, cells := 0, slots := 0, locals := 20 } (hmPc E [.ref x0, .long x1] σ) (hmQc E none σ') 0 0 (fun q => hmL E ≤ q) := by
  refine Met.ofW (cc := cX0_write) (maxL := 3) (ret := none) (by decide) rfl ?_
  intro p e s m args below meth c s₁ B hml hv
  obtain ⟨rfl, hK, hI⟩ := hv
  have S : CallFix p m c cX0_write 3 s ([.ref x0, .long x1] : List Value).toArray [] RX0 := ⟨B.exec, B.bytes, hml, findClass_of_methodNamed B.named, fun w hw => by cases hw⟩
  have hx := S.1
  have hb := S.2.1
  have hr := B.returns
  have hlocks := B.notSynchronized
  have hL : hmLo E [] := hmLo.nil
  have hl : lv_has ((lg_sl ([.ref x0, .long x1]) ++ List.replicate (3 - (lg_sl ([.ref x0, .long x1])).length) Slot.unset).toArray) 3 [(0, .ref x0), (1, .long x1)] := by exact lv_entry _ (Nat.le_of_ble_eq_true rfl)
  rw [lg_entry_eq]
  generalize (lg_sl ([.ref x0, .long x1]) ++ List.replicate (3 - (lg_sl ([.ref x0, .long x1])).length) Slot.unset).toArray = ls at hl ⊢
  generalize hRe : (headSpec [Cond.code yX0_write cX0_write 3 none] { frames := 1, cells := 0, slots := 0, locals := 20 }).room = R
  have hR1 : R.frames = 1 ∧ R.cells = 0 ∧ R.slots = 0 ∧ R.locals = 20 := by rw [← hRe]; exact ⟨rfl, rfl, rfl, rfl⟩
  clear hRe B hml
  generalize s.heap = H at hI ⊢
  generalize ([] : List Loc) = locs at hL ⊢
  have hmain := h
  clear h
  have h := hmain
  clear hmain
  unfold fX0_write at h
  refine lv_aload_n hx hb dX0_write_0 rfl (lv_at hl 0 rfl) ?_
  replace h := ob_s h
  obtain ⟨_, h2, h⟩ := h
  replace h := cb_s h
  obtain ⟨r4, σ3, h1, h⟩ := h
  refine hm_call (hm_runV (As := []) (rest := []) (ci := 2) S hK hI (obC_s h2) rfl (mX0_isThere l E h1) (pm_X0_26 hK) (pi_X0_isThere hK) (pl_X0_X0_isThere hK) ⟨by omega, by omega⟩ rfl hl.1 (Nat.le_of_ble_eq_true rfl) ⟨by omega, by omega⟩ dX0_write_1) hL (fun H locs hI hL => ?_)
  refine lv_if_eq (tgt := 17) hx hb dX0_write_4 (by decide) (fun c5 => ?_) (fun c5 => ?_)
  · replace h := it_p c5 h
    exact hm_vret hx hb hr hI hL h (by omega) (by omega) hlocks dX0_write_17
  · replace h := it_n c5 h
    refine lv_aload_n hx hb dX0_write_7 rfl (lv_at hl 0 rfl) ?_
    replace h := ob_s h
    obtain ⟨f6, h7, h⟩ := h
    refine hm_get S hK hI (pf_X0_13_2 hK) (gR_s h7) dX0_write_8 ?_
    refine lv_aload_n hx hb dX0_write_11 rfl (lv_at hl 0 rfl) ?_
    replace h := ob_s h
    obtain ⟨f8, h9, h⟩ := h
    refine hm_get S hK hI (pf_X0_18_2 hK) (gI_s h9) dX0_write_12 ?_
    refine lv_lload_n hx hb dX0_write_15 rfl (lv_at hl 1 rfl) ?_
    replace h := ob_s h
    obtain ⟨a10, rfl, h⟩ := h
    have hl : lv_has ls 3 [(0, .ref x0), (1, .long x1)] := hl
    replace h := ob_s h
    obtain ⟨σ11, h12, h⟩ := h
    refine hm_last S hK hI hL h12 dX0_write_16 (fun H locs hI hL => ?_)
    exact hm_vret hx hb hr hI hL h (by omega) (by omega) hlocks dX0_write_17

def fX7_put_J48 (x0 : Nat) (x1 : Int32) (x2 : Int32) (x3 : Int64)   (σ : hmS) : Option (Int32 × hmS) :=
  ob (gI σ x0 9 7) fun f1 => some (f1, σ)
def fX7_put_J33 (x0 : Nat) (x1 : Int32) (x2 : Int32) (x3 : Int64)   (σ : hmS) : Option (Int32 × hmS) :=
  ob (gI σ x0 9 7) fun f1 => if f1 = 0 then
    ob (gR σ x0 9 6) fun f4 => ob f4 fun a6 => ob (obC σ a6 2) fun _ => cb (fX0_write a6 x3 σ) fun _ σ9 => fX7_put_J48 x0 x1 x2 x3 σ9
  else
    fX7_put_J48 x0 x1 x2 x3 σ
def fX7_put (x0 : Nat) (x1 : Int32) (x2 : Int32) (x3 : Int64) (σ : hmS) : Option (Int32 × hmS) :=
  ob (obC σ x0 9) fun _ => cb (fX7_findFromPlace x0 x1 x2 σ) fun r4 σ3 => ob (wF σ3 x0 9 7 (.int r4)) fun σ5 => ob (gI σ5 x0 9 7) fun f7 => if f7 = 0 then
    ob (gR σ5 x0 9 6) fun f10 => ob f10 fun a12 => ob (gI σ5 a12 2 2) fun f13 => if f13 = 0 then
      fX7_put_J33 x0 x1 x2 x3 σ5
    else
      ob (wF σ5 x0 9 7 (.int (7 : Int32))) fun σ16 => fX7_put_J33 x0 x1 x2 x3 σ16
  else
    fX7_put_J33 x0 x1 x2 x3 σ5
set_option maxHeartbeats 4000000 in
set_option maxRecDepth 100000 in
theorem mX7_put (l : Launch) (E : hmG) {x0 : Nat} {x1 : Int32} {x2 : Int32} {x3 : Int64} {σ σ' : hmS} {r : Int32} (h : fX7_put x0 x1 x2 x3 σ = some (r, σ')) : Met l yX7_put [Cond.code yX7_put cX7_put 5 (some .int)] { frames := 5, cells := 0, slots := 0, locals := 119 } (hmPc E [.ref x0, .int x1, .int x2, .long x3] σ) (hmQc E (some (.int r)) σ') 0 0 (fun q => hmL E ≤ q) := by
  refine Met.ofW (cc := cX7_put) (maxL := 5) (ret := (some .int)) (by decide) rfl ?_
  intro p e s m args below meth c s₁ B hml hv
  obtain ⟨rfl, hK, hI⟩ := hv
  have S : CallFix p m c cX7_put 5 s ([.ref x0, .int x1, .int x2, .long x3] : List Value).toArray [] RX7 := ⟨B.exec, B.bytes, hml, findClass_of_methodNamed B.named, fun w hw => by cases hw⟩
  have hx := S.1
  have hb := S.2.1
  have hr := B.returns
  have hlocks := B.notSynchronized
  have hL : hmLo E [] := hmLo.nil
  have hl : lv_has ((lg_sl ([.ref x0, .int x1, .int x2, .long x3]) ++ List.replicate (5 - (lg_sl ([.ref x0, .int x1, .int x2, .long x3])).length) Slot.unset).toArray) 5 [(0, .ref x0), (1, .int x1), (2, .int x2), (3, .long x3)] := by exact lv_entry _ (Nat.le_of_ble_eq_true rfl)
  rw [lg_entry_eq]
  generalize (lg_sl ([.ref x0, .int x1, .int x2, .long x3]) ++ List.replicate (5 - (lg_sl ([.ref x0, .int x1, .int x2, .long x3])).length) Slot.unset).toArray = ls at hl ⊢
  generalize hRe : (headSpec [Cond.code yX7_put cX7_put 5 (some .int)] { frames := 5, cells := 0, slots := 0, locals := 119 }).room = R
  have hR1 : R.frames = 5 ∧ R.cells = 0 ∧ R.slots = 0 ∧ R.locals = 119 := by rw [← hRe]; exact ⟨rfl, rfl, rfl, rfl⟩
  clear hRe B hml
  generalize s.heap = H at hI ⊢
  generalize ([] : List Loc) = locs at hL ⊢
  have hmain := h
  clear h
  have hJ48 : ∀  (σ : hmS) (H : Heap) (locs : List Loc) (ls : Array Slot), fX7_put_J48 x0 x1 x2 x3   σ = some (r, σ') → hmI E σ H → hmLo E locs → lv_has ls 5 [(0, .ref x0)] → W p l e R s m ([.ref x0, .int x1, .int x2, .long x3] : List Value).toArray below meth c H locs 0 0 (MQ below (hmQc E (some (.int r)) σ') ([.ref x0, .int x1, .int x2, .long x3] : List Value).toArray s 0 0 (fun q => hmL E ≤ q)) (F0 m 48 ls []) := by
    intro  σ H locs ls h hI hL hl
    unfold fX7_put_J48 at h
    refine lv_aload_n hx hb dX7_put_48 rfl (lv_at hl 0 rfl) ?_
    replace h := ob_s h
    obtain ⟨f1, h2, h⟩ := h
    refine hm_get S hK hI (pf_X7_44_9 hK) (gI_s h2) dX7_put_49 ?_
    exact hm_iret hx hb hr hI hL h (by omega) (by omega) hlocks dX7_put_52
  have hJ33 : ∀  (σ : hmS) (H : Heap) (locs : List Loc) (ls : Array Slot), fX7_put_J33 x0 x1 x2 x3   σ = some (r, σ') → hmI E σ H → hmLo E locs → lv_has ls 5 [(0, .ref x0), (3, .long x3)] → W p l e R s m ([.ref x0, .int x1, .int x2, .long x3] : List Value).toArray below meth c H locs 0 0 (MQ below (hmQc E (some (.int r)) σ') ([.ref x0, .int x1, .int x2, .long x3] : List Value).toArray s 0 0 (fun q => hmL E ≤ q)) (F0 m 33 ls []) := by
    intro  σ H locs ls h hI hL hl
    unfold fX7_put_J33 at h
    refine lv_aload_n hx hb dX7_put_33 rfl (lv_at hl 0 rfl) ?_
    replace h := ob_s h
    obtain ⟨f1, h2, h⟩ := h
    refine hm_get S hK hI (pf_X7_44_9 hK) (gI_s h2) dX7_put_34 ?_
    refine lv_if_ne (tgt := 48) hx hb dX7_put_37 (by decide) (fun c3 => ?_) (fun c3 => ?_)
    · replace h := it_n c3 h
      exact hJ48 _ _ _ _ h hI hL (lv_sub hl [0] rfl)
    · replace h := it_p c3 h
      refine lv_aload_n hx hb dX7_put_40 rfl (lv_at hl 0 rfl) ?_
      replace h := ob_s h
      obtain ⟨f4, h5, h⟩ := h
      refine hm_get S hK hI (pf_X7_40_9 hK) (gR_s h5) dX7_put_41 ?_
      refine lv_lload_n hx hb dX7_put_44 rfl (lv_at hl 1 rfl) ?_
      replace h := ob_s h
      obtain ⟨a6, rfl, h⟩ := h
      have hl : lv_has ls 5 [(0, .ref x0), (3, .long x3)] := hl
      replace h := ob_s h
      obtain ⟨_, h8, h⟩ := h
      replace h := cb_s h
      obtain ⟨u0, σ9, h7, h⟩ := h
      refine hm_callv (hm_runV (As := [.long x3]) (rest := []) (ci := 2) S hK hI (obC_s h8) rfl (mX0_write l E h7) (pm_X7_177 hK) (pi_X0_write hK) (pl_X0_X0_write hK) ⟨by omega, by omega⟩ rfl hl.1 (Nat.le_of_ble_eq_true rfl) ⟨by omega, by omega⟩ dX7_put_45) hL (fun H locs hI hL => ?_)
      exact hJ48 _ _ _ _ h hI hL (lv_sub hl [0] rfl)
  have h := hmain
  clear hmain
  unfold fX7_put at h
  refine lv_aload_n hx hb dX7_put_0 rfl (lv_at hl 0 rfl) ?_
  refine lv_aload_n hx hb dX7_put_1 rfl (lv_at hl 0 rfl) ?_
  refine lv_iload_n hx hb dX7_put_2 rfl (lv_at hl 1 rfl) ?_
  refine lv_iload_n hx hb dX7_put_3 rfl (lv_at hl 2 rfl) ?_
  replace h := ob_s h
  obtain ⟨_, h2, h⟩ := h
  replace h := cb_s h
  obtain ⟨r4, σ3, h1, h⟩ := h
  refine hm_call (hm_runV (As := [.int x1, .int x2]) (rest := [.ref x0]) (ci := 9) S hK hI (obC_s h2) rfl (mX7_findFromPlace l E h1) (pm_X7_166 hK) (pi_X7_findFromPlace hK) (pl_X7_X7_findFromPlace hK) ⟨by omega, by omega⟩ rfl hl.1 (Nat.le_of_ble_eq_true rfl) ⟨by omega, by omega⟩ dX7_put_4) hL (fun H locs hI hL => ?_)
  replace h := ob_s h
  obtain ⟨σ5, h6, h⟩ := h
  refine hm_put S hK hI hL (pf_X7_44_9 hK) h6 ⟨rfl, rfl⟩ dX7_put_7 (fun H locs hI hL => ?_)
  refine lv_aload_n hx hb dX7_put_10 rfl (lv_at hl 0 rfl) ?_
  replace h := ob_s h
  obtain ⟨f7, h8, h⟩ := h
  refine hm_get S hK hI (pf_X7_44_9 hK) (gI_s h8) dX7_put_11 ?_
  refine lv_if_ne (tgt := 33) hx hb dX7_put_14 (by decide) (fun c9 => ?_) (fun c9 => ?_)
  · replace h := it_n c9 h
    exact hJ33 _ _ _ _ h hI hL (lv_sub hl [0, 3] rfl)
  · replace h := it_p c9 h
    refine lv_aload_n hx hb dX7_put_17 rfl (lv_at hl 0 rfl) ?_
    replace h := ob_s h
    obtain ⟨f10, h11, h⟩ := h
    refine hm_get S hK hI (pf_X7_40_9 hK) (gR_s h11) dX7_put_18 ?_
    replace h := ob_s h
    obtain ⟨a12, rfl, h⟩ := h
    have hl : lv_has ls 5 [(0, .ref x0), (1, .int x1), (2, .int x2), (3, .long x3)] := hl
    replace h := ob_s h
    obtain ⟨f13, h14, h⟩ := h
    refine hm_get S hK hI (pf_X7_174_2 hK) (gI_s h14) dX7_put_21 ?_
    refine lv_if_eq (tgt := 33) hx hb dX7_put_24 (by decide) (fun c15 => ?_) (fun c15 => ?_)
    · replace h := it_p c15 h
      exact hJ33 _ _ _ _ h hI hL (lv_sub hl [0, 3] rfl)
    · replace h := it_n c15 h
      refine lv_aload_n hx hb dX7_put_27 rfl (lv_at hl 0 rfl) ?_
      refine lv_bipush (v := 7) hx hb dX7_put_28 (by decide) ?_
      replace h := ob_s h
      obtain ⟨σ16, h17, h⟩ := h
      refine hm_put S hK hI hL (pf_X7_44_9 hK) h17 ⟨rfl, rfl⟩ dX7_put_30 (fun H locs hI hL => ?_)
      exact hJ33 _ _ _ _ h hI hL (lv_sub hl [0, 3] rfl)

def fX7_holdThat_J104 (x0 : Nat) (x1 : Int32) (x2 : Int32) (x3 : Int32)  (v4 : Nat) (v5 : Option Nat) (v6 : Option Nat) (σ : hmS) : Option (Int32 × hmS) :=
  if v6 = (some v4) then
    oc v5
      (some ((4 : Int32), σ))
      (fun a2 => ob (gR σ x0 9 2) fun f3 => ob f3 fun a5 => ob (sR σ a5 x3 (some a2)) fun σ6 => some ((0 : Int32), σ6))
  else
    some ((8 : Int32), σ)
def fX7_holdThat_J89 (x0 : Nat) (x1 : Int32) (x2 : Int32) (x3 : Int32) (K54 : Nat → Option Nat → Option Nat → Int32 → hmS → Option (Int32 × hmS)) (v4 : Nat) (v6 : Nat) (v7 : Int32) (w0 : Option Nat) (σ : hmS) : Option (Int32 × hmS) :=
  ob (gR σ v6 8 2) fun f1 => K54 v4 w0 f1 (v7 + (1 : Int32)) σ
def fX7_holdThat_B54 (x0 : Nat) (x1 : Int32) (x2 : Int32) (x3 : Int32)  (K54 : Nat → Option Nat → Option Nat → Int32 → hmS → Option (Int32 × hmS)) (v4 : Nat) (v5 : Option Nat) (v6 : Option Nat) (v7 : Int32) (σ : hmS) : Option (Int32 × hmS) :=
  oc v6
    (fX7_holdThat_J104 x0 x1 x2 x3 v4 v5 none σ)
    (fun a1 => if (some a1) = (some v4) then
      fX7_holdThat_J104 x0 x1 x2 x3 v4 v5 (some a1) σ
    else
      if (12 : Int32) ≤ v7 then
        fX7_holdThat_J104 x0 x1 x2 x3 v4 v5 (some a1) σ
      else
        oc v5
          (fX7_holdThat_J89 x0 x1 x2 x3 K54 v4 a1 v7 none σ)
          (fun a4 => ob (obC σ a4 7) fun _ => cb (fX5_aroundAt a4 (some a1) σ) fun r8 σ7 => fX7_holdThat_J89 x0 x1 x2 x3 K54 v4 a1 v7 r8 σ7))
def fX7_holdThat_L54 (x0 : Nat) (x1 : Int32) (x2 : Int32) (x3 : Int32)  : Nat → Nat → Option Nat → Option Nat → Int32 → hmS → Option (Int32 × hmS)
  | 0 => fun _ _ _ _ _ => none
  | n + 1 => fX7_holdThat_B54 x0 x1 x2 x3  (fX7_holdThat_L54 x0 x1 x2 x3  n)
def fX7_holdThat (x0 : Nat) (x1 : Int32) (x2 : Int32) (x3 : Int32) (σ : hmS) : Option (Int32 × hmS) :=
  ob (obC σ x0 9) fun _ => cb (fX7_typeAt x0 x2 σ) fun r4 σ3 => cb (fX7_isPlace x1 σ3) fun r7 σ6 => if r7 = 0 then
    some ((-1 : Int32), σ6)
  else
    oc r4
      (some ((-1 : Int32), σ6))
      (fun a9 => cb (fX7_isPlace x3 σ6) fun r12 σ11 => if r12 = 0 then
        some ((-1 : Int32), σ11)
      else
        ob (gR σ11 x0 9 2) fun f14 => ob f14 fun a16 => ob (aR σ11 a16 x1) fun e17 => oc e17
          (some ((9 : Int32), σ11))
          (fun a19 => ob (gR σ11 a19 7 0) fun f20 => fX7_holdThat_L54 x0 x1 x2 x3 20 a9 (some a19) f20 (0 : Int32) σ11))
set_option maxHeartbeats 4000000 in
set_option maxRecDepth 100000 in
theorem mX7_holdThat (l : Launch) (E : hmG) {x0 : Nat} {x1 : Int32} {x2 : Int32} {x3 : Int32} {σ σ' : hmS} {r : Int32} (h : fX7_holdThat x0 x1 x2 x3 σ = some (r, σ')) : Met l yX7_holdThat [Cond.code yX7_holdThat cX7_holdThat 8 (some .int)] { frames := 2, cells := 0, slots := 0, locals := 44 } (hmPc E [.ref x0, .int x1, .int x2, .int x3] σ) (hmQc E (some (.int r)) σ') 0 0 (fun q => hmL E ≤ q) := by
  refine Met.ofW (cc := cX7_holdThat) (maxL := 8) (ret := (some .int)) (by decide) rfl ?_
  intro p e s m args below meth c s₁ B hml hv
  obtain ⟨rfl, hK, hI⟩ := hv
  have S : CallFix p m c cX7_holdThat 8 s ([.ref x0, .int x1, .int x2, .int x3] : List Value).toArray [] RX7 := ⟨B.exec, B.bytes, hml, findClass_of_methodNamed B.named, fun w hw => by cases hw⟩
  have hx := S.1
  have hb := S.2.1
  have hr := B.returns
  have hlocks := B.notSynchronized
  have hL : hmLo E [] := hmLo.nil
  have hl : lv_has ((lg_sl ([.ref x0, .int x1, .int x2, .int x3]) ++ List.replicate (8 - (lg_sl ([.ref x0, .int x1, .int x2, .int x3])).length) Slot.unset).toArray) 8 [(0, .ref x0), (1, .int x1), (2, .int x2), (3, .int x3)] := by exact lv_entry _ (Nat.le_of_ble_eq_true rfl)
  rw [lg_entry_eq]
  generalize (lg_sl ([.ref x0, .int x1, .int x2, .int x3]) ++ List.replicate (8 - (lg_sl ([.ref x0, .int x1, .int x2, .int x3])).length) Slot.unset).toArray = ls at hl ⊢
  generalize hRe : (headSpec [Cond.code yX7_holdThat cX7_holdThat 8 (some .int)] { frames := 2, cells := 0, slots := 0, locals := 44 }).room = R
  have hR1 : R.frames = 2 ∧ R.cells = 0 ∧ R.slots = 0 ∧ R.locals = 44 := by rw [← hRe]; exact ⟨rfl, rfl, rfl, rfl⟩
  clear hRe B hml
  generalize s.heap = H at hI ⊢
  generalize ([] : List Loc) = locs at hL ⊢
  have hmain := h
  clear h
  have hJ104 : ∀ (v4 : Nat) (v5 : Option Nat) (v6 : Option Nat) (σ : hmS) (H : Heap) (locs : List Loc) (ls : Array Slot), fX7_holdThat_J104 x0 x1 x2 x3  v4 v5 v6 σ = some (r, σ') → hmI E σ H → hmLo E locs → lv_has ls 8 [(0, .ref x0), (3, .int x3), (4, .ref v4), (5, va_rf v5), (6, va_rf v6)] → W p l e R s m ([.ref x0, .int x1, .int x2, .int x3] : List Value).toArray below meth c H locs 0 0 (MQ below (hmQc E (some (.int r)) σ') ([.ref x0, .int x1, .int x2, .int x3] : List Value).toArray s 0 0 (fun q => hmL E ≤ q)) (F0 m 104 ls []) := by
    intro v4 v5 v6 σ H locs ls h hI hL hl
    unfold fX7_holdThat_J104 at h
    refine hm_aload hx hb dX7_holdThat_104 (lv_at hl 4 rfl) ?_
    refine lv_aload hx hb dX7_holdThat_106 (lv_at hl 2 rfl) ?_
    refine lv_acmp_eq (rx := v6) (ry := (some v4)) (tgt := 114) hx hb dX7_holdThat_108 (by decide) (fun c1 => ?_) (fun c1 => ?_)
    · replace h := it_p c1 h
      refine hm_aload hx hb dX7_holdThat_114 (lv_at hl 3 rfl) ?_
      cases v5 with
      | none =>
        replace h := oc_n h
        have hl : lv_has ls 8 [(0, .ref x0), (3, .int x3), (4, .ref v4), (5, va_rf none), (6, va_rf v6)] := hl
        refine lv_ifnonnullN hx hb dX7_holdThat_116 ?_
        refine lv_iconst (v := 4) hx hb dX7_holdThat_119 (by decide) ?_
        exact hm_iret hx hb hr hI hL h (by omega) (by omega) hlocks dX7_holdThat_120
      | some a2 =>
        replace h := oc_s h
        have hl : lv_has ls 8 [(0, .ref x0), (3, .int x3), (4, .ref v4), (5, .ref a2), (6, va_rf v6)] := hl
        refine lv_ifnonnull (tgt := 121) hx hb dX7_holdThat_116 (by decide) ?_
        refine lv_aload_n hx hb dX7_holdThat_121 rfl (lv_at hl 0 rfl) ?_
        replace h := ob_s h
        obtain ⟨f3, h4, h⟩ := h
        refine hm_get S hK hI (pf_X7_21_9 hK) (gR_s h4) dX7_holdThat_122 ?_
        refine lv_iload_n hx hb dX7_holdThat_125 rfl (lv_at hl 1 rfl) ?_
        refine lv_aload hx hb dX7_holdThat_126 (lv_at hl 3 rfl) ?_
        replace h := ob_s h
        obtain ⟨a5, rfl, h⟩ := h
        have hl : lv_has ls 8 [(0, .ref x0), (3, .int x3), (4, .ref v4), (5, .ref a2), (6, va_rf v6)] := hl
        replace h := ob_s h
        obtain ⟨σ6, h7, h⟩ := h
        refine hm_aast (r := (some a2)) S hK hI hL h7 dX7_holdThat_128 (fun H locs hI hL => ?_)
        refine lv_iconst (v := 0) hx hb dX7_holdThat_129 (by decide) ?_
        exact hm_iret hx hb hr hI hL h (by omega) (by omega) hlocks dX7_holdThat_130
    · replace h := it_n c1 h
      refine lv_bipush (v := 8) hx hb dX7_holdThat_111 (by decide) ?_
      exact hm_iret hx hb hr hI hL h (by omega) (by omega) hlocks dX7_holdThat_113
  have hB54 : ∀ (K54 : Nat → Option Nat → Option Nat → Int32 → hmS → Option (Int32 × hmS)), (∀ (v4 : Nat) (v5 : Option Nat) (v6 : Option Nat) (v7 : Int32) (σ : hmS) (H : Heap) (locs : List Loc) (ls : Array Slot), K54 v4 v5 v6 v7 σ = some (r, σ') → hmI E σ H → hmLo E locs → lv_has ls 8 [(0, .ref x0), (3, .int x3), (4, .ref v4), (5, va_rf v5), (6, va_rf v6), (7, .int v7)] → W p l e R s m ([.ref x0, .int x1, .int x2, .int x3] : List Value).toArray below meth c H locs 0 0 (MQ below (hmQc E (some (.int r)) σ') ([.ref x0, .int x1, .int x2, .int x3] : List Value).toArray s 0 0 (fun q => hmL E ≤ q)) (F0 m 54 ls [])) → ∀ (v4 : Nat) (v5 : Option Nat) (v6 : Option Nat) (v7 : Int32) (σ : hmS) (H : Heap) (locs : List Loc) (ls : Array Slot), fX7_holdThat_B54 x0 x1 x2 x3  K54 v4 v5 v6 v7 σ = some (r, σ') → hmI E σ H → hmLo E locs → lv_has ls 8 [(0, .ref x0), (3, .int x3), (4, .ref v4), (5, va_rf v5), (6, va_rf v6), (7, .int v7)] → W p l e R s m ([.ref x0, .int x1, .int x2, .int x3] : List Value).toArray below meth c H locs 0 0 (MQ below (hmQc E (some (.int r)) σ') ([.ref x0, .int x1, .int x2, .int x3] : List Value).toArray s 0 0 (fun q => hmL E ≤ q)) (F0 m 54 ls []) := by
    intro K54 hk54
    have hJ89 : ∀ (v4 : Nat) (v6 : Nat) (v7 : Int32) (w0 : Option Nat) (σ : hmS) (H : Heap) (locs : List Loc) (ls : Array Slot), fX7_holdThat_J89 x0 x1 x2 x3 K54 v4 v6 v7 w0 σ = some (r, σ') → hmI E σ H → hmLo E locs → lv_has ls 8 [(0, .ref x0), (3, .int x3), (4, .ref v4), (6, .ref v6), (7, .int v7)] → W p l e R s m ([.ref x0, .int x1, .int x2, .int x3] : List Value).toArray below meth c H locs 0 0 (MQ below (hmQc E (some (.int r)) σ') ([.ref x0, .int x1, .int x2, .int x3] : List Value).toArray s 0 0 (fun q => hmL E ≤ q)) (F0 m 89 ls [va_rf w0]) := by
      intro v4 v6 v7 w0 σ H locs ls h hI hL hl
      unfold fX7_holdThat_J89 at h
      refine hm_astore (lv' := [(5, va_rf w0), (0, .ref x0), (3, .int x3), (4, .ref v4), (6, .ref v6), (7, .int v7)]) hx hb dX7_holdThat_89 hl (by decide) rfl (fun ls hl => ?_)
      refine lv_aload hx hb dX7_holdThat_91 (lv_at hl 4 rfl) ?_
      replace h := ob_s h
      obtain ⟨f1, h2, h⟩ := h
      refine hm_get S hK hI (pf_X7_216_8 hK) (gR_s h2) dX7_holdThat_93 ?_
      refine hm_astore (lv' := [(6, va_rf f1), (5, va_rf w0), (0, .ref x0), (3, .int x3), (4, .ref v4), (7, .int v7)]) hx hb dX7_holdThat_96 hl (by decide) (by cases w0 <;> rfl) (fun ls hl => ?_)
      refine lv_iinc (v := (v7 + (1 : Int32))) (lv' := [(7, .int (v7 + (1 : Int32))), (6, va_rf f1), (5, va_rf w0), (0, .ref x0), (3, .int x3), (4, .ref v4)]) hx hb dX7_holdThat_98 hl (k := 5) rfl rfl (by decide) (by cases f1 <;> rfl) (fun ls hl => ?_)
      refine lv_goto (tgt := 54) hx hb dX7_holdThat_101 (by decide) ?_
      exact hk54 _ _ _ _ _ _ _ _ h hI hL (lv_sub hl [3, 4, 5, 2, 1, 0] rfl)
    intro v4 v5 v6 v7 σ H locs ls h hI hL hl
    unfold fX7_holdThat_B54 at h
    refine hm_aload hx hb dX7_holdThat_54 (lv_at hl 4 rfl) ?_
    cases v6 with
    | none =>
      replace h := oc_n h
      have hl : lv_has ls 8 [(0, .ref x0), (3, .int x3), (4, .ref v4), (5, va_rf v5), (6, va_rf none), (7, .int v7)] := hl
      refine lv_ifnullN (tgt := 104) hx hb dX7_holdThat_56 (by decide) ?_
      exact hJ104 _ _ _ _ _ _ _ h hI hL (lv_sub hl [0, 1, 2, 3, 4] rfl)
    | some a1 =>
      replace h := oc_s h
      have hl : lv_has ls 8 [(0, .ref x0), (3, .int x3), (4, .ref v4), (5, va_rf v5), (6, .ref a1), (7, .int v7)] := hl
      refine lv_ifnull hx hb dX7_holdThat_56 ?_
      refine lv_aload hx hb dX7_holdThat_59 (lv_at hl 4 rfl) ?_
      refine lv_aload hx hb dX7_holdThat_61 (lv_at hl 2 rfl) ?_
      refine lv_acmp_eq (rx := (some a1)) (ry := (some v4)) (tgt := 104) hx hb dX7_holdThat_63 (by decide) (fun c2 => ?_) (fun c2 => ?_)
      · replace h := it_p c2 h
        exact hJ104 _ _ _ _ _ _ _ h hI hL (lv_sub hl [0, 1, 2, 3, 4] rfl)
      · replace h := it_n c2 h
        refine lv_iload hx hb dX7_holdThat_66 (lv_at hl 5 rfl) ?_
        refine lv_bipush (v := 12) hx hb dX7_holdThat_68 (by decide) ?_
        refine lv_icmp_ge (tgt := 104) hx hb dX7_holdThat_70 (by decide) (fun c3 => ?_) (fun c3 => ?_)
        · replace h := it_p c3 h
          exact hJ104 _ _ _ _ _ _ _ h hI hL (lv_sub hl [0, 1, 2, 3, 4] rfl)
        · replace h := it_n c3 h
          refine hm_aload hx hb dX7_holdThat_73 (lv_at hl 3 rfl) ?_
          cases v5 with
          | none =>
            replace h := oc_n h
            have hl : lv_has ls 8 [(0, .ref x0), (3, .int x3), (4, .ref v4), (5, va_rf none), (6, .ref a1), (7, .int v7)] := hl
            refine lv_ifnonnullN hx hb dX7_holdThat_75 ?_
            refine hm_null hx hb dX7_holdThat_78 ?_
            refine lv_goto (tgt := 89) hx hb dX7_holdThat_79 (by decide) ?_
            exact hJ89 _ _ _ _ _ _ _ _ h hI hL (lv_sub hl [0, 1, 2, 4, 5] rfl)
          | some a4 =>
            replace h := oc_s h
            have hl : lv_has ls 8 [(0, .ref x0), (3, .int x3), (4, .ref v4), (5, .ref a4), (6, .ref a1), (7, .int v7)] := hl
            refine lv_ifnonnull (tgt := 82) hx hb dX7_holdThat_75 (by decide) ?_
            refine lv_aload hx hb dX7_holdThat_82 (lv_at hl 3 rfl) ?_
            refine lv_aload hx hb dX7_holdThat_84 (lv_at hl 4 rfl) ?_
            replace h := ob_s h
            obtain ⟨_, h6, h⟩ := h
            replace h := cb_s h
            obtain ⟨r8, σ7, h5, h⟩ := h
            refine hm_call (hm_runV (As := [.ref a1]) (rest := []) (ci := 7) S hK hI (obC_s h6) rfl (mX5_aroundAt l E h5) (pm_X7_152 hK) (pi_X5_aroundAt hK) (pl_X5_X5_aroundAt hK) ⟨by omega, by omega⟩ rfl hl.1 (Nat.le_of_ble_eq_true rfl) ⟨by omega, by omega⟩ dX7_holdThat_86) hL (fun H locs hI hL => ?_)
            exact hJ89 _ _ _ _ _ _ _ _ h hI hL (lv_sub hl [0, 1, 2, 4, 5] rfl)
  have hL54 : ∀ n : Nat, ∀ (v4 : Nat) (v5 : Option Nat) (v6 : Option Nat) (v7 : Int32) (σ : hmS) (H : Heap) (locs : List Loc) (ls : Array Slot), fX7_holdThat_L54 x0 x1 x2 x3  n v4 v5 v6 v7 σ = some (r, σ') → hmI E σ H → hmLo E locs → lv_has ls 8 [(0, .ref x0), (3, .int x3), (4, .ref v4), (5, va_rf v5), (6, va_rf v6), (7, .int v7)] → W p l e R s m ([.ref x0, .int x1, .int x2, .int x3] : List Value).toArray below meth c H locs 0 0 (MQ below (hmQc E (some (.int r)) σ') ([.ref x0, .int x1, .int x2, .int x3] : List Value).toArray s 0 0 (fun q => hmL E ≤ q)) (F0 m 54 ls []) := by
    intro n
    induction n with
    | zero =>
      intro v4 v5 v6 v7 σ H locs ls h
      have h : none = some (r, σ') := h
      cases h
    | succ n ih => exact hB54 _ ih
  have h := hmain
  clear hmain
  unfold fX7_holdThat at h
  refine lv_aload_n hx hb dX7_holdThat_0 rfl (lv_at hl 0 rfl) ?_
  refine lv_iload_n hx hb dX7_holdThat_1 rfl (lv_at hl 2 rfl) ?_
  replace h := ob_s h
  obtain ⟨_, h2, h⟩ := h
  replace h := cb_s h
  obtain ⟨r4, σ3, h1, h⟩ := h
  refine hm_call (hm_runV (As := [.int x2]) (rest := []) (ci := 9) S hK hI (obC_s h2) rfl (mX7_typeAt l E h1) (pm_X7_47 hK) (pi_X7_typeAt hK) (pl_X7_X7_typeAt hK) ⟨by omega, by omega⟩ rfl hl.1 (Nat.le_of_ble_eq_true rfl) ⟨by omega, by omega⟩ dX7_holdThat_2) hL (fun H locs hI hL => ?_)
  refine hm_astore (lv' := [(4, va_rf r4), (0, .ref x0), (1, .int x1), (2, .int x2), (3, .int x3)]) hx hb dX7_holdThat_5 hl (by decide) rfl (fun ls hl => ?_)
  refine lv_iload_n hx hb dX7_holdThat_7 rfl (lv_at hl 2 rfl) ?_
  replace h := cb_s h
  obtain ⟨r7, σ6, h5, h⟩ := h
  refine hm_call (hm_runS (As := [.int x1]) (rest := []) S hK hI (mX7_isPlace l E h5) (pm_X7_139 hK) (ps_X7_isPlace hK) ⟨by omega, by omega⟩ rfl hl.1 (Nat.le_of_ble_eq_true rfl) ⟨by omega, by omega⟩ dX7_holdThat_8) hL (fun H locs hI hL => ?_)
  refine lv_if_eq (tgt := 26) hx hb dX7_holdThat_11 (by decide) (fun c8 => ?_) (fun c8 => ?_)
  · replace h := it_p c8 h
    refine lv_iconst (v := -1) hx hb dX7_holdThat_26 (by decide) ?_
    exact hm_iret hx hb hr hI hL h (by omega) (by omega) hlocks dX7_holdThat_27
  · replace h := it_n c8 h
    refine hm_aload hx hb dX7_holdThat_14 (lv_at hl 0 rfl) ?_
    cases r4 with
    | none =>
      replace h := oc_n h
      have hl : lv_has ls 8 [(4, va_rf none), (0, .ref x0), (1, .int x1), (2, .int x2), (3, .int x3)] := hl
      refine lv_ifnullN (tgt := 26) hx hb dX7_holdThat_16 (by decide) ?_
      refine lv_iconst (v := -1) hx hb dX7_holdThat_26 (by decide) ?_
      exact hm_iret hx hb hr hI hL h (by omega) (by omega) hlocks dX7_holdThat_27
    | some a9 =>
      replace h := oc_s h
      have hl : lv_has ls 8 [(4, .ref a9), (0, .ref x0), (1, .int x1), (2, .int x2), (3, .int x3)] := hl
      refine lv_ifnull hx hb dX7_holdThat_16 ?_
      refine lv_iload_n hx hb dX7_holdThat_19 rfl (lv_at hl 4 rfl) ?_
      replace h := cb_s h
      obtain ⟨r12, σ11, h10, h⟩ := h
      refine hm_call (hm_runS (As := [.int x3]) (rest := []) S hK hI (mX7_isPlace l E h10) (pm_X7_139 hK) (ps_X7_isPlace hK) ⟨by omega, by omega⟩ rfl hl.1 (Nat.le_of_ble_eq_true rfl) ⟨by omega, by omega⟩ dX7_holdThat_20) hL (fun H locs hI hL => ?_)
      refine lv_if_ne (tgt := 28) hx hb dX7_holdThat_23 (by decide) (fun c13 => ?_) (fun c13 => ?_)
      · replace h := it_n c13 h
        refine lv_aload_n hx hb dX7_holdThat_28 rfl (lv_at hl 1 rfl) ?_
        replace h := ob_s h
        obtain ⟨f14, h15, h⟩ := h
        refine hm_get S hK hI (pf_X7_21_9 hK) (gR_s h15) dX7_holdThat_29 ?_
        refine lv_iload_n hx hb dX7_holdThat_32 rfl (lv_at hl 2 rfl) ?_
        replace h := ob_s h
        obtain ⟨a16, rfl, h⟩ := h
        have hl : lv_has ls 8 [(4, .ref a9), (0, .ref x0), (1, .int x1), (2, .int x2), (3, .int x3)] := hl
        replace h := ob_s h
        obtain ⟨e17, h18, h⟩ := h
        refine hm_aald S hK hI h18 dX7_holdThat_33 ?_
        refine hm_astore (lv' := [(5, va_rf e17), (4, .ref a9), (0, .ref x0), (1, .int x1), (2, .int x2), (3, .int x3)]) hx hb dX7_holdThat_34 hl (by decide) rfl (fun ls hl => ?_)
        refine hm_aload hx hb dX7_holdThat_36 (lv_at hl 0 rfl) ?_
        cases e17 with
        | none =>
          replace h := oc_n h
          have hl : lv_has ls 8 [(5, va_rf none), (4, .ref a9), (0, .ref x0), (1, .int x1), (2, .int x2), (3, .int x3)] := hl
          refine lv_ifnonnullN hx hb dX7_holdThat_38 ?_
          refine lv_bipush (v := 9) hx hb dX7_holdThat_41 (by decide) ?_
          exact hm_iret hx hb hr hI hL h (by omega) (by omega) hlocks dX7_holdThat_43
        | some a19 =>
          replace h := oc_s h
          have hl : lv_has ls 8 [(5, .ref a19), (4, .ref a9), (0, .ref x0), (1, .int x1), (2, .int x2), (3, .int x3)] := hl
          refine lv_ifnonnull (tgt := 44) hx hb dX7_holdThat_38 (by decide) ?_
          refine lv_aload hx hb dX7_holdThat_44 (lv_at hl 0 rfl) ?_
          replace h := ob_s h
          obtain ⟨f20, h21, h⟩ := h
          refine hm_get S hK hI (pf_X7_142_7 hK) (gR_s h21) dX7_holdThat_46 ?_
          refine hm_astore (lv' := [(6, va_rf f20), (5, .ref a19), (4, .ref a9), (0, .ref x0), (1, .int x1), (2, .int x2), (3, .int x3)]) hx hb dX7_holdThat_49 hl (by decide) rfl (fun ls hl => ?_)
          refine lv_iconst (v := 0) hx hb dX7_holdThat_51 (by decide) ?_
          refine lv_istore (lv' := [(7, .int (0 : Int32)), (6, va_rf f20), (5, .ref a19), (4, .ref a9), (0, .ref x0), (1, .int x1), (2, .int x2), (3, .int x3)]) hx hb dX7_holdThat_52 hl (by decide) (by cases f20 <;> rfl) (fun ls hl => ?_)
          exact hL54 20 _ _ _ _ _ _ _ _ h hI hL (lv_sub hl [4, 7, 3, 2, 1, 0] rfl)
      · replace h := it_p c13 h
        refine lv_iconst (v := -1) hx hb dX7_holdThat_26 (by decide) ?_
        exact hm_iret hx hb hr hI hL h (by omega) (by omega) hlocks dX7_holdThat_27

def fX7_that (x0 : Nat) (x1 : Int32) (x2 : Int32) (x3 : Int32) (σ : hmS) : Option (Int32 × hmS) :=
  ob (obC σ x0 9) fun _ => cb (fX7_holdThat x0 x1 x2 x3 σ) fun r4 σ3 => ob (wF σ3 x0 9 7 (.int r4)) fun σ5 => ob (gI σ5 x0 9 7) fun f7 => some (f7, σ5)
set_option maxHeartbeats 4000000 in
set_option maxRecDepth 100000 in
theorem mX7_that (l : Launch) (E : hmG) {x0 : Nat} {x1 : Int32} {x2 : Int32} {x3 : Int32} {σ σ' : hmS} {r : Int32} (h : fX7_that x0 x1 x2 x3 σ = some (r, σ')) : Met l yX7_that [Cond.code yX7_that cX7_that 4 (some .int)] { frames := 3, cells := 0, slots := 0, locals := 71 } (hmPc E [.ref x0, .int x1, .int x2, .int x3] σ) (hmQc E (some (.int r)) σ') 0 0 (fun q => hmL E ≤ q) := by
  refine Met.ofW (cc := cX7_that) (maxL := 4) (ret := (some .int)) (by decide) rfl ?_
  intro p e s m args below meth c s₁ B hml hv
  obtain ⟨rfl, hK, hI⟩ := hv
  have S : CallFix p m c cX7_that 4 s ([.ref x0, .int x1, .int x2, .int x3] : List Value).toArray [] RX7 := ⟨B.exec, B.bytes, hml, findClass_of_methodNamed B.named, fun w hw => by cases hw⟩
  have hx := S.1
  have hb := S.2.1
  have hr := B.returns
  have hlocks := B.notSynchronized
  have hL : hmLo E [] := hmLo.nil
  have hl : lv_has ((lg_sl ([.ref x0, .int x1, .int x2, .int x3]) ++ List.replicate (4 - (lg_sl ([.ref x0, .int x1, .int x2, .int x3])).length) Slot.unset).toArray) 4 [(0, .ref x0), (1, .int x1), (2, .int x2), (3, .int x3)] := by exact lv_entry _ (Nat.le_of_ble_eq_true rfl)
  rw [lg_entry_eq]
  generalize (lg_sl ([.ref x0, .int x1, .int x2, .int x3]) ++ List.replicate (4 - (lg_sl ([.ref x0, .int x1, .int x2, .int x3])).length) Slot.unset).toArray = ls at hl ⊢
  generalize hRe : (headSpec [Cond.code yX7_that cX7_that 4 (some .int)] { frames := 3, cells := 0, slots := 0, locals := 71 }).room = R
  have hR1 : R.frames = 3 ∧ R.cells = 0 ∧ R.slots = 0 ∧ R.locals = 71 := by rw [← hRe]; exact ⟨rfl, rfl, rfl, rfl⟩
  clear hRe B hml
  generalize s.heap = H at hI ⊢
  generalize ([] : List Loc) = locs at hL ⊢
  have hmain := h
  clear h
  have h := hmain
  clear hmain
  unfold fX7_that at h
  refine lv_aload_n hx hb dX7_that_0 rfl (lv_at hl 0 rfl) ?_
  refine lv_aload_n hx hb dX7_that_1 rfl (lv_at hl 0 rfl) ?_
  refine lv_iload_n hx hb dX7_that_2 rfl (lv_at hl 1 rfl) ?_
  refine lv_iload_n hx hb dX7_that_3 rfl (lv_at hl 2 rfl) ?_
  refine lv_iload_n hx hb dX7_that_4 rfl (lv_at hl 3 rfl) ?_
  replace h := ob_s h
  obtain ⟨_, h2, h⟩ := h
  replace h := cb_s h
  obtain ⟨r4, σ3, h1, h⟩ := h
  refine hm_call (hm_runV (As := [.int x1, .int x2, .int x3]) (rest := [.ref x0]) (ci := 9) S hK hI (obC_s h2) rfl (mX7_holdThat l E h1) (pm_X7_181 hK) (pi_X7_holdThat hK) (pl_X7_X7_holdThat hK) ⟨by omega, by omega⟩ rfl hl.1 (Nat.le_of_ble_eq_true rfl) ⟨by omega, by omega⟩ dX7_that_5) hL (fun H locs hI hL => ?_)
  replace h := ob_s h
  obtain ⟨σ5, h6, h⟩ := h
  refine hm_put S hK hI hL (pf_X7_44_9 hK) h6 ⟨rfl, rfl⟩ dX7_that_8 (fun H locs hI hL => ?_)
  refine lv_aload_n hx hb dX7_that_11 rfl (lv_at hl 0 rfl) ?_
  replace h := ob_s h
  obtain ⟨f7, h8, h⟩ := h
  refine hm_get S hK hI (pf_X7_44_9 hK) (gI_s h8) dX7_that_12 ?_
  exact hm_iret hx hb hr hI hL h (by omega) (by omega) hlocks dX7_that_15

def fX7_constant_J21 (x0 : Nat) (x1 : Int32) (x2 : Int32)   (σ : hmS) : Option (Int64 × hmS) :=
  ob (wF σ x0 9 7 (.int (-1 : Int32))) fun σ1 => some ((0 : Int64), σ1)
def fX7_constant (x0 : Nat) (x1 : Int32) (x2 : Int32) (σ : hmS) : Option (Int64 × hmS) :=
  ob (obC σ x0 9) fun _ => cb (fX7_typeAt x0 x1 σ) fun r4 σ3 => oc r4
    (fX7_constant_J21 x0 x1 x2 σ3)
    (fun a5 => ob (gR σ3 a5 8 7) fun f6 => ob f6 fun a8 => ob (obC σ3 a8 3) fun _ => cb (fX1_isStatic a8 x2 σ3) fun r12 σ11 => if r12 = 0 then
      fX7_constant_J21 x0 x1 x2 σ11
    else
      ob (wF σ11 x0 9 7 (.int (0 : Int32))) fun σ14 => ob (gR σ14 a5 8 7) fun f16 => ob f16 fun a18 => ob (gR σ14 a18 3 1) fun f19 => ob f19 fun a21 => ob (aL σ14 a21 x2) fun e22 => some (e22, σ14))
set_option maxHeartbeats 4000000 in
set_option maxRecDepth 100000 in
theorem mX7_constant (l : Launch) (E : hmG) {x0 : Nat} {x1 : Int32} {x2 : Int32} {σ σ' : hmS} {r : Int64} (h : fX7_constant x0 x1 x2 σ = some (r, σ')) : Met l yX7_constant [Cond.code yX7_constant cX7_constant 4 (some .long)] { frames := 2, cells := 0, slots := 0, locals := 42 } (hmPc E [.ref x0, .int x1, .int x2] σ) (hmQc E (some (.long r)) σ') 0 0 (fun q => hmL E ≤ q) := by
  refine Met.ofW (cc := cX7_constant) (maxL := 4) (ret := (some .long)) (by decide) rfl ?_
  intro p e s m args below meth c s₁ B hml hv
  obtain ⟨rfl, hK, hI⟩ := hv
  have S : CallFix p m c cX7_constant 4 s ([.ref x0, .int x1, .int x2] : List Value).toArray [] RX7 := ⟨B.exec, B.bytes, hml, findClass_of_methodNamed B.named, fun w hw => by cases hw⟩
  have hx := S.1
  have hb := S.2.1
  have hr := B.returns
  have hlocks := B.notSynchronized
  have hL : hmLo E [] := hmLo.nil
  have hl : lv_has ((lg_sl ([.ref x0, .int x1, .int x2]) ++ List.replicate (4 - (lg_sl ([.ref x0, .int x1, .int x2])).length) Slot.unset).toArray) 4 [(0, .ref x0), (1, .int x1), (2, .int x2)] := by exact lv_entry _ (Nat.le_of_ble_eq_true rfl)
  rw [lg_entry_eq]
  generalize (lg_sl ([.ref x0, .int x1, .int x2]) ++ List.replicate (4 - (lg_sl ([.ref x0, .int x1, .int x2])).length) Slot.unset).toArray = ls at hl ⊢
  generalize hRe : (headSpec [Cond.code yX7_constant cX7_constant 4 (some .long)] { frames := 2, cells := 0, slots := 0, locals := 42 }).room = R
  have hR1 : R.frames = 2 ∧ R.cells = 0 ∧ R.slots = 0 ∧ R.locals = 42 := by rw [← hRe]; exact ⟨rfl, rfl, rfl, rfl⟩
  clear hRe B hml
  generalize s.heap = H at hI ⊢
  generalize ([] : List Loc) = locs at hL ⊢
  have hmain := h
  clear h
  have hJ21 : ∀  (σ : hmS) (H : Heap) (locs : List Loc) (ls : Array Slot), fX7_constant_J21 x0 x1 x2   σ = some (r, σ') → hmI E σ H → hmLo E locs → lv_has ls 4 [(0, .ref x0)] → W p l e R s m ([.ref x0, .int x1, .int x2] : List Value).toArray below meth c H locs 0 0 (MQ below (hmQc E (some (.long r)) σ') ([.ref x0, .int x1, .int x2] : List Value).toArray s 0 0 (fun q => hmL E ≤ q)) (F0 m 21 ls []) := by
    intro  σ H locs ls h hI hL hl
    unfold fX7_constant_J21 at h
    refine lv_aload_n hx hb dX7_constant_21 rfl (lv_at hl 0 rfl) ?_
    refine lv_iconst (v := -1) hx hb dX7_constant_22 (by decide) ?_
    replace h := ob_s h
    obtain ⟨σ1, h2, h⟩ := h
    refine hm_put S hK hI hL (pf_X7_44_9 hK) h2 ⟨rfl, rfl⟩ dX7_constant_23 (fun H locs hI hL => ?_)
    refine lv_lconst (v := 0) hx hb dX7_constant_26 (by decide) ?_
    exact hm_lret hx hb hr hI hL h (by omega) (by omega) hlocks dX7_constant_27
  have h := hmain
  clear hmain
  unfold fX7_constant at h
  refine lv_aload_n hx hb dX7_constant_0 rfl (lv_at hl 0 rfl) ?_
  refine lv_iload_n hx hb dX7_constant_1 rfl (lv_at hl 1 rfl) ?_
  replace h := ob_s h
  obtain ⟨_, h2, h⟩ := h
  replace h := cb_s h
  obtain ⟨r4, σ3, h1, h⟩ := h
  refine hm_call (hm_runV (As := [.int x1]) (rest := []) (ci := 9) S hK hI (obC_s h2) rfl (mX7_typeAt l E h1) (pm_X7_47 hK) (pi_X7_typeAt hK) (pl_X7_X7_typeAt hK) ⟨by omega, by omega⟩ rfl hl.1 (Nat.le_of_ble_eq_true rfl) ⟨by omega, by omega⟩ dX7_constant_2) hL (fun H locs hI hL => ?_)
  refine hm_astore_n (lv' := [(3, va_rf r4), (0, .ref x0), (1, .int x1), (2, .int x2)]) hx hb dX7_constant_5 rfl hl (by decide) rfl (fun ls hl => ?_)
  refine hm_aload_n hx hb dX7_constant_6 rfl (lv_at hl 0 rfl) ?_
  cases r4 with
  | none =>
    replace h := oc_n h
    have hl : lv_has ls 4 [(3, va_rf none), (0, .ref x0), (1, .int x1), (2, .int x2)] := hl
    refine lv_ifnullN (tgt := 21) hx hb dX7_constant_7 (by decide) ?_
    exact hJ21 _ _ _ _ h hI hL (lv_sub hl [1] rfl)
  | some a5 =>
    replace h := oc_s h
    have hl : lv_has ls 4 [(3, .ref a5), (0, .ref x0), (1, .int x1), (2, .int x2)] := hl
    refine lv_ifnull hx hb dX7_constant_7 ?_
    refine lv_aload_n hx hb dX7_constant_10 rfl (lv_at hl 0 rfl) ?_
    replace h := ob_s h
    obtain ⟨f6, h7, h⟩ := h
    refine hm_get S hK hI (pf_X7_66_8 hK) (gR_s h7) dX7_constant_11 ?_
    refine lv_iload_n hx hb dX7_constant_14 rfl (lv_at hl 3 rfl) ?_
    replace h := ob_s h
    obtain ⟨a8, rfl, h⟩ := h
    have hl : lv_has ls 4 [(3, .ref a5), (0, .ref x0), (1, .int x1), (2, .int x2)] := hl
    replace h := ob_s h
    obtain ⟨_, h10, h⟩ := h
    replace h := cb_s h
    obtain ⟨r12, σ11, h9, h⟩ := h
    refine hm_call (hm_runV (As := [.int x2]) (rest := []) (ci := 3) S hK hI (obC_s h10) rfl (mX1_isStatic l E h9) (pm_X7_184 hK) (pi_X1_isStatic hK) (pl_X1_X1_isStatic hK) ⟨by omega, by omega⟩ rfl hl.1 (Nat.le_of_ble_eq_true rfl) ⟨by omega, by omega⟩ dX7_constant_15) hL (fun H locs hI hL => ?_)
    refine lv_if_ne (tgt := 28) hx hb dX7_constant_18 (by decide) (fun c13 => ?_) (fun c13 => ?_)
    · replace h := it_n c13 h
      refine lv_aload_n hx hb dX7_constant_28 rfl (lv_at hl 1 rfl) ?_
      refine lv_iconst (v := 0) hx hb dX7_constant_29 (by decide) ?_
      replace h := ob_s h
      obtain ⟨σ14, h15, h⟩ := h
      refine hm_put S hK hI hL (pf_X7_44_9 hK) h15 ⟨rfl, rfl⟩ dX7_constant_30 (fun H locs hI hL => ?_)
      refine lv_aload_n hx hb dX7_constant_33 rfl (lv_at hl 0 rfl) ?_
      replace h := ob_s h
      obtain ⟨f16, h17, h⟩ := h
      refine hm_get S hK hI (pf_X7_66_8 hK) (gR_s h17) dX7_constant_34 ?_
      replace h := ob_s h
      obtain ⟨a18, rfl, h⟩ := h
      have hl : lv_has ls 4 [(3, .ref a5), (0, .ref x0), (1, .int x1), (2, .int x2)] := hl
      replace h := ob_s h
      obtain ⟨f19, h20, h⟩ := h
      refine hm_get S hK hI (pf_X7_187_3 hK) (gR_s h20) dX7_constant_37 ?_
      refine lv_iload_n hx hb dX7_constant_40 rfl (lv_at hl 3 rfl) ?_
      replace h := ob_s h
      obtain ⟨a21, rfl, h⟩ := h
      have hl : lv_has ls 4 [(3, .ref a5), (0, .ref x0), (1, .int x1), (2, .int x2)] := hl
      replace h := ob_s h
      obtain ⟨e22, h23, h⟩ := h
      refine hm_lald S hK hI h23 dX7_constant_41 ?_
      exact hm_lret hx hb hr hI hL h (by omega) (by omega) hlocks dX7_constant_42
    · replace h := it_p c13 h
      exact hJ21 _ _ _ _ h hI hL (lv_sub hl [1] rfl)

def fX2_init (x0 : Nat) (x1 : Option Nat) (x2 : Option Nat) (x3 : Option Nat) (σ : hmS) : Option (Unit × hmS) :=
  ob (wF σ x0 4 0 (va_rf x1)) fun σ1 => ob (wF σ1 x0 4 1 (va_rf x2)) fun σ3 => ob (wF σ3 x0 4 2 (va_rf x3)) fun σ5 => some ((), σ5)
set_option maxHeartbeats 4000000 in
set_option maxRecDepth 100000 in
theorem mX2_init (l : Launch) (E : hmG) {x0 : Nat} {x1 : Option Nat} {x2 : Option Nat} {x3 : Option Nat} {σ σ' : hmS} {r : Unit} (h : fX2_init x0 x1 x2 x3 σ = some (r, σ')) : Met l yX2_init [Cond.code yX2_init cX2_init 4 none] { frames := 1, cells := 0, slots := 0, locals := 20 } (hmPc E [.ref x0, va_rf x1, va_rf x2, va_rf x3] σ) (hmQc E none σ') 0 0 (fun q => hmL E ≤ q) := by
  refine Met.ofW (cc := cX2_init) (maxL := 4) (ret := none) (by decide) rfl ?_
  intro p e s m args below meth c s₁ B hml hv
  obtain ⟨rfl, hK, hI⟩ := hv
  have S : CallFix p m c cX2_init 4 s ([.ref x0, va_rf x1, va_rf x2, va_rf x3] : List Value).toArray [] RX2 := ⟨B.exec, B.bytes, hml, findClass_of_methodNamed B.named, fun w hw => by cases hw⟩
  have hx := S.1
  have hb := S.2.1
  have hr := B.returns
  have hlocks := B.notSynchronized
  have hin : meth.name = "<init>" := (name_of_methodNamed B.named B.method).1
  have hL : hmLo E [] := hmLo.nil
  have hl : lv_has ((lg_sl ([.ref x0, va_rf x1, va_rf x2, va_rf x3]) ++ List.replicate (4 - (lg_sl ([.ref x0, va_rf x1, va_rf x2, va_rf x3])).length) Slot.unset).toArray) 4 [(0, .ref x0), (1, va_rf x1), (2, va_rf x2), (3, va_rf x3)] := by cases x1 <;> cases x2 <;> cases x3 <;> exact lv_entry _ (Nat.le_of_ble_eq_true rfl)
  rw [lg_entry_eq]
  generalize (lg_sl ([.ref x0, va_rf x1, va_rf x2, va_rf x3]) ++ List.replicate (4 - (lg_sl ([.ref x0, va_rf x1, va_rf x2, va_rf x3])).length) Slot.unset).toArray = ls at hl ⊢
  generalize hRe : (headSpec [Cond.code yX2_init cX2_init 4 none] { frames := 1, cells := 0, slots := 0, locals := 20 }).room = R
  have hR1 : R.frames = 1 ∧ R.cells = 0 ∧ R.slots = 0 ∧ R.locals = 20 := by rw [← hRe]; exact ⟨rfl, rfl, rfl, rfl⟩
  clear hRe B hml
  generalize s.heap = H at hI ⊢
  generalize ([] : List Loc) = locs at hL ⊢
  have hmain := h
  clear h
  have h := hmain
  clear hmain
  unfold fX2_init at h
  refine lv_aload_n hx hb dX2_init_0 rfl (lv_at hl 0 rfl) ?_
  refine hm_objInit (i1 := 730) (i2 := 27) (i3 := 28) S hK (by decide +kernel) (by decide +kernel) (by decide +kernel) hl.1 dX2_init_1 (by omega) (Nat.le_of_ble_eq_true rfl) (by omega) ?_
  refine lv_aload_n hx hb dX2_init_4 rfl (lv_at hl 0 rfl) ?_
  refine hm_aload_n hx hb dX2_init_5 rfl (lv_at hl 1 rfl) ?_
  replace h := ob_s h
  obtain ⟨σ1, h2, h⟩ := h
  refine hm_putF S hK hI hL hin (pf_X2_7_4 hK) h2 rf_fit dX2_init_6 (fun H locs hI hL => ?_)
  refine lv_aload_n hx hb dX2_init_9 rfl (lv_at hl 0 rfl) ?_
  refine hm_aload_n hx hb dX2_init_10 rfl (lv_at hl 2 rfl) ?_
  replace h := ob_s h
  obtain ⟨σ3, h4, h⟩ := h
  refine hm_putF S hK hI hL hin (pf_X2_13_4 hK) h4 rf_fit dX2_init_11 (fun H locs hI hL => ?_)
  refine lv_aload_n hx hb dX2_init_14 rfl (lv_at hl 0 rfl) ?_
  refine hm_aload_n hx hb dX2_init_15 rfl (lv_at hl 3 rfl) ?_
  replace h := ob_s h
  obtain ⟨σ5, h6, h⟩ := h
  refine hm_putF S hK hI hL hin (pf_X2_17_4 hK) h6 rf_fitA dX2_init_16 (fun H locs hI hL => ?_)
  exact hm_vret hx hb hr hI hL h (by omega) (by omega) hlocks dX2_init_19

def fX7_lambda_J72 (E : hmG) (x0 : Nat) (x1 : Int32) (x2 : Int32)  (v4 : Nat) (w0 : Option Nat) (σ : hmS) : Option (Int32 × hmS) :=
  ob (gR σ x0 9 4) fun f1 => ob (gI σ x0 9 5) fun f3 => nw σ (.inr (4, [.null, .null, .null])) fun q5 σ6 => ob (gR σ6 v4 8 8) fun f9 => ob f9 fun a11 => ob (obC σ6 a11 6) fun _ => cb (fX4_copyOfFirst E a11 x2 σ6) fun r15 σ14 => cb (fX2_init q5 (some v4) w0 r15 σ14) fun _ σ17 => ob f1 fun a18 => ob (sR σ17 a18 f3 (some q5)) fun σ19 => ob (gI σ19 x0 9 5) fun f21 => ob (wF σ19 x0 9 5 (.int (f21 + (1 : Int32)))) fun σ23 => ob (gI σ23 x0 9 5) fun f25 => some ((f25 - (1 : Int32)), σ23)
def fX7_lambda (E : hmG) (x0 : Nat) (x1 : Int32) (x2 : Int32) (σ : hmS) : Option (Int32 × hmS) :=
  cb (fX7_isPlace x1 σ) fun r3 σ2 => if r3 = 0 then
    some ((-1 : Int32), σ2)
  else
    ob (gR σ2 x0 9 2) fun f5 => ob f5 fun a7 => ob (aR σ2 a7 x1) fun e8 => oc e8
      (some ((-3 : Int32), σ2))
      (fun a10 => ob (gR σ2 a10 7 0) fun f11 => if x2 < 0 then
        some ((-1 : Int32), σ2)
      else
        ob f11 fun a14 => ob (gR σ2 a14 8 8) fun f15 => ob f15 fun a17 => ob (gI σ2 a17 6 3) fun f18 => if x2 ≤ f18 then
          ob (gI σ2 x0 9 5) fun f21 => if f21 < (6 : Int32) then
            ob (gI σ2 a14 8 9) fun f24 => if f24 = 0 then
              fX7_lambda_J72 E x0 x1 x2 a14 (some a10) σ2
            else
              fX7_lambda_J72 E x0 x1 x2 a14 none σ2
          else
            some ((-2 : Int32), σ2)
        else
          some ((-1 : Int32), σ2))
set_option maxHeartbeats 4000000 in
set_option maxRecDepth 100000 in
theorem mX7_lambda (l : Launch) (E : hmG) {x0 : Nat} {x1 : Int32} {x2 : Int32} {σ σ' : hmS} {r : Int32} (h : fX7_lambda E x0 x1 x2 σ = some (r, σ')) : Met l yX7_lambda [Cond.code yX7_lambda cX7_lambda 6 (some .int)] { frames := 3, cells := 2, slots := 11, locals := 84 } (hmPc E [.ref x0, .int x1, .int x2] σ) (hmQc E (some (.int r)) σ') 2 11 (fun q => hmL E ≤ q) := by
  refine Met.ofW (cc := cX7_lambda) (maxL := 6) (ret := (some .int)) (by decide) rfl ?_
  intro p e s m args below meth c s₁ B hml hv
  obtain ⟨rfl, hK, hI⟩ := hv
  have S : CallFix p m c cX7_lambda 6 s ([.ref x0, .int x1, .int x2] : List Value).toArray [] RX7 := ⟨B.exec, B.bytes, hml, findClass_of_methodNamed B.named, fun w hw => by cases hw⟩
  have hx := S.1
  have hb := S.2.1
  have hr := B.returns
  have hlocks := B.notSynchronized
  have hL : hmLo E [] := hmLo.nil
  have hl : lv_has ((lg_sl ([.ref x0, .int x1, .int x2]) ++ List.replicate (6 - (lg_sl ([.ref x0, .int x1, .int x2])).length) Slot.unset).toArray) 6 [(0, .ref x0), (1, .int x1), (2, .int x2)] := by exact lv_entry _ (Nat.le_of_ble_eq_true rfl)
  rw [lg_entry_eq]
  generalize (lg_sl ([.ref x0, .int x1, .int x2]) ++ List.replicate (6 - (lg_sl ([.ref x0, .int x1, .int x2])).length) Slot.unset).toArray = ls at hl ⊢
  generalize hRe : (headSpec [Cond.code yX7_lambda cX7_lambda 6 (some .int)] { frames := 3, cells := 2, slots := 11, locals := 84 }).room = R
  have hR1 : R.frames = 3 ∧ R.cells = 2 ∧ R.slots = 11 ∧ R.locals = 84 := by rw [← hRe]; exact ⟨rfl, rfl, rfl, rfl⟩
  clear hRe B hml
  generalize s.heap = H at hI ⊢
  generalize ([] : List Loc) = locs at hL ⊢
  have hmain := h
  clear h
  have hJ72 : ∀ (v4 : Nat) (w0 : Option Nat) (σ : hmS) (H : Heap) (locs : List Loc) (ls : Array Slot), fX7_lambda_J72 E x0 x1 x2  v4 w0 σ = some (r, σ') → hmI E σ H → hmLo E locs → lv_has ls 6 [(0, .ref x0), (2, .int x2), (4, .ref v4)] → W p l e R s m ([.ref x0, .int x1, .int x2] : List Value).toArray below meth c H locs 0 0 (MQ below (hmQc E (some (.int r)) σ') ([.ref x0, .int x1, .int x2] : List Value).toArray s 2 11 (fun q => hmL E ≤ q)) (F0 m 72 ls [va_rf w0]) := by
    intro v4 w0 σ H locs ls h hI hL hl
    unfold fX7_lambda_J72 at h
    refine hm_astore (lv' := [(5, va_rf w0), (0, .ref x0), (2, .int x2), (4, .ref v4)]) hx hb dX7_lambda_72 hl (by decide) rfl (fun ls hl => ?_)
    refine lv_aload_n hx hb dX7_lambda_74 rfl (lv_at hl 1 rfl) ?_
    replace h := ob_s h
    obtain ⟨f1, h2, h⟩ := h
    refine hm_get S hK hI (pf_X7_30_9 hK) (gR_s h2) dX7_lambda_75 ?_
    refine lv_aload_n hx hb dX7_lambda_78 rfl (lv_at hl 1 rfl) ?_
    replace h := ob_s h
    obtain ⟨f3, h4, h⟩ := h
    refine hm_get S hK hI (pf_X7_34_9 hK) (gI_s h4) dX7_lambda_79 ?_
    replace h := nw_s h
    obtain ⟨q5, σ6, h7, h8, h⟩ := h
    refine hm_new S hK hI (pn_X7_28 hK) h7 h8 (by omega) (by omega) dX7_lambda_82 (fun H hI => ?_)
    refine lv_dup hx hb dX7_lambda_85 rfl ?_
    refine lv_aload hx hb dX7_lambda_86 (lv_at hl 3 rfl) ?_
    refine hm_aload hx hb dX7_lambda_88 (lv_at hl 0 rfl) ?_
    refine lv_aload hx hb dX7_lambda_90 (lv_at hl 3 rfl) ?_
    replace h := ob_s h
    obtain ⟨f9, h10, h⟩ := h
    refine hm_get S hK hI (pf_X7_83_8 hK) (gR_s h10) dX7_lambda_92 ?_
    refine lv_iload_n hx hb dX7_lambda_95 rfl (lv_at hl 2 rfl) ?_
    replace h := ob_s h
    obtain ⟨a11, rfl, h⟩ := h
    have hl : lv_has ls 6 [(5, va_rf w0), (0, .ref x0), (2, .int x2), (4, .ref v4)] := hl
    replace h := ob_s h
    obtain ⟨_, h13, h⟩ := h
    replace h := cb_s h
    obtain ⟨r15, σ14, h12, h⟩ := h
    refine hm_call (hm_runV (As := [.int x2]) (rest := [va_rf w0, .ref v4, .ref q5, .ref q5, .int f3, va_rf f1]) (ci := 6) S hK hI (obC_s h13) rfl (mX4_copyOfFirst l E h12) (pm_X7_190 hK) (pi_X4_copyOfFirst hK) (pl_X4_X4_copyOfFirst hK) ⟨by omega, by omega⟩ rfl hl.1 (by cases w0 <;> cases f1 <;> exact Nat.le_of_ble_eq_true rfl) ⟨by omega, by omega⟩ dX7_lambda_96) hL (fun H locs hI hL => ?_)
    replace h := cb_s h
    obtain ⟨u0, σ17, h16, h⟩ := h
    refine hm_callv (hm_runI (As := [.ref v4, va_rf w0, va_rf r15]) (rest := [.ref q5, .int f3, va_rf f1]) S hK hI (mX2_init l E h16) (pm_X7_194 hK) rfl (pi_X2_init hK) ⟨by omega, by omega⟩ rfl hl.1 (by cases f1 <;> exact Nat.le_of_ble_eq_true rfl) ⟨by omega, by omega⟩ dX7_lambda_99) hL (fun H locs hI hL => ?_)
    replace h := ob_s h
    obtain ⟨a18, rfl, h⟩ := h
    have hl : lv_has ls 6 [(5, va_rf w0), (0, .ref x0), (2, .int x2), (4, .ref v4)] := hl
    replace h := ob_s h
    obtain ⟨σ19, h20, h⟩ := h
    refine hm_aast (r := (some q5)) S hK hI hL h20 dX7_lambda_102 (fun H locs hI hL => ?_)
    refine lv_aload_n hx hb dX7_lambda_103 rfl (lv_at hl 1 rfl) ?_
    refine lv_dup hx hb dX7_lambda_104 rfl ?_
    replace h := ob_s h
    obtain ⟨f21, h22, h⟩ := h
    refine hm_get S hK hI (pf_X7_34_9 hK) (gI_s h22) dX7_lambda_105 ?_
    refine lv_iconst (v := 1) hx hb dX7_lambda_108 (by decide) ?_
    refine lv_iadd hx hb dX7_lambda_109 ?_
    replace h := ob_s h
    obtain ⟨σ23, h24, h⟩ := h
    refine hm_put S hK hI hL (pf_X7_34_9 hK) h24 ⟨rfl, rfl⟩ dX7_lambda_110 (fun H locs hI hL => ?_)
    refine lv_aload_n hx hb dX7_lambda_113 rfl (lv_at hl 1 rfl) ?_
    replace h := ob_s h
    obtain ⟨f25, h26, h⟩ := h
    refine hm_get S hK hI (pf_X7_34_9 hK) (gI_s h26) dX7_lambda_114 ?_
    refine lv_iconst (v := 1) hx hb dX7_lambda_117 (by decide) ?_
    refine lv_isub hx hb dX7_lambda_118 ?_
    exact hm_iret hx hb hr hI hL h (by omega) (by omega) hlocks dX7_lambda_119
  have h := hmain
  clear hmain
  unfold fX7_lambda at h
  refine lv_iload_n hx hb dX7_lambda_0 rfl (lv_at hl 1 rfl) ?_
  replace h := cb_s h
  obtain ⟨r3, σ2, h1, h⟩ := h
  refine hm_call (hm_runS (As := [.int x1]) (rest := []) S hK hI (mX7_isPlace l E h1) (pm_X7_139 hK) (ps_X7_isPlace hK) ⟨by omega, by omega⟩ rfl hl.1 (Nat.le_of_ble_eq_true rfl) ⟨by omega, by omega⟩ dX7_lambda_1) hL (fun H locs hI hL => ?_)
  refine lv_if_ne (tgt := 9) hx hb dX7_lambda_4 (by decide) (fun c4 => ?_) (fun c4 => ?_)
  · replace h := it_n c4 h
    refine lv_aload_n hx hb dX7_lambda_9 rfl (lv_at hl 0 rfl) ?_
    replace h := ob_s h
    obtain ⟨f5, h6, h⟩ := h
    refine hm_get S hK hI (pf_X7_21_9 hK) (gR_s h6) dX7_lambda_10 ?_
    refine lv_iload_n hx hb dX7_lambda_13 rfl (lv_at hl 1 rfl) ?_
    replace h := ob_s h
    obtain ⟨a7, rfl, h⟩ := h
    have hl : lv_has ls 6 [(0, .ref x0), (1, .int x1), (2, .int x2)] := hl
    replace h := ob_s h
    obtain ⟨e8, h9, h⟩ := h
    refine hm_aald S hK hI h9 dX7_lambda_14 ?_
    refine hm_astore_n (lv' := [(3, va_rf e8), (0, .ref x0), (1, .int x1), (2, .int x2)]) hx hb dX7_lambda_15 rfl hl (by decide) rfl (fun ls hl => ?_)
    refine hm_aload_n hx hb dX7_lambda_16 rfl (lv_at hl 0 rfl) ?_
    cases e8 with
    | none =>
      replace h := oc_n h
      have hl : lv_has ls 6 [(3, va_rf none), (0, .ref x0), (1, .int x1), (2, .int x2)] := hl
      refine lv_ifnonnullN hx hb dX7_lambda_17 ?_
      refine lv_bipush (v := -3) hx hb dX7_lambda_20 (by decide) ?_
      exact hm_iret hx hb hr hI hL h (by omega) (by omega) hlocks dX7_lambda_22
    | some a10 =>
      replace h := oc_s h
      have hl : lv_has ls 6 [(3, .ref a10), (0, .ref x0), (1, .int x1), (2, .int x2)] := hl
      refine lv_ifnonnull (tgt := 23) hx hb dX7_lambda_17 (by decide) ?_
      refine lv_aload_n hx hb dX7_lambda_23 rfl (lv_at hl 0 rfl) ?_
      replace h := ob_s h
      obtain ⟨f11, h12, h⟩ := h
      refine hm_get S hK hI (pf_X7_142_7 hK) (gR_s h12) dX7_lambda_24 ?_
      refine hm_astore (lv' := [(4, va_rf f11), (3, .ref a10), (0, .ref x0), (1, .int x1), (2, .int x2)]) hx hb dX7_lambda_27 hl (by decide) rfl (fun ls hl => ?_)
      refine lv_iload_n hx hb dX7_lambda_29 rfl (lv_at hl 4 rfl) ?_
      refine lv_if_lt (tgt := 45) hx hb dX7_lambda_30 (by decide) (fun c13 => ?_) (fun c13 => ?_)
      · replace h := it_p c13 h
        refine lv_iconst (v := -1) hx hb dX7_lambda_45 (by decide) ?_
        exact hm_iret hx hb hr hI hL h (by omega) (by omega) hlocks dX7_lambda_46
      · replace h := it_n c13 h
        refine lv_iload_n hx hb dX7_lambda_33 rfl (lv_at hl 4 rfl) ?_
        refine hm_aload hx hb dX7_lambda_34 (lv_at hl 0 rfl) ?_
        replace h := ob_s h
        obtain ⟨a14, rfl, h⟩ := h
        have hl : lv_has ls 6 [(4, .ref a14), (3, .ref a10), (0, .ref x0), (1, .int x1), (2, .int x2)] := hl
        replace h := ob_s h
        obtain ⟨f15, h16, h⟩ := h
        refine hm_get S hK hI (pf_X7_83_8 hK) (gR_s h16) dX7_lambda_36 ?_
        replace h := ob_s h
        obtain ⟨a17, rfl, h⟩ := h
        have hl : lv_has ls 6 [(4, .ref a14), (3, .ref a10), (0, .ref x0), (1, .int x1), (2, .int x2)] := hl
        replace h := ob_s h
        obtain ⟨f18, h19, h⟩ := h
        refine hm_get S hK hI (pf_X7_87_6 hK) (gI_s h19) dX7_lambda_39 ?_
        refine lv_icmp_le (tgt := 47) hx hb dX7_lambda_42 (by decide) (fun c20 => ?_) (fun c20 => ?_)
        · replace h := it_p c20 h
          refine lv_aload_n hx hb dX7_lambda_47 rfl (lv_at hl 2 rfl) ?_
          replace h := ob_s h
          obtain ⟨f21, h22, h⟩ := h
          refine hm_get S hK hI (pf_X7_34_9 hK) (gI_s h22) dX7_lambda_48 ?_
          refine lv_bipush (v := 6) hx hb dX7_lambda_51 (by decide) ?_
          refine lv_icmp_lt (tgt := 59) hx hb dX7_lambda_53 (by decide) (fun c23 => ?_) (fun c23 => ?_)
          · replace h := it_p c23 h
            refine lv_aload hx hb dX7_lambda_59 (lv_at hl 0 rfl) ?_
            replace h := ob_s h
            obtain ⟨f24, h25, h⟩ := h
            refine hm_get S hK hI (pf_X7_106_8 hK) (gI_s h25) dX7_lambda_61 ?_
            refine lv_if_eq (tgt := 71) hx hb dX7_lambda_64 (by decide) (fun c26 => ?_) (fun c26 => ?_)
            · replace h := it_p c26 h
              refine lv_aload_n hx hb dX7_lambda_71 rfl (lv_at hl 1 rfl) ?_
              exact hJ72 _ _ _ _ _ _ h hI hL (lv_sub hl [2, 4, 0] rfl)
            · replace h := it_n c26 h
              refine hm_null hx hb dX7_lambda_67 ?_
              refine lv_goto (tgt := 72) hx hb dX7_lambda_68 (by decide) ?_
              exact hJ72 _ _ _ _ _ _ h hI hL (lv_sub hl [2, 4, 0] rfl)
          · replace h := it_n c23 h
            refine lv_bipush (v := -2) hx hb dX7_lambda_56 (by decide) ?_
            exact hm_iret hx hb hr hI hL h (by omega) (by omega) hlocks dX7_lambda_58
        · replace h := it_n c20 h
          refine lv_iconst (v := -1) hx hb dX7_lambda_45 (by decide) ?_
          exact hm_iret hx hb hr hI hL h (by omega) (by omega) hlocks dX7_lambda_46
  · replace h := it_p c4 h
    refine lv_iconst (v := -1) hx hb dX7_lambda_7 (by decide) ?_
    exact hm_iret hx hb hr hI hL h (by omega) (by omega) hlocks dX7_lambda_8

def fX7_lambdaAt (x0 : Nat) (x1 : Int32) (σ : hmS) : Option (Option Nat × hmS) :=
  if x1 < 0 then
    some (none, σ)
  else
    ob (gI σ x0 9 5) fun f2 => if f2 ≤ x1 then
      some (none, σ)
    else
      ob (gR σ x0 9 4) fun f5 => ob f5 fun a7 => ob (aR σ a7 x1) fun e8 => some (e8, σ)
set_option maxHeartbeats 4000000 in
set_option maxRecDepth 100000 in
theorem mX7_lambdaAt (l : Launch) (E : hmG) {x0 : Nat} {x1 : Int32} {σ σ' : hmS} {r : Option Nat} (h : fX7_lambdaAt x0 x1 σ = some (r, σ')) : Met l yX7_lambdaAt [Cond.code yX7_lambdaAt cX7_lambdaAt 2 (some (.object "InnerCaptures$Lambda"))] { frames := 0, cells := 0, slots := 0, locals := 0 } (hmPc E [.ref x0, .int x1] σ) (hmQc E (some (va_rf r)) σ') 0 0 (fun q => hmL E ≤ q) := by
  refine Met.ofW (cc := cX7_lambdaAt) (maxL := 2) (ret := (some (.object "InnerCaptures$Lambda"))) (by decide) rfl ?_
  intro p e s m args below meth c s₁ B hml hv
  obtain ⟨rfl, hK, hI⟩ := hv
  have S : CallFix p m c cX7_lambdaAt 2 s ([.ref x0, .int x1] : List Value).toArray [] RX7 := ⟨B.exec, B.bytes, hml, findClass_of_methodNamed B.named, fun w hw => by cases hw⟩
  have hx := S.1
  have hb := S.2.1
  have hr := B.returns
  have hlocks := B.notSynchronized
  have hL : hmLo E [] := hmLo.nil
  have hl : lv_has ((lg_sl ([.ref x0, .int x1]) ++ List.replicate (2 - (lg_sl ([.ref x0, .int x1])).length) Slot.unset).toArray) 2 [(0, .ref x0), (1, .int x1)] := by exact lv_entry _ (Nat.le_of_ble_eq_true rfl)
  rw [lg_entry_eq]
  generalize (lg_sl ([.ref x0, .int x1]) ++ List.replicate (2 - (lg_sl ([.ref x0, .int x1])).length) Slot.unset).toArray = ls at hl ⊢
  generalize hRe : (headSpec [Cond.code yX7_lambdaAt cX7_lambdaAt 2 (some (.object "InnerCaptures$Lambda"))] { frames := 0, cells := 0, slots := 0, locals := 0 }).room = R
  have hR1 : R.frames = 0 ∧ R.cells = 0 ∧ R.slots = 0 ∧ R.locals = 0 := by rw [← hRe]; exact ⟨rfl, rfl, rfl, rfl⟩
  clear hRe B hml
  generalize s.heap = H at hI ⊢
  generalize ([] : List Loc) = locs at hL ⊢
  have hmain := h
  clear h
  have h := hmain
  clear hmain
  unfold fX7_lambdaAt at h
  refine lv_iload_n hx hb dX7_lambdaAt_0 rfl (lv_at hl 1 rfl) ?_
  refine lv_if_lt (tgt := 21) hx hb dX7_lambdaAt_1 (by decide) (fun c1 => ?_) (fun c1 => ?_)
  · replace h := it_p c1 h
    refine hm_null hx hb dX7_lambdaAt_21 ?_
    exact hm_aret hx hb hr (Or.inl ⟨_, rfl⟩) hI hL h (by omega) (by omega) hlocks dX7_lambdaAt_22
  · replace h := it_n c1 h
    refine lv_iload_n hx hb dX7_lambdaAt_4 rfl (lv_at hl 1 rfl) ?_
    refine lv_aload_n hx hb dX7_lambdaAt_5 rfl (lv_at hl 0 rfl) ?_
    replace h := ob_s h
    obtain ⟨f2, h3, h⟩ := h
    refine hm_get S hK hI (pf_X7_34_9 hK) (gI_s h3) dX7_lambdaAt_6 ?_
    refine lv_icmp_ge (tgt := 21) hx hb dX7_lambdaAt_9 (by decide) (fun c4 => ?_) (fun c4 => ?_)
    · replace h := it_p c4 h
      refine hm_null hx hb dX7_lambdaAt_21 ?_
      exact hm_aret hx hb hr (Or.inl ⟨_, rfl⟩) hI hL h (by omega) (by omega) hlocks dX7_lambdaAt_22
    · replace h := it_n c4 h
      refine lv_aload_n hx hb dX7_lambdaAt_12 rfl (lv_at hl 0 rfl) ?_
      replace h := ob_s h
      obtain ⟨f5, h6, h⟩ := h
      refine hm_get S hK hI (pf_X7_30_9 hK) (gR_s h6) dX7_lambdaAt_13 ?_
      refine lv_iload_n hx hb dX7_lambdaAt_16 rfl (lv_at hl 1 rfl) ?_
      replace h := ob_s h
      obtain ⟨a7, rfl, h⟩ := h
      have hl : lv_has ls 2 [(0, .ref x0), (1, .int x1)] := hl
      replace h := ob_s h
      obtain ⟨e8, h9, h⟩ := h
      refine hm_aald S hK hI h9 dX7_lambdaAt_17 ?_
      refine lv_goto (tgt := 22) hx hb dX7_lambdaAt_18 (by decide) ?_
      exact hm_aret hx hb hr (Or.inl ⟨_, rfl⟩) hI hL h (by omega) (by omega) hlocks dX7_lambdaAt_22

def fX7_findFromLambda (x0 : Nat) (x1 : Int32) (x2 : Int32) (σ : hmS) : Option (Int32 × hmS) :=
  ob (obC σ x0 9) fun _ => cb (fX7_lambdaAt x0 x1 σ) fun r4 σ3 => oc r4
    (some ((-1 : Int32), σ3))
    (fun a5 => cb (fX7_isName x2 σ3) fun r8 σ7 => if r8 = 0 then
      some ((-1 : Int32), σ7)
    else
      ob (gR σ7 a5 4 0) fun f10 => ob f10 fun a12 => ob (gR σ7 a12 8 8) fun f13 => ob (gR σ7 a5 4 2) fun f15 => ob f15 fun a17 => ob (aN σ7 a17) fun n18 => ob f13 fun a20 => ob (obC σ7 a20 6) fun _ => cb (fX4_latest a20 x2 n18 σ7) fun r24 σ23 => if r24 = (-1 : Int32) then
        ob (gR σ23 a5 4 0) fun f39 => ob (gR σ23 a5 4 1) fun f41 => ob (obC σ23 x0 9) fun _ => cb (fX7_findFromType x0 f39 f41 x2 σ23) fun r46 σ45 => some (r46, σ45)
      else
        ob (obC σ23 a20 6) fun _ => cb (fX4_isAssigned a20 r24 σ23) fun r29 σ28 => if r29 = 0 then
          ob (gR σ28 x0 9 6) fun f31 => ob (gR σ28 a5 4 2) fun f33 => ob f31 fun a35 => ob (obC σ28 a35 2) fun _ => cb (fX0_pointAt a35 f33 r24 (1 : Int32) σ28) fun _ σ38 => some ((0 : Int32), σ38)
        else
          some ((7 : Int32), σ28))
set_option maxHeartbeats 4000000 in
set_option maxRecDepth 100000 in
theorem mX7_findFromLambda (l : Launch) (E : hmG) {x0 : Nat} {x1 : Int32} {x2 : Int32} {σ σ' : hmS} {r : Int32} (h : fX7_findFromLambda x0 x1 x2 σ = some (r, σ')) : Met l yX7_findFromLambda [Cond.code yX7_findFromLambda cX7_findFromLambda 6 (some .int)] { frames := 4, cells := 0, slots := 0, locals := 96 } (hmPc E [.ref x0, .int x1, .int x2] σ) (hmQc E (some (.int r)) σ') 0 0 (fun q => hmL E ≤ q) := by
  refine Met.ofW (cc := cX7_findFromLambda) (maxL := 6) (ret := (some .int)) (by decide) rfl ?_
  intro p e s m args below meth c s₁ B hml hv
  obtain ⟨rfl, hK, hI⟩ := hv
  have S : CallFix p m c cX7_findFromLambda 6 s ([.ref x0, .int x1, .int x2] : List Value).toArray [] RX7 := ⟨B.exec, B.bytes, hml, findClass_of_methodNamed B.named, fun w hw => by cases hw⟩
  have hx := S.1
  have hb := S.2.1
  have hr := B.returns
  have hlocks := B.notSynchronized
  have hL : hmLo E [] := hmLo.nil
  have hl : lv_has ((lg_sl ([.ref x0, .int x1, .int x2]) ++ List.replicate (6 - (lg_sl ([.ref x0, .int x1, .int x2])).length) Slot.unset).toArray) 6 [(0, .ref x0), (1, .int x1), (2, .int x2)] := by exact lv_entry _ (Nat.le_of_ble_eq_true rfl)
  rw [lg_entry_eq]
  generalize (lg_sl ([.ref x0, .int x1, .int x2]) ++ List.replicate (6 - (lg_sl ([.ref x0, .int x1, .int x2])).length) Slot.unset).toArray = ls at hl ⊢
  generalize hRe : (headSpec [Cond.code yX7_findFromLambda cX7_findFromLambda 6 (some .int)] { frames := 4, cells := 0, slots := 0, locals := 96 }).room = R
  have hR1 : R.frames = 4 ∧ R.cells = 0 ∧ R.slots = 0 ∧ R.locals = 96 := by rw [← hRe]; exact ⟨rfl, rfl, rfl, rfl⟩
  clear hRe B hml
  generalize s.heap = H at hI ⊢
  generalize ([] : List Loc) = locs at hL ⊢
  have hmain := h
  clear h
  have h := hmain
  clear hmain
  unfold fX7_findFromLambda at h
  refine lv_aload_n hx hb dX7_findFromLambda_0 rfl (lv_at hl 0 rfl) ?_
  refine lv_iload_n hx hb dX7_findFromLambda_1 rfl (lv_at hl 1 rfl) ?_
  replace h := ob_s h
  obtain ⟨_, h2, h⟩ := h
  replace h := cb_s h
  obtain ⟨r4, σ3, h1, h⟩ := h
  refine hm_call (hm_runV (As := [.int x1]) (rest := []) (ci := 9) S hK hI (obC_s h2) rfl (mX7_lambdaAt l E h1) (pm_X7_247 hK) (pi_X7_lambdaAt hK) (pl_X7_X7_lambdaAt hK) ⟨by omega, by omega⟩ rfl hl.1 (Nat.le_of_ble_eq_true rfl) ⟨by omega, by omega⟩ dX7_findFromLambda_2) hL (fun H locs hI hL => ?_)
  refine hm_astore_n (lv' := [(3, va_rf r4), (0, .ref x0), (1, .int x1), (2, .int x2)]) hx hb dX7_findFromLambda_5 rfl hl (by decide) rfl (fun ls hl => ?_)
  refine hm_aload_n hx hb dX7_findFromLambda_6 rfl (lv_at hl 0 rfl) ?_
  cases r4 with
  | none =>
    replace h := oc_n h
    have hl : lv_has ls 6 [(3, va_rf none), (0, .ref x0), (1, .int x1), (2, .int x2)] := hl
    refine lv_ifnullN (tgt := 17) hx hb dX7_findFromLambda_7 (by decide) ?_
    refine lv_iconst (v := -1) hx hb dX7_findFromLambda_17 (by decide) ?_
    exact hm_iret hx hb hr hI hL h (by omega) (by omega) hlocks dX7_findFromLambda_18
  | some a5 =>
    replace h := oc_s h
    have hl : lv_has ls 6 [(3, .ref a5), (0, .ref x0), (1, .int x1), (2, .int x2)] := hl
    refine lv_ifnull hx hb dX7_findFromLambda_7 ?_
    refine lv_iload_n hx hb dX7_findFromLambda_10 rfl (lv_at hl 3 rfl) ?_
    replace h := cb_s h
    obtain ⟨r8, σ7, h6, h⟩ := h
    refine hm_call (hm_runS (As := [.int x2]) (rest := []) S hK hI (mX7_isName l E h6) (pm_X7_62 hK) (ps_X7_isName hK) ⟨by omega, by omega⟩ rfl hl.1 (Nat.le_of_ble_eq_true rfl) ⟨by omega, by omega⟩ dX7_findFromLambda_11) hL (fun H locs hI hL => ?_)
    refine lv_if_ne (tgt := 19) hx hb dX7_findFromLambda_14 (by decide) (fun c9 => ?_) (fun c9 => ?_)
    · replace h := it_n c9 h
      refine lv_aload_n hx hb dX7_findFromLambda_19 rfl (lv_at hl 0 rfl) ?_
      replace h := ob_s h
      obtain ⟨f10, h11, h⟩ := h
      refine hm_get S hK hI (pf_X7_251_4 hK) (gR_s h11) dX7_findFromLambda_20 ?_
      replace h := ob_s h
      obtain ⟨a12, rfl, h⟩ := h
      have hl : lv_has ls 6 [(3, .ref a5), (0, .ref x0), (1, .int x1), (2, .int x2)] := hl
      replace h := ob_s h
      obtain ⟨f13, h14, h⟩ := h
      refine hm_get S hK hI (pf_X7_83_8 hK) (gR_s h14) dX7_findFromLambda_23 ?_
      refine hm_astore (lv' := [(4, va_rf f13), (3, .ref a5), (0, .ref x0), (1, .int x1), (2, .int x2)]) hx hb dX7_findFromLambda_26 hl (by decide) rfl (fun ls hl => ?_)
      refine hm_aload hx hb dX7_findFromLambda_28 (lv_at hl 0 rfl) ?_
      refine lv_iload_n hx hb dX7_findFromLambda_30 rfl (lv_at hl 4 rfl) ?_
      refine lv_aload_n hx hb dX7_findFromLambda_31 rfl (lv_at hl 1 rfl) ?_
      replace h := ob_s h
      obtain ⟨f15, h16, h⟩ := h
      refine hm_get S hK hI (pf_X7_254_4 hK) (gR_s h16) dX7_findFromLambda_32 ?_
      replace h := ob_s h
      obtain ⟨a17, rfl, h⟩ := h
      have hl : lv_has ls 6 [(4, va_rf f13), (3, .ref a5), (0, .ref x0), (1, .int x1), (2, .int x2)] := hl
      replace h := ob_s h
      obtain ⟨n18, h19, h⟩ := h
      refine hm_aN S hK hI h19 dX7_findFromLambda_35 ?_
      replace h := ob_s h
      obtain ⟨a20, rfl, h⟩ := h
      have hl : lv_has ls 6 [(4, .ref a20), (3, .ref a5), (0, .ref x0), (1, .int x1), (2, .int x2)] := hl
      replace h := ob_s h
      obtain ⟨_, h22, h⟩ := h
      replace h := cb_s h
      obtain ⟨r24, σ23, h21, h⟩ := h
      refine hm_call (hm_runV (As := [.int x2, .int n18]) (rest := []) (ci := 6) S hK hI (obC_s h22) rfl (mX4_latest l E h21) (pm_X7_255 hK) (pi_X4_latest hK) (pl_X4_X4_latest hK) ⟨by omega, by omega⟩ rfl hl.1 (Nat.le_of_ble_eq_true rfl) ⟨by omega, by omega⟩ dX7_findFromLambda_36) hL (fun H locs hI hL => ?_)
      refine lv_istore (lv' := [(5, .int r24), (4, .ref a20), (3, .ref a5), (0, .ref x0), (1, .int x1), (2, .int x2)]) hx hb dX7_findFromLambda_39 hl (by decide) rfl (fun ls hl => ?_)
      refine lv_iload hx hb dX7_findFromLambda_41 (lv_at hl 0 rfl) ?_
      refine lv_iconst (v := -1) hx hb dX7_findFromLambda_43 (by decide) ?_
      refine lv_icmp_ne (tgt := 61) hx hb dX7_findFromLambda_44 (by decide) (fun c25 => ?_) (fun c25 => ?_)
      · replace h := it_n c25 h
        refine lv_aload hx hb dX7_findFromLambda_61 (lv_at hl 1 rfl) ?_
        refine lv_iload hx hb dX7_findFromLambda_63 (lv_at hl 0 rfl) ?_
        replace h := ob_s h
        obtain ⟨_, h27, h⟩ := h
        replace h := cb_s h
        obtain ⟨r29, σ28, h26, h⟩ := h
        refine hm_call (hm_runV (As := [.int r24]) (rest := []) (ci := 6) S hK hI (obC_s h27) rfl (mX4_isAssigned l E h26) (pm_X7_96 hK) (pi_X4_isAssigned hK) (pl_X4_X4_isAssigned hK) ⟨by omega, by omega⟩ rfl hl.1 (Nat.le_of_ble_eq_true rfl) ⟨by omega, by omega⟩ dX7_findFromLambda_65) hL (fun H locs hI hL => ?_)
        refine lv_if_eq (tgt := 74) hx hb dX7_findFromLambda_68 (by decide) (fun c30 => ?_) (fun c30 => ?_)
        · replace h := it_p c30 h
          refine lv_aload_n hx hb dX7_findFromLambda_74 rfl (lv_at hl 3 rfl) ?_
          replace h := ob_s h
          obtain ⟨f31, h32, h⟩ := h
          refine hm_get S hK hI (pf_X7_40_9 hK) (gR_s h32) dX7_findFromLambda_75 ?_
          refine lv_aload_n hx hb dX7_findFromLambda_78 rfl (lv_at hl 2 rfl) ?_
          replace h := ob_s h
          obtain ⟨f33, h34, h⟩ := h
          refine hm_get S hK hI (pf_X7_254_4 hK) (gR_s h34) dX7_findFromLambda_79 ?_
          refine lv_iload hx hb dX7_findFromLambda_82 (lv_at hl 0 rfl) ?_
          refine lv_iconst (v := 1) hx hb dX7_findFromLambda_84 (by decide) ?_
          replace h := ob_s h
          obtain ⟨a35, rfl, h⟩ := h
          have hl : lv_has ls 6 [(5, .int r24), (4, .ref a20), (3, .ref a5), (0, .ref x0), (1, .int x1), (2, .int x2)] := hl
          replace h := ob_s h
          obtain ⟨_, h37, h⟩ := h
          replace h := cb_s h
          obtain ⟨u0, σ38, h36, h⟩ := h
          refine hm_callv (hm_runV (As := [va_rf f33, .int r24, .int (1 : Int32)]) (rest := []) (ci := 2) S hK hI (obC_s h37) rfl (mX0_pointAt l E h36) (pm_X7_262 hK) (pi_X0_pointAt hK) (pl_X0_X0_pointAt hK) ⟨by omega, by omega⟩ rfl hl.1 (Nat.le_of_ble_eq_true rfl) ⟨by omega, by omega⟩ dX7_findFromLambda_85) hL (fun H locs hI hL => ?_)
          refine lv_iconst (v := 0) hx hb dX7_findFromLambda_88 (by decide) ?_
          exact hm_iret hx hb hr hI hL h (by omega) (by omega) hlocks dX7_findFromLambda_89
        · replace h := it_n c30 h
          refine lv_bipush (v := 7) hx hb dX7_findFromLambda_71 (by decide) ?_
          exact hm_iret hx hb hr hI hL h (by omega) (by omega) hlocks dX7_findFromLambda_73
      · replace h := it_p c25 h
        refine lv_aload_n hx hb dX7_findFromLambda_47 rfl (lv_at hl 3 rfl) ?_
        refine lv_aload_n hx hb dX7_findFromLambda_48 rfl (lv_at hl 2 rfl) ?_
        replace h := ob_s h
        obtain ⟨f39, h40, h⟩ := h
        refine hm_get S hK hI (pf_X7_251_4 hK) (gR_s h40) dX7_findFromLambda_49 ?_
        refine lv_aload_n hx hb dX7_findFromLambda_52 rfl (lv_at hl 2 rfl) ?_
        replace h := ob_s h
        obtain ⟨f41, h42, h⟩ := h
        refine hm_get S hK hI (pf_X7_258_4 hK) (gR_s h42) dX7_findFromLambda_53 ?_
        refine lv_iload_n hx hb dX7_findFromLambda_56 rfl (lv_at hl 5 rfl) ?_
        replace h := ob_s h
        obtain ⟨_, h44, h⟩ := h
        replace h := cb_s h
        obtain ⟨r46, σ45, h43, h⟩ := h
        refine hm_call (hm_runV (As := [va_rf f39, va_rf f41, .int x2]) (rest := []) (ci := 9) S hK hI (obC_s h44) rfl (mX7_findFromType l E h43) (pm_X7_243 hK) (pi_X7_findFromType hK) (pl_X7_X7_findFromType hK) ⟨by omega, by omega⟩ rfl hl.1 (Nat.le_of_ble_eq_true rfl) ⟨by omega, by omega⟩ dX7_findFromLambda_57) hL (fun H locs hI hL => ?_)
        exact hm_iret hx hb hr hI hL h (by omega) (by omega) hlocks dX7_findFromLambda_60
    · replace h := it_p c9 h
      refine lv_iconst (v := -1) hx hb dX7_findFromLambda_17 (by decide) ?_
      exact hm_iret hx hb hr hI hL h (by omega) (by omega) hlocks dX7_findFromLambda_18

def fX7_seen (x0 : Nat) (x1 : Int32) (x2 : Int32) (σ : hmS) : Option (Int64 × hmS) :=
  ob (obC σ x0 9) fun _ => cb (fX7_findFromLambda x0 x1 x2 σ) fun r4 σ3 => ob (wF σ3 x0 9 7 (.int r4)) fun σ5 => ob (gI σ5 x0 9 7) fun f7 => if f7 = 0 then
    ob (gR σ5 x0 9 6) fun f10 => ob f10 fun a12 => ob (obC σ5 a12 2) fun _ => cb (fX0_read a12 σ5) fun r16 σ15 => some (r16, σ15)
  else
    some ((0 : Int64), σ5)
set_option maxHeartbeats 4000000 in
set_option maxRecDepth 100000 in
theorem mX7_seen (l : Launch) (E : hmG) {x0 : Nat} {x1 : Int32} {x2 : Int32} {σ σ' : hmS} {r : Int64} (h : fX7_seen x0 x1 x2 σ = some (r, σ')) : Met l yX7_seen [Cond.code yX7_seen cX7_seen 3 (some .long)] { frames := 5, cells := 0, slots := 0, locals := 121 } (hmPc E [.ref x0, .int x1, .int x2] σ) (hmQc E (some (.long r)) σ') 0 0 (fun q => hmL E ≤ q) := by
  refine Met.ofW (cc := cX7_seen) (maxL := 3) (ret := (some .long)) (by decide) rfl ?_
  intro p e s m args below meth c s₁ B hml hv
  obtain ⟨rfl, hK, hI⟩ := hv
  have S : CallFix p m c cX7_seen 3 s ([.ref x0, .int x1, .int x2] : List Value).toArray [] RX7 := ⟨B.exec, B.bytes, hml, findClass_of_methodNamed B.named, fun w hw => by cases hw⟩
  have hx := S.1
  have hb := S.2.1
  have hr := B.returns
  have hlocks := B.notSynchronized
  have hL : hmLo E [] := hmLo.nil
  have hl : lv_has ((lg_sl ([.ref x0, .int x1, .int x2]) ++ List.replicate (3 - (lg_sl ([.ref x0, .int x1, .int x2])).length) Slot.unset).toArray) 3 [(0, .ref x0), (1, .int x1), (2, .int x2)] := by exact lv_entry _ (Nat.le_of_ble_eq_true rfl)
  rw [lg_entry_eq]
  generalize (lg_sl ([.ref x0, .int x1, .int x2]) ++ List.replicate (3 - (lg_sl ([.ref x0, .int x1, .int x2])).length) Slot.unset).toArray = ls at hl ⊢
  generalize hRe : (headSpec [Cond.code yX7_seen cX7_seen 3 (some .long)] { frames := 5, cells := 0, slots := 0, locals := 121 }).room = R
  have hR1 : R.frames = 5 ∧ R.cells = 0 ∧ R.slots = 0 ∧ R.locals = 121 := by rw [← hRe]; exact ⟨rfl, rfl, rfl, rfl⟩
  clear hRe B hml
  generalize s.heap = H at hI ⊢
  generalize ([] : List Loc) = locs at hL ⊢
  have hmain := h
  clear h
  have h := hmain
  clear hmain
  unfold fX7_seen at h
  refine lv_aload_n hx hb dX7_seen_0 rfl (lv_at hl 0 rfl) ?_
  refine lv_aload_n hx hb dX7_seen_1 rfl (lv_at hl 0 rfl) ?_
  refine lv_iload_n hx hb dX7_seen_2 rfl (lv_at hl 1 rfl) ?_
  refine lv_iload_n hx hb dX7_seen_3 rfl (lv_at hl 2 rfl) ?_
  replace h := ob_s h
  obtain ⟨_, h2, h⟩ := h
  replace h := cb_s h
  obtain ⟨r4, σ3, h1, h⟩ := h
  refine hm_call (hm_runV (As := [.int x1, .int x2]) (rest := [.ref x0]) (ci := 9) S hK hI (obC_s h2) rfl (mX7_findFromLambda l E h1) (pm_X7_197 hK) (pi_X7_findFromLambda hK) (pl_X7_X7_findFromLambda hK) ⟨by omega, by omega⟩ rfl hl.1 (Nat.le_of_ble_eq_true rfl) ⟨by omega, by omega⟩ dX7_seen_4) hL (fun H locs hI hL => ?_)
  replace h := ob_s h
  obtain ⟨σ5, h6, h⟩ := h
  refine hm_put S hK hI hL (pf_X7_44_9 hK) h6 ⟨rfl, rfl⟩ dX7_seen_7 (fun H locs hI hL => ?_)
  refine lv_aload_n hx hb dX7_seen_10 rfl (lv_at hl 0 rfl) ?_
  replace h := ob_s h
  obtain ⟨f7, h8, h⟩ := h
  refine hm_get S hK hI (pf_X7_44_9 hK) (gI_s h8) dX7_seen_11 ?_
  refine lv_if_ne (tgt := 27) hx hb dX7_seen_14 (by decide) (fun c9 => ?_) (fun c9 => ?_)
  · replace h := it_n c9 h
    refine lv_lconst (v := 0) hx hb dX7_seen_27 (by decide) ?_
    exact hm_lret hx hb hr hI hL h (by omega) (by omega) hlocks dX7_seen_28
  · replace h := it_p c9 h
    refine lv_aload_n hx hb dX7_seen_17 rfl (lv_at hl 0 rfl) ?_
    replace h := ob_s h
    obtain ⟨f10, h11, h⟩ := h
    refine hm_get S hK hI (pf_X7_40_9 hK) (gR_s h11) dX7_seen_18 ?_
    replace h := ob_s h
    obtain ⟨a12, rfl, h⟩ := h
    have hl : lv_has ls 3 [(0, .ref x0), (1, .int x1), (2, .int x2)] := hl
    replace h := ob_s h
    obtain ⟨_, h14, h⟩ := h
    replace h := cb_s h
    obtain ⟨r16, σ15, h13, h⟩ := h
    refine hm_call (hm_runV (As := []) (rest := []) (ci := 2) S hK hI (obC_s h14) rfl (mX0_read l E h13) (pm_X7_170 hK) (pi_X0_read hK) (pl_X0_X0_read hK) ⟨by omega, by omega⟩ rfl hl.1 (Nat.le_of_ble_eq_true rfl) ⟨by omega, by omega⟩ dX7_seen_21) hL (fun H locs hI hL => ?_)
    refine lv_goto (tgt := 28) hx hb dX7_seen_24 (by decide) ?_
    exact hm_lret hx hb hr hI hL h (by omega) (by omega) hlocks dX7_seen_28

def fX7_why (x0 : Nat) (σ : hmS) : Option (Int32 × hmS) :=
  ob (gI σ x0 9 7) fun f1 => some (f1, σ)
set_option maxHeartbeats 4000000 in
set_option maxRecDepth 100000 in
theorem mX7_why (l : Launch) (E : hmG) {x0 : Nat} {σ σ' : hmS} {r : Int32} (h : fX7_why x0 σ = some (r, σ')) : Met l yX7_why [Cond.code yX7_why cX7_why 1 (some .int)] { frames := 0, cells := 0, slots := 0, locals := 0 } (hmPc E [.ref x0] σ) (hmQc E (some (.int r)) σ') 0 0 (fun q => hmL E ≤ q) := by
  refine Met.ofW (cc := cX7_why) (maxL := 1) (ret := (some .int)) (by decide) rfl ?_
  intro p e s m args below meth c s₁ B hml hv
  obtain ⟨rfl, hK, hI⟩ := hv
  have S : CallFix p m c cX7_why 1 s ([.ref x0] : List Value).toArray [] RX7 := ⟨B.exec, B.bytes, hml, findClass_of_methodNamed B.named, fun w hw => by cases hw⟩
  have hx := S.1
  have hb := S.2.1
  have hr := B.returns
  have hlocks := B.notSynchronized
  have hL : hmLo E [] := hmLo.nil
  have hl : lv_has ((lg_sl ([.ref x0]) ++ List.replicate (1 - (lg_sl ([.ref x0])).length) Slot.unset).toArray) 1 [(0, .ref x0)] := by exact lv_entry _ (Nat.le_of_ble_eq_true rfl)
  rw [lg_entry_eq]
  generalize (lg_sl ([.ref x0]) ++ List.replicate (1 - (lg_sl ([.ref x0])).length) Slot.unset).toArray = ls at hl ⊢
  generalize hRe : (headSpec [Cond.code yX7_why cX7_why 1 (some .int)] { frames := 0, cells := 0, slots := 0, locals := 0 }).room = R
  have hR1 : R.frames = 0 ∧ R.cells = 0 ∧ R.slots = 0 ∧ R.locals = 0 := by rw [← hRe]; exact ⟨rfl, rfl, rfl, rfl⟩
  clear hRe B hml
  generalize s.heap = H at hI ⊢
  generalize ([] : List Loc) = locs at hL ⊢
  have hmain := h
  clear h
  have h := hmain
  clear hmain
  unfold fX7_why at h
  refine lv_aload_n hx hb dX7_why_0 rfl (lv_at hl 0 rfl) ?_
  replace h := ob_s h
  obtain ⟨f1, h2, h⟩ := h
  refine hm_get S hK hI (pf_X7_44_9 hK) (gI_s h2) dX7_why_1 ?_
  exact hm_iret hx hb hr hI hL h (by omega) (by omega) hlocks dX7_why_4

def fX7_heldPlaces_J22 (x0 : Nat) (K4 : Int32 → Int32 → hmS → Option (Int32 × hmS)) (v1 : Int32) (v2 : Int32) (σ : hmS) : Option (Int32 × hmS) :=
  K4 v1 (v2 + (1 : Int32)) σ
def fX7_heldPlaces_B4 (x0 : Nat)  (K4 : Int32 → Int32 → hmS → Option (Int32 × hmS)) (v1 : Int32) (v2 : Int32) (σ : hmS) : Option (Int32 × hmS) :=
  if (8 : Int32) ≤ v2 then
    some (v1, σ)
  else
    ob (gR σ x0 9 2) fun f2 => ob f2 fun a4 => ob (aR σ a4 v2) fun e5 => oc e5
      (fX7_heldPlaces_J22 x0 K4 v1 v2 σ)
      (fun a7 => fX7_heldPlaces_J22 x0 K4 (v1 + (1 : Int32)) v2 σ)
def fX7_heldPlaces_L4 (x0 : Nat)  : Nat → Int32 → Int32 → hmS → Option (Int32 × hmS)
  | 0 => fun _ _ _ => none
  | n + 1 => fX7_heldPlaces_B4 x0  (fX7_heldPlaces_L4 x0  n)
def fX7_heldPlaces (x0 : Nat) (σ : hmS) : Option (Int32 × hmS) :=
  fX7_heldPlaces_L4 x0 20 (0 : Int32) (0 : Int32) σ
set_option maxHeartbeats 4000000 in
set_option maxRecDepth 100000 in
theorem mX7_heldPlaces (l : Launch) (E : hmG) {x0 : Nat} {σ σ' : hmS} {r : Int32} (h : fX7_heldPlaces x0 σ = some (r, σ')) : Met l yX7_heldPlaces [Cond.code yX7_heldPlaces cX7_heldPlaces 3 (some .int)] { frames := 0, cells := 0, slots := 0, locals := 0 } (hmPc E [.ref x0] σ) (hmQc E (some (.int r)) σ') 0 0 (fun q => hmL E ≤ q) := by
  refine Met.ofW (cc := cX7_heldPlaces) (maxL := 3) (ret := (some .int)) (by decide) rfl ?_
  intro p e s m args below meth c s₁ B hml hv
  obtain ⟨rfl, hK, hI⟩ := hv
  have S : CallFix p m c cX7_heldPlaces 3 s ([.ref x0] : List Value).toArray [] RX7 := ⟨B.exec, B.bytes, hml, findClass_of_methodNamed B.named, fun w hw => by cases hw⟩
  have hx := S.1
  have hb := S.2.1
  have hr := B.returns
  have hlocks := B.notSynchronized
  have hL : hmLo E [] := hmLo.nil
  have hl : lv_has ((lg_sl ([.ref x0]) ++ List.replicate (3 - (lg_sl ([.ref x0])).length) Slot.unset).toArray) 3 [(0, .ref x0)] := by exact lv_entry _ (Nat.le_of_ble_eq_true rfl)
  rw [lg_entry_eq]
  generalize (lg_sl ([.ref x0]) ++ List.replicate (3 - (lg_sl ([.ref x0])).length) Slot.unset).toArray = ls at hl ⊢
  generalize hRe : (headSpec [Cond.code yX7_heldPlaces cX7_heldPlaces 3 (some .int)] { frames := 0, cells := 0, slots := 0, locals := 0 }).room = R
  have hR1 : R.frames = 0 ∧ R.cells = 0 ∧ R.slots = 0 ∧ R.locals = 0 := by rw [← hRe]; exact ⟨rfl, rfl, rfl, rfl⟩
  clear hRe B hml
  generalize s.heap = H at hI ⊢
  generalize ([] : List Loc) = locs at hL ⊢
  have hmain := h
  clear h
  have hB4 : ∀ (K4 : Int32 → Int32 → hmS → Option (Int32 × hmS)), (∀ (v1 : Int32) (v2 : Int32) (σ : hmS) (H : Heap) (locs : List Loc) (ls : Array Slot), K4 v1 v2 σ = some (r, σ') → hmI E σ H → hmLo E locs → lv_has ls 3 [(0, .ref x0), (1, .int v1), (2, .int v2)] → W p l e R s m ([.ref x0] : List Value).toArray below meth c H locs 0 0 (MQ below (hmQc E (some (.int r)) σ') ([.ref x0] : List Value).toArray s 0 0 (fun q => hmL E ≤ q)) (F0 m 4 ls [])) → ∀ (v1 : Int32) (v2 : Int32) (σ : hmS) (H : Heap) (locs : List Loc) (ls : Array Slot), fX7_heldPlaces_B4 x0  K4 v1 v2 σ = some (r, σ') → hmI E σ H → hmLo E locs → lv_has ls 3 [(0, .ref x0), (1, .int v1), (2, .int v2)] → W p l e R s m ([.ref x0] : List Value).toArray below meth c H locs 0 0 (MQ below (hmQc E (some (.int r)) σ') ([.ref x0] : List Value).toArray s 0 0 (fun q => hmL E ≤ q)) (F0 m 4 ls []) := by
    intro K4 hk4
    have hJ22 : ∀ (v1 : Int32) (v2 : Int32) (σ : hmS) (H : Heap) (locs : List Loc) (ls : Array Slot), fX7_heldPlaces_J22 x0 K4 v1 v2 σ = some (r, σ') → hmI E σ H → hmLo E locs → lv_has ls 3 [(0, .ref x0), (1, .int v1), (2, .int v2)] → W p l e R s m ([.ref x0] : List Value).toArray below meth c H locs 0 0 (MQ below (hmQc E (some (.int r)) σ') ([.ref x0] : List Value).toArray s 0 0 (fun q => hmL E ≤ q)) (F0 m 22 ls []) := by
      intro v1 v2 σ H locs ls h hI hL hl
      unfold fX7_heldPlaces_J22 at h
      refine lv_iinc (v := (v2 + (1 : Int32))) (lv' := [(2, .int (v2 + (1 : Int32))), (0, .ref x0), (1, .int v1)]) hx hb dX7_heldPlaces_22 hl (k := 2) rfl rfl (by decide) rfl (fun ls hl => ?_)
      refine lv_goto (tgt := 4) hx hb dX7_heldPlaces_25 (by decide) ?_
      exact hk4 _ _ _ _ _ _ h hI hL (lv_sub hl [1, 2, 0] rfl)
    intro v1 v2 σ H locs ls h hI hL hl
    unfold fX7_heldPlaces_B4 at h
    refine lv_iload_n hx hb dX7_heldPlaces_4 rfl (lv_at hl 2 rfl) ?_
    refine lv_bipush (v := 8) hx hb dX7_heldPlaces_5 (by decide) ?_
    refine lv_icmp_ge (tgt := 28) hx hb dX7_heldPlaces_7 (by decide) (fun c1 => ?_) (fun c1 => ?_)
    · replace h := it_p c1 h
      refine lv_iload_n hx hb dX7_heldPlaces_28 rfl (lv_at hl 1 rfl) ?_
      exact hm_iret hx hb hr hI hL h (by omega) (by omega) hlocks dX7_heldPlaces_29
    · replace h := it_n c1 h
      refine lv_aload_n hx hb dX7_heldPlaces_10 rfl (lv_at hl 0 rfl) ?_
      replace h := ob_s h
      obtain ⟨f2, h3, h⟩ := h
      refine hm_get S hK hI (pf_X7_21_9 hK) (gR_s h3) dX7_heldPlaces_11 ?_
      refine lv_iload_n hx hb dX7_heldPlaces_14 rfl (lv_at hl 2 rfl) ?_
      replace h := ob_s h
      obtain ⟨a4, rfl, h⟩ := h
      have hl : lv_has ls 3 [(0, .ref x0), (1, .int v1), (2, .int v2)] := hl
      replace h := ob_s h
      obtain ⟨e5, h6, h⟩ := h
      refine hm_aald S hK hI h6 dX7_heldPlaces_15 ?_
      cases e5 with
      | none =>
        replace h := oc_n h
        have hl : lv_has ls 3 [(0, .ref x0), (1, .int v1), (2, .int v2)] := hl
        refine lv_ifnullN (tgt := 22) hx hb dX7_heldPlaces_16 (by decide) ?_
        exact hJ22 _ _ _ _ _ _ h hI hL (lv_sub hl [0, 1, 2] rfl)
      | some a7 =>
        replace h := oc_s h
        have hl : lv_has ls 3 [(0, .ref x0), (1, .int v1), (2, .int v2)] := hl
        refine lv_ifnull hx hb dX7_heldPlaces_16 ?_
        refine lv_iinc (v := (v1 + (1 : Int32))) (lv' := [(1, .int (v1 + (1 : Int32))), (0, .ref x0), (2, .int v2)]) hx hb dX7_heldPlaces_19 hl (k := 1) rfl rfl (by decide) rfl (fun ls hl => ?_)
        exact hJ22 _ _ _ _ _ _ h hI hL (lv_sub hl [1, 0, 2] rfl)
  have hL4 : ∀ n : Nat, ∀ (v1 : Int32) (v2 : Int32) (σ : hmS) (H : Heap) (locs : List Loc) (ls : Array Slot), fX7_heldPlaces_L4 x0  n v1 v2 σ = some (r, σ') → hmI E σ H → hmLo E locs → lv_has ls 3 [(0, .ref x0), (1, .int v1), (2, .int v2)] → W p l e R s m ([.ref x0] : List Value).toArray below meth c H locs 0 0 (MQ below (hmQc E (some (.int r)) σ') ([.ref x0] : List Value).toArray s 0 0 (fun q => hmL E ≤ q)) (F0 m 4 ls []) := by
    intro n
    induction n with
    | zero =>
      intro v1 v2 σ H locs ls h
      have h : none = some (r, σ') := h
      cases h
    | succ n ih => exact hB4 _ ih
  have h := hmain
  clear hmain
  unfold fX7_heldPlaces at h
  refine lv_iconst (v := 0) hx hb dX7_heldPlaces_0 (by decide) ?_
  refine lv_istore_n (lv' := [(1, .int (0 : Int32)), (0, .ref x0)]) hx hb dX7_heldPlaces_1 rfl hl (by decide) rfl (fun ls hl => ?_)
  refine lv_iconst (v := 0) hx hb dX7_heldPlaces_2 (by decide) ?_
  refine lv_istore_n (lv' := [(2, .int (0 : Int32)), (1, .int (0 : Int32)), (0, .ref x0)]) hx hb dX7_heldPlaces_3 rfl hl (by decide) rfl (fun ls hl => ?_)
  exact hL4 20 _ _ _ _ _ _ h hI hL (lv_sub hl [2, 1, 0] rfl)

def fX7_count (x0 : Nat) (x1 : Int32) (σ : hmS) : Option (Int32 × hmS) :=
  if x1 = (0 : Int32) then
    ob (gI σ x0 9 1) fun f2 => some (f2, σ)
  else
    if x1 = (1 : Int32) then
      ob (gI σ x0 9 3) fun f4 => some (f4, σ)
    else
      if x1 = (2 : Int32) then
        ob (gI σ x0 9 5) fun f6 => some (f6, σ)
      else
        if x1 = (3 : Int32) then
          ob (obC σ x0 9) fun _ => cb (fX7_heldPlaces x0 σ) fun r11 σ10 => some (r11, σ10)
        else
          some ((-1 : Int32), σ)
set_option maxHeartbeats 4000000 in
set_option maxRecDepth 100000 in
theorem mX7_count (l : Launch) (E : hmG) {x0 : Nat} {x1 : Int32} {σ σ' : hmS} {r : Int32} (h : fX7_count x0 x1 σ = some (r, σ')) : Met l yX7_count [Cond.code yX7_count cX7_count 2 (some .int)] { frames := 1, cells := 0, slots := 0, locals := 22 } (hmPc E [.ref x0, .int x1] σ) (hmQc E (some (.int r)) σ') 0 0 (fun q => hmL E ≤ q) := by
  refine Met.ofW (cc := cX7_count) (maxL := 2) (ret := (some .int)) (by decide) rfl ?_
  intro p e s m args below meth c s₁ B hml hv
  obtain ⟨rfl, hK, hI⟩ := hv
  have S : CallFix p m c cX7_count 2 s ([.ref x0, .int x1] : List Value).toArray [] RX7 := ⟨B.exec, B.bytes, hml, findClass_of_methodNamed B.named, fun w hw => by cases hw⟩
  have hx := S.1
  have hb := S.2.1
  have hr := B.returns
  have hlocks := B.notSynchronized
  have hL : hmLo E [] := hmLo.nil
  have hl : lv_has ((lg_sl ([.ref x0, .int x1]) ++ List.replicate (2 - (lg_sl ([.ref x0, .int x1])).length) Slot.unset).toArray) 2 [(0, .ref x0), (1, .int x1)] := by exact lv_entry _ (Nat.le_of_ble_eq_true rfl)
  rw [lg_entry_eq]
  generalize (lg_sl ([.ref x0, .int x1]) ++ List.replicate (2 - (lg_sl ([.ref x0, .int x1])).length) Slot.unset).toArray = ls at hl ⊢
  generalize hRe : (headSpec [Cond.code yX7_count cX7_count 2 (some .int)] { frames := 1, cells := 0, slots := 0, locals := 22 }).room = R
  have hR1 : R.frames = 1 ∧ R.cells = 0 ∧ R.slots = 0 ∧ R.locals = 22 := by rw [← hRe]; exact ⟨rfl, rfl, rfl, rfl⟩
  clear hRe B hml
  generalize s.heap = H at hI ⊢
  generalize ([] : List Loc) = locs at hL ⊢
  have hmain := h
  clear h
  have h := hmain
  clear hmain
  unfold fX7_count at h
  refine lv_iload_n hx hb dX7_count_0 rfl (lv_at hl 1 rfl) ?_
  by_cases c1_0 : x1 = (0 : Int32)
  · replace h := it_p c1_0 h
    refine hm_tableIn (k := 0) (tgt := 32) hx hb dX7_count_1 c1_0 (by decide) (by decide) rfl (by decide) ?_
    refine lv_aload_n hx hb dX7_count_32 rfl (lv_at hl 0 rfl) ?_
    replace h := ob_s h
    obtain ⟨f2, h3, h⟩ := h
    refine hm_get S hK hI (pf_X7_15_9 hK) (gI_s h3) dX7_count_33 ?_
    exact hm_iret hx hb hr hI hL h (by omega) (by omega) hlocks dX7_count_36
  replace h := it_n c1_0 h
  by_cases c1_1 : x1 = (1 : Int32)
  · replace h := it_p c1_1 h
    refine hm_tableIn (k := 1) (tgt := 37) hx hb dX7_count_1 c1_1 (by decide) (by decide) rfl (by decide) ?_
    refine lv_aload_n hx hb dX7_count_37 rfl (lv_at hl 0 rfl) ?_
    replace h := ob_s h
    obtain ⟨f4, h5, h⟩ := h
    refine hm_get S hK hI (pf_X7_25_9 hK) (gI_s h5) dX7_count_38 ?_
    exact hm_iret hx hb hr hI hL h (by omega) (by omega) hlocks dX7_count_41
  replace h := it_n c1_1 h
  by_cases c1_2 : x1 = (2 : Int32)
  · replace h := it_p c1_2 h
    refine hm_tableIn (k := 2) (tgt := 42) hx hb dX7_count_1 c1_2 (by decide) (by decide) rfl (by decide) ?_
    refine lv_aload_n hx hb dX7_count_42 rfl (lv_at hl 0 rfl) ?_
    replace h := ob_s h
    obtain ⟨f6, h7, h⟩ := h
    refine hm_get S hK hI (pf_X7_34_9 hK) (gI_s h7) dX7_count_43 ?_
    exact hm_iret hx hb hr hI hL h (by omega) (by omega) hlocks dX7_count_46
  replace h := it_n c1_2 h
  by_cases c1_3 : x1 = (3 : Int32)
  · replace h := it_p c1_3 h
    refine hm_tableIn (k := 3) (tgt := 47) hx hb dX7_count_1 c1_3 (by decide) (by decide) rfl (by decide) ?_
    refine lv_aload_n hx hb dX7_count_47 rfl (lv_at hl 0 rfl) ?_
    replace h := ob_s h
    obtain ⟨_, h9, h⟩ := h
    replace h := cb_s h
    obtain ⟨r11, σ10, h8, h⟩ := h
    refine hm_call (hm_runV (As := []) (rest := []) (ci := 9) S hK hI (obC_s h9) rfl (mX7_heldPlaces l E h8) (pm_X7_200 hK) (pi_X7_heldPlaces hK) (pl_X7_X7_heldPlaces hK) ⟨by omega, by omega⟩ rfl hl.1 (Nat.le_of_ble_eq_true rfl) ⟨by omega, by omega⟩ dX7_count_48) hL (fun H locs hI hL => ?_)
    exact hm_iret hx hb hr hI hL h (by omega) (by omega) hlocks dX7_count_51
  replace h := it_n c1_3 h
  refine hm_tableOut 4 (by decide) (x := x1) (tgt := 52) hx hb dX7_count_1 (by decide) (fun j hj => match j, hj with | 0, _ => c1_0 | 1, _ => c1_1 | 2, _ => c1_2 | 3, _ => c1_3 | j + 4, hj => absurd hj (by omega)) (by decide) ?_
  refine lv_iconst (v := -1) hx hb dX7_count_52 (by decide) ?_
  exact hm_iret hx hb hr hI hL h (by omega) (by omega) hlocks dX7_count_53
