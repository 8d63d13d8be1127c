def fX8_init (x0 : Nat) (σ : hmS) : Option (Unit × hmS) :=
  cb (nA σ 0 (.inl (fun _ => 0)) 12 (12 : Int32)) fun q1 σ2 => ob (wF σ2 x0 10 1 (.ref q1)) fun σ4 => cb (nA σ4 0 (.inl (fun _ => 0)) 12 (12 : Int32)) fun q6 σ7 => ob (wF σ7 x0 10 2 (.ref q6)) fun σ9 => cb (nA σ9 0 (.inl (fun _ => 0)) 12 (12 : Int32)) fun q11 σ12 => ob (wF σ12 x0 10 3 (.ref q11)) fun σ14 => cb (nA σ14 0 (.inl (fun _ => 0)) 12 (12 : Int32)) fun q16 σ17 => ob (wF σ17 x0 10 4 (.ref q16)) fun σ19 => cb (nA σ19 0 (.inl (fun _ => 0)) 12 (12 : Int32)) fun q21 σ22 => ob (wF σ22 x0 10 5 (.ref q21)) fun σ24 => cb (nA σ24 0 (.inl (fun _ => 0)) 12 (12 : Int32)) fun q26 σ27 => ob (wF σ27 x0 10 6 (.ref q26)) fun σ29 => cb (nA σ29 0 (.inl (fun _ => 0)) 12 (12 : Int32)) fun q31 σ32 => ob (wF σ32 x0 10 7 (.ref q31)) fun σ34 => cb (nA σ34 0 (.inl (fun _ => 0)) 48 (48 : Int32)) fun q36 σ37 => ob (wF σ37 x0 10 8 (.ref q36)) fun σ39 => cb (nA σ39 1 (.inr (.inl (fun _ => 0))) 48 (48 : Int32)) fun q41 σ42 => ob (wF σ42 x0 10 9 (.ref q41)) fun σ44 => cb (nA σ44 2 (.inl (fun _ => 0)) 48 (48 : Int32)) fun q46 σ47 => ob (wF σ47 x0 10 10 (.ref q46)) fun σ49 => cb (nA σ49 2 (.inl (fun _ => 0)) 12 (12 : Int32)) fun q51 σ52 => ob (wF σ52 x0 10 11 (.ref q51)) fun σ54 => cb (nA σ54 0 (.inl (fun _ => 0)) 12 (12 : Int32)) fun q56 σ57 => ob (wF σ57 x0 10 12 (.ref q56)) fun σ59 => cb (nA σ59 0 (.inl (fun _ => 0)) 48 (48 : Int32)) fun q61 σ62 => ob (wF σ62 x0 10 13 (.ref q61)) fun σ64 => cb (nA σ64 1 (.inr (.inl (fun _ => 0))) 48 (48 : Int32)) fun q66 σ67 => ob (wF σ67 x0 10 14 (.ref q66)) fun σ69 => cb (nA σ69 2 (.inl (fun _ => 0)) 48 (48 : Int32)) fun q71 σ72 => ob (wF σ72 x0 10 15 (.ref q71)) fun σ74 => cb (nA σ74 0 (.inl (fun _ => 0)) 520 (520 : Int32)) fun q76 σ77 => ob (wF σ77 x0 10 17 (.ref q76)) fun σ79 => cb (nA σ79 0 (.inl (fun _ => 0)) 6240 (6240 : Int32)) fun q81 σ82 => ob (wF σ82 x0 10 18 (.ref q81)) fun σ84 => cb (nA σ84 0 (.inl (fun _ => 0)) 6240 (6240 : Int32)) fun q86 σ87 => ob (wF σ87 x0 10 19 (.ref q86)) fun σ89 => cb (nA σ89 1 (.inr (.inl (fun _ => 0))) 24960 (24960 : Int32)) fun q91 σ92 => ob (wF σ92 x0 10 20 (.ref q91)) fun σ94 => cb (nA σ94 1 (.inr (.inl (fun _ => 0))) 24960 (24960 : Int32)) fun q96 σ97 => ob (wF σ97 x0 10 21 (.ref q96)) fun σ99 => cb (nA σ99 0 (.inl (fun _ => 0)) 8 (8 : Int32)) fun q101 σ102 => ob (sI σ102 0 q101 (0 : Int32) (-3 : Int32)) fun σ104 => ob (sI σ104 0 q101 (1 : Int32) (-3 : Int32)) fun σ106 => ob (sI σ106 0 q101 (2 : Int32) (-3 : Int32)) fun σ108 => ob (sI σ108 0 q101 (3 : Int32) (-3 : Int32)) fun σ110 => ob (sI σ110 0 q101 (4 : Int32) (-3 : Int32)) fun σ112 => ob (sI σ112 0 q101 (5 : Int32) (-3 : Int32)) fun σ114 => ob (sI σ114 0 q101 (6 : Int32) (-3 : Int32)) fun σ116 => ob (sI σ116 0 q101 (7 : Int32) (-3 : Int32)) fun σ118 => ob (wF σ118 x0 10 22 (.ref q101)) fun σ120 => cb (nA σ120 0 (.inl (fun _ => 0)) 6 (6 : Int32)) fun q122 σ123 => ob (wF σ123 x0 10 24 (.ref q122)) fun σ125 => cb (nA σ125 0 (.inl (fun _ => 0)) 6 (6 : Int32)) fun q127 σ128 => ob (wF σ128 x0 10 25 (.ref q127)) fun σ130 => cb (nA σ130 0 (.inl (fun _ => 0)) 6 (6 : Int32)) fun q132 σ133 => ob (wF σ133 x0 10 26 (.ref q132)) fun σ135 => cb (nA σ135 1 (.inr (.inl (fun _ => 0))) 24 (24 : Int32)) fun q137 σ138 => ob (wF σ138 x0 10 27 (.ref q137)) fun σ140 => cb (nA σ140 0 (.inl (fun _ => 0)) 64 (64 : Int32)) fun q142 σ143 => ob (wF σ143 x0 10 29 (.ref q142)) fun σ145 => some ((), σ145)
set_option maxHeartbeats 4000000 in
set_option maxRecDepth 100000 in
theorem mX8_init (l : Launch) (E : hmG) {x0 : Nat} {σ σ' : hmS} {r : Unit} (h : fX8_init x0 σ = some (r, σ')) : Met l yX8_init [Cond.code yX8_init cX8_init 1 none] { frames := 1, cells := 26, slots := 63430, locals := 20 } (hmPc E [.ref x0] σ) (hmQc E none σ') 26 63430 (fun q => hmL E ≤ q) := by
  refine Met.ofW (cc := cX8_init) (maxL := 1) (ret := none) (by decide) rfl ?_
  intro p e s m args below meth c s₁ B hml hv
  obtain ⟨rfl, hK, hI⟩ := hv
  have S : CallFix p m c cX8_init 1 s ([.ref x0] : List Value).toArray [] RX8 := ⟨B.exec, B.bytes, hml, findClass_of_methodNamed B.named, fun w hw => by cases hw⟩
  have hx := S.1
  have hb := S.2.1
  have hr := B.returns
  have hlocks := B.notSynchronized
  have hin : meth.name = "<init>" := (name_of_methodNamed B.named B.method).1
  have hL : hmLo E [] := hmLo.nil
  have hl : lv_has ((lg_sl ([.ref x0]) ++ List.replicate (1 - (lg_sl ([.ref x0])).length) Slot.unset).toArray) 1 [(0, .ref x0)] := by exact lv_entry _ (Nat.le_of_ble_eq_true rfl)
  rw [lg_entry_eq]
  generalize (lg_sl ([.ref x0]) ++ List.replicate (1 - (lg_sl ([.ref x0])).length) Slot.unset).toArray = ls at hl ⊢
  generalize hRe : (headSpec [Cond.code yX8_init cX8_init 1 none] { frames := 1, cells := 26, slots := 63430, locals := 20 }).room = R
  have hR1 : R.frames = 1 ∧ R.cells = 26 ∧ R.slots = 63430 ∧ R.locals = 20 := by rw [← hRe]; exact ⟨rfl, rfl, rfl, rfl⟩
  clear hRe B hml
  generalize s.heap = H at hI ⊢
  generalize ([] : List Loc) = locs at hL ⊢
  have hmain := h
  clear h
  have h := hmain
  clear hmain
  unfold fX8_init at h
  refine lv_aload_n hx hb dX8_init_0 rfl (lv_at hl 0 rfl) ?_
  refine hm_objInit (i1 := 774) (i2 := 27) (i3 := 28) S hK (by decide +kernel) (by decide +kernel) (by decide +kernel) hl.1 dX8_init_1 (by omega) (Nat.le_of_ble_eq_true rfl) (by omega) ?_
  refine lv_aload_n hx hb dX8_init_4 rfl (lv_at hl 0 rfl) ?_
  refine lv_bipush (v := 12) hx hb dX8_init_5 (by decide) ?_
  replace h := cb_s h
  obtain ⟨q1, σ2, h3, h⟩ := h
  refine hm_newa (i := 135) S hK hI (by decide +kernel) rfl (by decide) (fun _ => rfl) h3 (by decide) (by omega) (by omega) dX8_init_7 (fun H hI => ?_)
  replace h := ob_s h
  obtain ⟨σ4, h5, h⟩ := h
  refine hm_putF S hK hI hL hin (pf_X8_7_10 hK) h5 ⟨rfl, rfl⟩ dX8_init_9 (fun H locs hI hL => ?_)
  refine lv_aload_n hx hb dX8_init_12 rfl (lv_at hl 0 rfl) ?_
  refine lv_bipush (v := 12) hx hb dX8_init_13 (by decide) ?_
  replace h := cb_s h
  obtain ⟨q6, σ7, h8, h⟩ := h
  refine hm_newa (i := 135) S hK hI (by decide +kernel) rfl (by decide) (fun _ => rfl) h8 (by decide) (by omega) (by omega) dX8_init_15 (fun H hI => ?_)
  replace h := ob_s h
  obtain ⟨σ9, h10, h⟩ := h
  refine hm_putF S hK hI hL hin (pf_X8_13_10 hK) h10 ⟨rfl, rfl⟩ dX8_init_17 (fun H locs hI hL => ?_)
  refine lv_aload_n hx hb dX8_init_20 rfl (lv_at hl 0 rfl) ?_
  refine lv_bipush (v := 12) hx hb dX8_init_21 (by decide) ?_
  replace h := cb_s h
  obtain ⟨q11, σ12, h13, h⟩ := h
  refine hm_newa (i := 135) S hK hI (by decide +kernel) rfl (by decide) (fun _ => rfl) h13 (by decide) (by omega) (by omega) dX8_init_23 (fun H hI => ?_)
  replace h := ob_s h
  obtain ⟨σ14, h15, h⟩ := h
  refine hm_putF S hK hI hL hin (pf_X8_16_10 hK) h15 ⟨rfl, rfl⟩ dX8_init_25 (fun H locs hI hL => ?_)
  refine lv_aload_n hx hb dX8_init_28 rfl (lv_at hl 0 rfl) ?_
  refine lv_bipush (v := 12) hx hb dX8_init_29 (by decide) ?_
  replace h := cb_s h
  obtain ⟨q16, σ17, h18, h⟩ := h
  refine hm_newa (i := 135) S hK hI (by decide +kernel) rfl (by decide) (fun _ => rfl) h18 (by decide) (by omega) (by omega) dX8_init_31 (fun H hI => ?_)
  replace h := ob_s h
  obtain ⟨σ19, h20, h⟩ := h
  refine hm_putF S hK hI hL hin (pf_X8_19_10 hK) h20 ⟨rfl, rfl⟩ dX8_init_33 (fun H locs hI hL => ?_)
  refine lv_aload_n hx hb dX8_init_36 rfl (lv_at hl 0 rfl) ?_
  refine lv_bipush (v := 12) hx hb dX8_init_37 (by decide) ?_
  replace h := cb_s h
  obtain ⟨q21, σ22, h23, h⟩ := h
  refine hm_newa (i := 135) S hK hI (by decide +kernel) rfl (by decide) (fun _ => rfl) h23 (by decide) (by omega) (by omega) dX8_init_39 (fun H hI => ?_)
  replace h := ob_s h
  obtain ⟨σ24, h25, h⟩ := h
  refine hm_putF S hK hI hL hin (pf_X8_22_10 hK) h25 ⟨rfl, rfl⟩ dX8_init_41 (fun H locs hI hL => ?_)
  refine lv_aload_n hx hb dX8_init_44 rfl (lv_at hl 0 rfl) ?_
  refine lv_bipush (v := 12) hx hb dX8_init_45 (by decide) ?_
  replace h := cb_s h
  obtain ⟨q26, σ27, h28, h⟩ := h
  refine hm_newa (i := 135) S hK hI (by decide +kernel) rfl (by decide) (fun _ => rfl) h28 (by decide) (by omega) (by omega) dX8_init_47 (fun H hI => ?_)
  replace h := ob_s h
  obtain ⟨σ29, h30, h⟩ := h
  refine hm_putF S hK hI hL hin (pf_X8_25_10 hK) h30 ⟨rfl, rfl⟩ dX8_init_49 (fun H locs hI hL => ?_)
  refine lv_aload_n hx hb dX8_init_52 rfl (lv_at hl 0 rfl) ?_
  refine lv_bipush (v := 12) hx hb dX8_init_53 (by decide) ?_
  replace h := cb_s h
  obtain ⟨q31, σ32, h33, h⟩ := h
  refine hm_newa (i := 135) S hK hI (by decide +kernel) rfl (by decide) (fun _ => rfl) h33 (by decide) (by omega) (by omega) dX8_init_55 (fun H hI => ?_)
  replace h := ob_s h
  obtain ⟨σ34, h35, h⟩ := h
  refine hm_putF S hK hI hL hin (pf_X8_28_10 hK) h35 ⟨rfl, rfl⟩ dX8_init_57 (fun H locs hI hL => ?_)
  refine lv_aload_n hx hb dX8_init_60 rfl (lv_at hl 0 rfl) ?_
  refine lv_bipush (v := 48) hx hb dX8_init_61 (by decide) ?_
  replace h := cb_s h
  obtain ⟨q36, σ37, h38, h⟩ := h
  refine hm_newa (i := 135) S hK hI (by decide +kernel) rfl (by decide) (fun _ => rfl) h38 (by decide) (by omega) (by omega) dX8_init_63 (fun H hI => ?_)
  replace h := ob_s h
  obtain ⟨σ39, h40, h⟩ := h
  refine hm_putF S hK hI hL hin (pf_X8_31_10 hK) h40 ⟨rfl, rfl⟩ dX8_init_65 (fun H locs hI hL => ?_)
  refine lv_aload_n hx hb dX8_init_68 rfl (lv_at hl 0 rfl) ?_
  refine lv_bipush (v := 48) hx hb dX8_init_69 (by decide) ?_
  replace h := cb_s h
  obtain ⟨q41, σ42, h43, h⟩ := h
  refine hm_newa (i := 136) S hK hI (by decide +kernel) rfl (by decide) (fun _ => rfl) h43 (by decide) (by omega) (by omega) dX8_init_71 (fun H hI => ?_)
  replace h := ob_s h
  obtain ⟨σ44, h45, h⟩ := h
  refine hm_putF S hK hI hL hin (pf_X8_34_10 hK) h45 ⟨rfl, rfl⟩ dX8_init_73 (fun H locs hI hL => ?_)
  refine lv_aload_n hx hb dX8_init_76 rfl (lv_at hl 0 rfl) ?_
  refine lv_bipush (v := 48) hx hb dX8_init_77 (by decide) ?_
  replace h := cb_s h
  obtain ⟨q46, σ47, h48, h⟩ := h
  refine hm_newa (i := 137) S hK hI (by decide +kernel) rfl (by decide) (fun _ => rfl) h48 (by decide) (by omega) (by omega) dX8_init_79 (fun H hI => ?_)
  replace h := ob_s h
  obtain ⟨σ49, h50, h⟩ := h
  refine hm_putF S hK hI hL hin (pf_X8_38_10 hK) h50 ⟨rfl, rfl⟩ dX8_init_81 (fun H locs hI hL => ?_)
  refine lv_aload_n hx hb dX8_init_84 rfl (lv_at hl 0 rfl) ?_
  refine lv_bipush (v := 12) hx hb dX8_init_85 (by decide) ?_
  replace h := cb_s h
  obtain ⟨q51, σ52, h53, h⟩ := h
  refine hm_newa (i := 137) S hK hI (by decide +kernel) rfl (by decide) (fun _ => rfl) h53 (by decide) (by omega) (by omega) dX8_init_87 (fun H hI => ?_)
  replace h := ob_s h
  obtain ⟨σ54, h55, h⟩ := h
  refine hm_putF S hK hI hL hin (pf_X8_42_10 hK) h55 ⟨rfl, rfl⟩ dX8_init_89 (fun H locs hI hL => ?_)
  refine lv_aload_n hx hb dX8_init_92 rfl (lv_at hl 0 rfl) ?_
  refine lv_bipush (v := 12) hx hb dX8_init_93 (by decide) ?_
  replace h := cb_s h
  obtain ⟨q56, σ57, h58, h⟩ := h
  refine hm_newa (i := 135) S hK hI (by decide +kernel) rfl (by decide) (fun _ => rfl) h58 (by decide) (by omega) (by omega) dX8_init_95 (fun H hI => ?_)
  replace h := ob_s h
  obtain ⟨σ59, h60, h⟩ := h
  refine hm_putF S hK hI hL hin (pf_X8_45_10 hK) h60 ⟨rfl, rfl⟩ dX8_init_97 (fun H locs hI hL => ?_)
  refine lv_aload_n hx hb dX8_init_100 rfl (lv_at hl 0 rfl) ?_
  refine lv_bipush (v := 48) hx hb dX8_init_101 (by decide) ?_
  replace h := cb_s h
  obtain ⟨q61, σ62, h63, h⟩ := h
  refine hm_newa (i := 135) S hK hI (by decide +kernel) rfl (by decide) (fun _ => rfl) h63 (by decide) (by omega) (by omega) dX8_init_103 (fun H hI => ?_)
  replace h := ob_s h
  obtain ⟨σ64, h65, h⟩ := h
  refine hm_putF S hK hI hL hin (pf_X8_48_10 hK) h65 ⟨rfl, rfl⟩ dX8_init_105 (fun H locs hI hL => ?_)
  refine lv_aload_n hx hb dX8_init_108 rfl (lv_at hl 0 rfl) ?_
  refine lv_bipush (v := 48) hx hb dX8_init_109 (by decide) ?_
  replace h := cb_s h
  obtain ⟨q66, σ67, h68, h⟩ := h
  refine hm_newa (i := 136) S hK hI (by decide +kernel) rfl (by decide) (fun _ => rfl) h68 (by decide) (by omega) (by omega) dX8_init_111 (fun H hI => ?_)
  replace h := ob_s h
  obtain ⟨σ69, h70, h⟩ := h
  refine hm_putF S hK hI hL hin (pf_X8_51_10 hK) h70 ⟨rfl, rfl⟩ dX8_init_113 (fun H locs hI hL => ?_)
  refine lv_aload_n hx hb dX8_init_116 rfl (lv_at hl 0 rfl) ?_
  refine lv_bipush (v := 48) hx hb dX8_init_117 (by decide) ?_
  replace h := cb_s h
  obtain ⟨q71, σ72, h73, h⟩ := h
  refine hm_newa (i := 137) S hK hI (by decide +kernel) rfl (by decide) (fun _ => rfl) h73 (by decide) (by omega) (by omega) dX8_init_119 (fun H hI => ?_)
  replace h := ob_s h
  obtain ⟨σ74, h75, h⟩ := h
  refine hm_putF S hK hI hL hin (pf_X8_54_10 hK) h75 ⟨rfl, rfl⟩ dX8_init_121 (fun H locs hI hL => ?_)
  refine lv_aload_n hx hb dX8_init_124 rfl (lv_at hl 0 rfl) ?_
  refine lv_sipush (v := 520) hx hb dX8_init_125 (by decide) ?_
  replace h := cb_s h
  obtain ⟨q76, σ77, h78, h⟩ := h
  refine hm_newa (i := 135) S hK hI (by decide +kernel) rfl (by decide) (fun _ => rfl) h78 (by decide) (by omega) (by omega) dX8_init_128 (fun H hI => ?_)
  replace h := ob_s h
  obtain ⟨σ79, h80, h⟩ := h
  refine hm_putF S hK hI hL hin (pf_X8_57_10 hK) h80 ⟨rfl, rfl⟩ dX8_init_130 (fun H locs hI hL => ?_)
  refine lv_aload_n hx hb dX8_init_133 rfl (lv_at hl 0 rfl) ?_
  refine lv_sipush (v := 6240) hx hb dX8_init_134 (by decide) ?_
  replace h := cb_s h
  obtain ⟨q81, σ82, h83, h⟩ := h
  refine hm_newa (i := 135) S hK hI (by decide +kernel) rfl (by decide) (fun _ => rfl) h83 (by decide) (by omega) (by omega) dX8_init_137 (fun H hI => ?_)
  replace h := ob_s h
  obtain ⟨σ84, h85, h⟩ := h
  refine hm_putF S hK hI hL hin (pf_X8_60_10 hK) h85 ⟨rfl, rfl⟩ dX8_init_139 (fun H locs hI hL => ?_)
  refine lv_aload_n hx hb dX8_init_142 rfl (lv_at hl 0 rfl) ?_
  refine lv_sipush (v := 6240) hx hb dX8_init_143 (by decide) ?_
  replace h := cb_s h
  obtain ⟨q86, σ87, h88, h⟩ := h
  refine hm_newa (i := 135) S hK hI (by decide +kernel) rfl (by decide) (fun _ => rfl) h88 (by decide) (by omega) (by omega) dX8_init_146 (fun H hI => ?_)
  replace h := ob_s h
  obtain ⟨σ89, h90, h⟩ := h
  refine hm_putF S hK hI hL hin (pf_X8_63_10 hK) h90 ⟨rfl, rfl⟩ dX8_init_148 (fun H locs hI hL => ?_)
  refine lv_aload_n hx hb dX8_init_151 rfl (lv_at hl 0 rfl) ?_
  refine lv_sipush (v := 24960) hx hb dX8_init_152 (by decide) ?_
  replace h := cb_s h
  obtain ⟨q91, σ92, h93, h⟩ := h
  refine hm_newa (i := 136) S hK hI (by decide +kernel) rfl (by decide) (fun _ => rfl) h93 (by decide) (by omega) (by omega) dX8_init_155 (fun H hI => ?_)
  replace h := ob_s h
  obtain ⟨σ94, h95, h⟩ := h
  refine hm_putF S hK hI hL hin (pf_X8_66_10 hK) h95 ⟨rfl, rfl⟩ dX8_init_157 (fun H locs hI hL => ?_)
  refine lv_aload_n hx hb dX8_init_160 rfl (lv_at hl 0 rfl) ?_
  refine lv_sipush (v := 24960) hx hb dX8_init_161 (by decide) ?_
  replace h := cb_s h
  obtain ⟨q96, σ97, h98, h⟩ := h
  refine hm_newa (i := 136) S hK hI (by decide +kernel) rfl (by decide) (fun _ => rfl) h98 (by decide) (by omega) (by omega) dX8_init_164 (fun H hI => ?_)
  replace h := ob_s h
  obtain ⟨σ99, h100, h⟩ := h
  refine hm_putF S hK hI hL hin (pf_X8_69_10 hK) h100 ⟨rfl, rfl⟩ dX8_init_166 (fun H locs hI hL => ?_)
  refine lv_aload_n hx hb dX8_init_169 rfl (lv_at hl 0 rfl) ?_
  refine lv_bipush (v := 8) hx hb dX8_init_170 (by decide) ?_
  replace h := cb_s h
  obtain ⟨q101, σ102, h103, h⟩ := h
  refine hm_newa (i := 135) S hK hI (by decide +kernel) rfl (by decide) (fun _ => rfl) h103 (by decide) (by omega) (by omega) dX8_init_172 (fun H hI => ?_)
  refine lv_dup hx hb dX8_init_174 rfl ?_
  refine lv_iconst (v := 0) hx hb dX8_init_175 (by decide) ?_
  refine lv_bipush (v := -3) hx hb dX8_init_176 (by decide) ?_
  replace h := ob_s h
  obtain ⟨σ104, h105, h⟩ := h
  refine hm_iast S hK hI hL h105 dX8_init_178 (fun H locs hI hL => ?_)
  refine lv_dup hx hb dX8_init_179 rfl ?_
  refine lv_iconst (v := 1) hx hb dX8_init_180 (by decide) ?_
  refine lv_bipush (v := -3) hx hb dX8_init_181 (by decide) ?_
  replace h := ob_s h
  obtain ⟨σ106, h107, h⟩ := h
  refine hm_iast S hK hI hL h107 dX8_init_183 (fun H locs hI hL => ?_)
  refine lv_dup hx hb dX8_init_184 rfl ?_
  refine lv_iconst (v := 2) hx hb dX8_init_185 (by decide) ?_
  refine lv_bipush (v := -3) hx hb dX8_init_186 (by decide) ?_
  replace h := ob_s h
  obtain ⟨σ108, h109, h⟩ := h
  refine hm_iast S hK hI hL h109 dX8_init_188 (fun H locs hI hL => ?_)
  refine lv_dup hx hb dX8_init_189 rfl ?_
  refine lv_iconst (v := 3) hx hb dX8_init_190 (by decide) ?_
  refine lv_bipush (v := -3) hx hb dX8_init_191 (by decide) ?_
  replace h := ob_s h
  obtain ⟨σ110, h111, h⟩ := h
  refine hm_iast S hK hI hL h111 dX8_init_193 (fun H locs hI hL => ?_)
  refine lv_dup hx hb dX8_init_194 rfl ?_
  refine lv_iconst (v := 4) hx hb dX8_init_195 (by decide) ?_
  refine lv_bipush (v := -3) hx hb dX8_init_196 (by decide) ?_
  replace h := ob_s h
  obtain ⟨σ112, h113, h⟩ := h
  refine hm_iast S hK hI hL h113 dX8_init_198 (fun H locs hI hL => ?_)
  refine lv_dup hx hb dX8_init_199 rfl ?_
  refine lv_iconst (v := 5) hx hb dX8_init_200 (by decide) ?_
  refine lv_bipush (v := -3) hx hb dX8_init_201 (by decide) ?_
  replace h := ob_s h
  obtain ⟨σ114, h115, h⟩ := h
  refine hm_iast S hK hI hL h115 dX8_init_203 (fun H locs hI hL => ?_)
  refine lv_dup hx hb dX8_init_204 rfl ?_
  refine lv_bipush (v := 6) hx hb dX8_init_205 (by decide) ?_
  refine lv_bipush (v := -3) hx hb dX8_init_207 (by decide) ?_
  replace h := ob_s h
  obtain ⟨σ116, h117, h⟩ := h
  refine hm_iast S hK hI hL h117 dX8_init_209 (fun H locs hI hL => ?_)
  refine lv_dup hx hb dX8_init_210 rfl ?_
  refine lv_bipush (v := 7) hx hb dX8_init_211 (by decide) ?_
  refine lv_bipush (v := -3) hx hb dX8_init_213 (by decide) ?_
  replace h := ob_s h
  obtain ⟨σ118, h119, h⟩ := h
  refine hm_iast S hK hI hL h119 dX8_init_215 (fun H locs hI hL => ?_)
  replace h := ob_s h
  obtain ⟨σ120, h121, h⟩ := h
  refine hm_putF S hK hI hL hin (pf_X8_72_10 hK) h121 ⟨rfl, rfl⟩ dX8_init_216 (fun H locs hI hL => ?_)
  refine lv_aload_n hx hb dX8_init_219 rfl (lv_at hl 0 rfl) ?_
  refine lv_bipush (v := 6) hx hb dX8_init_220 (by decide) ?_
  replace h := cb_s h
  obtain ⟨q122, σ123, h124, h⟩ := h
  refine hm_newa (i := 135) S hK hI (by decide +kernel) rfl (by decide) (fun _ => rfl) h124 (by decide) (by omega) (by omega) dX8_init_222 (fun H hI => ?_)
  replace h := ob_s h
  obtain ⟨σ125, h126, h⟩ := h
  refine hm_putF S hK hI hL hin (pf_X8_75_10 hK) h126 ⟨rfl, rfl⟩ dX8_init_224 (fun H locs hI hL => ?_)
  refine lv_aload_n hx hb dX8_init_227 rfl (lv_at hl 0 rfl) ?_
  refine lv_bipush (v := 6) hx hb dX8_init_228 (by decide) ?_
  replace h := cb_s h
  obtain ⟨q127, σ128, h129, h⟩ := h
  refine hm_newa (i := 135) S hK hI (by decide +kernel) rfl (by decide) (fun _ => rfl) h129 (by decide) (by omega) (by omega) dX8_init_230 (fun H hI => ?_)
  replace h := ob_s h
  obtain ⟨σ130, h131, h⟩ := h
  refine hm_putF S hK hI hL hin (pf_X8_78_10 hK) h131 ⟨rfl, rfl⟩ dX8_init_232 (fun H locs hI hL => ?_)
  refine lv_aload_n hx hb dX8_init_235 rfl (lv_at hl 0 rfl) ?_
  refine lv_bipush (v := 6) hx hb dX8_init_236 (by decide) ?_
  replace h := cb_s h
  obtain ⟨q132, σ133, h134, h⟩ := h
  refine hm_newa (i := 135) S hK hI (by decide +kernel) rfl (by decide) (fun _ => rfl) h134 (by decide) (by omega) (by omega) dX8_init_238 (fun H hI => ?_)
  replace h := ob_s h
  obtain ⟨σ135, h136, h⟩ := h
  refine hm_putF S hK hI hL hin (pf_X8_81_10 hK) h136 ⟨rfl, rfl⟩ dX8_init_240 (fun H locs hI hL => ?_)
  refine lv_aload_n hx hb dX8_init_243 rfl (lv_at hl 0 rfl) ?_
  refine lv_bipush (v := 24) hx hb dX8_init_244 (by decide) ?_
  replace h := cb_s h
  obtain ⟨q137, σ138, h139, h⟩ := h
  refine hm_newa (i := 136) S hK hI (by decide +kernel) rfl (by decide) (fun _ => rfl) h139 (by decide) (by omega) (by omega) dX8_init_246 (fun H hI => ?_)
  replace h := ob_s h
  obtain ⟨σ140, h141, h⟩ := h
  refine hm_putF S hK hI hL hin (pf_X8_84_10 hK) h141 ⟨rfl, rfl⟩ dX8_init_248 (fun H locs hI hL => ?_)
  refine lv_aload_n hx hb dX8_init_251 rfl (lv_at hl 0 rfl) ?_
  refine lv_bipush (v := 64) hx hb dX8_init_252 (by decide) ?_
  replace h := cb_s h
  obtain ⟨q142, σ143, h144, h⟩ := h
  refine hm_newa (i := 135) S hK hI (by decide +kernel) rfl (by decide) (fun _ => rfl) h144 (by decide) (by omega) (by omega) dX8_init_254 (fun H hI => ?_)
  replace h := ob_s h
  obtain ⟨σ145, h146, h⟩ := h
  refine hm_putF S hK hI hL hin (pf_X8_87_10 hK) h146 ⟨rfl, rfl⟩ dX8_init_256 (fun H locs hI hL => ?_)
  exact hm_vret hx hb hr hI hL h (by omega) (by omega) hlocks dX8_init_259

def fX8_in (x0 : Int32) (x1 : Int32) (x2 : Int32) (σ : hmS) : Option (Int32 × hmS) :=
  if x0 < x1 then
    some ((0 : Int32), σ)
  else
    if x2 < x0 then
      some ((0 : Int32), σ)
    else
      some ((1 : Int32), σ)
set_option maxHeartbeats 4000000 in
set_option maxRecDepth 100000 in
theorem mX8_in (l : Launch) (E : hmG) {x0 : Int32} {x1 : Int32} {x2 : Int32} {σ σ' : hmS} {r : Int32} (h : fX8_in x0 x1 x2 σ = some (r, σ')) : Met l yX8_in [Cond.code yX8_in cX8_in 3 (some .boolean)] { frames := 0, cells := 0, slots := 0, locals := 0 } (hmPc E [.int x0, .int x1, .int x2] σ) (hmQc E (some (.int r)) σ') 0 0 (fun q => hmL E ≤ q) := by
  refine Met.ofW (cc := cX8_in) (maxL := 3) (ret := (some .boolean)) (by decide) rfl ?_
  intro p e s m args below meth c s₁ B hml hv
  obtain ⟨rfl, hK, hI⟩ := hv
  have S : CallFix p m c cX8_in 3 s ([.int x0, .int x1, .int x2] : List Value).toArray [] RX8 := ⟨B.exec, B.bytes, hml, findClass_of_methodNamed B.named, fun w hw => by cases hw⟩
  have hx := S.1
  have hb := S.2.1
  have hr := B.returns
  have hlocks := B.notSynchronized
  have hL : hmLo E [] := hmLo.nil
  have hl : lv_has ((lg_sl ([.int x0, .int x1, .int x2]) ++ List.replicate (3 - (lg_sl ([.int x0, .int x1, .int x2])).length) Slot.unset).toArray) 3 [(0, .int x0), (1, .int x1), (2, .int x2)] := by exact lv_entry _ (Nat.le_of_ble_eq_true rfl)
  rw [lg_entry_eq]
  generalize (lg_sl ([.int x0, .int x1, .int x2]) ++ List.replicate (3 - (lg_sl ([.int x0, .int x1, .int x2])).length) Slot.unset).toArray = ls at hl ⊢
  generalize hRe : (headSpec [Cond.code yX8_in cX8_in 3 (some .boolean)] { frames := 0, cells := 0, slots := 0, locals := 0 }).room = R
  have hR1 : R.frames = 0 ∧ R.cells = 0 ∧ R.slots = 0 ∧ R.locals = 0 := by rw [← hRe]; exact ⟨rfl, rfl, rfl, rfl⟩
  clear hRe B hml
  generalize s.heap = H at hI ⊢
  generalize ([] : List Loc) = locs at hL ⊢
  have hmain := h
  clear h
  have h := hmain
  clear hmain
  unfold fX8_in at h
  refine lv_iload_n hx hb dX8_in_0 rfl (lv_at hl 0 rfl) ?_
  refine lv_iload_n hx hb dX8_in_1 rfl (lv_at hl 1 rfl) ?_
  refine lv_icmp_lt (tgt := 14) hx hb dX8_in_2 (by decide) (fun c1 => ?_) (fun c1 => ?_)
  · replace h := it_p c1 h
    refine lv_iconst (v := 0) hx hb dX8_in_14 (by decide) ?_
    exact hm_zret hx hb hr rfl hI hL h (by omega) (by omega) hlocks dX8_in_15
  · replace h := it_n c1 h
    refine lv_iload_n hx hb dX8_in_5 rfl (lv_at hl 0 rfl) ?_
    refine lv_iload_n hx hb dX8_in_6 rfl (lv_at hl 2 rfl) ?_
    refine lv_icmp_gt (tgt := 14) hx hb dX8_in_7 (by decide) (fun c2 => ?_) (fun c2 => ?_)
    · replace h := it_p c2 h
      refine lv_iconst (v := 0) hx hb dX8_in_14 (by decide) ?_
      exact hm_zret hx hb hr rfl hI hL h (by omega) (by omega) hlocks dX8_in_15
    · replace h := it_n c2 h
      refine lv_iconst (v := 1) hx hb dX8_in_10 (by decide) ?_
      refine lv_goto (tgt := 15) hx hb dX8_in_11 (by decide) ?_
      exact hm_zret hx hb hr rfl hI hL h (by omega) (by omega) hlocks dX8_in_15

def fX8_isType (x0 : Nat) (x1 : Int32) (σ : hmS) : Option (Int32 × hmS) :=
  ob (gI σ x0 10 0) fun f1 => cb (fX8_in x1 (0 : Int32) (f1 - (1 : Int32)) σ) fun r5 σ4 => ob (okZ r5) fun _ => some (r5, σ4)
set_option maxHeartbeats 4000000 in
set_option maxRecDepth 100000 in
theorem mX8_isType (l : Launch) (E : hmG) {x0 : Nat} {x1 : Int32} {σ σ' : hmS} {r : Int32} (h : fX8_isType x0 x1 σ = some (r, σ')) : Met l yX8_isType [Cond.code yX8_isType cX8_isType 2 (some .boolean)] { frames := 1, cells := 0, slots := 0, locals := 22 } (hmPc E [.ref x0, .int x1] σ) (hmQc E (some (.int r)) σ') 0 0 (fun q => hmL E ≤ q) := by
  refine Met.ofW (cc := cX8_isType) (maxL := 2) (ret := (some .boolean)) (by decide) rfl ?_
  intro p e s m args below meth c s₁ B hml hv
  obtain ⟨rfl, hK, hI⟩ := hv
  have S : CallFix p m c cX8_isType 2 s ([.ref x0, .int x1] : List Value).toArray [] RX8 := ⟨B.exec, B.bytes, hml, findClass_of_methodNamed B.named, fun w hw => by cases hw⟩
  have hx := S.1
  have hb := S.2.1
  have hr := B.returns
  have hlocks := B.notSynchronized
  have hL : hmLo E [] := hmLo.nil
  have hl : lv_has ((lg_sl ([.ref x0, .int x1]) ++ List.replicate (2 - (lg_sl ([.ref x0, .int x1])).length) Slot.unset).toArray) 2 [(0, .ref x0), (1, .int x1)] := by exact lv_entry _ (Nat.le_of_ble_eq_true rfl)
  rw [lg_entry_eq]
  generalize (lg_sl ([.ref x0, .int x1]) ++ List.replicate (2 - (lg_sl ([.ref x0, .int x1])).length) Slot.unset).toArray = ls at hl ⊢
  generalize hRe : (headSpec [Cond.code yX8_isType cX8_isType 2 (some .boolean)] { frames := 1, cells := 0, slots := 0, locals := 22 }).room = R
  have hR1 : R.frames = 1 ∧ R.cells = 0 ∧ R.slots = 0 ∧ R.locals = 22 := by rw [← hRe]; exact ⟨rfl, rfl, rfl, rfl⟩
  clear hRe B hml
  generalize s.heap = H at hI ⊢
  generalize ([] : List Loc) = locs at hL ⊢
  have hmain := h
  clear h
  have h := hmain
  clear hmain
  unfold fX8_isType at h
  refine lv_iload_n hx hb dX8_isType_0 rfl (lv_at hl 1 rfl) ?_
  refine lv_iconst (v := 0) hx hb dX8_isType_1 (by decide) ?_
  refine lv_aload_n hx hb dX8_isType_2 rfl (lv_at hl 0 rfl) ?_
  replace h := ob_s h
  obtain ⟨f1, h2, h⟩ := h
  refine hm_get S hK hI (pf_X8_90_10 hK) (gI_s h2) dX8_isType_3 ?_
  refine lv_iconst (v := 1) hx hb dX8_isType_6 (by decide) ?_
  refine lv_isub hx hb dX8_isType_7 ?_
  replace h := cb_s h
  obtain ⟨r5, σ4, h3, h⟩ := h
  refine hm_call (hm_runS (As := [.int x1, .int (0 : Int32), .int (f1 - (1 : Int32))]) (rest := []) S hK hI (mX8_in l E h3) (pm_X8_94 hK) (ps_X8_in hK) ⟨by omega, by omega⟩ rfl hl.1 (Nat.le_of_ble_eq_true rfl) ⟨by omega, by omega⟩ dX8_isType_8) hL (fun H locs hI hL => ?_)
  replace h := ob_s h
  obtain ⟨_, z6, h⟩ := h
  exact hm_zret hx hb hr (okZ_n z6).1 hI hL h (by omega) (by omega) hlocks dX8_isType_11

def fX8_isTaken_J175 (x0 : Nat) (x1 : Int32) (x2 : Int32) (x3 : Int32) (K110 : Int32 → Int32 → hmS → Option (Int32 × hmS)) (v5 : Int32) (w0 : Int32) (w1 : Int32) (σ : hmS) : Option (Int32 × hmS) :=
  K110 (w1 ||| w0) (v5 + (1 : Int32)) σ
def fX8_isTaken_J174 (x0 : Nat) (x1 : Int32) (x2 : Int32) (x3 : Int32) (K110 : Int32 → Int32 → hmS → Option (Int32 × hmS)) (v5 : Int32) (w0 : Int32) (σ : hmS) : Option (Int32 × hmS) :=
  fX8_isTaken_J175 x0 x1 x2 x3 K110 v5 (0 : Int32) w0 σ
def fX8_isTaken_J148 (x0 : Nat) (x1 : Int32) (x2 : Int32) (x3 : Int32) (K110 : Int32 → Int32 → hmS → Option (Int32 × hmS)) (v5 : Int32) (w0 : Int32) (σ : hmS) : Option (Int32 × hmS) :=
  ob (gR σ x0 10 2) fun f1 => ob f1 fun a3 => ob (aI σ 0 a3 v5) fun e4 => if e4 = x2 then
    ob (gR σ x0 10 3) fun f7 => ob f7 fun a9 => ob (aI σ 0 a9 v5) fun e10 => if e10 = x3 then
      fX8_isTaken_J175 x0 x1 x2 x3 K110 v5 (1 : Int32) w0 σ
    else
      fX8_isTaken_J174 x0 x1 x2 x3 K110 v5 w0 σ
  else
    fX8_isTaken_J174 x0 x1 x2 x3 K110 v5 w0 σ
def fX8_isTaken_B110 (x0 : Nat) (x1 : Int32) (x2 : Int32) (x3 : Int32)  (K110 : Int32 → Int32 → hmS → Option (Int32 × hmS)) (v4 : Int32) (v5 : Int32) (σ : hmS) : Option (Int32 × hmS) :=
  ob (gI σ x0 10 0) fun f1 => if f1 ≤ v5 then
    ob (okZ v4) fun _ => some (v4, σ)
  else
    if (3 : Int32) ≤ x1 then
      ob (okZ v4) fun _ => some (v4, σ)
    else
      ob (gR σ x0 10 1) fun f7 => ob f7 fun a9 => ob (aI σ 0 a9 v5) fun e10 => if e10 = (1 : Int32) then
        fX8_isTaken_J148 x0 x1 x2 x3 K110 v5 v4 σ
      else
        ob (gR σ x0 10 1) fun f13 => ob f13 fun a15 => ob (aI σ 0 a15 v5) fun e16 => if e16 = (2 : Int32) then
          fX8_isTaken_J148 x0 x1 x2 x3 K110 v5 v4 σ
        else
          fX8_isTaken_J174 x0 x1 x2 x3 K110 v5 v4 σ
def fX8_isTaken_L110 (x0 : Nat) (x1 : Int32) (x2 : Int32) (x3 : Int32)  : Nat → Int32 → Int32 → hmS → Option (Int32 × hmS)
  | 0 => fun _ _ _ => none
  | n + 1 => fX8_isTaken_B110 x0 x1 x2 x3  (fX8_isTaken_L110 x0 x1 x2 x3  n)
def fX8_isTaken_J92 (x0 : Nat) (x1 : Int32) (x2 : Int32) (x3 : Int32) (K69 : Int32 → Int32 → hmS → Option (Int32 × hmS)) (v5 : Int32) (w0 : Int32) (w1 : Int32) (σ : hmS) : Option (Int32 × hmS) :=
  ob (gR σ x0 10 2) fun f1 => ob f1 fun a3 => ob (aI σ 0 a3 v5) fun e4 => K69 (w1 ||| w0) e4 σ
def fX8_isTaken_B69 (x0 : Nat) (x1 : Int32) (x2 : Int32) (x3 : Int32)  (K69 : Int32 → Int32 → hmS → Option (Int32 × hmS)) (v4 : Int32) (v5 : Int32) (σ : hmS) : Option (Int32 × hmS) :=
  if v5 < 0 then
    fX8_isTaken_L110 x0 x1 x2 x3 20 v4 (0 : Int32) σ
  else
    ob (gR σ x0 10 3) fun f2 => ob f2 fun a4 => ob (aI σ 0 a4 v5) fun e5 => if e5 = x3 then
      fX8_isTaken_J92 x0 x1 x2 x3 K69 v5 (1 : Int32) v4 σ
    else
      fX8_isTaken_J92 x0 x1 x2 x3 K69 v5 (0 : Int32) v4 σ
def fX8_isTaken_L69 (x0 : Nat) (x1 : Int32) (x2 : Int32) (x3 : Int32)  : Nat → Int32 → Int32 → hmS → Option (Int32 × hmS)
  | 0 => fun _ _ _ => none
  | n + 1 => fX8_isTaken_B69 x0 x1 x2 x3  (fX8_isTaken_L69 x0 x1 x2 x3  n)
def fX8_isTaken_J47 (x0 : Nat) (x1 : Int32) (x2 : Int32) (x3 : Int32) (K10 : Int32 → Int32 → hmS → Option (Int32 × hmS)) (v5 : Int32) (w0 : Int32) (w1 : Int32) (σ : hmS) : Option (Int32 × hmS) :=
  K10 (w1 ||| w0) (v5 + (1 : Int32)) σ
def fX8_isTaken_J46 (x0 : Nat) (x1 : Int32) (x2 : Int32) (x3 : Int32) (K10 : Int32 → Int32 → hmS → Option (Int32 × hmS)) (v5 : Int32) (w0 : Int32) (σ : hmS) : Option (Int32 × hmS) :=
  fX8_isTaken_J47 x0 x1 x2 x3 K10 v5 (0 : Int32) w0 σ
def fX8_isTaken_B10 (x0 : Nat) (x1 : Int32) (x2 : Int32) (x3 : Int32)  (K10 : Int32 → Int32 → hmS → Option (Int32 × hmS)) (v4 : Int32) (v5 : Int32) (σ : hmS) : Option (Int32 × hmS) :=
  ob (gI σ x0 10 0) fun f1 => if f1 ≤ v5 then
    ob (okZ v4) fun _ => some (v4, σ)
  else
    ob (gR σ x0 10 1) fun f5 => ob f5 fun a7 => ob (aI σ 0 a7 v5) fun e8 => if e8 = 0 then
      ob (gR σ x0 10 3) fun f11 => ob f11 fun a13 => ob (aI σ 0 a13 v5) fun e14 => if e14 = x3 then
        fX8_isTaken_J47 x0 x1 x2 x3 K10 v5 (1 : Int32) v4 σ
      else
        fX8_isTaken_J46 x0 x1 x2 x3 K10 v5 v4 σ
    else
      fX8_isTaken_J46 x0 x1 x2 x3 K10 v5 v4 σ
def fX8_isTaken_L10 (x0 : Nat) (x1 : Int32) (x2 : Int32) (x3 : Int32)  : Nat → Int32 → Int32 → hmS → Option (Int32 × hmS)
  | 0 => fun _ _ _ => none
  | n + 1 => fX8_isTaken_B10 x0 x1 x2 x3  (fX8_isTaken_L10 x0 x1 x2 x3  n)
def fX8_isTaken (x0 : Nat) (x1 : Int32) (x2 : Int32) (x3 : Int32) (σ : hmS) : Option (Int32 × hmS) :=
  if x1 = 0 then
    fX8_isTaken_L10 x0 x1 x2 x3 20 (0 : Int32) (0 : Int32) σ
  else
    if x1 = (5 : Int32) then
      some ((0 : Int32), σ)
    else
      fX8_isTaken_L69 x0 x1 x2 x3 20 (0 : Int32) x2 σ
set_option maxHeartbeats 4000000 in
set_option maxRecDepth 100000 in
theorem mX8_isTaken (l : Launch) (E : hmG) {x0 : Nat} {x1 : Int32} {x2 : Int32} {x3 : Int32} {σ σ' : hmS} {r : Int32} (h : fX8_isTaken x0 x1 x2 x3 σ = some (r, σ')) : Met l yX8_isTaken [Cond.code yX8_isTaken cX8_isTaken 6 (some .boolean)] { frames := 0, cells := 0, slots := 0, locals := 0 } (hmPc E [.ref x0, .int x1, .int x2, .int x3] σ) (hmQc E (some (.int r)) σ') 0 0 (fun q => hmL E ≤ q) := by
  refine Met.ofW (cc := cX8_isTaken) (maxL := 6) (ret := (some .boolean)) (by decide) rfl ?_
  intro p e s m args below meth c s₁ B hml hv
  obtain ⟨rfl, hK, hI⟩ := hv
  have S : CallFix p m c cX8_isTaken 6 s ([.ref x0, .int x1, .int x2, .int x3] : List Value).toArray [] RX8 := ⟨B.exec, B.bytes, hml, findClass_of_methodNamed B.named, fun w hw => by cases hw⟩
  have hx := S.1
  have hb := S.2.1
  have hr := B.returns
  have hlocks := B.notSynchronized
  have hL : hmLo E [] := hmLo.nil
  have hl : lv_has ((lg_sl ([.ref x0, .int x1, .int x2, .int x3]) ++ List.replicate (6 - (lg_sl ([.ref x0, .int x1, .int x2, .int x3])).length) Slot.unset).toArray) 6 [(0, .ref x0), (1, .int x1), (2, .int x2), (3, .int x3)] := by exact lv_entry _ (Nat.le_of_ble_eq_true rfl)
  rw [lg_entry_eq]
  generalize (lg_sl ([.ref x0, .int x1, .int x2, .int x3]) ++ List.replicate (6 - (lg_sl ([.ref x0, .int x1, .int x2, .int x3])).length) Slot.unset).toArray = ls at hl ⊢
  generalize hRe : (headSpec [Cond.code yX8_isTaken cX8_isTaken 6 (some .boolean)] { frames := 0, cells := 0, slots := 0, locals := 0 }).room = R
  have hR1 : R.frames = 0 ∧ R.cells = 0 ∧ R.slots = 0 ∧ R.locals = 0 := by rw [← hRe]; exact ⟨rfl, rfl, rfl, rfl⟩
  clear hRe B hml
  generalize s.heap = H at hI ⊢
  generalize ([] : List Loc) = locs at hL ⊢
  have hmain := h
  clear h
  have hB110 : ∀ (K110 : Int32 → Int32 → hmS → Option (Int32 × hmS)), (∀ (v4 : Int32) (v5 : Int32) (σ : hmS) (H : Heap) (locs : List Loc) (ls : Array Slot), K110 v4 v5 σ = some (r, σ') → hmI E σ H → hmLo E locs → lv_has ls 6 [(0, .ref x0), (1, .int x1), (2, .int x2), (3, .int x3), (4, .int v4), (5, .int v5)] → W p l e R s m ([.ref x0, .int x1, .int x2, .int x3] : List Value).toArray below meth c H locs 0 0 (MQ below (hmQc E (some (.int r)) σ') ([.ref x0, .int x1, .int x2, .int x3] : List Value).toArray s 0 0 (fun q => hmL E ≤ q)) (F0 m 110 ls [])) → ∀ (v4 : Int32) (v5 : Int32) (σ : hmS) (H : Heap) (locs : List Loc) (ls : Array Slot), fX8_isTaken_B110 x0 x1 x2 x3  K110 v4 v5 σ = some (r, σ') → hmI E σ H → hmLo E locs → lv_has ls 6 [(0, .ref x0), (1, .int x1), (2, .int x2), (3, .int x3), (4, .int v4), (5, .int v5)] → W p l e R s m ([.ref x0, .int x1, .int x2, .int x3] : List Value).toArray below meth c H locs 0 0 (MQ below (hmQc E (some (.int r)) σ') ([.ref x0, .int x1, .int x2, .int x3] : List Value).toArray s 0 0 (fun q => hmL E ≤ q)) (F0 m 110 ls []) := by
    intro K110 hk110
    have hJ175 : ∀ (v5 : Int32) (w0 : Int32) (w1 : Int32) (σ : hmS) (H : Heap) (locs : List Loc) (ls : Array Slot), fX8_isTaken_J175 x0 x1 x2 x3 K110 v5 w0 w1 σ = some (r, σ') → hmI E σ H → hmLo E locs → lv_has ls 6 [(0, .ref x0), (1, .int x1), (2, .int x2), (3, .int x3), (5, .int v5)] → W p l e R s m ([.ref x0, .int x1, .int x2, .int x3] : List Value).toArray below meth c H locs 0 0 (MQ below (hmQc E (some (.int r)) σ') ([.ref x0, .int x1, .int x2, .int x3] : List Value).toArray s 0 0 (fun q => hmL E ≤ q)) (F0 m 175 ls [.int w0, .int w1]) := by
      intro v5 w0 w1 σ H locs ls h hI hL hl
      unfold fX8_isTaken_J175 at h
      refine lv_ior hx hb dX8_isTaken_175 ?_
      refine lv_istore (lv' := [(4, .int (w1 ||| w0)), (0, .ref x0), (1, .int x1), (2, .int x2), (3, .int x3), (5, .int v5)]) hx hb dX8_isTaken_176 hl (by decide) rfl (fun ls hl => ?_)
      refine lv_iinc (v := (v5 + (1 : Int32))) (lv' := [(5, .int (v5 + (1 : Int32))), (4, .int (w1 ||| w0)), (0, .ref x0), (1, .int x1), (2, .int x2), (3, .int x3)]) hx hb dX8_isTaken_178 hl (k := 5) rfl rfl (by decide) rfl (fun ls hl => ?_)
      refine lv_goto (tgt := 110) hx hb dX8_isTaken_181 (by decide) ?_
      exact hk110 _ _ _ _ _ _ h hI hL (lv_sub hl [2, 3, 4, 5, 1, 0] rfl)
    have hJ174 : ∀ (v5 : Int32) (w0 : Int32) (σ : hmS) (H : Heap) (locs : List Loc) (ls : Array Slot), fX8_isTaken_J174 x0 x1 x2 x3 K110 v5 w0 σ = some (r, σ') → hmI E σ H → hmLo E locs → lv_has ls 6 [(0, .ref x0), (1, .int x1), (2, .int x2), (3, .int x3), (5, .int v5)] → W p l e R s m ([.ref x0, .int x1, .int x2, .int x3] : List Value).toArray below meth c H locs 0 0 (MQ below (hmQc E (some (.int r)) σ') ([.ref x0, .int x1, .int x2, .int x3] : List Value).toArray s 0 0 (fun q => hmL E ≤ q)) (F0 m 174 ls [.int w0]) := by
      intro v5 w0 σ H locs ls h hI hL hl
      unfold fX8_isTaken_J174 at h
      refine lv_iconst (v := 0) hx hb dX8_isTaken_174 (by decide) ?_
      exact hJ175 _ _ _ _ _ _ _ h hI hL (lv_sub hl [0, 1, 2, 3, 4] rfl)
    have hJ148 : ∀ (v5 : Int32) (w0 : Int32) (σ : hmS) (H : Heap) (locs : List Loc) (ls : Array Slot), fX8_isTaken_J148 x0 x1 x2 x3 K110 v5 w0 σ = some (r, σ') → hmI E σ H → hmLo E locs → lv_has ls 6 [(0, .ref x0), (1, .int x1), (2, .int x2), (3, .int x3), (5, .int v5)] → W p l e R s m ([.ref x0, .int x1, .int x2, .int x3] : List Value).toArray below meth c H locs 0 0 (MQ below (hmQc E (some (.int r)) σ') ([.ref x0, .int x1, .int x2, .int x3] : List Value).toArray s 0 0 (fun q => hmL E ≤ q)) (F0 m 148 ls [.int w0]) := by
      intro v5 w0 σ H locs ls h hI hL hl
      unfold fX8_isTaken_J148 at h
      refine lv_aload_n hx hb dX8_isTaken_148 rfl (lv_at hl 0 rfl) ?_
      replace h := ob_s h
      obtain ⟨f1, h2, h⟩ := h
      refine hm_get S hK hI (pf_X8_13_10 hK) (gR_s h2) dX8_isTaken_149 ?_
      refine lv_iload hx hb dX8_isTaken_152 (lv_at hl 4 rfl) ?_
      replace h := ob_s h
      obtain ⟨a3, rfl, h⟩ := h
      have hl : lv_has ls 6 [(0, .ref x0), (1, .int x1), (2, .int x2), (3, .int x3), (5, .int v5)] := hl
      replace h := ob_s h
      obtain ⟨e4, h5, h⟩ := h
      refine hm_iald S hK hI h5 dX8_isTaken_154 ?_
      refine lv_iload_n hx hb dX8_isTaken_155 rfl (lv_at hl 2 rfl) ?_
      refine lv_icmp_ne (tgt := 174) hx hb dX8_isTaken_156 (by decide) (fun c6 => ?_) (fun c6 => ?_)
      · replace h := it_n c6 h
        exact hJ174 _ _ _ _ _ _ h hI hL (lv_sub hl [0, 1, 2, 3, 4] rfl)
      · replace h := it_p c6 h
        refine lv_aload_n hx hb dX8_isTaken_159 rfl (lv_at hl 0 rfl) ?_
        replace h := ob_s h
        obtain ⟨f7, h8, h⟩ := h
        refine hm_get S hK hI (pf_X8_16_10 hK) (gR_s h8) dX8_isTaken_160 ?_
        refine lv_iload hx hb dX8_isTaken_163 (lv_at hl 4 rfl) ?_
        replace h := ob_s h
        obtain ⟨a9, rfl, h⟩ := h
        have hl : lv_has ls 6 [(0, .ref x0), (1, .int x1), (2, .int x2), (3, .int x3), (5, .int v5)] := hl
        replace h := ob_s h
        obtain ⟨e10, h11, h⟩ := h
        refine hm_iald S hK hI h11 dX8_isTaken_165 ?_
        refine lv_iload_n hx hb dX8_isTaken_166 rfl (lv_at hl 3 rfl) ?_
        refine lv_icmp_ne (tgt := 174) hx hb dX8_isTaken_167 (by decide) (fun c12 => ?_) (fun c12 => ?_)
        · replace h := it_n c12 h
          exact hJ174 _ _ _ _ _ _ h hI hL (lv_sub hl [0, 1, 2, 3, 4] rfl)
        · replace h := it_p c12 h
          refine lv_iconst (v := 1) hx hb dX8_isTaken_170 (by decide) ?_
          refine lv_goto (tgt := 175) hx hb dX8_isTaken_171 (by decide) ?_
          exact hJ175 _ _ _ _ _ _ _ h hI hL (lv_sub hl [0, 1, 2, 3, 4] rfl)
    intro v4 v5 σ H locs ls h hI hL hl
    unfold fX8_isTaken_B110 at h
    refine lv_iload hx hb dX8_isTaken_110 (lv_at hl 5 rfl) ?_
    refine lv_aload_n hx hb dX8_isTaken_112 rfl (lv_at hl 0 rfl) ?_
    replace h := ob_s h
    obtain ⟨f1, h2, h⟩ := h
    refine hm_get S hK hI (pf_X8_90_10 hK) (gI_s h2) dX8_isTaken_113 ?_
    refine lv_icmp_ge (tgt := 184) hx hb dX8_isTaken_116 (by decide) (fun c3 => ?_) (fun c3 => ?_)
    · replace h := it_p c3 h
      refine lv_iload hx hb dX8_isTaken_184 (lv_at hl 4 rfl) ?_
      replace h := ob_s h
      obtain ⟨_, z4, h⟩ := h
      exact hm_zret hx hb hr (okZ_n z4).1 hI hL h (by omega) (by omega) hlocks dX8_isTaken_186
    · replace h := it_n c3 h
      refine lv_iload_n hx hb dX8_isTaken_119 rfl (lv_at hl 1 rfl) ?_
      refine lv_iconst (v := 3) hx hb dX8_isTaken_120 (by decide) ?_
      refine lv_icmp_ge (tgt := 184) hx hb dX8_isTaken_121 (by decide) (fun c5 => ?_) (fun c5 => ?_)
      · replace h := it_p c5 h
        refine lv_iload hx hb dX8_isTaken_184 (lv_at hl 4 rfl) ?_
        replace h := ob_s h
        obtain ⟨_, z6, h⟩ := h
        exact hm_zret hx hb hr (okZ_n z6).1 hI hL h (by omega) (by omega) hlocks dX8_isTaken_186
      · replace h := it_n c5 h
        refine lv_iload hx hb dX8_isTaken_124 (lv_at hl 4 rfl) ?_
        refine lv_aload_n hx hb dX8_isTaken_126 rfl (lv_at hl 0 rfl) ?_
        replace h := ob_s h
        obtain ⟨f7, h8, h⟩ := h
        refine hm_get S hK hI (pf_X8_7_10 hK) (gR_s h8) dX8_isTaken_127 ?_
        refine lv_iload hx hb dX8_isTaken_130 (lv_at hl 5 rfl) ?_
        replace h := ob_s h
        obtain ⟨a9, rfl, h⟩ := h
        have hl : lv_has ls 6 [(0, .ref x0), (1, .int x1), (2, .int x2), (3, .int x3), (4, .int v4), (5, .int v5)] := hl
        replace h := ob_s h
        obtain ⟨e10, h11, h⟩ := h
        refine hm_iald S hK hI h11 dX8_isTaken_132 ?_
        refine lv_iconst (v := 1) hx hb dX8_isTaken_133 (by decide) ?_
        refine lv_icmp_eq (tgt := 148) hx hb dX8_isTaken_134 (by decide) (fun c12 => ?_) (fun c12 => ?_)
        · replace h := it_p c12 h
          exact hJ148 _ _ _ _ _ _ h hI hL (lv_sub hl [0, 1, 2, 3, 5] rfl)
        · replace h := it_n c12 h
          refine lv_aload_n hx hb dX8_isTaken_137 rfl (lv_at hl 0 rfl) ?_
          replace h := ob_s h
          obtain ⟨f13, h14, h⟩ := h
          refine hm_get S hK hI (pf_X8_7_10 hK) (gR_s h14) dX8_isTaken_138 ?_
          refine lv_iload hx hb dX8_isTaken_141 (lv_at hl 5 rfl) ?_
          replace h := ob_s h
          obtain ⟨a15, rfl, h⟩ := h
          have hl : lv_has ls 6 [(0, .ref x0), (1, .int x1), (2, .int x2), (3, .int x3), (4, .int v4), (5, .int v5)] := hl
          replace h := ob_s h
          obtain ⟨e16, h17, h⟩ := h
          refine hm_iald S hK hI h17 dX8_isTaken_143 ?_
          refine lv_iconst (v := 2) hx hb dX8_isTaken_144 (by decide) ?_
          refine lv_icmp_ne (tgt := 174) hx hb dX8_isTaken_145 (by decide) (fun c18 => ?_) (fun c18 => ?_)
          · replace h := it_n c18 h
            exact hJ174 _ _ _ _ _ _ h hI hL (lv_sub hl [0, 1, 2, 3, 5] rfl)
          · replace h := it_p c18 h
            exact hJ148 _ _ _ _ _ _ h hI hL (lv_sub hl [0, 1, 2, 3, 5] rfl)
  have hL110 : ∀ n : Nat, ∀ (v4 : Int32) (v5 : Int32) (σ : hmS) (H : Heap) (locs : List Loc) (ls : Array Slot), fX8_isTaken_L110 x0 x1 x2 x3  n v4 v5 σ = some (r, σ') → hmI E σ H → hmLo E locs → lv_has ls 6 [(0, .ref x0), (1, .int x1), (2, .int x2), (3, .int x3), (4, .int v4), (5, .int v5)] → W p l e R s m ([.ref x0, .int x1, .int x2, .int x3] : List Value).toArray below meth c H locs 0 0 (MQ below (hmQc E (some (.int r)) σ') ([.ref x0, .int x1, .int x2, .int x3] : List Value).toArray s 0 0 (fun q => hmL E ≤ q)) (F0 m 110 ls []) := by
    intro n
    induction n with
    | zero =>
      intro v4 v5 σ H locs ls h
      have h : none = some (r, σ') := h
      cases h
    | succ n ih => exact hB110 _ ih
  have hB69 : ∀ (K69 : Int32 → Int32 → hmS → Option (Int32 × hmS)), (∀ (v4 : Int32) (v5 : Int32) (σ : hmS) (H : Heap) (locs : List Loc) (ls : Array Slot), K69 v4 v5 σ = some (r, σ') → hmI E σ H → hmLo E locs → lv_has ls 6 [(0, .ref x0), (1, .int x1), (2, .int x2), (3, .int x3), (4, .int v4), (5, .int v5)] → W p l e R s m ([.ref x0, .int x1, .int x2, .int x3] : List Value).toArray below meth c H locs 0 0 (MQ below (hmQc E (some (.int r)) σ') ([.ref x0, .int x1, .int x2, .int x3] : List Value).toArray s 0 0 (fun q => hmL E ≤ q)) (F0 m 69 ls [])) → ∀ (v4 : Int32) (v5 : Int32) (σ : hmS) (H : Heap) (locs : List Loc) (ls : Array Slot), fX8_isTaken_B69 x0 x1 x2 x3  K69 v4 v5 σ = some (r, σ') → hmI E σ H → hmLo E locs → lv_has ls 6 [(0, .ref x0), (1, .int x1), (2, .int x2), (3, .int x3), (4, .int v4), (5, .int v5)] → W p l e R s m ([.ref x0, .int x1, .int x2, .int x3] : List Value).toArray below meth c H locs 0 0 (MQ below (hmQc E (some (.int r)) σ') ([.ref x0, .int x1, .int x2, .int x3] : List Value).toArray s 0 0 (fun q => hmL E ≤ q)) (F0 m 69 ls []) := by
    intro K69 hk69
    have hJ92 : ∀ (v5 : Int32) (w0 : Int32) (w1 : Int32) (σ : hmS) (H : Heap) (locs : List Loc) (ls : Array Slot), fX8_isTaken_J92 x0 x1 x2 x3 K69 v5 w0 w1 σ = some (r, σ') → hmI E σ H → hmLo E locs → lv_has ls 6 [(0, .ref x0), (1, .int x1), (2, .int x2), (3, .int x3), (5, .int v5)] → W p l e R s m ([.ref x0, .int x1, .int x2, .int x3] : List Value).toArray below meth c H locs 0 0 (MQ below (hmQc E (some (.int r)) σ') ([.ref x0, .int x1, .int x2, .int x3] : List Value).toArray s 0 0 (fun q => hmL E ≤ q)) (F0 m 92 ls [.int w0, .int w1]) := by
      intro v5 w0 w1 σ H locs ls h hI hL hl
      unfold fX8_isTaken_J92 at h
      refine lv_ior hx hb dX8_isTaken_92 ?_
      refine lv_istore (lv' := [(4, .int (w1 ||| w0)), (0, .ref x0), (1, .int x1), (2, .int x2), (3, .int x3), (5, .int v5)]) hx hb dX8_isTaken_93 hl (by decide) rfl (fun ls hl => ?_)
      refine lv_aload_n hx hb dX8_isTaken_95 rfl (lv_at hl 1 rfl) ?_
      replace h := ob_s h
      obtain ⟨f1, h2, h⟩ := h
      refine hm_get S hK hI (pf_X8_13_10 hK) (gR_s h2) dX8_isTaken_96 ?_
      refine lv_iload hx hb dX8_isTaken_99 (lv_at hl 5 rfl) ?_
      replace h := ob_s h
      obtain ⟨a3, rfl, h⟩ := h
      have hl : lv_has ls 6 [(4, .int (w1 ||| w0)), (0, .ref x0), (1, .int x1), (2, .int x2), (3, .int x3), (5, .int v5)] := hl
      replace h := ob_s h
      obtain ⟨e4, h5, h⟩ := h
      refine hm_iald S hK hI h5 dX8_isTaken_101 ?_
      refine lv_istore (lv' := [(5, .int e4), (4, .int (w1 ||| w0)), (0, .ref x0), (1, .int x1), (2, .int x2), (3, .int x3)]) hx hb dX8_isTaken_102 hl (by decide) rfl (fun ls hl => ?_)
      refine lv_goto (tgt := 69) hx hb dX8_isTaken_104 (by decide) ?_
      exact hk69 _ _ _ _ _ _ h hI hL (lv_sub hl [2, 3, 4, 5, 1, 0] rfl)
    intro v4 v5 σ H locs ls h hI hL hl
    unfold fX8_isTaken_B69 at h
    refine lv_iload hx hb dX8_isTaken_69 (lv_at hl 5 rfl) ?_
    refine lv_if_lt (tgt := 107) hx hb dX8_isTaken_71 (by decide) (fun c1 => ?_) (fun c1 => ?_)
    · replace h := it_p c1 h
      refine lv_iconst (v := 0) hx hb dX8_isTaken_107 (by decide) ?_
      refine lv_istore (lv' := [(5, .int (0 : Int32)), (0, .ref x0), (1, .int x1), (2, .int x2), (3, .int x3), (4, .int v4)]) hx hb dX8_isTaken_108 hl (by decide) rfl (fun ls hl => ?_)
      exact hL110 20 _ _ _ _ _ _ h hI hL (lv_sub hl [1, 2, 3, 4, 5, 0] rfl)
    · replace h := it_n c1 h
      refine lv_iload hx hb dX8_isTaken_74 (lv_at hl 4 rfl) ?_
      refine lv_aload_n hx hb dX8_isTaken_76 rfl (lv_at hl 0 rfl) ?_
      replace h := ob_s h
      obtain ⟨f2, h3, h⟩ := h
      refine hm_get S hK hI (pf_X8_16_10 hK) (gR_s h3) dX8_isTaken_77 ?_
      refine lv_iload hx hb dX8_isTaken_80 (lv_at hl 5 rfl) ?_
      replace h := ob_s h
      obtain ⟨a4, rfl, h⟩ := h
      have hl : lv_has ls 6 [(0, .ref x0), (1, .int x1), (2, .int x2), (3, .int x3), (4, .int v4), (5, .int v5)] := hl
      replace h := ob_s h
      obtain ⟨e5, h6, h⟩ := h
      refine hm_iald S hK hI h6 dX8_isTaken_82 ?_
      refine lv_iload_n hx hb dX8_isTaken_83 rfl (lv_at hl 3 rfl) ?_
      refine lv_icmp_ne (tgt := 91) hx hb dX8_isTaken_84 (by decide) (fun c7 => ?_) (fun c7 => ?_)
      · replace h := it_n c7 h
        refine lv_iconst (v := 0) hx hb dX8_isTaken_91 (by decide) ?_
        exact hJ92 _ _ _ _ _ _ _ h hI hL (lv_sub hl [0, 1, 2, 3, 5] rfl)
      · replace h := it_p c7 h
        refine lv_iconst (v := 1) hx hb dX8_isTaken_87 (by decide) ?_
        refine lv_goto (tgt := 92) hx hb dX8_isTaken_88 (by decide) ?_
        exact hJ92 _ _ _ _ _ _ _ h hI hL (lv_sub hl [0, 1, 2, 3, 5] rfl)
  have hL69 : ∀ n : Nat, ∀ (v4 : Int32) (v5 : Int32) (σ : hmS) (H : Heap) (locs : List Loc) (ls : Array Slot), fX8_isTaken_L69 x0 x1 x2 x3  n v4 v5 σ = some (r, σ') → hmI E σ H → hmLo E locs → lv_has ls 6 [(0, .ref x0), (1, .int x1), (2, .int x2), (3, .int x3), (4, .int v4), (5, .int v5)] → W p l e R s m ([.ref x0, .int x1, .int x2, .int x3] : List Value).toArray below meth c H locs 0 0 (MQ below (hmQc E (some (.int r)) σ') ([.ref x0, .int x1, .int x2, .int x3] : List Value).toArray s 0 0 (fun q => hmL E ≤ q)) (F0 m 69 ls []) := by
    intro n
    induction n with
    | zero =>
      intro v4 v5 σ H locs ls h
      have h : none = some (r, σ') := h
      cases h
    | succ n ih => exact hB69 _ ih
  have hB10 : ∀ (K10 : Int32 → Int32 → hmS → Option (Int32 × hmS)), (∀ (v4 : Int32) (v5 : Int32) (σ : hmS) (H : Heap) (locs : List Loc) (ls : Array Slot), K10 v4 v5 σ = some (r, σ') → hmI E σ H → hmLo E locs → lv_has ls 6 [(0, .ref x0), (3, .int x3), (4, .int v4), (5, .int v5)] → W p l e R s m ([.ref x0, .int x1, .int x2, .int x3] : List Value).toArray below meth c H locs 0 0 (MQ below (hmQc E (some (.int r)) σ') ([.ref x0, .int x1, .int x2, .int x3] : List Value).toArray s 0 0 (fun q => hmL E ≤ q)) (F0 m 10 ls [])) → ∀ (v4 : Int32) (v5 : Int32) (σ : hmS) (H : Heap) (locs : List Loc) (ls : Array Slot), fX8_isTaken_B10 x0 x1 x2 x3  K10 v4 v5 σ = some (r, σ') → hmI E σ H → hmLo E locs → lv_has ls 6 [(0, .ref x0), (3, .int x3), (4, .int v4), (5, .int v5)] → W p l e R s m ([.ref x0, .int x1, .int x2, .int x3] : List Value).toArray below meth c H locs 0 0 (MQ below (hmQc E (some (.int r)) σ') ([.ref x0, .int x1, .int x2, .int x3] : List Value).toArray s 0 0 (fun q => hmL E ≤ q)) (F0 m 10 ls []) := by
    intro K10 hk10
    have hJ47 : ∀ (v5 : Int32) (w0 : Int32) (w1 : Int32) (σ : hmS) (H : Heap) (locs : List Loc) (ls : Array Slot), fX8_isTaken_J47 x0 x1 x2 x3 K10 v5 w0 w1 σ = some (r, σ') → hmI E σ H → hmLo E locs → lv_has ls 6 [(0, .ref x0), (3, .int x3), (5, .int v5)] → W p l e R s m ([.ref x0, .int x1, .int x2, .int x3] : List Value).toArray below meth c H locs 0 0 (MQ below (hmQc E (some (.int r)) σ') ([.ref x0, .int x1, .int x2, .int x3] : List Value).toArray s 0 0 (fun q => hmL E ≤ q)) (F0 m 47 ls [.int w0, .int w1]) := by
      intro v5 w0 w1 σ H locs ls h hI hL hl
      unfold fX8_isTaken_J47 at h
      refine lv_ior hx hb dX8_isTaken_47 ?_
      refine lv_istore (lv' := [(4, .int (w1 ||| w0)), (0, .ref x0), (3, .int x3), (5, .int v5)]) hx hb dX8_isTaken_48 hl (by decide) rfl (fun ls hl => ?_)
      refine lv_iinc (v := (v5 + (1 : Int32))) (lv' := [(5, .int (v5 + (1 : Int32))), (4, .int (w1 ||| w0)), (0, .ref x0), (3, .int x3)]) hx hb dX8_isTaken_50 hl (k := 3) rfl rfl (by decide) rfl (fun ls hl => ?_)
      refine lv_goto (tgt := 10) hx hb dX8_isTaken_53 (by decide) ?_
      exact hk10 _ _ _ _ _ _ h hI hL (lv_sub hl [2, 3, 1, 0] rfl)
    have hJ46 : ∀ (v5 : Int32) (w0 : Int32) (σ : hmS) (H : Heap) (locs : List Loc) (ls : Array Slot), fX8_isTaken_J46 x0 x1 x2 x3 K10 v5 w0 σ = some (r, σ') → hmI E σ H → hmLo E locs → lv_has ls 6 [(0, .ref x0), (3, .int x3), (5, .int v5)] → W p l e R s m ([.ref x0, .int x1, .int x2, .int x3] : List Value).toArray below meth c H locs 0 0 (MQ below (hmQc E (some (.int r)) σ') ([.ref x0, .int x1, .int x2, .int x3] : List Value).toArray s 0 0 (fun q => hmL E ≤ q)) (F0 m 46 ls [.int w0]) := by
      intro v5 w0 σ H locs ls h hI hL hl
      unfold fX8_isTaken_J46 at h
      refine lv_iconst (v := 0) hx hb dX8_isTaken_46 (by decide) ?_
      exact hJ47 _ _ _ _ _ _ _ h hI hL (lv_sub hl [0, 1, 2] rfl)
    intro v4 v5 σ H locs ls h hI hL hl
    unfold fX8_isTaken_B10 at h
    refine lv_iload hx hb dX8_isTaken_10 (lv_at hl 3 rfl) ?_
    refine lv_aload_n hx hb dX8_isTaken_12 rfl (lv_at hl 0 rfl) ?_
    replace h := ob_s h
    obtain ⟨f1, h2, h⟩ := h
    refine hm_get S hK hI (pf_X8_90_10 hK) (gI_s h2) dX8_isTaken_13 ?_
    refine lv_icmp_ge (tgt := 56) hx hb dX8_isTaken_16 (by decide) (fun c3 => ?_) (fun c3 => ?_)
    · replace h := it_p c3 h
      refine lv_iload hx hb dX8_isTaken_56 (lv_at hl 2 rfl) ?_
      replace h := ob_s h
      obtain ⟨_, z4, h⟩ := h
      exact hm_zret hx hb hr (okZ_n z4).1 hI hL h (by omega) (by omega) hlocks dX8_isTaken_58
    · replace h := it_n c3 h
      refine lv_iload hx hb dX8_isTaken_19 (lv_at hl 2 rfl) ?_
      refine lv_aload_n hx hb dX8_isTaken_21 rfl (lv_at hl 0 rfl) ?_
      replace h := ob_s h
      obtain ⟨f5, h6, h⟩ := h
      refine hm_get S hK hI (pf_X8_7_10 hK) (gR_s h6) dX8_isTaken_22 ?_
      refine lv_iload hx hb dX8_isTaken_25 (lv_at hl 3 rfl) ?_
      replace h := ob_s h
      obtain ⟨a7, rfl, h⟩ := h
      have hl : lv_has ls 6 [(0, .ref x0), (3, .int x3), (4, .int v4), (5, .int v5)] := hl
      replace h := ob_s h
      obtain ⟨e8, h9, h⟩ := h
      refine hm_iald S hK hI h9 dX8_isTaken_27 ?_
      refine lv_if_ne (tgt := 46) hx hb dX8_isTaken_28 (by decide) (fun c10 => ?_) (fun c10 => ?_)
      · replace h := it_n c10 h
        exact hJ46 _ _ _ _ _ _ h hI hL (lv_sub hl [0, 1, 3] rfl)
      · replace h := it_p c10 h
        refine lv_aload_n hx hb dX8_isTaken_31 rfl (lv_at hl 0 rfl) ?_
        replace h := ob_s h
        obtain ⟨f11, h12, h⟩ := h
        refine hm_get S hK hI (pf_X8_16_10 hK) (gR_s h12) dX8_isTaken_32 ?_
        refine lv_iload hx hb dX8_isTaken_35 (lv_at hl 3 rfl) ?_
        replace h := ob_s h
        obtain ⟨a13, rfl, h⟩ := h
        have hl : lv_has ls 6 [(0, .ref x0), (3, .int x3), (4, .int v4), (5, .int v5)] := hl
        replace h := ob_s h
        obtain ⟨e14, h15, h⟩ := h
        refine hm_iald S hK hI h15 dX8_isTaken_37 ?_
        refine lv_iload_n hx hb dX8_isTaken_38 rfl (lv_at hl 1 rfl) ?_
        refine lv_icmp_ne (tgt := 46) hx hb dX8_isTaken_39 (by decide) (fun c16 => ?_) (fun c16 => ?_)
        · replace h := it_n c16 h
          exact hJ46 _ _ _ _ _ _ h hI hL (lv_sub hl [0, 1, 3] rfl)
        · replace h := it_p c16 h
          refine lv_iconst (v := 1) hx hb dX8_isTaken_42 (by decide) ?_
          refine lv_goto (tgt := 47) hx hb dX8_isTaken_43 (by decide) ?_
          exact hJ47 _ _ _ _ _ _ _ h hI hL (lv_sub hl [0, 1, 3] rfl)
  have hL10 : ∀ n : Nat, ∀ (v4 : Int32) (v5 : Int32) (σ : hmS) (H : Heap) (locs : List Loc) (ls : Array Slot), fX8_isTaken_L10 x0 x1 x2 x3  n v4 v5 σ = some (r, σ') → hmI E σ H → hmLo E locs → lv_has ls 6 [(0, .ref x0), (3, .int x3), (4, .int v4), (5, .int v5)] → W p l e R s m ([.ref x0, .int x1, .int x2, .int x3] : List Value).toArray below meth c H locs 0 0 (MQ below (hmQc E (some (.int r)) σ') ([.ref x0, .int x1, .int x2, .int x3] : List Value).toArray s 0 0 (fun q => hmL E ≤ q)) (F0 m 10 ls []) := by
    intro n
    induction n with
    | zero =>
      intro v4 v5 σ H locs ls h
      have h : none = some (r, σ') := h
      cases h
    | succ n ih => exact hB10 _ ih
  have h := hmain
  clear hmain
  unfold fX8_isTaken at h
  refine lv_iconst (v := 0) hx hb dX8_isTaken_0 (by decide) ?_
  refine lv_istore (lv' := [(4, .int (0 : Int32)), (0, .ref x0), (1, .int x1), (2, .int x2), (3, .int x3)]) hx hb dX8_isTaken_1 hl (by decide) rfl (fun ls hl => ?_)
  refine lv_iload_n hx hb dX8_isTaken_3 rfl (lv_at hl 2 rfl) ?_
  refine lv_if_ne (tgt := 59) hx hb dX8_isTaken_4 (by decide) (fun c1 => ?_) (fun c1 => ?_)
  · replace h := it_n c1 h
    refine lv_iload_n hx hb dX8_isTaken_59 rfl (lv_at hl 2 rfl) ?_
    refine lv_iconst (v := 5) hx hb dX8_isTaken_60 (by decide) ?_
    refine lv_icmp_ne (tgt := 66) hx hb dX8_isTaken_61 (by decide) (fun c2 => ?_) (fun c2 => ?_)
    · replace h := it_n c2 h
      refine lv_iload_n hx hb dX8_isTaken_66 rfl (lv_at hl 3 rfl) ?_
      refine lv_istore (lv' := [(5, .int x2), (4, .int (0 : Int32)), (0, .ref x0), (1, .int x1), (2, .int x2), (3, .int x3)]) hx hb dX8_isTaken_67 hl (by decide) rfl (fun ls hl => ?_)
      exact hL69 20 _ _ _ _ _ _ h hI hL (lv_sub hl [2, 3, 4, 5, 1, 0] rfl)
    · replace h := it_p c2 h
      refine lv_iconst (v := 0) hx hb dX8_isTaken_64 (by decide) ?_
      exact hm_zret hx hb hr rfl hI hL h (by omega) (by omega) hlocks dX8_isTaken_65
  · replace h := it_p c1 h
    refine lv_iconst (v := 0) hx hb dX8_isTaken_7 (by decide) ?_
    refine lv_istore (lv' := [(5, .int (0 : Int32)), (4, .int (0 : Int32)), (0, .ref x0), (1, .int x1), (2, .int x2), (3, .int x3)]) hx hb dX8_isTaken_8 hl (by decide) rfl (fun ls hl => ?_)
    exact hL10 20 _ _ _ _ _ _ h hI hL (lv_sub hl [2, 5, 1, 0] rfl)

def fX8_isInMethod (x0 : Int32) (σ : hmS) : Option (Int32 × hmS) :=
  if x0 < (3 : Int32) then
    some ((0 : Int32), σ)
  else
    some ((1 : Int32), σ)
set_option maxHeartbeats 4000000 in
set_option maxRecDepth 100000 in
theorem mX8_isInMethod (l : Launch) (E : hmG) {x0 : Int32} {σ σ' : hmS} {r : Int32} (h : fX8_isInMethod x0 σ = some (r, σ')) : Met l yX8_isInMethod [Cond.code yX8_isInMethod cX8_isInMethod 1 (some .boolean)] { frames := 0, cells := 0, slots := 0, locals := 0 } (hmPc E [.int x0] σ) (hmQc E (some (.int r)) σ') 0 0 (fun q => hmL E ≤ q) := by
  refine Met.ofW (cc := cX8_isInMethod) (maxL := 1) (ret := (some .boolean)) (by decide) rfl ?_
  intro p e s m args below meth c s₁ B hml hv
  obtain ⟨rfl, hK, hI⟩ := hv
  have S : CallFix p m c cX8_isInMethod 1 s ([.int x0] : List Value).toArray [] RX8 := ⟨B.exec, B.bytes, hml, findClass_of_methodNamed B.named, fun w hw => by cases hw⟩
  have hx := S.1
  have hb := S.2.1
  have hr := B.returns
  have hlocks := B.notSynchronized
  have hL : hmLo E [] := hmLo.nil
  have hl : lv_has ((lg_sl ([.int x0]) ++ List.replicate (1 - (lg_sl ([.int x0])).length) Slot.unset).toArray) 1 [(0, .int x0)] := by exact lv_entry _ (Nat.le_of_ble_eq_true rfl)
  rw [lg_entry_eq]
  generalize (lg_sl ([.int x0]) ++ List.replicate (1 - (lg_sl ([.int x0])).length) Slot.unset).toArray = ls at hl ⊢
  generalize hRe : (headSpec [Cond.code yX8_isInMethod cX8_isInMethod 1 (some .boolean)] { frames := 0, cells := 0, slots := 0, locals := 0 }).room = R
  have hR1 : R.frames = 0 ∧ R.cells = 0 ∧ R.slots = 0 ∧ R.locals = 0 := by rw [← hRe]; exact ⟨rfl, rfl, rfl, rfl⟩
  clear hRe B hml
  generalize s.heap = H at hI ⊢
  generalize ([] : List Loc) = locs at hL ⊢
  have hmain := h
  clear h
  have h := hmain
  clear hmain
  unfold fX8_isInMethod at h
  refine lv_iload_n hx hb dX8_isInMethod_0 rfl (lv_at hl 0 rfl) ?_
  refine lv_iconst (v := 3) hx hb dX8_isInMethod_1 (by decide) ?_
  refine lv_icmp_lt (tgt := 9) hx hb dX8_isInMethod_2 (by decide) (fun c1 => ?_) (fun c1 => ?_)
  · replace h := it_p c1 h
    refine lv_iconst (v := 0) hx hb dX8_isInMethod_9 (by decide) ?_
    exact hm_zret hx hb hr rfl hI hL h (by omega) (by omega) hlocks dX8_isInMethod_10
  · replace h := it_n c1 h
    refine lv_iconst (v := 1) hx hb dX8_isInMethod_5 (by decide) ?_
    refine lv_goto (tgt := 10) hx hb dX8_isInMethod_6 (by decide) ?_
    exact hm_zret hx hb hr rfl hI hL h (by omega) (by omega) hlocks dX8_isInMethod_10

def fX8_type_J224 (x0 : Nat) (x1 : Int32) (x2 : Int32) (x3 : Int32)  (v4 : Int32) (w0 : Int32) (w1 : Int32) (w2 : Option Nat) (σ : hmS) : Option (Int32 × hmS) :=
  ob w2 fun a1 => ob (sI σ 0 a1 w1 w0) fun σ2 => ob (gR σ2 x0 10 6) fun f4 => ob f4 fun a6 => ob (sI σ2 0 a6 v4 (-3 : Int32)) fun σ7 => ob (gI σ7 x0 10 0) fun f9 => ob (wF σ7 x0 10 0 (.int (f9 + (1 : Int32)))) fun σ11 => some (v4, σ11)
def fX8_type_J193 (x0 : Nat) (x1 : Int32) (x2 : Int32) (x3 : Int32) (K123 : Int32 → Int32 → hmS → Option (Int32 × hmS)) (v4 : Int32) (v5 : Int32) (w0 : Int32) (w1 : Int32) (w2 : Int32) (w3 : Nat) (σ : hmS) : Option (Int32 × hmS) :=
  ob (sI σ 0 w3 w2 (w1 + w0)) fun σ1 => K123 v4 (v5 + (1 : Int32)) σ1
def fX8_type_J192 (x0 : Nat) (x1 : Int32) (x2 : Int32) (x3 : Int32) (K123 : Int32 → Int32 → hmS → Option (Int32 × hmS)) (v4 : Int32) (v5 : Int32) (w0 : Int32) (w1 : Int32) (w2 : Nat) (σ : hmS) : Option (Int32 × hmS) :=
  fX8_type_J193 x0 x1 x2 x3 K123 v4 v5 (0 : Int32) w0 w1 w2 σ
def fX8_type_B123 (x0 : Nat) (x1 : Int32) (x2 : Int32) (x3 : Int32)  (K123 : Int32 → Int32 → hmS → Option (Int32 × hmS)) (v4 : Int32) (v5 : Int32) (σ : hmS) : Option (Int32 × hmS) :=
  ob (gI σ x0 10 0) fun f1 => if f1 ≤ v5 then
    ob (gR σ x0 10 5) fun f4 => cb (fX8_isInMethod x1 σ) fun r8 σ7 => if r8 = 0 then
      fX8_type_J224 x0 x1 x2 x3 v4 (0 : Int32) v4 f4 σ7
    else
      ob (gR σ7 x0 10 12) fun f10 => ob f10 fun a12 => ob (aI σ7 0 a12 x2) fun e13 => fX8_type_J224 x0 x1 x2 x3 v4 e13 v4 f4 σ7
  else
    ob (gR σ x0 10 4) fun f15 => ob f15 fun a17 => ob (aI σ 0 a17 v4) fun e18 => cb (fX8_isInMethod x1 σ) fun r22 σ21 => if r22 = 0 then
      fX8_type_J192 x0 x1 x2 x3 K123 v4 v5 e18 v4 a17 σ21
    else
      ob (gR σ21 x0 10 1) fun f24 => ob f24 fun a26 => ob (aI σ21 0 a26 v5) fun e27 => cb (fX8_isInMethod e27 σ21) fun r31 σ30 => if r31 = 0 then
        fX8_type_J192 x0 x1 x2 x3 K123 v4 v5 e18 v4 a17 σ30
      else
        ob (gR σ30 x0 10 2) fun f33 => ob f33 fun a35 => ob (aI σ30 0 a35 v5) fun e36 => if e36 = x2 then
          ob (gR σ30 x0 10 3) fun f39 => ob f39 fun a41 => ob (aI σ30 0 a41 v5) fun e42 => ob (gR σ30 x0 10 3) fun f44 => ob f44 fun a46 => ob (aI σ30 0 a46 v4) fun e47 => if e42 = e47 then
            fX8_type_J193 x0 x1 x2 x3 K123 v4 v5 (1 : Int32) e18 v4 a17 σ30
          else
            fX8_type_J192 x0 x1 x2 x3 K123 v4 v5 e18 v4 a17 σ30
        else
          fX8_type_J192 x0 x1 x2 x3 K123 v4 v5 e18 v4 a17 σ30
def fX8_type_L123 (x0 : Nat) (x1 : Int32) (x2 : Int32) (x3 : Int32)  : Nat → Int32 → Int32 → hmS → Option (Int32 × hmS)
  | 0 => fun _ _ _ => none
  | n + 1 => fX8_type_B123 x0 x1 x2 x3  (fX8_type_L123 x0 x1 x2 x3  n)
def fX8_type_J111 (x0 : Nat) (x1 : Int32) (x2 : Int32) (x3 : Int32)  (v4 : Int32) (w0 : Int32) (w1 : Int32) (w2 : Option Nat) (σ : hmS) : Option (Int32 × hmS) :=
  ob w2 fun a1 => ob (sI σ 0 a1 w1 w0) fun σ2 => ob (gR σ2 x0 10 4) fun f4 => ob f4 fun a6 => ob (sI σ2 0 a6 v4 (1 : Int32)) fun σ7 => fX8_type_L123 x0 x1 x2 x3 20 v4 (0 : Int32) σ7
def fX8_type_J93 (x0 : Nat) (x1 : Int32) (x2 : Int32) (x3 : Int32)  (v4 : Int32) (w0 : Int32) (w1 : Int32) (w2 : Option Nat) (σ : hmS) : Option (Int32 × hmS) :=
  ob w2 fun a1 => ob (sI σ 0 a1 w1 w0) fun σ2 => ob (gR σ2 x0 10 3) fun f4 => if x1 = (5 : Int32) then
    fX8_type_J111 x0 x1 x2 x3 v4 (-3 : Int32) v4 f4 σ2
  else
    fX8_type_J111 x0 x1 x2 x3 v4 x3 v4 f4 σ2
def fX8_type_J38 (x0 : Nat) (x1 : Int32) (x2 : Int32) (x3 : Int32)   (σ : hmS) : Option (Int32 × hmS) :=
  ob (gI σ x0 10 0) fun f1 => if f1 = (12 : Int32) then
    some ((-2 : Int32), σ)
  else
    ob (obC σ x0 10) fun _ => cb (fX8_isTaken x0 x1 x2 x3 σ) fun r7 σ6 => if r7 = 0 then
      ob (gI σ6 x0 10 0) fun f9 => ob (gR σ6 x0 10 1) fun f11 => ob f11 fun a13 => ob (sI σ6 0 a13 f9 x1) fun σ14 => ob (gR σ14 x0 10 2) fun f16 => if x1 = 0 then
        fX8_type_J93 x0 x1 x2 x3 f9 (-3 : Int32) f9 f16 σ14
      else
        fX8_type_J93 x0 x1 x2 x3 f9 x2 f9 f16 σ14
    else
      some ((-4 : Int32), σ6)
def fX8_type_J24 (x0 : Nat) (x1 : Int32) (x2 : Int32) (x3 : Int32)   (σ : hmS) : Option (Int32 × hmS) :=
  if x1 = 0 then
    fX8_type_J38 x0 x1 x2 x3 σ
  else
    ob (obC σ x0 10) fun _ => cb (fX8_isType x0 x2 σ) fun r5 σ4 => if r5 = 0 then
      some ((-1 : Int32), σ4)
    else
      fX8_type_J38 x0 x1 x2 x3 σ4
def fX8_type (x0 : Nat) (x1 : Int32) (x2 : Int32) (x3 : Int32) (σ : hmS) : Option (Int32 × hmS) :=
  cb (fX8_in x1 (0 : Int32) (5 : Int32) σ) fun r3 σ2 => if r3 = 0 then
    some ((-1 : Int32), σ2)
  else
    if x1 = (5 : Int32) then
      fX8_type_J24 x0 x1 x2 x3 σ2
    else
      cb (fX8_in x3 (0 : Int32) (25 : Int32) σ2) fun r8 σ7 => if r8 = 0 then
        some ((-1 : Int32), σ7)
      else
        fX8_type_J24 x0 x1 x2 x3 σ7
set_option maxHeartbeats 4000000 in
set_option maxRecDepth 100000 in
theorem mX8_type (l : Launch) (E : hmG) {x0 : Nat} {x1 : Int32} {x2 : Int32} {x3 : Int32} {σ σ' : hmS} {r : Int32} (h : fX8_type x0 x1 x2 x3 σ = some (r, σ')) : Met l yX8_type [Cond.code yX8_type cX8_type 6 (some .int)] { frames := 2, cells := 0, slots := 0, locals := 43 } (hmPc E [.ref x0, .int x1, .int x2, .int x3] σ) (hmQc E (some (.int r)) σ') 0 0 (fun q => hmL E ≤ q) := by
  refine Met.ofW (cc := cX8_type) (maxL := 6) (ret := (some .int)) (by decide) rfl ?_
  intro p e s m args below meth c s₁ B hml hv
  obtain ⟨rfl, hK, hI⟩ := hv
  have S : CallFix p m c cX8_type 6 s ([.ref x0, .int x1, .int x2, .int x3] : List Value).toArray [] RX8 := ⟨B.exec, B.bytes, hml, findClass_of_methodNamed B.named, fun w hw => by cases hw⟩
  have hx := S.1
  have hb := S.2.1
  have hr := B.returns
  have hlocks := B.notSynchronized
  have hL : hmLo E [] := hmLo.nil
  have hl : lv_has ((lg_sl ([.ref x0, .int x1, .int x2, .int x3]) ++ List.replicate (6 - (lg_sl ([.ref x0, .int x1, .int x2, .int x3])).length) Slot.unset).toArray) 6 [(0, .ref x0), (1, .int x1), (2, .int x2), (3, .int x3)] := by exact lv_entry _ (Nat.le_of_ble_eq_true rfl)
  rw [lg_entry_eq]
  generalize (lg_sl ([.ref x0, .int x1, .int x2, .int x3]) ++ List.replicate (6 - (lg_sl ([.ref x0, .int x1, .int x2, .int x3])).length) Slot.unset).toArray = ls at hl ⊢
  generalize hRe : (headSpec [Cond.code yX8_type cX8_type 6 (some .int)] { frames := 2, cells := 0, slots := 0, locals := 43 }).room = R
  have hR1 : R.frames = 2 ∧ R.cells = 0 ∧ R.slots = 0 ∧ R.locals = 43 := by rw [← hRe]; exact ⟨rfl, rfl, rfl, rfl⟩
  clear hRe B hml
  generalize s.heap = H at hI ⊢
  generalize ([] : List Loc) = locs at hL ⊢
  have hmain := h
  clear h
  have hJ224 : ∀ (v4 : Int32) (w0 : Int32) (w1 : Int32) (w2 : Option Nat) (σ : hmS) (H : Heap) (locs : List Loc) (ls : Array Slot), fX8_type_J224 x0 x1 x2 x3  v4 w0 w1 w2 σ = some (r, σ') → hmI E σ H → hmLo E locs → lv_has ls 6 [(0, .ref x0), (4, .int v4)] → W p l e R s m ([.ref x0, .int x1, .int x2, .int x3] : List Value).toArray below meth c H locs 0 0 (MQ below (hmQc E (some (.int r)) σ') ([.ref x0, .int x1, .int x2, .int x3] : List Value).toArray s 0 0 (fun q => hmL E ≤ q)) (F0 m 224 ls [.int w0, .int w1, va_rf w2]) := by
    intro v4 w0 w1 w2 σ H locs ls h hI hL hl
    unfold fX8_type_J224 at h
    replace h := ob_s h
    obtain ⟨a1, rfl, h⟩ := h
    have hl : lv_has ls 6 [(0, .ref x0), (4, .int v4)] := hl
    replace h := ob_s h
    obtain ⟨σ2, h3, h⟩ := h
    refine hm_iast S hK hI hL h3 dX8_type_224 (fun H locs hI hL => ?_)
    refine lv_aload_n hx hb dX8_type_225 rfl (lv_at hl 0 rfl) ?_
    replace h := ob_s h
    obtain ⟨f4, h5, h⟩ := h
    refine hm_get S hK hI (pf_X8_25_10 hK) (gR_s h5) dX8_type_226 ?_
    refine lv_iload hx hb dX8_type_229 (lv_at hl 1 rfl) ?_
    refine lv_bipush (v := -3) hx hb dX8_type_231 (by decide) ?_
    replace h := ob_s h
    obtain ⟨a6, rfl, h⟩ := h
    have hl : lv_has ls 6 [(0, .ref x0), (4, .int v4)] := hl
    replace h := ob_s h
    obtain ⟨σ7, h8, h⟩ := h
    refine hm_iast S hK hI hL h8 dX8_type_233 (fun H locs hI hL => ?_)
    refine lv_aload_n hx hb dX8_type_234 rfl (lv_at hl 0 rfl) ?_
    refine lv_dup hx hb dX8_type_235 rfl ?_
    replace h := ob_s h
    obtain ⟨f9, h10, h⟩ := h
    refine hm_get S hK hI (pf_X8_90_10 hK) (gI_s h10) dX8_type_236 ?_
    refine lv_iconst (v := 1) hx hb dX8_type_239 (by decide) ?_
    refine lv_iadd hx hb dX8_type_240 ?_
    replace h := ob_s h
    obtain ⟨σ11, h12, h⟩ := h
    refine hm_put S hK hI hL (pf_X8_90_10 hK) h12 ⟨rfl, rfl⟩ dX8_type_241 (fun H locs hI hL => ?_)
    refine lv_iload hx hb dX8_type_244 (lv_at hl 1 rfl) ?_
    exact hm_iret hx hb hr hI hL h (by omega) (by omega) hlocks dX8_type_246
  have hB123 : ∀ (K123 : Int32 → Int32 → hmS → Option (Int32 × hmS)), (∀ (v4 : Int32) (v5 : Int32) (σ : hmS) (H : Heap) (locs : List Loc) (ls : Array Slot), K123 v4 v5 σ = some (r, σ') → hmI E σ H → hmLo E locs → lv_has ls 6 [(0, .ref x0), (1, .int x1), (2, .int x2), (4, .int v4), (5, .int v5)] → W p l e R s m ([.ref x0, .int x1, .int x2, .int x3] : List Value).toArray below meth c H locs 0 0 (MQ below (hmQc E (some (.int r)) σ') ([.ref x0, .int x1, .int x2, .int x3] : List Value).toArray s 0 0 (fun q => hmL E ≤ q)) (F0 m 123 ls [])) → ∀ (v4 : Int32) (v5 : Int32) (σ : hmS) (H : Heap) (locs : List Loc) (ls : Array Slot), fX8_type_B123 x0 x1 x2 x3  K123 v4 v5 σ = some (r, σ') → hmI E σ H → hmLo E locs → lv_has ls 6 [(0, .ref x0), (1, .int x1), (2, .int x2), (4, .int v4), (5, .int v5)] → W p l e R s m ([.ref x0, .int x1, .int x2, .int x3] : List Value).toArray below meth c H locs 0 0 (MQ below (hmQc E (some (.int r)) σ') ([.ref x0, .int x1, .int x2, .int x3] : List Value).toArray s 0 0 (fun q => hmL E ≤ q)) (F0 m 123 ls []) := by
    intro K123 hk123
    have hJ193 : ∀ (v4 : Int32) (v5 : Int32) (w0 : Int32) (w1 : Int32) (w2 : Int32) (w3 : Nat) (σ : hmS) (H : Heap) (locs : List Loc) (ls : Array Slot), fX8_type_J193 x0 x1 x2 x3 K123 v4 v5 w0 w1 w2 w3 σ = some (r, σ') → hmI E σ H → hmLo E locs → lv_has ls 6 [(0, .ref x0), (1, .int x1), (2, .int x2), (4, .int v4), (5, .int v5)] → W p l e R s m ([.ref x0, .int x1, .int x2, .int x3] : List Value).toArray below meth c H locs 0 0 (MQ below (hmQc E (some (.int r)) σ') ([.ref x0, .int x1, .int x2, .int x3] : List Value).toArray s 0 0 (fun q => hmL E ≤ q)) (F0 m 193 ls [.int w0, .int w1, .int w2, .ref w3]) := by
      intro v4 v5 w0 w1 w2 w3 σ H locs ls h hI hL hl
      unfold fX8_type_J193 at h
      refine lv_iadd hx hb dX8_type_193 ?_
      replace h := ob_s h
      obtain ⟨σ1, h2, h⟩ := h
      refine hm_iast S hK hI hL h2 dX8_type_194 (fun H locs hI hL => ?_)
      refine lv_iinc (v := (v5 + (1 : Int32))) (lv' := [(5, .int (v5 + (1 : Int32))), (0, .ref x0), (1, .int x1), (2, .int x2), (4, .int v4)]) hx hb dX8_type_195 hl (k := 4) rfl rfl (by decide) rfl (fun ls hl => ?_)
      refine lv_goto (tgt := 123) hx hb dX8_type_198 (by decide) ?_
      exact hk123 _ _ _ _ _ _ h hI hL (lv_sub hl [1, 2, 3, 4, 0] rfl)
    have hJ192 : ∀ (v4 : Int32) (v5 : Int32) (w0 : Int32) (w1 : Int32) (w2 : Nat) (σ : hmS) (H : Heap) (locs : List Loc) (ls : Array Slot), fX8_type_J192 x0 x1 x2 x3 K123 v4 v5 w0 w1 w2 σ = some (r, σ') → hmI E σ H → hmLo E locs → lv_has ls 6 [(0, .ref x0), (1, .int x1), (2, .int x2), (4, .int v4), (5, .int v5)] → W p l e R s m ([.ref x0, .int x1, .int x2, .int x3] : List Value).toArray below meth c H locs 0 0 (MQ below (hmQc E (some (.int r)) σ') ([.ref x0, .int x1, .int x2, .int x3] : List Value).toArray s 0 0 (fun q => hmL E ≤ q)) (F0 m 192 ls [.int w0, .int w1, .ref w2]) := by
      intro v4 v5 w0 w1 w2 σ H locs ls h hI hL hl
      unfold fX8_type_J192 at h
      refine lv_iconst (v := 0) hx hb dX8_type_192 (by decide) ?_
      exact hJ193 _ _ _ _ _ _ _ _ _ _ h hI hL (lv_sub hl [0, 1, 2, 3, 4] rfl)
    intro v4 v5 σ H locs ls h hI hL hl
    unfold fX8_type_B123 at h
    refine lv_iload hx hb dX8_type_123 (lv_at hl 4 rfl) ?_
    refine lv_aload_n hx hb dX8_type_125 rfl (lv_at hl 0 rfl) ?_
    replace h := ob_s h
    obtain ⟨f1, h2, h⟩ := h
    refine hm_get S hK hI (pf_X8_90_10 hK) (gI_s h2) dX8_type_126 ?_
    refine lv_icmp_ge (tgt := 201) hx hb dX8_type_129 (by decide) (fun c3 => ?_) (fun c3 => ?_)
    · replace h := it_p c3 h
      refine lv_aload_n hx hb dX8_type_201 rfl (lv_at hl 0 rfl) ?_
      replace h := ob_s h
      obtain ⟨f4, h5, h⟩ := h
      refine hm_get S hK hI (pf_X8_22_10 hK) (gR_s h5) dX8_type_202 ?_
      refine lv_iload hx hb dX8_type_205 (lv_at hl 3 rfl) ?_
      refine lv_iload_n hx hb dX8_type_207 rfl (lv_at hl 1 rfl) ?_
      replace h := cb_s h
      obtain ⟨r8, σ7, h6, h⟩ := h
      refine hm_call (hm_runS (As := [.int x1]) (rest := [.int v4, va_rf f4]) S hK hI (mX8_isInMethod l E h6) (pm_X8_105 hK) (ps_X8_isInMethod hK) ⟨by omega, by omega⟩ rfl hl.1 (by cases f4 <;> exact Nat.le_of_ble_eq_true rfl) ⟨by omega, by omega⟩ dX8_type_208) hL (fun H locs hI hL => ?_)
      refine lv_if_eq (tgt := 223) hx hb dX8_type_211 (by decide) (fun c9 => ?_) (fun c9 => ?_)
      · replace h := it_p c9 h
        refine lv_iconst (v := 0) hx hb dX8_type_223 (by decide) ?_
        exact hJ224 _ _ _ _ _ _ _ _ h hI hL (lv_sub hl [0, 3] rfl)
      · replace h := it_n c9 h
        refine lv_aload_n hx hb dX8_type_214 rfl (lv_at hl 0 rfl) ?_
        replace h := ob_s h
        obtain ⟨f10, h11, h⟩ := h
        refine hm_get S hK hI (pf_X8_45_10 hK) (gR_s h11) dX8_type_215 ?_
        refine lv_iload_n hx hb dX8_type_218 rfl (lv_at hl 2 rfl) ?_
        replace h := ob_s h
        obtain ⟨a12, rfl, h⟩ := h
        have hl : lv_has ls 6 [(0, .ref x0), (1, .int x1), (2, .int x2), (4, .int v4), (5, .int v5)] := hl
        replace h := ob_s h
        obtain ⟨e13, h14, h⟩ := h
        refine hm_iald S hK hI h14 dX8_type_219 ?_
        refine lv_goto (tgt := 224) hx hb dX8_type_220 (by decide) ?_
        exact hJ224 _ _ _ _ _ _ _ _ h hI hL (lv_sub hl [0, 3] rfl)
    · replace h := it_n c3 h
      refine lv_aload_n hx hb dX8_type_132 rfl (lv_at hl 0 rfl) ?_
      replace h := ob_s h
      obtain ⟨f15, h16, h⟩ := h
      refine hm_get S hK hI (pf_X8_19_10 hK) (gR_s h16) dX8_type_133 ?_
      refine lv_iload hx hb dX8_type_136 (lv_at hl 3 rfl) ?_
      refine lv_dup2_11 hx hb dX8_type_138 rfl (by cases f15 <;> rfl) ?_
      replace h := ob_s h
      obtain ⟨a17, rfl, h⟩ := h
      have hl : lv_has ls 6 [(0, .ref x0), (1, .int x1), (2, .int x2), (4, .int v4), (5, .int v5)] := hl
      replace h := ob_s h
      obtain ⟨e18, h19, h⟩ := h
      refine hm_iald S hK hI h19 dX8_type_139 ?_
      refine lv_iload_n hx hb dX8_type_140 rfl (lv_at hl 1 rfl) ?_
      replace h := cb_s h
      obtain ⟨r22, σ21, h20, h⟩ := h
      refine hm_call (hm_runS (As := [.int x1]) (rest := [.int e18, .int v4, .ref a17]) S hK hI (mX8_isInMethod l E h20) (pm_X8_105 hK) (ps_X8_isInMethod hK) ⟨by omega, by omega⟩ rfl hl.1 (Nat.le_of_ble_eq_true rfl) ⟨by omega, by omega⟩ dX8_type_141) hL (fun H locs hI hL => ?_)
      refine lv_if_eq (tgt := 192) hx hb dX8_type_144 (by decide) (fun c23 => ?_) (fun c23 => ?_)
      · replace h := it_p c23 h
        exact hJ192 _ _ _ _ _ _ _ _ _ h hI hL (lv_sub hl [0, 1, 2, 3, 4] rfl)
      · replace h := it_n c23 h
        refine lv_aload_n hx hb dX8_type_147 rfl (lv_at hl 0 rfl) ?_
        replace h := ob_s h
        obtain ⟨f24, h25, h⟩ := h
        refine hm_get S hK hI (pf_X8_7_10 hK) (gR_s h25) dX8_type_148 ?_
        refine lv_iload hx hb dX8_type_151 (lv_at hl 4 rfl) ?_
        replace h := ob_s h
        obtain ⟨a26, rfl, h⟩ := h
        have hl : lv_has ls 6 [(0, .ref x0), (1, .int x1), (2, .int x2), (4, .int v4), (5, .int v5)] := hl
        replace h := ob_s h
        obtain ⟨e27, h28, h⟩ := h
        refine hm_iald S hK hI h28 dX8_type_153 ?_
        replace h := cb_s h
        obtain ⟨r31, σ30, h29, h⟩ := h
        refine hm_call (hm_runS (As := [.int e27]) (rest := [.int e18, .int v4, .ref a17]) S hK hI (mX8_isInMethod l E h29) (pm_X8_105 hK) (ps_X8_isInMethod hK) ⟨by omega, by omega⟩ rfl hl.1 (Nat.le_of_ble_eq_true rfl) ⟨by omega, by omega⟩ dX8_type_154) hL (fun H locs hI hL => ?_)
        refine lv_if_eq (tgt := 192) hx hb dX8_type_157 (by decide) (fun c32 => ?_) (fun c32 => ?_)
        · replace h := it_p c32 h
          exact hJ192 _ _ _ _ _ _ _ _ _ h hI hL (lv_sub hl [0, 1, 2, 3, 4] rfl)
        · replace h := it_n c32 h
          refine lv_aload_n hx hb dX8_type_160 rfl (lv_at hl 0 rfl) ?_
          replace h := ob_s h
          obtain ⟨f33, h34, h⟩ := h
          refine hm_get S hK hI (pf_X8_13_10 hK) (gR_s h34) dX8_type_161 ?_
          refine lv_iload hx hb dX8_type_164 (lv_at hl 4 rfl) ?_
          replace h := ob_s h
          obtain ⟨a35, rfl, h⟩ := h
          have hl : lv_has ls 6 [(0, .ref x0), (1, .int x1), (2, .int x2), (4, .int v4), (5, .int v5)] := hl
          replace h := ob_s h
          obtain ⟨e36, h37, h⟩ := h
          refine hm_iald S hK hI h37 dX8_type_166 ?_
          refine lv_iload_n hx hb dX8_type_167 rfl (lv_at hl 2 rfl) ?_
          refine lv_icmp_ne (tgt := 192) hx hb dX8_type_168 (by decide) (fun c38 => ?_) (fun c38 => ?_)
          · replace h := it_n c38 h
            exact hJ192 _ _ _ _ _ _ _ _ _ h hI hL (lv_sub hl [0, 1, 2, 3, 4] rfl)
          · replace h := it_p c38 h
            refine lv_aload_n hx hb dX8_type_171 rfl (lv_at hl 0 rfl) ?_
            replace h := ob_s h
            obtain ⟨f39, h40, h⟩ := h
            refine hm_get S hK hI (pf_X8_16_10 hK) (gR_s h40) dX8_type_172 ?_
            refine lv_iload hx hb dX8_type_175 (lv_at hl 4 rfl) ?_
            replace h := ob_s h
            obtain ⟨a41, rfl, h⟩ := h
            have hl : lv_has ls 6 [(0, .ref x0), (1, .int x1), (2, .int x2), (4, .int v4), (5, .int v5)] := hl
            replace h := ob_s h
            obtain ⟨e42, h43, h⟩ := h
            refine hm_iald S hK hI h43 dX8_type_177 ?_
            refine lv_aload_n hx hb dX8_type_178 rfl (lv_at hl 0 rfl) ?_
            replace h := ob_s h
            obtain ⟨f44, h45, h⟩ := h
            refine hm_get S hK hI (pf_X8_16_10 hK) (gR_s h45) dX8_type_179 ?_
            refine lv_iload hx hb dX8_type_182 (lv_at hl 3 rfl) ?_
            replace h := ob_s h
            obtain ⟨a46, rfl, h⟩ := h
            have hl : lv_has ls 6 [(0, .ref x0), (1, .int x1), (2, .int x2), (4, .int v4), (5, .int v5)] := hl
            replace h := ob_s h
            obtain ⟨e47, h48, h⟩ := h
            refine hm_iald S hK hI h48 dX8_type_184 ?_
            refine lv_icmp_ne (tgt := 192) hx hb dX8_type_185 (by decide) (fun c49 => ?_) (fun c49 => ?_)
            · replace h := it_n c49 h
              exact hJ192 _ _ _ _ _ _ _ _ _ h hI hL (lv_sub hl [0, 1, 2, 3, 4] rfl)
            · replace h := it_p c49 h
              refine lv_iconst (v := 1) hx hb dX8_type_188 (by decide) ?_
              refine lv_goto (tgt := 193) hx hb dX8_type_189 (by decide) ?_
              exact hJ193 _ _ _ _ _ _ _ _ _ _ h hI hL (lv_sub hl [0, 1, 2, 3, 4] rfl)
  have hL123 : ∀ n : Nat, ∀ (v4 : Int32) (v5 : Int32) (σ : hmS) (H : Heap) (locs : List Loc) (ls : Array Slot), fX8_type_L123 x0 x1 x2 x3  n v4 v5 σ = some (r, σ') → hmI E σ H → hmLo E locs → lv_has ls 6 [(0, .ref x0), (1, .int x1), (2, .int x2), (4, .int v4), (5, .int v5)] → W p l e R s m ([.ref x0, .int x1, .int x2, .int x3] : List Value).toArray below meth c H locs 0 0 (MQ below (hmQc E (some (.int r)) σ') ([.ref x0, .int x1, .int x2, .int x3] : List Value).toArray s 0 0 (fun q => hmL E ≤ q)) (F0 m 123 ls []) := by
    intro n
    induction n with
    | zero =>
      intro v4 v5 σ H locs ls h
      have h : none = some (r, σ') := h
      cases h
    | succ n ih => exact hB123 _ ih
  have hJ111 : ∀ (v4 : Int32) (w0 : Int32) (w1 : Int32) (w2 : Option Nat) (σ : hmS) (H : Heap) (locs : List Loc) (ls : Array Slot), fX8_type_J111 x0 x1 x2 x3  v4 w0 w1 w2 σ = some (r, σ') → hmI E σ H → hmLo E locs → lv_has ls 6 [(0, .ref x0), (1, .int x1), (2, .int x2), (4, .int v4)] → W p l e R s m ([.ref x0, .int x1, .int x2, .int x3] : List Value).toArray below meth c H locs 0 0 (MQ below (hmQc E (some (.int r)) σ') ([.ref x0, .int x1, .int x2, .int x3] : List Value).toArray s 0 0 (fun q => hmL E ≤ q)) (F0 m 111 ls [.int w0, .int w1, va_rf w2]) := by
    intro v4 w0 w1 w2 σ H locs ls h hI hL hl
    unfold fX8_type_J111 at h
    replace h := ob_s h
    obtain ⟨a1, rfl, h⟩ := h
    have hl : lv_has ls 6 [(0, .ref x0), (1, .int x1), (2, .int x2), (4, .int v4)] := hl
    replace h := ob_s h
    obtain ⟨σ2, h3, h⟩ := h
    refine hm_iast S hK hI hL h3 dX8_type_111 (fun H locs hI hL => ?_)
    refine lv_aload_n hx hb dX8_type_112 rfl (lv_at hl 0 rfl) ?_
    replace h := ob_s h
    obtain ⟨f4, h5, h⟩ := h
    refine hm_get S hK hI (pf_X8_19_10 hK) (gR_s h5) dX8_type_113 ?_
    refine lv_iload hx hb dX8_type_116 (lv_at hl 3 rfl) ?_
    refine lv_iconst (v := 1) hx hb dX8_type_118 (by decide) ?_
    replace h := ob_s h
    obtain ⟨a6, rfl, h⟩ := h
    have hl : lv_has ls 6 [(0, .ref x0), (1, .int x1), (2, .int x2), (4, .int v4)] := hl
    replace h := ob_s h
    obtain ⟨σ7, h8, h⟩ := h
    refine hm_iast S hK hI hL h8 dX8_type_119 (fun H locs hI hL => ?_)
    refine lv_iconst (v := 0) hx hb dX8_type_120 (by decide) ?_
    refine lv_istore (lv' := [(5, .int (0 : Int32)), (0, .ref x0), (1, .int x1), (2, .int x2), (4, .int v4)]) hx hb dX8_type_121 hl (by decide) rfl (fun ls hl => ?_)
    exact hL123 20 _ _ _ _ _ _ h hI hL (lv_sub hl [1, 2, 3, 4, 0] rfl)
  have hJ93 : ∀ (v4 : Int32) (w0 : Int32) (w1 : Int32) (w2 : Option Nat) (σ : hmS) (H : Heap) (locs : List Loc) (ls : Array Slot), fX8_type_J93 x0 x1 x2 x3  v4 w0 w1 w2 σ = some (r, σ') → hmI E σ H → hmLo E locs → lv_has ls 6 [(0, .ref x0), (1, .int x1), (2, .int x2), (3, .int x3), (4, .int v4)] → W p l e R s m ([.ref x0, .int x1, .int x2, .int x3] : List Value).toArray below meth c H locs 0 0 (MQ below (hmQc E (some (.int r)) σ') ([.ref x0, .int x1, .int x2, .int x3] : List Value).toArray s 0 0 (fun q => hmL E ≤ q)) (F0 m 93 ls [.int w0, .int w1, va_rf w2]) := by
    intro v4 w0 w1 w2 σ H locs ls h hI hL hl
    unfold fX8_type_J93 at h
    replace h := ob_s h
    obtain ⟨a1, rfl, h⟩ := h
    have hl : lv_has ls 6 [(0, .ref x0), (1, .int x1), (2, .int x2), (3, .int x3), (4, .int v4)] := hl
    replace h := ob_s h
    obtain ⟨σ2, h3, h⟩ := h
    refine hm_iast S hK hI hL h3 dX8_type_93 (fun H locs hI hL => ?_)
    refine lv_aload_n hx hb dX8_type_94 rfl (lv_at hl 0 rfl) ?_
    replace h := ob_s h
    obtain ⟨f4, h5, h⟩ := h
    refine hm_get S hK hI (pf_X8_16_10 hK) (gR_s h5) dX8_type_95 ?_
    refine lv_iload hx hb dX8_type_98 (lv_at hl 4 rfl) ?_
    refine lv_iload_n hx hb dX8_type_100 rfl (lv_at hl 1 rfl) ?_
    refine lv_iconst (v := 5) hx hb dX8_type_101 (by decide) ?_
    refine lv_icmp_ne (tgt := 110) hx hb dX8_type_102 (by decide) (fun c6 => ?_) (fun c6 => ?_)
    · replace h := it_n c6 h
      refine lv_iload_n hx hb dX8_type_110 rfl (lv_at hl 3 rfl) ?_
      exact hJ111 _ _ _ _ _ _ _ _ h hI hL (lv_sub hl [0, 1, 2, 4] rfl)
    · replace h := it_p c6 h
      refine lv_bipush (v := -3) hx hb dX8_type_105 (by decide) ?_
      refine lv_goto (tgt := 111) hx hb dX8_type_107 (by decide) ?_
      exact hJ111 _ _ _ _ _ _ _ _ h hI hL (lv_sub hl [0, 1, 2, 4] rfl)
  have hJ38 : ∀  (σ : hmS) (H : Heap) (locs : List Loc) (ls : Array Slot), fX8_type_J38 x0 x1 x2 x3   σ = some (r, σ') → hmI E σ H → hmLo E locs → lv_has ls 6 [(0, .ref x0), (1, .int x1), (2, .int x2), (3, .int x3)] → W p l e R s m ([.ref x0, .int x1, .int x2, .int x3] : List Value).toArray below meth c H locs 0 0 (MQ below (hmQc E (some (.int r)) σ') ([.ref x0, .int x1, .int x2, .int x3] : List Value).toArray s 0 0 (fun q => hmL E ≤ q)) (F0 m 38 ls []) := by
    intro  σ H locs ls h hI hL hl
    unfold fX8_type_J38 at h
    refine lv_aload_n hx hb dX8_type_38 rfl (lv_at hl 0 rfl) ?_
    replace h := ob_s h
    obtain ⟨f1, h2, h⟩ := h
    refine hm_get S hK hI (pf_X8_90_10 hK) (gI_s h2) dX8_type_39 ?_
    refine lv_bipush (v := 12) hx hb dX8_type_42 (by decide) ?_
    refine lv_icmp_ne (tgt := 50) hx hb dX8_type_44 (by decide) (fun c3 => ?_) (fun c3 => ?_)
    · replace h := it_n c3 h
      refine lv_aload_n hx hb dX8_type_50 rfl (lv_at hl 0 rfl) ?_
      refine lv_iload_n hx hb dX8_type_51 rfl (lv_at hl 1 rfl) ?_
      refine lv_iload_n hx hb dX8_type_52 rfl (lv_at hl 2 rfl) ?_
      refine lv_iload_n hx hb dX8_type_53 rfl (lv_at hl 3 rfl) ?_
      replace h := ob_s h
      obtain ⟨_, h5, h⟩ := h
      replace h := cb_s h
      obtain ⟨r7, σ6, h4, h⟩ := h
      refine hm_call (hm_runV (As := [.int x1, .int x2, .int x3]) (rest := []) (ci := 10) S hK hI (obC_s h5) rfl (mX8_isTaken l E h4) (pm_X8_102 hK) (pi_X8_isTaken hK) (pl_X8_X8_isTaken hK) ⟨by omega, by omega⟩ rfl hl.1 (Nat.le_of_ble_eq_true rfl) ⟨by omega, by omega⟩ dX8_type_54) hL (fun H locs hI hL => ?_)
      refine lv_if_eq (tgt := 63) hx hb dX8_type_57 (by decide) (fun c8 => ?_) (fun c8 => ?_)
      · replace h := it_p c8 h
        refine lv_aload_n hx hb dX8_type_63 rfl (lv_at hl 0 rfl) ?_
        replace h := ob_s h
        obtain ⟨f9, h10, h⟩ := h
        refine hm_get S hK hI (pf_X8_90_10 hK) (gI_s h10) dX8_type_64 ?_
        refine lv_istore (lv' := [(4, .int f9), (0, .ref x0), (1, .int x1), (2, .int x2), (3, .int x3)]) hx hb dX8_type_67 hl (by decide) rfl (fun ls hl => ?_)
        refine lv_aload_n hx hb dX8_type_69 rfl (lv_at hl 1 rfl) ?_
        replace h := ob_s h
        obtain ⟨f11, h12, h⟩ := h
        refine hm_get S hK hI (pf_X8_7_10 hK) (gR_s h12) dX8_type_70 ?_
        refine lv_iload hx hb dX8_type_73 (lv_at hl 0 rfl) ?_
        refine lv_iload_n hx hb dX8_type_75 rfl (lv_at hl 2 rfl) ?_
        replace h := ob_s h
        obtain ⟨a13, rfl, h⟩ := h
        have hl : lv_has ls 6 [(4, .int f9), (0, .ref x0), (1, .int x1), (2, .int x2), (3, .int x3)] := hl
        replace h := ob_s h
        obtain ⟨σ14, h15, h⟩ := h
        refine hm_iast S hK hI hL h15 dX8_type_76 (fun H locs hI hL => ?_)
        refine lv_aload_n hx hb dX8_type_77 rfl (lv_at hl 1 rfl) ?_
        replace h := ob_s h
        obtain ⟨f16, h17, h⟩ := h
        refine hm_get S hK hI (pf_X8_13_10 hK) (gR_s h17) dX8_type_78 ?_
        refine lv_iload hx hb dX8_type_81 (lv_at hl 0 rfl) ?_
        refine lv_iload_n hx hb dX8_type_83 rfl (lv_at hl 2 rfl) ?_
        refine lv_if_ne (tgt := 92) hx hb dX8_type_84 (by decide) (fun c18 => ?_) (fun c18 => ?_)
        · replace h := it_n c18 h
          refine lv_iload_n hx hb dX8_type_92 rfl (lv_at hl 3 rfl) ?_
          exact hJ93 _ _ _ _ _ _ _ _ h hI hL (lv_sub hl [1, 2, 3, 4, 0] rfl)
        · replace h := it_p c18 h
          refine lv_bipush (v := -3) hx hb dX8_type_87 (by decide) ?_
          refine lv_goto (tgt := 93) hx hb dX8_type_89 (by decide) ?_
          exact hJ93 _ _ _ _ _ _ _ _ h hI hL (lv_sub hl [1, 2, 3, 4, 0] rfl)
      · replace h := it_n c8 h
        refine lv_bipush (v := -4) hx hb dX8_type_60 (by decide) ?_
        exact hm_iret hx hb hr hI hL h (by omega) (by omega) hlocks dX8_type_62
    · replace h := it_p c3 h
      refine lv_bipush (v := -2) hx hb dX8_type_47 (by decide) ?_
      exact hm_iret hx hb hr hI hL h (by omega) (by omega) hlocks dX8_type_49
  have hJ24 : ∀  (σ : hmS) (H : Heap) (locs : List Loc) (ls : Array Slot), fX8_type_J24 x0 x1 x2 x3   σ = some (r, σ') → hmI E σ H → hmLo E locs → lv_has ls 6 [(0, .ref x0), (1, .int x1), (2, .int x2), (3, .int x3)] → W p l e R s m ([.ref x0, .int x1, .int x2, .int x3] : List Value).toArray below meth c H locs 0 0 (MQ below (hmQc E (some (.int r)) σ') ([.ref x0, .int x1, .int x2, .int x3] : List Value).toArray s 0 0 (fun q => hmL E ≤ q)) (F0 m 24 ls []) := by
    intro  σ H locs ls h hI hL hl
    unfold fX8_type_J24 at h
    refine lv_iload_n hx hb dX8_type_24 rfl (lv_at hl 1 rfl) ?_
    refine lv_if_eq (tgt := 38) hx hb dX8_type_25 (by decide) (fun c1 => ?_) (fun c1 => ?_)
    · replace h := it_p c1 h
      exact hJ38 _ _ _ _ h hI hL (lv_sub hl [0, 1, 2, 3] rfl)
    · replace h := it_n c1 h
      refine lv_aload_n hx hb dX8_type_28 rfl (lv_at hl 0 rfl) ?_
      refine lv_iload_n hx hb dX8_type_29 rfl (lv_at hl 2 rfl) ?_
      replace h := ob_s h
      obtain ⟨_, h3, h⟩ := h
      replace h := cb_s h
      obtain ⟨r5, σ4, h2, h⟩ := h
      refine hm_call (hm_runV (As := [.int x2]) (rest := []) (ci := 10) S hK hI (obC_s h3) rfl (mX8_isType l E h2) (pm_X8_98 hK) (pi_X8_isType hK) (pl_X8_X8_isType hK) ⟨by omega, by omega⟩ rfl hl.1 (Nat.le_of_ble_eq_true rfl) ⟨by omega, by omega⟩ dX8_type_30) hL (fun H locs hI hL => ?_)
      refine lv_if_ne (tgt := 38) hx hb dX8_type_33 (by decide) (fun c6 => ?_) (fun c6 => ?_)
      · replace h := it_n c6 h
        exact hJ38 _ _ _ _ h hI hL (lv_sub hl [0, 1, 2, 3] rfl)
      · replace h := it_p c6 h
        refine lv_iconst (v := -1) hx hb dX8_type_36 (by decide) ?_
        exact hm_iret hx hb hr hI hL h (by omega) (by omega) hlocks dX8_type_37
  have h := hmain
  clear hmain
  unfold fX8_type at h
  refine lv_iload_n hx hb dX8_type_0 rfl (lv_at hl 1 rfl) ?_
  refine lv_iconst (v := 0) hx hb dX8_type_1 (by decide) ?_
  refine lv_iconst (v := 5) hx hb dX8_type_2 (by decide) ?_
  replace h := cb_s h
  obtain ⟨r3, σ2, h1, h⟩ := h
  refine hm_call (hm_runS (As := [.int x1, .int (0 : Int32), .int (5 : Int32)]) (rest := []) S hK hI (mX8_in l E h1) (pm_X8_94 hK) (ps_X8_in hK) ⟨by omega, by omega⟩ rfl hl.1 (Nat.le_of_ble_eq_true rfl) ⟨by omega, by omega⟩ dX8_type_3) hL (fun H locs hI hL => ?_)
  refine lv_if_eq (tgt := 36) hx hb dX8_type_6 (by decide) (fun c4 => ?_) (fun c4 => ?_)
  · replace h := it_p c4 h
    refine lv_iconst (v := -1) hx hb dX8_type_36 (by decide) ?_
    exact hm_iret hx hb hr hI hL h (by omega) (by omega) hlocks dX8_type_37
  · replace h := it_n c4 h
    refine lv_iload_n hx hb dX8_type_9 rfl (lv_at hl 1 rfl) ?_
    refine lv_iconst (v := 5) hx hb dX8_type_10 (by decide) ?_
    refine lv_icmp_eq (tgt := 24) hx hb dX8_type_11 (by decide) (fun c5 => ?_) (fun c5 => ?_)
    · replace h := it_p c5 h
      exact hJ24 _ _ _ _ h hI hL (lv_sub hl [0, 1, 2, 3] rfl)
    · replace h := it_n c5 h
      refine lv_iload_n hx hb dX8_type_14 rfl (lv_at hl 3 rfl) ?_
      refine lv_iconst (v := 0) hx hb dX8_type_15 (by decide) ?_
      refine lv_bipush (v := 25) hx hb dX8_type_16 (by decide) ?_
      replace h := cb_s h
      obtain ⟨r8, σ7, h6, h⟩ := h
      refine hm_call (hm_runS (As := [.int x3, .int (0 : Int32), .int (25 : Int32)]) (rest := []) S hK hI (mX8_in l E h6) (pm_X8_94 hK) (ps_X8_in hK) ⟨by omega, by omega⟩ rfl hl.1 (Nat.le_of_ble_eq_true rfl) ⟨by omega, by omega⟩ dX8_type_18) hL (fun H locs hI hL => ?_)
      refine lv_if_eq (tgt := 36) hx hb dX8_type_21 (by decide) (fun c9 => ?_) (fun c9 => ?_)
      · replace h := it_p c9 h
        refine lv_iconst (v := -1) hx hb dX8_type_36 (by decide) ?_
        exact hm_iret hx hb hr hI hL h (by omega) (by omega) hlocks dX8_type_37
      · replace h := it_n c9 h
        exact hJ24 _ _ _ _ h hI hL (lv_sub hl [0, 1, 2, 3] rfl)

def fX8_isName (x0 : Int32) (σ : hmS) : Option (Int32 × hmS) :=
  cb (fX8_in x0 (0 : Int32) (7 : Int32) σ) fun r3 σ2 => ob (okZ r3) fun _ => some (r3, σ2)
set_option maxHeartbeats 4000000 in
set_option maxRecDepth 100000 in
theorem mX8_isName (l : Launch) (E : hmG) {x0 : Int32} {σ σ' : hmS} {r : Int32} (h : fX8_isName x0 σ = some (r, σ')) : Met l yX8_isName [Cond.code yX8_isName cX8_isName 1 (some .boolean)] { frames := 1, cells := 0, slots := 0, locals := 22 } (hmPc E [.int x0] σ) (hmQc E (some (.int r)) σ') 0 0 (fun q => hmL E ≤ q) := by
  refine Met.ofW (cc := cX8_isName) (maxL := 1) (ret := (some .boolean)) (by decide) rfl ?_
  intro p e s m args below meth c s₁ B hml hv
  obtain ⟨rfl, hK, hI⟩ := hv
  have S : CallFix p m c cX8_isName 1 s ([.int x0] : List Value).toArray [] RX8 := ⟨B.exec, B.bytes, hml, findClass_of_methodNamed B.named, fun w hw => by cases hw⟩
  have hx := S.1
  have hb := S.2.1
  have hr := B.returns
  have hlocks := B.notSynchronized
  have hL : hmLo E [] := hmLo.nil
  have hl : lv_has ((lg_sl ([.int x0]) ++ List.replicate (1 - (lg_sl ([.int x0])).length) Slot.unset).toArray) 1 [(0, .int x0)] := by exact lv_entry _ (Nat.le_of_ble_eq_true rfl)
  rw [lg_entry_eq]
  generalize (lg_sl ([.int x0]) ++ List.replicate (1 - (lg_sl ([.int x0])).length) Slot.unset).toArray = ls at hl ⊢
  generalize hRe : (headSpec [Cond.code yX8_isName cX8_isName 1 (some .boolean)] { frames := 1, cells := 0, slots := 0, locals := 22 }).room = R
  have hR1 : R.frames = 1 ∧ R.cells = 0 ∧ R.slots = 0 ∧ R.locals = 22 := by rw [← hRe]; exact ⟨rfl, rfl, rfl, rfl⟩
  clear hRe B hml
  generalize s.heap = H at hI ⊢
  generalize ([] : List Loc) = locs at hL ⊢
  have hmain := h
  clear h
  have h := hmain
  clear hmain
  unfold fX8_isName at h
  refine lv_iload_n hx hb dX8_isName_0 rfl (lv_at hl 0 rfl) ?_
  refine lv_iconst (v := 0) hx hb dX8_isName_1 (by decide) ?_
  refine lv_bipush (v := 7) hx hb dX8_isName_2 (by decide) ?_
  replace h := cb_s h
  obtain ⟨r3, σ2, h1, h⟩ := h
  refine hm_call (hm_runS (As := [.int x0, .int (0 : Int32), .int (7 : Int32)]) (rest := []) S hK hI (mX8_in l E h1) (pm_X8_94 hK) (ps_X8_in hK) ⟨by omega, by omega⟩ rfl hl.1 (Nat.le_of_ble_eq_true rfl) ⟨by omega, by omega⟩ dX8_isName_4) hL (fun H locs hI hL => ?_)
  replace h := ob_s h
  obtain ⟨_, z4, h⟩ := h
  exact hm_zret hx hb hr (okZ_n z4).1 hI hL h (by omega) (by omega) hlocks dX8_isName_7

def fX8_fieldOf_B2 (x0 : Nat) (x1 : Int32) (x2 : Int32)  (K2 : Int32 → hmS → Option (Int32 × hmS)) (v3 : Int32) (σ : hmS) : Option (Int32 × hmS) :=
  ob (gR σ x0 10 7) fun f1 => ob f1 fun a3 => ob (aI σ 0 a3 x1) fun e4 => if e4 ≤ v3 then
    some ((-3 : Int32), σ)
  else
    ob (gR σ x0 10 8) fun f7 => ob f7 fun a9 => ob (aI σ 0 a9 (((4 : Int32) * x1) + v3)) fun e10 => if e10 = x2 then
      some (v3, σ)
    else
      K2 (v3 + (1 : Int32)) σ
def fX8_fieldOf_L2 (x0 : Nat) (x1 : Int32) (x2 : Int32)  : Nat → Int32 → hmS → Option (Int32 × hmS)
  | 0 => fun _ _ => none
  | n + 1 => fX8_fieldOf_B2 x0 x1 x2  (fX8_fieldOf_L2 x0 x1 x2  n)
def fX8_fieldOf (x0 : Nat) (x1 : Int32) (x2 : Int32) (σ : hmS) : Option (Int32 × hmS) :=
  fX8_fieldOf_L2 x0 x1 x2 20 (0 : Int32) σ
set_option maxHeartbeats 4000000 in
set_option maxRecDepth 100000 in
theorem mX8_fieldOf (l : Launch) (E : hmG) {x0 : Nat} {x1 : Int32} {x2 : Int32} {σ σ' : hmS} {r : Int32} (h : fX8_fieldOf x0 x1 x2 σ = some (r, σ')) : Met l yX8_fieldOf [Cond.code yX8_fieldOf cX8_fieldOf 4 (some .int)] { frames := 0, cells := 0, slots := 0, locals := 0 } (hmPc E [.ref x0, .int x1, .int x2] σ) (hmQc E (some (.int r)) σ') 0 0 (fun q => hmL E ≤ q) := by
  refine Met.ofW (cc := cX8_fieldOf) (maxL := 4) (ret := (some .int)) (by decide) rfl ?_
  intro p e s m args below meth c s₁ B hml hv
  obtain ⟨rfl, hK, hI⟩ := hv
  have S : CallFix p m c cX8_fieldOf 4 s ([.ref x0, .int x1, .int x2] : List Value).toArray [] RX8 := ⟨B.exec, B.bytes, hml, findClass_of_methodNamed B.named, fun w hw => by cases hw⟩
  have hx := S.1
  have hb := S.2.1
  have hr := B.returns
  have hlocks := B.notSynchronized
  have hL : hmLo E [] := hmLo.nil
  have hl : lv_has ((lg_sl ([.ref x0, .int x1, .int x2]) ++ List.replicate (4 - (lg_sl ([.ref x0, .int x1, .int x2])).length) Slot.unset).toArray) 4 [(0, .ref x0), (1, .int x1), (2, .int x2)] := by exact lv_entry _ (Nat.le_of_ble_eq_true rfl)
  rw [lg_entry_eq]
  generalize (lg_sl ([.ref x0, .int x1, .int x2]) ++ List.replicate (4 - (lg_sl ([.ref x0, .int x1, .int x2])).length) Slot.unset).toArray = ls at hl ⊢
  generalize hRe : (headSpec [Cond.code yX8_fieldOf cX8_fieldOf 4 (some .int)] { frames := 0, cells := 0, slots := 0, locals := 0 }).room = R
  have hR1 : R.frames = 0 ∧ R.cells = 0 ∧ R.slots = 0 ∧ R.locals = 0 := by rw [← hRe]; exact ⟨rfl, rfl, rfl, rfl⟩
  clear hRe B hml
  generalize s.heap = H at hI ⊢
  generalize ([] : List Loc) = locs at hL ⊢
  have hmain := h
  clear h
  have hB2 : ∀ (K2 : Int32 → hmS → Option (Int32 × hmS)), (∀ (v3 : Int32) (σ : hmS) (H : Heap) (locs : List Loc) (ls : Array Slot), K2 v3 σ = some (r, σ') → hmI E σ H → hmLo E locs → lv_has ls 4 [(0, .ref x0), (1, .int x1), (2, .int x2), (3, .int v3)] → W p l e R s m ([.ref x0, .int x1, .int x2] : List Value).toArray below meth c H locs 0 0 (MQ below (hmQc E (some (.int r)) σ') ([.ref x0, .int x1, .int x2] : List Value).toArray s 0 0 (fun q => hmL E ≤ q)) (F0 m 2 ls [])) → ∀ (v3 : Int32) (σ : hmS) (H : Heap) (locs : List Loc) (ls : Array Slot), fX8_fieldOf_B2 x0 x1 x2  K2 v3 σ = some (r, σ') → hmI E σ H → hmLo E locs → lv_has ls 4 [(0, .ref x0), (1, .int x1), (2, .int x2), (3, .int v3)] → W p l e R s m ([.ref x0, .int x1, .int x2] : List Value).toArray below meth c H locs 0 0 (MQ below (hmQc E (some (.int r)) σ') ([.ref x0, .int x1, .int x2] : List Value).toArray s 0 0 (fun q => hmL E ≤ q)) (F0 m 2 ls []) := by
    intro K2 hk2
    intro v3 σ H locs ls h hI hL hl
    unfold fX8_fieldOf_B2 at h
    refine lv_iload_n hx hb dX8_fieldOf_2 rfl (lv_at hl 3 rfl) ?_
    refine lv_aload_n hx hb dX8_fieldOf_3 rfl (lv_at hl 0 rfl) ?_
    replace h := ob_s h
    obtain ⟨f1, h2, h⟩ := h
    refine hm_get S hK hI (pf_X8_28_10 hK) (gR_s h2) dX8_fieldOf_4 ?_
    refine lv_iload_n hx hb dX8_fieldOf_7 rfl (lv_at hl 1 rfl) ?_
    replace h := ob_s h
    obtain ⟨a3, rfl, h⟩ := h
    have hl : lv_has ls 4 [(0, .ref x0), (1, .int x1), (2, .int x2), (3, .int v3)] := hl
    replace h := ob_s h
    obtain ⟨e4, h5, h⟩ := h
    refine hm_iald S hK hI h5 dX8_fieldOf_8 ?_
    refine lv_icmp_ge (tgt := 34) hx hb dX8_fieldOf_9 (by decide) (fun c6 => ?_) (fun c6 => ?_)
    · replace h := it_p c6 h
      refine lv_bipush (v := -3) hx hb dX8_fieldOf_34 (by decide) ?_
      exact hm_iret hx hb hr hI hL h (by omega) (by omega) hlocks dX8_fieldOf_36
    · replace h := it_n c6 h
      refine lv_aload_n hx hb dX8_fieldOf_12 rfl (lv_at hl 0 rfl) ?_
      replace h := ob_s h
      obtain ⟨f7, h8, h⟩ := h
      refine hm_get S hK hI (pf_X8_31_10 hK) (gR_s h8) dX8_fieldOf_13 ?_
      refine lv_iconst (v := 4) hx hb dX8_fieldOf_16 (by decide) ?_
      refine lv_iload_n hx hb dX8_fieldOf_17 rfl (lv_at hl 1 rfl) ?_
      refine lv_imul hx hb dX8_fieldOf_18 ?_
      refine lv_iload_n hx hb dX8_fieldOf_19 rfl (lv_at hl 3 rfl) ?_
      refine lv_iadd hx hb dX8_fieldOf_20 ?_
      replace h := ob_s h
      obtain ⟨a9, rfl, h⟩ := h
      have hl : lv_has ls 4 [(0, .ref x0), (1, .int x1), (2, .int x2), (3, .int v3)] := hl
      replace h := ob_s h
      obtain ⟨e10, h11, h⟩ := h
      refine hm_iald S hK hI h11 dX8_fieldOf_21 ?_
      refine lv_iload_n hx hb dX8_fieldOf_22 rfl (lv_at hl 2 rfl) ?_
      refine lv_icmp_ne (tgt := 28) hx hb dX8_fieldOf_23 (by decide) (fun c12 => ?_) (fun c12 => ?_)
      · replace h := it_n c12 h
        refine lv_iinc (v := (v3 + (1 : Int32))) (lv' := [(3, .int (v3 + (1 : Int32))), (0, .ref x0), (1, .int x1), (2, .int x2)]) hx hb dX8_fieldOf_28 hl (k := 3) rfl rfl (by decide) rfl (fun ls hl => ?_)
        refine lv_goto (tgt := 2) hx hb dX8_fieldOf_31 (by decide) ?_
        exact hk2 _ _ _ _ _ h hI hL (lv_sub hl [1, 2, 3, 0] rfl)
      · replace h := it_p c12 h
        refine lv_iload_n hx hb dX8_fieldOf_26 rfl (lv_at hl 3 rfl) ?_
        exact hm_iret hx hb hr hI hL h (by omega) (by omega) hlocks dX8_fieldOf_27
  have hL2 : ∀ n : Nat, ∀ (v3 : Int32) (σ : hmS) (H : Heap) (locs : List Loc) (ls : Array Slot), fX8_fieldOf_L2 x0 x1 x2  n v3 σ = some (r, σ') → hmI E σ H → hmLo E locs → lv_has ls 4 [(0, .ref x0), (1, .int x1), (2, .int x2), (3, .int v3)] → W p l e R s m ([.ref x0, .int x1, .int x2] : List Value).toArray below meth c H locs 0 0 (MQ below (hmQc E (some (.int r)) σ') ([.ref x0, .int x1, .int x2] : List Value).toArray s 0 0 (fun q => hmL E ≤ q)) (F0 m 2 ls []) := by
    intro n
    induction n with
    | zero =>
      intro v3 σ H locs ls h
      have h : none = some (r, σ') := h
      cases h
    | succ n ih => exact hB2 _ ih
  have h := hmain
  clear hmain
  unfold fX8_fieldOf at h
  refine lv_iconst (v := 0) hx hb dX8_fieldOf_0 (by decide) ?_
  refine lv_istore_n (lv' := [(3, .int (0 : Int32)), (0, .ref x0), (1, .int x1), (2, .int x2)]) hx hb dX8_fieldOf_1 rfl hl (by decide) rfl (fun ls hl => ?_)
  exact hL2 20 _ _ _ _ _ h hI hL (lv_sub hl [1, 2, 3, 0] rfl)

def fX8_field (x0 : Nat) (x1 : Int32) (x2 : Int32) (x3 : Int64) (x4 : Int32) (σ : hmS) : Option (Int32 × hmS) :=
  ob (obC σ x0 10) fun _ => cb (fX8_isType x0 x1 σ) fun r4 σ3 => if r4 = 0 then
    some ((-1 : Int32), σ3)
  else
    cb (fX8_isName x2 σ3) fun r8 σ7 => if r8 = 0 then
      some ((-1 : Int32), σ7)
    else
      ob (gR σ7 x0 10 7) fun f10 => ob f10 fun a12 => ob (aI σ7 0 a12 x1) fun e13 => if e13 = (4 : Int32) then
        some ((-2 : Int32), σ7)
      else
        ob (obC σ7 x0 10) fun _ => cb (fX8_fieldOf x0 x1 x2 σ7) fun r19 σ18 => if r19 < 0 then
          ob (gR σ18 x0 10 7) fun f21 => ob f21 fun a23 => ob (aI σ18 0 a23 x1) fun e24 => ob (gR σ18 x0 10 8) fun f26 => ob f26 fun a28 => ob (sI σ18 0 a28 (((4 : Int32) * x1) + e24) x2) fun σ29 => ob (gR σ29 x0 10 9) fun f31 => ob f31 fun a33 => ob (sL σ29 a33 (((4 : Int32) * x1) + e24) x3) fun σ34 => ob (gR σ34 x0 10 10) fun f36 => ob f36 fun a38 => ob (sI σ34 2 a38 (((4 : Int32) * x1) + e24) (vp_nar .boolean x4)) fun σ39 => ob (gR σ39 x0 10 7) fun f41 => ob f41 fun a43 => ob (aI σ39 0 a43 x1) fun e44 => ob (sI σ39 0 a43 x1 (e44 + (1 : Int32))) fun σ46 => ob (gR σ46 x0 10 7) fun f48 => ob f48 fun a50 => ob (aI σ46 0 a50 x1) fun e51 => some (e51, σ46)
        else
          some ((-4 : Int32), σ18)
set_option maxHeartbeats 4000000 in
set_option maxRecDepth 100000 in
theorem mX8_field (l : Launch) (E : hmG) {x0 : Nat} {x1 : Int32} {x2 : Int32} {x3 : Int64} {x4 : Int32} {σ σ' : hmS} {r : Int32} (h : fX8_field x0 x1 x2 x3 x4 σ = some (r, σ')) : Met l yX8_field [Cond.code yX8_field cX8_field 7 (some .int)] { frames := 2, cells := 0, slots := 0, locals := 43 } (hmPc E [.ref x0, .int x1, .int x2, .long x3, .int x4] σ) (hmQc E (some (.int r)) σ') 0 0 (fun q => hmL E ≤ q) := by
  refine Met.ofW (cc := cX8_field) (maxL := 7) (ret := (some .int)) (by decide) rfl ?_
  intro p e s m args below meth c s₁ B hml hv
  obtain ⟨rfl, hK, hI⟩ := hv
  have S : CallFix p m c cX8_field 7 s ([.ref x0, .int x1, .int x2, .long x3, .int x4] : List Value).toArray [] RX8 := ⟨B.exec, B.bytes, hml, findClass_of_methodNamed B.named, fun w hw => by cases hw⟩
  have hx := S.1
  have hb := S.2.1
  have hr := B.returns
  have hlocks := B.notSynchronized
  have hL : hmLo E [] := hmLo.nil
  have hl : lv_has ((lg_sl ([.ref x0, .int x1, .int x2, .long x3, .int x4]) ++ List.replicate (7 - (lg_sl ([.ref x0, .int x1, .int x2, .long x3, .int x4])).length) Slot.unset).toArray) 7 [(0, .ref x0), (1, .int x1), (2, .int x2), (3, .long x3), (5, .int x4)] := by exact lv_entry _ (Nat.le_of_ble_eq_true rfl)
  rw [lg_entry_eq]
  generalize (lg_sl ([.ref x0, .int x1, .int x2, .long x3, .int x4]) ++ List.replicate (7 - (lg_sl ([.ref x0, .int x1, .int x2, .long x3, .int x4])).length) Slot.unset).toArray = ls at hl ⊢
  generalize hRe : (headSpec [Cond.code yX8_field cX8_field 7 (some .int)] { frames := 2, cells := 0, slots := 0, locals := 43 }).room = R
  have hR1 : R.frames = 2 ∧ R.cells = 0 ∧ R.slots = 0 ∧ R.locals = 43 := by rw [← hRe]; exact ⟨rfl, rfl, rfl, rfl⟩
  clear hRe B hml
  generalize s.heap = H at hI ⊢
  generalize ([] : List Loc) = locs at hL ⊢
  have hmain := h
  clear h
  have h := hmain
  clear hmain
  unfold fX8_field at h
  refine lv_aload_n hx hb dX8_field_0 rfl (lv_at hl 0 rfl) ?_
  refine lv_iload_n hx hb dX8_field_1 rfl (lv_at hl 1 rfl) ?_
  replace h := ob_s h
  obtain ⟨_, h2, h⟩ := h
  replace h := cb_s h
  obtain ⟨r4, σ3, h1, h⟩ := h
  refine hm_call (hm_runV (As := [.int x1]) (rest := []) (ci := 10) S hK hI (obC_s h2) rfl (mX8_isType l E h1) (pm_X8_98 hK) (pi_X8_isType hK) (pl_X8_X8_isType hK) ⟨by omega, by omega⟩ rfl hl.1 (Nat.le_of_ble_eq_true rfl) ⟨by omega, by omega⟩ dX8_field_2) hL (fun H locs hI hL => ?_)
  refine lv_if_eq (tgt := 15) hx hb dX8_field_5 (by decide) (fun c5 => ?_) (fun c5 => ?_)
  · replace h := it_p c5 h
    refine lv_iconst (v := -1) hx hb dX8_field_15 (by decide) ?_
    exact hm_iret hx hb hr hI hL h (by omega) (by omega) hlocks dX8_field_16
  · replace h := it_n c5 h
    refine lv_iload_n hx hb dX8_field_8 rfl (lv_at hl 2 rfl) ?_
    replace h := cb_s h
    obtain ⟨r8, σ7, h6, h⟩ := h
    refine hm_call (hm_runS (As := [.int x2]) (rest := []) S hK hI (mX8_isName l E h6) (pm_X8_108 hK) (ps_X8_isName hK) ⟨by omega, by omega⟩ rfl hl.1 (Nat.le_of_ble_eq_true rfl) ⟨by omega, by omega⟩ dX8_field_9) hL (fun H locs hI hL => ?_)
    refine lv_if_ne (tgt := 17) hx hb dX8_field_12 (by decide) (fun c9 => ?_) (fun c9 => ?_)
    · replace h := it_n c9 h
      refine lv_aload_n hx hb dX8_field_17 rfl (lv_at hl 0 rfl) ?_
      replace h := ob_s h
      obtain ⟨f10, h11, h⟩ := h
      refine hm_get S hK hI (pf_X8_28_10 hK) (gR_s h11) dX8_field_18 ?_
      refine lv_iload_n hx hb dX8_field_21 rfl (lv_at hl 1 rfl) ?_
      replace h := ob_s h
      obtain ⟨a12, rfl, h⟩ := h
      have hl : lv_has ls 7 [(0, .ref x0), (1, .int x1), (2, .int x2), (3, .long x3), (5, .int x4)] := hl
      replace h := ob_s h
      obtain ⟨e13, h14, h⟩ := h
      refine hm_iald S hK hI h14 dX8_field_22 ?_
      refine lv_iconst (v := 4) hx hb dX8_field_23 (by decide) ?_
      refine lv_icmp_ne (tgt := 30) hx hb dX8_field_24 (by decide) (fun c15 => ?_) (fun c15 => ?_)
      · replace h := it_n c15 h
        refine lv_aload_n hx hb dX8_field_30 rfl (lv_at hl 0 rfl) ?_
        refine lv_iload_n hx hb dX8_field_31 rfl (lv_at hl 1 rfl) ?_
        refine lv_iload_n hx hb dX8_field_32 rfl (lv_at hl 2 rfl) ?_
        replace h := ob_s h
        obtain ⟨_, h17, h⟩ := h
        replace h := cb_s h
        obtain ⟨r19, σ18, h16, h⟩ := h
        refine hm_call (hm_runV (As := [.int x1, .int x2]) (rest := []) (ci := 10) S hK hI (obC_s h17) rfl (mX8_fieldOf l E h16) (pm_X8_111 hK) (pi_X8_fieldOf hK) (pl_X8_X8_fieldOf hK) ⟨by omega, by omega⟩ rfl hl.1 (Nat.le_of_ble_eq_true rfl) ⟨by omega, by omega⟩ dX8_field_33) hL (fun H locs hI hL => ?_)
        refine lv_if_lt (tgt := 42) hx hb dX8_field_36 (by decide) (fun c20 => ?_) (fun c20 => ?_)
        · replace h := it_p c20 h
          refine lv_iconst (v := 4) hx hb dX8_field_42 (by decide) ?_
          refine lv_iload_n hx hb dX8_field_43 rfl (lv_at hl 1 rfl) ?_
          refine lv_imul hx hb dX8_field_44 ?_
          refine lv_aload_n hx hb dX8_field_45 rfl (lv_at hl 0 rfl) ?_
          replace h := ob_s h
          obtain ⟨f21, h22, h⟩ := h
          refine hm_get S hK hI (pf_X8_28_10 hK) (gR_s h22) dX8_field_46 ?_
          refine lv_iload_n hx hb dX8_field_49 rfl (lv_at hl 1 rfl) ?_
          replace h := ob_s h
          obtain ⟨a23, rfl, h⟩ := h
          have hl : lv_has ls 7 [(0, .ref x0), (1, .int x1), (2, .int x2), (3, .long x3), (5, .int x4)] := hl
          replace h := ob_s h
          obtain ⟨e24, h25, h⟩ := h
          refine hm_iald S hK hI h25 dX8_field_50 ?_
          refine lv_iadd hx hb dX8_field_51 ?_
          refine lv_istore (lv' := [(6, .int (((4 : Int32) * x1) + e24)), (0, .ref x0), (1, .int x1), (2, .int x2), (3, .long x3), (5, .int x4)]) hx hb dX8_field_52 hl (by decide) rfl (fun ls hl => ?_)
          refine lv_aload_n hx hb dX8_field_54 rfl (lv_at hl 1 rfl) ?_
          replace h := ob_s h
          obtain ⟨f26, h27, h⟩ := h
          refine hm_get S hK hI (pf_X8_31_10 hK) (gR_s h27) dX8_field_55 ?_
          refine lv_iload hx hb dX8_field_58 (lv_at hl 0 rfl) ?_
          refine lv_iload_n hx hb dX8_field_60 rfl (lv_at hl 3 rfl) ?_
          replace h := ob_s h
          obtain ⟨a28, rfl, h⟩ := h
          have hl : lv_has ls 7 [(6, .int (((4 : Int32) * x1) + e24)), (0, .ref x0), (1, .int x1), (2, .int x2), (3, .long x3), (5, .int x4)] := hl
          replace h := ob_s h
          obtain ⟨σ29, h30, h⟩ := h
          refine hm_iast S hK hI hL h30 dX8_field_61 (fun H locs hI hL => ?_)
          refine lv_aload_n hx hb dX8_field_62 rfl (lv_at hl 1 rfl) ?_
          replace h := ob_s h
          obtain ⟨f31, h32, h⟩ := h
          refine hm_get S hK hI (pf_X8_34_10 hK) (gR_s h32) dX8_field_63 ?_
          refine lv_iload hx hb dX8_field_66 (lv_at hl 0 rfl) ?_
          refine lv_lload_n hx hb dX8_field_68 rfl (lv_at hl 4 rfl) ?_
          replace h := ob_s h
          obtain ⟨a33, rfl, h⟩ := h
          have hl : lv_has ls 7 [(6, .int (((4 : Int32) * x1) + e24)), (0, .ref x0), (1, .int x1), (2, .int x2), (3, .long x3), (5, .int x4)] := hl
          replace h := ob_s h
          obtain ⟨σ34, h35, h⟩ := h
          refine hm_last S hK hI hL h35 dX8_field_69 (fun H locs hI hL => ?_)
          refine lv_aload_n hx hb dX8_field_70 rfl (lv_at hl 1 rfl) ?_
          replace h := ob_s h
          obtain ⟨f36, h37, h⟩ := h
          refine hm_get S hK hI (pf_X8_38_10 hK) (gR_s h37) dX8_field_71 ?_
          refine lv_iload hx hb dX8_field_74 (lv_at hl 0 rfl) ?_
          refine lv_iload hx hb dX8_field_76 (lv_at hl 5 rfl) ?_
          replace h := ob_s h
          obtain ⟨a38, rfl, h⟩ := h
          have hl : lv_has ls 7 [(6, .int (((4 : Int32) * x1) + e24)), (0, .ref x0), (1, .int x1), (2, .int x2), (3, .long x3), (5, .int x4)] := hl
          replace h := ob_s h
          obtain ⟨σ39, h40, h⟩ := h
          refine hm_zast S hK hI hL h40 dX8_field_78 (fun H locs hI hL => ?_)
          refine lv_aload_n hx hb dX8_field_79 rfl (lv_at hl 1 rfl) ?_
          replace h := ob_s h
          obtain ⟨f41, h42, h⟩ := h
          refine hm_get S hK hI (pf_X8_28_10 hK) (gR_s h42) dX8_field_80 ?_
          refine lv_iload_n hx hb dX8_field_83 rfl (lv_at hl 2 rfl) ?_
          refine lv_dup2_11 hx hb dX8_field_84 rfl (by cases f41 <;> rfl) ?_
          replace h := ob_s h
          obtain ⟨a43, rfl, h⟩ := h
          have hl : lv_has ls 7 [(6, .int (((4 : Int32) * x1) + e24)), (0, .ref x0), (1, .int x1), (2, .int x2), (3, .long x3), (5, .int x4)] := hl
          replace h := ob_s h
          obtain ⟨e44, h45, h⟩ := h
          refine hm_iald S hK hI h45 dX8_field_85 ?_
          refine lv_iconst (v := 1) hx hb dX8_field_86 (by decide) ?_
          refine lv_iadd hx hb dX8_field_87 ?_
          replace h := ob_s h
          obtain ⟨σ46, h47, h⟩ := h
          refine hm_iast S hK hI hL h47 dX8_field_88 (fun H locs hI hL => ?_)
          refine lv_aload_n hx hb dX8_field_89 rfl (lv_at hl 1 rfl) ?_
          replace h := ob_s h
          obtain ⟨f48, h49, h⟩ := h
          refine hm_get S hK hI (pf_X8_28_10 hK) (gR_s h49) dX8_field_90 ?_
          refine lv_iload_n hx hb dX8_field_93 rfl (lv_at hl 2 rfl) ?_
          replace h := ob_s h
          obtain ⟨a50, rfl, h⟩ := h
          have hl : lv_has ls 7 [(6, .int (((4 : Int32) * x1) + e24)), (0, .ref x0), (1, .int x1), (2, .int x2), (3, .long x3), (5, .int x4)] := hl
          replace h := ob_s h
          obtain ⟨e51, h52, h⟩ := h
          refine hm_iald S hK hI h52 dX8_field_94 ?_
          exact hm_iret hx hb hr hI hL h (by omega) (by omega) hlocks dX8_field_95
        · replace h := it_n c20 h
          refine lv_bipush (v := -4) hx hb dX8_field_39 (by decide) ?_
          exact hm_iret hx hb hr hI hL h (by omega) (by omega) hlocks dX8_field_41
      · replace h := it_p c15 h
        refine lv_bipush (v := -2) hx hb dX8_field_27 (by decide) ?_
        exact hm_iret hx hb hr hI hL h (by omega) (by omega) hlocks dX8_field_29
    · replace h := it_p c9 h
      refine lv_iconst (v := -1) hx hb dX8_field_15 (by decide) ?_
      exact hm_iret hx hb hr hI hL h (by omega) (by omega) hlocks dX8_field_16

def fX8_local (x0 : Nat) (x1 : Int32) (x2 : Int32) (x3 : Int64) (σ : hmS) : Option (Int32 × hmS) :=
  ob (obC σ x0 10) fun _ => cb (fX8_isType x0 x1 σ) fun r4 σ3 => if r4 = 0 then
    some ((-1 : Int32), σ3)
  else
    cb (fX8_isName x2 σ3) fun r8 σ7 => if r8 = 0 then
      some ((-1 : Int32), σ7)
    else
      ob (gR σ7 x0 10 12) fun f10 => ob f10 fun a12 => ob (aI σ7 0 a12 x1) fun e13 => if e13 = (4 : Int32) then
        some ((-2 : Int32), σ7)
      else
        ob (gR σ7 x0 10 12) fun f16 => ob f16 fun a18 => ob (aI σ7 0 a18 x1) fun e19 => ob (gR σ7 x0 10 13) fun f21 => ob f21 fun a23 => ob (sI σ7 0 a23 (((4 : Int32) * x1) + e19) x2) fun σ24 => ob (gR σ24 x0 10 14) fun f26 => ob f26 fun a28 => ob (sL σ24 a28 (((4 : Int32) * x1) + e19) x3) fun σ29 => ob (gR σ29 x0 10 12) fun f31 => ob f31 fun a33 => ob (aI σ29 0 a33 x1) fun e34 => ob (sI σ29 0 a33 x1 (e34 + (1 : Int32))) fun σ36 => ob (gR σ36 x0 10 12) fun f38 => ob f38 fun a40 => ob (aI σ36 0 a40 x1) fun e41 => some (e41, σ36)
set_option maxHeartbeats 4000000 in
set_option maxRecDepth 100000 in
theorem mX8_local (l : Launch) (E : hmG) {x0 : Nat} {x1 : Int32} {x2 : Int32} {x3 : Int64} {σ σ' : hmS} {r : Int32} (h : fX8_local x0 x1 x2 x3 σ = some (r, σ')) : Met l yX8_local [Cond.code yX8_local cX8_local 6 (some .int)] { frames := 2, cells := 0, slots := 0, locals := 43 } (hmPc E [.ref x0, .int x1, .int x2, .long x3] σ) (hmQc E (some (.int r)) σ') 0 0 (fun q => hmL E ≤ q) := by
  refine Met.ofW (cc := cX8_local) (maxL := 6) (ret := (some .int)) (by decide) rfl ?_
  intro p e s m args below meth c s₁ B hml hv
  obtain ⟨rfl, hK, hI⟩ := hv
  have S : CallFix p m c cX8_local 6 s ([.ref x0, .int x1, .int x2, .long x3] : List Value).toArray [] RX8 := ⟨B.exec, B.bytes, hml, findClass_of_methodNamed B.named, fun w hw => by cases hw⟩
  have hx := S.1
  have hb := S.2.1
  have hr := B.returns
  have hlocks := B.notSynchronized
  have hL : hmLo E [] := hmLo.nil
  have hl : lv_has ((lg_sl ([.ref x0, .int x1, .int x2, .long x3]) ++ List.replicate (6 - (lg_sl ([.ref x0, .int x1, .int x2, .long x3])).length) Slot.unset).toArray) 6 [(0, .ref x0), (1, .int x1), (2, .int x2), (3, .long x3)] := by exact lv_entry _ (Nat.le_of_ble_eq_true rfl)
  rw [lg_entry_eq]
  generalize (lg_sl ([.ref x0, .int x1, .int x2, .long x3]) ++ List.replicate (6 - (lg_sl ([.ref x0, .int x1, .int x2, .long x3])).length) Slot.unset).toArray = ls at hl ⊢
  generalize hRe : (headSpec [Cond.code yX8_local cX8_local 6 (some .int)] { frames := 2, cells := 0, slots := 0, locals := 43 }).room = R
  have hR1 : R.frames = 2 ∧ R.cells = 0 ∧ R.slots = 0 ∧ R.locals = 43 := by rw [← hRe]; exact ⟨rfl, rfl, rfl, rfl⟩
  clear hRe B hml
  generalize s.heap = H at hI ⊢
  generalize ([] : List Loc) = locs at hL ⊢
  have hmain := h
  clear h
  have h := hmain
  clear hmain
  unfold fX8_local at h
  refine lv_aload_n hx hb dX8_local_0 rfl (lv_at hl 0 rfl) ?_
  refine lv_iload_n hx hb dX8_local_1 rfl (lv_at hl 1 rfl) ?_
  replace h := ob_s h
  obtain ⟨_, h2, h⟩ := h
  replace h := cb_s h
  obtain ⟨r4, σ3, h1, h⟩ := h
  refine hm_call (hm_runV (As := [.int x1]) (rest := []) (ci := 10) S hK hI (obC_s h2) rfl (mX8_isType l E h1) (pm_X8_98 hK) (pi_X8_isType hK) (pl_X8_X8_isType hK) ⟨by omega, by omega⟩ rfl hl.1 (Nat.le_of_ble_eq_true rfl) ⟨by omega, by omega⟩ dX8_local_2) hL (fun H locs hI hL => ?_)
  refine lv_if_eq (tgt := 15) hx hb dX8_local_5 (by decide) (fun c5 => ?_) (fun c5 => ?_)
  · replace h := it_p c5 h
    refine lv_iconst (v := -1) hx hb dX8_local_15 (by decide) ?_
    exact hm_iret hx hb hr hI hL h (by omega) (by omega) hlocks dX8_local_16
  · replace h := it_n c5 h
    refine lv_iload_n hx hb dX8_local_8 rfl (lv_at hl 2 rfl) ?_
    replace h := cb_s h
    obtain ⟨r8, σ7, h6, h⟩ := h
    refine hm_call (hm_runS (As := [.int x2]) (rest := []) S hK hI (mX8_isName l E h6) (pm_X8_108 hK) (ps_X8_isName hK) ⟨by omega, by omega⟩ rfl hl.1 (Nat.le_of_ble_eq_true rfl) ⟨by omega, by omega⟩ dX8_local_9) hL (fun H locs hI hL => ?_)
    refine lv_if_ne (tgt := 17) hx hb dX8_local_12 (by decide) (fun c9 => ?_) (fun c9 => ?_)
    · replace h := it_n c9 h
      refine lv_aload_n hx hb dX8_local_17 rfl (lv_at hl 0 rfl) ?_
      replace h := ob_s h
      obtain ⟨f10, h11, h⟩ := h
      refine hm_get S hK hI (pf_X8_45_10 hK) (gR_s h11) dX8_local_18 ?_
      refine lv_iload_n hx hb dX8_local_21 rfl (lv_at hl 1 rfl) ?_
      replace h := ob_s h
      obtain ⟨a12, rfl, h⟩ := h
      have hl : lv_has ls 6 [(0, .ref x0), (1, .int x1), (2, .int x2), (3, .long x3)] := hl
      replace h := ob_s h
      obtain ⟨e13, h14, h⟩ := h
      refine hm_iald S hK hI h14 dX8_local_22 ?_
      refine lv_iconst (v := 4) hx hb dX8_local_23 (by decide) ?_
      refine lv_icmp_ne (tgt := 30) hx hb dX8_local_24 (by decide) (fun c15 => ?_) (fun c15 => ?_)
      · replace h := it_n c15 h
        refine lv_iconst (v := 4) hx hb dX8_local_30 (by decide) ?_
        refine lv_iload_n hx hb dX8_local_31 rfl (lv_at hl 1 rfl) ?_
        refine lv_imul hx hb dX8_local_32 ?_
        refine lv_aload_n hx hb dX8_local_33 rfl (lv_at hl 0 rfl) ?_
        replace h := ob_s h
        obtain ⟨f16, h17, h⟩ := h
        refine hm_get S hK hI (pf_X8_45_10 hK) (gR_s h17) dX8_local_34 ?_
        refine lv_iload_n hx hb dX8_local_37 rfl (lv_at hl 1 rfl) ?_
        replace h := ob_s h
        obtain ⟨a18, rfl, h⟩ := h
        have hl : lv_has ls 6 [(0, .ref x0), (1, .int x1), (2, .int x2), (3, .long x3)] := hl
        replace h := ob_s h
        obtain ⟨e19, h20, h⟩ := h
        refine hm_iald S hK hI h20 dX8_local_38 ?_
        refine lv_iadd hx hb dX8_local_39 ?_
        refine lv_istore (lv' := [(5, .int (((4 : Int32) * x1) + e19)), (0, .ref x0), (1, .int x1), (2, .int x2), (3, .long x3)]) hx hb dX8_local_40 hl (by decide) rfl (fun ls hl => ?_)
        refine lv_aload_n hx hb dX8_local_42 rfl (lv_at hl 1 rfl) ?_
        replace h := ob_s h
        obtain ⟨f21, h22, h⟩ := h
        refine hm_get S hK hI (pf_X8_48_10 hK) (gR_s h22) dX8_local_43 ?_
        refine lv_iload hx hb dX8_local_46 (lv_at hl 0 rfl) ?_
        refine lv_iload_n hx hb dX8_local_48 rfl (lv_at hl 3 rfl) ?_
        replace h := ob_s h
        obtain ⟨a23, rfl, h⟩ := h
        have hl : lv_has ls 6 [(5, .int (((4 : Int32) * x1) + e19)), (0, .ref x0), (1, .int x1), (2, .int x2), (3, .long x3)] := hl
        replace h := ob_s h
        obtain ⟨σ24, h25, h⟩ := h
        refine hm_iast S hK hI hL h25 dX8_local_49 (fun H locs hI hL => ?_)
        refine lv_aload_n hx hb dX8_local_50 rfl (lv_at hl 1 rfl) ?_
        replace h := ob_s h
        obtain ⟨f26, h27, h⟩ := h
        refine hm_get S hK hI (pf_X8_51_10 hK) (gR_s h27) dX8_local_51 ?_
        refine lv_iload hx hb dX8_local_54 (lv_at hl 0 rfl) ?_
        refine lv_lload_n hx hb dX8_local_56 rfl (lv_at hl 4 rfl) ?_
        replace h := ob_s h
        obtain ⟨a28, rfl, h⟩ := h
        have hl : lv_has ls 6 [(5, .int (((4 : Int32) * x1) + e19)), (0, .ref x0), (1, .int x1), (2, .int x2), (3, .long x3)] := hl
        replace h := ob_s h
        obtain ⟨σ29, h30, h⟩ := h
        refine hm_last S hK hI hL h30 dX8_local_57 (fun H locs hI hL => ?_)
        refine lv_aload_n hx hb dX8_local_58 rfl (lv_at hl 1 rfl) ?_
        replace h := ob_s h
        obtain ⟨f31, h32, h⟩ := h
        refine hm_get S hK hI (pf_X8_45_10 hK) (gR_s h32) dX8_local_59 ?_
        refine lv_iload_n hx hb dX8_local_62 rfl (lv_at hl 2 rfl) ?_
        refine lv_dup2_11 hx hb dX8_local_63 rfl (by cases f31 <;> rfl) ?_
        replace h := ob_s h
        obtain ⟨a33, rfl, h⟩ := h
        have hl : lv_has ls 6 [(5, .int (((4 : Int32) * x1) + e19)), (0, .ref x0), (1, .int x1), (2, .int x2), (3, .long x3)] := hl
        replace h := ob_s h
        obtain ⟨e34, h35, h⟩ := h
        refine hm_iald S hK hI h35 dX8_local_64 ?_
        refine lv_iconst (v := 1) hx hb dX8_local_65 (by decide) ?_
        refine lv_iadd hx hb dX8_local_66 ?_
        replace h := ob_s h
        obtain ⟨σ36, h37, h⟩ := h
        refine hm_iast S hK hI hL h37 dX8_local_67 (fun H locs hI hL => ?_)
        refine lv_aload_n hx hb dX8_local_68 rfl (lv_at hl 1 rfl) ?_
        replace h := ob_s h
        obtain ⟨f38, h39, h⟩ := h
        refine hm_get S hK hI (pf_X8_45_10 hK) (gR_s h39) dX8_local_69 ?_
        refine lv_iload_n hx hb dX8_local_72 rfl (lv_at hl 2 rfl) ?_
        replace h := ob_s h
        obtain ⟨a40, rfl, h⟩ := h
        have hl : lv_has ls 6 [(5, .int (((4 : Int32) * x1) + e19)), (0, .ref x0), (1, .int x1), (2, .int x2), (3, .long x3)] := hl
        replace h := ob_s h
        obtain ⟨e41, h42, h⟩ := h
        refine hm_iald S hK hI h42 dX8_local_73 ?_
        exact hm_iret hx hb hr hI hL h (by omega) (by omega) hlocks dX8_local_74
      · replace h := it_p c15 h
        refine lv_bipush (v := -2) hx hb dX8_local_27 (by decide) ?_
        exact hm_iret hx hb hr hI hL h (by omega) (by omega) hlocks dX8_local_29
    · replace h := it_p c9 h
      refine lv_iconst (v := -1) hx hb dX8_local_15 (by decide) ?_
      exact hm_iret hx hb hr hI hL h (by omega) (by omega) hlocks dX8_local_16

def fX8_assign_J48 (x0 : Nat) (x1 : Int32) (x2 : Int32) (x3 : Int64)  (v5 : Int32) (w0 : Int32) (σ : hmS) : Option (Int32 × hmS) :=
  ob (gR σ x0 10 15) fun f1 => ob f1 fun a3 => ob (sI σ 2 a3 v5 (vp_nar .boolean (1 : Int32))) fun σ4 => ob (gR σ4 x0 10 14) fun f6 => ob f6 fun a8 => ob (sL σ4 a8 v5 x3) fun σ9 => some (w0, σ9)
def fX8_assign (x0 : Nat) (x1 : Int32) (x2 : Int32) (x3 : Int64) (σ : hmS) : Option (Int32 × hmS) :=
  ob (obC σ x0 10) fun _ => cb (fX8_isType x0 x1 σ) fun r4 σ3 => if r4 = 0 then
    some ((-1 : Int32), σ3)
  else
    ob (gR σ3 x0 10 12) fun f6 => ob f6 fun a8 => ob (aI σ3 0 a8 x1) fun e9 => cb (fX8_in x2 (0 : Int32) (e9 - (1 : Int32)) σ3) fun r13 σ12 => if r13 = 0 then
      some ((-1 : Int32), σ12)
    else
      ob (gR σ12 x0 10 15) fun f15 => ob f15 fun a17 => ob (aI σ12 2 a17 (((4 : Int32) * x1) + x2)) fun e18 => if e18 = 0 then
        fX8_assign_J48 x0 x1 x2 x3 (((4 : Int32) * x1) + x2) (0 : Int32) σ12
      else
        fX8_assign_J48 x0 x1 x2 x3 (((4 : Int32) * x1) + x2) (1 : Int32) σ12
set_option maxHeartbeats 4000000 in
set_option maxRecDepth 100000 in
theorem mX8_assign (l : Launch) (E : hmG) {x0 : Nat} {x1 : Int32} {x2 : Int32} {x3 : Int64} {σ σ' : hmS} {r : Int32} (h : fX8_assign x0 x1 x2 x3 σ = some (r, σ')) : Met l yX8_assign [Cond.code yX8_assign cX8_assign 7 (some .int)] { frames := 2, cells := 0, slots := 0, locals := 43 } (hmPc E [.ref x0, .int x1, .int x2, .long x3] σ) (hmQc E (some (.int r)) σ') 0 0 (fun q => hmL E ≤ q) := by
  refine Met.ofW (cc := cX8_assign) (maxL := 7) (ret := (some .int)) (by decide) rfl ?_
  intro p e s m args below meth c s₁ B hml hv
  obtain ⟨rfl, hK, hI⟩ := hv
  have S : CallFix p m c cX8_assign 7 s ([.ref x0, .int x1, .int x2, .long x3] : List Value).toArray [] RX8 := ⟨B.exec, B.bytes, hml, findClass_of_methodNamed B.named, fun w hw => by cases hw⟩
  have hx := S.1
  have hb := S.2.1
  have hr := B.returns
  have hlocks := B.notSynchronized
  have hL : hmLo E [] := hmLo.nil
  have hl : lv_has ((lg_sl ([.ref x0, .int x1, .int x2, .long x3]) ++ List.replicate (7 - (lg_sl ([.ref x0, .int x1, .int x2, .long x3])).length) Slot.unset).toArray) 7 [(0, .ref x0), (1, .int x1), (2, .int x2), (3, .long x3)] := by exact lv_entry _ (Nat.le_of_ble_eq_true rfl)
  rw [lg_entry_eq]
  generalize (lg_sl ([.ref x0, .int x1, .int x2, .long x3]) ++ List.replicate (7 - (lg_sl ([.ref x0, .int x1, .int x2, .long x3])).length) Slot.unset).toArray = ls at hl ⊢
  generalize hRe : (headSpec [Cond.code yX8_assign cX8_assign 7 (some .int)] { frames := 2, cells := 0, slots := 0, locals := 43 }).room = R
  have hR1 : R.frames = 2 ∧ R.cells = 0 ∧ R.slots = 0 ∧ R.locals = 43 := by rw [← hRe]; exact ⟨rfl, rfl, rfl, rfl⟩
  clear hRe B hml
  generalize s.heap = H at hI ⊢
  generalize ([] : List Loc) = locs at hL ⊢
  have hmain := h
  clear h
  have hJ48 : ∀ (v5 : Int32) (w0 : Int32) (σ : hmS) (H : Heap) (locs : List Loc) (ls : Array Slot), fX8_assign_J48 x0 x1 x2 x3  v5 w0 σ = some (r, σ') → hmI E σ H → hmLo E locs → lv_has ls 7 [(0, .ref x0), (3, .long x3), (5, .int v5)] → W p l e R s m ([.ref x0, .int x1, .int x2, .long x3] : List Value).toArray below meth c H locs 0 0 (MQ below (hmQc E (some (.int r)) σ') ([.ref x0, .int x1, .int x2, .long x3] : List Value).toArray s 0 0 (fun q => hmL E ≤ q)) (F0 m 48 ls [.int w0]) := by
    intro v5 w0 σ H locs ls h hI hL hl
    unfold fX8_assign_J48 at h
    refine lv_istore (lv' := [(6, .int w0), (0, .ref x0), (3, .long x3), (5, .int v5)]) hx hb dX8_assign_48 hl (by decide) rfl (fun ls hl => ?_)
    refine lv_aload_n hx hb dX8_assign_50 rfl (lv_at hl 1 rfl) ?_
    replace h := ob_s h
    obtain ⟨f1, h2, h⟩ := h
    refine hm_get S hK hI (pf_X8_54_10 hK) (gR_s h2) dX8_assign_51 ?_
    refine lv_iload hx hb dX8_assign_54 (lv_at hl 3 rfl) ?_
    refine lv_iconst (v := 1) hx hb dX8_assign_56 (by decide) ?_
    replace h := ob_s h
    obtain ⟨a3, rfl, h⟩ := h
    have hl : lv_has ls 7 [(6, .int w0), (0, .ref x0), (3, .long x3), (5, .int v5)] := hl
    replace h := ob_s h
    obtain ⟨σ4, h5, h⟩ := h
    refine hm_zast S hK hI hL h5 dX8_assign_57 (fun H locs hI hL => ?_)
    refine lv_aload_n hx hb dX8_assign_58 rfl (lv_at hl 1 rfl) ?_
    replace h := ob_s h
    obtain ⟨f6, h7, h⟩ := h
    refine hm_get S hK hI (pf_X8_51_10 hK) (gR_s h7) dX8_assign_59 ?_
    refine lv_iload hx hb dX8_assign_62 (lv_at hl 3 rfl) ?_
    refine lv_lload_n hx hb dX8_assign_64 rfl (lv_at hl 2 rfl) ?_
    replace h := ob_s h
    obtain ⟨a8, rfl, h⟩ := h
    have hl : lv_has ls 7 [(6, .int w0), (0, .ref x0), (3, .long x3), (5, .int v5)] := hl
    replace h := ob_s h
    obtain ⟨σ9, h10, h⟩ := h
    refine hm_last S hK hI hL h10 dX8_assign_65 (fun H locs hI hL => ?_)
    refine lv_iload hx hb dX8_assign_66 (lv_at hl 0 rfl) ?_
    exact hm_iret hx hb hr hI hL h (by omega) (by omega) hlocks dX8_assign_68
  have h := hmain
  clear hmain
  unfold fX8_assign at h
  refine lv_aload_n hx hb dX8_assign_0 rfl (lv_at hl 0 rfl) ?_
  refine lv_iload_n hx hb dX8_assign_1 rfl (lv_at hl 1 rfl) ?_
  replace h := ob_s h
  obtain ⟨_, h2, h⟩ := h
  replace h := cb_s h
  obtain ⟨r4, σ3, h1, h⟩ := h
  refine hm_call (hm_runV (As := [.int x1]) (rest := []) (ci := 10) S hK hI (obC_s h2) rfl (mX8_isType l E h1) (pm_X8_98 hK) (pi_X8_isType hK) (pl_X8_X8_isType hK) ⟨by omega, by omega⟩ rfl hl.1 (Nat.le_of_ble_eq_true rfl) ⟨by omega, by omega⟩ dX8_assign_2) hL (fun H locs hI hL => ?_)
  refine lv_if_eq (tgt := 24) hx hb dX8_assign_5 (by decide) (fun c5 => ?_) (fun c5 => ?_)
  · replace h := it_p c5 h
    refine lv_iconst (v := -1) hx hb dX8_assign_24 (by decide) ?_
    exact hm_iret hx hb hr hI hL h (by omega) (by omega) hlocks dX8_assign_25
  · replace h := it_n c5 h
    refine lv_iload_n hx hb dX8_assign_8 rfl (lv_at hl 2 rfl) ?_
    refine lv_iconst (v := 0) hx hb dX8_assign_9 (by decide) ?_
    refine lv_aload_n hx hb dX8_assign_10 rfl (lv_at hl 0 rfl) ?_
    replace h := ob_s h
    obtain ⟨f6, h7, h⟩ := h
    refine hm_get S hK hI (pf_X8_45_10 hK) (gR_s h7) dX8_assign_11 ?_
    refine lv_iload_n hx hb dX8_assign_14 rfl (lv_at hl 1 rfl) ?_
    replace h := ob_s h
    obtain ⟨a8, rfl, h⟩ := h
    have hl : lv_has ls 7 [(0, .ref x0), (1, .int x1), (2, .int x2), (3, .long x3)] := hl
    replace h := ob_s h
    obtain ⟨e9, h10, h⟩ := h
    refine hm_iald S hK hI h10 dX8_assign_15 ?_
    refine lv_iconst (v := 1) hx hb dX8_assign_16 (by decide) ?_
    refine lv_isub hx hb dX8_assign_17 ?_
    replace h := cb_s h
    obtain ⟨r13, σ12, h11, h⟩ := h
    refine hm_call (hm_runS (As := [.int x2, .int (0 : Int32), .int (e9 - (1 : Int32))]) (rest := []) S hK hI (mX8_in l E h11) (pm_X8_94 hK) (ps_X8_in hK) ⟨by omega, by omega⟩ rfl hl.1 (Nat.le_of_ble_eq_true rfl) ⟨by omega, by omega⟩ dX8_assign_18) hL (fun H locs hI hL => ?_)
    refine lv_if_ne (tgt := 26) hx hb dX8_assign_21 (by decide) (fun c14 => ?_) (fun c14 => ?_)
    · replace h := it_n c14 h
      refine lv_iconst (v := 4) hx hb dX8_assign_26 (by decide) ?_
      refine lv_iload_n hx hb dX8_assign_27 rfl (lv_at hl 1 rfl) ?_
      refine lv_imul hx hb dX8_assign_28 ?_
      refine lv_iload_n hx hb dX8_assign_29 rfl (lv_at hl 2 rfl) ?_
      refine lv_iadd hx hb dX8_assign_30 ?_
      refine lv_istore (lv' := [(5, .int (((4 : Int32) * x1) + x2)), (0, .ref x0), (1, .int x1), (2, .int x2), (3, .long x3)]) hx hb dX8_assign_31 hl (by decide) rfl (fun ls hl => ?_)
      refine lv_aload_n hx hb dX8_assign_33 rfl (lv_at hl 1 rfl) ?_
      replace h := ob_s h
      obtain ⟨f15, h16, h⟩ := h
      refine hm_get S hK hI (pf_X8_54_10 hK) (gR_s h16) dX8_assign_34 ?_
      refine lv_iload hx hb dX8_assign_37 (lv_at hl 0 rfl) ?_
      replace h := ob_s h
      obtain ⟨a17, rfl, h⟩ := h
      have hl : lv_has ls 7 [(5, .int (((4 : Int32) * x1) + x2)), (0, .ref x0), (1, .int x1), (2, .int x2), (3, .long x3)] := hl
      replace h := ob_s h
      obtain ⟨e18, h19, h⟩ := h
      refine hm_zald S hK hI h19 dX8_assign_39 ?_
      refine lv_if_eq (tgt := 47) hx hb dX8_assign_40 (by decide) (fun c20 => ?_) (fun c20 => ?_)
      · replace h := it_p c20 h
        refine lv_iconst (v := 0) hx hb dX8_assign_47 (by decide) ?_
        exact hJ48 _ _ _ _ _ _ h hI hL (lv_sub hl [1, 4, 0] rfl)
      · replace h := it_n c20 h
        refine lv_iconst (v := 1) hx hb dX8_assign_43 (by decide) ?_
        refine lv_goto (tgt := 48) hx hb dX8_assign_44 (by decide) ?_
        exact hJ48 _ _ _ _ _ _ h hI hL (lv_sub hl [1, 4, 0] rfl)
    · replace h := it_p c14 h
      refine lv_iconst (v := -1) hx hb dX8_assign_24 (by decide) ?_
      exact hm_iret hx hb hr hI hL h (by omega) (by omega) hlocks dX8_assign_25

def fX8_method_J65 (x0 : Nat) (x1 : Int32) (x2 : Int32)  (w0 : Int32) (σ : hmS) : Option (Int32 × hmS) :=
  ob (gR σ x0 10 11) fun f1 => ob f1 fun a3 => ob (sI σ 2 a3 x1 (vp_nar .boolean x2)) fun σ4 => some (w0, σ4)
def fX8_method_J45 (x0 : Nat) (x1 : Int32) (x2 : Int32) (K12 : Int32 → hmS → Option (Int32 × hmS)) (v3 : Int32) (σ : hmS) : Option (Int32 × hmS) :=
  K12 (v3 + (1 : Int32)) σ
def fX8_method_B12 (x0 : Nat) (x1 : Int32) (x2 : Int32)  (K12 : Int32 → hmS → Option (Int32 × hmS)) (v3 : Int32) (σ : hmS) : Option (Int32 × hmS) :=
  ob (gI σ x0 10 0) fun f1 => if f1 ≤ v3 then
    ob (gR σ x0 10 11) fun f4 => ob f4 fun a6 => ob (aI σ 2 a6 x1) fun e7 => if e7 = 0 then
      fX8_method_J65 x0 x1 x2 (0 : Int32) σ
    else
      fX8_method_J65 x0 x1 x2 (1 : Int32) σ
  else
    ob (gR σ x0 10 1) fun f10 => ob f10 fun a12 => ob (aI σ 0 a12 v3) fun e13 => cb (fX8_isInMethod e13 σ) fun r17 σ16 => if r17 = 0 then
      fX8_method_J45 x0 x1 x2 K12 v3 σ16
    else
      ob (gR σ16 x0 10 2) fun f19 => ob f19 fun a21 => ob (aI σ16 0 a21 v3) fun e22 => if e22 = x1 then
        some ((-4 : Int32), σ16)
      else
        fX8_method_J45 x0 x1 x2 K12 v3 σ16
def fX8_method_L12 (x0 : Nat) (x1 : Int32) (x2 : Int32)  : Nat → Int32 → hmS → Option (Int32 × hmS)
  | 0 => fun _ _ => none
  | n + 1 => fX8_method_B12 x0 x1 x2  (fX8_method_L12 x0 x1 x2  n)
def fX8_method (x0 : Nat) (x1 : Int32) (x2 : Int32) (σ : hmS) : Option (Int32 × hmS) :=
  ob (obC σ x0 10) fun _ => cb (fX8_isType x0 x1 σ) fun r4 σ3 => if r4 = 0 then
    some ((-1 : Int32), σ3)
  else
    fX8_method_L12 x0 x1 x2 20 (0 : Int32) σ3
set_option maxHeartbeats 4000000 in
set_option maxRecDepth 100000 in
theorem mX8_method (l : Launch) (E : hmG) {x0 : Nat} {x1 : Int32} {x2 : Int32} {σ σ' : hmS} {r : Int32} (h : fX8_method x0 x1 x2 σ = some (r, σ')) : Met l yX8_method [Cond.code yX8_method cX8_method 4 (some .int)] { frames := 2, cells := 0, slots := 0, locals := 43 } (hmPc E [.ref x0, .int x1, .int x2] σ) (hmQc E (some (.int r)) σ') 0 0 (fun q => hmL E ≤ q) := by
  refine Met.ofW (cc := cX8_method) (maxL := 4) (ret := (some .int)) (by decide) rfl ?_
  intro p e s m args below meth c s₁ B hml hv
  obtain ⟨rfl, hK, hI⟩ := hv
  have S : CallFix p m c cX8_method 4 s ([.ref x0, .int x1, .int x2] : List Value).toArray [] RX8 := ⟨B.exec, B.bytes, hml, findClass_of_methodNamed B.named, fun w hw => by cases hw⟩
  have hx := S.1
  have hb := S.2.1
  have hr := B.returns
  have hlocks := B.notSynchronized
  have hL : hmLo E [] := hmLo.nil
  have hl : lv_has ((lg_sl ([.ref x0, .int x1, .int x2]) ++ List.replicate (4 - (lg_sl ([.ref x0, .int x1, .int x2])).length) Slot.unset).toArray) 4 [(0, .ref x0), (1, .int x1), (2, .int x2)] := by exact lv_entry _ (Nat.le_of_ble_eq_true rfl)
  rw [lg_entry_eq]
  generalize (lg_sl ([.ref x0, .int x1, .int x2]) ++ List.replicate (4 - (lg_sl ([.ref x0, .int x1, .int x2])).length) Slot.unset).toArray = ls at hl ⊢
  generalize hRe : (headSpec [Cond.code yX8_method cX8_method 4 (some .int)] { frames := 2, cells := 0, slots := 0, locals := 43 }).room = R
  have hR1 : R.frames = 2 ∧ R.cells = 0 ∧ R.slots = 0 ∧ R.locals = 43 := by rw [← hRe]; exact ⟨rfl, rfl, rfl, rfl⟩
  clear hRe B hml
  generalize s.heap = H at hI ⊢
  generalize ([] : List Loc) = locs at hL ⊢
  have hmain := h
  clear h
  have hJ65 : ∀ (w0 : Int32) (σ : hmS) (H : Heap) (locs : List Loc) (ls : Array Slot), fX8_method_J65 x0 x1 x2  w0 σ = some (r, σ') → hmI E σ H → hmLo E locs → lv_has ls 4 [(0, .ref x0), (1, .int x1), (2, .int x2)] → W p l e R s m ([.ref x0, .int x1, .int x2] : List Value).toArray below meth c H locs 0 0 (MQ below (hmQc E (some (.int r)) σ') ([.ref x0, .int x1, .int x2] : List Value).toArray s 0 0 (fun q => hmL E ≤ q)) (F0 m 65 ls [.int w0]) := by
    intro w0 σ H locs ls h hI hL hl
    unfold fX8_method_J65 at h
    refine lv_istore_n (lv' := [(3, .int w0), (0, .ref x0), (1, .int x1), (2, .int x2)]) hx hb dX8_method_65 rfl hl (by decide) rfl (fun ls hl => ?_)
    refine lv_aload_n hx hb dX8_method_66 rfl (lv_at hl 1 rfl) ?_
    replace h := ob_s h
    obtain ⟨f1, h2, h⟩ := h
    refine hm_get S hK hI (pf_X8_42_10 hK) (gR_s h2) dX8_method_67 ?_
    refine lv_iload_n hx hb dX8_method_70 rfl (lv_at hl 2 rfl) ?_
    refine lv_iload_n hx hb dX8_method_71 rfl (lv_at hl 3 rfl) ?_
    replace h := ob_s h
    obtain ⟨a3, rfl, h⟩ := h
    have hl : lv_has ls 4 [(3, .int w0), (0, .ref x0), (1, .int x1), (2, .int x2)] := hl
    replace h := ob_s h
    obtain ⟨σ4, h5, h⟩ := h
    refine hm_zast S hK hI hL h5 dX8_method_72 (fun H locs hI hL => ?_)
    refine lv_iload_n hx hb dX8_method_73 rfl (lv_at hl 0 rfl) ?_
    exact hm_iret hx hb hr hI hL h (by omega) (by omega) hlocks dX8_method_74
  have hB12 : ∀ (K12 : Int32 → hmS → Option (Int32 × hmS)), (∀ (v3 : Int32) (σ : hmS) (H : Heap) (locs : List Loc) (ls : Array Slot), K12 v3 σ = some (r, σ') → hmI E σ H → hmLo E locs → lv_has ls 4 [(0, .ref x0), (1, .int x1), (2, .int x2), (3, .int v3)] → W p l e R s m ([.ref x0, .int x1, .int x2] : List Value).toArray below meth c H locs 0 0 (MQ below (hmQc E (some (.int r)) σ') ([.ref x0, .int x1, .int x2] : List Value).toArray s 0 0 (fun q => hmL E ≤ q)) (F0 m 12 ls [])) → ∀ (v3 : Int32) (σ : hmS) (H : Heap) (locs : List Loc) (ls : Array Slot), fX8_method_B12 x0 x1 x2  K12 v3 σ = some (r, σ') → hmI E σ H → hmLo E locs → lv_has ls 4 [(0, .ref x0), (1, .int x1), (2, .int x2), (3, .int v3)] → W p l e R s m ([.ref x0, .int x1, .int x2] : List Value).toArray below meth c H locs 0 0 (MQ below (hmQc E (some (.int r)) σ') ([.ref x0, .int x1, .int x2] : List Value).toArray s 0 0 (fun q => hmL E ≤ q)) (F0 m 12 ls []) := by
    intro K12 hk12
    have hJ45 : ∀ (v3 : Int32) (σ : hmS) (H : Heap) (locs : List Loc) (ls : Array Slot), fX8_method_J45 x0 x1 x2 K12 v3 σ = some (r, σ') → hmI E σ H → hmLo E locs → lv_has ls 4 [(0, .ref x0), (1, .int x1), (2, .int x2), (3, .int v3)] → W p l e R s m ([.ref x0, .int x1, .int x2] : List Value).toArray below meth c H locs 0 0 (MQ below (hmQc E (some (.int r)) σ') ([.ref x0, .int x1, .int x2] : List Value).toArray s 0 0 (fun q => hmL E ≤ q)) (F0 m 45 ls []) := by
      intro v3 σ H locs ls h hI hL hl
      unfold fX8_method_J45 at h
      refine lv_iinc (v := (v3 + (1 : Int32))) (lv' := [(3, .int (v3 + (1 : Int32))), (0, .ref x0), (1, .int x1), (2, .int x2)]) hx hb dX8_method_45 hl (k := 3) rfl rfl (by decide) rfl (fun ls hl => ?_)
      refine lv_goto (tgt := 12) hx hb dX8_method_48 (by decide) ?_
      exact hk12 _ _ _ _ _ h hI hL (lv_sub hl [1, 2, 3, 0] rfl)
    intro v3 σ H locs ls h hI hL hl
    unfold fX8_method_B12 at h
    refine lv_iload_n hx hb dX8_method_12 rfl (lv_at hl 3 rfl) ?_
    refine lv_aload_n hx hb dX8_method_13 rfl (lv_at hl 0 rfl) ?_
    replace h := ob_s h
    obtain ⟨f1, h2, h⟩ := h
    refine hm_get S hK hI (pf_X8_90_10 hK) (gI_s h2) dX8_method_14 ?_
    refine lv_icmp_ge (tgt := 51) hx hb dX8_method_17 (by decide) (fun c3 => ?_) (fun c3 => ?_)
    · replace h := it_p c3 h
      refine lv_aload_n hx hb dX8_method_51 rfl (lv_at hl 0 rfl) ?_
      replace h := ob_s h
      obtain ⟨f4, h5, h⟩ := h
      refine hm_get S hK hI (pf_X8_42_10 hK) (gR_s h5) dX8_method_52 ?_
      refine lv_iload_n hx hb dX8_method_55 rfl (lv_at hl 1 rfl) ?_
      replace h := ob_s h
      obtain ⟨a6, rfl, h⟩ := h
      have hl : lv_has ls 4 [(0, .ref x0), (1, .int x1), (2, .int x2), (3, .int v3)] := hl
      replace h := ob_s h
      obtain ⟨e7, h8, h⟩ := h
      refine hm_zald S hK hI h8 dX8_method_56 ?_
      refine lv_if_eq (tgt := 64) hx hb dX8_method_57 (by decide) (fun c9 => ?_) (fun c9 => ?_)
      · replace h := it_p c9 h
        refine lv_iconst (v := 0) hx hb dX8_method_64 (by decide) ?_
        exact hJ65 _ _ _ _ _ h hI hL (lv_sub hl [0, 1, 2] rfl)
      · replace h := it_n c9 h
        refine lv_iconst (v := 1) hx hb dX8_method_60 (by decide) ?_
        refine lv_goto (tgt := 65) hx hb dX8_method_61 (by decide) ?_
        exact hJ65 _ _ _ _ _ h hI hL (lv_sub hl [0, 1, 2] rfl)
    · replace h := it_n c3 h
      refine lv_aload_n hx hb dX8_method_20 rfl (lv_at hl 0 rfl) ?_
      replace h := ob_s h
      obtain ⟨f10, h11, h⟩ := h
      refine hm_get S hK hI (pf_X8_7_10 hK) (gR_s h11) dX8_method_21 ?_
      refine lv_iload_n hx hb dX8_method_24 rfl (lv_at hl 3 rfl) ?_
      replace h := ob_s h
      obtain ⟨a12, rfl, h⟩ := h
      have hl : lv_has ls 4 [(0, .ref x0), (1, .int x1), (2, .int x2), (3, .int v3)] := hl
      replace h := ob_s h
      obtain ⟨e13, h14, h⟩ := h
      refine hm_iald S hK hI h14 dX8_method_25 ?_
      replace h := cb_s h
      obtain ⟨r17, σ16, h15, h⟩ := h
      refine hm_call (hm_runS (As := [.int e13]) (rest := []) S hK hI (mX8_isInMethod l E h15) (pm_X8_105 hK) (ps_X8_isInMethod hK) ⟨by omega, by omega⟩ rfl hl.1 (Nat.le_of_ble_eq_true rfl) ⟨by omega, by omega⟩ dX8_method_26) hL (fun H locs hI hL => ?_)
      refine lv_if_eq (tgt := 45) hx hb dX8_method_29 (by decide) (fun c18 => ?_) (fun c18 => ?_)
      · replace h := it_p c18 h
        exact hJ45 _ _ _ _ _ h hI hL (lv_sub hl [0, 1, 2, 3] rfl)
      · replace h := it_n c18 h
        refine lv_aload_n hx hb dX8_method_32 rfl (lv_at hl 0 rfl) ?_
        replace h := ob_s h
        obtain ⟨f19, h20, h⟩ := h
        refine hm_get S hK hI (pf_X8_13_10 hK) (gR_s h20) dX8_method_33 ?_
        refine lv_iload_n hx hb dX8_method_36 rfl (lv_at hl 3 rfl) ?_
        replace h := ob_s h
        obtain ⟨a21, rfl, h⟩ := h
        have hl : lv_has ls 4 [(0, .ref x0), (1, .int x1), (2, .int x2), (3, .int v3)] := hl
        replace h := ob_s h
        obtain ⟨e22, h23, h⟩ := h
        refine hm_iald S hK hI h23 dX8_method_37 ?_
        refine lv_iload_n hx hb dX8_method_38 rfl (lv_at hl 1 rfl) ?_
        refine lv_icmp_ne (tgt := 45) hx hb dX8_method_39 (by decide) (fun c24 => ?_) (fun c24 => ?_)
        · replace h := it_n c24 h
          exact hJ45 _ _ _ _ _ h hI hL (lv_sub hl [0, 1, 2, 3] rfl)
        · replace h := it_p c24 h
          refine lv_bipush (v := -4) hx hb dX8_method_42 (by decide) ?_
          exact hm_iret hx hb hr hI hL h (by omega) (by omega) hlocks dX8_method_44
  have hL12 : ∀ n : Nat, ∀ (v3 : Int32) (σ : hmS) (H : Heap) (locs : List Loc) (ls : Array Slot), fX8_method_L12 x0 x1 x2  n v3 σ = some (r, σ') → hmI E σ H → hmLo E locs → lv_has ls 4 [(0, .ref x0), (1, .int x1), (2, .int x2), (3, .int v3)] → W p l e R s m ([.ref x0, .int x1, .int x2] : List Value).toArray below meth c H locs 0 0 (MQ below (hmQc E (some (.int r)) σ') ([.ref x0, .int x1, .int x2] : List Value).toArray s 0 0 (fun q => hmL E ≤ q)) (F0 m 12 ls []) := by
    intro n
    induction n with
    | zero =>
      intro v3 σ H locs ls h
      have h : none = some (r, σ') := h
      cases h
    | succ n ih => exact hB12 _ ih
  have h := hmain
  clear hmain
  unfold fX8_method at h
  refine lv_aload_n hx hb dX8_method_0 rfl (lv_at hl 0 rfl) ?_
  refine lv_iload_n hx hb dX8_method_1 rfl (lv_at hl 1 rfl) ?_
  replace h := ob_s h
  obtain ⟨_, h2, h⟩ := h
  replace h := cb_s h
  obtain ⟨r4, σ3, h1, h⟩ := h
  refine hm_call (hm_runV (As := [.int x1]) (rest := []) (ci := 10) S hK hI (obC_s h2) rfl (mX8_isType l E h1) (pm_X8_98 hK) (pi_X8_isType hK) (pl_X8_X8_isType hK) ⟨by omega, by omega⟩ rfl hl.1 (Nat.le_of_ble_eq_true rfl) ⟨by omega, by omega⟩ dX8_method_2) hL (fun H locs hI hL => ?_)
  refine lv_if_ne (tgt := 10) hx hb dX8_method_5 (by decide) (fun c5 => ?_) (fun c5 => ?_)
  · replace h := it_n c5 h
    refine lv_iconst (v := 0) hx hb dX8_method_10 (by decide) ?_
    refine lv_istore_n (lv' := [(3, .int (0 : Int32)), (0, .ref x0), (1, .int x1), (2, .int x2)]) hx hb dX8_method_11 rfl hl (by decide) rfl (fun ls hl => ?_)
    exact hL12 20 _ _ _ _ _ h hI hL (lv_sub hl [1, 2, 3, 0] rfl)
  · replace h := it_p c5 h
    refine lv_iconst (v := -1) hx hb dX8_method_8 (by decide) ?_
    exact hm_iret hx hb hr hI hL h (by omega) (by omega) hlocks dX8_method_9

def fX8_parent_J77 (x0 : Nat) (x1 : Int32) (x2 : Int32) (K58 : Int32 → Int32 → hmS → Option (Int32 × hmS)) (v4 : Int32) (w0 : Int32) (w1 : Int32) (σ : hmS) : Option (Int32 × hmS) :=
  ob (gR σ x0 10 6) fun f1 => ob f1 fun a3 => ob (aI σ 0 a3 v4) fun e4 => K58 (w1 ||| w0) e4 σ
def fX8_parent_B58 (x0 : Nat) (x1 : Int32) (x2 : Int32)  (K58 : Int32 → Int32 → hmS → Option (Int32 × hmS)) (v3 : Int32) (v4 : Int32) (σ : hmS) : Option (Int32 × hmS) :=
  if v4 = (-3 : Int32) then
    if v3 = 0 then
      ob (gR σ x0 10 6) fun f3 => ob f3 fun a5 => ob (sI σ 0 a5 x1 x2) fun σ6 => some ((1 : Int32), σ6)
    else
      some ((-4 : Int32), σ)
  else
    if v4 = x1 then
      fX8_parent_J77 x0 x1 x2 K58 v4 (1 : Int32) v3 σ
    else
      fX8_parent_J77 x0 x1 x2 K58 v4 (0 : Int32) v3 σ
def fX8_parent_L58 (x0 : Nat) (x1 : Int32) (x2 : Int32)  : Nat → Int32 → Int32 → hmS → Option (Int32 × hmS)
  | 0 => fun _ _ _ => none
  | n + 1 => fX8_parent_B58 x0 x1 x2  (fX8_parent_L58 x0 x1 x2  n)
def fX8_parent_J54 (x0 : Nat) (x1 : Int32) (x2 : Int32)  (w0 : Int32) (σ : hmS) : Option (Int32 × hmS) :=
  fX8_parent_L58 x0 x1 x2 20 w0 x2 σ
def fX8_parent (x0 : Nat) (x1 : Int32) (x2 : Int32) (σ : hmS) : Option (Int32 × hmS) :=
  ob (obC σ x0 10) fun _ => cb (fX8_isType x0 x1 σ) fun r4 σ3 => if r4 = 0 then
    some ((-1 : Int32), σ3)
  else
    ob (obC σ3 x0 10) fun _ => cb (fX8_isType x0 x2 σ3) fun r9 σ8 => if r9 = 0 then
      some ((-1 : Int32), σ8)
    else
      ob (gR σ8 x0 10 1) fun f11 => ob f11 fun a13 => ob (aI σ8 0 a13 x1) fun e14 => if e14 = (4 : Int32) then
        some ((-1 : Int32), σ8)
      else
        ob (gR σ8 x0 10 1) fun f17 => ob f17 fun a19 => ob (aI σ8 0 a19 x2) fun e20 => if e20 = (4 : Int32) then
          some ((-1 : Int32), σ8)
        else
          ob (gR σ8 x0 10 6) fun f23 => ob f23 fun a25 => ob (aI σ8 0 a25 x1) fun e26 => if e26 = (-3 : Int32) then
            fX8_parent_J54 x0 x1 x2 (0 : Int32) σ8
          else
            fX8_parent_J54 x0 x1 x2 (1 : Int32) σ8
set_option maxHeartbeats 4000000 in
set_option maxRecDepth 100000 in
theorem mX8_parent (l : Launch) (E : hmG) {x0 : Nat} {x1 : Int32} {x2 : Int32} {σ σ' : hmS} {r : Int32} (h : fX8_parent x0 x1 x2 σ = some (r, σ')) : Met l yX8_parent [Cond.code yX8_parent cX8_parent 5 (some .int)] { frames := 2, cells := 0, slots := 0, locals := 43 } (hmPc E [.ref x0, .int x1, .int x2] σ) (hmQc E (some (.int r)) σ') 0 0 (fun q => hmL E ≤ q) := by
  refine Met.ofW (cc := cX8_parent) (maxL := 5) (ret := (some .int)) (by decide) rfl ?_
  intro p e s m args below meth c s₁ B hml hv
  obtain ⟨rfl, hK, hI⟩ := hv
  have S : CallFix p m c cX8_parent 5 s ([.ref x0, .int x1, .int x2] : List Value).toArray [] RX8 := ⟨B.exec, B.bytes, hml, findClass_of_methodNamed B.named, fun w hw => by cases hw⟩
  have hx := S.1
  have hb := S.2.1
  have hr := B.returns
  have hlocks := B.notSynchronized
  have hL : hmLo E [] := hmLo.nil
  have hl : lv_has ((lg_sl ([.ref x0, .int x1, .int x2]) ++ List.replicate (5 - (lg_sl ([.ref x0, .int x1, .int x2])).length) Slot.unset).toArray) 5 [(0, .ref x0), (1, .int x1), (2, .int x2)] := by exact lv_entry _ (Nat.le_of_ble_eq_true rfl)
  rw [lg_entry_eq]
  generalize (lg_sl ([.ref x0, .int x1, .int x2]) ++ List.replicate (5 - (lg_sl ([.ref x0, .int x1, .int x2])).length) Slot.unset).toArray = ls at hl ⊢
  generalize hRe : (headSpec [Cond.code yX8_parent cX8_parent 5 (some .int)] { frames := 2, cells := 0, slots := 0, locals := 43 }).room = R
  have hR1 : R.frames = 2 ∧ R.cells = 0 ∧ R.slots = 0 ∧ R.locals = 43 := by rw [← hRe]; exact ⟨rfl, rfl, rfl, rfl⟩
  clear hRe B hml
  generalize s.heap = H at hI ⊢
  generalize ([] : List Loc) = locs at hL ⊢
  have hmain := h
  clear h
  have hB58 : ∀ (K58 : Int32 → Int32 → hmS → Option (Int32 × hmS)), (∀ (v3 : Int32) (v4 : Int32) (σ : hmS) (H : Heap) (locs : List Loc) (ls : Array Slot), K58 v3 v4 σ = some (r, σ') → hmI E σ H → hmLo E locs → lv_has ls 5 [(0, .ref x0), (1, .int x1), (2, .int x2), (3, .int v3), (4, .int v4)] → W p l e R s m ([.ref x0, .int x1, .int x2] : List Value).toArray below meth c H locs 0 0 (MQ below (hmQc E (some (.int r)) σ') ([.ref x0, .int x1, .int x2] : List Value).toArray s 0 0 (fun q => hmL E ≤ q)) (F0 m 58 ls [])) → ∀ (v3 : Int32) (v4 : Int32) (σ : hmS) (H : Heap) (locs : List Loc) (ls : Array Slot), fX8_parent_B58 x0 x1 x2  K58 v3 v4 σ = some (r, σ') → hmI E σ H → hmLo E locs → lv_has ls 5 [(0, .ref x0), (1, .int x1), (2, .int x2), (3, .int v3), (4, .int v4)] → W p l e R s m ([.ref x0, .int x1, .int x2] : List Value).toArray below meth c H locs 0 0 (MQ below (hmQc E (some (.int r)) σ') ([.ref x0, .int x1, .int x2] : List Value).toArray s 0 0 (fun q => hmL E ≤ q)) (F0 m 58 ls []) := by
    intro K58 hk58
    have hJ77 : ∀ (v4 : Int32) (w0 : Int32) (w1 : Int32) (σ : hmS) (H : Heap) (locs : List Loc) (ls : Array Slot), fX8_parent_J77 x0 x1 x2 K58 v4 w0 w1 σ = some (r, σ') → hmI E σ H → hmLo E locs → lv_has ls 5 [(0, .ref x0), (1, .int x1), (2, .int x2), (4, .int v4)] → W p l e R s m ([.ref x0, .int x1, .int x2] : List Value).toArray below meth c H locs 0 0 (MQ below (hmQc E (some (.int r)) σ') ([.ref x0, .int x1, .int x2] : List Value).toArray s 0 0 (fun q => hmL E ≤ q)) (F0 m 77 ls [.int w0, .int w1]) := by
      intro v4 w0 w1 σ H locs ls h hI hL hl
      unfold fX8_parent_J77 at h
      refine lv_ior hx hb dX8_parent_77 ?_
      refine lv_istore_n (lv' := [(3, .int (w1 ||| w0)), (0, .ref x0), (1, .int x1), (2, .int x2), (4, .int v4)]) hx hb dX8_parent_78 rfl hl (by decide) rfl (fun ls hl => ?_)
      refine lv_aload_n hx hb dX8_parent_79 rfl (lv_at hl 1 rfl) ?_
      replace h := ob_s h
      obtain ⟨f1, h2, h⟩ := h
      refine hm_get S hK hI (pf_X8_25_10 hK) (gR_s h2) dX8_parent_80 ?_
      refine lv_iload hx hb dX8_parent_83 (lv_at hl 4 rfl) ?_
      replace h := ob_s h
      obtain ⟨a3, rfl, h⟩ := h
      have hl : lv_has ls 5 [(3, .int (w1 ||| w0)), (0, .ref x0), (1, .int x1), (2, .int x2), (4, .int v4)] := hl
      replace h := ob_s h
      obtain ⟨e4, h5, h⟩ := h
      refine hm_iald S hK hI h5 dX8_parent_85 ?_
      refine lv_istore (lv' := [(4, .int e4), (3, .int (w1 ||| w0)), (0, .ref x0), (1, .int x1), (2, .int x2)]) hx hb dX8_parent_86 hl (by decide) rfl (fun ls hl => ?_)
      refine lv_goto (tgt := 58) hx hb dX8_parent_88 (by decide) ?_
      exact hk58 _ _ _ _ _ _ h hI hL (lv_sub hl [2, 3, 4, 1, 0] rfl)
    intro v3 v4 σ H locs ls h hI hL hl
    unfold fX8_parent_B58 at h
    refine lv_iload hx hb dX8_parent_58 (lv_at hl 4 rfl) ?_
    refine lv_bipush (v := -3) hx hb dX8_parent_60 (by decide) ?_
    refine lv_icmp_eq (tgt := 91) hx hb dX8_parent_62 (by decide) (fun c1 => ?_) (fun c1 => ?_)
    · replace h := it_p c1 h
      refine lv_iload_n hx hb dX8_parent_91 rfl (lv_at hl 3 rfl) ?_
      refine lv_if_eq (tgt := 98) hx hb dX8_parent_92 (by decide) (fun c2 => ?_) (fun c2 => ?_)
      · replace h := it_p c2 h
        refine lv_aload_n hx hb dX8_parent_98 rfl (lv_at hl 0 rfl) ?_
        replace h := ob_s h
        obtain ⟨f3, h4, h⟩ := h
        refine hm_get S hK hI (pf_X8_25_10 hK) (gR_s h4) dX8_parent_99 ?_
        refine lv_iload_n hx hb dX8_parent_102 rfl (lv_at hl 1 rfl) ?_
        refine lv_iload_n hx hb dX8_parent_103 rfl (lv_at hl 2 rfl) ?_
        replace h := ob_s h
        obtain ⟨a5, rfl, h⟩ := h
        have hl : lv_has ls 5 [(0, .ref x0), (1, .int x1), (2, .int x2), (3, .int v3), (4, .int v4)] := hl
        replace h := ob_s h
        obtain ⟨σ6, h7, h⟩ := h
        refine hm_iast S hK hI hL h7 dX8_parent_104 (fun H locs hI hL => ?_)
        refine lv_iconst (v := 1) hx hb dX8_parent_105 (by decide) ?_
        exact hm_iret hx hb hr hI hL h (by omega) (by omega) hlocks dX8_parent_106
      · replace h := it_n c2 h
        refine lv_bipush (v := -4) hx hb dX8_parent_95 (by decide) ?_
        exact hm_iret hx hb hr hI hL h (by omega) (by omega) hlocks dX8_parent_97
    · replace h := it_n c1 h
      refine lv_iload_n hx hb dX8_parent_65 rfl (lv_at hl 3 rfl) ?_
      refine lv_iload hx hb dX8_parent_66 (lv_at hl 4 rfl) ?_
      refine lv_iload_n hx hb dX8_parent_68 rfl (lv_at hl 1 rfl) ?_
      refine lv_icmp_ne (tgt := 76) hx hb dX8_parent_69 (by decide) (fun c8 => ?_) (fun c8 => ?_)
      · replace h := it_n c8 h
        refine lv_iconst (v := 0) hx hb dX8_parent_76 (by decide) ?_
        exact hJ77 _ _ _ _ _ _ _ h hI hL (lv_sub hl [0, 1, 2, 4] rfl)
      · replace h := it_p c8 h
        refine lv_iconst (v := 1) hx hb dX8_parent_72 (by decide) ?_
        refine lv_goto (tgt := 77) hx hb dX8_parent_73 (by decide) ?_
        exact hJ77 _ _ _ _ _ _ _ h hI hL (lv_sub hl [0, 1, 2, 4] rfl)
  have hL58 : ∀ n : Nat, ∀ (v3 : Int32) (v4 : Int32) (σ : hmS) (H : Heap) (locs : List Loc) (ls : Array Slot), fX8_parent_L58 x0 x1 x2  n v3 v4 σ = some (r, σ') → hmI E σ H → hmLo E locs → lv_has ls 5 [(0, .ref x0), (1, .int x1), (2, .int x2), (3, .int v3), (4, .int v4)] → W p l e R s m ([.ref x0, .int x1, .int x2] : List Value).toArray below meth c H locs 0 0 (MQ below (hmQc E (some (.int r)) σ') ([.ref x0, .int x1, .int x2] : List Value).toArray s 0 0 (fun q => hmL E ≤ q)) (F0 m 58 ls []) := by
    intro n
    induction n with
    | zero =>
      intro v3 v4 σ H locs ls h
      have h : none = some (r, σ') := h
      cases h
    | succ n ih => exact hB58 _ ih
  have hJ54 : ∀ (w0 : Int32) (σ : hmS) (H : Heap) (locs : List Loc) (ls : Array Slot), fX8_parent_J54 x0 x1 x2  w0 σ = some (r, σ') → hmI E σ H → hmLo E locs → lv_has ls 5 [(0, .ref x0), (1, .int x1), (2, .int x2)] → W p l e R s m ([.ref x0, .int x1, .int x2] : List Value).toArray below meth c H locs 0 0 (MQ below (hmQc E (some (.int r)) σ') ([.ref x0, .int x1, .int x2] : List Value).toArray s 0 0 (fun q => hmL E ≤ q)) (F0 m 54 ls [.int w0]) := by
    intro w0 σ H locs ls h hI hL hl
    unfold fX8_parent_J54 at h
    refine lv_istore_n (lv' := [(3, .int w0), (0, .ref x0), (1, .int x1), (2, .int x2)]) hx hb dX8_parent_54 rfl hl (by decide) rfl (fun ls hl => ?_)
    refine lv_iload_n hx hb dX8_parent_55 rfl (lv_at hl 3 rfl) ?_
    refine lv_istore (lv' := [(4, .int x2), (3, .int w0), (0, .ref x0), (1, .int x1), (2, .int x2)]) hx hb dX8_parent_56 hl (by decide) rfl (fun ls hl => ?_)
    exact hL58 20 _ _ _ _ _ _ h hI hL (lv_sub hl [2, 3, 4, 1, 0] rfl)
  have h := hmain
  clear hmain
  unfold fX8_parent at h
  refine lv_aload_n hx hb dX8_parent_0 rfl (lv_at hl 0 rfl) ?_
  refine lv_iload_n hx hb dX8_parent_1 rfl (lv_at hl 1 rfl) ?_
  replace h := ob_s h
  obtain ⟨_, h2, h⟩ := h
  replace h := cb_s h
  obtain ⟨r4, σ3, h1, h⟩ := h
  refine hm_call (hm_runV (As := [.int x1]) (rest := []) (ci := 10) S hK hI (obC_s h2) rfl (mX8_isType l E h1) (pm_X8_98 hK) (pi_X8_isType hK) (pl_X8_X8_isType hK) ⟨by omega, by omega⟩ rfl hl.1 (Nat.le_of_ble_eq_true rfl) ⟨by omega, by omega⟩ dX8_parent_2) hL (fun H locs hI hL => ?_)
  refine lv_if_eq (tgt := 36) hx hb dX8_parent_5 (by decide) (fun c5 => ?_) (fun c5 => ?_)
  · replace h := it_p c5 h
    refine lv_iconst (v := -1) hx hb dX8_parent_36 (by decide) ?_
    exact hm_iret hx hb hr hI hL h (by omega) (by omega) hlocks dX8_parent_37
  · replace h := it_n c5 h
    refine lv_aload_n hx hb dX8_parent_8 rfl (lv_at hl 0 rfl) ?_
    refine lv_iload_n hx hb dX8_parent_9 rfl (lv_at hl 2 rfl) ?_
    replace h := ob_s h
    obtain ⟨_, h7, h⟩ := h
    replace h := cb_s h
    obtain ⟨r9, σ8, h6, h⟩ := h
    refine hm_call (hm_runV (As := [.int x2]) (rest := []) (ci := 10) S hK hI (obC_s h7) rfl (mX8_isType l E h6) (pm_X8_98 hK) (pi_X8_isType hK) (pl_X8_X8_isType hK) ⟨by omega, by omega⟩ rfl hl.1 (Nat.le_of_ble_eq_true rfl) ⟨by omega, by omega⟩ dX8_parent_10) hL (fun H locs hI hL => ?_)
    refine lv_if_eq (tgt := 36) hx hb dX8_parent_13 (by decide) (fun c10 => ?_) (fun c10 => ?_)
    · replace h := it_p c10 h
      refine lv_iconst (v := -1) hx hb dX8_parent_36 (by decide) ?_
      exact hm_iret hx hb hr hI hL h (by omega) (by omega) hlocks dX8_parent_37
    · replace h := it_n c10 h
      refine lv_aload_n hx hb dX8_parent_16 rfl (lv_at hl 0 rfl) ?_
      replace h := ob_s h
      obtain ⟨f11, h12, h⟩ := h
      refine hm_get S hK hI (pf_X8_7_10 hK) (gR_s h12) dX8_parent_17 ?_
      refine lv_iload_n hx hb dX8_parent_20 rfl (lv_at hl 1 rfl) ?_
      replace h := ob_s h
      obtain ⟨a13, rfl, h⟩ := h
      have hl : lv_has ls 5 [(0, .ref x0), (1, .int x1), (2, .int x2)] := hl
      replace h := ob_s h
      obtain ⟨e14, h15, h⟩ := h
      refine hm_iald S hK hI h15 dX8_parent_21 ?_
      refine lv_iconst (v := 4) hx hb dX8_parent_22 (by decide) ?_
      refine lv_icmp_eq (tgt := 36) hx hb dX8_parent_23 (by decide) (fun c16 => ?_) (fun c16 => ?_)
      · replace h := it_p c16 h
        refine lv_iconst (v := -1) hx hb dX8_parent_36 (by decide) ?_
        exact hm_iret hx hb hr hI hL h (by omega) (by omega) hlocks dX8_parent_37
      · replace h := it_n c16 h
        refine lv_aload_n hx hb dX8_parent_26 rfl (lv_at hl 0 rfl) ?_
        replace h := ob_s h
        obtain ⟨f17, h18, h⟩ := h
        refine hm_get S hK hI (pf_X8_7_10 hK) (gR_s h18) dX8_parent_27 ?_
        refine lv_iload_n hx hb dX8_parent_30 rfl (lv_at hl 2 rfl) ?_
        replace h := ob_s h
        obtain ⟨a19, rfl, h⟩ := h
        have hl : lv_has ls 5 [(0, .ref x0), (1, .int x1), (2, .int x2)] := hl
        replace h := ob_s h
        obtain ⟨e20, h21, h⟩ := h
        refine hm_iald S hK hI h21 dX8_parent_31 ?_
        refine lv_iconst (v := 4) hx hb dX8_parent_32 (by decide) ?_
        refine lv_icmp_ne (tgt := 38) hx hb dX8_parent_33 (by decide) (fun c22 => ?_) (fun c22 => ?_)
        · replace h := it_n c22 h
          refine lv_aload_n hx hb dX8_parent_38 rfl (lv_at hl 0 rfl) ?_
          replace h := ob_s h
          obtain ⟨f23, h24, h⟩ := h
          refine hm_get S hK hI (pf_X8_25_10 hK) (gR_s h24) dX8_parent_39 ?_
          refine lv_iload_n hx hb dX8_parent_42 rfl (lv_at hl 1 rfl) ?_
          replace h := ob_s h
          obtain ⟨a25, rfl, h⟩ := h
          have hl : lv_has ls 5 [(0, .ref x0), (1, .int x1), (2, .int x2)] := hl
          replace h := ob_s h
          obtain ⟨e26, h27, h⟩ := h
          refine hm_iald S hK hI h27 dX8_parent_43 ?_
          refine lv_bipush (v := -3) hx hb dX8_parent_44 (by decide) ?_
          refine lv_icmp_eq (tgt := 53) hx hb dX8_parent_46 (by decide) (fun c28 => ?_) (fun c28 => ?_)
          · replace h := it_p c28 h
            refine lv_iconst (v := 0) hx hb dX8_parent_53 (by decide) ?_
            exact hJ54 _ _ _ _ _ h hI hL (lv_sub hl [0, 1, 2] rfl)
          · replace h := it_n c28 h
            refine lv_iconst (v := 1) hx hb dX8_parent_49 (by decide) ?_
            refine lv_goto (tgt := 54) hx hb dX8_parent_50 (by decide) ?_
            exact hJ54 _ _ _ _ _ h hI hL (lv_sub hl [0, 1, 2] rfl)
        · replace h := it_p c22 h
          refine lv_iconst (v := -1) hx hb dX8_parent_36 (by decide) ?_
          exact hm_iret hx hb hr hI hL h (by omega) (by omega) hlocks dX8_parent_37

def fX8_put (x0 : Nat) (x1 : Int32) (σ : hmS) : Option (Unit × hmS) :=
  ob (gR σ x0 10 29) fun f1 => ob (gI σ x0 10 30) fun f3 => ob f1 fun a5 => ob (sI σ 0 a5 f3 x1) fun σ6 => ob (gI σ6 x0 10 30) fun f8 => ob (wF σ6 x0 10 30 (.int (f8 + (1 : Int32)))) fun σ10 => some ((), σ10)
set_option maxHeartbeats 4000000 in
set_option maxRecDepth 100000 in
theorem mX8_put (l : Launch) (E : hmG) {x0 : Nat} {x1 : Int32} {σ σ' : hmS} {r : Unit} (h : fX8_put x0 x1 σ = some (r, σ')) : Met l yX8_put [Cond.code yX8_put cX8_put 2 none] { frames := 0, cells := 0, slots := 0, locals := 0 } (hmPc E [.ref x0, .int x1] σ) (hmQc E none σ') 0 0 (fun q => hmL E ≤ q) := by
  refine Met.ofW (cc := cX8_put) (maxL := 2) (ret := none) (by decide) rfl ?_
  intro p e s m args below meth c s₁ B hml hv
  obtain ⟨rfl, hK, hI⟩ := hv
  have S : CallFix p m c cX8_put 2 s ([.ref x0, .int x1] : List Value).toArray [] RX8 := ⟨B.exec, B.bytes, hml, findClass_of_methodNamed B.named, fun w hw => by cases hw⟩
  have hx := S.1
  have hb := S.2.1
  have hr := B.returns
  have hlocks := B.notSynchronized
  have hL : hmLo E [] := hmLo.nil
  have hl : lv_has ((lg_sl ([.ref x0, .int x1]) ++ List.replicate (2 - (lg_sl ([.ref x0, .int x1])).length) Slot.unset).toArray) 2 [(0, .ref x0), (1, .int x1)] := by exact lv_entry _ (Nat.le_of_ble_eq_true rfl)
  rw [lg_entry_eq]
  generalize (lg_sl ([.ref x0, .int x1]) ++ List.replicate (2 - (lg_sl ([.ref x0, .int x1])).length) Slot.unset).toArray = ls at hl ⊢
  generalize hRe : (headSpec [Cond.code yX8_put cX8_put 2 none] { frames := 0, cells := 0, slots := 0, locals := 0 }).room = R
  have hR1 : R.frames = 0 ∧ R.cells = 0 ∧ R.slots = 0 ∧ R.locals = 0 := by rw [← hRe]; exact ⟨rfl, rfl, rfl, rfl⟩
  clear hRe B hml
  generalize s.heap = H at hI ⊢
  generalize ([] : List Loc) = locs at hL ⊢
  have hmain := h
  clear h
  have h := hmain
  clear hmain
  unfold fX8_put at h
  refine lv_aload_n hx hb dX8_put_0 rfl (lv_at hl 0 rfl) ?_
  replace h := ob_s h
  obtain ⟨f1, h2, h⟩ := h
  refine hm_get S hK hI (pf_X8_87_10 hK) (gR_s h2) dX8_put_1 ?_
  refine lv_aload_n hx hb dX8_put_4 rfl (lv_at hl 0 rfl) ?_
  replace h := ob_s h
  obtain ⟨f3, h4, h⟩ := h
  refine hm_get S hK hI (pf_X8_115_10 hK) (gI_s h4) dX8_put_5 ?_
  refine lv_iload_n hx hb dX8_put_8 rfl (lv_at hl 1 rfl) ?_
  replace h := ob_s h
  obtain ⟨a5, rfl, h⟩ := h
  have hl : lv_has ls 2 [(0, .ref x0), (1, .int x1)] := hl
  replace h := ob_s h
  obtain ⟨σ6, h7, h⟩ := h
  refine hm_iast S hK hI hL h7 dX8_put_9 (fun H locs hI hL => ?_)
  refine lv_aload_n hx hb dX8_put_10 rfl (lv_at hl 0 rfl) ?_
  refine lv_dup hx hb dX8_put_11 rfl ?_
  replace h := ob_s h
  obtain ⟨f8, h9, h⟩ := h
  refine hm_get S hK hI (pf_X8_115_10 hK) (gI_s h9) dX8_put_12 ?_
  refine lv_iconst (v := 1) hx hb dX8_put_15 (by decide) ?_
  refine lv_iadd hx hb dX8_put_16 ?_
  replace h := ob_s h
  obtain ⟨σ10, h11, h⟩ := h
  refine hm_put S hK hI hL (pf_X8_115_10 hK) h11 ⟨rfl, rfl⟩ dX8_put_17 (fun H locs hI hL => ?_)
  exact hm_vret hx hb hr hI hL h (by omega) (by omega) hlocks dX8_put_20

def fX8_name_J108 (x0 : Nat) (x1 : Int32) (x2 : Int32) (K17 : Int32 → hmS → Option (Int32 × hmS)) (v3 : Int32) (σ : hmS) : Option (Int32 × hmS) :=
  ob (gR σ x0 10 2) fun f1 => ob f1 fun a3 => ob (aI σ 0 a3 v3) fun e4 => K17 e4 σ
def fX8_name_J93 (x0 : Nat) (x1 : Int32) (x2 : Int32) (K17 : Int32 → hmS → Option (Int32 × hmS)) (v3 : Int32) (σ : hmS) : Option (Int32 × hmS) :=
  ob (gR σ x0 10 1) fun f1 => ob f1 fun a3 => ob (aI σ 0 a3 v3) fun e4 => if e4 = 0 then
    fX8_name_J108 x0 x1 x2 K17 v3 σ
  else
    ob (obC σ x0 10) fun _ => cb (fX8_put x0 (36 : Int32) σ) fun _ σ9 => fX8_name_J108 x0 x1 x2 K17 v3 σ9
def fX8_name_B66 (x0 : Nat) (x1 : Int32) (x2 : Int32) (K17 : Int32 → hmS → Option (Int32 × hmS)) (K66 : Int32 → Int32 → hmS → Option (Int32 × hmS)) (v3 : Int32) (v4 : Int32) (σ : hmS) : Option (Int32 × hmS) :=
  if v4 ≤ 0 then
    fX8_name_J93 x0 x1 x2 K17 v3 σ
  else
    ob (obC σ x0 10) fun _ => cb (fX8_put x0 ((48 : Int32) + (v4 - v4 / (10 : Int32) * (10 : Int32))) σ) fun _ σ4 => K66 v3 (v4 / (10 : Int32)) σ4
def fX8_name_L66 (x0 : Nat) (x1 : Int32) (x2 : Int32) (K17 : Int32 → hmS → Option (Int32 × hmS)) : Nat → Int32 → Int32 → hmS → Option (Int32 × hmS)
  | 0 => fun _ _ _ => none
  | n + 1 => fX8_name_B66 x0 x1 x2 K17 (fX8_name_L66 x0 x1 x2 K17 n)
def fX8_name_J46 (x0 : Nat) (x1 : Int32) (x2 : Int32) (K17 : Int32 → hmS → Option (Int32 × hmS)) (v3 : Int32) (σ : hmS) : Option (Int32 × hmS) :=
  ob (gR σ x0 10 1) fun f1 => ob f1 fun a3 => ob (aI σ 0 a3 v3) fun e4 => cb (fX8_isInMethod e4 σ) fun r8 σ7 => if r8 = 0 then
    fX8_name_J93 x0 x1 x2 K17 v3 σ7
  else
    ob (gR σ7 x0 10 4) fun f10 => ob f10 fun a12 => ob (aI σ7 0 a12 v3) fun e13 => fX8_name_L66 x0 x1 x2 K17 20 v3 e13 σ7
def fX8_name_B17 (x0 : Nat) (x1 : Int32) (x2 : Int32)  (K17 : Int32 → hmS → Option (Int32 × hmS)) (v3 : Int32) (σ : hmS) : Option (Int32 × hmS) :=
  if v3 = (-3 : Int32) then
    if x2 = (-3 : Int32) then
      ob (gI σ x0 10 30) fun f16 => some (f16, σ)
    else
      ob (gI σ x0 10 30) fun f3 => cb (fX8_in x2 (0 : Int32) (f3 - (1 : Int32)) σ) fun r7 σ6 => if r7 = 0 then
        some ((-1 : Int32), σ6)
      else
        ob (gR σ6 x0 10 29) fun f9 => ob (gI σ6 x0 10 30) fun f11 => ob f9 fun a13 => ob (aI σ6 0 a13 ((f11 - (1 : Int32)) - x2)) fun e14 => some (e14, σ6)
  else
    ob (gR σ x0 10 1) fun f18 => ob f18 fun a20 => ob (aI σ 0 a20 v3) fun e21 => if e21 = (5 : Int32) then
      fX8_name_J46 x0 x1 x2 K17 v3 σ
    else
      ob (gR σ x0 10 3) fun f24 => ob f24 fun a26 => ob (aI σ 0 a26 v3) fun e27 => ob (obC σ x0 10) fun _ => cb (fX8_put x0 ((65 : Int32) + e27) σ) fun _ σ31 => fX8_name_J46 x0 x1 x2 K17 v3 σ31
def fX8_name_L17 (x0 : Nat) (x1 : Int32) (x2 : Int32)  : Nat → Int32 → hmS → Option (Int32 × hmS)
  | 0 => fun _ _ => none
  | n + 1 => fX8_name_B17 x0 x1 x2  (fX8_name_L17 x0 x1 x2  n)
def fX8_name (x0 : Nat) (x1 : Int32) (x2 : Int32) (σ : hmS) : Option (Int32 × hmS) :=
  ob (obC σ x0 10) fun _ => cb (fX8_isType x0 x1 σ) fun r4 σ3 => if r4 = 0 then
    some ((-1 : Int32), σ3)
  else
    ob (wF σ3 x0 10 30 (.int (0 : Int32))) fun σ6 => fX8_name_L17 x0 x1 x2 20 x1 σ6
set_option maxHeartbeats 4000000 in
set_option maxRecDepth 100000 in
theorem mX8_name (l : Launch) (E : hmG) {x0 : Nat} {x1 : Int32} {x2 : Int32} {σ σ' : hmS} {r : Int32} (h : fX8_name x0 x1 x2 σ = some (r, σ')) : Met l yX8_name [Cond.code yX8_name cX8_name 5 (some .int)] { frames := 2, cells := 0, slots := 0, locals := 43 } (hmPc E [.ref x0, .int x1, .int x2] σ) (hmQc E (some (.int r)) σ') 0 0 (fun q => hmL E ≤ q) := by
  refine Met.ofW (cc := cX8_name) (maxL := 5) (ret := (some .int)) (by decide) rfl ?_
  intro p e s m args below meth c s₁ B hml hv
  obtain ⟨rfl, hK, hI⟩ := hv
  have S : CallFix p m c cX8_name 5 s ([.ref x0, .int x1, .int x2] : List Value).toArray [] RX8 := ⟨B.exec, B.bytes, hml, findClass_of_methodNamed B.named, fun w hw => by cases hw⟩
  have hx := S.1
  have hb := S.2.1
  have hr := B.returns
  have hlocks := B.notSynchronized
  have hL : hmLo E [] := hmLo.nil
  have hl : lv_has ((lg_sl ([.ref x0, .int x1, .int x2]) ++ List.replicate (5 - (lg_sl ([.ref x0, .int x1, .int x2])).length) Slot.unset).toArray) 5 [(0, .ref x0), (1, .int x1), (2, .int x2)] := by exact lv_entry _ (Nat.le_of_ble_eq_true rfl)
  rw [lg_entry_eq]
  generalize (lg_sl ([.ref x0, .int x1, .int x2]) ++ List.replicate (5 - (lg_sl ([.ref x0, .int x1, .int x2])).length) Slot.unset).toArray = ls at hl ⊢
  generalize hRe : (headSpec [Cond.code yX8_name cX8_name 5 (some .int)] { frames := 2, cells := 0, slots := 0, locals := 43 }).room = R
  have hR1 : R.frames = 2 ∧ R.cells = 0 ∧ R.slots = 0 ∧ R.locals = 43 := by rw [← hRe]; exact ⟨rfl, rfl, rfl, rfl⟩
  clear hRe B hml
  generalize s.heap = H at hI ⊢
  generalize ([] : List Loc) = locs at hL ⊢
  have hmain := h
  clear h
  have hB17 : ∀ (K17 : Int32 → hmS → Option (Int32 × hmS)), (∀ (v3 : Int32) (σ : hmS) (H : Heap) (locs : List Loc) (ls : Array Slot), K17 v3 σ = some (r, σ') → hmI E σ H → hmLo E locs → lv_has ls 5 [(0, .ref x0), (2, .int x2), (3, .int v3)] → W p l e R s m ([.ref x0, .int x1, .int x2] : List Value).toArray below meth c H locs 0 0 (MQ below (hmQc E (some (.int r)) σ') ([.ref x0, .int x1, .int x2] : List Value).toArray s 0 0 (fun q => hmL E ≤ q)) (F0 m 17 ls [])) → ∀ (v3 : Int32) (σ : hmS) (H : Heap) (locs : List Loc) (ls : Array Slot), fX8_name_B17 x0 x1 x2  K17 v3 σ = some (r, σ') → hmI E σ H → hmLo E locs → lv_has ls 5 [(0, .ref x0), (2, .int x2), (3, .int v3)] → W p l e R s m ([.ref x0, .int x1, .int x2] : List Value).toArray below meth c H locs 0 0 (MQ below (hmQc E (some (.int r)) σ') ([.ref x0, .int x1, .int x2] : List Value).toArray s 0 0 (fun q => hmL E ≤ q)) (F0 m 17 ls []) := by
    intro K17 hk17
    have hJ108 : ∀ (v3 : Int32) (σ : hmS) (H : Heap) (locs : List Loc) (ls : Array Slot), fX8_name_J108 x0 x1 x2 K17 v3 σ = some (r, σ') → hmI E σ H → hmLo E locs → lv_has ls 5 [(0, .ref x0), (2, .int x2), (3, .int v3)] → W p l e R s m ([.ref x0, .int x1, .int x2] : List Value).toArray below meth c H locs 0 0 (MQ below (hmQc E (some (.int r)) σ') ([.ref x0, .int x1, .int x2] : List Value).toArray s 0 0 (fun q => hmL E ≤ q)) (F0 m 108 ls []) := by
      intro v3 σ H locs ls h hI hL hl
      unfold fX8_name_J108 at h
      refine lv_aload_n hx hb dX8_name_108 rfl (lv_at hl 0 rfl) ?_
      replace h := ob_s h
      obtain ⟨f1, h2, h⟩ := h
      refine hm_get S hK hI (pf_X8_13_10 hK) (gR_s h2) dX8_name_109 ?_
      refine lv_iload_n hx hb dX8_name_112 rfl (lv_at hl 2 rfl) ?_
      replace h := ob_s h
      obtain ⟨a3, rfl, h⟩ := h
      have hl : lv_has ls 5 [(0, .ref x0), (2, .int x2), (3, .int v3)] := hl
      replace h := ob_s h
      obtain ⟨e4, h5, h⟩ := h
      refine hm_iald S hK hI h5 dX8_name_113 ?_
      refine lv_istore_n (lv' := [(3, .int e4), (0, .ref x0), (2, .int x2)]) hx hb dX8_name_114 rfl hl (by decide) rfl (fun ls hl => ?_)
      refine lv_goto (tgt := 17) hx hb dX8_name_115 (by decide) ?_
      exact hk17 _ _ _ _ _ h hI hL (lv_sub hl [1, 2, 0] rfl)
    have hJ93 : ∀ (v3 : Int32) (σ : hmS) (H : Heap) (locs : List Loc) (ls : Array Slot), fX8_name_J93 x0 x1 x2 K17 v3 σ = some (r, σ') → hmI E σ H → hmLo E locs → lv_has ls 5 [(0, .ref x0), (2, .int x2), (3, .int v3)] → W p l e R s m ([.ref x0, .int x1, .int x2] : List Value).toArray below meth c H locs 0 0 (MQ below (hmQc E (some (.int r)) σ') ([.ref x0, .int x1, .int x2] : List Value).toArray s 0 0 (fun q => hmL E ≤ q)) (F0 m 93 ls []) := by
      intro v3 σ H locs ls h hI hL hl
      unfold fX8_name_J93 at h
      refine lv_aload_n hx hb dX8_name_93 rfl (lv_at hl 0 rfl) ?_
      replace h := ob_s h
      obtain ⟨f1, h2, h⟩ := h
      refine hm_get S hK hI (pf_X8_7_10 hK) (gR_s h2) dX8_name_94 ?_
      refine lv_iload_n hx hb dX8_name_97 rfl (lv_at hl 2 rfl) ?_
      replace h := ob_s h
      obtain ⟨a3, rfl, h⟩ := h
      have hl : lv_has ls 5 [(0, .ref x0), (2, .int x2), (3, .int v3)] := hl
      replace h := ob_s h
      obtain ⟨e4, h5, h⟩ := h
      refine hm_iald S hK hI h5 dX8_name_98 ?_
      refine lv_if_eq (tgt := 108) hx hb dX8_name_99 (by decide) (fun c6 => ?_) (fun c6 => ?_)
      · replace h := it_p c6 h
        exact hJ108 _ _ _ _ _ h hI hL (lv_sub hl [0, 1, 2] rfl)
      · replace h := it_n c6 h
        refine lv_aload_n hx hb dX8_name_102 rfl (lv_at hl 0 rfl) ?_
        refine lv_bipush (v := 36) hx hb dX8_name_103 (by decide) ?_
        replace h := ob_s h
        obtain ⟨_, h8, h⟩ := h
        replace h := cb_s h
        obtain ⟨u0, σ9, h7, h⟩ := h
        refine hm_callv (hm_runV (As := [.int (36 : Int32)]) (rest := []) (ci := 10) S hK hI (obC_s h8) rfl (mX8_put l E h7) (pm_X8_118 hK) (pi_X8_put hK) (pl_X8_X8_put hK) ⟨by omega, by omega⟩ rfl hl.1 (Nat.le_of_ble_eq_true rfl) ⟨by omega, by omega⟩ dX8_name_105) hL (fun H locs hI hL => ?_)
        exact hJ108 _ _ _ _ _ h hI hL (lv_sub hl [0, 1, 2] rfl)
    have hB66 : ∀ (K66 : Int32 → Int32 → hmS → Option (Int32 × hmS)), (∀ (v3 : Int32) (v4 : Int32) (σ : hmS) (H : Heap) (locs : List Loc) (ls : Array Slot), K66 v3 v4 σ = some (r, σ') → hmI E σ H → hmLo E locs → lv_has ls 5 [(0, .ref x0), (2, .int x2), (3, .int v3), (4, .int v4)] → W p l e R s m ([.ref x0, .int x1, .int x2] : List Value).toArray below meth c H locs 0 0 (MQ below (hmQc E (some (.int r)) σ') ([.ref x0, .int x1, .int x2] : List Value).toArray s 0 0 (fun q => hmL E ≤ q)) (F0 m 66 ls [])) → ∀ (v3 : Int32) (v4 : Int32) (σ : hmS) (H : Heap) (locs : List Loc) (ls : Array Slot), fX8_name_B66 x0 x1 x2 K17 K66 v3 v4 σ = some (r, σ') → hmI E σ H → hmLo E locs → lv_has ls 5 [(0, .ref x0), (2, .int x2), (3, .int v3), (4, .int v4)] → W p l e R s m ([.ref x0, .int x1, .int x2] : List Value).toArray below meth c H locs 0 0 (MQ below (hmQc E (some (.int r)) σ') ([.ref x0, .int x1, .int x2] : List Value).toArray s 0 0 (fun q => hmL E ≤ q)) (F0 m 66 ls []) := by
      intro K66 hk66
      intro v3 v4 σ H locs ls h hI hL hl
      unfold fX8_name_B66 at h
      refine lv_iload hx hb dX8_name_66 (lv_at hl 3 rfl) ?_
      refine lv_if_le (tgt := 93) hx hb dX8_name_68 (by decide) (fun c1 => ?_) (fun c1 => ?_)
      · replace h := it_p c1 h
        exact hJ93 _ _ _ _ _ h hI hL (lv_sub hl [0, 1, 2] rfl)
      · replace h := it_n c1 h
        refine lv_aload_n hx hb dX8_name_71 rfl (lv_at hl 0 rfl) ?_
        refine lv_bipush (v := 48) hx hb dX8_name_72 (by decide) ?_
        refine lv_iload hx hb dX8_name_74 (lv_at hl 3 rfl) ?_
        refine lv_bipush (v := 10) hx hb dX8_name_76 (by decide) ?_
        refine lv_irem hx hb dX8_name_78 (by decide) ?_
        refine lv_iadd hx hb dX8_name_79 ?_
        replace h := ob_s h
        obtain ⟨_, h3, h⟩ := h
        replace h := cb_s h
        obtain ⟨u0, σ4, h2, h⟩ := h
        refine hm_callv (hm_runV (As := [.int ((48 : Int32) + (v4 - v4 / (10 : Int32) * (10 : Int32)))]) (rest := []) (ci := 10) S hK hI (obC_s h3) rfl (mX8_put l E h2) (pm_X8_118 hK) (pi_X8_put hK) (pl_X8_X8_put hK) ⟨by omega, by omega⟩ rfl hl.1 (Nat.le_of_ble_eq_true rfl) ⟨by omega, by omega⟩ dX8_name_80) hL (fun H locs hI hL => ?_)
        refine lv_iload hx hb dX8_name_83 (lv_at hl 3 rfl) ?_
        refine lv_bipush (v := 10) hx hb dX8_name_85 (by decide) ?_
        refine lv_idiv hx hb dX8_name_87 (by decide) ?_
        refine lv_istore (lv' := [(4, .int (v4 / (10 : Int32))), (0, .ref x0), (2, .int x2), (3, .int v3)]) hx hb dX8_name_88 hl (by decide) rfl (fun ls hl => ?_)
        refine lv_goto (tgt := 66) hx hb dX8_name_90 (by decide) ?_
        exact hk66 _ _ _ _ _ _ h hI hL (lv_sub hl [1, 2, 3, 0] rfl)
    have hL66 : ∀ n : Nat, ∀ (v3 : Int32) (v4 : Int32) (σ : hmS) (H : Heap) (locs : List Loc) (ls : Array Slot), fX8_name_L66 x0 x1 x2 K17 n v3 v4 σ = some (r, σ') → hmI E σ H → hmLo E locs → lv_has ls 5 [(0, .ref x0), (2, .int x2), (3, .int v3), (4, .int v4)] → W p l e R s m ([.ref x0, .int x1, .int x2] : List Value).toArray below meth c H locs 0 0 (MQ below (hmQc E (some (.int r)) σ') ([.ref x0, .int x1, .int x2] : List Value).toArray s 0 0 (fun q => hmL E ≤ q)) (F0 m 66 ls []) := by
      intro n
      induction n with
      | zero =>
        intro v3 v4 σ H locs ls h
        have h : none = some (r, σ') := h
        cases h
      | succ n ih => exact hB66 _ ih
    have hJ46 : ∀ (v3 : Int32) (σ : hmS) (H : Heap) (locs : List Loc) (ls : Array Slot), fX8_name_J46 x0 x1 x2 K17 v3 σ = some (r, σ') → hmI E σ H → hmLo E locs → lv_has ls 5 [(0, .ref x0), (2, .int x2), (3, .int v3)] → W p l e R s m ([.ref x0, .int x1, .int x2] : List Value).toArray below meth c H locs 0 0 (MQ below (hmQc E (some (.int r)) σ') ([.ref x0, .int x1, .int x2] : List Value).toArray s 0 0 (fun q => hmL E ≤ q)) (F0 m 46 ls []) := by
      intro v3 σ H locs ls h hI hL hl
      unfold fX8_name_J46 at h
      refine lv_aload_n hx hb dX8_name_46 rfl (lv_at hl 0 rfl) ?_
      replace h := ob_s h
      obtain ⟨f1, h2, h⟩ := h
      refine hm_get S hK hI (pf_X8_7_10 hK) (gR_s h2) dX8_name_47 ?_
      refine lv_iload_n hx hb dX8_name_50 rfl (lv_at hl 2 rfl) ?_
      replace h := ob_s h
      obtain ⟨a3, rfl, h⟩ := h
      have hl : lv_has ls 5 [(0, .ref x0), (2, .int x2), (3, .int v3)] := hl
      replace h := ob_s h
      obtain ⟨e4, h5, h⟩ := h
      refine hm_iald S hK hI h5 dX8_name_51 ?_
      replace h := cb_s h
      obtain ⟨r8, σ7, h6, h⟩ := h
      refine hm_call (hm_runS (As := [.int e4]) (rest := []) S hK hI (mX8_isInMethod l E h6) (pm_X8_105 hK) (ps_X8_isInMethod hK) ⟨by omega, by omega⟩ rfl hl.1 (Nat.le_of_ble_eq_true rfl) ⟨by omega, by omega⟩ dX8_name_52) hL (fun H locs hI hL => ?_)
      refine lv_if_eq (tgt := 93) hx hb dX8_name_55 (by decide) (fun c9 => ?_) (fun c9 => ?_)
      · replace h := it_p c9 h
        exact hJ93 _ _ _ _ _ h hI hL (lv_sub hl [0, 1, 2] rfl)
      · replace h := it_n c9 h
        refine lv_aload_n hx hb dX8_name_58 rfl (lv_at hl 0 rfl) ?_
        replace h := ob_s h
        obtain ⟨f10, h11, h⟩ := h
        refine hm_get S hK hI (pf_X8_19_10 hK) (gR_s h11) dX8_name_59 ?_
        refine lv_iload_n hx hb dX8_name_62 rfl (lv_at hl 2 rfl) ?_
        replace h := ob_s h
        obtain ⟨a12, rfl, h⟩ := h
        have hl : lv_has ls 5 [(0, .ref x0), (2, .int x2), (3, .int v3)] := hl
        replace h := ob_s h
        obtain ⟨e13, h14, h⟩ := h
        refine hm_iald S hK hI h14 dX8_name_63 ?_
        refine lv_istore (lv' := [(4, .int e13), (0, .ref x0), (2, .int x2), (3, .int v3)]) hx hb dX8_name_64 hl (by decide) rfl (fun ls hl => ?_)
        exact hL66 20 _ _ _ _ _ _ h hI hL (lv_sub hl [1, 2, 3, 0] rfl)
    intro v3 σ H locs ls h hI hL hl
    unfold fX8_name_B17 at h
    refine lv_iload_n hx hb dX8_name_17 rfl (lv_at hl 2 rfl) ?_
    refine lv_bipush (v := -3) hx hb dX8_name_18 (by decide) ?_
    refine lv_icmp_eq (tgt := 118) hx hb dX8_name_20 (by decide) (fun c1 => ?_) (fun c1 => ?_)
    · replace h := it_p c1 h
      refine lv_iload_n hx hb dX8_name_118 rfl (lv_at hl 1 rfl) ?_
      refine lv_bipush (v := -3) hx hb dX8_name_119 (by decide) ?_
      refine lv_icmp_ne (tgt := 131) hx hb dX8_name_121 (by decide) (fun c2 => ?_) (fun c2 => ?_)
      · replace h := it_n c2 h
        refine lv_iload_n hx hb dX8_name_131 rfl (lv_at hl 1 rfl) ?_
        refine lv_iconst (v := 0) hx hb dX8_name_132 (by decide) ?_
        refine lv_aload_n hx hb dX8_name_133 rfl (lv_at hl 0 rfl) ?_
        replace h := ob_s h
        obtain ⟨f3, h4, h⟩ := h
        refine hm_get S hK hI (pf_X8_115_10 hK) (gI_s h4) dX8_name_134 ?_
        refine lv_iconst (v := 1) hx hb dX8_name_137 (by decide) ?_
        refine lv_isub hx hb dX8_name_138 ?_
        replace h := cb_s h
        obtain ⟨r7, σ6, h5, h⟩ := h
        refine hm_call (hm_runS (As := [.int x2, .int (0 : Int32), .int (f3 - (1 : Int32))]) (rest := []) S hK hI (mX8_in l E h5) (pm_X8_94 hK) (ps_X8_in hK) ⟨by omega, by omega⟩ rfl hl.1 (Nat.le_of_ble_eq_true rfl) ⟨by omega, by omega⟩ dX8_name_139) hL (fun H locs hI hL => ?_)
        refine lv_if_eq (tgt := 161) hx hb dX8_name_142 (by decide) (fun c8 => ?_) (fun c8 => ?_)
        · replace h := it_p c8 h
          refine lv_iconst (v := -1) hx hb dX8_name_161 (by decide) ?_
          exact hm_iret hx hb hr hI hL h (by omega) (by omega) hlocks dX8_name_162
        · replace h := it_n c8 h
          refine lv_aload_n hx hb dX8_name_145 rfl (lv_at hl 0 rfl) ?_
          replace h := ob_s h
          obtain ⟨f9, h10, h⟩ := h
          refine hm_get S hK hI (pf_X8_87_10 hK) (gR_s h10) dX8_name_146 ?_
          refine lv_aload_n hx hb dX8_name_149 rfl (lv_at hl 0 rfl) ?_
          replace h := ob_s h
          obtain ⟨f11, h12, h⟩ := h
          refine hm_get S hK hI (pf_X8_115_10 hK) (gI_s h12) dX8_name_150 ?_
          refine lv_iconst (v := 1) hx hb dX8_name_153 (by decide) ?_
          refine lv_isub hx hb dX8_name_154 ?_
          refine lv_iload_n hx hb dX8_name_155 rfl (lv_at hl 1 rfl) ?_
          refine lv_isub hx hb dX8_name_156 ?_
          replace h := ob_s h
          obtain ⟨a13, rfl, h⟩ := h
          have hl : lv_has ls 5 [(0, .ref x0), (2, .int x2), (3, .int v3)] := hl
          replace h := ob_s h
          obtain ⟨e14, h15, h⟩ := h
          refine hm_iald S hK hI h15 dX8_name_157 ?_
          refine lv_goto (tgt := 162) hx hb dX8_name_158 (by decide) ?_
          exact hm_iret hx hb hr hI hL h (by omega) (by omega) hlocks dX8_name_162
      · replace h := it_p c2 h
        refine lv_aload_n hx hb dX8_name_124 rfl (lv_at hl 0 rfl) ?_
        replace h := ob_s h
        obtain ⟨f16, h17, h⟩ := h
        refine hm_get S hK hI (pf_X8_115_10 hK) (gI_s h17) dX8_name_125 ?_
        refine lv_goto (tgt := 162) hx hb dX8_name_128 (by decide) ?_
        exact hm_iret hx hb hr hI hL h (by omega) (by omega) hlocks dX8_name_162
    · replace h := it_n c1 h
      refine lv_aload_n hx hb dX8_name_23 rfl (lv_at hl 0 rfl) ?_
      replace h := ob_s h
      obtain ⟨f18, h19, h⟩ := h
      refine hm_get S hK hI (pf_X8_7_10 hK) (gR_s h19) dX8_name_24 ?_
      refine lv_iload_n hx hb dX8_name_27 rfl (lv_at hl 2 rfl) ?_
      replace h := ob_s h
      obtain ⟨a20, rfl, h⟩ := h
      have hl : lv_has ls 5 [(0, .ref x0), (2, .int x2), (3, .int v3)] := hl
      replace h := ob_s h
      obtain ⟨e21, h22, h⟩ := h
      refine hm_iald S hK hI h22 dX8_name_28 ?_
      refine lv_iconst (v := 5) hx hb dX8_name_29 (by decide) ?_
      refine lv_icmp_eq (tgt := 46) hx hb dX8_name_30 (by decide) (fun c23 => ?_) (fun c23 => ?_)
      · replace h := it_p c23 h
        exact hJ46 _ _ _ _ _ h hI hL (lv_sub hl [0, 1, 2] rfl)
      · replace h := it_n c23 h
        refine lv_aload_n hx hb dX8_name_33 rfl (lv_at hl 0 rfl) ?_
        refine lv_bipush (v := 65) hx hb dX8_name_34 (by decide) ?_
        refine lv_aload_n hx hb dX8_name_36 rfl (lv_at hl 0 rfl) ?_
        replace h := ob_s h
        obtain ⟨f24, h25, h⟩ := h
        refine hm_get S hK hI (pf_X8_16_10 hK) (gR_s h25) dX8_name_37 ?_
        refine lv_iload_n hx hb dX8_name_40 rfl (lv_at hl 2 rfl) ?_
        replace h := ob_s h
        obtain ⟨a26, rfl, h⟩ := h
        have hl : lv_has ls 5 [(0, .ref x0), (2, .int x2), (3, .int v3)] := hl
        replace h := ob_s h
        obtain ⟨e27, h28, h⟩ := h
        refine hm_iald S hK hI h28 dX8_name_41 ?_
        refine lv_iadd hx hb dX8_name_42 ?_
        replace h := ob_s h
        obtain ⟨_, h30, h⟩ := h
        replace h := cb_s h
        obtain ⟨u0, σ31, h29, h⟩ := h
        refine hm_callv (hm_runV (As := [.int ((65 : Int32) + e27)]) (rest := []) (ci := 10) S hK hI (obC_s h30) rfl (mX8_put l E h29) (pm_X8_118 hK) (pi_X8_put hK) (pl_X8_X8_put hK) ⟨by omega, by omega⟩ rfl hl.1 (Nat.le_of_ble_eq_true rfl) ⟨by omega, by omega⟩ dX8_name_43) hL (fun H locs hI hL => ?_)
        exact hJ46 _ _ _ _ _ h hI hL (lv_sub hl [0, 1, 2] rfl)
  have hL17 : ∀ n : Nat, ∀ (v3 : Int32) (σ : hmS) (H : Heap) (locs : List Loc) (ls : Array Slot), fX8_name_L17 x0 x1 x2  n v3 σ = some (r, σ') → hmI E σ H → hmLo E locs → lv_has ls 5 [(0, .ref x0), (2, .int x2), (3, .int v3)] → W p l e R s m ([.ref x0, .int x1, .int x2] : List Value).toArray below meth c H locs 0 0 (MQ below (hmQc E (some (.int r)) σ') ([.ref x0, .int x1, .int x2] : List Value).toArray s 0 0 (fun q => hmL E ≤ q)) (F0 m 17 ls []) := by
    intro n
    induction n with
    | zero =>
      intro v3 σ H locs ls h
      have h : none = some (r, σ') := h
      cases h
    | succ n ih => exact hB17 _ ih
  have h := hmain
  clear hmain
  unfold fX8_name at h
  refine lv_aload_n hx hb dX8_name_0 rfl (lv_at hl 0 rfl) ?_
  refine lv_iload_n hx hb dX8_name_1 rfl (lv_at hl 1 rfl) ?_
  replace h := ob_s h
  obtain ⟨_, h2, h⟩ := h
  replace h := cb_s h
  obtain ⟨r4, σ3, h1, h⟩ := h
  refine hm_call (hm_runV (As := [.int x1]) (rest := []) (ci := 10) S hK hI (obC_s h2) rfl (mX8_isType l E h1) (pm_X8_98 hK) (pi_X8_isType hK) (pl_X8_X8_isType hK) ⟨by omega, by omega⟩ rfl hl.1 (Nat.le_of_ble_eq_true rfl) ⟨by omega, by omega⟩ dX8_name_2) hL (fun H locs hI hL => ?_)
  refine lv_if_ne (tgt := 10) hx hb dX8_name_5 (by decide) (fun c5 => ?_) (fun c5 => ?_)
  · replace h := it_n c5 h
    refine lv_aload_n hx hb dX8_name_10 rfl (lv_at hl 0 rfl) ?_
    refine lv_iconst (v := 0) hx hb dX8_name_11 (by decide) ?_
    replace h := ob_s h
    obtain ⟨σ6, h7, h⟩ := h
    refine hm_put S hK hI hL (pf_X8_115_10 hK) h7 ⟨rfl, rfl⟩ dX8_name_12 (fun H locs hI hL => ?_)
    refine lv_iload_n hx hb dX8_name_15 rfl (lv_at hl 1 rfl) ?_
    refine lv_istore_n (lv' := [(3, .int x1), (0, .ref x0), (1, .int x1), (2, .int x2)]) hx hb dX8_name_16 rfl hl (by decide) rfl (fun ls hl => ?_)
    exact hL17 20 _ _ _ _ _ h hI hL (lv_sub hl [1, 3, 0] rfl)
  · replace h := it_p c5 h
    refine lv_iconst (v := -1) hx hb dX8_name_8 (by decide) ?_
    exact hm_iret hx hb hr hI hL h (by omega) (by omega) hlocks dX8_name_9

def fX8_isPlace (x0 : Int32) (σ : hmS) : Option (Int32 × hmS) :=
  cb (fX8_in x0 (0 : Int32) (7 : Int32) σ) fun r3 σ2 => ob (okZ r3) fun _ => some (r3, σ2)
set_option maxHeartbeats 4000000 in
set_option maxRecDepth 100000 in
theorem mX8_isPlace (l : Launch) (E : hmG) {x0 : Int32} {σ σ' : hmS} {r : Int32} (h : fX8_isPlace x0 σ = some (r, σ')) : Met l yX8_isPlace [Cond.code yX8_isPlace cX8_isPlace 1 (some .boolean)] { frames := 1, cells := 0, slots := 0, locals := 22 } (hmPc E [.int x0] σ) (hmQc E (some (.int r)) σ') 0 0 (fun q => hmL E ≤ q) := by
  refine Met.ofW (cc := cX8_isPlace) (maxL := 1) (ret := (some .boolean)) (by decide) rfl ?_
  intro p e s m args below meth c s₁ B hml hv
  obtain ⟨rfl, hK, hI⟩ := hv
  have S : CallFix p m c cX8_isPlace 1 s ([.int x0] : List Value).toArray [] RX8 := ⟨B.exec, B.bytes, hml, findClass_of_methodNamed B.named, fun w hw => by cases hw⟩
  have hx := S.1
  have hb := S.2.1
  have hr := B.returns
  have hlocks := B.notSynchronized
  have hL : hmLo E [] := hmLo.nil
  have hl : lv_has ((lg_sl ([.int x0]) ++ List.replicate (1 - (lg_sl ([.int x0])).length) Slot.unset).toArray) 1 [(0, .int x0)] := by exact lv_entry _ (Nat.le_of_ble_eq_true rfl)
  rw [lg_entry_eq]
  generalize (lg_sl ([.int x0]) ++ List.replicate (1 - (lg_sl ([.int x0])).length) Slot.unset).toArray = ls at hl ⊢
  generalize hRe : (headSpec [Cond.code yX8_isPlace cX8_isPlace 1 (some .boolean)] { frames := 1, cells := 0, slots := 0, locals := 22 }).room = R
  have hR1 : R.frames = 1 ∧ R.cells = 0 ∧ R.slots = 0 ∧ R.locals = 22 := by rw [← hRe]; exact ⟨rfl, rfl, rfl, rfl⟩
  clear hRe B hml
  generalize s.heap = H at hI ⊢
  generalize ([] : List Loc) = locs at hL ⊢
  have hmain := h
  clear h
  have h := hmain
  clear hmain
  unfold fX8_isPlace at h
  refine lv_iload_n hx hb dX8_isPlace_0 rfl (lv_at hl 0 rfl) ?_
  refine lv_iconst (v := 0) hx hb dX8_isPlace_1 (by decide) ?_
  refine lv_bipush (v := 7) hx hb dX8_isPlace_2 (by decide) ?_
  replace h := cb_s h
  obtain ⟨r3, σ2, h1, h⟩ := h
  refine hm_call (hm_runS (As := [.int x0, .int (0 : Int32), .int (7 : Int32)]) (rest := []) S hK hI (mX8_in l E h1) (pm_X8_94 hK) (ps_X8_in hK) ⟨by omega, by omega⟩ rfl hl.1 (Nat.le_of_ble_eq_true rfl) ⟨by omega, by omega⟩ dX8_isPlace_4) hL (fun H locs hI hL => ?_)
  replace h := ob_s h
  obtain ⟨_, z4, h⟩ := h
  exact hm_zret hx hb hr (okZ_n z4).1 hI hL h (by omega) (by omega) hlocks dX8_isPlace_7

def fX8_isBound_J44 (x0 : Nat) (x1 : Int32)   (σ : hmS) : Option (Int32 × hmS) :=
  some ((1 : Int32), σ)
def fX8_isBound_J30 (x0 : Nat) (x1 : Int32)   (σ : hmS) : Option (Int32 × hmS) :=
  ob (gR σ x0 10 11) fun f1 => ob (gR σ x0 10 2) fun f3 => ob f3 fun a5 => ob (aI σ 0 a5 x1) fun e6 => ob f1 fun a8 => ob (aI σ 2 a8 e6) fun e9 => if e9 = 0 then
    fX8_isBound_J44 x0 x1 σ
  else
    some ((0 : Int32), σ)
def fX8_isBound (x0 : Nat) (x1 : Int32) (σ : hmS) : Option (Int32 × hmS) :=
  ob (gR σ x0 10 1) fun f1 => ob f1 fun a3 => ob (aI σ 0 a3 x1) fun e4 => if e4 = (2 : Int32) then
    fX8_isBound_J44 x0 x1 σ
  else
    ob (gR σ x0 10 1) fun f7 => ob f7 fun a9 => ob (aI σ 0 a9 x1) fun e10 => if e10 = (3 : Int32) then
      fX8_isBound_J30 x0 x1 σ
    else
      ob (gR σ x0 10 1) fun f13 => ob f13 fun a15 => ob (aI σ 0 a15 x1) fun e16 => if e16 = (5 : Int32) then
        fX8_isBound_J30 x0 x1 σ
      else
        some ((0 : Int32), σ)
set_option maxHeartbeats 4000000 in
set_option maxRecDepth 100000 in
theorem mX8_isBound (l : Launch) (E : hmG) {x0 : Nat} {x1 : Int32} {σ σ' : hmS} {r : Int32} (h : fX8_isBound x0 x1 σ = some (r, σ')) : Met l yX8_isBound [Cond.code yX8_isBound cX8_isBound 2 (some .boolean)] { frames := 0, cells := 0, slots := 0, locals := 0 } (hmPc E [.ref x0, .int x1] σ) (hmQc E (some (.int r)) σ') 0 0 (fun q => hmL E ≤ q) := by
  refine Met.ofW (cc := cX8_isBound) (maxL := 2) (ret := (some .boolean)) (by decide) rfl ?_
  intro p e s m args below meth c s₁ B hml hv
  obtain ⟨rfl, hK, hI⟩ := hv
  have S : CallFix p m c cX8_isBound 2 s ([.ref x0, .int x1] : List Value).toArray [] RX8 := ⟨B.exec, B.bytes, hml, findClass_of_methodNamed B.named, fun w hw => by cases hw⟩
  have hx := S.1
  have hb := S.2.1
  have hr := B.returns
  have hlocks := B.notSynchronized
  have hL : hmLo E [] := hmLo.nil
  have hl : lv_has ((lg_sl ([.ref x0, .int x1]) ++ List.replicate (2 - (lg_sl ([.ref x0, .int x1])).length) Slot.unset).toArray) 2 [(0, .ref x0), (1, .int x1)] := by exact lv_entry _ (Nat.le_of_ble_eq_true rfl)
  rw [lg_entry_eq]
  generalize (lg_sl ([.ref x0, .int x1]) ++ List.replicate (2 - (lg_sl ([.ref x0, .int x1])).length) Slot.unset).toArray = ls at hl ⊢
  generalize hRe : (headSpec [Cond.code yX8_isBound cX8_isBound 2 (some .boolean)] { frames := 0, cells := 0, slots := 0, locals := 0 }).room = R
  have hR1 : R.frames = 0 ∧ R.cells = 0 ∧ R.slots = 0 ∧ R.locals = 0 := by rw [← hRe]; exact ⟨rfl, rfl, rfl, rfl⟩
  clear hRe B hml
  generalize s.heap = H at hI ⊢
  generalize ([] : List Loc) = locs at hL ⊢
  have hmain := h
  clear h
  have hJ44 : ∀  (σ : hmS) (H : Heap) (locs : List Loc) (ls : Array Slot), fX8_isBound_J44 x0 x1   σ = some (r, σ') → hmI E σ H → hmLo E locs → lv_has ls 2 [] → W p l e R s m ([.ref x0, .int x1] : List Value).toArray below meth c H locs 0 0 (MQ below (hmQc E (some (.int r)) σ') ([.ref x0, .int x1] : List Value).toArray s 0 0 (fun q => hmL E ≤ q)) (F0 m 44 ls []) := by
    intro  σ H locs ls h hI hL hl
    unfold fX8_isBound_J44 at h
    refine lv_iconst (v := 1) hx hb dX8_isBound_44 (by decide) ?_
    refine lv_goto (tgt := 49) hx hb dX8_isBound_45 (by decide) ?_
    exact hm_zret hx hb hr rfl hI hL h (by omega) (by omega) hlocks dX8_isBound_49
  have hJ30 : ∀  (σ : hmS) (H : Heap) (locs : List Loc) (ls : Array Slot), fX8_isBound_J30 x0 x1   σ = some (r, σ') → hmI E σ H → hmLo E locs → lv_has ls 2 [(0, .ref x0), (1, .int x1)] → W p l e R s m ([.ref x0, .int x1] : List Value).toArray below meth c H locs 0 0 (MQ below (hmQc E (some (.int r)) σ') ([.ref x0, .int x1] : List Value).toArray s 0 0 (fun q => hmL E ≤ q)) (F0 m 30 ls []) := by
    intro  σ H locs ls h hI hL hl
    unfold fX8_isBound_J30 at h
    refine lv_aload_n hx hb dX8_isBound_30 rfl (lv_at hl 0 rfl) ?_
    replace h := ob_s h
    obtain ⟨f1, h2, h⟩ := h
    refine hm_get S hK hI (pf_X8_42_10 hK) (gR_s h2) dX8_isBound_31 ?_
    refine lv_aload_n hx hb dX8_isBound_34 rfl (lv_at hl 0 rfl) ?_
    replace h := ob_s h
    obtain ⟨f3, h4, h⟩ := h
    refine hm_get S hK hI (pf_X8_13_10 hK) (gR_s h4) dX8_isBound_35 ?_
    refine lv_iload_n hx hb dX8_isBound_38 rfl (lv_at hl 1 rfl) ?_
    replace h := ob_s h
    obtain ⟨a5, rfl, h⟩ := h
    have hl : lv_has ls 2 [(0, .ref x0), (1, .int x1)] := hl
    replace h := ob_s h
    obtain ⟨e6, h7, h⟩ := h
    refine hm_iald S hK hI h7 dX8_isBound_39 ?_
    replace h := ob_s h
    obtain ⟨a8, rfl, h⟩ := h
    have hl : lv_has ls 2 [(0, .ref x0), (1, .int x1)] := hl
    replace h := ob_s h
    obtain ⟨e9, h10, h⟩ := h
    refine hm_zald S hK hI h10 dX8_isBound_40 ?_
    refine lv_if_ne (tgt := 48) hx hb dX8_isBound_41 (by decide) (fun c11 => ?_) (fun c11 => ?_)
    · replace h := it_n c11 h
      refine lv_iconst (v := 0) hx hb dX8_isBound_48 (by decide) ?_
      exact hm_zret hx hb hr rfl hI hL h (by omega) (by omega) hlocks dX8_isBound_49
    · replace h := it_p c11 h
      exact hJ44 _ _ _ _ h hI hL (lv_sub hl [] rfl)
  have h := hmain
  clear hmain
  unfold fX8_isBound at h
  refine lv_aload_n hx hb dX8_isBound_0 rfl (lv_at hl 0 rfl) ?_
  replace h := ob_s h
  obtain ⟨f1, h2, h⟩ := h
  refine hm_get S hK hI (pf_X8_7_10 hK) (gR_s h2) dX8_isBound_1 ?_
  refine lv_iload_n hx hb dX8_isBound_4 rfl (lv_at hl 1 rfl) ?_
  replace h := ob_s h
  obtain ⟨a3, rfl, h⟩ := h
  have hl : lv_has ls 2 [(0, .ref x0), (1, .int x1)] := hl
  replace h := ob_s h
  obtain ⟨e4, h5, h⟩ := h
  refine hm_iald S hK hI h5 dX8_isBound_5 ?_
  refine lv_iconst (v := 2) hx hb dX8_isBound_6 (by decide) ?_
  refine lv_icmp_eq (tgt := 44) hx hb dX8_isBound_7 (by decide) (fun c6 => ?_) (fun c6 => ?_)
  · replace h := it_p c6 h
    exact hJ44 _ _ _ _ h hI hL (lv_sub hl [] rfl)
  · replace h := it_n c6 h
    refine lv_aload_n hx hb dX8_isBound_10 rfl (lv_at hl 0 rfl) ?_
    replace h := ob_s h
    obtain ⟨f7, h8, h⟩ := h
    refine hm_get S hK hI (pf_X8_7_10 hK) (gR_s h8) dX8_isBound_11 ?_
    refine lv_iload_n hx hb dX8_isBound_14 rfl (lv_at hl 1 rfl) ?_
    replace h := ob_s h
    obtain ⟨a9, rfl, h⟩ := h
    have hl : lv_has ls 2 [(0, .ref x0), (1, .int x1)] := hl
    replace h := ob_s h
    obtain ⟨e10, h11, h⟩ := h
    refine hm_iald S hK hI h11 dX8_isBound_15 ?_
    refine lv_iconst (v := 3) hx hb dX8_isBound_16 (by decide) ?_
    refine lv_icmp_eq (tgt := 30) hx hb dX8_isBound_17 (by decide) (fun c12 => ?_) (fun c12 => ?_)
    · replace h := it_p c12 h
      exact hJ30 _ _ _ _ h hI hL (lv_sub hl [0, 1] rfl)
    · replace h := it_n c12 h
      refine lv_aload_n hx hb dX8_isBound_20 rfl (lv_at hl 0 rfl) ?_
      replace h := ob_s h
      obtain ⟨f13, h14, h⟩ := h
      refine hm_get S hK hI (pf_X8_7_10 hK) (gR_s h14) dX8_isBound_21 ?_
      refine lv_iload_n hx hb dX8_isBound_24 rfl (lv_at hl 1 rfl) ?_
      replace h := ob_s h
      obtain ⟨a15, rfl, h⟩ := h
      have hl : lv_has ls 2 [(0, .ref x0), (1, .int x1)] := hl
      replace h := ob_s h
      obtain ⟨e16, h17, h⟩ := h
      refine hm_iald S hK hI h17 dX8_isBound_25 ?_
      refine lv_iconst (v := 5) hx hb dX8_isBound_26 (by decide) ?_
      refine lv_icmp_ne (tgt := 48) hx hb dX8_isBound_27 (by decide) (fun c18 => ?_) (fun c18 => ?_)
      · replace h := it_n c18 h
        refine lv_iconst (v := 0) hx hb dX8_isBound_48 (by decide) ?_
        exact hm_zret hx hb hr rfl hI hL h (by omega) (by omega) hlocks dX8_isBound_49
      · replace h := it_p c18 h
        exact hJ30 _ _ _ _ h hI hL (lv_sub hl [0, 1] rfl)

def fX8_isOf (x0 : Nat) (x1 : Int32) (x2 : Int32) (σ : hmS) : Option (Int32 × hmS) :=
  ob (gR σ x0 10 18) fun f1 => ob f1 fun a3 => ob (aI σ 0 a3 (((12 : Int32) * x1) + x2)) fun e4 => if e4 = (-3 : Int32) then
    some ((0 : Int32), σ)
  else
    some ((1 : Int32), σ)
set_option maxHeartbeats 4000000 in
set_option maxRecDepth 100000 in
theorem mX8_isOf (l : Launch) (E : hmG) {x0 : Nat} {x1 : Int32} {x2 : Int32} {σ σ' : hmS} {r : Int32} (h : fX8_isOf x0 x1 x2 σ = some (r, σ')) : Met l yX8_isOf [Cond.code yX8_isOf cX8_isOf 3 (some .boolean)] { frames := 0, cells := 0, slots := 0, locals := 0 } (hmPc E [.ref x0, .int x1, .int x2] σ) (hmQc E (some (.int r)) σ') 0 0 (fun q => hmL E ≤ q) := by
  refine Met.ofW (cc := cX8_isOf) (maxL := 3) (ret := (some .boolean)) (by decide) rfl ?_
  intro p e s m args below meth c s₁ B hml hv
  obtain ⟨rfl, hK, hI⟩ := hv
  have S : CallFix p m c cX8_isOf 3 s ([.ref x0, .int x1, .int x2] : List Value).toArray [] RX8 := ⟨B.exec, B.bytes, hml, findClass_of_methodNamed B.named, fun w hw => by cases hw⟩
  have hx := S.1
  have hb := S.2.1
  have hr := B.returns
  have hlocks := B.notSynchronized
  have hL : hmLo E [] := hmLo.nil
  have hl : lv_has ((lg_sl ([.ref x0, .int x1, .int x2]) ++ List.replicate (3 - (lg_sl ([.ref x0, .int x1, .int x2])).length) Slot.unset).toArray) 3 [(0, .ref x0), (1, .int x1), (2, .int x2)] := by exact lv_entry _ (Nat.le_of_ble_eq_true rfl)
  rw [lg_entry_eq]
  generalize (lg_sl ([.ref x0, .int x1, .int x2]) ++ List.replicate (3 - (lg_sl ([.ref x0, .int x1, .int x2])).length) Slot.unset).toArray = ls at hl ⊢
  generalize hRe : (headSpec [Cond.code yX8_isOf cX8_isOf 3 (some .boolean)] { frames := 0, cells := 0, slots := 0, locals := 0 }).room = R
  have hR1 : R.frames = 0 ∧ R.cells = 0 ∧ R.slots = 0 ∧ R.locals = 0 := by rw [← hRe]; exact ⟨rfl, rfl, rfl, rfl⟩
  clear hRe B hml
  generalize s.heap = H at hI ⊢
  generalize ([] : List Loc) = locs at hL ⊢
  have hmain := h
  clear h
  have h := hmain
  clear hmain
  unfold fX8_isOf at h
  refine lv_aload_n hx hb dX8_isOf_0 rfl (lv_at hl 0 rfl) ?_
  replace h := ob_s h
  obtain ⟨f1, h2, h⟩ := h
  refine hm_get S hK hI (pf_X8_60_10 hK) (gR_s h2) dX8_isOf_1 ?_
  refine lv_bipush (v := 12) hx hb dX8_isOf_4 (by decide) ?_
  refine lv_iload_n hx hb dX8_isOf_6 rfl (lv_at hl 1 rfl) ?_
  refine lv_imul hx hb dX8_isOf_7 ?_
  refine lv_iload_n hx hb dX8_isOf_8 rfl (lv_at hl 2 rfl) ?_
  refine lv_iadd hx hb dX8_isOf_9 ?_
  replace h := ob_s h
  obtain ⟨a3, rfl, h⟩ := h
  have hl : lv_has ls 3 [(0, .ref x0), (1, .int x1), (2, .int x2)] := hl
  replace h := ob_s h
  obtain ⟨e4, h5, h⟩ := h
  refine hm_iald S hK hI h5 dX8_isOf_10 ?_
  refine lv_bipush (v := -3) hx hb dX8_isOf_11 (by decide) ?_
  refine lv_icmp_eq (tgt := 20) hx hb dX8_isOf_13 (by decide) (fun c6 => ?_) (fun c6 => ?_)
  · replace h := it_p c6 h
    refine lv_iconst (v := 0) hx hb dX8_isOf_20 (by decide) ?_
    exact hm_zret hx hb hr rfl hI hL h (by omega) (by omega) hlocks dX8_isOf_21
  · replace h := it_n c6 h
    refine lv_iconst (v := 1) hx hb dX8_isOf_16 (by decide) ?_
    refine lv_goto (tgt := 21) hx hb dX8_isOf_17 (by decide) ?_
    exact hm_zret hx hb hr rfl hI hL h (by omega) (by omega) hlocks dX8_isOf_21

def fX8_level_B75 (x0 : Nat) (x1 : Int32) (x2 : Int32) (x3 : Int32)  (K75 : Int32 → Int32 → hmS → Option (Unit × hmS)) (v4 : Int32) (v5 : Int32) (σ : hmS) : Option (Unit × hmS) :=
  ob (gR σ x0 10 5) fun f1 => ob f1 fun a3 => ob (aI σ 0 a3 x2) fun e4 => if e4 ≤ v5 then
    some ((), σ)
  else
    ob (gR σ x0 10 21) fun f7 => ob (gR σ x0 10 14) fun f9 => ob (gR σ x0 10 2) fun f11 => ob f11 fun a13 => ob (aI σ 0 a13 x2) fun e14 => ob f9 fun a16 => ob (aL σ a16 (((4 : Int32) * e14) + v5)) fun e17 => ob f7 fun a19 => ob (sL σ a19 (((4 : Int32) * v4) + v5) e17) fun σ20 => K75 v4 (v5 + (1 : Int32)) σ20
def fX8_level_L75 (x0 : Nat) (x1 : Int32) (x2 : Int32) (x3 : Int32)  : Nat → Int32 → Int32 → hmS → Option (Unit × hmS)
  | 0 => fun _ _ _ => none
  | n + 1 => fX8_level_B75 x0 x1 x2 x3  (fX8_level_L75 x0 x1 x2 x3  n)
def fX8_level_B32 (x0 : Nat) (x1 : Int32) (x2 : Int32) (x3 : Int32)  (K32 : Int32 → Int32 → hmS → Option (Unit × hmS)) (v4 : Int32) (v5 : Int32) (σ : hmS) : Option (Unit × hmS) :=
  ob (gR σ x0 10 7) fun f1 => ob f1 fun a3 => ob (aI σ 0 a3 x2) fun e4 => if e4 ≤ v5 then
    fX8_level_L75 x0 x1 x2 x3 20 v4 (0 : Int32) σ
  else
    ob (gR σ x0 10 20) fun f7 => ob (gR σ x0 10 9) fun f9 => ob f9 fun a11 => ob (aL σ a11 (((4 : Int32) * x2) + v5)) fun e12 => ob f7 fun a14 => ob (sL σ a14 (((4 : Int32) * v4) + v5) e12) fun σ15 => K32 v4 (v5 + (1 : Int32)) σ15
def fX8_level_L32 (x0 : Nat) (x1 : Int32) (x2 : Int32) (x3 : Int32)  : Nat → Int32 → Int32 → hmS → Option (Unit × hmS)
  | 0 => fun _ _ _ => none
  | n + 1 => fX8_level_B32 x0 x1 x2 x3  (fX8_level_L32 x0 x1 x2 x3  n)
def fX8_level (x0 : Nat) (x1 : Int32) (x2 : Int32) (x3 : Int32) (σ : hmS) : Option (Unit × hmS) :=
  ob (gR σ x0 10 18) fun f1 => ob (gR σ x0 10 7) fun f3 => ob f3 fun a5 => ob (aI σ 0 a5 x2) fun e6 => ob f1 fun a8 => ob (sI σ 0 a8 (((12 : Int32) * x1) + x2) e6) fun σ9 => ob (gR σ9 x0 10 19) fun f11 => ob f11 fun a13 => ob (sI σ9 0 a13 (((12 : Int32) * x1) + x2) x3) fun σ14 => fX8_level_L32 x0 x1 x2 x3 20 (((12 : Int32) * x1) + x2) (0 : Int32) σ14
set_option maxHeartbeats 4000000 in
set_option maxRecDepth 100000 in
theorem mX8_level (l : Launch) (E : hmG) {x0 : Nat} {x1 : Int32} {x2 : Int32} {x3 : Int32} {σ σ' : hmS} {r : Unit} (h : fX8_level x0 x1 x2 x3 σ = some (r, σ')) : Met l yX8_level [Cond.code yX8_level cX8_level 6 none] { frames := 0, cells := 0, slots := 0, locals := 0 } (hmPc E [.ref x0, .int x1, .int x2, .int x3] σ) (hmQc E none σ') 0 0 (fun q => hmL E ≤ q) := by
  refine Met.ofW (cc := cX8_level) (maxL := 6) (ret := none) (by decide) rfl ?_
  intro p e s m args below meth c s₁ B hml hv
  obtain ⟨rfl, hK, hI⟩ := hv
  have S : CallFix p m c cX8_level 6 s ([.ref x0, .int x1, .int x2, .int x3] : List Value).toArray [] RX8 := ⟨B.exec, B.bytes, hml, findClass_of_methodNamed B.named, fun w hw => by cases hw⟩
  have hx := S.1
  have hb := S.2.1
  have hr := B.returns
  have hlocks := B.notSynchronized
  have hL : hmLo E [] := hmLo.nil
  have hl : lv_has ((lg_sl ([.ref x0, .int x1, .int x2, .int x3]) ++ List.replicate (6 - (lg_sl ([.ref x0, .int x1, .int x2, .int x3])).length) Slot.unset).toArray) 6 [(0, .ref x0), (1, .int x1), (2, .int x2), (3, .int x3)] := by exact lv_entry _ (Nat.le_of_ble_eq_true rfl)
  rw [lg_entry_eq]
  generalize (lg_sl ([.ref x0, .int x1, .int x2, .int x3]) ++ List.replicate (6 - (lg_sl ([.ref x0, .int x1, .int x2, .int x3])).length) Slot.unset).toArray = ls at hl ⊢
  generalize hRe : (headSpec [Cond.code yX8_level cX8_level 6 none] { frames := 0, cells := 0, slots := 0, locals := 0 }).room = R
  have hR1 : R.frames = 0 ∧ R.cells = 0 ∧ R.slots = 0 ∧ R.locals = 0 := by rw [← hRe]; exact ⟨rfl, rfl, rfl, rfl⟩
  clear hRe B hml
  generalize s.heap = H at hI ⊢
  generalize ([] : List Loc) = locs at hL ⊢
  have hmain := h
  clear h
  have hB75 : ∀ (K75 : Int32 → Int32 → hmS → Option (Unit × hmS)), (∀ (v4 : Int32) (v5 : Int32) (σ : hmS) (H : Heap) (locs : List Loc) (ls : Array Slot), K75 v4 v5 σ = some (r, σ') → hmI E σ H → hmLo E locs → lv_has ls 6 [(0, .ref x0), (2, .int x2), (4, .int v4), (5, .int v5)] → W p l e R s m ([.ref x0, .int x1, .int x2, .int x3] : List Value).toArray below meth c H locs 0 0 (MQ below (hmQc E none σ') ([.ref x0, .int x1, .int x2, .int x3] : List Value).toArray s 0 0 (fun q => hmL E ≤ q)) (F0 m 75 ls [])) → ∀ (v4 : Int32) (v5 : Int32) (σ : hmS) (H : Heap) (locs : List Loc) (ls : Array Slot), fX8_level_B75 x0 x1 x2 x3  K75 v4 v5 σ = some (r, σ') → hmI E σ H → hmLo E locs → lv_has ls 6 [(0, .ref x0), (2, .int x2), (4, .int v4), (5, .int v5)] → W p l e R s m ([.ref x0, .int x1, .int x2, .int x3] : List Value).toArray below meth c H locs 0 0 (MQ below (hmQc E none σ') ([.ref x0, .int x1, .int x2, .int x3] : List Value).toArray s 0 0 (fun q => hmL E ≤ q)) (F0 m 75 ls []) := by
    intro K75 hk75
    intro v4 v5 σ H locs ls h hI hL hl
    unfold fX8_level_B75 at h
    refine lv_iload hx hb dX8_level_75 (lv_at hl 3 rfl) ?_
    refine lv_aload_n hx hb dX8_level_77 rfl (lv_at hl 0 rfl) ?_
    replace h := ob_s h
    obtain ⟨f1, h2, h⟩ := h
    refine hm_get S hK hI (pf_X8_22_10 hK) (gR_s h2) dX8_level_78 ?_
    refine lv_iload_n hx hb dX8_level_81 rfl (lv_at hl 1 rfl) ?_
    replace h := ob_s h
    obtain ⟨a3, rfl, h⟩ := h
    have hl : lv_has ls 6 [(0, .ref x0), (2, .int x2), (4, .int v4), (5, .int v5)] := hl
    replace h := ob_s h
    obtain ⟨e4, h5, h⟩ := h
    refine hm_iald S hK hI h5 dX8_level_82 ?_
    refine lv_icmp_ge (tgt := 120) hx hb dX8_level_83 (by decide) (fun c6 => ?_) (fun c6 => ?_)
    · replace h := it_p c6 h
      exact hm_vret hx hb hr hI hL h (by omega) (by omega) hlocks dX8_level_120
    · replace h := it_n c6 h
      refine lv_aload_n hx hb dX8_level_86 rfl (lv_at hl 0 rfl) ?_
      replace h := ob_s h
      obtain ⟨f7, h8, h⟩ := h
      refine hm_get S hK hI (pf_X8_69_10 hK) (gR_s h8) dX8_level_87 ?_
      refine lv_iconst (v := 4) hx hb dX8_level_90 (by decide) ?_
      refine lv_iload hx hb dX8_level_91 (lv_at hl 2 rfl) ?_
      refine lv_imul hx hb dX8_level_93 ?_
      refine lv_iload hx hb dX8_level_94 (lv_at hl 3 rfl) ?_
      refine lv_iadd hx hb dX8_level_96 ?_
      refine lv_aload_n hx hb dX8_level_97 rfl (lv_at hl 0 rfl) ?_
      replace h := ob_s h
      obtain ⟨f9, h10, h⟩ := h
      refine hm_get S hK hI (pf_X8_51_10 hK) (gR_s h10) dX8_level_98 ?_
      refine lv_iconst (v := 4) hx hb dX8_level_101 (by decide) ?_
      refine lv_aload_n hx hb dX8_level_102 rfl (lv_at hl 0 rfl) ?_
      replace h := ob_s h
      obtain ⟨f11, h12, h⟩ := h
      refine hm_get S hK hI (pf_X8_13_10 hK) (gR_s h12) dX8_level_103 ?_
      refine lv_iload_n hx hb dX8_level_106 rfl (lv_at hl 1 rfl) ?_
      replace h := ob_s h
      obtain ⟨a13, rfl, h⟩ := h
      have hl : lv_has ls 6 [(0, .ref x0), (2, .int x2), (4, .int v4), (5, .int v5)] := hl
      replace h := ob_s h
      obtain ⟨e14, h15, h⟩ := h
      refine hm_iald S hK hI h15 dX8_level_107 ?_
      refine lv_imul hx hb dX8_level_108 ?_
      refine lv_iload hx hb dX8_level_109 (lv_at hl 3 rfl) ?_
      refine lv_iadd hx hb dX8_level_111 ?_
      replace h := ob_s h
      obtain ⟨a16, rfl, h⟩ := h
      have hl : lv_has ls 6 [(0, .ref x0), (2, .int x2), (4, .int v4), (5, .int v5)] := hl
      replace h := ob_s h
      obtain ⟨e17, h18, h⟩ := h
      refine hm_lald S hK hI h18 dX8_level_112 ?_
      replace h := ob_s h
      obtain ⟨a19, rfl, h⟩ := h
      have hl : lv_has ls 6 [(0, .ref x0), (2, .int x2), (4, .int v4), (5, .int v5)] := hl
      replace h := ob_s h
      obtain ⟨σ20, h21, h⟩ := h
      refine hm_last S hK hI hL h21 dX8_level_113 (fun H locs hI hL => ?_)
      refine lv_iinc (v := (v5 + (1 : Int32))) (lv' := [(5, .int (v5 + (1 : Int32))), (0, .ref x0), (2, .int x2), (4, .int v4)]) hx hb dX8_level_114 hl (k := 3) rfl rfl (by decide) rfl (fun ls hl => ?_)
      refine lv_goto (tgt := 75) hx hb dX8_level_117 (by decide) ?_
      exact hk75 _ _ _ _ _ _ h hI hL (lv_sub hl [1, 2, 3, 0] rfl)
  have hL75 : ∀ n : Nat, ∀ (v4 : Int32) (v5 : Int32) (σ : hmS) (H : Heap) (locs : List Loc) (ls : Array Slot), fX8_level_L75 x0 x1 x2 x3  n v4 v5 σ = some (r, σ') → hmI E σ H → hmLo E locs → lv_has ls 6 [(0, .ref x0), (2, .int x2), (4, .int v4), (5, .int v5)] → W p l e R s m ([.ref x0, .int x1, .int x2, .int x3] : List Value).toArray below meth c H locs 0 0 (MQ below (hmQc E none σ') ([.ref x0, .int x1, .int x2, .int x3] : List Value).toArray s 0 0 (fun q => hmL E ≤ q)) (F0 m 75 ls []) := by
    intro n
    induction n with
    | zero =>
      intro v4 v5 σ H locs ls h
      have h : none = some (r, σ') := h
      cases h
    | succ n ih => exact hB75 _ ih
  have hB32 : ∀ (K32 : Int32 → Int32 → hmS → Option (Unit × hmS)), (∀ (v4 : Int32) (v5 : Int32) (σ : hmS) (H : Heap) (locs : List Loc) (ls : Array Slot), K32 v4 v5 σ = some (r, σ') → hmI E σ H → hmLo E locs → lv_has ls 6 [(0, .ref x0), (2, .int x2), (4, .int v4), (5, .int v5)] → W p l e R s m ([.ref x0, .int x1, .int x2, .int x3] : List Value).toArray below meth c H locs 0 0 (MQ below (hmQc E none σ') ([.ref x0, .int x1, .int x2, .int x3] : List Value).toArray s 0 0 (fun q => hmL E ≤ q)) (F0 m 32 ls [])) → ∀ (v4 : Int32) (v5 : Int32) (σ : hmS) (H : Heap) (locs : List Loc) (ls : Array Slot), fX8_level_B32 x0 x1 x2 x3  K32 v4 v5 σ = some (r, σ') → hmI E σ H → hmLo E locs → lv_has ls 6 [(0, .ref x0), (2, .int x2), (4, .int v4), (5, .int v5)] → W p l e R s m ([.ref x0, .int x1, .int x2, .int x3] : List Value).toArray below meth c H locs 0 0 (MQ below (hmQc E none σ') ([.ref x0, .int x1, .int x2, .int x3] : List Value).toArray s 0 0 (fun q => hmL E ≤ q)) (F0 m 32 ls []) := by
    intro K32 hk32
    intro v4 v5 σ H locs ls h hI hL hl
    unfold fX8_level_B32 at h
    refine lv_iload hx hb dX8_level_32 (lv_at hl 3 rfl) ?_
    refine lv_aload_n hx hb dX8_level_34 rfl (lv_at hl 0 rfl) ?_
    replace h := ob_s h
    obtain ⟨f1, h2, h⟩ := h
    refine hm_get S hK hI (pf_X8_28_10 hK) (gR_s h2) dX8_level_35 ?_
    refine lv_iload_n hx hb dX8_level_38 rfl (lv_at hl 1 rfl) ?_
    replace h := ob_s h
    obtain ⟨a3, rfl, h⟩ := h
    have hl : lv_has ls 6 [(0, .ref x0), (2, .int x2), (4, .int v4), (5, .int v5)] := hl
    replace h := ob_s h
    obtain ⟨e4, h5, h⟩ := h
    refine hm_iald S hK hI h5 dX8_level_39 ?_
    refine lv_icmp_ge (tgt := 72) hx hb dX8_level_40 (by decide) (fun c6 => ?_) (fun c6 => ?_)
    · replace h := it_p c6 h
      refine lv_iconst (v := 0) hx hb dX8_level_72 (by decide) ?_
      refine lv_istore (lv' := [(5, .int (0 : Int32)), (0, .ref x0), (2, .int x2), (4, .int v4)]) hx hb dX8_level_73 hl (by decide) rfl (fun ls hl => ?_)
      exact hL75 20 _ _ _ _ _ _ h hI hL (lv_sub hl [1, 2, 3, 0] rfl)
    · replace h := it_n c6 h
      refine lv_aload_n hx hb dX8_level_43 rfl (lv_at hl 0 rfl) ?_
      replace h := ob_s h
      obtain ⟨f7, h8, h⟩ := h
      refine hm_get S hK hI (pf_X8_66_10 hK) (gR_s h8) dX8_level_44 ?_
      refine lv_iconst (v := 4) hx hb dX8_level_47 (by decide) ?_
      refine lv_iload hx hb dX8_level_48 (lv_at hl 2 rfl) ?_
      refine lv_imul hx hb dX8_level_50 ?_
      refine lv_iload hx hb dX8_level_51 (lv_at hl 3 rfl) ?_
      refine lv_iadd hx hb dX8_level_53 ?_
      refine lv_aload_n hx hb dX8_level_54 rfl (lv_at hl 0 rfl) ?_
      replace h := ob_s h
      obtain ⟨f9, h10, h⟩ := h
      refine hm_get S hK hI (pf_X8_34_10 hK) (gR_s h10) dX8_level_55 ?_
      refine lv_iconst (v := 4) hx hb dX8_level_58 (by decide) ?_
      refine lv_iload_n hx hb dX8_level_59 rfl (lv_at hl 1 rfl) ?_
      refine lv_imul hx hb dX8_level_60 ?_
      refine lv_iload hx hb dX8_level_61 (lv_at hl 3 rfl) ?_
      refine lv_iadd hx hb dX8_level_63 ?_
      replace h := ob_s h
      obtain ⟨a11, rfl, h⟩ := h
      have hl : lv_has ls 6 [(0, .ref x0), (2, .int x2), (4, .int v4), (5, .int v5)] := hl
      replace h := ob_s h
      obtain ⟨e12, h13, h⟩ := h
      refine hm_lald S hK hI h13 dX8_level_64 ?_
      replace h := ob_s h
      obtain ⟨a14, rfl, h⟩ := h
      have hl : lv_has ls 6 [(0, .ref x0), (2, .int x2), (4, .int v4), (5, .int v5)] := hl
      replace h := ob_s h
      obtain ⟨σ15, h16, h⟩ := h
      refine hm_last S hK hI hL h16 dX8_level_65 (fun H locs hI hL => ?_)
      refine lv_iinc (v := (v5 + (1 : Int32))) (lv' := [(5, .int (v5 + (1 : Int32))), (0, .ref x0), (2, .int x2), (4, .int v4)]) hx hb dX8_level_66 hl (k := 3) rfl rfl (by decide) rfl (fun ls hl => ?_)
      refine lv_goto (tgt := 32) hx hb dX8_level_69 (by decide) ?_
      exact hk32 _ _ _ _ _ _ h hI hL (lv_sub hl [1, 2, 3, 0] rfl)
  have hL32 : ∀ n : Nat, ∀ (v4 : Int32) (v5 : Int32) (σ : hmS) (H : Heap) (locs : List Loc) (ls : Array Slot), fX8_level_L32 x0 x1 x2 x3  n v4 v5 σ = some (r, σ') → hmI E σ H → hmLo E locs → lv_has ls 6 [(0, .ref x0), (2, .int x2), (4, .int v4), (5, .int v5)] → W p l e R s m ([.ref x0, .int x1, .int x2, .int x3] : List Value).toArray below meth c H locs 0 0 (MQ below (hmQc E none σ') ([.ref x0, .int x1, .int x2, .int x3] : List Value).toArray s 0 0 (fun q => hmL E ≤ q)) (F0 m 32 ls []) := by
    intro n
    induction n with
    | zero =>
      intro v4 v5 σ H locs ls h
      have h : none = some (r, σ') := h
      cases h
    | succ n ih => exact hB32 _ ih
  have h := hmain
  clear hmain
  unfold fX8_level at h
  refine lv_bipush (v := 12) hx hb dX8_level_0 (by decide) ?_
  refine lv_iload_n hx hb dX8_level_2 rfl (lv_at hl 1 rfl) ?_
  refine lv_imul hx hb dX8_level_3 ?_
  refine lv_iload_n hx hb dX8_level_4 rfl (lv_at hl 2 rfl) ?_
  refine lv_iadd hx hb dX8_level_5 ?_
  refine lv_istore (lv' := [(4, .int (((12 : Int32) * x1) + x2)), (0, .ref x0), (1, .int x1), (2, .int x2), (3, .int x3)]) hx hb dX8_level_6 hl (by decide) rfl (fun ls hl => ?_)
  refine lv_aload_n hx hb dX8_level_8 rfl (lv_at hl 1 rfl) ?_
  replace h := ob_s h
  obtain ⟨f1, h2, h⟩ := h
  refine hm_get S hK hI (pf_X8_60_10 hK) (gR_s h2) dX8_level_9 ?_
  refine lv_iload hx hb dX8_level_12 (lv_at hl 0 rfl) ?_
  refine lv_aload_n hx hb dX8_level_14 rfl (lv_at hl 1 rfl) ?_
  replace h := ob_s h
  obtain ⟨f3, h4, h⟩ := h
  refine hm_get S hK hI (pf_X8_28_10 hK) (gR_s h4) dX8_level_15 ?_
  refine lv_iload_n hx hb dX8_level_18 rfl (lv_at hl 3 rfl) ?_
  replace h := ob_s h
  obtain ⟨a5, rfl, h⟩ := h
  have hl : lv_has ls 6 [(4, .int (((12 : Int32) * x1) + x2)), (0, .ref x0), (1, .int x1), (2, .int x2), (3, .int x3)] := hl
  replace h := ob_s h
  obtain ⟨e6, h7, h⟩ := h
  refine hm_iald S hK hI h7 dX8_level_19 ?_
  replace h := ob_s h
  obtain ⟨a8, rfl, h⟩ := h
  have hl : lv_has ls 6 [(4, .int (((12 : Int32) * x1) + x2)), (0, .ref x0), (1, .int x1), (2, .int x2), (3, .int x3)] := hl
  replace h := ob_s h
  obtain ⟨σ9, h10, h⟩ := h
  refine hm_iast S hK hI hL h10 dX8_level_20 (fun H locs hI hL => ?_)
  refine lv_aload_n hx hb dX8_level_21 rfl (lv_at hl 1 rfl) ?_
  replace h := ob_s h
  obtain ⟨f11, h12, h⟩ := h
  refine hm_get S hK hI (pf_X8_63_10 hK) (gR_s h12) dX8_level_22 ?_
  refine lv_iload hx hb dX8_level_25 (lv_at hl 0 rfl) ?_
  refine lv_iload_n hx hb dX8_level_27 rfl (lv_at hl 4 rfl) ?_
  replace h := ob_s h
  obtain ⟨a13, rfl, h⟩ := h
  have hl : lv_has ls 6 [(4, .int (((12 : Int32) * x1) + x2)), (0, .ref x0), (1, .int x1), (2, .int x2), (3, .int x3)] := hl
  replace h := ob_s h
  obtain ⟨σ14, h15, h⟩ := h
  refine hm_iast S hK hI hL h15 dX8_level_28 (fun H locs hI hL => ?_)
  refine lv_iconst (v := 0) hx hb dX8_level_29 (by decide) ?_
  refine lv_istore (lv' := [(5, .int (0 : Int32)), (4, .int (((12 : Int32) * x1) + x2)), (0, .ref x0), (1, .int x1), (2, .int x2), (3, .int x3)]) hx hb dX8_level_30 hl (by decide) rfl (fun ls hl => ?_)
  exact hL32 20 _ _ _ _ _ _ h hI hL (lv_sub hl [2, 4, 1, 0] rfl)

def fX8_found_B11 (x0 : Nat) (x1 : Int32) (x2 : Int32) (x3 : Int32)  (K11 : Int32 → Int32 → hmS → Option (Int32 × hmS)) (v4 : Int32) (v5 : Int32) (σ : hmS) : Option (Int32 × hmS) :=
  if v4 = (-3 : Int32) then
    some (v4, σ)
  else
    ob (obC σ x0 10) fun _ => cb (fX8_isOf x0 v4 x3 σ) fun r5 σ4 => if r5 = 0 then
      ob (gR σ4 x0 10 19) fun f7 => ob f7 fun a9 => ob (aI σ4 0 a9 (((12 : Int32) * v4) + v5)) fun e10 => ob (gR σ4 x0 10 2) fun f12 => ob f12 fun a14 => ob (aI σ4 0 a14 v5) fun e15 => K11 e10 e15 σ4
    else
      some (v4, σ4)
def fX8_found_L11 (x0 : Nat) (x1 : Int32) (x2 : Int32) (x3 : Int32)  : Nat → Int32 → Int32 → hmS → Option (Int32 × hmS)
  | 0 => fun _ _ _ => none
  | n + 1 => fX8_found_B11 x0 x1 x2 x3  (fX8_found_L11 x0 x1 x2 x3  n)
def fX8_found (x0 : Nat) (x1 : Int32) (x2 : Int32) (x3 : Int32) (σ : hmS) : Option (Int32 × hmS) :=
  ob (gR σ x0 10 2) fun f1 => ob f1 fun a3 => ob (aI σ 0 a3 x2) fun e4 => fX8_found_L11 x0 x1 x2 x3 20 x1 e4 σ
set_option maxHeartbeats 4000000 in
set_option maxRecDepth 100000 in
theorem mX8_found (l : Launch) (E : hmG) {x0 : Nat} {x1 : Int32} {x2 : Int32} {x3 : Int32} {σ σ' : hmS} {r : Int32} (h : fX8_found x0 x1 x2 x3 σ = some (r, σ')) : Met l yX8_found [Cond.code yX8_found cX8_found 6 (some .int)] { frames := 1, cells := 0, slots := 0, locals := 22 } (hmPc E [.ref x0, .int x1, .int x2, .int x3] σ) (hmQc E (some (.int r)) σ') 0 0 (fun q => hmL E ≤ q) := by
  refine Met.ofW (cc := cX8_found) (maxL := 6) (ret := (some .int)) (by decide) rfl ?_
  intro p e s m args below meth c s₁ B hml hv
  obtain ⟨rfl, hK, hI⟩ := hv
  have S : CallFix p m c cX8_found 6 s ([.ref x0, .int x1, .int x2, .int x3] : List Value).toArray [] RX8 := ⟨B.exec, B.bytes, hml, findClass_of_methodNamed B.named, fun w hw => by cases hw⟩
  have hx := S.1
  have hb := S.2.1
  have hr := B.returns
  have hlocks := B.notSynchronized
  have hL : hmLo E [] := hmLo.nil
  have hl : lv_has ((lg_sl ([.ref x0, .int x1, .int x2, .int x3]) ++ List.replicate (6 - (lg_sl ([.ref x0, .int x1, .int x2, .int x3])).length) Slot.unset).toArray) 6 [(0, .ref x0), (1, .int x1), (2, .int x2), (3, .int x3)] := by exact lv_entry _ (Nat.le_of_ble_eq_true rfl)
  rw [lg_entry_eq]
  generalize (lg_sl ([.ref x0, .int x1, .int x2, .int x3]) ++ List.replicate (6 - (lg_sl ([.ref x0, .int x1, .int x2, .int x3])).length) Slot.unset).toArray = ls at hl ⊢
  generalize hRe : (headSpec [Cond.code yX8_found cX8_found 6 (some .int)] { frames := 1, cells := 0, slots := 0, locals := 22 }).room = R
  have hR1 : R.frames = 1 ∧ R.cells = 0 ∧ R.slots = 0 ∧ R.locals = 22 := by rw [← hRe]; exact ⟨rfl, rfl, rfl, rfl⟩
  clear hRe B hml
  generalize s.heap = H at hI ⊢
  generalize ([] : List Loc) = locs at hL ⊢
  have hmain := h
  clear h
  have hB11 : ∀ (K11 : Int32 → Int32 → hmS → Option (Int32 × hmS)), (∀ (v4 : Int32) (v5 : Int32) (σ : hmS) (H : Heap) (locs : List Loc) (ls : Array Slot), K11 v4 v5 σ = some (r, σ') → hmI E σ H → hmLo E locs → lv_has ls 6 [(0, .ref x0), (3, .int x3), (4, .int v4), (5, .int v5)] → W p l e R s m ([.ref x0, .int x1, .int x2, .int x3] : List Value).toArray below meth c H locs 0 0 (MQ below (hmQc E (some (.int r)) σ') ([.ref x0, .int x1, .int x2, .int x3] : List Value).toArray s 0 0 (fun q => hmL E ≤ q)) (F0 m 11 ls [])) → ∀ (v4 : Int32) (v5 : Int32) (σ : hmS) (H : Heap) (locs : List Loc) (ls : Array Slot), fX8_found_B11 x0 x1 x2 x3  K11 v4 v5 σ = some (r, σ') → hmI E σ H → hmLo E locs → lv_has ls 6 [(0, .ref x0), (3, .int x3), (4, .int v4), (5, .int v5)] → W p l e R s m ([.ref x0, .int x1, .int x2, .int x3] : List Value).toArray below meth c H locs 0 0 (MQ below (hmQc E (some (.int r)) σ') ([.ref x0, .int x1, .int x2, .int x3] : List Value).toArray s 0 0 (fun q => hmL E ≤ q)) (F0 m 11 ls []) := by
    intro K11 hk11
    intro v4 v5 σ H locs ls h hI hL hl
    unfold fX8_found_B11 at h
    refine lv_iload hx hb dX8_found_11 (lv_at hl 2 rfl) ?_
    refine lv_bipush (v := -3) hx hb dX8_found_13 (by decide) ?_
    refine lv_icmp_eq (tgt := 55) hx hb dX8_found_15 (by decide) (fun c1 => ?_) (fun c1 => ?_)
    · replace h := it_p c1 h
      refine lv_iload hx hb dX8_found_55 (lv_at hl 2 rfl) ?_
      exact hm_iret hx hb hr hI hL h (by omega) (by omega) hlocks dX8_found_57
    · replace h := it_n c1 h
      refine lv_aload_n hx hb dX8_found_18 rfl (lv_at hl 0 rfl) ?_
      refine lv_iload hx hb dX8_found_19 (lv_at hl 2 rfl) ?_
      refine lv_iload_n hx hb dX8_found_21 rfl (lv_at hl 1 rfl) ?_
      replace h := ob_s h
      obtain ⟨_, h3, h⟩ := h
      replace h := cb_s h
      obtain ⟨r5, σ4, h2, h⟩ := h
      refine hm_call (hm_runV (As := [.int v4, .int x3]) (rest := []) (ci := 10) S hK hI (obC_s h3) rfl (mX8_isOf l E h2) (pm_X8_122 hK) (pi_X8_isOf hK) (pl_X8_X8_isOf hK) ⟨by omega, by omega⟩ rfl hl.1 (Nat.le_of_ble_eq_true rfl) ⟨by omega, by omega⟩ dX8_found_22) hL (fun H locs hI hL => ?_)
      refine lv_if_ne (tgt := 55) hx hb dX8_found_25 (by decide) (fun c6 => ?_) (fun c6 => ?_)
      · replace h := it_n c6 h
        refine lv_iload hx hb dX8_found_55 (lv_at hl 2 rfl) ?_
        exact hm_iret hx hb hr hI hL h (by omega) (by omega) hlocks dX8_found_57
      · replace h := it_p c6 h
        refine lv_aload_n hx hb dX8_found_28 rfl (lv_at hl 0 rfl) ?_
        replace h := ob_s h
        obtain ⟨f7, h8, h⟩ := h
        refine hm_get S hK hI (pf_X8_63_10 hK) (gR_s h8) dX8_found_29 ?_
        refine lv_bipush (v := 12) hx hb dX8_found_32 (by decide) ?_
        refine lv_iload hx hb dX8_found_34 (lv_at hl 2 rfl) ?_
        refine lv_imul hx hb dX8_found_36 ?_
        refine lv_iload hx hb dX8_found_37 (lv_at hl 3 rfl) ?_
        refine lv_iadd hx hb dX8_found_39 ?_
        replace h := ob_s h
        obtain ⟨a9, rfl, h⟩ := h
        have hl : lv_has ls 6 [(0, .ref x0), (3, .int x3), (4, .int v4), (5, .int v5)] := hl
        replace h := ob_s h
        obtain ⟨e10, h11, h⟩ := h
        refine hm_iald S hK hI h11 dX8_found_40 ?_
        refine lv_istore (lv' := [(4, .int e10), (0, .ref x0), (3, .int x3), (5, .int v5)]) hx hb dX8_found_41 hl (by decide) rfl (fun ls hl => ?_)
        refine lv_aload_n hx hb dX8_found_43 rfl (lv_at hl 1 rfl) ?_
        replace h := ob_s h
        obtain ⟨f12, h13, h⟩ := h
        refine hm_get S hK hI (pf_X8_13_10 hK) (gR_s h13) dX8_found_44 ?_
        refine lv_iload hx hb dX8_found_47 (lv_at hl 3 rfl) ?_
        replace h := ob_s h
        obtain ⟨a14, rfl, h⟩ := h
        have hl : lv_has ls 6 [(4, .int e10), (0, .ref x0), (3, .int x3), (5, .int v5)] := hl
        replace h := ob_s h
        obtain ⟨e15, h16, h⟩ := h
        refine hm_iald S hK hI h16 dX8_found_49 ?_
        refine lv_istore (lv' := [(5, .int e15), (4, .int e10), (0, .ref x0), (3, .int x3)]) hx hb dX8_found_50 hl (by decide) rfl (fun ls hl => ?_)
        refine lv_goto (tgt := 11) hx hb dX8_found_52 (by decide) ?_
        exact hk11 _ _ _ _ _ _ h hI hL (lv_sub hl [2, 3, 1, 0] rfl)
  have hL11 : ∀ n : Nat, ∀ (v4 : Int32) (v5 : Int32) (σ : hmS) (H : Heap) (locs : List Loc) (ls : Array Slot), fX8_found_L11 x0 x1 x2 x3  n v4 v5 σ = some (r, σ') → hmI E σ H → hmLo E locs → lv_has ls 6 [(0, .ref x0), (3, .int x3), (4, .int v4), (5, .int v5)] → W p l e R s m ([.ref x0, .int x1, .int x2, .int x3] : List Value).toArray below meth c H locs 0 0 (MQ below (hmQc E (some (.int r)) σ') ([.ref x0, .int x1, .int x2, .int x3] : List Value).toArray s 0 0 (fun q => hmL E ≤ q)) (F0 m 11 ls []) := by
    intro n
    induction n with
    | zero =>
      intro v4 v5 σ H locs ls h
      have h : none = some (r, σ') := h
      cases h
    | succ n ih => exact hB11 _ ih
  have h := hmain
  clear hmain
  unfold fX8_found at h
  refine lv_iload_n hx hb dX8_found_0 rfl (lv_at hl 1 rfl) ?_
  refine lv_istore (lv' := [(4, .int x1), (0, .ref x0), (1, .int x1), (2, .int x2), (3, .int x3)]) hx hb dX8_found_1 hl (by decide) rfl (fun ls hl => ?_)
  refine lv_aload_n hx hb dX8_found_3 rfl (lv_at hl 1 rfl) ?_
  replace h := ob_s h
  obtain ⟨f1, h2, h⟩ := h
  refine hm_get S hK hI (pf_X8_13_10 hK) (gR_s h2) dX8_found_4 ?_
  refine lv_iload_n hx hb dX8_found_7 rfl (lv_at hl 3 rfl) ?_
  replace h := ob_s h
  obtain ⟨a3, rfl, h⟩ := h
  have hl : lv_has ls 6 [(4, .int x1), (0, .ref x0), (1, .int x1), (2, .int x2), (3, .int x3)] := hl
  replace h := ob_s h
  obtain ⟨e4, h5, h⟩ := h
  refine hm_iald S hK hI h5 dX8_found_8 ?_
  refine lv_istore (lv' := [(5, .int e4), (4, .int x1), (0, .ref x0), (1, .int x1), (2, .int x2), (3, .int x3)]) hx hb dX8_found_9 hl (by decide) rfl (fun ls hl => ?_)
  exact hL11 20 _ _ _ _ _ _ h hI hL (lv_sub hl [2, 5, 1, 0] rfl)

def fX8_make_J235 (x0 : Nat) (x1 : Int32) (x2 : Int32) (x3 : Int32) (K172 : Int32 → Int32 → Int32 → hmS → Option (Int32 × hmS)) (v4 : Int32) (v5 : Int32) (v6 : Int32) (v7 : Int32) (σ : hmS) : Option (Int32 × hmS) :=
  ob (obC σ x0 10) fun _ => cb (fX8_level x0 v4 v6 v7 σ) fun _ σ3 => ob (gR σ3 x0 10 6) fun f4 => ob f4 fun a6 => ob (aI σ3 0 a6 v6) fun e7 => K172 v4 v5 e7 σ3
def fX8_make_J207 (x0 : Nat) (x1 : Int32) (x2 : Int32) (x3 : Int32) (K172 : Int32 → Int32 → Int32 → hmS → Option (Int32 × hmS)) (v4 : Int32) (v5 : Int32) (v6 : Int32) (w0 : Int32) (σ : hmS) : Option (Int32 × hmS) :=
  ob (obC σ x0 10) fun _ => cb (fX8_isBound x0 v6 σ) fun r4 σ3 => if r4 = 0 then
    fX8_make_J235 x0 x1 x2 x3 K172 v4 v5 v6 w0 σ3
  else
    if w0 = (-3 : Int32) then
      ob (wF σ3 x0 10 28 (.int (3 : Int32))) fun σ7 => ob (gI σ7 x0 10 28) fun f9 => some (f9, σ7)
    else
      fX8_make_J235 x0 x1 x2 x3 K172 v4 v5 v6 w0 σ3
def fX8_make_B172 (x0 : Nat) (x1 : Int32) (x2 : Int32) (x3 : Int32)  (K172 : Int32 → Int32 → Int32 → hmS → Option (Int32 × hmS)) (v4 : Int32) (v5 : Int32) (v6 : Int32) (σ : hmS) : Option (Int32 × hmS) :=
  if v6 = (-3 : Int32) then
    ob (gR σ x0 10 17) fun f2 => ob f2 fun a4 => ob (sI σ 0 a4 v4 x1) fun σ5 => ob (gI σ5 x0 10 16) fun f7 => ob (wF σ5 x0 10 16 (.int (f7 + (1 : Int32)))) fun σ9 => ob (gR σ9 x0 10 22) fun f11 => ob f11 fun a13 => ob (sI σ9 0 a13 x3 v4) fun σ14 => some ((0 : Int32), σ14)
  else
    ob (obC σ x0 10) fun _ => cb (fX8_isBound x0 v6 σ) fun r19 σ18 => if r19 = 0 then
      fX8_make_J207 x0 x1 x2 x3 K172 v4 v5 v6 (-3 : Int32) σ18
    else
      ob (gR σ18 x0 10 2) fun f21 => ob f21 fun a23 => ob (aI σ18 0 a23 v6) fun e24 => ob (obC σ18 x0 10) fun _ => cb (fX8_found x0 v5 x1 e24 σ18) fun r29 σ28 => fX8_make_J207 x0 x1 x2 x3 K172 v4 v5 v6 r29 σ28
def fX8_make_L172 (x0 : Nat) (x1 : Int32) (x2 : Int32) (x3 : Int32)  : Nat → Int32 → Int32 → Int32 → hmS → Option (Int32 × hmS)
  | 0 => fun _ _ _ _ => none
  | n + 1 => fX8_make_B172 x0 x1 x2 x3  (fX8_make_L172 x0 x1 x2 x3  n)
def fX8_make_B127 (x0 : Nat) (x1 : Int32) (x2 : Int32) (x3 : Int32)  (K127 : Int32 → Int32 → Int32 → hmS → Option (Int32 × hmS)) (v4 : Int32) (v5 : Int32) (v6 : Int32) (σ : hmS) : Option (Int32 × hmS) :=
  if (12 : Int32) ≤ v6 then
    ob (obC σ x0 10) fun _ => cb (fX8_level x0 v4 x1 v5 σ) fun _ σ4 => ob (gR σ4 x0 10 6) fun f5 => ob f5 fun a7 => ob (aI σ4 0 a7 x1) fun e8 => fX8_make_L172 x0 x1 x2 x3 20 v4 v5 e8 σ4
  else
    ob (gR σ x0 10 18) fun f10 => ob f10 fun a12 => ob (sI σ 0 a12 (((12 : Int32) * v4) + v6) (-3 : Int32)) fun σ13 => K127 v4 v5 (v6 + (1 : Int32)) σ13
def fX8_make_L127 (x0 : Nat) (x1 : Int32) (x2 : Int32) (x3 : Int32)  : Nat → Int32 → Int32 → Int32 → hmS → Option (Int32 × hmS)
  | 0 => fun _ _ _ _ => none
  | n + 1 => fX8_make_B127 x0 x1 x2 x3  (fX8_make_L127 x0 x1 x2 x3  n)
def fX8_make_J112 (x0 : Nat) (x1 : Int32) (x2 : Int32) (x3 : Int32)  (v4 : Int32) (v5 : Int32) (σ : hmS) : Option (Int32 × hmS) :=
  ob (gI σ x0 10 28) fun f1 => if f1 ≤ 0 then
    fX8_make_L127 x0 x1 x2 x3 20 v4 v5 (0 : Int32) σ
  else
    ob (gI σ x0 10 28) fun f4 => some (f4, σ)
def fX8_make_J109 (x0 : Nat) (x1 : Int32) (x2 : Int32) (x3 : Int32)  (v4 : Int32) (v5 : Int32) (w0 : Int32) (σ : hmS) : Option (Int32 × hmS) :=
  ob (wF σ x0 10 28 (.int w0)) fun σ1 => fX8_make_J112 x0 x1 x2 x3 v4 v5 σ1
def fX8_make_J62 (x0 : Nat) (x1 : Int32) (x2 : Int32) (x3 : Int32)  (v4 : Int32) (w0 : Int32) (σ : hmS) : Option (Int32 × hmS) :=
  ob (wF σ x0 10 28 (.int (0 : Int32))) fun σ1 => ob (obC σ1 x0 10) fun _ => cb (fX8_isBound x0 x1 σ1) fun r6 σ5 => if r6 = 0 then
    fX8_make_J112 x0 x1 x2 x3 v4 w0 σ5
  else
    if w0 = (-3 : Int32) then
      fX8_make_J109 x0 x1 x2 x3 v4 w0 (1 : Int32) σ5
    else
      ob (gR σ5 x0 10 2) fun f9 => ob f9 fun a11 => ob (aI σ5 0 a11 x1) fun e12 => ob (obC σ5 x0 10) fun _ => cb (fX8_isOf x0 w0 e12 σ5) fun r17 σ16 => if r17 = 0 then
        fX8_make_J109 x0 x1 x2 x3 v4 w0 (2 : Int32) σ16
      else
        fX8_make_J109 x0 x1 x2 x3 v4 w0 (0 : Int32) σ16
def fX8_make_J37 (x0 : Nat) (x1 : Int32) (x2 : Int32) (x3 : Int32)   (σ : hmS) : Option (Int32 × hmS) :=
  ob (gI σ x0 10 16) fun f1 => ob (obC σ x0 10) fun _ => cb (fX8_isBound x0 x1 σ) fun r6 σ5 => if r6 = 0 then
    fX8_make_J62 x0 x1 x2 x3 f1 (-3 : Int32) σ5
  else
    ob (gR σ5 x0 10 22) fun f8 => ob f8 fun a10 => ob (aI σ5 0 a10 x2) fun e11 => fX8_make_J62 x0 x1 x2 x3 f1 e11 σ5
def fX8_make_J30 (x0 : Nat) (x1 : Int32) (x2 : Int32) (x3 : Int32)   (σ : hmS) : Option (Int32 × hmS) :=
  ob (wF σ x0 10 28 (.int (-1 : Int32))) fun σ1 => some ((-1 : Int32), σ1)
def fX8_make (x0 : Nat) (x1 : Int32) (x2 : Int32) (x3 : Int32) (σ : hmS) : Option (Int32 × hmS) :=
  ob (obC σ x0 10) fun _ => cb (fX8_isType x0 x1 σ) fun r4 σ3 => if r4 = 0 then
    fX8_make_J30 x0 x1 x2 x3 σ3
  else
    cb (fX8_isPlace x3 σ3) fun r8 σ7 => if r8 = 0 then
      fX8_make_J30 x0 x1 x2 x3 σ7
    else
      ob (obC σ7 x0 10) fun _ => cb (fX8_isBound x0 x1 σ7) fun r13 σ12 => if r13 = 0 then
        fX8_make_J37 x0 x1 x2 x3 σ12
      else
        cb (fX8_isPlace x2 σ12) fun r17 σ16 => if r17 = 0 then
          fX8_make_J30 x0 x1 x2 x3 σ16
        else
          fX8_make_J37 x0 x1 x2 x3 σ16
set_option maxHeartbeats 4000000 in
set_option maxRecDepth 100000 in
theorem mX8_make (l : Launch) (E : hmG) {x0 : Nat} {x1 : Int32} {x2 : Int32} {x3 : Int32} {σ σ' : hmS} {r : Int32} (h : fX8_make x0 x1 x2 x3 σ = some (r, σ')) : Met l yX8_make [Cond.code yX8_make cX8_make 8 (some .int)] { frames := 2, cells := 0, slots := 0, locals := 47 } (hmPc E [.ref x0, .int x1, .int x2, .int x3] σ) (hmQc E (some (.int r)) σ') 0 0 (fun q => hmL E ≤ q) := by
  refine Met.ofW (cc := cX8_make) (maxL := 8) (ret := (some .int)) (by decide) rfl ?_
  intro p e s m args below meth c s₁ B hml hv
  obtain ⟨rfl, hK, hI⟩ := hv
  have S : CallFix p m c cX8_make 8 s ([.ref x0, .int x1, .int x2, .int x3] : List Value).toArray [] RX8 := ⟨B.exec, B.bytes, hml, findClass_of_methodNamed B.named, fun w hw => by cases hw⟩
  have hx := S.1
  have hb := S.2.1
  have hr := B.returns
  have hlocks := B.notSynchronized
  have hL : hmLo E [] := hmLo.nil
  have hl : lv_has ((lg_sl ([.ref x0, .int x1, .int x2, .int x3]) ++ List.replicate (8 - (lg_sl ([.ref x0, .int x1, .int x2, .int x3])).length) Slot.unset).toArray) 8 [(0, .ref x0), (1, .int x1), (2, .int x2), (3, .int x3)] := by exact lv_entry _ (Nat.le_of_ble_eq_true rfl)
  rw [lg_entry_eq]
  generalize (lg_sl ([.ref x0, .int x1, .int x2, .int x3]) ++ List.replicate (8 - (lg_sl ([.ref x0, .int x1, .int x2, .int x3])).length) Slot.unset).toArray = ls at hl ⊢
  generalize hRe : (headSpec [Cond.code yX8_make cX8_make 8 (some .int)] { frames := 2, cells := 0, slots := 0, locals := 47 }).room = R
  have hR1 : R.frames = 2 ∧ R.cells = 0 ∧ R.slots = 0 ∧ R.locals = 47 := by rw [← hRe]; exact ⟨rfl, rfl, rfl, rfl⟩
  clear hRe B hml
  generalize s.heap = H at hI ⊢
  generalize ([] : List Loc) = locs at hL ⊢
  have hmain := h
  clear h
  have hB172 : ∀ (K172 : Int32 → Int32 → Int32 → hmS → Option (Int32 × hmS)), (∀ (v4 : Int32) (v5 : Int32) (v6 : Int32) (σ : hmS) (H : Heap) (locs : List Loc) (ls : Array Slot), K172 v4 v5 v6 σ = some (r, σ') → hmI E σ H → hmLo E locs → lv_has ls 8 [(0, .ref x0), (1, .int x1), (3, .int x3), (4, .int v4), (5, .int v5), (6, .int v6)] → W p l e R s m ([.ref x0, .int x1, .int x2, .int x3] : List Value).toArray below meth c H locs 0 0 (MQ below (hmQc E (some (.int r)) σ') ([.ref x0, .int x1, .int x2, .int x3] : List Value).toArray s 0 0 (fun q => hmL E ≤ q)) (F0 m 172 ls [])) → ∀ (v4 : Int32) (v5 : Int32) (v6 : Int32) (σ : hmS) (H : Heap) (locs : List Loc) (ls : Array Slot), fX8_make_B172 x0 x1 x2 x3  K172 v4 v5 v6 σ = some (r, σ') → hmI E σ H → hmLo E locs → lv_has ls 8 [(0, .ref x0), (1, .int x1), (3, .int x3), (4, .int v4), (5, .int v5), (6, .int v6)] → W p l e R s m ([.ref x0, .int x1, .int x2, .int x3] : List Value).toArray below meth c H locs 0 0 (MQ below (hmQc E (some (.int r)) σ') ([.ref x0, .int x1, .int x2, .int x3] : List Value).toArray s 0 0 (fun q => hmL E ≤ q)) (F0 m 172 ls []) := by
    intro K172 hk172
    have hJ235 : ∀ (v4 : Int32) (v5 : Int32) (v6 : Int32) (v7 : Int32) (σ : hmS) (H : Heap) (locs : List Loc) (ls : Array Slot), fX8_make_J235 x0 x1 x2 x3 K172 v4 v5 v6 v7 σ = some (r, σ') → hmI E σ H → hmLo E locs → lv_has ls 8 [(0, .ref x0), (1, .int x1), (3, .int x3), (4, .int v4), (5, .int v5), (6, .int v6), (7, .int v7)] → W p l e R s m ([.ref x0, .int x1, .int x2, .int x3] : List Value).toArray below meth c H locs 0 0 (MQ below (hmQc E (some (.int r)) σ') ([.ref x0, .int x1, .int x2, .int x3] : List Value).toArray s 0 0 (fun q => hmL E ≤ q)) (F0 m 235 ls []) := by
      intro v4 v5 v6 v7 σ H locs ls h hI hL hl
      unfold fX8_make_J235 at h
      refine lv_aload_n hx hb dX8_make_235 rfl (lv_at hl 0 rfl) ?_
      refine lv_iload hx hb dX8_make_236 (lv_at hl 3 rfl) ?_
      refine lv_iload hx hb dX8_make_238 (lv_at hl 5 rfl) ?_
      refine lv_iload hx hb dX8_make_240 (lv_at hl 6 rfl) ?_
      replace h := ob_s h
      obtain ⟨_, h2, h⟩ := h
      replace h := cb_s h
      obtain ⟨u0, σ3, h1, h⟩ := h
      refine hm_callv (hm_runV (As := [.int v4, .int v6, .int v7]) (rest := []) (ci := 10) S hK hI (obC_s h2) rfl (mX8_level l E h1) (pm_X8_138 hK) (pi_X8_level hK) (pl_X8_X8_level hK) ⟨by omega, by omega⟩ rfl hl.1 (Nat.le_of_ble_eq_true rfl) ⟨by omega, by omega⟩ dX8_make_242) hL (fun H locs hI hL => ?_)
      refine lv_aload_n hx hb dX8_make_245 rfl (lv_at hl 0 rfl) ?_
      replace h := ob_s h
      obtain ⟨f4, h5, h⟩ := h
      refine hm_get S hK hI (pf_X8_25_10 hK) (gR_s h5) dX8_make_246 ?_
      refine lv_iload hx hb dX8_make_249 (lv_at hl 5 rfl) ?_
      replace h := ob_s h
      obtain ⟨a6, rfl, h⟩ := h
      have hl : lv_has ls 8 [(0, .ref x0), (1, .int x1), (3, .int x3), (4, .int v4), (5, .int v5), (6, .int v6), (7, .int v7)] := hl
      replace h := ob_s h
      obtain ⟨e7, h8, h⟩ := h
      refine hm_iald S hK hI h8 dX8_make_251 ?_
      refine lv_istore (lv' := [(6, .int e7), (0, .ref x0), (1, .int x1), (3, .int x3), (4, .int v4), (5, .int v5), (7, .int v7)]) hx hb dX8_make_252 hl (by decide) rfl (fun ls hl => ?_)
      refine lv_goto (tgt := 172) hx hb dX8_make_254 (by decide) ?_
      exact hk172 _ _ _ _ _ _ _ h hI hL (lv_sub hl [1, 2, 3, 4, 5, 0] rfl)
    have hJ207 : ∀ (v4 : Int32) (v5 : Int32) (v6 : Int32) (w0 : Int32) (σ : hmS) (H : Heap) (locs : List Loc) (ls : Array Slot), fX8_make_J207 x0 x1 x2 x3 K172 v4 v5 v6 w0 σ = some (r, σ') → hmI E σ H → hmLo E locs → lv_has ls 8 [(0, .ref x0), (1, .int x1), (3, .int x3), (4, .int v4), (5, .int v5), (6, .int v6)] → W p l e R s m ([.ref x0, .int x1, .int x2, .int x3] : List Value).toArray below meth c H locs 0 0 (MQ below (hmQc E (some (.int r)) σ') ([.ref x0, .int x1, .int x2, .int x3] : List Value).toArray s 0 0 (fun q => hmL E ≤ q)) (F0 m 207 ls [.int w0]) := by
      intro v4 v5 v6 w0 σ H locs ls h hI hL hl
      unfold fX8_make_J207 at h
      refine lv_istore (lv' := [(7, .int w0), (0, .ref x0), (1, .int x1), (3, .int x3), (4, .int v4), (5, .int v5), (6, .int v6)]) hx hb dX8_make_207 hl (by decide) rfl (fun ls hl => ?_)
      refine lv_aload_n hx hb dX8_make_209 rfl (lv_at hl 1 rfl) ?_
      refine lv_iload hx hb dX8_make_210 (lv_at hl 6 rfl) ?_
      replace h := ob_s h
      obtain ⟨_, h2, h⟩ := h
      replace h := cb_s h
      obtain ⟨r4, σ3, h1, h⟩ := h
      refine hm_call (hm_runV (As := [.int v6]) (rest := []) (ci := 10) S hK hI (obC_s h2) rfl (mX8_isBound l E h1) (pm_X8_129 hK) (pi_X8_isBound hK) (pl_X8_X8_isBound hK) ⟨by omega, by omega⟩ rfl hl.1 (Nat.le_of_ble_eq_true rfl) ⟨by omega, by omega⟩ dX8_make_212) hL (fun H locs hI hL => ?_)
      refine lv_if_eq (tgt := 235) hx hb dX8_make_215 (by decide) (fun c5 => ?_) (fun c5 => ?_)
      · replace h := it_p c5 h
        exact hJ235 _ _ _ _ _ _ _ _ h hI hL (lv_sub hl [1, 2, 3, 4, 5, 6, 0] rfl)
      · replace h := it_n c5 h
        refine lv_iload hx hb dX8_make_218 (lv_at hl 0 rfl) ?_
        refine lv_bipush (v := -3) hx hb dX8_make_220 (by decide) ?_
        refine lv_icmp_ne (tgt := 235) hx hb dX8_make_222 (by decide) (fun c6 => ?_) (fun c6 => ?_)
        · replace h := it_n c6 h
          exact hJ235 _ _ _ _ _ _ _ _ h hI hL (lv_sub hl [1, 2, 3, 4, 5, 6, 0] rfl)
        · replace h := it_p c6 h
          refine lv_aload_n hx hb dX8_make_225 rfl (lv_at hl 1 rfl) ?_
          refine lv_iconst (v := 3) hx hb dX8_make_226 (by decide) ?_
          replace h := ob_s h
          obtain ⟨σ7, h8, h⟩ := h
          refine hm_put S hK hI hL (pf_X8_132_10 hK) h8 ⟨rfl, rfl⟩ dX8_make_227 (fun H locs hI hL => ?_)
          refine lv_aload_n hx hb dX8_make_230 rfl (lv_at hl 1 rfl) ?_
          replace h := ob_s h
          obtain ⟨f9, h10, h⟩ := h
          refine hm_get S hK hI (pf_X8_132_10 hK) (gI_s h10) dX8_make_231 ?_
          exact hm_iret hx hb hr hI hL h (by omega) (by omega) hlocks dX8_make_234
    intro v4 v5 v6 σ H locs ls h hI hL hl
    unfold fX8_make_B172 at h
    refine lv_iload hx hb dX8_make_172 (lv_at hl 5 rfl) ?_
    refine lv_bipush (v := -3) hx hb dX8_make_174 (by decide) ?_
    refine lv_icmp_eq (tgt := 257) hx hb dX8_make_176 (by decide) (fun c1 => ?_) (fun c1 => ?_)
    · replace h := it_p c1 h
      refine lv_aload_n hx hb dX8_make_257 rfl (lv_at hl 0 rfl) ?_
      replace h := ob_s h
      obtain ⟨f2, h3, h⟩ := h
      refine hm_get S hK hI (pf_X8_57_10 hK) (gR_s h3) dX8_make_258 ?_
      refine lv_iload hx hb dX8_make_261 (lv_at hl 3 rfl) ?_
      refine lv_iload_n hx hb dX8_make_263 rfl (lv_at hl 1 rfl) ?_
      replace h := ob_s h
      obtain ⟨a4, rfl, h⟩ := h
      have hl : lv_has ls 8 [(0, .ref x0), (1, .int x1), (3, .int x3), (4, .int v4), (5, .int v5), (6, .int v6)] := hl
      replace h := ob_s h
      obtain ⟨σ5, h6, h⟩ := h
      refine hm_iast S hK hI hL h6 dX8_make_264 (fun H locs hI hL => ?_)
      refine lv_aload_n hx hb dX8_make_265 rfl (lv_at hl 0 rfl) ?_
      refine lv_dup hx hb dX8_make_266 rfl ?_
      replace h := ob_s h
      obtain ⟨f7, h8, h⟩ := h
      refine hm_get S hK hI (pf_X8_135_10 hK) (gI_s h8) dX8_make_267 ?_
      refine lv_iconst (v := 1) hx hb dX8_make_270 (by decide) ?_
      refine lv_iadd hx hb dX8_make_271 ?_
      replace h := ob_s h
      obtain ⟨σ9, h10, h⟩ := h
      refine hm_put S hK hI hL (pf_X8_135_10 hK) h10 ⟨rfl, rfl⟩ dX8_make_272 (fun H locs hI hL => ?_)
      refine lv_aload_n hx hb dX8_make_275 rfl (lv_at hl 0 rfl) ?_
      replace h := ob_s h
      obtain ⟨f11, h12, h⟩ := h
      refine hm_get S hK hI (pf_X8_72_10 hK) (gR_s h12) dX8_make_276 ?_
      refine lv_iload_n hx hb dX8_make_279 rfl (lv_at hl 2 rfl) ?_
      refine lv_iload hx hb dX8_make_280 (lv_at hl 3 rfl) ?_
      replace h := ob_s h
      obtain ⟨a13, rfl, h⟩ := h
      have hl : lv_has ls 8 [(0, .ref x0), (1, .int x1), (3, .int x3), (4, .int v4), (5, .int v5), (6, .int v6)] := hl
      replace h := ob_s h
      obtain ⟨σ14, h15, h⟩ := h
      refine hm_iast S hK hI hL h15 dX8_make_282 (fun H locs hI hL => ?_)
      refine lv_iconst (v := 0) hx hb dX8_make_283 (by decide) ?_
      exact hm_iret hx hb hr hI hL h (by omega) (by omega) hlocks dX8_make_284
    · replace h := it_n c1 h
      refine lv_aload_n hx hb dX8_make_179 rfl (lv_at hl 0 rfl) ?_
      refine lv_iload hx hb dX8_make_180 (lv_at hl 5 rfl) ?_
      replace h := ob_s h
      obtain ⟨_, h17, h⟩ := h
      replace h := cb_s h
      obtain ⟨r19, σ18, h16, h⟩ := h
      refine hm_call (hm_runV (As := [.int v6]) (rest := []) (ci := 10) S hK hI (obC_s h17) rfl (mX8_isBound l E h16) (pm_X8_129 hK) (pi_X8_isBound hK) (pl_X8_X8_isBound hK) ⟨by omega, by omega⟩ rfl hl.1 (Nat.le_of_ble_eq_true rfl) ⟨by omega, by omega⟩ dX8_make_182) hL (fun H locs hI hL => ?_)
      refine lv_if_eq (tgt := 205) hx hb dX8_make_185 (by decide) (fun c20 => ?_) (fun c20 => ?_)
      · replace h := it_p c20 h
        refine lv_bipush (v := -3) hx hb dX8_make_205 (by decide) ?_
        exact hJ207 _ _ _ _ _ _ _ _ h hI hL (lv_sub hl [0, 1, 2, 3, 4, 5] rfl)
      · replace h := it_n c20 h
        refine lv_aload_n hx hb dX8_make_188 rfl (lv_at hl 0 rfl) ?_
        refine lv_iload hx hb dX8_make_189 (lv_at hl 4 rfl) ?_
        refine lv_iload_n hx hb dX8_make_191 rfl (lv_at hl 1 rfl) ?_
        refine lv_aload_n hx hb dX8_make_192 rfl (lv_at hl 0 rfl) ?_
        replace h := ob_s h
        obtain ⟨f21, h22, h⟩ := h
        refine hm_get S hK hI (pf_X8_13_10 hK) (gR_s h22) dX8_make_193 ?_
        refine lv_iload hx hb dX8_make_196 (lv_at hl 5 rfl) ?_
        replace h := ob_s h
        obtain ⟨a23, rfl, h⟩ := h
        have hl : lv_has ls 8 [(0, .ref x0), (1, .int x1), (3, .int x3), (4, .int v4), (5, .int v5), (6, .int v6)] := hl
        replace h := ob_s h
        obtain ⟨e24, h25, h⟩ := h
        refine hm_iald S hK hI h25 dX8_make_198 ?_
        replace h := ob_s h
        obtain ⟨_, h27, h⟩ := h
        replace h := cb_s h
        obtain ⟨r29, σ28, h26, h⟩ := h
        refine hm_call (hm_runV (As := [.int v5, .int x1, .int e24]) (rest := []) (ci := 10) S hK hI (obC_s h27) rfl (mX8_found l E h26) (pm_X8_142 hK) (pi_X8_found hK) (pl_X8_X8_found hK) ⟨by omega, by omega⟩ rfl hl.1 (Nat.le_of_ble_eq_true rfl) ⟨by omega, by omega⟩ dX8_make_199) hL (fun H locs hI hL => ?_)
        refine lv_goto (tgt := 207) hx hb dX8_make_202 (by decide) ?_
        exact hJ207 _ _ _ _ _ _ _ _ h hI hL (lv_sub hl [0, 1, 2, 3, 4, 5] rfl)
  have hL172 : ∀ n : Nat, ∀ (v4 : Int32) (v5 : Int32) (v6 : Int32) (σ : hmS) (H : Heap) (locs : List Loc) (ls : Array Slot), fX8_make_L172 x0 x1 x2 x3  n v4 v5 v6 σ = some (r, σ') → hmI E σ H → hmLo E locs → lv_has ls 8 [(0, .ref x0), (1, .int x1), (3, .int x3), (4, .int v4), (5, .int v5), (6, .int v6)] → W p l e R s m ([.ref x0, .int x1, .int x2, .int x3] : List Value).toArray below meth c H locs 0 0 (MQ below (hmQc E (some (.int r)) σ') ([.ref x0, .int x1, .int x2, .int x3] : List Value).toArray s 0 0 (fun q => hmL E ≤ q)) (F0 m 172 ls []) := by
    intro n
    induction n with
    | zero =>
      intro v4 v5 v6 σ H locs ls h
      have h : none = some (r, σ') := h
      cases h
    | succ n ih => exact hB172 _ ih
  have hB127 : ∀ (K127 : Int32 → Int32 → Int32 → hmS → Option (Int32 × hmS)), (∀ (v4 : Int32) (v5 : Int32) (v6 : Int32) (σ : hmS) (H : Heap) (locs : List Loc) (ls : Array Slot), K127 v4 v5 v6 σ = some (r, σ') → hmI E σ H → hmLo E locs → lv_has ls 8 [(0, .ref x0), (1, .int x1), (3, .int x3), (4, .int v4), (5, .int v5), (6, .int v6)] → W p l e R s m ([.ref x0, .int x1, .int x2, .int x3] : List Value).toArray below meth c H locs 0 0 (MQ below (hmQc E (some (.int r)) σ') ([.ref x0, .int x1, .int x2, .int x3] : List Value).toArray s 0 0 (fun q => hmL E ≤ q)) (F0 m 127 ls [])) → ∀ (v4 : Int32) (v5 : Int32) (v6 : Int32) (σ : hmS) (H : Heap) (locs : List Loc) (ls : Array Slot), fX8_make_B127 x0 x1 x2 x3  K127 v4 v5 v6 σ = some (r, σ') → hmI E σ H → hmLo E locs → lv_has ls 8 [(0, .ref x0), (1, .int x1), (3, .int x3), (4, .int v4), (5, .int v5), (6, .int v6)] → W p l e R s m ([.ref x0, .int x1, .int x2, .int x3] : List Value).toArray below meth c H locs 0 0 (MQ below (hmQc E (some (.int r)) σ') ([.ref x0, .int x1, .int x2, .int x3] : List Value).toArray s 0 0 (fun q => hmL E ≤ q)) (F0 m 127 ls []) := by
    intro K127 hk127
    intro v4 v5 v6 σ H locs ls h hI hL hl
    unfold fX8_make_B127 at h
    refine lv_iload hx hb dX8_make_127 (lv_at hl 5 rfl) ?_
    refine lv_bipush (v := 12) hx hb dX8_make_129 (by decide) ?_
    refine lv_icmp_ge (tgt := 155) hx hb dX8_make_131 (by decide) (fun c1 => ?_) (fun c1 => ?_)
    · replace h := it_p c1 h
      refine lv_aload_n hx hb dX8_make_155 rfl (lv_at hl 0 rfl) ?_
      refine lv_iload hx hb dX8_make_156 (lv_at hl 3 rfl) ?_
      refine lv_iload_n hx hb dX8_make_158 rfl (lv_at hl 1 rfl) ?_
      refine lv_iload hx hb dX8_make_159 (lv_at hl 4 rfl) ?_
      replace h := ob_s h
      obtain ⟨_, h3, h⟩ := h
      replace h := cb_s h
      obtain ⟨u0, σ4, h2, h⟩ := h
      refine hm_callv (hm_runV (As := [.int v4, .int x1, .int v5]) (rest := []) (ci := 10) S hK hI (obC_s h3) rfl (mX8_level l E h2) (pm_X8_138 hK) (pi_X8_level hK) (pl_X8_X8_level hK) ⟨by omega, by omega⟩ rfl hl.1 (Nat.le_of_ble_eq_true rfl) ⟨by omega, by omega⟩ dX8_make_161) hL (fun H locs hI hL => ?_)
      refine lv_aload_n hx hb dX8_make_164 rfl (lv_at hl 0 rfl) ?_
      replace h := ob_s h
      obtain ⟨f5, h6, h⟩ := h
      refine hm_get S hK hI (pf_X8_25_10 hK) (gR_s h6) dX8_make_165 ?_
      refine lv_iload_n hx hb dX8_make_168 rfl (lv_at hl 1 rfl) ?_
      replace h := ob_s h
      obtain ⟨a7, rfl, h⟩ := h
      have hl : lv_has ls 8 [(0, .ref x0), (1, .int x1), (3, .int x3), (4, .int v4), (5, .int v5), (6, .int v6)] := hl
      replace h := ob_s h
      obtain ⟨e8, h9, h⟩ := h
      refine hm_iald S hK hI h9 dX8_make_169 ?_
      refine lv_istore (lv' := [(6, .int e8), (0, .ref x0), (1, .int x1), (3, .int x3), (4, .int v4), (5, .int v5)]) hx hb dX8_make_170 hl (by decide) rfl (fun ls hl => ?_)
      exact hL172 20 _ _ _ _ _ _ _ h hI hL (lv_sub hl [1, 2, 3, 4, 5, 0] rfl)
    · replace h := it_n c1 h
      refine lv_aload_n hx hb dX8_make_134 rfl (lv_at hl 0 rfl) ?_
      replace h := ob_s h
      obtain ⟨f10, h11, h⟩ := h
      refine hm_get S hK hI (pf_X8_60_10 hK) (gR_s h11) dX8_make_135 ?_
      refine lv_bipush (v := 12) hx hb dX8_make_138 (by decide) ?_
      refine lv_iload hx hb dX8_make_140 (lv_at hl 3 rfl) ?_
      refine lv_imul hx hb dX8_make_142 ?_
      refine lv_iload hx hb dX8_make_143 (lv_at hl 5 rfl) ?_
      refine lv_iadd hx hb dX8_make_145 ?_
      refine lv_bipush (v := -3) hx hb dX8_make_146 (by decide) ?_
      replace h := ob_s h
      obtain ⟨a12, rfl, h⟩ := h
      have hl : lv_has ls 8 [(0, .ref x0), (1, .int x1), (3, .int x3), (4, .int v4), (5, .int v5), (6, .int v6)] := hl
      replace h := ob_s h
      obtain ⟨σ13, h14, h⟩ := h
      refine hm_iast S hK hI hL h14 dX8_make_148 (fun H locs hI hL => ?_)
      refine lv_iinc (v := (v6 + (1 : Int32))) (lv' := [(6, .int (v6 + (1 : Int32))), (0, .ref x0), (1, .int x1), (3, .int x3), (4, .int v4), (5, .int v5)]) hx hb dX8_make_149 hl (k := 5) rfl rfl (by decide) rfl (fun ls hl => ?_)
      refine lv_goto (tgt := 127) hx hb dX8_make_152 (by decide) ?_
      exact hk127 _ _ _ _ _ _ _ h hI hL (lv_sub hl [1, 2, 3, 4, 5, 0] rfl)
  have hL127 : ∀ n : Nat, ∀ (v4 : Int32) (v5 : Int32) (v6 : Int32) (σ : hmS) (H : Heap) (locs : List Loc) (ls : Array Slot), fX8_make_L127 x0 x1 x2 x3  n v4 v5 v6 σ = some (r, σ') → hmI E σ H → hmLo E locs → lv_has ls 8 [(0, .ref x0), (1, .int x1), (3, .int x3), (4, .int v4), (5, .int v5), (6, .int v6)] → W p l e R s m ([.ref x0, .int x1, .int x2, .int x3] : List Value).toArray below meth c H locs 0 0 (MQ below (hmQc E (some (.int r)) σ') ([.ref x0, .int x1, .int x2, .int x3] : List Value).toArray s 0 0 (fun q => hmL E ≤ q)) (F0 m 127 ls []) := by
    intro n
    induction n with
    | zero =>
      intro v4 v5 v6 σ H locs ls h
      have h : none = some (r, σ') := h
      cases h
    | succ n ih => exact hB127 _ ih
  have hJ112 : ∀ (v4 : Int32) (v5 : Int32) (σ : hmS) (H : Heap) (locs : List Loc) (ls : Array Slot), fX8_make_J112 x0 x1 x2 x3  v4 v5 σ = some (r, σ') → hmI E σ H → hmLo E locs → lv_has ls 8 [(0, .ref x0), (1, .int x1), (3, .int x3), (4, .int v4), (5, .int v5)] → W p l e R s m ([.ref x0, .int x1, .int x2, .int x3] : List Value).toArray below meth c H locs 0 0 (MQ below (hmQc E (some (.int r)) σ') ([.ref x0, .int x1, .int x2, .int x3] : List Value).toArray s 0 0 (fun q => hmL E ≤ q)) (F0 m 112 ls []) := by
    intro v4 v5 σ H locs ls h hI hL hl
    unfold fX8_make_J112 at h
    refine lv_aload_n hx hb dX8_make_112 rfl (lv_at hl 0 rfl) ?_
    replace h := ob_s h
    obtain ⟨f1, h2, h⟩ := h
    refine hm_get S hK hI (pf_X8_132_10 hK) (gI_s h2) dX8_make_113 ?_
    refine lv_if_le (tgt := 124) hx hb dX8_make_116 (by decide) (fun c3 => ?_) (fun c3 => ?_)
    · replace h := it_p c3 h
      refine lv_iconst (v := 0) hx hb dX8_make_124 (by decide) ?_
      refine lv_istore (lv' := [(6, .int (0 : Int32)), (0, .ref x0), (1, .int x1), (3, .int x3), (4, .int v4), (5, .int v5)]) hx hb dX8_make_125 hl (by decide) rfl (fun ls hl => ?_)
      exact hL127 20 _ _ _ _ _ _ _ h hI hL (lv_sub hl [1, 2, 3, 4, 5, 0] rfl)
    · replace h := it_n c3 h
      refine lv_aload_n hx hb dX8_make_119 rfl (lv_at hl 0 rfl) ?_
      replace h := ob_s h
      obtain ⟨f4, h5, h⟩ := h
      refine hm_get S hK hI (pf_X8_132_10 hK) (gI_s h5) dX8_make_120 ?_
      exact hm_iret hx hb hr hI hL h (by omega) (by omega) hlocks dX8_make_123
  have hJ109 : ∀ (v4 : Int32) (v5 : Int32) (w0 : Int32) (σ : hmS) (H : Heap) (locs : List Loc) (ls : Array Slot), fX8_make_J109 x0 x1 x2 x3  v4 v5 w0 σ = some (r, σ') → hmI E σ H → hmLo E locs → lv_has ls 8 [(0, .ref x0), (1, .int x1), (3, .int x3), (4, .int v4), (5, .int v5)] → W p l e R s m ([.ref x0, .int x1, .int x2, .int x3] : List Value).toArray below meth c H locs 0 0 (MQ below (hmQc E (some (.int r)) σ') ([.ref x0, .int x1, .int x2, .int x3] : List Value).toArray s 0 0 (fun q => hmL E ≤ q)) (F0 m 109 ls [.int w0, .ref x0]) := by
    intro v4 v5 w0 σ H locs ls h hI hL hl
    unfold fX8_make_J109 at h
    replace h := ob_s h
    obtain ⟨σ1, h2, h⟩ := h
    refine hm_put S hK hI hL (pf_X8_132_10 hK) h2 ⟨rfl, rfl⟩ dX8_make_109 (fun H locs hI hL => ?_)
    exact hJ112 _ _ _ _ _ _ h hI hL (lv_sub hl [0, 1, 2, 3, 4] rfl)
  have hJ62 : ∀ (v4 : Int32) (w0 : Int32) (σ : hmS) (H : Heap) (locs : List Loc) (ls : Array Slot), fX8_make_J62 x0 x1 x2 x3  v4 w0 σ = some (r, σ') → hmI E σ H → hmLo E locs → lv_has ls 8 [(0, .ref x0), (1, .int x1), (3, .int x3), (4, .int v4)] → W p l e R s m ([.ref x0, .int x1, .int x2, .int x3] : List Value).toArray below meth c H locs 0 0 (MQ below (hmQc E (some (.int r)) σ') ([.ref x0, .int x1, .int x2, .int x3] : List Value).toArray s 0 0 (fun q => hmL E ≤ q)) (F0 m 62 ls [.int w0]) := by
    intro v4 w0 σ H locs ls h hI hL hl
    unfold fX8_make_J62 at h
    refine lv_istore (lv' := [(5, .int w0), (0, .ref x0), (1, .int x1), (3, .int x3), (4, .int v4)]) hx hb dX8_make_62 hl (by decide) rfl (fun ls hl => ?_)
    refine lv_aload_n hx hb dX8_make_64 rfl (lv_at hl 1 rfl) ?_
    refine lv_iconst (v := 0) hx hb dX8_make_65 (by decide) ?_
    replace h := ob_s h
    obtain ⟨σ1, h2, h⟩ := h
    refine hm_put S hK hI hL (pf_X8_132_10 hK) h2 ⟨rfl, rfl⟩ dX8_make_66 (fun H locs hI hL => ?_)
    refine lv_aload_n hx hb dX8_make_69 rfl (lv_at hl 1 rfl) ?_
    refine lv_iload_n hx hb dX8_make_70 rfl (lv_at hl 2 rfl) ?_
    replace h := ob_s h
    obtain ⟨_, h4, h⟩ := h
    replace h := cb_s h
    obtain ⟨r6, σ5, h3, h⟩ := h
    refine hm_call (hm_runV (As := [.int x1]) (rest := []) (ci := 10) S hK hI (obC_s h4) rfl (mX8_isBound l E h3) (pm_X8_129 hK) (pi_X8_isBound hK) (pl_X8_X8_isBound hK) ⟨by omega, by omega⟩ rfl hl.1 (Nat.le_of_ble_eq_true rfl) ⟨by omega, by omega⟩ dX8_make_71) hL (fun H locs hI hL => ?_)
    refine lv_if_eq (tgt := 112) hx hb dX8_make_74 (by decide) (fun c7 => ?_) (fun c7 => ?_)
    · replace h := it_p c7 h
      exact hJ112 _ _ _ _ _ _ h hI hL (lv_sub hl [1, 2, 3, 4, 0] rfl)
    · replace h := it_n c7 h
      refine lv_aload_n hx hb dX8_make_77 rfl (lv_at hl 1 rfl) ?_
      refine lv_iload hx hb dX8_make_78 (lv_at hl 0 rfl) ?_
      refine lv_bipush (v := -3) hx hb dX8_make_80 (by decide) ?_
      refine lv_icmp_ne (tgt := 89) hx hb dX8_make_82 (by decide) (fun c8 => ?_) (fun c8 => ?_)
      · replace h := it_n c8 h
        refine lv_aload_n hx hb dX8_make_89 rfl (lv_at hl 1 rfl) ?_
        refine lv_iload hx hb dX8_make_90 (lv_at hl 0 rfl) ?_
        refine lv_aload_n hx hb dX8_make_92 rfl (lv_at hl 1 rfl) ?_
        replace h := ob_s h
        obtain ⟨f9, h10, h⟩ := h
        refine hm_get S hK hI (pf_X8_13_10 hK) (gR_s h10) dX8_make_93 ?_
        refine lv_iload_n hx hb dX8_make_96 rfl (lv_at hl 2 rfl) ?_
        replace h := ob_s h
        obtain ⟨a11, rfl, h⟩ := h
        have hl : lv_has ls 8 [(5, .int w0), (0, .ref x0), (1, .int x1), (3, .int x3), (4, .int v4)] := hl
        replace h := ob_s h
        obtain ⟨e12, h13, h⟩ := h
        refine hm_iald S hK hI h13 dX8_make_97 ?_
        replace h := ob_s h
        obtain ⟨_, h15, h⟩ := h
        replace h := cb_s h
        obtain ⟨r17, σ16, h14, h⟩ := h
        refine hm_call (hm_runV (As := [.int w0, .int e12]) (rest := [.ref x0]) (ci := 10) S hK hI (obC_s h15) rfl (mX8_isOf l E h14) (pm_X8_122 hK) (pi_X8_isOf hK) (pl_X8_X8_isOf hK) ⟨by omega, by omega⟩ rfl hl.1 (Nat.le_of_ble_eq_true rfl) ⟨by omega, by omega⟩ dX8_make_98) hL (fun H locs hI hL => ?_)
        refine lv_if_ne (tgt := 108) hx hb dX8_make_101 (by decide) (fun c18 => ?_) (fun c18 => ?_)
        · replace h := it_n c18 h
          refine lv_iconst (v := 0) hx hb dX8_make_108 (by decide) ?_
          exact hJ109 _ _ _ _ _ _ _ h hI hL (lv_sub hl [1, 2, 3, 4, 0] rfl)
        · replace h := it_p c18 h
          refine lv_iconst (v := 2) hx hb dX8_make_104 (by decide) ?_
          refine lv_goto (tgt := 109) hx hb dX8_make_105 (by decide) ?_
          exact hJ109 _ _ _ _ _ _ _ h hI hL (lv_sub hl [1, 2, 3, 4, 0] rfl)
      · replace h := it_p c8 h
        refine lv_iconst (v := 1) hx hb dX8_make_85 (by decide) ?_
        refine lv_goto (tgt := 109) hx hb dX8_make_86 (by decide) ?_
        exact hJ109 _ _ _ _ _ _ _ h hI hL (lv_sub hl [1, 2, 3, 4, 0] rfl)
  have hJ37 : ∀  (σ : hmS) (H : Heap) (locs : List Loc) (ls : Array Slot), fX8_make_J37 x0 x1 x2 x3   σ = some (r, σ') → hmI E σ H → hmLo E locs → lv_has ls 8 [(0, .ref x0), (1, .int x1), (2, .int x2), (3, .int x3)] → W p l e R s m ([.ref x0, .int x1, .int x2, .int x3] : List Value).toArray below meth c H locs 0 0 (MQ below (hmQc E (some (.int r)) σ') ([.ref x0, .int x1, .int x2, .int x3] : List Value).toArray s 0 0 (fun q => hmL E ≤ q)) (F0 m 37 ls []) := by
    intro  σ H locs ls h hI hL hl
    unfold fX8_make_J37 at h
    refine lv_aload_n hx hb dX8_make_37 rfl (lv_at hl 0 rfl) ?_
    replace h := ob_s h
    obtain ⟨f1, h2, h⟩ := h
    refine hm_get S hK hI (pf_X8_135_10 hK) (gI_s h2) dX8_make_38 ?_
    refine lv_istore (lv' := [(4, .int f1), (0, .ref x0), (1, .int x1), (2, .int x2), (3, .int x3)]) hx hb dX8_make_41 hl (by decide) rfl (fun ls hl => ?_)
    refine lv_aload_n hx hb dX8_make_43 rfl (lv_at hl 1 rfl) ?_
    refine lv_iload_n hx hb dX8_make_44 rfl (lv_at hl 2 rfl) ?_
    replace h := ob_s h
    obtain ⟨_, h4, h⟩ := h
    replace h := cb_s h
    obtain ⟨r6, σ5, h3, h⟩ := h
    refine hm_call (hm_runV (As := [.int x1]) (rest := []) (ci := 10) S hK hI (obC_s h4) rfl (mX8_isBound l E h3) (pm_X8_129 hK) (pi_X8_isBound hK) (pl_X8_X8_isBound hK) ⟨by omega, by omega⟩ rfl hl.1 (Nat.le_of_ble_eq_true rfl) ⟨by omega, by omega⟩ dX8_make_45) hL (fun H locs hI hL => ?_)
    refine lv_if_eq (tgt := 60) hx hb dX8_make_48 (by decide) (fun c7 => ?_) (fun c7 => ?_)
    · replace h := it_p c7 h
      refine lv_bipush (v := -3) hx hb dX8_make_60 (by decide) ?_
      exact hJ62 _ _ _ _ _ _ h hI hL (lv_sub hl [1, 2, 4, 0] rfl)
    · replace h := it_n c7 h
      refine lv_aload_n hx hb dX8_make_51 rfl (lv_at hl 1 rfl) ?_
      replace h := ob_s h
      obtain ⟨f8, h9, h⟩ := h
      refine hm_get S hK hI (pf_X8_72_10 hK) (gR_s h9) dX8_make_52 ?_
      refine lv_iload_n hx hb dX8_make_55 rfl (lv_at hl 3 rfl) ?_
      replace h := ob_s h
      obtain ⟨a10, rfl, h⟩ := h
      have hl : lv_has ls 8 [(4, .int f1), (0, .ref x0), (1, .int x1), (2, .int x2), (3, .int x3)] := hl
      replace h := ob_s h
      obtain ⟨e11, h12, h⟩ := h
      refine hm_iald S hK hI h12 dX8_make_56 ?_
      refine lv_goto (tgt := 62) hx hb dX8_make_57 (by decide) ?_
      exact hJ62 _ _ _ _ _ _ h hI hL (lv_sub hl [1, 2, 4, 0] rfl)
  have hJ30 : ∀  (σ : hmS) (H : Heap) (locs : List Loc) (ls : Array Slot), fX8_make_J30 x0 x1 x2 x3   σ = some (r, σ') → hmI E σ H → hmLo E locs → lv_has ls 8 [(0, .ref x0)] → W p l e R s m ([.ref x0, .int x1, .int x2, .int x3] : List Value).toArray below meth c H locs 0 0 (MQ below (hmQc E (some (.int r)) σ') ([.ref x0, .int x1, .int x2, .int x3] : List Value).toArray s 0 0 (fun q => hmL E ≤ q)) (F0 m 30 ls []) := by
    intro  σ H locs ls h hI hL hl
    unfold fX8_make_J30 at h
    refine lv_aload_n hx hb dX8_make_30 rfl (lv_at hl 0 rfl) ?_
    refine lv_iconst (v := -1) hx hb dX8_make_31 (by decide) ?_
    replace h := ob_s h
    obtain ⟨σ1, h2, h⟩ := h
    refine hm_put S hK hI hL (pf_X8_132_10 hK) h2 ⟨rfl, rfl⟩ dX8_make_32 (fun H locs hI hL => ?_)
    refine lv_iconst (v := -1) hx hb dX8_make_35 (by decide) ?_
    exact hm_iret hx hb hr hI hL h (by omega) (by omega) hlocks dX8_make_36
  have h := hmain
  clear hmain
  unfold fX8_make at h
  refine lv_aload_n hx hb dX8_make_0 rfl (lv_at hl 0 rfl) ?_
  refine lv_iload_n hx hb dX8_make_1 rfl (lv_at hl 1 rfl) ?_
  replace h := ob_s h
  obtain ⟨_, h2, h⟩ := h
  replace h := cb_s h
  obtain ⟨r4, σ3, h1, h⟩ := h
  refine hm_call (hm_runV (As := [.int x1]) (rest := []) (ci := 10) S hK hI (obC_s h2) rfl (mX8_isType l E h1) (pm_X8_98 hK) (pi_X8_isType hK) (pl_X8_X8_isType hK) ⟨by omega, by omega⟩ rfl hl.1 (Nat.le_of_ble_eq_true rfl) ⟨by omega, by omega⟩ dX8_make_2) hL (fun H locs hI hL => ?_)
  refine lv_if_eq (tgt := 30) hx hb dX8_make_5 (by decide) (fun c5 => ?_) (fun c5 => ?_)
  · replace h := it_p c5 h
    exact hJ30 _ _ _ _ h hI hL (lv_sub hl [0] rfl)
  · replace h := it_n c5 h
    refine lv_iload_n hx hb dX8_make_8 rfl (lv_at hl 3 rfl) ?_
    replace h := cb_s h
    obtain ⟨r8, σ7, h6, h⟩ := h
    refine hm_call (hm_runS (As := [.int x3]) (rest := []) S hK hI (mX8_isPlace l E h6) (pm_X8_126 hK) (ps_X8_isPlace hK) ⟨by omega, by omega⟩ rfl hl.1 (Nat.le_of_ble_eq_true rfl) ⟨by omega, by omega⟩ dX8_make_9) hL (fun H locs hI hL => ?_)
    refine lv_if_eq (tgt := 30) hx hb dX8_make_12 (by decide) (fun c9 => ?_) (fun c9 => ?_)
    · replace h := it_p c9 h
      exact hJ30 _ _ _ _ h hI hL (lv_sub hl [0] rfl)
    · replace h := it_n c9 h
      refine lv_aload_n hx hb dX8_make_15 rfl (lv_at hl 0 rfl) ?_
      refine lv_iload_n hx hb dX8_make_16 rfl (lv_at hl 1 rfl) ?_
      replace h := ob_s h
      obtain ⟨_, h11, h⟩ := h
      replace h := cb_s h
      obtain ⟨r13, σ12, h10, h⟩ := h
      refine hm_call (hm_runV (As := [.int x1]) (rest := []) (ci := 10) S hK hI (obC_s h11) rfl (mX8_isBound l E h10) (pm_X8_129 hK) (pi_X8_isBound hK) (pl_X8_X8_isBound hK) ⟨by omega, by omega⟩ rfl hl.1 (Nat.le_of_ble_eq_true rfl) ⟨by omega, by omega⟩ dX8_make_17) hL (fun H locs hI hL => ?_)
      refine lv_if_eq (tgt := 37) hx hb dX8_make_20 (by decide) (fun c14 => ?_) (fun c14 => ?_)
      · replace h := it_p c14 h
        exact hJ37 _ _ _ _ h hI hL (lv_sub hl [0, 1, 2, 3] rfl)
      · replace h := it_n c14 h
        refine lv_iload_n hx hb dX8_make_23 rfl (lv_at hl 2 rfl) ?_
        replace h := cb_s h
        obtain ⟨r17, σ16, h15, h⟩ := h
        refine hm_call (hm_runS (As := [.int x2]) (rest := []) S hK hI (mX8_isPlace l E h15) (pm_X8_126 hK) (ps_X8_isPlace hK) ⟨by omega, by omega⟩ rfl hl.1 (Nat.le_of_ble_eq_true rfl) ⟨by omega, by omega⟩ dX8_make_24) hL (fun H locs hI hL => ?_)
        refine lv_if_ne (tgt := 37) hx hb dX8_make_27 (by decide) (fun c18 => ?_) (fun c18 => ?_)
        · replace h := it_n c18 h
          exact hJ37 _ _ _ _ h hI hL (lv_sub hl [0, 1, 2, 3] rfl)
        · replace h := it_p c18 h
          exact hJ30 _ _ _ _ h hI hL (lv_sub hl [0] rfl)

def fX8_share (x0 : Nat) (x1 : Int32) (x2 : Int32) (σ : hmS) : Option (Int32 × hmS) :=
  cb (fX8_isPlace x1 σ) fun r3 σ2 => if r3 = 0 then
    some ((-1 : Int32), σ2)
  else
    cb (fX8_isPlace x2 σ2) fun r7 σ6 => if r7 = 0 then
      some ((-1 : Int32), σ6)
    else
      ob (gR σ6 x0 10 22) fun f9 => ob (gR σ6 x0 10 22) fun f11 => ob f11 fun a13 => ob (aI σ6 0 a13 x1) fun e14 => ob f9 fun a16 => ob (sI σ6 0 a16 x2 e14) fun σ17 => ob (gR σ17 x0 10 22) fun f19 => ob f19 fun a21 => ob (aI σ17 0 a21 x2) fun e22 => if e22 = (-3 : Int32) then
        some ((0 : Int32), σ17)
      else
        some ((1 : Int32), σ17)
set_option maxHeartbeats 4000000 in
set_option maxRecDepth 100000 in
theorem mX8_share (l : Launch) (E : hmG) {x0 : Nat} {x1 : Int32} {x2 : Int32} {σ σ' : hmS} {r : Int32} (h : fX8_share x0 x1 x2 σ = some (r, σ')) : Met l yX8_share [Cond.code yX8_share cX8_share 3 (some .int)] { frames := 2, cells := 0, slots := 0, locals := 42 } (hmPc E [.ref x0, .int x1, .int x2] σ) (hmQc E (some (.int r)) σ') 0 0 (fun q => hmL E ≤ q) := by
  refine Met.ofW (cc := cX8_share) (maxL := 3) (ret := (some .int)) (by decide) rfl ?_
  intro p e s m args below meth c s₁ B hml hv
  obtain ⟨rfl, hK, hI⟩ := hv
  have S : CallFix p m c cX8_share 3 s ([.ref x0, .int x1, .int x2] : List Value).toArray [] RX8 := ⟨B.exec, B.bytes, hml, findClass_of_methodNamed B.named, fun w hw => by cases hw⟩
  have hx := S.1
  have hb := S.2.1
  have hr := B.returns
  have hlocks := B.notSynchronized
  have hL : hmLo E [] := hmLo.nil
  have hl : lv_has ((lg_sl ([.ref x0, .int x1, .int x2]) ++ List.replicate (3 - (lg_sl ([.ref x0, .int x1, .int x2])).length) Slot.unset).toArray) 3 [(0, .ref x0), (1, .int x1), (2, .int x2)] := by exact lv_entry _ (Nat.le_of_ble_eq_true rfl)
  rw [lg_entry_eq]
  generalize (lg_sl ([.ref x0, .int x1, .int x2]) ++ List.replicate (3 - (lg_sl ([.ref x0, .int x1, .int x2])).length) Slot.unset).toArray = ls at hl ⊢
  generalize hRe : (headSpec [Cond.code yX8_share cX8_share 3 (some .int)] { frames := 2, cells := 0, slots := 0, locals := 42 }).room = R
  have hR1 : R.frames = 2 ∧ R.cells = 0 ∧ R.slots = 0 ∧ R.locals = 42 := by rw [← hRe]; exact ⟨rfl, rfl, rfl, rfl⟩
  clear hRe B hml
  generalize s.heap = H at hI ⊢
  generalize ([] : List Loc) = locs at hL ⊢
  have hmain := h
  clear h
  have h := hmain
  clear hmain
  unfold fX8_share at h
  refine lv_iload_n hx hb dX8_share_0 rfl (lv_at hl 1 rfl) ?_
  replace h := cb_s h
  obtain ⟨r3, σ2, h1, h⟩ := h
  refine hm_call (hm_runS (As := [.int x1]) (rest := []) S hK hI (mX8_isPlace l E h1) (pm_X8_126 hK) (ps_X8_isPlace hK) ⟨by omega, by omega⟩ rfl hl.1 (Nat.le_of_ble_eq_true rfl) ⟨by omega, by omega⟩ dX8_share_1) hL (fun H locs hI hL => ?_)
  refine lv_if_eq (tgt := 14) hx hb dX8_share_4 (by decide) (fun c4 => ?_) (fun c4 => ?_)
  · replace h := it_p c4 h
    refine lv_iconst (v := -1) hx hb dX8_share_14 (by decide) ?_
    exact hm_iret hx hb hr hI hL h (by omega) (by omega) hlocks dX8_share_15
  · replace h := it_n c4 h
    refine lv_iload_n hx hb dX8_share_7 rfl (lv_at hl 2 rfl) ?_
    replace h := cb_s h
    obtain ⟨r7, σ6, h5, h⟩ := h
    refine hm_call (hm_runS (As := [.int x2]) (rest := []) S hK hI (mX8_isPlace l E h5) (pm_X8_126 hK) (ps_X8_isPlace hK) ⟨by omega, by omega⟩ rfl hl.1 (Nat.le_of_ble_eq_true rfl) ⟨by omega, by omega⟩ dX8_share_8) hL (fun H locs hI hL => ?_)
    refine lv_if_ne (tgt := 16) hx hb dX8_share_11 (by decide) (fun c8 => ?_) (fun c8 => ?_)
    · replace h := it_n c8 h
      refine lv_aload_n hx hb dX8_share_16 rfl (lv_at hl 0 rfl) ?_
      replace h := ob_s h
      obtain ⟨f9, h10, h⟩ := h
      refine hm_get S hK hI (pf_X8_72_10 hK) (gR_s h10) dX8_share_17 ?_
      refine lv_iload_n hx hb dX8_share_20 rfl (lv_at hl 2 rfl) ?_
      refine lv_aload_n hx hb dX8_share_21 rfl (lv_at hl 0 rfl) ?_
      replace h := ob_s h
      obtain ⟨f11, h12, h⟩ := h
      refine hm_get S hK hI (pf_X8_72_10 hK) (gR_s h12) dX8_share_22 ?_
      refine lv_iload_n hx hb dX8_share_25 rfl (lv_at hl 1 rfl) ?_
      replace h := ob_s h
      obtain ⟨a13, rfl, h⟩ := h
      have hl : lv_has ls 3 [(0, .ref x0), (1, .int x1), (2, .int x2)] := hl
      replace h := ob_s h
      obtain ⟨e14, h15, h⟩ := h
      refine hm_iald S hK hI h15 dX8_share_26 ?_
      replace h := ob_s h
      obtain ⟨a16, rfl, h⟩ := h
      have hl : lv_has ls 3 [(0, .ref x0), (1, .int x1), (2, .int x2)] := hl
      replace h := ob_s h
      obtain ⟨σ17, h18, h⟩ := h
      refine hm_iast S hK hI hL h18 dX8_share_27 (fun H locs hI hL => ?_)
      refine lv_aload_n hx hb dX8_share_28 rfl (lv_at hl 0 rfl) ?_
      replace h := ob_s h
      obtain ⟨f19, h20, h⟩ := h
      refine hm_get S hK hI (pf_X8_72_10 hK) (gR_s h20) dX8_share_29 ?_
      refine lv_iload_n hx hb dX8_share_32 rfl (lv_at hl 2 rfl) ?_
      replace h := ob_s h
      obtain ⟨a21, rfl, h⟩ := h
      have hl : lv_has ls 3 [(0, .ref x0), (1, .int x1), (2, .int x2)] := hl
      replace h := ob_s h
      obtain ⟨e22, h23, h⟩ := h
      refine hm_iald S hK hI h23 dX8_share_33 ?_
      refine lv_bipush (v := -3) hx hb dX8_share_34 (by decide) ?_
      refine lv_icmp_ne (tgt := 43) hx hb dX8_share_36 (by decide) (fun c24 => ?_) (fun c24 => ?_)
      · replace h := it_n c24 h
        refine lv_iconst (v := 1) hx hb dX8_share_43 (by decide) ?_
        exact hm_iret hx hb hr hI hL h (by omega) (by omega) hlocks dX8_share_44
      · replace h := it_p c24 h
        refine lv_iconst (v := 0) hx hb dX8_share_39 (by decide) ?_
        refine lv_goto (tgt := 44) hx hb dX8_share_40 (by decide) ?_
        exact hm_iret hx hb hr hI hL h (by omega) (by omega) hlocks dX8_share_44
    · replace h := it_p c8 h
      refine lv_iconst (v := -1) hx hb dX8_share_14 (by decide) ?_
      exact hm_iret hx hb hr hI hL h (by omega) (by omega) hlocks dX8_share_15

def fX8_free_J25 (x0 : Nat) (x1 : Int32)  (w0 : Int32) (σ : hmS) : Option (Int32 × hmS) :=
  ob (gR σ x0 10 22) fun f1 => ob f1 fun a3 => ob (sI σ 0 a3 x1 (-3 : Int32)) fun σ4 => some (w0, σ4)
def fX8_free (x0 : Nat) (x1 : Int32) (σ : hmS) : Option (Int32 × hmS) :=
  cb (fX8_isPlace x1 σ) fun r3 σ2 => if r3 = 0 then
    some ((-1 : Int32), σ2)
  else
    ob (gR σ2 x0 10 22) fun f5 => ob f5 fun a7 => ob (aI σ2 0 a7 x1) fun e8 => if e8 = (-3 : Int32) then
      fX8_free_J25 x0 x1 (0 : Int32) σ2
    else
      fX8_free_J25 x0 x1 (1 : Int32) σ2
set_option maxHeartbeats 4000000 in
set_option maxRecDepth 100000 in
theorem mX8_free (l : Launch) (E : hmG) {x0 : Nat} {x1 : Int32} {σ σ' : hmS} {r : Int32} (h : fX8_free x0 x1 σ = some (r, σ')) : Met l yX8_free [Cond.code yX8_free cX8_free 3 (some .int)] { frames := 2, cells := 0, slots := 0, locals := 42 } (hmPc E [.ref x0, .int x1] σ) (hmQc E (some (.int r)) σ') 0 0 (fun q => hmL E ≤ q) := by
  refine Met.ofW (cc := cX8_free) (maxL := 3) (ret := (some .int)) (by decide) rfl ?_
  intro p e s m args below meth c s₁ B hml hv
  obtain ⟨rfl, hK, hI⟩ := hv
  have S : CallFix p m c cX8_free 3 s ([.ref x0, .int x1] : List Value).toArray [] RX8 := ⟨B.exec, B.bytes, hml, findClass_of_methodNamed B.named, fun w hw => by cases hw⟩
  have hx := S.1
  have hb := S.2.1
  have hr := B.returns
  have hlocks := B.notSynchronized
  have hL : hmLo E [] := hmLo.nil
  have hl : lv_has ((lg_sl ([.ref x0, .int x1]) ++ List.replicate (3 - (lg_sl ([.ref x0, .int x1])).length) Slot.unset).toArray) 3 [(0, .ref x0), (1, .int x1)] := by exact lv_entry _ (Nat.le_of_ble_eq_true rfl)
  rw [lg_entry_eq]
  generalize (lg_sl ([.ref x0, .int x1]) ++ List.replicate (3 - (lg_sl ([.ref x0, .int x1])).length) Slot.unset).toArray = ls at hl ⊢
  generalize hRe : (headSpec [Cond.code yX8_free cX8_free 3 (some .int)] { frames := 2, cells := 0, slots := 0, locals := 42 }).room = R
  have hR1 : R.frames = 2 ∧ R.cells = 0 ∧ R.slots = 0 ∧ R.locals = 42 := by rw [← hRe]; exact ⟨rfl, rfl, rfl, rfl⟩
  clear hRe B hml
  generalize s.heap = H at hI ⊢
  generalize ([] : List Loc) = locs at hL ⊢
  have hmain := h
  clear h
  have hJ25 : ∀ (w0 : Int32) (σ : hmS) (H : Heap) (locs : List Loc) (ls : Array Slot), fX8_free_J25 x0 x1  w0 σ = some (r, σ') → hmI E σ H → hmLo E locs → lv_has ls 3 [(0, .ref x0), (1, .int x1)] → W p l e R s m ([.ref x0, .int x1] : List Value).toArray below meth c H locs 0 0 (MQ below (hmQc E (some (.int r)) σ') ([.ref x0, .int x1] : List Value).toArray s 0 0 (fun q => hmL E ≤ q)) (F0 m 25 ls [.int w0]) := by
    intro w0 σ H locs ls h hI hL hl
    unfold fX8_free_J25 at h
    refine lv_istore_n (lv' := [(2, .int w0), (0, .ref x0), (1, .int x1)]) hx hb dX8_free_25 rfl hl (by decide) rfl (fun ls hl => ?_)
    refine lv_aload_n hx hb dX8_free_26 rfl (lv_at hl 1 rfl) ?_
    replace h := ob_s h
    obtain ⟨f1, h2, h⟩ := h
    refine hm_get S hK hI (pf_X8_72_10 hK) (gR_s h2) dX8_free_27 ?_
    refine lv_iload_n hx hb dX8_free_30 rfl (lv_at hl 2 rfl) ?_
    refine lv_bipush (v := -3) hx hb dX8_free_31 (by decide) ?_
    replace h := ob_s h
    obtain ⟨a3, rfl, h⟩ := h
    have hl : lv_has ls 3 [(2, .int w0), (0, .ref x0), (1, .int x1)] := hl
    replace h := ob_s h
    obtain ⟨σ4, h5, h⟩ := h
    refine hm_iast S hK hI hL h5 dX8_free_33 (fun H locs hI hL => ?_)
    refine lv_iload_n hx hb dX8_free_34 rfl (lv_at hl 0 rfl) ?_
    exact hm_iret hx hb hr hI hL h (by omega) (by omega) hlocks dX8_free_35
  have h := hmain
  clear hmain
  unfold fX8_free at h
  refine lv_iload_n hx hb dX8_free_0 rfl (lv_at hl 1 rfl) ?_
  replace h := cb_s h
  obtain ⟨r3, σ2, h1, h⟩ := h
  refine hm_call (hm_runS (As := [.int x1]) (rest := []) S hK hI (mX8_isPlace l E h1) (pm_X8_126 hK) (ps_X8_isPlace hK) ⟨by omega, by omega⟩ rfl hl.1 (Nat.le_of_ble_eq_true rfl) ⟨by omega, by omega⟩ dX8_free_1) hL (fun H locs hI hL => ?_)
  refine lv_if_ne (tgt := 9) hx hb dX8_free_4 (by decide) (fun c4 => ?_) (fun c4 => ?_)
  · replace h := it_n c4 h
    refine lv_aload_n hx hb dX8_free_9 rfl (lv_at hl 0 rfl) ?_
    replace h := ob_s h
    obtain ⟨f5, h6, h⟩ := h
    refine hm_get S hK hI (pf_X8_72_10 hK) (gR_s h6) dX8_free_10 ?_
    refine lv_iload_n hx hb dX8_free_13 rfl (lv_at hl 1 rfl) ?_
    replace h := ob_s h
    obtain ⟨a7, rfl, h⟩ := h
    have hl : lv_has ls 3 [(0, .ref x0), (1, .int x1)] := hl
    replace h := ob_s h
    obtain ⟨e8, h9, h⟩ := h
    refine hm_iald S hK hI h9 dX8_free_14 ?_
    refine lv_bipush (v := -3) hx hb dX8_free_15 (by decide) ?_
    refine lv_icmp_ne (tgt := 24) hx hb dX8_free_17 (by decide) (fun c10 => ?_) (fun c10 => ?_)
    · replace h := it_n c10 h
      refine lv_iconst (v := 1) hx hb dX8_free_24 (by decide) ?_
      exact hJ25 _ _ _ _ _ h hI hL (lv_sub hl [0, 1] rfl)
    · replace h := it_p c10 h
      refine lv_iconst (v := 0) hx hb dX8_free_20 (by decide) ?_
      refine lv_goto (tgt := 25) hx hb dX8_free_21 (by decide) ?_
      exact hJ25 _ _ _ _ _ h hI hL (lv_sub hl [0, 1] rfl)
  · replace h := it_p c4 h
    refine lv_iconst (v := -1) hx hb dX8_free_7 (by decide) ?_
    exact hm_iret hx hb hr hI hL h (by omega) (by omega) hlocks dX8_free_8

def fX8_about_J146 (x0 : Nat) (x1 : Int32) (x2 : Int32) (K122 : Int32 → Int32 → Int32 → hmS → Option (Int32 × hmS)) (v3 : Int32) (v6 : Int32) (w0 : Int32) (w1 : Int32) (σ : hmS) : Option (Int32 × hmS) :=
  K122 v3 (w1 + w0) (v6 + (1 : Int32)) σ
def fX8_about_B122 (x0 : Nat) (x1 : Int32) (x2 : Int32)  (K122 : Int32 → Int32 → Int32 → hmS → Option (Int32 × hmS)) (v3 : Int32) (v5 : Int32) (v6 : Int32) (σ : hmS) : Option (Int32 × hmS) :=
  if (12 : Int32) ≤ v6 then
    some (v5, σ)
  else
    ob (obC σ x0 10) fun _ => cb (fX8_isOf x0 v3 v6 σ) fun r5 σ4 => if r5 = 0 then
      fX8_about_J146 x0 x1 x2 K122 v3 v6 (0 : Int32) v5 σ4
    else
      fX8_about_J146 x0 x1 x2 K122 v3 v6 (1 : Int32) v5 σ4
def fX8_about_L122 (x0 : Nat) (x1 : Int32) (x2 : Int32)  : Nat → Int32 → Int32 → Int32 → hmS → Option (Int32 × hmS)
  | 0 => fun _ _ _ _ => none
  | n + 1 => fX8_about_B122 x0 x1 x2  (fX8_about_L122 x0 x1 x2  n)
def fX8_about (x0 : Nat) (x1 : Int32) (x2 : Int32) (σ : hmS) : Option (Int32 × hmS) :=
  cb (fX8_isPlace x1 σ) fun r3 σ2 => if r3 = 0 then
    some ((-1 : Int32), σ2)
  else
    cb (fX8_in x2 (0 : Int32) (3 : Int32) σ2) fun r7 σ6 => if r7 = 0 then
      some ((-1 : Int32), σ6)
    else
      ob (gR σ6 x0 10 22) fun f9 => ob f9 fun a11 => ob (aI σ6 0 a11 x1) fun e12 => if e12 = (-3 : Int32) then
        some ((-3 : Int32), σ6)
      else
        ob (gR σ6 x0 10 17) fun f15 => ob f15 fun a17 => ob (aI σ6 0 a17 e12) fun e18 => if x2 = 0 then
          some (e18, σ6)
        else
          if x2 = (2 : Int32) then
            ob (gR σ6 x0 10 19) fun f34 => ob f34 fun a36 => ob (aI σ6 0 a36 (((12 : Int32) * e12) + e18)) fun e37 => if e37 = (-3 : Int32) then
              some ((-3 : Int32), σ6)
            else
              ob (gR σ6 x0 10 17) fun f40 => ob f40 fun a42 => ob (aI σ6 0 a42 e37) fun e43 => some (e43, σ6)
          else
            if x2 = (3 : Int32) then
              ob (gR σ6 x0 10 1) fun f23 => ob f23 fun a25 => ob (aI σ6 0 a25 e18) fun e26 => if e26 = (4 : Int32) then
                some ((0 : Int32), σ6)
              else
                ob (gR σ6 x0 10 5) fun f29 => ob f29 fun a31 => ob (aI σ6 0 a31 e18) fun e32 => some (e32, σ6)
            else
              fX8_about_L122 x0 x1 x2 20 e12 (0 : Int32) (0 : Int32) σ6
set_option maxHeartbeats 4000000 in
set_option maxRecDepth 100000 in
theorem mX8_about (l : Launch) (E : hmG) {x0 : Nat} {x1 : Int32} {x2 : Int32} {σ σ' : hmS} {r : Int32} (h : fX8_about x0 x1 x2 σ = some (r, σ')) : Met l yX8_about [Cond.code yX8_about cX8_about 7 (some .int)] { frames := 2, cells := 0, slots := 0, locals := 42 } (hmPc E [.ref x0, .int x1, .int x2] σ) (hmQc E (some (.int r)) σ') 0 0 (fun q => hmL E ≤ q) := by
  refine Met.ofW (cc := cX8_about) (maxL := 7) (ret := (some .int)) (by decide) rfl ?_
  intro p e s m args below meth c s₁ B hml hv
  obtain ⟨rfl, hK, hI⟩ := hv
  have S : CallFix p m c cX8_about 7 s ([.ref x0, .int x1, .int x2] : List Value).toArray [] RX8 := ⟨B.exec, B.bytes, hml, findClass_of_methodNamed B.named, fun w hw => by cases hw⟩
  have hx := S.1
  have hb := S.2.1
  have hr := B.returns
  have hlocks := B.notSynchronized
  have hL : hmLo E [] := hmLo.nil
  have hl : lv_has ((lg_sl ([.ref x0, .int x1, .int x2]) ++ List.replicate (7 - (lg_sl ([.ref x0, .int x1, .int x2])).length) Slot.unset).toArray) 7 [(0, .ref x0), (1, .int x1), (2, .int x2)] := by exact lv_entry _ (Nat.le_of_ble_eq_true rfl)
  rw [lg_entry_eq]
  generalize (lg_sl ([.ref x0, .int x1, .int x2]) ++ List.replicate (7 - (lg_sl ([.ref x0, .int x1, .int x2])).length) Slot.unset).toArray = ls at hl ⊢
  generalize hRe : (headSpec [Cond.code yX8_about cX8_about 7 (some .int)] { frames := 2, cells := 0, slots := 0, locals := 42 }).room = R
  have hR1 : R.frames = 2 ∧ R.cells = 0 ∧ R.slots = 0 ∧ R.locals = 42 := by rw [← hRe]; exact ⟨rfl, rfl, rfl, rfl⟩
  clear hRe B hml
  generalize s.heap = H at hI ⊢
  generalize ([] : List Loc) = locs at hL ⊢
  have hmain := h
  clear h
  have hB122 : ∀ (K122 : Int32 → Int32 → Int32 → hmS → Option (Int32 × hmS)), (∀ (v3 : Int32) (v5 : Int32) (v6 : Int32) (σ : hmS) (H : Heap) (locs : List Loc) (ls : Array Slot), K122 v3 v5 v6 σ = some (r, σ') → hmI E σ H → hmLo E locs → lv_has ls 7 [(0, .ref x0), (3, .int v3), (5, .int v5), (6, .int v6)] → W p l e R s m ([.ref x0, .int x1, .int x2] : List Value).toArray below meth c H locs 0 0 (MQ below (hmQc E (some (.int r)) σ') ([.ref x0, .int x1, .int x2] : List Value).toArray s 0 0 (fun q => hmL E ≤ q)) (F0 m 122 ls [])) → ∀ (v3 : Int32) (v5 : Int32) (v6 : Int32) (σ : hmS) (H : Heap) (locs : List Loc) (ls : Array Slot), fX8_about_B122 x0 x1 x2  K122 v3 v5 v6 σ = some (r, σ') → hmI E σ H → hmLo E locs → lv_has ls 7 [(0, .ref x0), (3, .int v3), (5, .int v5), (6, .int v6)] → W p l e R s m ([.ref x0, .int x1, .int x2] : List Value).toArray below meth c H locs 0 0 (MQ below (hmQc E (some (.int r)) σ') ([.ref x0, .int x1, .int x2] : List Value).toArray s 0 0 (fun q => hmL E ≤ q)) (F0 m 122 ls []) := by
    intro K122 hk122
    have hJ146 : ∀ (v3 : Int32) (v6 : Int32) (w0 : Int32) (w1 : Int32) (σ : hmS) (H : Heap) (locs : List Loc) (ls : Array Slot), fX8_about_J146 x0 x1 x2 K122 v3 v6 w0 w1 σ = some (r, σ') → hmI E σ H → hmLo E locs → lv_has ls 7 [(0, .ref x0), (3, .int v3), (6, .int v6)] → W p l e R s m ([.ref x0, .int x1, .int x2] : List Value).toArray below meth c H locs 0 0 (MQ below (hmQc E (some (.int r)) σ') ([.ref x0, .int x1, .int x2] : List Value).toArray s 0 0 (fun q => hmL E ≤ q)) (F0 m 146 ls [.int w0, .int w1]) := by
      intro v3 v6 w0 w1 σ H locs ls h hI hL hl
      unfold fX8_about_J146 at h
      refine lv_iadd hx hb dX8_about_146 ?_
      refine lv_istore (lv' := [(5, .int (w1 + w0)), (0, .ref x0), (3, .int v3), (6, .int v6)]) hx hb dX8_about_147 hl (by decide) rfl (fun ls hl => ?_)
      refine lv_iinc (v := (v6 + (1 : Int32))) (lv' := [(6, .int (v6 + (1 : Int32))), (5, .int (w1 + w0)), (0, .ref x0), (3, .int v3)]) hx hb dX8_about_149 hl (k := 3) rfl rfl (by decide) rfl (fun ls hl => ?_)
      refine lv_goto (tgt := 122) hx hb dX8_about_152 (by decide) ?_
      exact hk122 _ _ _ _ _ _ _ h hI hL (lv_sub hl [2, 3, 1, 0] rfl)
    intro v3 v5 v6 σ H locs ls h hI hL hl
    unfold fX8_about_B122 at h
    refine lv_iload hx hb dX8_about_122 (lv_at hl 3 rfl) ?_
    refine lv_bipush (v := 12) hx hb dX8_about_124 (by decide) ?_
    refine lv_icmp_ge (tgt := 155) hx hb dX8_about_126 (by decide) (fun c1 => ?_) (fun c1 => ?_)
    · replace h := it_p c1 h
      refine lv_iload hx hb dX8_about_155 (lv_at hl 2 rfl) ?_
      exact hm_iret hx hb hr hI hL h (by omega) (by omega) hlocks dX8_about_157
    · replace h := it_n c1 h
      refine lv_iload hx hb dX8_about_129 (lv_at hl 2 rfl) ?_
      refine lv_aload_n hx hb dX8_about_131 rfl (lv_at hl 0 rfl) ?_
      refine lv_iload_n hx hb dX8_about_132 rfl (lv_at hl 1 rfl) ?_
      refine lv_iload hx hb dX8_about_133 (lv_at hl 3 rfl) ?_
      replace h := ob_s h
      obtain ⟨_, h3, h⟩ := h
      replace h := cb_s h
      obtain ⟨r5, σ4, h2, h⟩ := h
      refine hm_call (hm_runV (As := [.int v3, .int v6]) (rest := [.int v5]) (ci := 10) S hK hI (obC_s h3) rfl (mX8_isOf l E h2) (pm_X8_122 hK) (pi_X8_isOf hK) (pl_X8_X8_isOf hK) ⟨by omega, by omega⟩ rfl hl.1 (Nat.le_of_ble_eq_true rfl) ⟨by omega, by omega⟩ dX8_about_135) hL (fun H locs hI hL => ?_)
      refine lv_if_eq (tgt := 145) hx hb dX8_about_138 (by decide) (fun c6 => ?_) (fun c6 => ?_)
      · replace h := it_p c6 h
        refine lv_iconst (v := 0) hx hb dX8_about_145 (by decide) ?_
        exact hJ146 _ _ _ _ _ _ _ _ h hI hL (lv_sub hl [0, 1, 3] rfl)
      · replace h := it_n c6 h
        refine lv_iconst (v := 1) hx hb dX8_about_141 (by decide) ?_
        refine lv_goto (tgt := 146) hx hb dX8_about_142 (by decide) ?_
        exact hJ146 _ _ _ _ _ _ _ _ h hI hL (lv_sub hl [0, 1, 3] rfl)
  have hL122 : ∀ n : Nat, ∀ (v3 : Int32) (v5 : Int32) (v6 : Int32) (σ : hmS) (H : Heap) (locs : List Loc) (ls : Array Slot), fX8_about_L122 x0 x1 x2  n v3 v5 v6 σ = some (r, σ') → hmI E σ H → hmLo E locs → lv_has ls 7 [(0, .ref x0), (3, .int v3), (5, .int v5), (6, .int v6)] → W p l e R s m ([.ref x0, .int x1, .int x2] : List Value).toArray below meth c H locs 0 0 (MQ below (hmQc E (some (.int r)) σ') ([.ref x0, .int x1, .int x2] : List Value).toArray s 0 0 (fun q => hmL E ≤ q)) (F0 m 122 ls []) := by
    intro n
    induction n with
    | zero =>
      intro v3 v5 v6 σ H locs ls h
      have h : none = some (r, σ') := h
      cases h
    | succ n ih => exact hB122 _ ih
  have h := hmain
  clear hmain
  unfold fX8_about at h
  refine lv_iload_n hx hb dX8_about_0 rfl (lv_at hl 1 rfl) ?_
  replace h := cb_s h
  obtain ⟨r3, σ2, h1, h⟩ := h
  refine hm_call (hm_runS (As := [.int x1]) (rest := []) S hK hI (mX8_isPlace l E h1) (pm_X8_126 hK) (ps_X8_isPlace hK) ⟨by omega, by omega⟩ rfl hl.1 (Nat.le_of_ble_eq_true rfl) ⟨by omega, by omega⟩ dX8_about_1) hL (fun H locs hI hL => ?_)
  refine lv_if_eq (tgt := 16) hx hb dX8_about_4 (by decide) (fun c4 => ?_) (fun c4 => ?_)
  · replace h := it_p c4 h
    refine lv_iconst (v := -1) hx hb dX8_about_16 (by decide) ?_
    exact hm_iret hx hb hr hI hL h (by omega) (by omega) hlocks dX8_about_17
  · replace h := it_n c4 h
    refine lv_iload_n hx hb dX8_about_7 rfl (lv_at hl 2 rfl) ?_
    refine lv_iconst (v := 0) hx hb dX8_about_8 (by decide) ?_
    refine lv_iconst (v := 3) hx hb dX8_about_9 (by decide) ?_
    replace h := cb_s h
    obtain ⟨r7, σ6, h5, h⟩ := h
    refine hm_call (hm_runS (As := [.int x2, .int (0 : Int32), .int (3 : Int32)]) (rest := []) S hK hI (mX8_in l E h5) (pm_X8_94 hK) (ps_X8_in hK) ⟨by omega, by omega⟩ rfl hl.1 (Nat.le_of_ble_eq_true rfl) ⟨by omega, by omega⟩ dX8_about_10) hL (fun H locs hI hL => ?_)
    refine lv_if_ne (tgt := 18) hx hb dX8_about_13 (by decide) (fun c8 => ?_) (fun c8 => ?_)
    · replace h := it_n c8 h
      refine lv_aload_n hx hb dX8_about_18 rfl (lv_at hl 0 rfl) ?_
      replace h := ob_s h
      obtain ⟨f9, h10, h⟩ := h
      refine hm_get S hK hI (pf_X8_72_10 hK) (gR_s h10) dX8_about_19 ?_
      refine lv_iload_n hx hb dX8_about_22 rfl (lv_at hl 1 rfl) ?_
      replace h := ob_s h
      obtain ⟨a11, rfl, h⟩ := h
      have hl : lv_has ls 7 [(0, .ref x0), (1, .int x1), (2, .int x2)] := hl
      replace h := ob_s h
      obtain ⟨e12, h13, h⟩ := h
      refine hm_iald S hK hI h13 dX8_about_23 ?_
      refine lv_istore_n (lv' := [(3, .int e12), (0, .ref x0), (1, .int x1), (2, .int x2)]) hx hb dX8_about_24 rfl hl (by decide) rfl (fun ls hl => ?_)
      refine lv_iload_n hx hb dX8_about_25 rfl (lv_at hl 0 rfl) ?_
      refine lv_bipush (v := -3) hx hb dX8_about_26 (by decide) ?_
      refine lv_icmp_ne (tgt := 34) hx hb dX8_about_28 (by decide) (fun c14 => ?_) (fun c14 => ?_)
      · replace h := it_n c14 h
        refine lv_aload_n hx hb dX8_about_34 rfl (lv_at hl 1 rfl) ?_
        replace h := ob_s h
        obtain ⟨f15, h16, h⟩ := h
        refine hm_get S hK hI (pf_X8_57_10 hK) (gR_s h16) dX8_about_35 ?_
        refine lv_iload_n hx hb dX8_about_38 rfl (lv_at hl 0 rfl) ?_
        replace h := ob_s h
        obtain ⟨a17, rfl, h⟩ := h
        have hl : lv_has ls 7 [(3, .int e12), (0, .ref x0), (1, .int x1), (2, .int x2)] := hl
        replace h := ob_s h
        obtain ⟨e18, h19, h⟩ := h
        refine hm_iald S hK hI h19 dX8_about_39 ?_
        refine lv_istore (lv' := [(4, .int e18), (3, .int e12), (0, .ref x0), (1, .int x1), (2, .int x2)]) hx hb dX8_about_40 hl (by decide) rfl (fun ls hl => ?_)
        refine lv_iload_n hx hb dX8_about_42 rfl (lv_at hl 4 rfl) ?_
        refine lv_if_ne (tgt := 49) hx hb dX8_about_43 (by decide) (fun c20 => ?_) (fun c20 => ?_)
        · replace h := it_n c20 h
          refine lv_iload_n hx hb dX8_about_49 rfl (lv_at hl 4 rfl) ?_
          refine lv_iconst (v := 2) hx hb dX8_about_50 (by decide) ?_
          refine lv_icmp_ne (tgt := 88) hx hb dX8_about_51 (by decide) (fun c21 => ?_) (fun c21 => ?_)
          · replace h := it_n c21 h
            refine lv_iload_n hx hb dX8_about_88 rfl (lv_at hl 4 rfl) ?_
            refine lv_iconst (v := 3) hx hb dX8_about_89 (by decide) ?_
            refine lv_icmp_ne (tgt := 116) hx hb dX8_about_90 (by decide) (fun c22 => ?_) (fun c22 => ?_)
            · replace h := it_n c22 h
              refine lv_iconst (v := 0) hx hb dX8_about_116 (by decide) ?_
              refine lv_istore (lv' := [(5, .int (0 : Int32)), (4, .int e18), (3, .int e12), (0, .ref x0), (1, .int x1), (2, .int x2)]) hx hb dX8_about_117 hl (by decide) rfl (fun ls hl => ?_)
              refine lv_iconst (v := 0) hx hb dX8_about_119 (by decide) ?_
              refine lv_istore (lv' := [(6, .int (0 : Int32)), (5, .int (0 : Int32)), (4, .int e18), (3, .int e12), (0, .ref x0), (1, .int x1), (2, .int x2)]) hx hb dX8_about_120 hl (by decide) rfl (fun ls hl => ?_)
              exact hL122 20 _ _ _ _ _ _ _ h hI hL (lv_sub hl [4, 3, 1, 0] rfl)
            · replace h := it_p c22 h
              refine lv_aload_n hx hb dX8_about_93 rfl (lv_at hl 2 rfl) ?_
              replace h := ob_s h
              obtain ⟨f23, h24, h⟩ := h
              refine hm_get S hK hI (pf_X8_7_10 hK) (gR_s h24) dX8_about_94 ?_
              refine lv_iload hx hb dX8_about_97 (lv_at hl 0 rfl) ?_
              replace h := ob_s h
              obtain ⟨a25, rfl, h⟩ := h
              have hl : lv_has ls 7 [(4, .int e18), (3, .int e12), (0, .ref x0), (1, .int x1), (2, .int x2)] := hl
              replace h := ob_s h
              obtain ⟨e26, h27, h⟩ := h
              refine hm_iald S hK hI h27 dX8_about_99 ?_
              refine lv_iconst (v := 4) hx hb dX8_about_100 (by decide) ?_
              refine lv_icmp_ne (tgt := 108) hx hb dX8_about_101 (by decide) (fun c28 => ?_) (fun c28 => ?_)
              · replace h := it_n c28 h
                refine lv_aload_n hx hb dX8_about_108 rfl (lv_at hl 2 rfl) ?_
                replace h := ob_s h
                obtain ⟨f29, h30, h⟩ := h
                refine hm_get S hK hI (pf_X8_22_10 hK) (gR_s h30) dX8_about_109 ?_
                refine lv_iload hx hb dX8_about_112 (lv_at hl 0 rfl) ?_
                replace h := ob_s h
                obtain ⟨a31, rfl, h⟩ := h
                have hl : lv_has ls 7 [(4, .int e18), (3, .int e12), (0, .ref x0), (1, .int x1), (2, .int x2)] := hl
                replace h := ob_s h
                obtain ⟨e32, h33, h⟩ := h
                refine hm_iald S hK hI h33 dX8_about_114 ?_
                exact hm_iret hx hb hr hI hL h (by omega) (by omega) hlocks dX8_about_115
              · replace h := it_p c28 h
                refine lv_iconst (v := 0) hx hb dX8_about_104 (by decide) ?_
                refine lv_goto (tgt := 115) hx hb dX8_about_105 (by decide) ?_
                exact hm_iret hx hb hr hI hL h (by omega) (by omega) hlocks dX8_about_115
          · replace h := it_p c21 h
            refine lv_aload_n hx hb dX8_about_54 rfl (lv_at hl 2 rfl) ?_
            replace h := ob_s h
            obtain ⟨f34, h35, h⟩ := h
            refine hm_get S hK hI (pf_X8_63_10 hK) (gR_s h35) dX8_about_55 ?_
            refine lv_bipush (v := 12) hx hb dX8_about_58 (by decide) ?_
            refine lv_iload_n hx hb dX8_about_60 rfl (lv_at hl 1 rfl) ?_
            refine lv_imul hx hb dX8_about_61 ?_
            refine lv_iload hx hb dX8_about_62 (lv_at hl 0 rfl) ?_
            refine lv_iadd hx hb dX8_about_64 ?_
            replace h := ob_s h
            obtain ⟨a36, rfl, h⟩ := h
            have hl : lv_has ls 7 [(4, .int e18), (3, .int e12), (0, .ref x0), (1, .int x1), (2, .int x2)] := hl
            replace h := ob_s h
            obtain ⟨e37, h38, h⟩ := h
            refine hm_iald S hK hI h38 dX8_about_65 ?_
            refine lv_istore (lv' := [(5, .int e37), (4, .int e18), (3, .int e12), (0, .ref x0), (1, .int x1), (2, .int x2)]) hx hb dX8_about_66 hl (by decide) rfl (fun ls hl => ?_)
            refine lv_iload hx hb dX8_about_68 (lv_at hl 0 rfl) ?_
            refine lv_bipush (v := -3) hx hb dX8_about_70 (by decide) ?_
            refine lv_icmp_ne (tgt := 80) hx hb dX8_about_72 (by decide) (fun c39 => ?_) (fun c39 => ?_)
            · replace h := it_n c39 h
              refine lv_aload_n hx hb dX8_about_80 rfl (lv_at hl 3 rfl) ?_
              replace h := ob_s h
              obtain ⟨f40, h41, h⟩ := h
              refine hm_get S hK hI (pf_X8_57_10 hK) (gR_s h41) dX8_about_81 ?_
              refine lv_iload hx hb dX8_about_84 (lv_at hl 0 rfl) ?_
              replace h := ob_s h
              obtain ⟨a42, rfl, h⟩ := h
              have hl : lv_has ls 7 [(5, .int e37), (4, .int e18), (3, .int e12), (0, .ref x0), (1, .int x1), (2, .int x2)] := hl
              replace h := ob_s h
              obtain ⟨e43, h44, h⟩ := h
              refine hm_iald S hK hI h44 dX8_about_86 ?_
              exact hm_iret hx hb hr hI hL h (by omega) (by omega) hlocks dX8_about_87
            · replace h := it_p c39 h
              refine lv_bipush (v := -3) hx hb dX8_about_75 (by decide) ?_
              refine lv_goto (tgt := 87) hx hb dX8_about_77 (by decide) ?_
              exact hm_iret hx hb hr hI hL h (by omega) (by omega) hlocks dX8_about_87
        · replace h := it_p c20 h
          refine lv_iload hx hb dX8_about_46 (lv_at hl 0 rfl) ?_
          exact hm_iret hx hb hr hI hL h (by omega) (by omega) hlocks dX8_about_48
      · replace h := it_p c14 h
        refine lv_bipush (v := -3) hx hb dX8_about_31 (by decide) ?_
        exact hm_iret hx hb hr hI hL h (by omega) (by omega) hlocks dX8_about_33
    · replace h := it_p c8 h
      refine lv_iconst (v := -1) hx hb dX8_about_16 (by decide) ?_
      exact hm_iret hx hb hr hI hL h (by omega) (by omega) hlocks dX8_about_17

def fX8_same_J14 (x0 : Nat) (x1 : Int32) (x2 : Int32)   (σ : hmS) : Option (Int32 × hmS) :=
  some ((-1 : Int32), σ)
def fX8_same (x0 : Nat) (x1 : Int32) (x2 : Int32) (σ : hmS) : Option (Int32 × hmS) :=
  cb (fX8_isPlace x1 σ) fun r3 σ2 => if r3 = 0 then
    fX8_same_J14 x0 x1 x2 σ2
  else
    cb (fX8_isPlace x2 σ2) fun r7 σ6 => if r7 = 0 then
      fX8_same_J14 x0 x1 x2 σ6
    else
      ob (gR σ6 x0 10 22) fun f9 => ob f9 fun a11 => ob (aI σ6 0 a11 x1) fun e12 => ob (gR σ6 x0 10 22) fun f14 => ob f14 fun a16 => ob (aI σ6 0 a16 x2) fun e17 => if e12 = e17 then
        some ((1 : Int32), σ6)
      else
        some ((0 : Int32), σ6)
set_option maxHeartbeats 4000000 in
set_option maxRecDepth 100000 in
theorem mX8_same (l : Launch) (E : hmG) {x0 : Nat} {x1 : Int32} {x2 : Int32} {σ σ' : hmS} {r : Int32} (h : fX8_same x0 x1 x2 σ = some (r, σ')) : Met l yX8_same [Cond.code yX8_same cX8_same 3 (some .int)] { frames := 2, cells := 0, slots := 0, locals := 42 } (hmPc E [.ref x0, .int x1, .int x2] σ) (hmQc E (some (.int r)) σ') 0 0 (fun q => hmL E ≤ q) := by
  refine Met.ofW (cc := cX8_same) (maxL := 3) (ret := (some .int)) (by decide) rfl ?_
  intro p e s m args below meth c s₁ B hml hv
  obtain ⟨rfl, hK, hI⟩ := hv
  have S : CallFix p m c cX8_same 3 s ([.ref x0, .int x1, .int x2] : List Value).toArray [] RX8 := ⟨B.exec, B.bytes, hml, findClass_of_methodNamed B.named, fun w hw => by cases hw⟩
  have hx := S.1
  have hb := S.2.1
  have hr := B.returns
  have hlocks := B.notSynchronized
  have hL : hmLo E [] := hmLo.nil
  have hl : lv_has ((lg_sl ([.ref x0, .int x1, .int x2]) ++ List.replicate (3 - (lg_sl ([.ref x0, .int x1, .int x2])).length) Slot.unset).toArray) 3 [(0, .ref x0), (1, .int x1), (2, .int x2)] := by exact lv_entry _ (Nat.le_of_ble_eq_true rfl)
  rw [lg_entry_eq]
  generalize (lg_sl ([.ref x0, .int x1, .int x2]) ++ List.replicate (3 - (lg_sl ([.ref x0, .int x1, .int x2])).length) Slot.unset).toArray = ls at hl ⊢
  generalize hRe : (headSpec [Cond.code yX8_same cX8_same 3 (some .int)] { frames := 2, cells := 0, slots := 0, locals := 42 }).room = R
  have hR1 : R.frames = 2 ∧ R.cells = 0 ∧ R.slots = 0 ∧ R.locals = 42 := by rw [← hRe]; exact ⟨rfl, rfl, rfl, rfl⟩
  clear hRe B hml
  generalize s.heap = H at hI ⊢
  generalize ([] : List Loc) = locs at hL ⊢
  have hmain := h
  clear h
  have hJ14 : ∀  (σ : hmS) (H : Heap) (locs : List Loc) (ls : Array Slot), fX8_same_J14 x0 x1 x2   σ = some (r, σ') → hmI E σ H → hmLo E locs → lv_has ls 3 [] → W p l e R s m ([.ref x0, .int x1, .int x2] : List Value).toArray below meth c H locs 0 0 (MQ below (hmQc E (some (.int r)) σ') ([.ref x0, .int x1, .int x2] : List Value).toArray s 0 0 (fun q => hmL E ≤ q)) (F0 m 14 ls []) := by
    intro  σ H locs ls h hI hL hl
    unfold fX8_same_J14 at h
    refine lv_iconst (v := -1) hx hb dX8_same_14 (by decide) ?_
    refine lv_goto (tgt := 38) hx hb dX8_same_15 (by decide) ?_
    exact hm_iret hx hb hr hI hL h (by omega) (by omega) hlocks dX8_same_38
  have h := hmain
  clear hmain
  unfold fX8_same at h
  refine lv_iload_n hx hb dX8_same_0 rfl (lv_at hl 1 rfl) ?_
  replace h := cb_s h
  obtain ⟨r3, σ2, h1, h⟩ := h
  refine hm_call (hm_runS (As := [.int x1]) (rest := []) S hK hI (mX8_isPlace l E h1) (pm_X8_126 hK) (ps_X8_isPlace hK) ⟨by omega, by omega⟩ rfl hl.1 (Nat.le_of_ble_eq_true rfl) ⟨by omega, by omega⟩ dX8_same_1) hL (fun H locs hI hL => ?_)
  refine lv_if_eq (tgt := 14) hx hb dX8_same_4 (by decide) (fun c4 => ?_) (fun c4 => ?_)
  · replace h := it_p c4 h
    exact hJ14 _ _ _ _ h hI hL (lv_sub hl [] rfl)
  · replace h := it_n c4 h
    refine lv_iload_n hx hb dX8_same_7 rfl (lv_at hl 2 rfl) ?_
    replace h := cb_s h
    obtain ⟨r7, σ6, h5, h⟩ := h
    refine hm_call (hm_runS (As := [.int x2]) (rest := []) S hK hI (mX8_isPlace l E h5) (pm_X8_126 hK) (ps_X8_isPlace hK) ⟨by omega, by omega⟩ rfl hl.1 (Nat.le_of_ble_eq_true rfl) ⟨by omega, by omega⟩ dX8_same_8) hL (fun H locs hI hL => ?_)
    refine lv_if_ne (tgt := 18) hx hb dX8_same_11 (by decide) (fun c8 => ?_) (fun c8 => ?_)
    · replace h := it_n c8 h
      refine lv_aload_n hx hb dX8_same_18 rfl (lv_at hl 0 rfl) ?_
      replace h := ob_s h
      obtain ⟨f9, h10, h⟩ := h
      refine hm_get S hK hI (pf_X8_72_10 hK) (gR_s h10) dX8_same_19 ?_
      refine lv_iload_n hx hb dX8_same_22 rfl (lv_at hl 1 rfl) ?_
      replace h := ob_s h
      obtain ⟨a11, rfl, h⟩ := h
      have hl : lv_has ls 3 [(0, .ref x0), (1, .int x1), (2, .int x2)] := hl
      replace h := ob_s h
      obtain ⟨e12, h13, h⟩ := h
      refine hm_iald S hK hI h13 dX8_same_23 ?_
      refine lv_aload_n hx hb dX8_same_24 rfl (lv_at hl 0 rfl) ?_
      replace h := ob_s h
      obtain ⟨f14, h15, h⟩ := h
      refine hm_get S hK hI (pf_X8_72_10 hK) (gR_s h15) dX8_same_25 ?_
      refine lv_iload_n hx hb dX8_same_28 rfl (lv_at hl 2 rfl) ?_
      replace h := ob_s h
      obtain ⟨a16, rfl, h⟩ := h
      have hl : lv_has ls 3 [(0, .ref x0), (1, .int x1), (2, .int x2)] := hl
      replace h := ob_s h
      obtain ⟨e17, h18, h⟩ := h
      refine hm_iald S hK hI h18 dX8_same_29 ?_
      refine lv_icmp_ne (tgt := 37) hx hb dX8_same_30 (by decide) (fun c19 => ?_) (fun c19 => ?_)
      · replace h := it_n c19 h
        refine lv_iconst (v := 0) hx hb dX8_same_37 (by decide) ?_
        exact hm_iret hx hb hr hI hL h (by omega) (by omega) hlocks dX8_same_38
      · replace h := it_p c19 h
        refine lv_iconst (v := 1) hx hb dX8_same_33 (by decide) ?_
        refine lv_goto (tgt := 38) hx hb dX8_same_34 (by decide) ?_
        exact hm_iret hx hb hr hI hL h (by omega) (by omega) hlocks dX8_same_38
    · replace h := it_p c8 h
      exact hJ14 _ _ _ _ h hI hL (lv_sub hl [] rfl)

def fX8_told (x0 : Nat) (x1 : Int32) (σ : hmS) : Option (Int64 × hmS) :=
  ob (wF σ x0 10 28 (.int x1)) fun σ1 => some ((0 : Int64), σ1)
set_option maxHeartbeats 4000000 in
set_option maxRecDepth 100000 in
theorem mX8_told (l : Launch) (E : hmG) {x0 : Nat} {x1 : Int32} {σ σ' : hmS} {r : Int64} (h : fX8_told x0 x1 σ = some (r, σ')) : Met l yX8_told [Cond.code yX8_told cX8_told 2 (some .long)] { frames := 0, cells := 0, slots := 0, locals := 0 } (hmPc E [.ref x0, .int x1] σ) (hmQc E (some (.long r)) σ') 0 0 (fun q => hmL E ≤ q) := by
  refine Met.ofW (cc := cX8_told) (maxL := 2) (ret := (some .long)) (by decide) rfl ?_
  intro p e s m args below meth c s₁ B hml hv
  obtain ⟨rfl, hK, hI⟩ := hv
  have S : CallFix p m c cX8_told 2 s ([.ref x0, .int x1] : List Value).toArray [] RX8 := ⟨B.exec, B.bytes, hml, findClass_of_methodNamed B.named, fun w hw => by cases hw⟩
  have hx := S.1
  have hb := S.2.1
  have hr := B.returns
  have hlocks := B.notSynchronized
  have hL : hmLo E [] := hmLo.nil
  have hl : lv_has ((lg_sl ([.ref x0, .int x1]) ++ List.replicate (2 - (lg_sl ([.ref x0, .int x1])).length) Slot.unset).toArray) 2 [(0, .ref x0), (1, .int x1)] := by exact lv_entry _ (Nat.le_of_ble_eq_true rfl)
  rw [lg_entry_eq]
  generalize (lg_sl ([.ref x0, .int x1]) ++ List.replicate (2 - (lg_sl ([.ref x0, .int x1])).length) Slot.unset).toArray = ls at hl ⊢
  generalize hRe : (headSpec [Cond.code yX8_told cX8_told 2 (some .long)] { frames := 0, cells := 0, slots := 0, locals := 0 }).room = R
  have hR1 : R.frames = 0 ∧ R.cells = 0 ∧ R.slots = 0 ∧ R.locals = 0 := by rw [← hRe]; exact ⟨rfl, rfl, rfl, rfl⟩
  clear hRe B hml
  generalize s.heap = H at hI ⊢
  generalize ([] : List Loc) = locs at hL ⊢
  have hmain := h
  clear h
  have h := hmain
  clear hmain
  unfold fX8_told at h
  refine lv_aload_n hx hb dX8_told_0 rfl (lv_at hl 0 rfl) ?_
  refine lv_iload_n hx hb dX8_told_1 rfl (lv_at hl 1 rfl) ?_
  replace h := ob_s h
  obtain ⟨σ1, h2, h⟩ := h
  refine hm_put S hK hI hL (pf_X8_132_10 hK) h2 ⟨rfl, rfl⟩ dX8_told_2 (fun H locs hI hL => ?_)
  refine lv_lconst (v := 0) hx hb dX8_told_5 (by decide) ?_
  exact hm_lret hx hb hr hI hL h (by omega) (by omega) hlocks dX8_told_6

def fX8_localOf_J35 (x0 : Nat) (x1 : Int32) (x2 : Int32) (x3 : Int32) (K7 : Int32 → Int32 → hmS → Option (Int32 × hmS)) (v5 : Int32) (w0 : Int32) (σ : hmS) : Option (Int32 × hmS) :=
  K7 w0 (v5 + (1 : Int32)) σ
def fX8_localOf_B7 (x0 : Nat) (x1 : Int32) (x2 : Int32) (x3 : Int32)  (K7 : Int32 → Int32 → hmS → Option (Int32 × hmS)) (v4 : Int32) (v5 : Int32) (σ : hmS) : Option (Int32 × hmS) :=
  if x2 ≤ v5 then
    some (v4, σ)
  else
    ob (gR σ x0 10 13) fun f2 => ob f2 fun a4 => ob (aI σ 0 a4 (((4 : Int32) * x1) + v5)) fun e5 => if e5 = x3 then
      fX8_localOf_J35 x0 x1 x2 x3 K7 v5 v5 σ
    else
      fX8_localOf_J35 x0 x1 x2 x3 K7 v5 v4 σ
def fX8_localOf_L7 (x0 : Nat) (x1 : Int32) (x2 : Int32) (x3 : Int32)  : Nat → Int32 → Int32 → hmS → Option (Int32 × hmS)
  | 0 => fun _ _ _ => none
  | n + 1 => fX8_localOf_B7 x0 x1 x2 x3  (fX8_localOf_L7 x0 x1 x2 x3  n)
def fX8_localOf (x0 : Nat) (x1 : Int32) (x2 : Int32) (x3 : Int32) (σ : hmS) : Option (Int32 × hmS) :=
  fX8_localOf_L7 x0 x1 x2 x3 20 (-3 : Int32) (0 : Int32) σ
set_option maxHeartbeats 4000000 in
set_option maxRecDepth 100000 in
theorem mX8_localOf (l : Launch) (E : hmG) {x0 : Nat} {x1 : Int32} {x2 : Int32} {x3 : Int32} {σ σ' : hmS} {r : Int32} (h : fX8_localOf x0 x1 x2 x3 σ = some (r, σ')) : Met l yX8_localOf [Cond.code yX8_localOf cX8_localOf 6 (some .int)] { frames := 0, cells := 0, slots := 0, locals := 0 } (hmPc E [.ref x0, .int x1, .int x2, .int x3] σ) (hmQc E (some (.int r)) σ') 0 0 (fun q => hmL E ≤ q) := by
  refine Met.ofW (cc := cX8_localOf) (maxL := 6) (ret := (some .int)) (by decide) rfl ?_
  intro p e s m args below meth c s₁ B hml hv
  obtain ⟨rfl, hK, hI⟩ := hv
  have S : CallFix p m c cX8_localOf 6 s ([.ref x0, .int x1, .int x2, .int x3] : List Value).toArray [] RX8 := ⟨B.exec, B.bytes, hml, findClass_of_methodNamed B.named, fun w hw => by cases hw⟩
  have hx := S.1
  have hb := S.2.1
  have hr := B.returns
  have hlocks := B.notSynchronized
  have hL : hmLo E [] := hmLo.nil
  have hl : lv_has ((lg_sl ([.ref x0, .int x1, .int x2, .int x3]) ++ List.replicate (6 - (lg_sl ([.ref x0, .int x1, .int x2, .int x3])).length) Slot.unset).toArray) 6 [(0, .ref x0), (1, .int x1), (2, .int x2), (3, .int x3)] := by exact lv_entry _ (Nat.le_of_ble_eq_true rfl)
  rw [lg_entry_eq]
  generalize (lg_sl ([.ref x0, .int x1, .int x2, .int x3]) ++ List.replicate (6 - (lg_sl ([.ref x0, .int x1, .int x2, .int x3])).length) Slot.unset).toArray = ls at hl ⊢
  generalize hRe : (headSpec [Cond.code yX8_localOf cX8_localOf 6 (some .int)] { frames := 0, cells := 0, slots := 0, locals := 0 }).room = R
  have hR1 : R.frames = 0 ∧ R.cells = 0 ∧ R.slots = 0 ∧ R.locals = 0 := by rw [← hRe]; exact ⟨rfl, rfl, rfl, rfl⟩
  clear hRe B hml
  generalize s.heap = H at hI ⊢
  generalize ([] : List Loc) = locs at hL ⊢
  have hmain := h
  clear h
  have hB7 : ∀ (K7 : Int32 → Int32 → hmS → Option (Int32 × hmS)), (∀ (v4 : Int32) (v5 : Int32) (σ : hmS) (H : Heap) (locs : List Loc) (ls : Array Slot), K7 v4 v5 σ = some (r, σ') → hmI E σ H → hmLo E locs → lv_has ls 6 [(0, .ref x0), (1, .int x1), (2, .int x2), (3, .int x3), (4, .int v4), (5, .int v5)] → W p l e R s m ([.ref x0, .int x1, .int x2, .int x3] : List Value).toArray below meth c H locs 0 0 (MQ below (hmQc E (some (.int r)) σ') ([.ref x0, .int x1, .int x2, .int x3] : List Value).toArray s 0 0 (fun q => hmL E ≤ q)) (F0 m 7 ls [])) → ∀ (v4 : Int32) (v5 : Int32) (σ : hmS) (H : Heap) (locs : List Loc) (ls : Array Slot), fX8_localOf_B7 x0 x1 x2 x3  K7 v4 v5 σ = some (r, σ') → hmI E σ H → hmLo E locs → lv_has ls 6 [(0, .ref x0), (1, .int x1), (2, .int x2), (3, .int x3), (4, .int v4), (5, .int v5)] → W p l e R s m ([.ref x0, .int x1, .int x2, .int x3] : List Value).toArray below meth c H locs 0 0 (MQ below (hmQc E (some (.int r)) σ') ([.ref x0, .int x1, .int x2, .int x3] : List Value).toArray s 0 0 (fun q => hmL E ≤ q)) (F0 m 7 ls []) := by
    intro K7 hk7
    have hJ35 : ∀ (v5 : Int32) (w0 : Int32) (σ : hmS) (H : Heap) (locs : List Loc) (ls : Array Slot), fX8_localOf_J35 x0 x1 x2 x3 K7 v5 w0 σ = some (r, σ') → hmI E σ H → hmLo E locs → lv_has ls 6 [(0, .ref x0), (1, .int x1), (2, .int x2), (3, .int x3), (5, .int v5)] → W p l e R s m ([.ref x0, .int x1, .int x2, .int x3] : List Value).toArray below meth c H locs 0 0 (MQ below (hmQc E (some (.int r)) σ') ([.ref x0, .int x1, .int x2, .int x3] : List Value).toArray s 0 0 (fun q => hmL E ≤ q)) (F0 m 35 ls [.int w0]) := by
      intro v5 w0 σ H locs ls h hI hL hl
      unfold fX8_localOf_J35 at h
      refine lv_istore (lv' := [(4, .int w0), (0, .ref x0), (1, .int x1), (2, .int x2), (3, .int x3), (5, .int v5)]) hx hb dX8_localOf_35 hl (by decide) rfl (fun ls hl => ?_)
      refine lv_iinc (v := (v5 + (1 : Int32))) (lv' := [(5, .int (v5 + (1 : Int32))), (4, .int w0), (0, .ref x0), (1, .int x1), (2, .int x2), (3, .int x3)]) hx hb dX8_localOf_37 hl (k := 5) rfl rfl (by decide) rfl (fun ls hl => ?_)
      refine lv_goto (tgt := 7) hx hb dX8_localOf_40 (by decide) ?_
      exact hk7 _ _ _ _ _ _ h hI hL (lv_sub hl [2, 3, 4, 5, 1, 0] rfl)
    intro v4 v5 σ H locs ls h hI hL hl
    unfold fX8_localOf_B7 at h
    refine lv_iload hx hb dX8_localOf_7 (lv_at hl 5 rfl) ?_
    refine lv_iload_n hx hb dX8_localOf_9 rfl (lv_at hl 2 rfl) ?_
    refine lv_icmp_ge (tgt := 43) hx hb dX8_localOf_10 (by decide) (fun c1 => ?_) (fun c1 => ?_)
    · replace h := it_p c1 h
      refine lv_iload hx hb dX8_localOf_43 (lv_at hl 4 rfl) ?_
      exact hm_iret hx hb hr hI hL h (by omega) (by omega) hlocks dX8_localOf_45
    · replace h := it_n c1 h
      refine lv_aload_n hx hb dX8_localOf_13 rfl (lv_at hl 0 rfl) ?_
      replace h := ob_s h
      obtain ⟨f2, h3, h⟩ := h
      refine hm_get S hK hI (pf_X8_48_10 hK) (gR_s h3) dX8_localOf_14 ?_
      refine lv_iconst (v := 4) hx hb dX8_localOf_17 (by decide) ?_
      refine lv_iload_n hx hb dX8_localOf_18 rfl (lv_at hl 1 rfl) ?_
      refine lv_imul hx hb dX8_localOf_19 ?_
      refine lv_iload hx hb dX8_localOf_20 (lv_at hl 5 rfl) ?_
      refine lv_iadd hx hb dX8_localOf_22 ?_
      replace h := ob_s h
      obtain ⟨a4, rfl, h⟩ := h
      have hl : lv_has ls 6 [(0, .ref x0), (1, .int x1), (2, .int x2), (3, .int x3), (4, .int v4), (5, .int v5)] := hl
      replace h := ob_s h
      obtain ⟨e5, h6, h⟩ := h
      refine hm_iald S hK hI h6 dX8_localOf_23 ?_
      refine lv_iload_n hx hb dX8_localOf_24 rfl (lv_at hl 3 rfl) ?_
      refine lv_icmp_ne (tgt := 33) hx hb dX8_localOf_25 (by decide) (fun c7 => ?_) (fun c7 => ?_)
      · replace h := it_n c7 h
        refine lv_iload hx hb dX8_localOf_33 (lv_at hl 4 rfl) ?_
        exact hJ35 _ _ _ _ _ _ h hI hL (lv_sub hl [0, 1, 2, 3, 5] rfl)
      · replace h := it_p c7 h
        refine lv_iload hx hb dX8_localOf_28 (lv_at hl 5 rfl) ?_
        refine lv_goto (tgt := 35) hx hb dX8_localOf_30 (by decide) ?_
        exact hJ35 _ _ _ _ _ _ h hI hL (lv_sub hl [0, 1, 2, 3, 5] rfl)
  have hL7 : ∀ n : Nat, ∀ (v4 : Int32) (v5 : Int32) (σ : hmS) (H : Heap) (locs : List Loc) (ls : Array Slot), fX8_localOf_L7 x0 x1 x2 x3  n v4 v5 σ = some (r, σ') → hmI E σ H → hmLo E locs → lv_has ls 6 [(0, .ref x0), (1, .int x1), (2, .int x2), (3, .int x3), (4, .int v4), (5, .int v5)] → W p l e R s m ([.ref x0, .int x1, .int x2, .int x3] : List Value).toArray below meth c H locs 0 0 (MQ below (hmQc E (some (.int r)) σ') ([.ref x0, .int x1, .int x2, .int x3] : List Value).toArray s 0 0 (fun q => hmL E ≤ q)) (F0 m 7 ls []) := by
    intro n
    induction n with
    | zero =>
      intro v4 v5 σ H locs ls h
      have h : none = some (r, σ') := h
      cases h
    | succ n ih => exact hB7 _ ih
  have h := hmain
  clear hmain
  unfold fX8_localOf at h
  refine lv_bipush (v := -3) hx hb dX8_localOf_0 (by decide) ?_
  refine lv_istore (lv' := [(4, .int (-3 : Int32)), (0, .ref x0), (1, .int x1), (2, .int x2), (3, .int x3)]) hx hb dX8_localOf_2 hl (by decide) rfl (fun ls hl => ?_)
  refine lv_iconst (v := 0) hx hb dX8_localOf_4 (by decide) ?_
  refine lv_istore (lv' := [(5, .int (0 : Int32)), (4, .int (-3 : Int32)), (0, .ref x0), (1, .int x1), (2, .int x2), (3, .int x3)]) hx hb dX8_localOf_5 hl (by decide) rfl (fun ls hl => ?_)
  exact hL7 20 _ _ _ _ _ _ h hI hL (lv_sub hl [2, 3, 4, 5, 1, 0] rfl)

def fX8_ofField (x0 : Nat) (x1 : Int32) (x2 : Int32) (x3 : Int32) (σ : hmS) : Option (Int64 × hmS) :=
  ob (wF σ x0 10 31 (.int (((4 : Int32) * x1) + x2))) fun σ1 => ob (wF σ1 x0 10 32 (.int (-3 : Int32))) fun σ3 => ob (gR σ3 x0 10 10) fun f5 => ob f5 fun a7 => ob (aI σ3 2 a7 (((4 : Int32) * x1) + x2)) fun e8 => if e8 = 0 then
    if x3 = (-3 : Int32) then
      ob (obC σ3 x0 10) fun _ => cb (fX8_told x0 (4 : Int32) σ3) fun r34 σ33 => some (r34, σ33)
    else
      ob (gR σ3 x0 10 18) fun f12 => ob f12 fun a14 => ob (aI σ3 0 a14 (((12 : Int32) * x3) + x1)) fun e15 => if x2 < e15 then
        ob (wF σ3 x0 10 32 (.int x3)) fun σ18 => ob (wF σ18 x0 10 28 (.int (0 : Int32))) fun σ20 => ob (gR σ20 x0 10 20) fun f22 => ob f22 fun a24 => ob (aL σ20 a24 (((4 : Int32) * (((12 : Int32) * x3) + x1)) + x2)) fun e25 => some (e25, σ20)
      else
        ob (obC σ3 x0 10) fun _ => cb (fX8_told x0 (5 : Int32) σ3) fun r30 σ29 => some (r30, σ29)
  else
    ob (wF σ3 x0 10 28 (.int (0 : Int32))) fun σ35 => ob (gR σ35 x0 10 9) fun f37 => ob f37 fun a39 => ob (aL σ35 a39 (((4 : Int32) * x1) + x2)) fun e40 => some (e40, σ35)
set_option maxHeartbeats 4000000 in
set_option maxRecDepth 100000 in
theorem mX8_ofField (l : Launch) (E : hmG) {x0 : Nat} {x1 : Int32} {x2 : Int32} {x3 : Int32} {σ σ' : hmS} {r : Int64} (h : fX8_ofField x0 x1 x2 x3 σ = some (r, σ')) : Met l yX8_ofField [Cond.code yX8_ofField cX8_ofField 4 (some .long)] { frames := 1, cells := 0, slots := 0, locals := 21 } (hmPc E [.ref x0, .int x1, .int x2, .int x3] σ) (hmQc E (some (.long r)) σ') 0 0 (fun q => hmL E ≤ q) := by
  refine Met.ofW (cc := cX8_ofField) (maxL := 4) (ret := (some .long)) (by decide) rfl ?_
  intro p e s m args below meth c s₁ B hml hv
  obtain ⟨rfl, hK, hI⟩ := hv
  have S : CallFix p m c cX8_ofField 4 s ([.ref x0, .int x1, .int x2, .int x3] : List Value).toArray [] RX8 := ⟨B.exec, B.bytes, hml, findClass_of_methodNamed B.named, fun w hw => by cases hw⟩
  have hx := S.1
  have hb := S.2.1
  have hr := B.returns
  have hlocks := B.notSynchronized
  have hL : hmLo E [] := hmLo.nil
  have hl : lv_has ((lg_sl ([.ref x0, .int x1, .int x2, .int x3]) ++ List.replicate (4 - (lg_sl ([.ref x0, .int x1, .int x2, .int x3])).length) Slot.unset).toArray) 4 [(0, .ref x0), (1, .int x1), (2, .int x2), (3, .int x3)] := by exact lv_entry _ (Nat.le_of_ble_eq_true rfl)
  rw [lg_entry_eq]
  generalize (lg_sl ([.ref x0, .int x1, .int x2, .int x3]) ++ List.replicate (4 - (lg_sl ([.ref x0, .int x1, .int x2, .int x3])).length) Slot.unset).toArray = ls at hl ⊢
  generalize hRe : (headSpec [Cond.code yX8_ofField cX8_ofField 4 (some .long)] { frames := 1, cells := 0, slots := 0, locals := 21 }).room = R
  have hR1 : R.frames = 1 ∧ R.cells = 0 ∧ R.slots = 0 ∧ R.locals = 21 := by rw [← hRe]; exact ⟨rfl, rfl, rfl, rfl⟩
  clear hRe B hml
  generalize s.heap = H at hI ⊢
  generalize ([] : List Loc) = locs at hL ⊢
  have hmain := h
  clear h
  have h := hmain
  clear hmain
  unfold fX8_ofField at h
  refine lv_aload_n hx hb dX8_ofField_0 rfl (lv_at hl 0 rfl) ?_
  refine lv_iconst (v := 4) hx hb dX8_ofField_1 (by decide) ?_
  refine lv_iload_n hx hb dX8_ofField_2 rfl (lv_at hl 1 rfl) ?_
  refine lv_imul hx hb dX8_ofField_3 ?_
  refine lv_iload_n hx hb dX8_ofField_4 rfl (lv_at hl 2 rfl) ?_
  refine lv_iadd hx hb dX8_ofField_5 ?_
  replace h := ob_s h
  obtain ⟨σ1, h2, h⟩ := h
  refine hm_put S hK hI hL (pf_X8_146_10 hK) h2 ⟨rfl, rfl⟩ dX8_ofField_6 (fun H locs hI hL => ?_)
  refine lv_aload_n hx hb dX8_ofField_9 rfl (lv_at hl 0 rfl) ?_
  refine lv_bipush (v := -3) hx hb dX8_ofField_10 (by decide) ?_
  replace h := ob_s h
  obtain ⟨σ3, h4, h⟩ := h
  refine hm_put S hK hI hL (pf_X8_149_10 hK) h4 ⟨rfl, rfl⟩ dX8_ofField_12 (fun H locs hI hL => ?_)
  refine lv_aload_n hx hb dX8_ofField_15 rfl (lv_at hl 0 rfl) ?_
  replace h := ob_s h
  obtain ⟨f5, h6, h⟩ := h
  refine hm_get S hK hI (pf_X8_38_10 hK) (gR_s h6) dX8_ofField_16 ?_
  refine lv_iconst (v := 4) hx hb dX8_ofField_19 (by decide) ?_
  refine lv_iload_n hx hb dX8_ofField_20 rfl (lv_at hl 1 rfl) ?_
  refine lv_imul hx hb dX8_ofField_21 ?_
  refine lv_iload_n hx hb dX8_ofField_22 rfl (lv_at hl 2 rfl) ?_
  refine lv_iadd hx hb dX8_ofField_23 ?_
  replace h := ob_s h
  obtain ⟨a7, rfl, h⟩ := h
  have hl : lv_has ls 4 [(0, .ref x0), (1, .int x1), (2, .int x2), (3, .int x3)] := hl
  replace h := ob_s h
  obtain ⟨e8, h9, h⟩ := h
  refine hm_zald S hK hI h9 dX8_ofField_24 ?_
  refine lv_if_eq (tgt := 44) hx hb dX8_ofField_25 (by decide) (fun c10 => ?_) (fun c10 => ?_)
  · replace h := it_p c10 h
    refine lv_iload_n hx hb dX8_ofField_44 rfl (lv_at hl 3 rfl) ?_
    refine lv_bipush (v := -3) hx hb dX8_ofField_45 (by decide) ?_
    refine lv_icmp_ne (tgt := 56) hx hb dX8_ofField_47 (by decide) (fun c11 => ?_) (fun c11 => ?_)
    · replace h := it_n c11 h
      refine lv_iload_n hx hb dX8_ofField_56 rfl (lv_at hl 2 rfl) ?_
      refine lv_aload_n hx hb dX8_ofField_57 rfl (lv_at hl 0 rfl) ?_
      replace h := ob_s h
      obtain ⟨f12, h13, h⟩ := h
      refine hm_get S hK hI (pf_X8_60_10 hK) (gR_s h13) dX8_ofField_58 ?_
      refine lv_bipush (v := 12) hx hb dX8_ofField_61 (by decide) ?_
      refine lv_iload_n hx hb dX8_ofField_63 rfl (lv_at hl 3 rfl) ?_
      refine lv_imul hx hb dX8_ofField_64 ?_
      refine lv_iload_n hx hb dX8_ofField_65 rfl (lv_at hl 1 rfl) ?_
      refine lv_iadd hx hb dX8_ofField_66 ?_
      replace h := ob_s h
      obtain ⟨a14, rfl, h⟩ := h
      have hl : lv_has ls 4 [(0, .ref x0), (1, .int x1), (2, .int x2), (3, .int x3)] := hl
      replace h := ob_s h
      obtain ⟨e15, h16, h⟩ := h
      refine hm_iald S hK hI h16 dX8_ofField_67 ?_
      refine lv_icmp_lt (tgt := 77) hx hb dX8_ofField_68 (by decide) (fun c17 => ?_) (fun c17 => ?_)
      · replace h := it_p c17 h
        refine lv_aload_n hx hb dX8_ofField_77 rfl (lv_at hl 0 rfl) ?_
        refine lv_iload_n hx hb dX8_ofField_78 rfl (lv_at hl 3 rfl) ?_
        replace h := ob_s h
        obtain ⟨σ18, h19, h⟩ := h
        refine hm_put S hK hI hL (pf_X8_149_10 hK) h19 ⟨rfl, rfl⟩ dX8_ofField_79 (fun H locs hI hL => ?_)
        refine lv_aload_n hx hb dX8_ofField_82 rfl (lv_at hl 0 rfl) ?_
        refine lv_iconst (v := 0) hx hb dX8_ofField_83 (by decide) ?_
        replace h := ob_s h
        obtain ⟨σ20, h21, h⟩ := h
        refine hm_put S hK hI hL (pf_X8_132_10 hK) h21 ⟨rfl, rfl⟩ dX8_ofField_84 (fun H locs hI hL => ?_)
        refine lv_aload_n hx hb dX8_ofField_87 rfl (lv_at hl 0 rfl) ?_
        replace h := ob_s h
        obtain ⟨f22, h23, h⟩ := h
        refine hm_get S hK hI (pf_X8_66_10 hK) (gR_s h23) dX8_ofField_88 ?_
        refine lv_iconst (v := 4) hx hb dX8_ofField_91 (by decide) ?_
        refine lv_bipush (v := 12) hx hb dX8_ofField_92 (by decide) ?_
        refine lv_iload_n hx hb dX8_ofField_94 rfl (lv_at hl 3 rfl) ?_
        refine lv_imul hx hb dX8_ofField_95 ?_
        refine lv_iload_n hx hb dX8_ofField_96 rfl (lv_at hl 1 rfl) ?_
        refine lv_iadd hx hb dX8_ofField_97 ?_
        refine lv_imul hx hb dX8_ofField_98 ?_
        refine lv_iload_n hx hb dX8_ofField_99 rfl (lv_at hl 2 rfl) ?_
        refine lv_iadd hx hb dX8_ofField_100 ?_
        replace h := ob_s h
        obtain ⟨a24, rfl, h⟩ := h
        have hl : lv_has ls 4 [(0, .ref x0), (1, .int x1), (2, .int x2), (3, .int x3)] := hl
        replace h := ob_s h
        obtain ⟨e25, h26, h⟩ := h
        refine hm_lald S hK hI h26 dX8_ofField_101 ?_
        exact hm_lret hx hb hr hI hL h (by omega) (by omega) hlocks dX8_ofField_102
      · replace h := it_n c17 h
        refine lv_aload_n hx hb dX8_ofField_71 rfl (lv_at hl 0 rfl) ?_
        refine lv_iconst (v := 5) hx hb dX8_ofField_72 (by decide) ?_
        replace h := ob_s h
        obtain ⟨_, h28, h⟩ := h
        replace h := cb_s h
        obtain ⟨r30, σ29, h27, h⟩ := h
        refine hm_call (hm_runV (As := [.int (5 : Int32)]) (rest := []) (ci := 10) S hK hI (obC_s h28) rfl (mX8_told l E h27) (pm_X8_152 hK) (pi_X8_told hK) (pl_X8_X8_told hK) ⟨by omega, by omega⟩ rfl hl.1 (Nat.le_of_ble_eq_true rfl) ⟨by omega, by omega⟩ dX8_ofField_73) hL (fun H locs hI hL => ?_)
        exact hm_lret hx hb hr hI hL h (by omega) (by omega) hlocks dX8_ofField_76
    · replace h := it_p c11 h
      refine lv_aload_n hx hb dX8_ofField_50 rfl (lv_at hl 0 rfl) ?_
      refine lv_iconst (v := 4) hx hb dX8_ofField_51 (by decide) ?_
      replace h := ob_s h
      obtain ⟨_, h32, h⟩ := h
      replace h := cb_s h
      obtain ⟨r34, σ33, h31, h⟩ := h
      refine hm_call (hm_runV (As := [.int (4 : Int32)]) (rest := []) (ci := 10) S hK hI (obC_s h32) rfl (mX8_told l E h31) (pm_X8_152 hK) (pi_X8_told hK) (pl_X8_X8_told hK) ⟨by omega, by omega⟩ rfl hl.1 (Nat.le_of_ble_eq_true rfl) ⟨by omega, by omega⟩ dX8_ofField_52) hL (fun H locs hI hL => ?_)
      exact hm_lret hx hb hr hI hL h (by omega) (by omega) hlocks dX8_ofField_55
  · replace h := it_n c10 h
    refine lv_aload_n hx hb dX8_ofField_28 rfl (lv_at hl 0 rfl) ?_
    refine lv_iconst (v := 0) hx hb dX8_ofField_29 (by decide) ?_
    replace h := ob_s h
    obtain ⟨σ35, h36, h⟩ := h
    refine hm_put S hK hI hL (pf_X8_132_10 hK) h36 ⟨rfl, rfl⟩ dX8_ofField_30 (fun H locs hI hL => ?_)
    refine lv_aload_n hx hb dX8_ofField_33 rfl (lv_at hl 0 rfl) ?_
    replace h := ob_s h
    obtain ⟨f37, h38, h⟩ := h
    refine hm_get S hK hI (pf_X8_34_10 hK) (gR_s h38) dX8_ofField_34 ?_
    refine lv_iconst (v := 4) hx hb dX8_ofField_37 (by decide) ?_
    refine lv_iload_n hx hb dX8_ofField_38 rfl (lv_at hl 1 rfl) ?_
    refine lv_imul hx hb dX8_ofField_39 ?_
    refine lv_iload_n hx hb dX8_ofField_40 rfl (lv_at hl 2 rfl) ?_
    refine lv_iadd hx hb dX8_ofField_41 ?_
    replace h := ob_s h
    obtain ⟨a39, rfl, h⟩ := h
    have hl : lv_has ls 4 [(0, .ref x0), (1, .int x1), (2, .int x2), (3, .int x3)] := hl
    replace h := ob_s h
    obtain ⟨e40, h41, h⟩ := h
    refine hm_lald S hK hI h41 dX8_ofField_42 ?_
    exact hm_lret hx hb hr hI hL h (by omega) (by omega) hlocks dX8_ofField_43

def fX8_ofLocal (x0 : Nat) (x1 : Int32) (x2 : Int32) (x3 : Int32) (x4 : Int32) (σ : hmS) : Option (Int64 × hmS) :=
  ob (gR σ x0 10 2) fun f1 => ob f1 fun a3 => ob (aI σ 0 a3 x1) fun e4 => ob (gR σ x0 10 1) fun f6 => ob f6 fun a8 => ob (aI σ 0 a8 x1) fun e9 => if e9 = (4 : Int32) then
    ob (obC σ x0 10) fun _ => cb (fX8_told x0 (6 : Int32) σ) fun r51 σ50 => some (r51, σ50)
  else
    ob (gR σ x0 10 15) fun f12 => ob f12 fun a14 => ob (aI σ 2 a14 (((4 : Int32) * e4) + x2)) fun e15 => if e15 = 0 then
      if x3 = (-3 : Int32) then
        ob (obC σ x0 10) fun _ => cb (fX8_told x0 (4 : Int32) σ) fun r43 σ42 => some (r43, σ42)
      else
        ob (obC σ x0 10) fun _ => cb (fX8_isOf x0 x3 x1 σ) fun r22 σ21 => if r22 = 0 then
          ob (obC σ21 x0 10) fun _ => cb (fX8_told x0 (5 : Int32) σ21) fun r39 σ38 => some (r39, σ38)
        else
          if x4 = 0 then
            ob (wF σ21 x0 10 28 (.int (0 : Int32))) fun σ25 => ob (gR σ25 x0 10 21) fun f27 => ob f27 fun a29 => ob (aL σ25 a29 (((4 : Int32) * (((12 : Int32) * x3) + x1)) + x2)) fun e30 => some (e30, σ25)
          else
            ob (obC σ21 x0 10) fun _ => cb (fX8_told x0 (7 : Int32) σ21) fun r35 σ34 => some (r35, σ34)
    else
      ob (obC σ x0 10) fun _ => cb (fX8_told x0 (7 : Int32) σ) fun r47 σ46 => some (r47, σ46)
set_option maxHeartbeats 4000000 in
set_option maxRecDepth 100000 in
theorem mX8_ofLocal (l : Launch) (E : hmG) {x0 : Nat} {x1 : Int32} {x2 : Int32} {x3 : Int32} {x4 : Int32} {σ σ' : hmS} {r : Int64} (h : fX8_ofLocal x0 x1 x2 x3 x4 σ = some (r, σ')) : Met l yX8_ofLocal [Cond.code yX8_ofLocal cX8_ofLocal 6 (some .long)] { frames := 1, cells := 0, slots := 0, locals := 22 } (hmPc E [.ref x0, .int x1, .int x2, .int x3, .int x4] σ) (hmQc E (some (.long r)) σ') 0 0 (fun q => hmL E ≤ q) := by
  refine Met.ofW (cc := cX8_ofLocal) (maxL := 6) (ret := (some .long)) (by decide) rfl ?_
  intro p e s m args below meth c s₁ B hml hv
  obtain ⟨rfl, hK, hI⟩ := hv
  have S : CallFix p m c cX8_ofLocal 6 s ([.ref x0, .int x1, .int x2, .int x3, .int x4] : List Value).toArray [] RX8 := ⟨B.exec, B.bytes, hml, findClass_of_methodNamed B.named, fun w hw => by cases hw⟩
  have hx := S.1
  have hb := S.2.1
  have hr := B.returns
  have hlocks := B.notSynchronized
  have hL : hmLo E [] := hmLo.nil
  have hl : lv_has ((lg_sl ([.ref x0, .int x1, .int x2, .int x3, .int x4]) ++ List.replicate (6 - (lg_sl ([.ref x0, .int x1, .int x2, .int x3, .int x4])).length) Slot.unset).toArray) 6 [(0, .ref x0), (1, .int x1), (2, .int x2), (3, .int x3), (4, .int x4)] := by exact lv_entry _ (Nat.le_of_ble_eq_true rfl)
  rw [lg_entry_eq]
  generalize (lg_sl ([.ref x0, .int x1, .int x2, .int x3, .int x4]) ++ List.replicate (6 - (lg_sl ([.ref x0, .int x1, .int x2, .int x3, .int x4])).length) Slot.unset).toArray = ls at hl ⊢
  generalize hRe : (headSpec [Cond.code yX8_ofLocal cX8_ofLocal 6 (some .long)] { frames := 1, cells := 0, slots := 0, locals := 22 }).room = R
  have hR1 : R.frames = 1 ∧ R.cells = 0 ∧ R.slots = 0 ∧ R.locals = 22 := by rw [← hRe]; exact ⟨rfl, rfl, rfl, rfl⟩
  clear hRe B hml
  generalize s.heap = H at hI ⊢
  generalize ([] : List Loc) = locs at hL ⊢
  have hmain := h
  clear h
  have h := hmain
  clear hmain
  unfold fX8_ofLocal at h
  refine lv_iconst (v := 4) hx hb dX8_ofLocal_0 (by decide) ?_
  refine lv_aload_n hx hb dX8_ofLocal_1 rfl (lv_at hl 0 rfl) ?_
  replace h := ob_s h
  obtain ⟨f1, h2, h⟩ := h
  refine hm_get S hK hI (pf_X8_13_10 hK) (gR_s h2) dX8_ofLocal_2 ?_
  refine lv_iload_n hx hb dX8_ofLocal_5 rfl (lv_at hl 1 rfl) ?_
  replace h := ob_s h
  obtain ⟨a3, rfl, h⟩ := h
  have hl : lv_has ls 6 [(0, .ref x0), (1, .int x1), (2, .int x2), (3, .int x3), (4, .int x4)] := hl
  replace h := ob_s h
  obtain ⟨e4, h5, h⟩ := h
  refine hm_iald S hK hI h5 dX8_ofLocal_6 ?_
  refine lv_imul hx hb dX8_ofLocal_7 ?_
  refine lv_iload_n hx hb dX8_ofLocal_8 rfl (lv_at hl 2 rfl) ?_
  refine lv_iadd hx hb dX8_ofLocal_9 ?_
  refine lv_istore (lv' := [(5, .int (((4 : Int32) * e4) + x2)), (0, .ref x0), (1, .int x1), (2, .int x2), (3, .int x3), (4, .int x4)]) hx hb dX8_ofLocal_10 hl (by decide) rfl (fun ls hl => ?_)
  refine lv_aload_n hx hb dX8_ofLocal_12 rfl (lv_at hl 1 rfl) ?_
  replace h := ob_s h
  obtain ⟨f6, h7, h⟩ := h
  refine hm_get S hK hI (pf_X8_7_10 hK) (gR_s h7) dX8_ofLocal_13 ?_
  refine lv_iload_n hx hb dX8_ofLocal_16 rfl (lv_at hl 2 rfl) ?_
  replace h := ob_s h
  obtain ⟨a8, rfl, h⟩ := h
  have hl : lv_has ls 6 [(5, .int (((4 : Int32) * e4) + x2)), (0, .ref x0), (1, .int x1), (2, .int x2), (3, .int x3), (4, .int x4)] := hl
  replace h := ob_s h
  obtain ⟨e9, h10, h⟩ := h
  refine hm_iald S hK hI h10 dX8_ofLocal_17 ?_
  refine lv_iconst (v := 4) hx hb dX8_ofLocal_18 (by decide) ?_
  refine lv_icmp_ne (tgt := 29) hx hb dX8_ofLocal_19 (by decide) (fun c11 => ?_) (fun c11 => ?_)
  · replace h := it_n c11 h
    refine lv_aload_n hx hb dX8_ofLocal_29 rfl (lv_at hl 1 rfl) ?_
    replace h := ob_s h
    obtain ⟨f12, h13, h⟩ := h
    refine hm_get S hK hI (pf_X8_54_10 hK) (gR_s h13) dX8_ofLocal_30 ?_
    refine lv_iload hx hb dX8_ofLocal_33 (lv_at hl 0 rfl) ?_
    replace h := ob_s h
    obtain ⟨a14, rfl, h⟩ := h
    have hl : lv_has ls 6 [(5, .int (((4 : Int32) * e4) + x2)), (0, .ref x0), (1, .int x1), (2, .int x2), (3, .int x3), (4, .int x4)] := hl
    replace h := ob_s h
    obtain ⟨e15, h16, h⟩ := h
    refine hm_zald S hK hI h16 dX8_ofLocal_35 ?_
    refine lv_if_eq (tgt := 46) hx hb dX8_ofLocal_36 (by decide) (fun c17 => ?_) (fun c17 => ?_)
    · replace h := it_p c17 h
      refine lv_iload_n hx hb dX8_ofLocal_46 rfl (lv_at hl 4 rfl) ?_
      refine lv_bipush (v := -3) hx hb dX8_ofLocal_47 (by decide) ?_
      refine lv_icmp_ne (tgt := 58) hx hb dX8_ofLocal_49 (by decide) (fun c18 => ?_) (fun c18 => ?_)
      · replace h := it_n c18 h
        refine lv_aload_n hx hb dX8_ofLocal_58 rfl (lv_at hl 1 rfl) ?_
        refine lv_iload_n hx hb dX8_ofLocal_59 rfl (lv_at hl 4 rfl) ?_
        refine lv_iload_n hx hb dX8_ofLocal_60 rfl (lv_at hl 2 rfl) ?_
        replace h := ob_s h
        obtain ⟨_, h20, h⟩ := h
        replace h := cb_s h
        obtain ⟨r22, σ21, h19, h⟩ := h
        refine hm_call (hm_runV (As := [.int x3, .int x1]) (rest := []) (ci := 10) S hK hI (obC_s h20) rfl (mX8_isOf l E h19) (pm_X8_122 hK) (pi_X8_isOf hK) (pl_X8_X8_isOf hK) ⟨by omega, by omega⟩ rfl hl.1 (Nat.le_of_ble_eq_true rfl) ⟨by omega, by omega⟩ dX8_ofLocal_61) hL (fun H locs hI hL => ?_)
        refine lv_if_ne (tgt := 73) hx hb dX8_ofLocal_64 (by decide) (fun c23 => ?_) (fun c23 => ?_)
        · replace h := it_n c23 h
          refine lv_iload hx hb dX8_ofLocal_73 (lv_at hl 5 rfl) ?_
          refine lv_if_eq (tgt := 85) hx hb dX8_ofLocal_75 (by decide) (fun c24 => ?_) (fun c24 => ?_)
          · replace h := it_p c24 h
            refine lv_aload_n hx hb dX8_ofLocal_85 rfl (lv_at hl 1 rfl) ?_
            refine lv_iconst (v := 0) hx hb dX8_ofLocal_86 (by decide) ?_
            replace h := ob_s h
            obtain ⟨σ25, h26, h⟩ := h
            refine hm_put S hK hI hL (pf_X8_132_10 hK) h26 ⟨rfl, rfl⟩ dX8_ofLocal_87 (fun H locs hI hL => ?_)
            refine lv_aload_n hx hb dX8_ofLocal_90 rfl (lv_at hl 1 rfl) ?_
            replace h := ob_s h
            obtain ⟨f27, h28, h⟩ := h
            refine hm_get S hK hI (pf_X8_69_10 hK) (gR_s h28) dX8_ofLocal_91 ?_
            refine lv_iconst (v := 4) hx hb dX8_ofLocal_94 (by decide) ?_
            refine lv_bipush (v := 12) hx hb dX8_ofLocal_95 (by decide) ?_
            refine lv_iload_n hx hb dX8_ofLocal_97 rfl (lv_at hl 4 rfl) ?_
            refine lv_imul hx hb dX8_ofLocal_98 ?_
            refine lv_iload_n hx hb dX8_ofLocal_99 rfl (lv_at hl 2 rfl) ?_
            refine lv_iadd hx hb dX8_ofLocal_100 ?_
            refine lv_imul hx hb dX8_ofLocal_101 ?_
            refine lv_iload_n hx hb dX8_ofLocal_102 rfl (lv_at hl 3 rfl) ?_
            refine lv_iadd hx hb dX8_ofLocal_103 ?_
            replace h := ob_s h
            obtain ⟨a29, rfl, h⟩ := h
            have hl : lv_has ls 6 [(5, .int (((4 : Int32) * e4) + x2)), (0, .ref x0), (1, .int x1), (2, .int x2), (3, .int x3), (4, .int x4)] := hl
            replace h := ob_s h
            obtain ⟨e30, h31, h⟩ := h
            refine hm_lald S hK hI h31 dX8_ofLocal_104 ?_
            exact hm_lret hx hb hr hI hL h (by omega) (by omega) hlocks dX8_ofLocal_105
          · replace h := it_n c24 h
            refine lv_aload_n hx hb dX8_ofLocal_78 rfl (lv_at hl 1 rfl) ?_
            refine lv_bipush (v := 7) hx hb dX8_ofLocal_79 (by decide) ?_
            replace h := ob_s h
            obtain ⟨_, h33, h⟩ := h
            replace h := cb_s h
            obtain ⟨r35, σ34, h32, h⟩ := h
            refine hm_call (hm_runV (As := [.int (7 : Int32)]) (rest := []) (ci := 10) S hK hI (obC_s h33) rfl (mX8_told l E h32) (pm_X8_152 hK) (pi_X8_told hK) (pl_X8_X8_told hK) ⟨by omega, by omega⟩ rfl hl.1 (Nat.le_of_ble_eq_true rfl) ⟨by omega, by omega⟩ dX8_ofLocal_81) hL (fun H locs hI hL => ?_)
            exact hm_lret hx hb hr hI hL h (by omega) (by omega) hlocks dX8_ofLocal_84
        · replace h := it_p c23 h
          refine lv_aload_n hx hb dX8_ofLocal_67 rfl (lv_at hl 1 rfl) ?_
          refine lv_iconst (v := 5) hx hb dX8_ofLocal_68 (by decide) ?_
          replace h := ob_s h
          obtain ⟨_, h37, h⟩ := h
          replace h := cb_s h
          obtain ⟨r39, σ38, h36, h⟩ := h
          refine hm_call (hm_runV (As := [.int (5 : Int32)]) (rest := []) (ci := 10) S hK hI (obC_s h37) rfl (mX8_told l E h36) (pm_X8_152 hK) (pi_X8_told hK) (pl_X8_X8_told hK) ⟨by omega, by omega⟩ rfl hl.1 (Nat.le_of_ble_eq_true rfl) ⟨by omega, by omega⟩ dX8_ofLocal_69) hL (fun H locs hI hL => ?_)
          exact hm_lret hx hb hr hI hL h (by omega) (by omega) hlocks dX8_ofLocal_72
      · replace h := it_p c18 h
        refine lv_aload_n hx hb dX8_ofLocal_52 rfl (lv_at hl 1 rfl) ?_
        refine lv_iconst (v := 4) hx hb dX8_ofLocal_53 (by decide) ?_
        replace h := ob_s h
        obtain ⟨_, h41, h⟩ := h
        replace h := cb_s h
        obtain ⟨r43, σ42, h40, h⟩ := h
        refine hm_call (hm_runV (As := [.int (4 : Int32)]) (rest := []) (ci := 10) S hK hI (obC_s h41) rfl (mX8_told l E h40) (pm_X8_152 hK) (pi_X8_told hK) (pl_X8_X8_told hK) ⟨by omega, by omega⟩ rfl hl.1 (Nat.le_of_ble_eq_true rfl) ⟨by omega, by omega⟩ dX8_ofLocal_54) hL (fun H locs hI hL => ?_)
        exact hm_lret hx hb hr hI hL h (by omega) (by omega) hlocks dX8_ofLocal_57
    · replace h := it_n c17 h
      refine lv_aload_n hx hb dX8_ofLocal_39 rfl (lv_at hl 1 rfl) ?_
      refine lv_bipush (v := 7) hx hb dX8_ofLocal_40 (by decide) ?_
      replace h := ob_s h
      obtain ⟨_, h45, h⟩ := h
      replace h := cb_s h
      obtain ⟨r47, σ46, h44, h⟩ := h
      refine hm_call (hm_runV (As := [.int (7 : Int32)]) (rest := []) (ci := 10) S hK hI (obC_s h45) rfl (mX8_told l E h44) (pm_X8_152 hK) (pi_X8_told hK) (pl_X8_X8_told hK) ⟨by omega, by omega⟩ rfl hl.1 (Nat.le_of_ble_eq_true rfl) ⟨by omega, by omega⟩ dX8_ofLocal_42) hL (fun H locs hI hL => ?_)
      exact hm_lret hx hb hr hI hL h (by omega) (by omega) hlocks dX8_ofLocal_45
  · replace h := it_p c11 h
    refine lv_aload_n hx hb dX8_ofLocal_22 rfl (lv_at hl 1 rfl) ?_
    refine lv_bipush (v := 6) hx hb dX8_ofLocal_23 (by decide) ?_
    replace h := ob_s h
    obtain ⟨_, h49, h⟩ := h
    replace h := cb_s h
    obtain ⟨r51, σ50, h48, h⟩ := h
    refine hm_call (hm_runV (As := [.int (6 : Int32)]) (rest := []) (ci := 10) S hK hI (obC_s h49) rfl (mX8_told l E h48) (pm_X8_152 hK) (pi_X8_told hK) (pl_X8_X8_told hK) ⟨by omega, by omega⟩ rfl hl.1 (Nat.le_of_ble_eq_true rfl) ⟨by omega, by omega⟩ dX8_ofLocal_25) hL (fun H locs hI hL => ?_)
    exact hm_lret hx hb hr hI hL h (by omega) (by omega) hlocks dX8_ofLocal_28

def fX8_find_J158 (x0 : Nat) (x1 : Int32) (x2 : Int32) (x3 : Int32) (x4 : Int32) (K12 : Int32 → Int32 → hmS → Option (Int64 × hmS)) (v5 : Int32) (w0 : Int32) (σ : hmS) : Option (Int64 × hmS) :=
  ob (gR σ x0 10 2) fun f1 => ob f1 fun a3 => ob (aI σ 0 a3 v5) fun e4 => K12 e4 w0 σ
def fX8_find_J140 (x0 : Nat) (x1 : Int32) (x2 : Int32) (x3 : Int32) (x4 : Int32) (K12 : Int32 → Int32 → hmS → Option (Int64 × hmS)) (v5 : Int32) (σ : hmS) : Option (Int64 × hmS) :=
  fX8_find_J158 x0 x1 x2 x3 x4 K12 v5 (-3 : Int32) σ
def fX8_find_J104 (x0 : Nat) (x1 : Int32) (x2 : Int32) (x3 : Int32) (x4 : Int32) (K12 : Int32 → Int32 → hmS → Option (Int64 × hmS)) (v5 : Int32) (v6 : Int32) (w0 : Int32) (σ : hmS) : Option (Int64 × hmS) :=
  if w0 < 0 then
    if v6 = (-3 : Int32) then
      fX8_find_J140 x0 x1 x2 x3 x4 K12 v5 σ
    else
      ob (obC σ x0 10) fun _ => cb (fX8_isBound x0 v5 σ) fun r6 σ5 => if r6 = 0 then
        fX8_find_J140 x0 x1 x2 x3 x4 K12 v5 σ5
      else
        ob (gR σ5 x0 10 19) fun f8 => ob f8 fun a10 => ob (aI σ5 0 a10 (((12 : Int32) * v6) + v5)) fun e11 => fX8_find_J158 x0 x1 x2 x3 x4 K12 v5 e11 σ5
  else
    ob (obC σ x0 10) fun _ => cb (fX8_ofLocal x0 v5 w0 v6 x4 σ) fun r16 σ15 => some (r16, σ15)
def fX8_find_B23 (x0 : Nat) (x1 : Int32) (x2 : Int32) (x3 : Int32) (x4 : Int32) (K12 : Int32 → Int32 → hmS → Option (Int64 × hmS)) (K23 : Int32 → Int32 → Int32 → hmS → Option (Int64 × hmS)) (v5 : Int32) (v6 : Int32) (v7 : Int32) (σ : hmS) : Option (Int64 × hmS) :=
  if v7 = (-3 : Int32) then
    ob (gR σ x0 10 1) fun f2 => ob f2 fun a4 => ob (aI σ 0 a4 v5) fun e5 => cb (fX8_isInMethod e5 σ) fun r9 σ8 => if r9 = 0 then
      fX8_find_J104 x0 x1 x2 x3 x4 K12 v5 v6 (-3 : Int32) σ8
    else
      ob (gR σ8 x0 10 2) fun f11 => ob f11 fun a13 => ob (aI σ8 0 a13 v5) fun e14 => ob (gR σ8 x0 10 5) fun f16 => ob f16 fun a18 => ob (aI σ8 0 a18 v5) fun e19 => ob (obC σ8 x0 10) fun _ => cb (fX8_localOf x0 e14 e19 x3 σ8) fun r24 σ23 => fX8_find_J104 x0 x1 x2 x3 x4 K12 v5 v6 r24 σ23
  else
    ob (obC σ x0 10) fun _ => cb (fX8_fieldOf x0 v7 x3 σ) fun r28 σ27 => if r28 < 0 then
      ob (gR σ27 x0 10 6) fun f30 => ob f30 fun a32 => ob (aI σ27 0 a32 v7) fun e33 => K23 v5 v6 e33 σ27
    else
      ob (obC σ27 x0 10) fun _ => cb (fX8_ofField x0 v7 r28 v6 σ27) fun r38 σ37 => some (r38, σ37)
def fX8_find_L23 (x0 : Nat) (x1 : Int32) (x2 : Int32) (x3 : Int32) (x4 : Int32) (K12 : Int32 → Int32 → hmS → Option (Int64 × hmS)) : Nat → Int32 → Int32 → Int32 → hmS → Option (Int64 × hmS)
  | 0 => fun _ _ _ _ => none
  | n + 1 => fX8_find_B23 x0 x1 x2 x3 x4 K12 (fX8_find_L23 x0 x1 x2 x3 x4 K12 n)
def fX8_find_B12 (x0 : Nat) (x1 : Int32) (x2 : Int32) (x3 : Int32) (x4 : Int32)  (K12 : Int32 → Int32 → hmS → Option (Int64 × hmS)) (v5 : Int32) (v6 : Int32) (σ : hmS) : Option (Int64 × hmS) :=
  if v5 = (-3 : Int32) then
    ob (obC σ x0 10) fun _ => cb (fX8_told x0 (8 : Int32) σ) fun r5 σ4 => some (r5, σ4)
  else
    fX8_find_L23 x0 x1 x2 x3 x4 K12 20 v5 v6 v5 σ
def fX8_find_L12 (x0 : Nat) (x1 : Int32) (x2 : Int32) (x3 : Int32) (x4 : Int32)  : Nat → Int32 → Int32 → hmS → Option (Int64 × hmS)
  | 0 => fun _ _ _ => none
  | n + 1 => fX8_find_B12 x0 x1 x2 x3 x4  (fX8_find_L12 x0 x1 x2 x3 x4  n)
def fX8_find (x0 : Nat) (x1 : Int32) (x2 : Int32) (x3 : Int32) (x4 : Int32) (σ : hmS) : Option (Int64 × hmS) :=
  ob (wF σ x0 10 31 (.int (-3 : Int32))) fun σ1 => fX8_find_L12 x0 x1 x2 x3 x4 20 x1 x2 σ1
set_option maxHeartbeats 4000000 in
set_option maxRecDepth 100000 in
theorem mX8_find (l : Launch) (E : hmG) {x0 : Nat} {x1 : Int32} {x2 : Int32} {x3 : Int32} {x4 : Int32} {σ σ' : hmS} {r : Int64} (h : fX8_find x0 x1 x2 x3 x4 σ = some (r, σ')) : Met l yX8_find [Cond.code yX8_find cX8_find 9 (some .long)] { frames := 2, cells := 0, slots := 0, locals := 47 } (hmPc E [.ref x0, .int x1, .int x2, .int x3, .int x4] σ) (hmQc E (some (.long r)) σ') 0 0 (fun q => hmL E ≤ q) := by
  refine Met.ofW (cc := cX8_find) (maxL := 9) (ret := (some .long)) (by decide) rfl ?_
  intro p e s m args below meth c s₁ B hml hv
  obtain ⟨rfl, hK, hI⟩ := hv
  have S : CallFix p m c cX8_find 9 s ([.ref x0, .int x1, .int x2, .int x3, .int x4] : List Value).toArray [] RX8 := ⟨B.exec, B.bytes, hml, findClass_of_methodNamed B.named, fun w hw => by cases hw⟩
  have hx := S.1
  have hb := S.2.1
  have hr := B.returns
  have hlocks := B.notSynchronized
  have hL : hmLo E [] := hmLo.nil
  have hl : lv_has ((lg_sl ([.ref x0, .int x1, .int x2, .int x3, .int x4]) ++ List.replicate (9 - (lg_sl ([.ref x0, .int x1, .int x2, .int x3, .int x4])).length) Slot.unset).toArray) 9 [(0, .ref x0), (1, .int x1), (2, .int x2), (3, .int x3), (4, .int x4)] := by exact lv_entry _ (Nat.le_of_ble_eq_true rfl)
  rw [lg_entry_eq]
  generalize (lg_sl ([.ref x0, .int x1, .int x2, .int x3, .int x4]) ++ List.replicate (9 - (lg_sl ([.ref x0, .int x1, .int x2, .int x3, .int x4])).length) Slot.unset).toArray = ls at hl ⊢
  generalize hRe : (headSpec [Cond.code yX8_find cX8_find 9 (some .long)] { frames := 2, cells := 0, slots := 0, locals := 47 }).room = R
  have hR1 : R.frames = 2 ∧ R.cells = 0 ∧ R.slots = 0 ∧ R.locals = 47 := by rw [← hRe]; exact ⟨rfl, rfl, rfl, rfl⟩
  clear hRe B hml
  generalize s.heap = H at hI ⊢
  generalize ([] : List Loc) = locs at hL ⊢
  have hmain := h
  clear h
  have hB12 : ∀ (K12 : Int32 → Int32 → hmS → Option (Int64 × hmS)), (∀ (v5 : Int32) (v6 : Int32) (σ : hmS) (H : Heap) (locs : List Loc) (ls : Array Slot), K12 v5 v6 σ = some (r, σ') → hmI E σ H → hmLo E locs → lv_has ls 9 [(0, .ref x0), (3, .int x3), (4, .int x4), (5, .int v5), (6, .int v6)] → W p l e R s m ([.ref x0, .int x1, .int x2, .int x3, .int x4] : List Value).toArray below meth c H locs 0 0 (MQ below (hmQc E (some (.long r)) σ') ([.ref x0, .int x1, .int x2, .int x3, .int x4] : List Value).toArray s 0 0 (fun q => hmL E ≤ q)) (F0 m 12 ls [])) → ∀ (v5 : Int32) (v6 : Int32) (σ : hmS) (H : Heap) (locs : List Loc) (ls : Array Slot), fX8_find_B12 x0 x1 x2 x3 x4  K12 v5 v6 σ = some (r, σ') → hmI E σ H → hmLo E locs → lv_has ls 9 [(0, .ref x0), (3, .int x3), (4, .int x4), (5, .int v5), (6, .int v6)] → W p l e R s m ([.ref x0, .int x1, .int x2, .int x3, .int x4] : List Value).toArray below meth c H locs 0 0 (MQ below (hmQc E (some (.long r)) σ') ([.ref x0, .int x1, .int x2, .int x3, .int x4] : List Value).toArray s 0 0 (fun q => hmL E ≤ q)) (F0 m 12 ls []) := by
    intro K12 hk12
    have hJ158 : ∀ (v5 : Int32) (w0 : Int32) (σ : hmS) (H : Heap) (locs : List Loc) (ls : Array Slot), fX8_find_J158 x0 x1 x2 x3 x4 K12 v5 w0 σ = some (r, σ') → hmI E σ H → hmLo E locs → lv_has ls 9 [(0, .ref x0), (3, .int x3), (4, .int x4), (5, .int v5)] → W p l e R s m ([.ref x0, .int x1, .int x2, .int x3, .int x4] : List Value).toArray below meth c H locs 0 0 (MQ below (hmQc E (some (.long r)) σ') ([.ref x0, .int x1, .int x2, .int x3, .int x4] : List Value).toArray s 0 0 (fun q => hmL E ≤ q)) (F0 m 158 ls [.int w0]) := by
      intro v5 w0 σ H locs ls h hI hL hl
      unfold fX8_find_J158 at h
      refine lv_istore (lv' := [(6, .int w0), (0, .ref x0), (3, .int x3), (4, .int x4), (5, .int v5)]) hx hb dX8_find_158 hl (by decide) rfl (fun ls hl => ?_)
      refine lv_aload_n hx hb dX8_find_160 rfl (lv_at hl 1 rfl) ?_
      replace h := ob_s h
      obtain ⟨f1, h2, h⟩ := h
      refine hm_get S hK hI (pf_X8_13_10 hK) (gR_s h2) dX8_find_161 ?_
      refine lv_iload hx hb dX8_find_164 (lv_at hl 4 rfl) ?_
      replace h := ob_s h
      obtain ⟨a3, rfl, h⟩ := h
      have hl : lv_has ls 9 [(6, .int w0), (0, .ref x0), (3, .int x3), (4, .int x4), (5, .int v5)] := hl
      replace h := ob_s h
      obtain ⟨e4, h5, h⟩ := h
      refine hm_iald S hK hI h5 dX8_find_166 ?_
      refine lv_istore (lv' := [(5, .int e4), (6, .int w0), (0, .ref x0), (3, .int x3), (4, .int x4)]) hx hb dX8_find_167 hl (by decide) rfl (fun ls hl => ?_)
      refine lv_goto (tgt := 12) hx hb dX8_find_169 (by decide) ?_
      exact hk12 _ _ _ _ _ _ h hI hL (lv_sub hl [2, 3, 4, 0, 1] rfl)
    have hJ140 : ∀ (v5 : Int32) (σ : hmS) (H : Heap) (locs : List Loc) (ls : Array Slot), fX8_find_J140 x0 x1 x2 x3 x4 K12 v5 σ = some (r, σ') → hmI E σ H → hmLo E locs → lv_has ls 9 [(0, .ref x0), (3, .int x3), (4, .int x4), (5, .int v5)] → W p l e R s m ([.ref x0, .int x1, .int x2, .int x3, .int x4] : List Value).toArray below meth c H locs 0 0 (MQ below (hmQc E (some (.long r)) σ') ([.ref x0, .int x1, .int x2, .int x3, .int x4] : List Value).toArray s 0 0 (fun q => hmL E ≤ q)) (F0 m 140 ls []) := by
      intro v5 σ H locs ls h hI hL hl
      unfold fX8_find_J140 at h
      refine lv_bipush (v := -3) hx hb dX8_find_140 (by decide) ?_
      refine lv_goto (tgt := 158) hx hb dX8_find_142 (by decide) ?_
      exact hJ158 _ _ _ _ _ _ h hI hL (lv_sub hl [0, 1, 2, 3] rfl)
    have hJ104 : ∀ (v5 : Int32) (v6 : Int32) (w0 : Int32) (σ : hmS) (H : Heap) (locs : List Loc) (ls : Array Slot), fX8_find_J104 x0 x1 x2 x3 x4 K12 v5 v6 w0 σ = some (r, σ') → hmI E σ H → hmLo E locs → lv_has ls 9 [(0, .ref x0), (3, .int x3), (4, .int x4), (5, .int v5), (6, .int v6)] → W p l e R s m ([.ref x0, .int x1, .int x2, .int x3, .int x4] : List Value).toArray below meth c H locs 0 0 (MQ below (hmQc E (some (.long r)) σ') ([.ref x0, .int x1, .int x2, .int x3, .int x4] : List Value).toArray s 0 0 (fun q => hmL E ≤ q)) (F0 m 104 ls [.int w0]) := by
      intro v5 v6 w0 σ H locs ls h hI hL hl
      unfold fX8_find_J104 at h
      refine lv_istore (lv' := [(7, .int w0), (0, .ref x0), (3, .int x3), (4, .int x4), (5, .int v5), (6, .int v6)]) hx hb dX8_find_104 hl (by decide) rfl (fun ls hl => ?_)
      refine lv_iload hx hb dX8_find_106 (lv_at hl 0 rfl) ?_
      refine lv_if_lt (tgt := 124) hx hb dX8_find_108 (by decide) (fun c1 => ?_) (fun c1 => ?_)
      · replace h := it_p c1 h
        refine lv_iload hx hb dX8_find_124 (lv_at hl 5 rfl) ?_
        refine lv_bipush (v := -3) hx hb dX8_find_126 (by decide) ?_
        refine lv_icmp_eq (tgt := 140) hx hb dX8_find_128 (by decide) (fun c2 => ?_) (fun c2 => ?_)
        · replace h := it_p c2 h
          exact hJ140 _ _ _ _ _ h hI hL (lv_sub hl [1, 2, 3, 4] rfl)
        · replace h := it_n c2 h
          refine lv_aload_n hx hb dX8_find_131 rfl (lv_at hl 1 rfl) ?_
          refine lv_iload hx hb dX8_find_132 (lv_at hl 4 rfl) ?_
          replace h := ob_s h
          obtain ⟨_, h4, h⟩ := h
          replace h := cb_s h
          obtain ⟨r6, σ5, h3, h⟩ := h
          refine hm_call (hm_runV (As := [.int v5]) (rest := []) (ci := 10) S hK hI (obC_s h4) rfl (mX8_isBound l E h3) (pm_X8_129 hK) (pi_X8_isBound hK) (pl_X8_X8_isBound hK) ⟨by omega, by omega⟩ rfl hl.1 (Nat.le_of_ble_eq_true rfl) ⟨by omega, by omega⟩ dX8_find_134) hL (fun H locs hI hL => ?_)
          refine lv_if_ne (tgt := 145) hx hb dX8_find_137 (by decide) (fun c7 => ?_) (fun c7 => ?_)
          · replace h := it_n c7 h
            refine lv_aload_n hx hb dX8_find_145 rfl (lv_at hl 1 rfl) ?_
            replace h := ob_s h
            obtain ⟨f8, h9, h⟩ := h
            refine hm_get S hK hI (pf_X8_63_10 hK) (gR_s h9) dX8_find_146 ?_
            refine lv_bipush (v := 12) hx hb dX8_find_149 (by decide) ?_
            refine lv_iload hx hb dX8_find_151 (lv_at hl 5 rfl) ?_
            refine lv_imul hx hb dX8_find_153 ?_
            refine lv_iload hx hb dX8_find_154 (lv_at hl 4 rfl) ?_
            refine lv_iadd hx hb dX8_find_156 ?_
            replace h := ob_s h
            obtain ⟨a10, rfl, h⟩ := h
            have hl : lv_has ls 9 [(7, .int w0), (0, .ref x0), (3, .int x3), (4, .int x4), (5, .int v5), (6, .int v6)] := hl
            replace h := ob_s h
            obtain ⟨e11, h12, h⟩ := h
            refine hm_iald S hK hI h12 dX8_find_157 ?_
            exact hJ158 _ _ _ _ _ _ h hI hL (lv_sub hl [1, 2, 3, 4] rfl)
          · replace h := it_p c7 h
            exact hJ140 _ _ _ _ _ h hI hL (lv_sub hl [1, 2, 3, 4] rfl)
      · replace h := it_n c1 h
        refine lv_aload_n hx hb dX8_find_111 rfl (lv_at hl 1 rfl) ?_
        refine lv_iload hx hb dX8_find_112 (lv_at hl 4 rfl) ?_
        refine lv_iload hx hb dX8_find_114 (lv_at hl 0 rfl) ?_
        refine lv_iload hx hb dX8_find_116 (lv_at hl 5 rfl) ?_
        refine lv_iload hx hb dX8_find_118 (lv_at hl 3 rfl) ?_
        replace h := ob_s h
        obtain ⟨_, h14, h⟩ := h
        replace h := cb_s h
        obtain ⟨r16, σ15, h13, h⟩ := h
        refine hm_call (hm_runV (As := [.int v5, .int w0, .int v6, .int x4]) (rest := []) (ci := 10) S hK hI (obC_s h14) rfl (mX8_ofLocal l E h13) (pm_X8_163 hK) (pi_X8_ofLocal hK) (pl_X8_X8_ofLocal hK) ⟨by omega, by omega⟩ rfl hl.1 (Nat.le_of_ble_eq_true rfl) ⟨by omega, by omega⟩ dX8_find_120) hL (fun H locs hI hL => ?_)
        exact hm_lret hx hb hr hI hL h (by omega) (by omega) hlocks dX8_find_123
    have hB23 : ∀ (K23 : Int32 → Int32 → Int32 → hmS → Option (Int64 × hmS)), (∀ (v5 : Int32) (v6 : Int32) (v7 : Int32) (σ : hmS) (H : Heap) (locs : List Loc) (ls : Array Slot), K23 v5 v6 v7 σ = some (r, σ') → hmI E σ H → hmLo E locs → lv_has ls 9 [(0, .ref x0), (3, .int x3), (4, .int x4), (5, .int v5), (6, .int v6), (7, .int v7)] → W p l e R s m ([.ref x0, .int x1, .int x2, .int x3, .int x4] : List Value).toArray below meth c H locs 0 0 (MQ below (hmQc E (some (.long r)) σ') ([.ref x0, .int x1, .int x2, .int x3, .int x4] : List Value).toArray s 0 0 (fun q => hmL E ≤ q)) (F0 m 23 ls [])) → ∀ (v5 : Int32) (v6 : Int32) (v7 : Int32) (σ : hmS) (H : Heap) (locs : List Loc) (ls : Array Slot), fX8_find_B23 x0 x1 x2 x3 x4 K12 K23 v5 v6 v7 σ = some (r, σ') → hmI E σ H → hmLo E locs → lv_has ls 9 [(0, .ref x0), (3, .int x3), (4, .int x4), (5, .int v5), (6, .int v6), (7, .int v7)] → W p l e R s m ([.ref x0, .int x1, .int x2, .int x3, .int x4] : List Value).toArray below meth c H locs 0 0 (MQ below (hmQc E (some (.long r)) σ') ([.ref x0, .int x1, .int x2, .int x3, .int x4] : List Value).toArray s 0 0 (fun q => hmL E ≤ q)) (F0 m 23 ls []) := by
      intro K23 hk23
      intro v5 v6 v7 σ H locs ls h hI hL hl
      unfold fX8_find_B23 at h
      refine lv_iload hx hb dX8_find_23 (lv_at hl 5 rfl) ?_
      refine lv_bipush (v := -3) hx hb dX8_find_25 (by decide) ?_
      refine lv_icmp_eq (tgt := 67) hx hb dX8_find_27 (by decide) (fun c1 => ?_) (fun c1 => ?_)
      · replace h := it_p c1 h
        refine lv_aload_n hx hb dX8_find_67 rfl (lv_at hl 0 rfl) ?_
        replace h := ob_s h
        obtain ⟨f2, h3, h⟩ := h
        refine hm_get S hK hI (pf_X8_7_10 hK) (gR_s h3) dX8_find_68 ?_
        refine lv_iload hx hb dX8_find_71 (lv_at hl 3 rfl) ?_
        replace h := ob_s h
        obtain ⟨a4, rfl, h⟩ := h
        have hl : lv_has ls 9 [(0, .ref x0), (3, .int x3), (4, .int x4), (5, .int v5), (6, .int v6), (7, .int v7)] := hl
        replace h := ob_s h
        obtain ⟨e5, h6, h⟩ := h
        refine hm_iald S hK hI h6 dX8_find_73 ?_
        replace h := cb_s h
        obtain ⟨r9, σ8, h7, h⟩ := h
        refine hm_call (hm_runS (As := [.int e5]) (rest := []) S hK hI (mX8_isInMethod l E h7) (pm_X8_105 hK) (ps_X8_isInMethod hK) ⟨by omega, by omega⟩ rfl hl.1 (Nat.le_of_ble_eq_true rfl) ⟨by omega, by omega⟩ dX8_find_74) hL (fun H locs hI hL => ?_)
        refine lv_if_eq (tgt := 102) hx hb dX8_find_77 (by decide) (fun c10 => ?_) (fun c10 => ?_)
        · replace h := it_p c10 h
          refine lv_bipush (v := -3) hx hb dX8_find_102 (by decide) ?_
          exact hJ104 _ _ _ _ _ _ _ h hI hL (lv_sub hl [0, 1, 2, 3, 4] rfl)
        · replace h := it_n c10 h
          refine lv_aload_n hx hb dX8_find_80 rfl (lv_at hl 0 rfl) ?_
          refine lv_aload_n hx hb dX8_find_81 rfl (lv_at hl 0 rfl) ?_
          replace h := ob_s h
          obtain ⟨f11, h12, h⟩ := h
          refine hm_get S hK hI (pf_X8_13_10 hK) (gR_s h12) dX8_find_82 ?_
          refine lv_iload hx hb dX8_find_85 (lv_at hl 3 rfl) ?_
          replace h := ob_s h
          obtain ⟨a13, rfl, h⟩ := h
          have hl : lv_has ls 9 [(0, .ref x0), (3, .int x3), (4, .int x4), (5, .int v5), (6, .int v6), (7, .int v7)] := hl
          replace h := ob_s h
          obtain ⟨e14, h15, h⟩ := h
          refine hm_iald S hK hI h15 dX8_find_87 ?_
          refine lv_aload_n hx hb dX8_find_88 rfl (lv_at hl 0 rfl) ?_
          replace h := ob_s h
          obtain ⟨f16, h17, h⟩ := h
          refine hm_get S hK hI (pf_X8_22_10 hK) (gR_s h17) dX8_find_89 ?_
          refine lv_iload hx hb dX8_find_92 (lv_at hl 3 rfl) ?_
          replace h := ob_s h
          obtain ⟨a18, rfl, h⟩ := h
          have hl : lv_has ls 9 [(0, .ref x0), (3, .int x3), (4, .int x4), (5, .int v5), (6, .int v6), (7, .int v7)] := hl
          replace h := ob_s h
          obtain ⟨e19, h20, h⟩ := h
          refine hm_iald S hK hI h20 dX8_find_94 ?_
          refine lv_iload_n hx hb dX8_find_95 rfl (lv_at hl 1 rfl) ?_
          replace h := ob_s h
          obtain ⟨_, h22, h⟩ := h
          replace h := cb_s h
          obtain ⟨r24, σ23, h21, h⟩ := h
          refine hm_call (hm_runV (As := [.int e14, .int e19, .int x3]) (rest := []) (ci := 10) S hK hI (obC_s h22) rfl (mX8_localOf l E h21) (pm_X8_160 hK) (pi_X8_localOf hK) (pl_X8_X8_localOf hK) ⟨by omega, by omega⟩ rfl hl.1 (Nat.le_of_ble_eq_true rfl) ⟨by omega, by omega⟩ dX8_find_96) hL (fun H locs hI hL => ?_)
          refine lv_goto (tgt := 104) hx hb dX8_find_99 (by decide) ?_
          exact hJ104 _ _ _ _ _ _ _ h hI hL (lv_sub hl [0, 1, 2, 3, 4] rfl)
      · replace h := it_n c1 h
        refine lv_aload_n hx hb dX8_find_30 rfl (lv_at hl 0 rfl) ?_
        refine lv_iload hx hb dX8_find_31 (lv_at hl 5 rfl) ?_
        refine lv_iload_n hx hb dX8_find_33 rfl (lv_at hl 1 rfl) ?_
        replace h := ob_s h
        obtain ⟨_, h26, h⟩ := h
        replace h := cb_s h
        obtain ⟨r28, σ27, h25, h⟩ := h
        refine hm_call (hm_runV (As := [.int v7, .int x3]) (rest := []) (ci := 10) S hK hI (obC_s h26) rfl (mX8_fieldOf l E h25) (pm_X8_111 hK) (pi_X8_fieldOf hK) (pl_X8_X8_fieldOf hK) ⟨by omega, by omega⟩ rfl hl.1 (Nat.le_of_ble_eq_true rfl) ⟨by omega, by omega⟩ dX8_find_34) hL (fun H locs hI hL => ?_)
        refine lv_istore (lv' := [(8, .int r28), (0, .ref x0), (3, .int x3), (4, .int x4), (5, .int v5), (6, .int v6), (7, .int v7)]) hx hb dX8_find_37 hl (by decide) rfl (fun ls hl => ?_)
        refine lv_iload hx hb dX8_find_39 (lv_at hl 0 rfl) ?_
        refine lv_if_lt (tgt := 55) hx hb dX8_find_41 (by decide) (fun c29 => ?_) (fun c29 => ?_)
        · replace h := it_p c29 h
          refine lv_aload_n hx hb dX8_find_55 rfl (lv_at hl 1 rfl) ?_
          replace h := ob_s h
          obtain ⟨f30, h31, h⟩ := h
          refine hm_get S hK hI (pf_X8_25_10 hK) (gR_s h31) dX8_find_56 ?_
          refine lv_iload hx hb dX8_find_59 (lv_at hl 6 rfl) ?_
          replace h := ob_s h
          obtain ⟨a32, rfl, h⟩ := h
          have hl : lv_has ls 9 [(8, .int r28), (0, .ref x0), (3, .int x3), (4, .int x4), (5, .int v5), (6, .int v6), (7, .int v7)] := hl
          replace h := ob_s h
          obtain ⟨e33, h34, h⟩ := h
          refine hm_iald S hK hI h34 dX8_find_61 ?_
          refine lv_istore (lv' := [(7, .int e33), (8, .int r28), (0, .ref x0), (3, .int x3), (4, .int x4), (5, .int v5), (6, .int v6)]) hx hb dX8_find_62 hl (by decide) rfl (fun ls hl => ?_)
          refine lv_goto (tgt := 23) hx hb dX8_find_64 (by decide) ?_
          exact hk23 _ _ _ _ _ _ _ h hI hL (lv_sub hl [2, 3, 4, 5, 6, 0] rfl)
        · replace h := it_n c29 h
          refine lv_aload_n hx hb dX8_find_44 rfl (lv_at hl 1 rfl) ?_
          refine lv_iload hx hb dX8_find_45 (lv_at hl 6 rfl) ?_
          refine lv_iload hx hb dX8_find_47 (lv_at hl 0 rfl) ?_
          refine lv_iload hx hb dX8_find_49 (lv_at hl 5 rfl) ?_
          replace h := ob_s h
          obtain ⟨_, h36, h⟩ := h
          replace h := cb_s h
          obtain ⟨r38, σ37, h35, h⟩ := h
          refine hm_call (hm_runV (As := [.int v7, .int r28, .int v6]) (rest := []) (ci := 10) S hK hI (obC_s h36) rfl (mX8_ofField l E h35) (pm_X8_156 hK) (pi_X8_ofField hK) (pl_X8_X8_ofField hK) ⟨by omega, by omega⟩ rfl hl.1 (Nat.le_of_ble_eq_true rfl) ⟨by omega, by omega⟩ dX8_find_51) hL (fun H locs hI hL => ?_)
          exact hm_lret hx hb hr hI hL h (by omega) (by omega) hlocks dX8_find_54
    have hL23 : ∀ n : Nat, ∀ (v5 : Int32) (v6 : Int32) (v7 : Int32) (σ : hmS) (H : Heap) (locs : List Loc) (ls : Array Slot), fX8_find_L23 x0 x1 x2 x3 x4 K12 n v5 v6 v7 σ = some (r, σ') → hmI E σ H → hmLo E locs → lv_has ls 9 [(0, .ref x0), (3, .int x3), (4, .int x4), (5, .int v5), (6, .int v6), (7, .int v7)] → W p l e R s m ([.ref x0, .int x1, .int x2, .int x3, .int x4] : List Value).toArray below meth c H locs 0 0 (MQ below (hmQc E (some (.long r)) σ') ([.ref x0, .int x1, .int x2, .int x3, .int x4] : List Value).toArray s 0 0 (fun q => hmL E ≤ q)) (F0 m 23 ls []) := by
      intro n
      induction n with
      | zero =>
        intro v5 v6 v7 σ H locs ls h
        have h : none = some (r, σ') := h
        cases h
      | succ n ih => exact hB23 _ ih
    intro v5 v6 σ H locs ls h hI hL hl
    unfold fX8_find_B12 at h
    refine lv_iload hx hb dX8_find_12 (lv_at hl 3 rfl) ?_
    refine lv_bipush (v := -3) hx hb dX8_find_14 (by decide) ?_
    refine lv_icmp_eq (tgt := 172) hx hb dX8_find_16 (by decide) (fun c1 => ?_) (fun c1 => ?_)
    · replace h := it_p c1 h
      refine lv_aload_n hx hb dX8_find_172 rfl (lv_at hl 0 rfl) ?_
      refine lv_bipush (v := 8) hx hb dX8_find_173 (by decide) ?_
      replace h := ob_s h
      obtain ⟨_, h3, h⟩ := h
      replace h := cb_s h
      obtain ⟨r5, σ4, h2, h⟩ := h
      refine hm_call (hm_runV (As := [.int (8 : Int32)]) (rest := []) (ci := 10) S hK hI (obC_s h3) rfl (mX8_told l E h2) (pm_X8_152 hK) (pi_X8_told hK) (pl_X8_X8_told hK) ⟨by omega, by omega⟩ rfl hl.1 (Nat.le_of_ble_eq_true rfl) ⟨by omega, by omega⟩ dX8_find_175) hL (fun H locs hI hL => ?_)
      exact hm_lret hx hb hr hI hL h (by omega) (by omega) hlocks dX8_find_178
    · replace h := it_n c1 h
      refine lv_iload hx hb dX8_find_19 (lv_at hl 3 rfl) ?_
      refine lv_istore (lv' := [(7, .int v5), (0, .ref x0), (3, .int x3), (4, .int x4), (5, .int v5), (6, .int v6)]) hx hb dX8_find_21 hl (by decide) rfl (fun ls hl => ?_)
      exact hL23 20 _ _ _ _ _ _ _ h hI hL (lv_sub hl [1, 2, 3, 4, 5, 0] rfl)
  have hL12 : ∀ n : Nat, ∀ (v5 : Int32) (v6 : Int32) (σ : hmS) (H : Heap) (locs : List Loc) (ls : Array Slot), fX8_find_L12 x0 x1 x2 x3 x4  n v5 v6 σ = some (r, σ') → hmI E σ H → hmLo E locs → lv_has ls 9 [(0, .ref x0), (3, .int x3), (4, .int x4), (5, .int v5), (6, .int v6)] → W p l e R s m ([.ref x0, .int x1, .int x2, .int x3, .int x4] : List Value).toArray below meth c H locs 0 0 (MQ below (hmQc E (some (.long r)) σ') ([.ref x0, .int x1, .int x2, .int x3, .int x4] : List Value).toArray s 0 0 (fun q => hmL E ≤ q)) (F0 m 12 ls []) := by
    intro n
    induction n with
    | zero =>
      intro v5 v6 σ H locs ls h
      have h : none = some (r, σ') := h
      cases h
    | succ n ih => exact hB12 _ ih
  have h := hmain
  clear hmain
  unfold fX8_find at h
  refine lv_iload_n hx hb dX8_find_0 rfl (lv_at hl 1 rfl) ?_
  refine lv_istore (lv' := [(5, .int x1), (0, .ref x0), (1, .int x1), (2, .int x2), (3, .int x3), (4, .int x4)]) hx hb dX8_find_1 hl (by decide) rfl (fun ls hl => ?_)
  refine lv_iload_n hx hb dX8_find_3 rfl (lv_at hl 3 rfl) ?_
  refine lv_istore (lv' := [(6, .int x2), (5, .int x1), (0, .ref x0), (1, .int x1), (2, .int x2), (3, .int x3), (4, .int x4)]) hx hb dX8_find_4 hl (by decide) rfl (fun ls hl => ?_)
  refine lv_aload_n hx hb dX8_find_6 rfl (lv_at hl 2 rfl) ?_
  refine lv_bipush (v := -3) hx hb dX8_find_7 (by decide) ?_
  replace h := ob_s h
  obtain ⟨σ1, h2, h⟩ := h
  refine hm_put S hK hI hL (pf_X8_146_10 hK) h2 ⟨rfl, rfl⟩ dX8_find_9 (fun H locs hI hL => ?_)
  exact hL12 20 _ _ _ _ _ _ h hI hL (lv_sub hl [2, 5, 6, 1, 0] rfl)

def fX8_see_J14 (x0 : Nat) (x1 : Int32) (x2 : Int32)   (σ : hmS) : Option (Int64 × hmS) :=
  ob (obC σ x0 10) fun _ => cb (fX8_told x0 (-1 : Int32) σ) fun r4 σ3 => some (r4, σ3)
def fX8_see (x0 : Nat) (x1 : Int32) (x2 : Int32) (σ : hmS) : Option (Int64 × hmS) :=
  cb (fX8_isPlace x1 σ) fun r3 σ2 => if r3 = 0 then
    fX8_see_J14 x0 x1 x2 σ2
  else
    cb (fX8_isName x2 σ2) fun r7 σ6 => if r7 = 0 then
      fX8_see_J14 x0 x1 x2 σ6
    else
      ob (gR σ6 x0 10 22) fun f9 => ob f9 fun a11 => ob (aI σ6 0 a11 x1) fun e12 => if e12 = (-3 : Int32) then
        ob (obC σ6 x0 10) fun _ => cb (fX8_told x0 (9 : Int32) σ6) fun r27 σ26 => some (r27, σ26)
      else
        ob (gR σ6 x0 10 17) fun f15 => ob f15 fun a17 => ob (aI σ6 0 a17 e12) fun e18 => ob (obC σ6 x0 10) fun _ => cb (fX8_find x0 e18 e12 x2 (0 : Int32) σ6) fun r23 σ22 => some (r23, σ22)
set_option maxHeartbeats 4000000 in
set_option maxRecDepth 100000 in
theorem mX8_see (l : Launch) (E : hmG) {x0 : Nat} {x1 : Int32} {x2 : Int32} {σ σ' : hmS} {r : Int64} (h : fX8_see x0 x1 x2 σ = some (r, σ')) : Met l yX8_see [Cond.code yX8_see cX8_see 4 (some .long)] { frames := 3, cells := 0, slots := 0, locals := 75 } (hmPc E [.ref x0, .int x1, .int x2] σ) (hmQc E (some (.long r)) σ') 0 0 (fun q => hmL E ≤ q) := by
  refine Met.ofW (cc := cX8_see) (maxL := 4) (ret := (some .long)) (by decide) rfl ?_
  intro p e s m args below meth c s₁ B hml hv
  obtain ⟨rfl, hK, hI⟩ := hv
  have S : CallFix p m c cX8_see 4 s ([.ref x0, .int x1, .int x2] : List Value).toArray [] RX8 := ⟨B.exec, B.bytes, hml, findClass_of_methodNamed B.named, fun w hw => by cases hw⟩
  have hx := S.1
  have hb := S.2.1
  have hr := B.returns
  have hlocks := B.notSynchronized
  have hL : hmLo E [] := hmLo.nil
  have hl : lv_has ((lg_sl ([.ref x0, .int x1, .int x2]) ++ List.replicate (4 - (lg_sl ([.ref x0, .int x1, .int x2])).length) Slot.unset).toArray) 4 [(0, .ref x0), (1, .int x1), (2, .int x2)] := by exact lv_entry _ (Nat.le_of_ble_eq_true rfl)
  rw [lg_entry_eq]
  generalize (lg_sl ([.ref x0, .int x1, .int x2]) ++ List.replicate (4 - (lg_sl ([.ref x0, .int x1, .int x2])).length) Slot.unset).toArray = ls at hl ⊢
  generalize hRe : (headSpec [Cond.code yX8_see cX8_see 4 (some .long)] { frames := 3, cells := 0, slots := 0, locals := 75 }).room = R
  have hR1 : R.frames = 3 ∧ R.cells = 0 ∧ R.slots = 0 ∧ R.locals = 75 := by rw [← hRe]; exact ⟨rfl, rfl, rfl, rfl⟩
  clear hRe B hml
  generalize s.heap = H at hI ⊢
  generalize ([] : List Loc) = locs at hL ⊢
  have hmain := h
  clear h
  have hJ14 : ∀  (σ : hmS) (H : Heap) (locs : List Loc) (ls : Array Slot), fX8_see_J14 x0 x1 x2   σ = some (r, σ') → hmI E σ H → hmLo E locs → lv_has ls 4 [(0, .ref x0)] → W p l e R s m ([.ref x0, .int x1, .int x2] : List Value).toArray below meth c H locs 0 0 (MQ below (hmQc E (some (.long r)) σ') ([.ref x0, .int x1, .int x2] : List Value).toArray s 0 0 (fun q => hmL E ≤ q)) (F0 m 14 ls []) := by
    intro  σ H locs ls h hI hL hl
    unfold fX8_see_J14 at h
    refine lv_aload_n hx hb dX8_see_14 rfl (lv_at hl 0 rfl) ?_
    refine lv_iconst (v := -1) hx hb dX8_see_15 (by decide) ?_
    replace h := ob_s h
    obtain ⟨_, h2, h⟩ := h
    replace h := cb_s h
    obtain ⟨r4, σ3, h1, h⟩ := h
    refine hm_call (hm_runV (As := [.int (-1 : Int32)]) (rest := []) (ci := 10) S hK hI (obC_s h2) rfl (mX8_told l E h1) (pm_X8_152 hK) (pi_X8_told hK) (pl_X8_X8_told hK) ⟨by omega, by omega⟩ rfl hl.1 (Nat.le_of_ble_eq_true rfl) ⟨by omega, by omega⟩ dX8_see_16) hL (fun H locs hI hL => ?_)
    exact hm_lret hx hb hr hI hL h (by omega) (by omega) hlocks dX8_see_19
  have h := hmain
  clear hmain
  unfold fX8_see at h
  refine lv_iload_n hx hb dX8_see_0 rfl (lv_at hl 1 rfl) ?_
  replace h := cb_s h
  obtain ⟨r3, σ2, h1, h⟩ := h
  refine hm_call (hm_runS (As := [.int x1]) (rest := []) S hK hI (mX8_isPlace l E h1) (pm_X8_126 hK) (ps_X8_isPlace hK) ⟨by omega, by omega⟩ rfl hl.1 (Nat.le_of_ble_eq_true rfl) ⟨by omega, by omega⟩ dX8_see_1) hL (fun H locs hI hL => ?_)
  refine lv_if_eq (tgt := 14) hx hb dX8_see_4 (by decide) (fun c4 => ?_) (fun c4 => ?_)
  · replace h := it_p c4 h
    exact hJ14 _ _ _ _ h hI hL (lv_sub hl [0] rfl)
  · replace h := it_n c4 h
    refine lv_iload_n hx hb dX8_see_7 rfl (lv_at hl 2 rfl) ?_
    replace h := cb_s h
    obtain ⟨r7, σ6, h5, h⟩ := h
    refine hm_call (hm_runS (As := [.int x2]) (rest := []) S hK hI (mX8_isName l E h5) (pm_X8_108 hK) (ps_X8_isName hK) ⟨by omega, by omega⟩ rfl hl.1 (Nat.le_of_ble_eq_true rfl) ⟨by omega, by omega⟩ dX8_see_8) hL (fun H locs hI hL => ?_)
    refine lv_if_ne (tgt := 20) hx hb dX8_see_11 (by decide) (fun c8 => ?_) (fun c8 => ?_)
    · replace h := it_n c8 h
      refine lv_aload_n hx hb dX8_see_20 rfl (lv_at hl 0 rfl) ?_
      replace h := ob_s h
      obtain ⟨f9, h10, h⟩ := h
      refine hm_get S hK hI (pf_X8_72_10 hK) (gR_s h10) dX8_see_21 ?_
      refine lv_iload_n hx hb dX8_see_24 rfl (lv_at hl 1 rfl) ?_
      replace h := ob_s h
      obtain ⟨a11, rfl, h⟩ := h
      have hl : lv_has ls 4 [(0, .ref x0), (1, .int x1), (2, .int x2)] := hl
      replace h := ob_s h
      obtain ⟨e12, h13, h⟩ := h
      refine hm_iald S hK hI h13 dX8_see_25 ?_
      refine lv_istore_n (lv' := [(3, .int e12), (0, .ref x0), (1, .int x1), (2, .int x2)]) hx hb dX8_see_26 rfl hl (by decide) rfl (fun ls hl => ?_)
      refine lv_iload_n hx hb dX8_see_27 rfl (lv_at hl 0 rfl) ?_
      refine lv_bipush (v := -3) hx hb dX8_see_28 (by decide) ?_
      refine lv_icmp_ne (tgt := 42) hx hb dX8_see_30 (by decide) (fun c14 => ?_) (fun c14 => ?_)
      · replace h := it_n c14 h
        refine lv_aload_n hx hb dX8_see_42 rfl (lv_at hl 1 rfl) ?_
        refine lv_aload_n hx hb dX8_see_43 rfl (lv_at hl 1 rfl) ?_
        replace h := ob_s h
        obtain ⟨f15, h16, h⟩ := h
        refine hm_get S hK hI (pf_X8_57_10 hK) (gR_s h16) dX8_see_44 ?_
        refine lv_iload_n hx hb dX8_see_47 rfl (lv_at hl 0 rfl) ?_
        replace h := ob_s h
        obtain ⟨a17, rfl, h⟩ := h
        have hl : lv_has ls 4 [(3, .int e12), (0, .ref x0), (1, .int x1), (2, .int x2)] := hl
        replace h := ob_s h
        obtain ⟨e18, h19, h⟩ := h
        refine hm_iald S hK hI h19 dX8_see_48 ?_
        refine lv_iload_n hx hb dX8_see_49 rfl (lv_at hl 0 rfl) ?_
        refine lv_iload_n hx hb dX8_see_50 rfl (lv_at hl 3 rfl) ?_
        refine lv_iconst (v := 0) hx hb dX8_see_51 (by decide) ?_
        replace h := ob_s h
        obtain ⟨_, h21, h⟩ := h
        replace h := cb_s h
        obtain ⟨r23, σ22, h20, h⟩ := h
        refine hm_call (hm_runV (As := [.int e18, .int e12, .int x2, .int (0 : Int32)]) (rest := []) (ci := 10) S hK hI (obC_s h21) rfl (mX8_find l E h20) (pm_X8_167 hK) (pi_X8_find hK) (pl_X8_X8_find hK) ⟨by omega, by omega⟩ rfl hl.1 (Nat.le_of_ble_eq_true rfl) ⟨by omega, by omega⟩ dX8_see_52) hL (fun H locs hI hL => ?_)
        exact hm_lret hx hb hr hI hL h (by omega) (by omega) hlocks dX8_see_55
      · replace h := it_p c14 h
        refine lv_aload_n hx hb dX8_see_33 rfl (lv_at hl 1 rfl) ?_
        refine lv_bipush (v := 9) hx hb dX8_see_34 (by decide) ?_
        replace h := ob_s h
        obtain ⟨_, h25, h⟩ := h
        replace h := cb_s h
        obtain ⟨r27, σ26, h24, h⟩ := h
        refine hm_call (hm_runV (As := [.int (9 : Int32)]) (rest := []) (ci := 10) S hK hI (obC_s h25) rfl (mX8_told l E h24) (pm_X8_152 hK) (pi_X8_told hK) (pl_X8_X8_told hK) ⟨by omega, by omega⟩ rfl hl.1 (Nat.le_of_ble_eq_true rfl) ⟨by omega, by omega⟩ dX8_see_36) hL (fun H locs hI hL => ?_)
        refine lv_goto (tgt := 55) hx hb dX8_see_39 (by decide) ?_
        exact hm_lret hx hb hr hI hL h (by omega) (by omega) hlocks dX8_see_55
    · replace h := it_p c8 h
      exact hJ14 _ _ _ _ h hI hL (lv_sub hl [0] rfl)

def fX8_put__J127 (x0 : Nat) (x1 : Int32) (x2 : Int32) (x3 : Int64)   (σ : hmS) : Option (Int32 × hmS) :=
  ob (gI σ x0 10 28) fun f1 => some (f1, σ)
def fX8_put__J91 (x0 : Nat) (x1 : Int32) (x2 : Int32) (x3 : Int64)   (σ : hmS) : Option (Int32 × hmS) :=
  ob (gI σ x0 10 28) fun f1 => if f1 = 0 then
    ob (gR σ x0 10 20) fun f4 => ob (gI σ x0 10 32) fun f6 => ob (gI σ x0 10 31) fun f8 => ob (gI σ x0 10 31) fun f10 => ob f4 fun a12 => ob (sL σ a12 (((4 : Int32) * (((12 : Int32) * f6) + (f8 / (4 : Int32)))) + (f10 - f10 / (4 : Int32) * (4 : Int32))) x3) fun σ13 => fX8_put__J127 x0 x1 x2 x3 σ13
  else
    fX8_put__J127 x0 x1 x2 x3 σ
def fX8_put__J14 (x0 : Nat) (x1 : Int32) (x2 : Int32) (x3 : Int64)   (σ : hmS) : Option (Int32 × hmS) :=
  ob (wF σ x0 10 28 (.int (-1 : Int32))) fun σ1 => some ((-1 : Int32), σ1)
def fX8_put_ (x0 : Nat) (x1 : Int32) (x2 : Int32) (x3 : Int64) (σ : hmS) : Option (Int32 × hmS) :=
  cb (fX8_isPlace x1 σ) fun r3 σ2 => if r3 = 0 then
    fX8_put__J14 x0 x1 x2 x3 σ2
  else
    cb (fX8_isName x2 σ2) fun r7 σ6 => if r7 = 0 then
      fX8_put__J14 x0 x1 x2 x3 σ6
    else
      ob (gR σ6 x0 10 22) fun f9 => ob f9 fun a11 => ob (aI σ6 0 a11 x1) fun e12 => if e12 = (-3 : Int32) then
        ob (wF σ6 x0 10 28 (.int (9 : Int32))) fun σ37 => some ((9 : Int32), σ37)
      else
        ob (gR σ6 x0 10 17) fun f15 => ob f15 fun a17 => ob (aI σ6 0 a17 e12) fun e18 => ob (obC σ6 x0 10) fun _ => cb (fX8_find x0 e18 e12 x2 (1 : Int32) σ6) fun r23 σ22 => ob (gI σ22 x0 10 28) fun f24 => if f24 = 0 then
          ob (gI σ22 x0 10 32) fun f27 => if f27 = (-3 : Int32) then
            ob (gR σ22 x0 10 9) fun f30 => ob (gI σ22 x0 10 31) fun f32 => ob f30 fun a34 => ob (sL σ22 a34 f32 x3) fun σ35 => fX8_put__J127 x0 x1 x2 x3 σ35
          else
            fX8_put__J91 x0 x1 x2 x3 σ22
        else
          fX8_put__J91 x0 x1 x2 x3 σ22
set_option maxHeartbeats 4000000 in
set_option maxRecDepth 100000 in
theorem mX8_put_ (l : Launch) (E : hmG) {x0 : Nat} {x1 : Int32} {x2 : Int32} {x3 : Int64} {σ σ' : hmS} {r : Int32} (h : fX8_put_ x0 x1 x2 x3 σ = some (r, σ')) : Met l yX8_put_ [Cond.code yX8_put_ cX8_put_ 8 (some .int)] { frames := 3, cells := 0, slots := 0, locals := 75 } (hmPc E [.ref x0, .int x1, .int x2, .long x3] σ) (hmQc E (some (.int r)) σ') 0 0 (fun q => hmL E ≤ q) := by
  refine Met.ofW (cc := cX8_put_) (maxL := 8) (ret := (some .int)) (by decide) rfl ?_
  intro p e s m args below meth c s₁ B hml hv
  obtain ⟨rfl, hK, hI⟩ := hv
  have S : CallFix p m c cX8_put_ 8 s ([.ref x0, .int x1, .int x2, .long x3] : List Value).toArray [] RX8 := ⟨B.exec, B.bytes, hml, findClass_of_methodNamed B.named, fun w hw => by cases hw⟩
  have hx := S.1
  have hb := S.2.1
  have hr := B.returns
  have hlocks := B.notSynchronized
  have hL : hmLo E [] := hmLo.nil
  have hl : lv_has ((lg_sl ([.ref x0, .int x1, .int x2, .long x3]) ++ List.replicate (8 - (lg_sl ([.ref x0, .int x1, .int x2, .long x3])).length) Slot.unset).toArray) 8 [(0, .ref x0), (1, .int x1), (2, .int x2), (3, .long x3)] := by exact lv_entry _ (Nat.le_of_ble_eq_true rfl)
  rw [lg_entry_eq]
  generalize (lg_sl ([.ref x0, .int x1, .int x2, .long x3]) ++ List.replicate (8 - (lg_sl ([.ref x0, .int x1, .int x2, .long x3])).length) Slot.unset).toArray = ls at hl ⊢
  generalize hRe : (headSpec [Cond.code yX8_put_ cX8_put_ 8 (some .int)] { frames := 3, cells := 0, slots := 0, locals := 75 }).room = R
  have hR1 : R.frames = 3 ∧ R.cells = 0 ∧ R.slots = 0 ∧ R.locals = 75 := by rw [← hRe]; exact ⟨rfl, rfl, rfl, rfl⟩
  clear hRe B hml
  generalize s.heap = H at hI ⊢
  generalize ([] : List Loc) = locs at hL ⊢
  have hmain := h
  clear h
  have hJ127 : ∀  (σ : hmS) (H : Heap) (locs : List Loc) (ls : Array Slot), fX8_put__J127 x0 x1 x2 x3   σ = some (r, σ') → hmI E σ H → hmLo E locs → lv_has ls 8 [(0, .ref x0)] → W p l e R s m ([.ref x0, .int x1, .int x2, .long x3] : List Value).toArray below meth c H locs 0 0 (MQ below (hmQc E (some (.int r)) σ') ([.ref x0, .int x1, .int x2, .long x3] : List Value).toArray s 0 0 (fun q => hmL E ≤ q)) (F0 m 127 ls []) := by
    intro  σ H locs ls h hI hL hl
    unfold fX8_put__J127 at h
    refine lv_aload_n hx hb dX8_put__127 rfl (lv_at hl 0 rfl) ?_
    replace h := ob_s h
    obtain ⟨f1, h2, h⟩ := h
    refine hm_get S hK hI (pf_X8_132_10 hK) (gI_s h2) dX8_put__128 ?_
    exact hm_iret hx hb hr hI hL h (by omega) (by omega) hlocks dX8_put__131
  have hJ91 : ∀  (σ : hmS) (H : Heap) (locs : List Loc) (ls : Array Slot), fX8_put__J91 x0 x1 x2 x3   σ = some (r, σ') → hmI E σ H → hmLo E locs → lv_has ls 8 [(0, .ref x0), (3, .long x3)] → W p l e R s m ([.ref x0, .int x1, .int x2, .long x3] : List Value).toArray below meth c H locs 0 0 (MQ below (hmQc E (some (.int r)) σ') ([.ref x0, .int x1, .int x2, .long x3] : List Value).toArray s 0 0 (fun q => hmL E ≤ q)) (F0 m 91 ls []) := by
    intro  σ H locs ls h hI hL hl
    unfold fX8_put__J91 at h
    refine lv_aload_n hx hb dX8_put__91 rfl (lv_at hl 0 rfl) ?_
    replace h := ob_s h
    obtain ⟨f1, h2, h⟩ := h
    refine hm_get S hK hI (pf_X8_132_10 hK) (gI_s h2) dX8_put__92 ?_
    refine lv_if_ne (tgt := 127) hx hb dX8_put__95 (by decide) (fun c3 => ?_) (fun c3 => ?_)
    · replace h := it_n c3 h
      exact hJ127 _ _ _ _ h hI hL (lv_sub hl [0] rfl)
    · replace h := it_p c3 h
      refine lv_aload_n hx hb dX8_put__98 rfl (lv_at hl 0 rfl) ?_
      replace h := ob_s h
      obtain ⟨f4, h5, h⟩ := h
      refine hm_get S hK hI (pf_X8_66_10 hK) (gR_s h5) dX8_put__99 ?_
      refine lv_iconst (v := 4) hx hb dX8_put__102 (by decide) ?_
      refine lv_bipush (v := 12) hx hb dX8_put__103 (by decide) ?_
      refine lv_aload_n hx hb dX8_put__105 rfl (lv_at hl 0 rfl) ?_
      replace h := ob_s h
      obtain ⟨f6, h7, h⟩ := h
      refine hm_get S hK hI (pf_X8_149_10 hK) (gI_s h7) dX8_put__106 ?_
      refine lv_imul hx hb dX8_put__109 ?_
      refine lv_aload_n hx hb dX8_put__110 rfl (lv_at hl 0 rfl) ?_
      replace h := ob_s h
      obtain ⟨f8, h9, h⟩ := h
      refine hm_get S hK hI (pf_X8_146_10 hK) (gI_s h9) dX8_put__111 ?_
      refine lv_iconst (v := 4) hx hb dX8_put__114 (by decide) ?_
      refine lv_idiv hx hb dX8_put__115 (by decide) ?_
      refine lv_iadd hx hb dX8_put__116 ?_
      refine lv_imul hx hb dX8_put__117 ?_
      refine lv_aload_n hx hb dX8_put__118 rfl (lv_at hl 0 rfl) ?_
      replace h := ob_s h
      obtain ⟨f10, h11, h⟩ := h
      refine hm_get S hK hI (pf_X8_146_10 hK) (gI_s h11) dX8_put__119 ?_
      refine lv_iconst (v := 4) hx hb dX8_put__122 (by decide) ?_
      refine lv_irem hx hb dX8_put__123 (by decide) ?_
      refine lv_iadd hx hb dX8_put__124 ?_
      refine lv_lload_n hx hb dX8_put__125 rfl (lv_at hl 1 rfl) ?_
      replace h := ob_s h
      obtain ⟨a12, rfl, h⟩ := h
      have hl : lv_has ls 8 [(0, .ref x0), (3, .long x3)] := hl
      replace h := ob_s h
      obtain ⟨σ13, h14, h⟩ := h
      refine hm_last S hK hI hL h14 dX8_put__126 (fun H locs hI hL => ?_)
      exact hJ127 _ _ _ _ h hI hL (lv_sub hl [0] rfl)
  have hJ14 : ∀  (σ : hmS) (H : Heap) (locs : List Loc) (ls : Array Slot), fX8_put__J14 x0 x1 x2 x3   σ = some (r, σ') → hmI E σ H → hmLo E locs → lv_has ls 8 [(0, .ref x0)] → W p l e R s m ([.ref x0, .int x1, .int x2, .long x3] : List Value).toArray below meth c H locs 0 0 (MQ below (hmQc E (some (.int r)) σ') ([.ref x0, .int x1, .int x2, .long x3] : List Value).toArray s 0 0 (fun q => hmL E ≤ q)) (F0 m 14 ls []) := by
    intro  σ H locs ls h hI hL hl
    unfold fX8_put__J14 at h
    refine lv_aload_n hx hb dX8_put__14 rfl (lv_at hl 0 rfl) ?_
    refine lv_iconst (v := -1) hx hb dX8_put__15 (by decide) ?_
    replace h := ob_s h
    obtain ⟨σ1, h2, h⟩ := h
    refine hm_put S hK hI hL (pf_X8_132_10 hK) h2 ⟨rfl, rfl⟩ dX8_put__16 (fun H locs hI hL => ?_)
    refine lv_iconst (v := -1) hx hb dX8_put__19 (by decide) ?_
    exact hm_iret hx hb hr hI hL h (by omega) (by omega) hlocks dX8_put__20
  have h := hmain
  clear hmain
  unfold fX8_put_ at h
  refine lv_iload_n hx hb dX8_put__0 rfl (lv_at hl 1 rfl) ?_
  replace h := cb_s h
  obtain ⟨r3, σ2, h1, h⟩ := h
  refine hm_call (hm_runS (As := [.int x1]) (rest := []) S hK hI (mX8_isPlace l E h1) (pm_X8_126 hK) (ps_X8_isPlace hK) ⟨by omega, by omega⟩ rfl hl.1 (Nat.le_of_ble_eq_true rfl) ⟨by omega, by omega⟩ dX8_put__1) hL (fun H locs hI hL => ?_)
  refine lv_if_eq (tgt := 14) hx hb dX8_put__4 (by decide) (fun c4 => ?_) (fun c4 => ?_)
  · replace h := it_p c4 h
    exact hJ14 _ _ _ _ h hI hL (lv_sub hl [0] rfl)
  · replace h := it_n c4 h
    refine lv_iload_n hx hb dX8_put__7 rfl (lv_at hl 2 rfl) ?_
    replace h := cb_s h
    obtain ⟨r7, σ6, h5, h⟩ := h
    refine hm_call (hm_runS (As := [.int x2]) (rest := []) S hK hI (mX8_isName l E h5) (pm_X8_108 hK) (ps_X8_isName hK) ⟨by omega, by omega⟩ rfl hl.1 (Nat.le_of_ble_eq_true rfl) ⟨by omega, by omega⟩ dX8_put__8) hL (fun H locs hI hL => ?_)
    refine lv_if_ne (tgt := 21) hx hb dX8_put__11 (by decide) (fun c8 => ?_) (fun c8 => ?_)
    · replace h := it_n c8 h
      refine lv_aload_n hx hb dX8_put__21 rfl (lv_at hl 0 rfl) ?_
      replace h := ob_s h
      obtain ⟨f9, h10, h⟩ := h
      refine hm_get S hK hI (pf_X8_72_10 hK) (gR_s h10) dX8_put__22 ?_
      refine lv_iload_n hx hb dX8_put__25 rfl (lv_at hl 1 rfl) ?_
      replace h := ob_s h
      obtain ⟨a11, rfl, h⟩ := h
      have hl : lv_has ls 8 [(0, .ref x0), (1, .int x1), (2, .int x2), (3, .long x3)] := hl
      replace h := ob_s h
      obtain ⟨e12, h13, h⟩ := h
      refine hm_iald S hK hI h13 dX8_put__26 ?_
      refine lv_istore (lv' := [(5, .int e12), (0, .ref x0), (1, .int x1), (2, .int x2), (3, .long x3)]) hx hb dX8_put__27 hl (by decide) rfl (fun ls hl => ?_)
      refine lv_iload hx hb dX8_put__29 (lv_at hl 0 rfl) ?_
      refine lv_bipush (v := -3) hx hb dX8_put__31 (by decide) ?_
      refine lv_icmp_ne (tgt := 45) hx hb dX8_put__33 (by decide) (fun c14 => ?_) (fun c14 => ?_)
      · replace h := it_n c14 h
        refine lv_aload_n hx hb dX8_put__45 rfl (lv_at hl 1 rfl) ?_
        refine lv_aload_n hx hb dX8_put__46 rfl (lv_at hl 1 rfl) ?_
        replace h := ob_s h
        obtain ⟨f15, h16, h⟩ := h
        refine hm_get S hK hI (pf_X8_57_10 hK) (gR_s h16) dX8_put__47 ?_
        refine lv_iload hx hb dX8_put__50 (lv_at hl 0 rfl) ?_
        replace h := ob_s h
        obtain ⟨a17, rfl, h⟩ := h
        have hl : lv_has ls 8 [(5, .int e12), (0, .ref x0), (1, .int x1), (2, .int x2), (3, .long x3)] := hl
        replace h := ob_s h
        obtain ⟨e18, h19, h⟩ := h
        refine hm_iald S hK hI h19 dX8_put__52 ?_
        refine lv_iload hx hb dX8_put__53 (lv_at hl 0 rfl) ?_
        refine lv_iload_n hx hb dX8_put__55 rfl (lv_at hl 3 rfl) ?_
        refine lv_iconst (v := 1) hx hb dX8_put__56 (by decide) ?_
        replace h := ob_s h
        obtain ⟨_, h21, h⟩ := h
        replace h := cb_s h
        obtain ⟨r23, σ22, h20, h⟩ := h
        refine hm_call (hm_runV (As := [.int e18, .int e12, .int x2, .int (1 : Int32)]) (rest := []) (ci := 10) S hK hI (obC_s h21) rfl (mX8_find l E h20) (pm_X8_167 hK) (pi_X8_find hK) (pl_X8_X8_find hK) ⟨by omega, by omega⟩ rfl hl.1 (Nat.le_of_ble_eq_true rfl) ⟨by omega, by omega⟩ dX8_put__57) hL (fun H locs hI hL => ?_)
        refine lv_lstore (lv' := [(6, .long r23), (5, .int e12), (0, .ref x0), (1, .int x1), (2, .int x2), (3, .long x3)]) hx hb dX8_put__60 hl (by decide) rfl (fun ls hl => ?_)
        refine lv_aload_n hx hb dX8_put__62 rfl (lv_at hl 2 rfl) ?_
        replace h := ob_s h
        obtain ⟨f24, h25, h⟩ := h
        refine hm_get S hK hI (pf_X8_132_10 hK) (gI_s h25) dX8_put__63 ?_
        refine lv_if_ne (tgt := 91) hx hb dX8_put__66 (by decide) (fun c26 => ?_) (fun c26 => ?_)
        · replace h := it_n c26 h
          exact hJ91 _ _ _ _ h hI hL (lv_sub hl [2, 5] rfl)
        · replace h := it_p c26 h
          refine lv_aload_n hx hb dX8_put__69 rfl (lv_at hl 2 rfl) ?_
          replace h := ob_s h
          obtain ⟨f27, h28, h⟩ := h
          refine hm_get S hK hI (pf_X8_149_10 hK) (gI_s h28) dX8_put__70 ?_
          refine lv_bipush (v := -3) hx hb dX8_put__73 (by decide) ?_
          refine lv_icmp_ne (tgt := 91) hx hb dX8_put__75 (by decide) (fun c29 => ?_) (fun c29 => ?_)
          · replace h := it_n c29 h
            exact hJ91 _ _ _ _ h hI hL (lv_sub hl [2, 5] rfl)
          · replace h := it_p c29 h
            refine lv_aload_n hx hb dX8_put__78 rfl (lv_at hl 2 rfl) ?_
            replace h := ob_s h
            obtain ⟨f30, h31, h⟩ := h
            refine hm_get S hK hI (pf_X8_34_10 hK) (gR_s h31) dX8_put__79 ?_
            refine lv_aload_n hx hb dX8_put__82 rfl (lv_at hl 2 rfl) ?_
            replace h := ob_s h
            obtain ⟨f32, h33, h⟩ := h
            refine hm_get S hK hI (pf_X8_146_10 hK) (gI_s h33) dX8_put__83 ?_
            refine lv_lload_n hx hb dX8_put__86 rfl (lv_at hl 5 rfl) ?_
            replace h := ob_s h
            obtain ⟨a34, rfl, h⟩ := h
            have hl : lv_has ls 8 [(6, .long r23), (5, .int e12), (0, .ref x0), (1, .int x1), (2, .int x2), (3, .long x3)] := hl
            replace h := ob_s h
            obtain ⟨σ35, h36, h⟩ := h
            refine hm_last S hK hI hL h36 dX8_put__87 (fun H locs hI hL => ?_)
            refine lv_goto (tgt := 127) hx hb dX8_put__88 (by decide) ?_
            exact hJ127 _ _ _ _ h hI hL (lv_sub hl [2] rfl)
      · replace h := it_p c14 h
        refine lv_aload_n hx hb dX8_put__36 rfl (lv_at hl 1 rfl) ?_
        refine lv_bipush (v := 9) hx hb dX8_put__37 (by decide) ?_
        replace h := ob_s h
        obtain ⟨σ37, h38, h⟩ := h
        refine hm_put S hK hI hL (pf_X8_132_10 hK) h38 ⟨rfl, rfl⟩ dX8_put__39 (fun H locs hI hL => ?_)
        refine lv_bipush (v := 9) hx hb dX8_put__42 (by decide) ?_
        exact hm_iret hx hb hr hI hL h (by omega) (by omega) hlocks dX8_put__44
    · replace h := it_p c8 h
      exact hJ14 _ _ _ _ h hI hL (lv_sub hl [0] rfl)

def fX8_that_J174 (x0 : Nat) (x1 : Int32) (x2 : Int32) (x3 : Int32)  (w0 : Int32) (w1 : Int32) (w2 : Option Nat) (σ : hmS) : Option (Int32 × hmS) :=
  ob w2 fun a1 => ob (sI σ 0 a1 w1 w0) fun σ2 => ob (gI σ2 x0 10 28) fun f4 => some (f4, σ2)
def fX8_that_J148 (x0 : Nat) (x1 : Int32) (x2 : Int32) (x3 : Int32)  (v4 : Int32) (w0 : Int32) (σ : hmS) : Option (Int32 × hmS) :=
  ob (wF σ x0 10 28 (.int w0)) fun σ1 => ob (gR σ1 x0 10 22) fun f3 => ob (gI σ1 x0 10 28) fun f5 => if f5 = 0 then
    fX8_that_J174 x0 x1 x2 x3 v4 x3 f3 σ1
  else
    ob (gR σ1 x0 10 22) fun f8 => ob f8 fun a10 => ob (aI σ1 0 a10 x3) fun e11 => fX8_that_J174 x0 x1 x2 x3 e11 x3 f3 σ1
def fX8_that_J123 (x0 : Nat) (x1 : Int32) (x2 : Int32) (x3 : Int32)  (v4 : Int32) (v5 : Int32) (σ : hmS) : Option (Int32 × hmS) :=
  if v5 = (-3 : Int32) then
    fX8_that_J148 x0 x1 x2 x3 v4 (8 : Int32) σ
  else
    if v4 = (-3 : Int32) then
      fX8_that_J148 x0 x1 x2 x3 v4 (4 : Int32) σ
    else
      fX8_that_J148 x0 x1 x2 x3 v4 (0 : Int32) σ
def fX8_that_J109 (x0 : Nat) (x1 : Int32) (x2 : Int32) (x3 : Int32) (K62 : Int32 → Int32 → hmS → Option (Int32 × hmS)) (v5 : Int32) (w0 : Int32) (σ : hmS) : Option (Int32 × hmS) :=
  ob (gR σ x0 10 2) fun f1 => ob f1 fun a3 => ob (aI σ 0 a3 v5) fun e4 => K62 w0 e4 σ
def fX8_that_J91 (x0 : Nat) (x1 : Int32) (x2 : Int32) (x3 : Int32) (K62 : Int32 → Int32 → hmS → Option (Int32 × hmS)) (v5 : Int32) (σ : hmS) : Option (Int32 × hmS) :=
  fX8_that_J109 x0 x1 x2 x3 K62 v5 (-3 : Int32) σ
def fX8_that_B62 (x0 : Nat) (x1 : Int32) (x2 : Int32) (x3 : Int32)  (K62 : Int32 → Int32 → hmS → Option (Int32 × hmS)) (v4 : Int32) (v5 : Int32) (σ : hmS) : Option (Int32 × hmS) :=
  if v5 = (-3 : Int32) then
    fX8_that_J123 x0 x1 x2 x3 v4 v5 σ
  else
    if v5 = x2 then
      fX8_that_J123 x0 x1 x2 x3 v4 v5 σ
    else
      if v4 = (-3 : Int32) then
        fX8_that_J91 x0 x1 x2 x3 K62 v5 σ
      else
        ob (obC σ x0 10) fun _ => cb (fX8_isBound x0 v5 σ) fun r7 σ6 => if r7 = 0 then
          fX8_that_J91 x0 x1 x2 x3 K62 v5 σ6
        else
          ob (gR σ6 x0 10 19) fun f9 => ob f9 fun a11 => ob (aI σ6 0 a11 (((12 : Int32) * v4) + v5)) fun e12 => fX8_that_J109 x0 x1 x2 x3 K62 v5 e12 σ6
def fX8_that_L62 (x0 : Nat) (x1 : Int32) (x2 : Int32) (x3 : Int32)  : Nat → Int32 → Int32 → hmS → Option (Int32 × hmS)
  | 0 => fun _ _ _ => none
  | n + 1 => fX8_that_B62 x0 x1 x2 x3  (fX8_that_L62 x0 x1 x2 x3  n)
def fX8_that_J22 (x0 : Nat) (x1 : Int32) (x2 : Int32) (x3 : Int32)   (σ : hmS) : Option (Int32 × hmS) :=
  ob (wF σ x0 10 28 (.int (-1 : Int32))) fun σ1 => some ((-1 : Int32), σ1)
def fX8_that (x0 : Nat) (x1 : Int32) (x2 : Int32) (x3 : Int32) (σ : hmS) : Option (Int32 × hmS) :=
  cb (fX8_isPlace x1 σ) fun r3 σ2 => if r3 = 0 then
    fX8_that_J22 x0 x1 x2 x3 σ2
  else
    ob (obC σ2 x0 10) fun _ => cb (fX8_isType x0 x2 σ2) fun r8 σ7 => if r8 = 0 then
      fX8_that_J22 x0 x1 x2 x3 σ7
    else
      cb (fX8_isPlace x3 σ7) fun r12 σ11 => if r12 = 0 then
        fX8_that_J22 x0 x1 x2 x3 σ11
      else
        ob (gR σ11 x0 10 22) fun f14 => ob f14 fun a16 => ob (aI σ11 0 a16 x1) fun e17 => if e17 = (-3 : Int32) then
          ob (wF σ11 x0 10 28 (.int (9 : Int32))) fun σ25 => some ((9 : Int32), σ25)
        else
          ob (gR σ11 x0 10 17) fun f20 => ob f20 fun a22 => ob (aI σ11 0 a22 e17) fun e23 => fX8_that_L62 x0 x1 x2 x3 20 e17 e23 σ11
set_option maxHeartbeats 4000000 in
set_option maxRecDepth 100000 in
theorem mX8_that (l : Launch) (E : hmG) {x0 : Nat} {x1 : Int32} {x2 : Int32} {x3 : Int32} {σ σ' : hmS} {r : Int32} (h : fX8_that x0 x1 x2 x3 σ = some (r, σ')) : Met l yX8_that [Cond.code yX8_that cX8_that 6 (some .int)] { frames := 2, cells := 0, slots := 0, locals := 43 } (hmPc E [.ref x0, .int x1, .int x2, .int x3] σ) (hmQc E (some (.int r)) σ') 0 0 (fun q => hmL E ≤ q) := by
  refine Met.ofW (cc := cX8_that) (maxL := 6) (ret := (some .int)) (by decide) rfl ?_
  intro p e s m args below meth c s₁ B hml hv
  obtain ⟨rfl, hK, hI⟩ := hv
  have S : CallFix p m c cX8_that 6 s ([.ref x0, .int x1, .int x2, .int x3] : List Value).toArray [] RX8 := ⟨B.exec, B.bytes, hml, findClass_of_methodNamed B.named, fun w hw => by cases hw⟩
  have hx := S.1
  have hb := S.2.1
  have hr := B.returns
  have hlocks := B.notSynchronized
  have hL : hmLo E [] := hmLo.nil
  have hl : lv_has ((lg_sl ([.ref x0, .int x1, .int x2, .int x3]) ++ List.replicate (6 - (lg_sl ([.ref x0, .int x1, .int x2, .int x3])).length) Slot.unset).toArray) 6 [(0, .ref x0), (1, .int x1), (2, .int x2), (3, .int x3)] := by exact lv_entry _ (Nat.le_of_ble_eq_true rfl)
  rw [lg_entry_eq]
  generalize (lg_sl ([.ref x0, .int x1, .int x2, .int x3]) ++ List.replicate (6 - (lg_sl ([.ref x0, .int x1, .int x2, .int x3])).length) Slot.unset).toArray = ls at hl ⊢
  generalize hRe : (headSpec [Cond.code yX8_that cX8_that 6 (some .int)] { frames := 2, cells := 0, slots := 0, locals := 43 }).room = R
  have hR1 : R.frames = 2 ∧ R.cells = 0 ∧ R.slots = 0 ∧ R.locals = 43 := by rw [← hRe]; exact ⟨rfl, rfl, rfl, rfl⟩
  clear hRe B hml
  generalize s.heap = H at hI ⊢
  generalize ([] : List Loc) = locs at hL ⊢
  have hmain := h
  clear h
  have hJ174 : ∀ (w0 : Int32) (w1 : Int32) (w2 : Option Nat) (σ : hmS) (H : Heap) (locs : List Loc) (ls : Array Slot), fX8_that_J174 x0 x1 x2 x3  w0 w1 w2 σ = some (r, σ') → hmI E σ H → hmLo E locs → lv_has ls 6 [(0, .ref x0)] → W p l e R s m ([.ref x0, .int x1, .int x2, .int x3] : List Value).toArray below meth c H locs 0 0 (MQ below (hmQc E (some (.int r)) σ') ([.ref x0, .int x1, .int x2, .int x3] : List Value).toArray s 0 0 (fun q => hmL E ≤ q)) (F0 m 174 ls [.int w0, .int w1, va_rf w2]) := by
    intro w0 w1 w2 σ H locs ls h hI hL hl
    unfold fX8_that_J174 at h
    replace h := ob_s h
    obtain ⟨a1, rfl, h⟩ := h
    have hl : lv_has ls 6 [(0, .ref x0)] := hl
    replace h := ob_s h
    obtain ⟨σ2, h3, h⟩ := h
    refine hm_iast S hK hI hL h3 dX8_that_174 (fun H locs hI hL => ?_)
    refine lv_aload_n hx hb dX8_that_175 rfl (lv_at hl 0 rfl) ?_
    replace h := ob_s h
    obtain ⟨f4, h5, h⟩ := h
    refine hm_get S hK hI (pf_X8_132_10 hK) (gI_s h5) dX8_that_176 ?_
    exact hm_iret hx hb hr hI hL h (by omega) (by omega) hlocks dX8_that_179
  have hJ148 : ∀ (v4 : Int32) (w0 : Int32) (σ : hmS) (H : Heap) (locs : List Loc) (ls : Array Slot), fX8_that_J148 x0 x1 x2 x3  v4 w0 σ = some (r, σ') → hmI E σ H → hmLo E locs → lv_has ls 6 [(0, .ref x0), (3, .int x3), (4, .int v4)] → W p l e R s m ([.ref x0, .int x1, .int x2, .int x3] : List Value).toArray below meth c H locs 0 0 (MQ below (hmQc E (some (.int r)) σ') ([.ref x0, .int x1, .int x2, .int x3] : List Value).toArray s 0 0 (fun q => hmL E ≤ q)) (F0 m 148 ls [.int w0, .ref x0]) := by
    intro v4 w0 σ H locs ls h hI hL hl
    unfold fX8_that_J148 at h
    replace h := ob_s h
    obtain ⟨σ1, h2, h⟩ := h
    refine hm_put S hK hI hL (pf_X8_132_10 hK) h2 ⟨rfl, rfl⟩ dX8_that_148 (fun H locs hI hL => ?_)
    refine lv_aload_n hx hb dX8_that_151 rfl (lv_at hl 0 rfl) ?_
    replace h := ob_s h
    obtain ⟨f3, h4, h⟩ := h
    refine hm_get S hK hI (pf_X8_72_10 hK) (gR_s h4) dX8_that_152 ?_
    refine lv_iload_n hx hb dX8_that_155 rfl (lv_at hl 1 rfl) ?_
    refine lv_aload_n hx hb dX8_that_156 rfl (lv_at hl 0 rfl) ?_
    replace h := ob_s h
    obtain ⟨f5, h6, h⟩ := h
    refine hm_get S hK hI (pf_X8_132_10 hK) (gI_s h6) dX8_that_157 ?_
    refine lv_if_ne (tgt := 168) hx hb dX8_that_160 (by decide) (fun c7 => ?_) (fun c7 => ?_)
    · replace h := it_n c7 h
      refine lv_aload_n hx hb dX8_that_168 rfl (lv_at hl 0 rfl) ?_
      replace h := ob_s h
      obtain ⟨f8, h9, h⟩ := h
      refine hm_get S hK hI (pf_X8_72_10 hK) (gR_s h9) dX8_that_169 ?_
      refine lv_iload_n hx hb dX8_that_172 rfl (lv_at hl 1 rfl) ?_
      replace h := ob_s h
      obtain ⟨a10, rfl, h⟩ := h
      have hl : lv_has ls 6 [(0, .ref x0), (3, .int x3), (4, .int v4)] := hl
      replace h := ob_s h
      obtain ⟨e11, h12, h⟩ := h
      refine hm_iald S hK hI h12 dX8_that_173 ?_
      exact hJ174 _ _ _ _ _ _ _ h hI hL (lv_sub hl [0] rfl)
    · replace h := it_p c7 h
      refine lv_iload hx hb dX8_that_163 (lv_at hl 2 rfl) ?_
      refine lv_goto (tgt := 174) hx hb dX8_that_165 (by decide) ?_
      exact hJ174 _ _ _ _ _ _ _ h hI hL (lv_sub hl [0] rfl)
  have hJ123 : ∀ (v4 : Int32) (v5 : Int32) (σ : hmS) (H : Heap) (locs : List Loc) (ls : Array Slot), fX8_that_J123 x0 x1 x2 x3  v4 v5 σ = some (r, σ') → hmI E σ H → hmLo E locs → lv_has ls 6 [(0, .ref x0), (3, .int x3), (4, .int v4), (5, .int v5)] → W p l e R s m ([.ref x0, .int x1, .int x2, .int x3] : List Value).toArray below meth c H locs 0 0 (MQ below (hmQc E (some (.int r)) σ') ([.ref x0, .int x1, .int x2, .int x3] : List Value).toArray s 0 0 (fun q => hmL E ≤ q)) (F0 m 123 ls []) := by
    intro v4 v5 σ H locs ls h hI hL hl
    unfold fX8_that_J123 at h
    refine lv_aload_n hx hb dX8_that_123 rfl (lv_at hl 0 rfl) ?_
    refine lv_iload hx hb dX8_that_124 (lv_at hl 3 rfl) ?_
    refine lv_bipush (v := -3) hx hb dX8_that_126 (by decide) ?_
    refine lv_icmp_ne (tgt := 136) hx hb dX8_that_128 (by decide) (fun c1 => ?_) (fun c1 => ?_)
    · replace h := it_n c1 h
      refine lv_iload hx hb dX8_that_136 (lv_at hl 2 rfl) ?_
      refine lv_bipush (v := -3) hx hb dX8_that_138 (by decide) ?_
      refine lv_icmp_ne (tgt := 147) hx hb dX8_that_140 (by decide) (fun c2 => ?_) (fun c2 => ?_)
      · replace h := it_n c2 h
        refine lv_iconst (v := 0) hx hb dX8_that_147 (by decide) ?_
        exact hJ148 _ _ _ _ _ _ h hI hL (lv_sub hl [0, 1, 2] rfl)
      · replace h := it_p c2 h
        refine lv_iconst (v := 4) hx hb dX8_that_143 (by decide) ?_
        refine lv_goto (tgt := 148) hx hb dX8_that_144 (by decide) ?_
        exact hJ148 _ _ _ _ _ _ h hI hL (lv_sub hl [0, 1, 2] rfl)
    · replace h := it_p c1 h
      refine lv_bipush (v := 8) hx hb dX8_that_131 (by decide) ?_
      refine lv_goto (tgt := 148) hx hb dX8_that_133 (by decide) ?_
      exact hJ148 _ _ _ _ _ _ h hI hL (lv_sub hl [0, 1, 2] rfl)
  have hB62 : ∀ (K62 : Int32 → Int32 → hmS → Option (Int32 × hmS)), (∀ (v4 : Int32) (v5 : Int32) (σ : hmS) (H : Heap) (locs : List Loc) (ls : Array Slot), K62 v4 v5 σ = some (r, σ') → hmI E σ H → hmLo E locs → lv_has ls 6 [(0, .ref x0), (2, .int x2), (3, .int x3), (4, .int v4), (5, .int v5)] → W p l e R s m ([.ref x0, .int x1, .int x2, .int x3] : List Value).toArray below meth c H locs 0 0 (MQ below (hmQc E (some (.int r)) σ') ([.ref x0, .int x1, .int x2, .int x3] : List Value).toArray s 0 0 (fun q => hmL E ≤ q)) (F0 m 62 ls [])) → ∀ (v4 : Int32) (v5 : Int32) (σ : hmS) (H : Heap) (locs : List Loc) (ls : Array Slot), fX8_that_B62 x0 x1 x2 x3  K62 v4 v5 σ = some (r, σ') → hmI E σ H → hmLo E locs → lv_has ls 6 [(0, .ref x0), (2, .int x2), (3, .int x3), (4, .int v4), (5, .int v5)] → W p l e R s m ([.ref x0, .int x1, .int x2, .int x3] : List Value).toArray below meth c H locs 0 0 (MQ below (hmQc E (some (.int r)) σ') ([.ref x0, .int x1, .int x2, .int x3] : List Value).toArray s 0 0 (fun q => hmL E ≤ q)) (F0 m 62 ls []) := by
    intro K62 hk62
    have hJ109 : ∀ (v5 : Int32) (w0 : Int32) (σ : hmS) (H : Heap) (locs : List Loc) (ls : Array Slot), fX8_that_J109 x0 x1 x2 x3 K62 v5 w0 σ = some (r, σ') → hmI E σ H → hmLo E locs → lv_has ls 6 [(0, .ref x0), (2, .int x2), (3, .int x3), (5, .int v5)] → W p l e R s m ([.ref x0, .int x1, .int x2, .int x3] : List Value).toArray below meth c H locs 0 0 (MQ below (hmQc E (some (.int r)) σ') ([.ref x0, .int x1, .int x2, .int x3] : List Value).toArray s 0 0 (fun q => hmL E ≤ q)) (F0 m 109 ls [.int w0]) := by
      intro v5 w0 σ H locs ls h hI hL hl
      unfold fX8_that_J109 at h
      refine lv_istore (lv' := [(4, .int w0), (0, .ref x0), (2, .int x2), (3, .int x3), (5, .int v5)]) hx hb dX8_that_109 hl (by decide) rfl (fun ls hl => ?_)
      refine lv_aload_n hx hb dX8_that_111 rfl (lv_at hl 1 rfl) ?_
      replace h := ob_s h
      obtain ⟨f1, h2, h⟩ := h
      refine hm_get S hK hI (pf_X8_13_10 hK) (gR_s h2) dX8_that_112 ?_
      refine lv_iload hx hb dX8_that_115 (lv_at hl 4 rfl) ?_
      replace h := ob_s h
      obtain ⟨a3, rfl, h⟩ := h
      have hl : lv_has ls 6 [(4, .int w0), (0, .ref x0), (2, .int x2), (3, .int x3), (5, .int v5)] := hl
      replace h := ob_s h
      obtain ⟨e4, h5, h⟩ := h
      refine hm_iald S hK hI h5 dX8_that_117 ?_
      refine lv_istore (lv' := [(5, .int e4), (4, .int w0), (0, .ref x0), (2, .int x2), (3, .int x3)]) hx hb dX8_that_118 hl (by decide) rfl (fun ls hl => ?_)
      refine lv_goto (tgt := 62) hx hb dX8_that_120 (by decide) ?_
      exact hk62 _ _ _ _ _ _ h hI hL (lv_sub hl [2, 3, 4, 1, 0] rfl)
    have hJ91 : ∀ (v5 : Int32) (σ : hmS) (H : Heap) (locs : List Loc) (ls : Array Slot), fX8_that_J91 x0 x1 x2 x3 K62 v5 σ = some (r, σ') → hmI E σ H → hmLo E locs → lv_has ls 6 [(0, .ref x0), (2, .int x2), (3, .int x3), (5, .int v5)] → W p l e R s m ([.ref x0, .int x1, .int x2, .int x3] : List Value).toArray below meth c H locs 0 0 (MQ below (hmQc E (some (.int r)) σ') ([.ref x0, .int x1, .int x2, .int x3] : List Value).toArray s 0 0 (fun q => hmL E ≤ q)) (F0 m 91 ls []) := by
      intro v5 σ H locs ls h hI hL hl
      unfold fX8_that_J91 at h
      refine lv_bipush (v := -3) hx hb dX8_that_91 (by decide) ?_
      refine lv_goto (tgt := 109) hx hb dX8_that_93 (by decide) ?_
      exact hJ109 _ _ _ _ _ _ h hI hL (lv_sub hl [0, 1, 2, 3] rfl)
    intro v4 v5 σ H locs ls h hI hL hl
    unfold fX8_that_B62 at h
    refine lv_iload hx hb dX8_that_62 (lv_at hl 4 rfl) ?_
    refine lv_bipush (v := -3) hx hb dX8_that_64 (by decide) ?_
    refine lv_icmp_eq (tgt := 123) hx hb dX8_that_66 (by decide) (fun c1 => ?_) (fun c1 => ?_)
    · replace h := it_p c1 h
      exact hJ123 _ _ _ _ _ _ h hI hL (lv_sub hl [0, 2, 3, 4] rfl)
    · replace h := it_n c1 h
      refine lv_iload hx hb dX8_that_69 (lv_at hl 4 rfl) ?_
      refine lv_iload_n hx hb dX8_that_71 rfl (lv_at hl 1 rfl) ?_
      refine lv_icmp_eq (tgt := 123) hx hb dX8_that_72 (by decide) (fun c2 => ?_) (fun c2 => ?_)
      · replace h := it_p c2 h
        exact hJ123 _ _ _ _ _ _ h hI hL (lv_sub hl [0, 2, 3, 4] rfl)
      · replace h := it_n c2 h
        refine lv_iload hx hb dX8_that_75 (lv_at hl 3 rfl) ?_
        refine lv_bipush (v := -3) hx hb dX8_that_77 (by decide) ?_
        refine lv_icmp_eq (tgt := 91) hx hb dX8_that_79 (by decide) (fun c3 => ?_) (fun c3 => ?_)
        · replace h := it_p c3 h
          exact hJ91 _ _ _ _ _ h hI hL (lv_sub hl [0, 1, 2, 4] rfl)
        · replace h := it_n c3 h
          refine lv_aload_n hx hb dX8_that_82 rfl (lv_at hl 0 rfl) ?_
          refine lv_iload hx hb dX8_that_83 (lv_at hl 4 rfl) ?_
          replace h := ob_s h
          obtain ⟨_, h5, h⟩ := h
          replace h := cb_s h
          obtain ⟨r7, σ6, h4, h⟩ := h
          refine hm_call (hm_runV (As := [.int v5]) (rest := []) (ci := 10) S hK hI (obC_s h5) rfl (mX8_isBound l E h4) (pm_X8_129 hK) (pi_X8_isBound hK) (pl_X8_X8_isBound hK) ⟨by omega, by omega⟩ rfl hl.1 (Nat.le_of_ble_eq_true rfl) ⟨by omega, by omega⟩ dX8_that_85) hL (fun H locs hI hL => ?_)
          refine lv_if_ne (tgt := 96) hx hb dX8_that_88 (by decide) (fun c8 => ?_) (fun c8 => ?_)
          · replace h := it_n c8 h
            refine lv_aload_n hx hb dX8_that_96 rfl (lv_at hl 0 rfl) ?_
            replace h := ob_s h
            obtain ⟨f9, h10, h⟩ := h
            refine hm_get S hK hI (pf_X8_63_10 hK) (gR_s h10) dX8_that_97 ?_
            refine lv_bipush (v := 12) hx hb dX8_that_100 (by decide) ?_
            refine lv_iload hx hb dX8_that_102 (lv_at hl 3 rfl) ?_
            refine lv_imul hx hb dX8_that_104 ?_
            refine lv_iload hx hb dX8_that_105 (lv_at hl 4 rfl) ?_
            refine lv_iadd hx hb dX8_that_107 ?_
            replace h := ob_s h
            obtain ⟨a11, rfl, h⟩ := h
            have hl : lv_has ls 6 [(0, .ref x0), (2, .int x2), (3, .int x3), (4, .int v4), (5, .int v5)] := hl
            replace h := ob_s h
            obtain ⟨e12, h13, h⟩ := h
            refine hm_iald S hK hI h13 dX8_that_108 ?_
            exact hJ109 _ _ _ _ _ _ h hI hL (lv_sub hl [0, 1, 2, 4] rfl)
          · replace h := it_p c8 h
            exact hJ91 _ _ _ _ _ h hI hL (lv_sub hl [0, 1, 2, 4] rfl)
  have hL62 : ∀ n : Nat, ∀ (v4 : Int32) (v5 : Int32) (σ : hmS) (H : Heap) (locs : List Loc) (ls : Array Slot), fX8_that_L62 x0 x1 x2 x3  n v4 v5 σ = some (r, σ') → hmI E σ H → hmLo E locs → lv_has ls 6 [(0, .ref x0), (2, .int x2), (3, .int x3), (4, .int v4), (5, .int v5)] → W p l e R s m ([.ref x0, .int x1, .int x2, .int x3] : List Value).toArray below meth c H locs 0 0 (MQ below (hmQc E (some (.int r)) σ') ([.ref x0, .int x1, .int x2, .int x3] : List Value).toArray s 0 0 (fun q => hmL E ≤ q)) (F0 m 62 ls []) := by
    intro n
    induction n with
    | zero =>
      intro v4 v5 σ H locs ls h
      have h : none = some (r, σ') := h
      cases h
    | succ n ih => exact hB62 _ ih
  have hJ22 : ∀  (σ : hmS) (H : Heap) (locs : List Loc) (ls : Array Slot), fX8_that_J22 x0 x1 x2 x3   σ = some (r, σ') → hmI E σ H → hmLo E locs → lv_has ls 6 [(0, .ref x0)] → W p l e R s m ([.ref x0, .int x1, .int x2, .int x3] : List Value).toArray below meth c H locs 0 0 (MQ below (hmQc E (some (.int r)) σ') ([.ref x0, .int x1, .int x2, .int x3] : List Value).toArray s 0 0 (fun q => hmL E ≤ q)) (F0 m 22 ls []) := by
    intro  σ H locs ls h hI hL hl
    unfold fX8_that_J22 at h
    refine lv_aload_n hx hb dX8_that_22 rfl (lv_at hl 0 rfl) ?_
    refine lv_iconst (v := -1) hx hb dX8_that_23 (by decide) ?_
    replace h := ob_s h
    obtain ⟨σ1, h2, h⟩ := h
    refine hm_put S hK hI hL (pf_X8_132_10 hK) h2 ⟨rfl, rfl⟩ dX8_that_24 (fun H locs hI hL => ?_)
    refine lv_iconst (v := -1) hx hb dX8_that_27 (by decide) ?_
    exact hm_iret hx hb hr hI hL h (by omega) (by omega) hlocks dX8_that_28
  have h := hmain
  clear hmain
  unfold fX8_that at h
  refine lv_iload_n hx hb dX8_that_0 rfl (lv_at hl 1 rfl) ?_
  replace h := cb_s h
  obtain ⟨r3, σ2, h1, h⟩ := h
  refine hm_call (hm_runS (As := [.int x1]) (rest := []) S hK hI (mX8_isPlace l E h1) (pm_X8_126 hK) (ps_X8_isPlace hK) ⟨by omega, by omega⟩ rfl hl.1 (Nat.le_of_ble_eq_true rfl) ⟨by omega, by omega⟩ dX8_that_1) hL (fun H locs hI hL => ?_)
  refine lv_if_eq (tgt := 22) hx hb dX8_that_4 (by decide) (fun c4 => ?_) (fun c4 => ?_)
  · replace h := it_p c4 h
    exact hJ22 _ _ _ _ h hI hL (lv_sub hl [0] rfl)
  · replace h := it_n c4 h
    refine lv_aload_n hx hb dX8_that_7 rfl (lv_at hl 0 rfl) ?_
    refine lv_iload_n hx hb dX8_that_8 rfl (lv_at hl 2 rfl) ?_
    replace h := ob_s h
    obtain ⟨_, h6, h⟩ := h
    replace h := cb_s h
    obtain ⟨r8, σ7, h5, h⟩ := h
    refine hm_call (hm_runV (As := [.int x2]) (rest := []) (ci := 10) S hK hI (obC_s h6) rfl (mX8_isType l E h5) (pm_X8_98 hK) (pi_X8_isType hK) (pl_X8_X8_isType hK) ⟨by omega, by omega⟩ rfl hl.1 (Nat.le_of_ble_eq_true rfl) ⟨by omega, by omega⟩ dX8_that_9) hL (fun H locs hI hL => ?_)
    refine lv_if_eq (tgt := 22) hx hb dX8_that_12 (by decide) (fun c9 => ?_) (fun c9 => ?_)
    · replace h := it_p c9 h
      exact hJ22 _ _ _ _ h hI hL (lv_sub hl [0] rfl)
    · replace h := it_n c9 h
      refine lv_iload_n hx hb dX8_that_15 rfl (lv_at hl 3 rfl) ?_
      replace h := cb_s h
      obtain ⟨r12, σ11, h10, h⟩ := h
      refine hm_call (hm_runS (As := [.int x3]) (rest := []) S hK hI (mX8_isPlace l E h10) (pm_X8_126 hK) (ps_X8_isPlace hK) ⟨by omega, by omega⟩ rfl hl.1 (Nat.le_of_ble_eq_true rfl) ⟨by omega, by omega⟩ dX8_that_16) hL (fun H locs hI hL => ?_)
      refine lv_if_ne (tgt := 29) hx hb dX8_that_19 (by decide) (fun c13 => ?_) (fun c13 => ?_)
      · replace h := it_n c13 h
        refine lv_aload_n hx hb dX8_that_29 rfl (lv_at hl 0 rfl) ?_
        replace h := ob_s h
        obtain ⟨f14, h15, h⟩ := h
        refine hm_get S hK hI (pf_X8_72_10 hK) (gR_s h15) dX8_that_30 ?_
        refine lv_iload_n hx hb dX8_that_33 rfl (lv_at hl 1 rfl) ?_
        replace h := ob_s h
        obtain ⟨a16, rfl, h⟩ := h
        have hl : lv_has ls 6 [(0, .ref x0), (1, .int x1), (2, .int x2), (3, .int x3)] := hl
        replace h := ob_s h
        obtain ⟨e17, h18, h⟩ := h
        refine hm_iald S hK hI h18 dX8_that_34 ?_
        refine lv_istore (lv' := [(4, .int e17), (0, .ref x0), (1, .int x1), (2, .int x2), (3, .int x3)]) hx hb dX8_that_35 hl (by decide) rfl (fun ls hl => ?_)
        refine lv_iload hx hb dX8_that_37 (lv_at hl 0 rfl) ?_
        refine lv_bipush (v := -3) hx hb dX8_that_39 (by decide) ?_
        refine lv_icmp_ne (tgt := 53) hx hb dX8_that_41 (by decide) (fun c19 => ?_) (fun c19 => ?_)
        · replace h := it_n c19 h
          refine lv_aload_n hx hb dX8_that_53 rfl (lv_at hl 1 rfl) ?_
          replace h := ob_s h
          obtain ⟨f20, h21, h⟩ := h
          refine hm_get S hK hI (pf_X8_57_10 hK) (gR_s h21) dX8_that_54 ?_
          refine lv_iload hx hb dX8_that_57 (lv_at hl 0 rfl) ?_
          replace h := ob_s h
          obtain ⟨a22, rfl, h⟩ := h
          have hl : lv_has ls 6 [(4, .int e17), (0, .ref x0), (1, .int x1), (2, .int x2), (3, .int x3)] := hl
          replace h := ob_s h
          obtain ⟨e23, h24, h⟩ := h
          refine hm_iald S hK hI h24 dX8_that_59 ?_
          refine lv_istore (lv' := [(5, .int e23), (4, .int e17), (0, .ref x0), (1, .int x1), (2, .int x2), (3, .int x3)]) hx hb dX8_that_60 hl (by decide) rfl (fun ls hl => ?_)
          exact hL62 20 _ _ _ _ _ _ h hI hL (lv_sub hl [2, 4, 5, 1, 0] rfl)
        · replace h := it_p c19 h
          refine lv_aload_n hx hb dX8_that_44 rfl (lv_at hl 1 rfl) ?_
          refine lv_bipush (v := 9) hx hb dX8_that_45 (by decide) ?_
          replace h := ob_s h
          obtain ⟨σ25, h26, h⟩ := h
          refine hm_put S hK hI hL (pf_X8_132_10 hK) h26 ⟨rfl, rfl⟩ dX8_that_47 (fun H locs hI hL => ?_)
          refine lv_bipush (v := 9) hx hb dX8_that_50 (by decide) ?_
          exact hm_iret hx hb hr hI hL h (by omega) (by omega) hlocks dX8_that_52
      · replace h := it_p c13 h
        exact hJ22 _ _ _ _ h hI hL (lv_sub hl [0] rfl)

def fX8_constant_J37 (x0 : Nat) (x1 : Int32) (x2 : Int32)   (σ : hmS) : Option (Int64 × hmS) :=
  ob (obC σ x0 10) fun _ => cb (fX8_told x0 (-1 : Int32) σ) fun r4 σ3 => some (r4, σ3)
def fX8_constant (x0 : Nat) (x1 : Int32) (x2 : Int32) (σ : hmS) : Option (Int64 × hmS) :=
  ob (obC σ x0 10) fun _ => cb (fX8_isType x0 x1 σ) fun r4 σ3 => if r4 = 0 then
    fX8_constant_J37 x0 x1 x2 σ3
  else
    ob (gR σ3 x0 10 7) fun f6 => ob f6 fun a8 => ob (aI σ3 0 a8 x1) fun e9 => cb (fX8_in x2 (0 : Int32) (e9 - (1 : Int32)) σ3) fun r13 σ12 => if r13 = 0 then
      fX8_constant_J37 x0 x1 x2 σ12
    else
      ob (gR σ12 x0 10 10) fun f15 => ob f15 fun a17 => ob (aI σ12 2 a17 (((4 : Int32) * x1) + x2)) fun e18 => if e18 = 0 then
        fX8_constant_J37 x0 x1 x2 σ12
      else
        ob (wF σ12 x0 10 28 (.int (0 : Int32))) fun σ21 => ob (gR σ21 x0 10 9) fun f23 => ob f23 fun a25 => ob (aL σ21 a25 (((4 : Int32) * x1) + x2)) fun e26 => some (e26, σ21)
set_option maxHeartbeats 4000000 in
set_option maxRecDepth 100000 in
theorem mX8_constant (l : Launch) (E : hmG) {x0 : Nat} {x1 : Int32} {x2 : Int32} {σ σ' : hmS} {r : Int64} (h : fX8_constant x0 x1 x2 σ = some (r, σ')) : Met l yX8_constant [Cond.code yX8_constant cX8_constant 3 (some .long)] { frames := 2, cells := 0, slots := 0, locals := 43 } (hmPc E [.ref x0, .int x1, .int x2] σ) (hmQc E (some (.long r)) σ') 0 0 (fun q => hmL E ≤ q) := by
  refine Met.ofW (cc := cX8_constant) (maxL := 3) (ret := (some .long)) (by decide) rfl ?_
  intro p e s m args below meth c s₁ B hml hv
  obtain ⟨rfl, hK, hI⟩ := hv
  have S : CallFix p m c cX8_constant 3 s ([.ref x0, .int x1, .int x2] : List Value).toArray [] RX8 := ⟨B.exec, B.bytes, hml, findClass_of_methodNamed B.named, fun w hw => by cases hw⟩
  have hx := S.1
  have hb := S.2.1
  have hr := B.returns
  have hlocks := B.notSynchronized
  have hL : hmLo E [] := hmLo.nil
  have hl : lv_has ((lg_sl ([.ref x0, .int x1, .int x2]) ++ List.replicate (3 - (lg_sl ([.ref x0, .int x1, .int x2])).length) Slot.unset).toArray) 3 [(0, .ref x0), (1, .int x1), (2, .int x2)] := by exact lv_entry _ (Nat.le_of_ble_eq_true rfl)
  rw [lg_entry_eq]
  generalize (lg_sl ([.ref x0, .int x1, .int x2]) ++ List.replicate (3 - (lg_sl ([.ref x0, .int x1, .int x2])).length) Slot.unset).toArray = ls at hl ⊢
  generalize hRe : (headSpec [Cond.code yX8_constant cX8_constant 3 (some .long)] { frames := 2, cells := 0, slots := 0, locals := 43 }).room = R
  have hR1 : R.frames = 2 ∧ R.cells = 0 ∧ R.slots = 0 ∧ R.locals = 43 := by rw [← hRe]; exact ⟨rfl, rfl, rfl, rfl⟩
  clear hRe B hml
  generalize s.heap = H at hI ⊢
  generalize ([] : List Loc) = locs at hL ⊢
  have hmain := h
  clear h
  have hJ37 : ∀  (σ : hmS) (H : Heap) (locs : List Loc) (ls : Array Slot), fX8_constant_J37 x0 x1 x2   σ = some (r, σ') → hmI E σ H → hmLo E locs → lv_has ls 3 [(0, .ref x0)] → W p l e R s m ([.ref x0, .int x1, .int x2] : List Value).toArray below meth c H locs 0 0 (MQ below (hmQc E (some (.long r)) σ') ([.ref x0, .int x1, .int x2] : List Value).toArray s 0 0 (fun q => hmL E ≤ q)) (F0 m 37 ls []) := by
    intro  σ H locs ls h hI hL hl
    unfold fX8_constant_J37 at h
    refine lv_aload_n hx hb dX8_constant_37 rfl (lv_at hl 0 rfl) ?_
    refine lv_iconst (v := -1) hx hb dX8_constant_38 (by decide) ?_
    replace h := ob_s h
    obtain ⟨_, h2, h⟩ := h
    replace h := cb_s h
    obtain ⟨r4, σ3, h1, h⟩ := h
    refine hm_call (hm_runV (As := [.int (-1 : Int32)]) (rest := []) (ci := 10) S hK hI (obC_s h2) rfl (mX8_told l E h1) (pm_X8_152 hK) (pi_X8_told hK) (pl_X8_X8_told hK) ⟨by omega, by omega⟩ rfl hl.1 (Nat.le_of_ble_eq_true rfl) ⟨by omega, by omega⟩ dX8_constant_39) hL (fun H locs hI hL => ?_)
    exact hm_lret hx hb hr hI hL h (by omega) (by omega) hlocks dX8_constant_42
  have h := hmain
  clear hmain
  unfold fX8_constant at h
  refine lv_aload_n hx hb dX8_constant_0 rfl (lv_at hl 0 rfl) ?_
  refine lv_iload_n hx hb dX8_constant_1 rfl (lv_at hl 1 rfl) ?_
  replace h := ob_s h
  obtain ⟨_, h2, h⟩ := h
  replace h := cb_s h
  obtain ⟨r4, σ3, h1, h⟩ := h
  refine hm_call (hm_runV (As := [.int x1]) (rest := []) (ci := 10) S hK hI (obC_s h2) rfl (mX8_isType l E h1) (pm_X8_98 hK) (pi_X8_isType hK) (pl_X8_X8_isType hK) ⟨by omega, by omega⟩ rfl hl.1 (Nat.le_of_ble_eq_true rfl) ⟨by omega, by omega⟩ dX8_constant_2) hL (fun H locs hI hL => ?_)
  refine lv_if_eq (tgt := 37) hx hb dX8_constant_5 (by decide) (fun c5 => ?_) (fun c5 => ?_)
  · replace h := it_p c5 h
    exact hJ37 _ _ _ _ h hI hL (lv_sub hl [0] rfl)
  · replace h := it_n c5 h
    refine lv_iload_n hx hb dX8_constant_8 rfl (lv_at hl 2 rfl) ?_
    refine lv_iconst (v := 0) hx hb dX8_constant_9 (by decide) ?_
    refine lv_aload_n hx hb dX8_constant_10 rfl (lv_at hl 0 rfl) ?_
    replace h := ob_s h
    obtain ⟨f6, h7, h⟩ := h
    refine hm_get S hK hI (pf_X8_28_10 hK) (gR_s h7) dX8_constant_11 ?_
    refine lv_iload_n hx hb dX8_constant_14 rfl (lv_at hl 1 rfl) ?_
    replace h := ob_s h
    obtain ⟨a8, rfl, h⟩ := h
    have hl : lv_has ls 3 [(0, .ref x0), (1, .int x1), (2, .int x2)] := hl
    replace h := ob_s h
    obtain ⟨e9, h10, h⟩ := h
    refine hm_iald S hK hI h10 dX8_constant_15 ?_
    refine lv_iconst (v := 1) hx hb dX8_constant_16 (by decide) ?_
    refine lv_isub hx hb dX8_constant_17 ?_
    replace h := cb_s h
    obtain ⟨r13, σ12, h11, h⟩ := h
    refine hm_call (hm_runS (As := [.int x2, .int (0 : Int32), .int (e9 - (1 : Int32))]) (rest := []) S hK hI (mX8_in l E h11) (pm_X8_94 hK) (ps_X8_in hK) ⟨by omega, by omega⟩ rfl hl.1 (Nat.le_of_ble_eq_true rfl) ⟨by omega, by omega⟩ dX8_constant_18) hL (fun H locs hI hL => ?_)
    refine lv_if_eq (tgt := 37) hx hb dX8_constant_21 (by decide) (fun c14 => ?_) (fun c14 => ?_)
    · replace h := it_p c14 h
      exact hJ37 _ _ _ _ h hI hL (lv_sub hl [0] rfl)
    · replace h := it_n c14 h
      refine lv_aload_n hx hb dX8_constant_24 rfl (lv_at hl 0 rfl) ?_
      replace h := ob_s h
      obtain ⟨f15, h16, h⟩ := h
      refine hm_get S hK hI (pf_X8_38_10 hK) (gR_s h16) dX8_constant_25 ?_
      refine lv_iconst (v := 4) hx hb dX8_constant_28 (by decide) ?_
      refine lv_iload_n hx hb dX8_constant_29 rfl (lv_at hl 1 rfl) ?_
      refine lv_imul hx hb dX8_constant_30 ?_
      refine lv_iload_n hx hb dX8_constant_31 rfl (lv_at hl 2 rfl) ?_
      refine lv_iadd hx hb dX8_constant_32 ?_
      replace h := ob_s h
      obtain ⟨a17, rfl, h⟩ := h
      have hl : lv_has ls 3 [(0, .ref x0), (1, .int x1), (2, .int x2)] := hl
      replace h := ob_s h
      obtain ⟨e18, h19, h⟩ := h
      refine hm_zald S hK hI h19 dX8_constant_33 ?_
      refine lv_if_ne (tgt := 43) hx hb dX8_constant_34 (by decide) (fun c20 => ?_) (fun c20 => ?_)
      · replace h := it_n c20 h
        refine lv_aload_n hx hb dX8_constant_43 rfl (lv_at hl 0 rfl) ?_
        refine lv_iconst (v := 0) hx hb dX8_constant_44 (by decide) ?_
        replace h := ob_s h
        obtain ⟨σ21, h22, h⟩ := h
        refine hm_put S hK hI hL (pf_X8_132_10 hK) h22 ⟨rfl, rfl⟩ dX8_constant_45 (fun H locs hI hL => ?_)
        refine lv_aload_n hx hb dX8_constant_48 rfl (lv_at hl 0 rfl) ?_
        replace h := ob_s h
        obtain ⟨f23, h24, h⟩ := h
        refine hm_get S hK hI (pf_X8_34_10 hK) (gR_s h24) dX8_constant_49 ?_
        refine lv_iconst (v := 4) hx hb dX8_constant_52 (by decide) ?_
        refine lv_iload_n hx hb dX8_constant_53 rfl (lv_at hl 1 rfl) ?_
        refine lv_imul hx hb dX8_constant_54 ?_
        refine lv_iload_n hx hb dX8_constant_55 rfl (lv_at hl 2 rfl) ?_
        refine lv_iadd hx hb dX8_constant_56 ?_
        replace h := ob_s h
        obtain ⟨a25, rfl, h⟩ := h
        have hl : lv_has ls 3 [(0, .ref x0), (1, .int x1), (2, .int x2)] := hl
        replace h := ob_s h
        obtain ⟨e26, h27, h⟩ := h
        refine hm_lald S hK hI h27 dX8_constant_57 ?_
        exact hm_lret hx hb hr hI hL h (by omega) (by omega) hlocks dX8_constant_58
      · replace h := it_p c20 h
        exact hJ37 _ _ _ _ h hI hL (lv_sub hl [0] rfl)

def fX8_lambda_B111 (x0 : Nat) (x1 : Int32) (x2 : Int32)  (K111 : Int32 → Int32 → hmS → Option (Int32 × hmS)) (v4 : Int32) (v5 : Int32) (σ : hmS) : Option (Int32 × hmS) :=
  if x2 ≤ v5 then
    ob (gI σ x0 10 23) fun f2 => ob (wF σ x0 10 23 (.int (f2 + (1 : Int32)))) fun σ4 => ob (gI σ4 x0 10 23) fun f6 => some ((f6 - (1 : Int32)), σ4)
  else
    ob (gR σ x0 10 27) fun f8 => ob (gI σ x0 10 23) fun f10 => ob (gR σ x0 10 14) fun f12 => ob f12 fun a14 => ob (aL σ a14 (((4 : Int32) * v4) + v5)) fun e15 => ob f8 fun a17 => ob (sL σ a17 (((4 : Int32) * f10) + v5) e15) fun σ18 => K111 v4 (v5 + (1 : Int32)) σ18
def fX8_lambda_L111 (x0 : Nat) (x1 : Int32) (x2 : Int32)  : Nat → Int32 → Int32 → hmS → Option (Int32 × hmS)
  | 0 => fun _ _ _ => none
  | n + 1 => fX8_lambda_B111 x0 x1 x2  (fX8_lambda_L111 x0 x1 x2  n)
def fX8_lambda_J97 (x0 : Nat) (x1 : Int32) (x2 : Int32)  (v4 : Int32) (w0 : Int32) (w1 : Int32) (w2 : Option Nat) (σ : hmS) : Option (Int32 × hmS) :=
  ob w2 fun a1 => ob (sI σ 0 a1 w1 w0) fun σ2 => ob (gR σ2 x0 10 26) fun f4 => ob (gI σ2 x0 10 23) fun f6 => ob f4 fun a8 => ob (sI σ2 0 a8 f6 x2) fun σ9 => fX8_lambda_L111 x0 x1 x2 20 v4 (0 : Int32) σ9
def fX8_lambda (x0 : Nat) (x1 : Int32) (x2 : Int32) (σ : hmS) : Option (Int32 × hmS) :=
  cb (fX8_isPlace x1 σ) fun r3 σ2 => if r3 = 0 then
    some ((-1 : Int32), σ2)
  else
    ob (gR σ2 x0 10 22) fun f5 => ob f5 fun a7 => ob (aI σ2 0 a7 x1) fun e8 => if e8 = (-3 : Int32) then
      some ((-3 : Int32), σ2)
    else
      ob (gR σ2 x0 10 17) fun f11 => ob f11 fun a13 => ob (aI σ2 0 a13 e8) fun e14 => ob (gR σ2 x0 10 12) fun f16 => ob f16 fun a18 => ob (aI σ2 0 a18 e14) fun e19 => cb (fX8_in x2 (0 : Int32) e19 σ2) fun r23 σ22 => if r23 = 0 then
        some ((-1 : Int32), σ22)
      else
        ob (gI σ22 x0 10 23) fun f25 => if f25 = (6 : Int32) then
          some ((-2 : Int32), σ22)
        else
          ob (gR σ22 x0 10 24) fun f28 => ob (gI σ22 x0 10 23) fun f30 => ob f28 fun a32 => ob (sI σ22 0 a32 f30 e14) fun σ33 => ob (gR σ33 x0 10 25) fun f35 => ob (gI σ33 x0 10 23) fun f37 => ob (gR σ33 x0 10 11) fun f39 => ob f39 fun a41 => ob (aI σ33 2 a41 e14) fun e42 => if e42 = 0 then
            fX8_lambda_J97 x0 x1 x2 e14 e8 f37 f35 σ33
          else
            fX8_lambda_J97 x0 x1 x2 e14 (-3 : Int32) f37 f35 σ33
set_option maxHeartbeats 4000000 in
set_option maxRecDepth 100000 in
theorem mX8_lambda (l : Launch) (E : hmG) {x0 : Nat} {x1 : Int32} {x2 : Int32} {σ σ' : hmS} {r : Int32} (h : fX8_lambda x0 x1 x2 σ = some (r, σ')) : Met l yX8_lambda [Cond.code yX8_lambda cX8_lambda 6 (some .int)] { frames := 2, cells := 0, slots := 0, locals := 42 } (hmPc E [.ref x0, .int x1, .int x2] σ) (hmQc E (some (.int r)) σ') 0 0 (fun q => hmL E ≤ q) := by
  refine Met.ofW (cc := cX8_lambda) (maxL := 6) (ret := (some .int)) (by decide) rfl ?_
  intro p e s m args below meth c s₁ B hml hv
  obtain ⟨rfl, hK, hI⟩ := hv
  have S : CallFix p m c cX8_lambda 6 s ([.ref x0, .int x1, .int x2] : List Value).toArray [] RX8 := ⟨B.exec, B.bytes, hml, findClass_of_methodNamed B.named, fun w hw => by cases hw⟩
  have hx := S.1
  have hb := S.2.1
  have hr := B.returns
  have hlocks := B.notSynchronized
  have hL : hmLo E [] := hmLo.nil
  have hl : lv_has ((lg_sl ([.ref x0, .int x1, .int x2]) ++ List.replicate (6 - (lg_sl ([.ref x0, .int x1, .int x2])).length) Slot.unset).toArray) 6 [(0, .ref x0), (1, .int x1), (2, .int x2)] := by exact lv_entry _ (Nat.le_of_ble_eq_true rfl)
  rw [lg_entry_eq]
  generalize (lg_sl ([.ref x0, .int x1, .int x2]) ++ List.replicate (6 - (lg_sl ([.ref x0, .int x1, .int x2])).length) Slot.unset).toArray = ls at hl ⊢
  generalize hRe : (headSpec [Cond.code yX8_lambda cX8_lambda 6 (some .int)] { frames := 2, cells := 0, slots := 0, locals := 42 }).room = R
  have hR1 : R.frames = 2 ∧ R.cells = 0 ∧ R.slots = 0 ∧ R.locals = 42 := by rw [← hRe]; exact ⟨rfl, rfl, rfl, rfl⟩
  clear hRe B hml
  generalize s.heap = H at hI ⊢
  generalize ([] : List Loc) = locs at hL ⊢
  have hmain := h
  clear h
  have hB111 : ∀ (K111 : Int32 → Int32 → hmS → Option (Int32 × hmS)), (∀ (v4 : Int32) (v5 : Int32) (σ : hmS) (H : Heap) (locs : List Loc) (ls : Array Slot), K111 v4 v5 σ = some (r, σ') → hmI E σ H → hmLo E locs → lv_has ls 6 [(0, .ref x0), (2, .int x2), (4, .int v4), (5, .int v5)] → W p l e R s m ([.ref x0, .int x1, .int x2] : List Value).toArray below meth c H locs 0 0 (MQ below (hmQc E (some (.int r)) σ') ([.ref x0, .int x1, .int x2] : List Value).toArray s 0 0 (fun q => hmL E ≤ q)) (F0 m 111 ls [])) → ∀ (v4 : Int32) (v5 : Int32) (σ : hmS) (H : Heap) (locs : List Loc) (ls : Array Slot), fX8_lambda_B111 x0 x1 x2  K111 v4 v5 σ = some (r, σ') → hmI E σ H → hmLo E locs → lv_has ls 6 [(0, .ref x0), (2, .int x2), (4, .int v4), (5, .int v5)] → W p l e R s m ([.ref x0, .int x1, .int x2] : List Value).toArray below meth c H locs 0 0 (MQ below (hmQc E (some (.int r)) σ') ([.ref x0, .int x1, .int x2] : List Value).toArray s 0 0 (fun q => hmL E ≤ q)) (F0 m 111 ls []) := by
    intro K111 hk111
    intro v4 v5 σ H locs ls h hI hL hl
    unfold fX8_lambda_B111 at h
    refine lv_iload hx hb dX8_lambda_111 (lv_at hl 3 rfl) ?_
    refine lv_iload_n hx hb dX8_lambda_113 rfl (lv_at hl 1 rfl) ?_
    refine lv_icmp_ge (tgt := 149) hx hb dX8_lambda_114 (by decide) (fun c1 => ?_) (fun c1 => ?_)
    · replace h := it_p c1 h
      refine lv_aload_n hx hb dX8_lambda_149 rfl (lv_at hl 0 rfl) ?_
      refine lv_dup hx hb dX8_lambda_150 rfl ?_
      replace h := ob_s h
      obtain ⟨f2, h3, h⟩ := h
      refine hm_get S hK hI (pf_X8_170_10 hK) (gI_s h3) dX8_lambda_151 ?_
      refine lv_iconst (v := 1) hx hb dX8_lambda_154 (by decide) ?_
      refine lv_iadd hx hb dX8_lambda_155 ?_
      replace h := ob_s h
      obtain ⟨σ4, h5, h⟩ := h
      refine hm_put S hK hI hL (pf_X8_170_10 hK) h5 ⟨rfl, rfl⟩ dX8_lambda_156 (fun H locs hI hL => ?_)
      refine lv_aload_n hx hb dX8_lambda_159 rfl (lv_at hl 0 rfl) ?_
      replace h := ob_s h
      obtain ⟨f6, h7, h⟩ := h
      refine hm_get S hK hI (pf_X8_170_10 hK) (gI_s h7) dX8_lambda_160 ?_
      refine lv_iconst (v := 1) hx hb dX8_lambda_163 (by decide) ?_
      refine lv_isub hx hb dX8_lambda_164 ?_
      exact hm_iret hx hb hr hI hL h (by omega) (by omega) hlocks dX8_lambda_165
    · replace h := it_n c1 h
      refine lv_aload_n hx hb dX8_lambda_117 rfl (lv_at hl 0 rfl) ?_
      replace h := ob_s h
      obtain ⟨f8, h9, h⟩ := h
      refine hm_get S hK hI (pf_X8_84_10 hK) (gR_s h9) dX8_lambda_118 ?_
      refine lv_iconst (v := 4) hx hb dX8_lambda_121 (by decide) ?_
      refine lv_aload_n hx hb dX8_lambda_122 rfl (lv_at hl 0 rfl) ?_
      replace h := ob_s h
      obtain ⟨f10, h11, h⟩ := h
      refine hm_get S hK hI (pf_X8_170_10 hK) (gI_s h11) dX8_lambda_123 ?_
      refine lv_imul hx hb dX8_lambda_126 ?_
      refine lv_iload hx hb dX8_lambda_127 (lv_at hl 3 rfl) ?_
      refine lv_iadd hx hb dX8_lambda_129 ?_
      refine lv_aload_n hx hb dX8_lambda_130 rfl (lv_at hl 0 rfl) ?_
      replace h := ob_s h
      obtain ⟨f12, h13, h⟩ := h
      refine hm_get S hK hI (pf_X8_51_10 hK) (gR_s h13) dX8_lambda_131 ?_
      refine lv_iconst (v := 4) hx hb dX8_lambda_134 (by decide) ?_
      refine lv_iload hx hb dX8_lambda_135 (lv_at hl 2 rfl) ?_
      refine lv_imul hx hb dX8_lambda_137 ?_
      refine lv_iload hx hb dX8_lambda_138 (lv_at hl 3 rfl) ?_
      refine lv_iadd hx hb dX8_lambda_140 ?_
      replace h := ob_s h
      obtain ⟨a14, rfl, h⟩ := h
      have hl : lv_has ls 6 [(0, .ref x0), (2, .int x2), (4, .int v4), (5, .int v5)] := hl
      replace h := ob_s h
      obtain ⟨e15, h16, h⟩ := h
      refine hm_lald S hK hI h16 dX8_lambda_141 ?_
      replace h := ob_s h
      obtain ⟨a17, rfl, h⟩ := h
      have hl : lv_has ls 6 [(0, .ref x0), (2, .int x2), (4, .int v4), (5, .int v5)] := hl
      replace h := ob_s h
      obtain ⟨σ18, h19, h⟩ := h
      refine hm_last S hK hI hL h19 dX8_lambda_142 (fun H locs hI hL => ?_)
      refine lv_iinc (v := (v5 + (1 : Int32))) (lv' := [(5, .int (v5 + (1 : Int32))), (0, .ref x0), (2, .int x2), (4, .int v4)]) hx hb dX8_lambda_143 hl (k := 3) rfl rfl (by decide) rfl (fun ls hl => ?_)
      refine lv_goto (tgt := 111) hx hb dX8_lambda_146 (by decide) ?_
      exact hk111 _ _ _ _ _ _ h hI hL (lv_sub hl [1, 2, 3, 0] rfl)
  have hL111 : ∀ n : Nat, ∀ (v4 : Int32) (v5 : Int32) (σ : hmS) (H : Heap) (locs : List Loc) (ls : Array Slot), fX8_lambda_L111 x0 x1 x2  n v4 v5 σ = some (r, σ') → hmI E σ H → hmLo E locs → lv_has ls 6 [(0, .ref x0), (2, .int x2), (4, .int v4), (5, .int v5)] → W p l e R s m ([.ref x0, .int x1, .int x2] : List Value).toArray below meth c H locs 0 0 (MQ below (hmQc E (some (.int r)) σ') ([.ref x0, .int x1, .int x2] : List Value).toArray s 0 0 (fun q => hmL E ≤ q)) (F0 m 111 ls []) := by
    intro n
    induction n with
    | zero =>
      intro v4 v5 σ H locs ls h
      have h : none = some (r, σ') := h
      cases h
    | succ n ih => exact hB111 _ ih
  have hJ97 : ∀ (v4 : Int32) (w0 : Int32) (w1 : Int32) (w2 : Option Nat) (σ : hmS) (H : Heap) (locs : List Loc) (ls : Array Slot), fX8_lambda_J97 x0 x1 x2  v4 w0 w1 w2 σ = some (r, σ') → hmI E σ H → hmLo E locs → lv_has ls 6 [(0, .ref x0), (2, .int x2), (4, .int v4)] → W p l e R s m ([.ref x0, .int x1, .int x2] : List Value).toArray below meth c H locs 0 0 (MQ below (hmQc E (some (.int r)) σ') ([.ref x0, .int x1, .int x2] : List Value).toArray s 0 0 (fun q => hmL E ≤ q)) (F0 m 97 ls [.int w0, .int w1, va_rf w2]) := by
    intro v4 w0 w1 w2 σ H locs ls h hI hL hl
    unfold fX8_lambda_J97 at h
    replace h := ob_s h
    obtain ⟨a1, rfl, h⟩ := h
    have hl : lv_has ls 6 [(0, .ref x0), (2, .int x2), (4, .int v4)] := hl
    replace h := ob_s h
    obtain ⟨σ2, h3, h⟩ := h
    refine hm_iast S hK hI hL h3 dX8_lambda_97 (fun H locs hI hL => ?_)
    refine lv_aload_n hx hb dX8_lambda_98 rfl (lv_at hl 0 rfl) ?_
    replace h := ob_s h
    obtain ⟨f4, h5, h⟩ := h
    refine hm_get S hK hI (pf_X8_81_10 hK) (gR_s h5) dX8_lambda_99 ?_
    refine lv_aload_n hx hb dX8_lambda_102 rfl (lv_at hl 0 rfl) ?_
    replace h := ob_s h
    obtain ⟨f6, h7, h⟩ := h
    refine hm_get S hK hI (pf_X8_170_10 hK) (gI_s h7) dX8_lambda_103 ?_
    refine lv_iload_n hx hb dX8_lambda_106 rfl (lv_at hl 1 rfl) ?_
    replace h := ob_s h
    obtain ⟨a8, rfl, h⟩ := h
    have hl : lv_has ls 6 [(0, .ref x0), (2, .int x2), (4, .int v4)] := hl
    replace h := ob_s h
    obtain ⟨σ9, h10, h⟩ := h
    refine hm_iast S hK hI hL h10 dX8_lambda_107 (fun H locs hI hL => ?_)
    refine lv_iconst (v := 0) hx hb dX8_lambda_108 (by decide) ?_
    refine lv_istore (lv' := [(5, .int (0 : Int32)), (0, .ref x0), (2, .int x2), (4, .int v4)]) hx hb dX8_lambda_109 hl (by decide) rfl (fun ls hl => ?_)
    exact hL111 20 _ _ _ _ _ _ h hI hL (lv_sub hl [1, 2, 3, 0] rfl)
  have h := hmain
  clear hmain
  unfold fX8_lambda at h
  refine lv_iload_n hx hb dX8_lambda_0 rfl (lv_at hl 1 rfl) ?_
  replace h := cb_s h
  obtain ⟨r3, σ2, h1, h⟩ := h
  refine hm_call (hm_runS (As := [.int x1]) (rest := []) S hK hI (mX8_isPlace l E h1) (pm_X8_126 hK) (ps_X8_isPlace hK) ⟨by omega, by omega⟩ rfl hl.1 (Nat.le_of_ble_eq_true rfl) ⟨by omega, by omega⟩ dX8_lambda_1) hL (fun H locs hI hL => ?_)
  refine lv_if_ne (tgt := 9) hx hb dX8_lambda_4 (by decide) (fun c4 => ?_) (fun c4 => ?_)
  · replace h := it_n c4 h
    refine lv_aload_n hx hb dX8_lambda_9 rfl (lv_at hl 0 rfl) ?_
    replace h := ob_s h
    obtain ⟨f5, h6, h⟩ := h
    refine hm_get S hK hI (pf_X8_72_10 hK) (gR_s h6) dX8_lambda_10 ?_
    refine lv_iload_n hx hb dX8_lambda_13 rfl (lv_at hl 1 rfl) ?_
    replace h := ob_s h
    obtain ⟨a7, rfl, h⟩ := h
    have hl : lv_has ls 6 [(0, .ref x0), (1, .int x1), (2, .int x2)] := hl
    replace h := ob_s h
    obtain ⟨e8, h9, h⟩ := h
    refine hm_iald S hK hI h9 dX8_lambda_14 ?_
    refine lv_istore_n (lv' := [(3, .int e8), (0, .ref x0), (1, .int x1), (2, .int x2)]) hx hb dX8_lambda_15 rfl hl (by decide) rfl (fun ls hl => ?_)
    refine lv_iload_n hx hb dX8_lambda_16 rfl (lv_at hl 0 rfl) ?_
    refine lv_bipush (v := -3) hx hb dX8_lambda_17 (by decide) ?_
    refine lv_icmp_ne (tgt := 25) hx hb dX8_lambda_19 (by decide) (fun c10 => ?_) (fun c10 => ?_)
    · replace h := it_n c10 h
      refine lv_aload_n hx hb dX8_lambda_25 rfl (lv_at hl 1 rfl) ?_
      replace h := ob_s h
      obtain ⟨f11, h12, h⟩ := h
      refine hm_get S hK hI (pf_X8_57_10 hK) (gR_s h12) dX8_lambda_26 ?_
      refine lv_iload_n hx hb dX8_lambda_29 rfl (lv_at hl 0 rfl) ?_
      replace h := ob_s h
      obtain ⟨a13, rfl, h⟩ := h
      have hl : lv_has ls 6 [(3, .int e8), (0, .ref x0), (1, .int x1), (2, .int x2)] := hl
      replace h := ob_s h
      obtain ⟨e14, h15, h⟩ := h
      refine hm_iald S hK hI h15 dX8_lambda_30 ?_
      refine lv_istore (lv' := [(4, .int e14), (3, .int e8), (0, .ref x0), (1, .int x1), (2, .int x2)]) hx hb dX8_lambda_31 hl (by decide) rfl (fun ls hl => ?_)
      refine lv_iload_n hx hb dX8_lambda_33 rfl (lv_at hl 4 rfl) ?_
      refine lv_iconst (v := 0) hx hb dX8_lambda_34 (by decide) ?_
      refine lv_aload_n hx hb dX8_lambda_35 rfl (lv_at hl 2 rfl) ?_
      replace h := ob_s h
      obtain ⟨f16, h17, h⟩ := h
      refine hm_get S hK hI (pf_X8_45_10 hK) (gR_s h17) dX8_lambda_36 ?_
      refine lv_iload hx hb dX8_lambda_39 (lv_at hl 0 rfl) ?_
      replace h := ob_s h
      obtain ⟨a18, rfl, h⟩ := h
      have hl : lv_has ls 6 [(4, .int e14), (3, .int e8), (0, .ref x0), (1, .int x1), (2, .int x2)] := hl
      replace h := ob_s h
      obtain ⟨e19, h20, h⟩ := h
      refine hm_iald S hK hI h20 dX8_lambda_41 ?_
      replace h := cb_s h
      obtain ⟨r23, σ22, h21, h⟩ := h
      refine hm_call (hm_runS (As := [.int x2, .int (0 : Int32), .int e19]) (rest := []) S hK hI (mX8_in l E h21) (pm_X8_94 hK) (ps_X8_in hK) ⟨by omega, by omega⟩ rfl hl.1 (Nat.le_of_ble_eq_true rfl) ⟨by omega, by omega⟩ dX8_lambda_42) hL (fun H locs hI hL => ?_)
      refine lv_if_ne (tgt := 50) hx hb dX8_lambda_45 (by decide) (fun c24 => ?_) (fun c24 => ?_)
      · replace h := it_n c24 h
        refine lv_aload_n hx hb dX8_lambda_50 rfl (lv_at hl 2 rfl) ?_
        replace h := ob_s h
        obtain ⟨f25, h26, h⟩ := h
        refine hm_get S hK hI (pf_X8_170_10 hK) (gI_s h26) dX8_lambda_51 ?_
        refine lv_bipush (v := 6) hx hb dX8_lambda_54 (by decide) ?_
        refine lv_icmp_ne (tgt := 62) hx hb dX8_lambda_56 (by decide) (fun c27 => ?_) (fun c27 => ?_)
        · replace h := it_n c27 h
          refine lv_aload_n hx hb dX8_lambda_62 rfl (lv_at hl 2 rfl) ?_
          replace h := ob_s h
          obtain ⟨f28, h29, h⟩ := h
          refine hm_get S hK hI (pf_X8_75_10 hK) (gR_s h29) dX8_lambda_63 ?_
          refine lv_aload_n hx hb dX8_lambda_66 rfl (lv_at hl 2 rfl) ?_
          replace h := ob_s h
          obtain ⟨f30, h31, h⟩ := h
          refine hm_get S hK hI (pf_X8_170_10 hK) (gI_s h31) dX8_lambda_67 ?_
          refine lv_iload hx hb dX8_lambda_70 (lv_at hl 0 rfl) ?_
          replace h := ob_s h
          obtain ⟨a32, rfl, h⟩ := h
          have hl : lv_has ls 6 [(4, .int e14), (3, .int e8), (0, .ref x0), (1, .int x1), (2, .int x2)] := hl
          replace h := ob_s h
          obtain ⟨σ33, h34, h⟩ := h
          refine hm_iast S hK hI hL h34 dX8_lambda_72 (fun H locs hI hL => ?_)
          refine lv_aload_n hx hb dX8_lambda_73 rfl (lv_at hl 2 rfl) ?_
          replace h := ob_s h
          obtain ⟨f35, h36, h⟩ := h
          refine hm_get S hK hI (pf_X8_78_10 hK) (gR_s h36) dX8_lambda_74 ?_
          refine lv_aload_n hx hb dX8_lambda_77 rfl (lv_at hl 2 rfl) ?_
          replace h := ob_s h
          obtain ⟨f37, h38, h⟩ := h
          refine hm_get S hK hI (pf_X8_170_10 hK) (gI_s h38) dX8_lambda_78 ?_
          refine lv_aload_n hx hb dX8_lambda_81 rfl (lv_at hl 2 rfl) ?_
          replace h := ob_s h
          obtain ⟨f39, h40, h⟩ := h
          refine hm_get S hK hI (pf_X8_42_10 hK) (gR_s h40) dX8_lambda_82 ?_
          refine lv_iload hx hb dX8_lambda_85 (lv_at hl 0 rfl) ?_
          replace h := ob_s h
          obtain ⟨a41, rfl, h⟩ := h
          have hl : lv_has ls 6 [(4, .int e14), (3, .int e8), (0, .ref x0), (1, .int x1), (2, .int x2)] := hl
          replace h := ob_s h
          obtain ⟨e42, h43, h⟩ := h
          refine hm_zald S hK hI h43 dX8_lambda_87 ?_
          refine lv_if_eq (tgt := 96) hx hb dX8_lambda_88 (by decide) (fun c44 => ?_) (fun c44 => ?_)
          · replace h := it_p c44 h
            refine lv_iload_n hx hb dX8_lambda_96 rfl (lv_at hl 1 rfl) ?_
            exact hJ97 _ _ _ _ _ _ _ _ h hI hL (lv_sub hl [2, 4, 0] rfl)
          · replace h := it_n c44 h
            refine lv_bipush (v := -3) hx hb dX8_lambda_91 (by decide) ?_
            refine lv_goto (tgt := 97) hx hb dX8_lambda_93 (by decide) ?_
            exact hJ97 _ _ _ _ _ _ _ _ h hI hL (lv_sub hl [2, 4, 0] rfl)
        · replace h := it_p c27 h
          refine lv_bipush (v := -2) hx hb dX8_lambda_59 (by decide) ?_
          exact hm_iret hx hb hr hI hL h (by omega) (by omega) hlocks dX8_lambda_61
      · replace h := it_p c24 h
        refine lv_iconst (v := -1) hx hb dX8_lambda_48 (by decide) ?_
        exact hm_iret hx hb hr hI hL h (by omega) (by omega) hlocks dX8_lambda_49
    · replace h := it_p c10 h
      refine lv_bipush (v := -3) hx hb dX8_lambda_22 (by decide) ?_
      exact hm_iret hx hb hr hI hL h (by omega) (by omega) hlocks dX8_lambda_24
  · replace h := it_p c4 h
    refine lv_iconst (v := -1) hx hb dX8_lambda_7 (by decide) ?_
    exact hm_iret hx hb hr hI hL h (by omega) (by omega) hlocks dX8_lambda_8

def fX8_seen_J21 (x0 : Nat) (x1 : Int32) (x2 : Int32)   (σ : hmS) : Option (Int64 × hmS) :=
  ob (obC σ x0 10) fun _ => cb (fX8_told x0 (-1 : Int32) σ) fun r4 σ3 => some (r4, σ3)
def fX8_seen (x0 : Nat) (x1 : Int32) (x2 : Int32) (σ : hmS) : Option (Int64 × hmS) :=
  ob (gI σ x0 10 23) fun f1 => cb (fX8_in x1 (0 : Int32) (f1 - (1 : Int32)) σ) fun r5 σ4 => if r5 = 0 then
    fX8_seen_J21 x0 x1 x2 σ4
  else
    cb (fX8_isName x2 σ4) fun r9 σ8 => if r9 = 0 then
      fX8_seen_J21 x0 x1 x2 σ8
    else
      ob (gR σ8 x0 10 24) fun f11 => ob f11 fun a13 => ob (aI σ8 0 a13 x1) fun e14 => ob (gR σ8 x0 10 26) fun f16 => ob f16 fun a18 => ob (aI σ8 0 a18 x1) fun e19 => ob (obC σ8 x0 10) fun _ => cb (fX8_localOf x0 e14 e19 x2 σ8) fun r24 σ23 => if 0 ≤ r24 then
        ob (gR σ23 x0 10 15) fun f26 => ob f26 fun a28 => ob (aI σ23 2 a28 (((4 : Int32) * e14) + r24)) fun e29 => if e29 = 0 then
          ob (wF σ23 x0 10 28 (.int (0 : Int32))) fun σ32 => ob (gR σ32 x0 10 27) fun f34 => ob f34 fun a36 => ob (aL σ32 a36 (((4 : Int32) * x1) + r24)) fun e37 => some (e37, σ32)
        else
          ob (obC σ23 x0 10) fun _ => cb (fX8_told x0 (7 : Int32) σ23) fun r42 σ41 => some (r42, σ41)
      else
        ob (gR σ23 x0 10 25) fun f43 => ob f43 fun a45 => ob (aI σ23 0 a45 x1) fun e46 => ob (obC σ23 x0 10) fun _ => cb (fX8_find x0 e14 e46 x2 (0 : Int32) σ23) fun r51 σ50 => some (r51, σ50)
set_option maxHeartbeats 4000000 in
set_option maxRecDepth 100000 in
theorem mX8_seen (l : Launch) (E : hmG) {x0 : Nat} {x1 : Int32} {x2 : Int32} {σ σ' : hmS} {r : Int64} (h : fX8_seen x0 x1 x2 σ = some (r, σ')) : Met l yX8_seen [Cond.code yX8_seen cX8_seen 5 (some .long)] { frames := 3, cells := 0, slots := 0, locals := 75 } (hmPc E [.ref x0, .int x1, .int x2] σ) (hmQc E (some (.long r)) σ') 0 0 (fun q => hmL E ≤ q) := by
  refine Met.ofW (cc := cX8_seen) (maxL := 5) (ret := (some .long)) (by decide) rfl ?_
  intro p e s m args below meth c s₁ B hml hv
  obtain ⟨rfl, hK, hI⟩ := hv
  have S : CallFix p m c cX8_seen 5 s ([.ref x0, .int x1, .int x2] : List Value).toArray [] RX8 := ⟨B.exec, B.bytes, hml, findClass_of_methodNamed B.named, fun w hw => by cases hw⟩
  have hx := S.1
  have hb := S.2.1
  have hr := B.returns
  have hlocks := B.notSynchronized
  have hL : hmLo E [] := hmLo.nil
  have hl : lv_has ((lg_sl ([.ref x0, .int x1, .int x2]) ++ List.replicate (5 - (lg_sl ([.ref x0, .int x1, .int x2])).length) Slot.unset).toArray) 5 [(0, .ref x0), (1, .int x1), (2, .int x2)] := by exact lv_entry _ (Nat.le_of_ble_eq_true rfl)
  rw [lg_entry_eq]
  generalize (lg_sl ([.ref x0, .int x1, .int x2]) ++ List.replicate (5 - (lg_sl ([.ref x0, .int x1, .int x2])).length) Slot.unset).toArray = ls at hl ⊢
  generalize hRe : (headSpec [Cond.code yX8_seen cX8_seen 5 (some .long)] { frames := 3, cells := 0, slots := 0, locals := 75 }).room = R
  have hR1 : R.frames = 3 ∧ R.cells = 0 ∧ R.slots = 0 ∧ R.locals = 75 := by rw [← hRe]; exact ⟨rfl, rfl, rfl, rfl⟩
  clear hRe B hml
  generalize s.heap = H at hI ⊢
  generalize ([] : List Loc) = locs at hL ⊢
  have hmain := h
  clear h
  have hJ21 : ∀  (σ : hmS) (H : Heap) (locs : List Loc) (ls : Array Slot), fX8_seen_J21 x0 x1 x2   σ = some (r, σ') → hmI E σ H → hmLo E locs → lv_has ls 5 [(0, .ref x0)] → W p l e R s m ([.ref x0, .int x1, .int x2] : List Value).toArray below meth c H locs 0 0 (MQ below (hmQc E (some (.long r)) σ') ([.ref x0, .int x1, .int x2] : List Value).toArray s 0 0 (fun q => hmL E ≤ q)) (F0 m 21 ls []) := by
    intro  σ H locs ls h hI hL hl
    unfold fX8_seen_J21 at h
    refine lv_aload_n hx hb dX8_seen_21 rfl (lv_at hl 0 rfl) ?_
    refine lv_iconst (v := -1) hx hb dX8_seen_22 (by decide) ?_
    replace h := ob_s h
    obtain ⟨_, h2, h⟩ := h
    replace h := cb_s h
    obtain ⟨r4, σ3, h1, h⟩ := h
    refine hm_call (hm_runV (As := [.int (-1 : Int32)]) (rest := []) (ci := 10) S hK hI (obC_s h2) rfl (mX8_told l E h1) (pm_X8_152 hK) (pi_X8_told hK) (pl_X8_X8_told hK) ⟨by omega, by omega⟩ rfl hl.1 (Nat.le_of_ble_eq_true rfl) ⟨by omega, by omega⟩ dX8_seen_23) hL (fun H locs hI hL => ?_)
    exact hm_lret hx hb hr hI hL h (by omega) (by omega) hlocks dX8_seen_26
  have h := hmain
  clear hmain
  unfold fX8_seen at h
  refine lv_iload_n hx hb dX8_seen_0 rfl (lv_at hl 1 rfl) ?_
  refine lv_iconst (v := 0) hx hb dX8_seen_1 (by decide) ?_
  refine lv_aload_n hx hb dX8_seen_2 rfl (lv_at hl 0 rfl) ?_
  replace h := ob_s h
  obtain ⟨f1, h2, h⟩ := h
  refine hm_get S hK hI (pf_X8_170_10 hK) (gI_s h2) dX8_seen_3 ?_
  refine lv_iconst (v := 1) hx hb dX8_seen_6 (by decide) ?_
  refine lv_isub hx hb dX8_seen_7 ?_
  replace h := cb_s h
  obtain ⟨r5, σ4, h3, h⟩ := h
  refine hm_call (hm_runS (As := [.int x1, .int (0 : Int32), .int (f1 - (1 : Int32))]) (rest := []) S hK hI (mX8_in l E h3) (pm_X8_94 hK) (ps_X8_in hK) ⟨by omega, by omega⟩ rfl hl.1 (Nat.le_of_ble_eq_true rfl) ⟨by omega, by omega⟩ dX8_seen_8) hL (fun H locs hI hL => ?_)
  refine lv_if_eq (tgt := 21) hx hb dX8_seen_11 (by decide) (fun c6 => ?_) (fun c6 => ?_)
  · replace h := it_p c6 h
    exact hJ21 _ _ _ _ h hI hL (lv_sub hl [0] rfl)
  · replace h := it_n c6 h
    refine lv_iload_n hx hb dX8_seen_14 rfl (lv_at hl 2 rfl) ?_
    replace h := cb_s h
    obtain ⟨r9, σ8, h7, h⟩ := h
    refine hm_call (hm_runS (As := [.int x2]) (rest := []) S hK hI (mX8_isName l E h7) (pm_X8_108 hK) (ps_X8_isName hK) ⟨by omega, by omega⟩ rfl hl.1 (Nat.le_of_ble_eq_true rfl) ⟨by omega, by omega⟩ dX8_seen_15) hL (fun H locs hI hL => ?_)
    refine lv_if_ne (tgt := 27) hx hb dX8_seen_18 (by decide) (fun c10 => ?_) (fun c10 => ?_)
    · replace h := it_n c10 h
      refine lv_aload_n hx hb dX8_seen_27 rfl (lv_at hl 0 rfl) ?_
      replace h := ob_s h
      obtain ⟨f11, h12, h⟩ := h
      refine hm_get S hK hI (pf_X8_75_10 hK) (gR_s h12) dX8_seen_28 ?_
      refine lv_iload_n hx hb dX8_seen_31 rfl (lv_at hl 1 rfl) ?_
      replace h := ob_s h
      obtain ⟨a13, rfl, h⟩ := h
      have hl : lv_has ls 5 [(0, .ref x0), (1, .int x1), (2, .int x2)] := hl
      replace h := ob_s h
      obtain ⟨e14, h15, h⟩ := h
      refine hm_iald S hK hI h15 dX8_seen_32 ?_
      refine lv_istore_n (lv' := [(3, .int e14), (0, .ref x0), (1, .int x1), (2, .int x2)]) hx hb dX8_seen_33 rfl hl (by decide) rfl (fun ls hl => ?_)
      refine lv_aload_n hx hb dX8_seen_34 rfl (lv_at hl 1 rfl) ?_
      refine lv_iload_n hx hb dX8_seen_35 rfl (lv_at hl 0 rfl) ?_
      refine lv_aload_n hx hb dX8_seen_36 rfl (lv_at hl 1 rfl) ?_
      replace h := ob_s h
      obtain ⟨f16, h17, h⟩ := h
      refine hm_get S hK hI (pf_X8_81_10 hK) (gR_s h17) dX8_seen_37 ?_
      refine lv_iload_n hx hb dX8_seen_40 rfl (lv_at hl 2 rfl) ?_
      replace h := ob_s h
      obtain ⟨a18, rfl, h⟩ := h
      have hl : lv_has ls 5 [(3, .int e14), (0, .ref x0), (1, .int x1), (2, .int x2)] := hl
      replace h := ob_s h
      obtain ⟨e19, h20, h⟩ := h
      refine hm_iald S hK hI h20 dX8_seen_41 ?_
      refine lv_iload_n hx hb dX8_seen_42 rfl (lv_at hl 3 rfl) ?_
      replace h := ob_s h
      obtain ⟨_, h22, h⟩ := h
      replace h := cb_s h
      obtain ⟨r24, σ23, h21, h⟩ := h
      refine hm_call (hm_runV (As := [.int e14, .int e19, .int x2]) (rest := []) (ci := 10) S hK hI (obC_s h22) rfl (mX8_localOf l E h21) (pm_X8_160 hK) (pi_X8_localOf hK) (pl_X8_X8_localOf hK) ⟨by omega, by omega⟩ rfl hl.1 (Nat.le_of_ble_eq_true rfl) ⟨by omega, by omega⟩ dX8_seen_43) hL (fun H locs hI hL => ?_)
      refine lv_istore (lv' := [(4, .int r24), (3, .int e14), (0, .ref x0), (1, .int x1), (2, .int x2)]) hx hb dX8_seen_46 hl (by decide) rfl (fun ls hl => ?_)
      refine lv_iload hx hb dX8_seen_48 (lv_at hl 0 rfl) ?_
      refine lv_if_ge (tgt := 67) hx hb dX8_seen_50 (by decide) (fun c25 => ?_) (fun c25 => ?_)
      · replace h := it_p c25 h
        refine lv_aload_n hx hb dX8_seen_67 rfl (lv_at hl 2 rfl) ?_
        replace h := ob_s h
        obtain ⟨f26, h27, h⟩ := h
        refine hm_get S hK hI (pf_X8_54_10 hK) (gR_s h27) dX8_seen_68 ?_
        refine lv_iconst (v := 4) hx hb dX8_seen_71 (by decide) ?_
        refine lv_iload_n hx hb dX8_seen_72 rfl (lv_at hl 1 rfl) ?_
        refine lv_imul hx hb dX8_seen_73 ?_
        refine lv_iload hx hb dX8_seen_74 (lv_at hl 0 rfl) ?_
        refine lv_iadd hx hb dX8_seen_76 ?_
        replace h := ob_s h
        obtain ⟨a28, rfl, h⟩ := h
        have hl : lv_has ls 5 [(4, .int r24), (3, .int e14), (0, .ref x0), (1, .int x1), (2, .int x2)] := hl
        replace h := ob_s h
        obtain ⟨e29, h30, h⟩ := h
        refine hm_zald S hK hI h30 dX8_seen_77 ?_
        refine lv_if_eq (tgt := 88) hx hb dX8_seen_78 (by decide) (fun c31 => ?_) (fun c31 => ?_)
        · replace h := it_p c31 h
          refine lv_aload_n hx hb dX8_seen_88 rfl (lv_at hl 2 rfl) ?_
          refine lv_iconst (v := 0) hx hb dX8_seen_89 (by decide) ?_
          replace h := ob_s h
          obtain ⟨σ32, h33, h⟩ := h
          refine hm_put S hK hI hL (pf_X8_132_10 hK) h33 ⟨rfl, rfl⟩ dX8_seen_90 (fun H locs hI hL => ?_)
          refine lv_aload_n hx hb dX8_seen_93 rfl (lv_at hl 2 rfl) ?_
          replace h := ob_s h
          obtain ⟨f34, h35, h⟩ := h
          refine hm_get S hK hI (pf_X8_84_10 hK) (gR_s h35) dX8_seen_94 ?_
          refine lv_iconst (v := 4) hx hb dX8_seen_97 (by decide) ?_
          refine lv_iload_n hx hb dX8_seen_98 rfl (lv_at hl 3 rfl) ?_
          refine lv_imul hx hb dX8_seen_99 ?_
          refine lv_iload hx hb dX8_seen_100 (lv_at hl 0 rfl) ?_
          refine lv_iadd hx hb dX8_seen_102 ?_
          replace h := ob_s h
          obtain ⟨a36, rfl, h⟩ := h
          have hl : lv_has ls 5 [(4, .int r24), (3, .int e14), (0, .ref x0), (1, .int x1), (2, .int x2)] := hl
          replace h := ob_s h
          obtain ⟨e37, h38, h⟩ := h
          refine hm_lald S hK hI h38 dX8_seen_103 ?_
          exact hm_lret hx hb hr hI hL h (by omega) (by omega) hlocks dX8_seen_104
        · replace h := it_n c31 h
          refine lv_aload_n hx hb dX8_seen_81 rfl (lv_at hl 2 rfl) ?_
          refine lv_bipush (v := 7) hx hb dX8_seen_82 (by decide) ?_
          replace h := ob_s h
          obtain ⟨_, h40, h⟩ := h
          replace h := cb_s h
          obtain ⟨r42, σ41, h39, h⟩ := h
          refine hm_call (hm_runV (As := [.int (7 : Int32)]) (rest := []) (ci := 10) S hK hI (obC_s h40) rfl (mX8_told l E h39) (pm_X8_152 hK) (pi_X8_told hK) (pl_X8_X8_told hK) ⟨by omega, by omega⟩ rfl hl.1 (Nat.le_of_ble_eq_true rfl) ⟨by omega, by omega⟩ dX8_seen_84) hL (fun H locs hI hL => ?_)
          exact hm_lret hx hb hr hI hL h (by omega) (by omega) hlocks dX8_seen_87
      · replace h := it_n c25 h
        refine lv_aload_n hx hb dX8_seen_53 rfl (lv_at hl 2 rfl) ?_
        refine lv_iload_n hx hb dX8_seen_54 rfl (lv_at hl 1 rfl) ?_
        refine lv_aload_n hx hb dX8_seen_55 rfl (lv_at hl 2 rfl) ?_
        replace h := ob_s h
        obtain ⟨f43, h44, h⟩ := h
        refine hm_get S hK hI (pf_X8_78_10 hK) (gR_s h44) dX8_seen_56 ?_
        refine lv_iload_n hx hb dX8_seen_59 rfl (lv_at hl 3 rfl) ?_
        replace h := ob_s h
        obtain ⟨a45, rfl, h⟩ := h
        have hl : lv_has ls 5 [(4, .int r24), (3, .int e14), (0, .ref x0), (1, .int x1), (2, .int x2)] := hl
        replace h := ob_s h
        obtain ⟨e46, h47, h⟩ := h
        refine hm_iald S hK hI h47 dX8_seen_60 ?_
        refine lv_iload_n hx hb dX8_seen_61 rfl (lv_at hl 4 rfl) ?_
        refine lv_iconst (v := 0) hx hb dX8_seen_62 (by decide) ?_
        replace h := ob_s h
        obtain ⟨_, h49, h⟩ := h
        replace h := cb_s h
        obtain ⟨r51, σ50, h48, h⟩ := h
        refine hm_call (hm_runV (As := [.int e14, .int e46, .int x2, .int (0 : Int32)]) (rest := []) (ci := 10) S hK hI (obC_s h49) rfl (mX8_find l E h48) (pm_X8_167 hK) (pi_X8_find hK) (pl_X8_X8_find hK) ⟨by omega, by omega⟩ rfl hl.1 (Nat.le_of_ble_eq_true rfl) ⟨by omega, by omega⟩ dX8_seen_63) hL (fun H locs hI hL => ?_)
        exact hm_lret hx hb hr hI hL h (by omega) (by omega) hlocks dX8_seen_66
    · replace h := it_p c10 h
      exact hJ21 _ _ _ _ h hI hL (lv_sub hl [0] rfl)

def fX8_why (x0 : Nat) (σ : hmS) : Option (Int32 × hmS) :=
  ob (gI σ x0 10 28) fun f1 => some (f1, σ)
set_option maxHeartbeats 4000000 in
set_option maxRecDepth 100000 in
theorem mX8_why (l : Launch) (E : hmG) {x0 : Nat} {σ σ' : hmS} {r : Int32} (h : fX8_why x0 σ = some (r, σ')) : Met l yX8_why [Cond.code yX8_why cX8_why 1 (some .int)] { frames := 0, cells := 0, slots := 0, locals := 0 } (hmPc E [.ref x0] σ) (hmQc E (some (.int r)) σ') 0 0 (fun q => hmL E ≤ q) := by
  refine Met.ofW (cc := cX8_why) (maxL := 1) (ret := (some .int)) (by decide) rfl ?_
  intro p e s m args below meth c s₁ B hml hv
  obtain ⟨rfl, hK, hI⟩ := hv
  have S : CallFix p m c cX8_why 1 s ([.ref x0] : List Value).toArray [] RX8 := ⟨B.exec, B.bytes, hml, findClass_of_methodNamed B.named, fun w hw => by cases hw⟩
  have hx := S.1
  have hb := S.2.1
  have hr := B.returns
  have hlocks := B.notSynchronized
  have hL : hmLo E [] := hmLo.nil
  have hl : lv_has ((lg_sl ([.ref x0]) ++ List.replicate (1 - (lg_sl ([.ref x0])).length) Slot.unset).toArray) 1 [(0, .ref x0)] := by exact lv_entry _ (Nat.le_of_ble_eq_true rfl)
  rw [lg_entry_eq]
  generalize (lg_sl ([.ref x0]) ++ List.replicate (1 - (lg_sl ([.ref x0])).length) Slot.unset).toArray = ls at hl ⊢
  generalize hRe : (headSpec [Cond.code yX8_why cX8_why 1 (some .int)] { frames := 0, cells := 0, slots := 0, locals := 0 }).room = R
  have hR1 : R.frames = 0 ∧ R.cells = 0 ∧ R.slots = 0 ∧ R.locals = 0 := by rw [← hRe]; exact ⟨rfl, rfl, rfl, rfl⟩
  clear hRe B hml
  generalize s.heap = H at hI ⊢
  generalize ([] : List Loc) = locs at hL ⊢
  have hmain := h
  clear h
  have h := hmain
  clear hmain
  unfold fX8_why at h
  refine lv_aload_n hx hb dX8_why_0 rfl (lv_at hl 0 rfl) ?_
  replace h := ob_s h
  obtain ⟨f1, h2, h⟩ := h
  refine hm_get S hK hI (pf_X8_132_10 hK) (gI_s h2) dX8_why_1 ?_
  exact hm_iret hx hb hr hI hL h (by omega) (by omega) hlocks dX8_why_4

def fX8_count_J27 (x0 : Nat) (x1 : Int32) (K4 : Int32 → Int32 → hmS → Option (Int32 × hmS)) (v3 : Int32) (w0 : Int32) (w1 : Int32) (σ : hmS) : Option (Int32 × hmS) :=
  K4 (w1 + w0) (v3 + (1 : Int32)) σ
def fX8_count_B4 (x0 : Nat) (x1 : Int32)  (K4 : Int32 → Int32 → hmS → Option (Int32 × hmS)) (v2 : Int32) (v3 : Int32) (σ : hmS) : Option (Int32 × hmS) :=
  if (8 : Int32) ≤ v3 then
    if x1 = 0 then
      ob (gI σ x0 10 0) fun f10 => some (f10, σ)
    else
      if x1 = (1 : Int32) then
        ob (gI σ x0 10 16) fun f8 => some (f8, σ)
      else
        if x1 = (2 : Int32) then
          ob (gI σ x0 10 23) fun f6 => some (f6, σ)
        else
          if x1 = (3 : Int32) then
            some (v2, σ)
          else
            some ((-1 : Int32), σ)
  else
    ob (gR σ x0 10 22) fun f12 => ob f12 fun a14 => ob (aI σ 0 a14 v3) fun e15 => if e15 = (-3 : Int32) then
      fX8_count_J27 x0 x1 K4 v3 (0 : Int32) v2 σ
    else
      fX8_count_J27 x0 x1 K4 v3 (1 : Int32) v2 σ
def fX8_count_L4 (x0 : Nat) (x1 : Int32)  : Nat → Int32 → Int32 → hmS → Option (Int32 × hmS)
  | 0 => fun _ _ _ => none
  | n + 1 => fX8_count_B4 x0 x1  (fX8_count_L4 x0 x1  n)
def fX8_count (x0 : Nat) (x1 : Int32) (σ : hmS) : Option (Int32 × hmS) :=
  fX8_count_L4 x0 x1 20 (0 : Int32) (0 : Int32) σ
set_option maxHeartbeats 4000000 in
set_option maxRecDepth 100000 in
theorem mX8_count (l : Launch) (E : hmG) {x0 : Nat} {x1 : Int32} {σ σ' : hmS} {r : Int32} (h : fX8_count x0 x1 σ = some (r, σ')) : Met l yX8_count [Cond.code yX8_count cX8_count 4 (some .int)] { frames := 0, cells := 0, slots := 0, locals := 0 } (hmPc E [.ref x0, .int x1] σ) (hmQc E (some (.int r)) σ') 0 0 (fun q => hmL E ≤ q) := by
  refine Met.ofW (cc := cX8_count) (maxL := 4) (ret := (some .int)) (by decide) rfl ?_
  intro p e s m args below meth c s₁ B hml hv
  obtain ⟨rfl, hK, hI⟩ := hv
  have S : CallFix p m c cX8_count 4 s ([.ref x0, .int x1] : List Value).toArray [] RX8 := ⟨B.exec, B.bytes, hml, findClass_of_methodNamed B.named, fun w hw => by cases hw⟩
  have hx := S.1
  have hb := S.2.1
  have hr := B.returns
  have hlocks := B.notSynchronized
  have hL : hmLo E [] := hmLo.nil
  have hl : lv_has ((lg_sl ([.ref x0, .int x1]) ++ List.replicate (4 - (lg_sl ([.ref x0, .int x1])).length) Slot.unset).toArray) 4 [(0, .ref x0), (1, .int x1)] := by exact lv_entry _ (Nat.le_of_ble_eq_true rfl)
  rw [lg_entry_eq]
  generalize (lg_sl ([.ref x0, .int x1]) ++ List.replicate (4 - (lg_sl ([.ref x0, .int x1])).length) Slot.unset).toArray = ls at hl ⊢
  generalize hRe : (headSpec [Cond.code yX8_count cX8_count 4 (some .int)] { frames := 0, cells := 0, slots := 0, locals := 0 }).room = R
  have hR1 : R.frames = 0 ∧ R.cells = 0 ∧ R.slots = 0 ∧ R.locals = 0 := by rw [← hRe]; exact ⟨rfl, rfl, rfl, rfl⟩
  clear hRe B hml
  generalize s.heap = H at hI ⊢
  generalize ([] : List Loc) = locs at hL ⊢
  have hmain := h
  clear h
  have hB4 : ∀ (K4 : Int32 → Int32 → hmS → Option (Int32 × hmS)), (∀ (v2 : Int32) (v3 : Int32) (σ : hmS) (H : Heap) (locs : List Loc) (ls : Array Slot), K4 v2 v3 σ = some (r, σ') → hmI E σ H → hmLo E locs → lv_has ls 4 [(0, .ref x0), (1, .int x1), (2, .int v2), (3, .int v3)] → W p l e R s m ([.ref x0, .int x1] : List Value).toArray below meth c H locs 0 0 (MQ below (hmQc E (some (.int r)) σ') ([.ref x0, .int x1] : List Value).toArray s 0 0 (fun q => hmL E ≤ q)) (F0 m 4 ls [])) → ∀ (v2 : Int32) (v3 : Int32) (σ : hmS) (H : Heap) (locs : List Loc) (ls : Array Slot), fX8_count_B4 x0 x1  K4 v2 v3 σ = some (r, σ') → hmI E σ H → hmLo E locs → lv_has ls 4 [(0, .ref x0), (1, .int x1), (2, .int v2), (3, .int v3)] → W p l e R s m ([.ref x0, .int x1] : List Value).toArray below meth c H locs 0 0 (MQ below (hmQc E (some (.int r)) σ') ([.ref x0, .int x1] : List Value).toArray s 0 0 (fun q => hmL E ≤ q)) (F0 m 4 ls []) := by
    intro K4 hk4
    have hJ27 : ∀ (v3 : Int32) (w0 : Int32) (w1 : Int32) (σ : hmS) (H : Heap) (locs : List Loc) (ls : Array Slot), fX8_count_J27 x0 x1 K4 v3 w0 w1 σ = some (r, σ') → hmI E σ H → hmLo E locs → lv_has ls 4 [(0, .ref x0), (1, .int x1), (3, .int v3)] → W p l e R s m ([.ref x0, .int x1] : List Value).toArray below meth c H locs 0 0 (MQ below (hmQc E (some (.int r)) σ') ([.ref x0, .int x1] : List Value).toArray s 0 0 (fun q => hmL E ≤ q)) (F0 m 27 ls [.int w0, .int w1]) := by
      intro v3 w0 w1 σ H locs ls h hI hL hl
      unfold fX8_count_J27 at h
      refine lv_iadd hx hb dX8_count_27 ?_
      refine lv_istore_n (lv' := [(2, .int (w1 + w0)), (0, .ref x0), (1, .int x1), (3, .int v3)]) hx hb dX8_count_28 rfl hl (by decide) rfl (fun ls hl => ?_)
      refine lv_iinc (v := (v3 + (1 : Int32))) (lv' := [(3, .int (v3 + (1 : Int32))), (2, .int (w1 + w0)), (0, .ref x0), (1, .int x1)]) hx hb dX8_count_29 hl (k := 3) rfl rfl (by decide) rfl (fun ls hl => ?_)
      refine lv_goto (tgt := 4) hx hb dX8_count_32 (by decide) ?_
      exact hk4 _ _ _ _ _ _ h hI hL (lv_sub hl [2, 3, 1, 0] rfl)
    intro v2 v3 σ H locs ls h hI hL hl
    unfold fX8_count_B4 at h
    refine lv_iload_n hx hb dX8_count_4 rfl (lv_at hl 3 rfl) ?_
    refine lv_bipush (v := 8) hx hb dX8_count_5 (by decide) ?_
    refine lv_icmp_ge (tgt := 35) hx hb dX8_count_7 (by decide) (fun c1 => ?_) (fun c1 => ?_)
    · replace h := it_p c1 h
      refine lv_iload_n hx hb dX8_count_35 rfl (lv_at hl 1 rfl) ?_
      refine lv_if_ne (tgt := 46) hx hb dX8_count_36 (by decide) (fun c2 => ?_) (fun c2 => ?_)
      · replace h := it_n c2 h
        refine lv_iload_n hx hb dX8_count_46 rfl (lv_at hl 1 rfl) ?_
        refine lv_iconst (v := 1) hx hb dX8_count_47 (by decide) ?_
        refine lv_icmp_ne (tgt := 58) hx hb dX8_count_48 (by decide) (fun c3 => ?_) (fun c3 => ?_)
        · replace h := it_n c3 h
          refine lv_iload_n hx hb dX8_count_58 rfl (lv_at hl 1 rfl) ?_
          refine lv_iconst (v := 2) hx hb dX8_count_59 (by decide) ?_
          refine lv_icmp_ne (tgt := 70) hx hb dX8_count_60 (by decide) (fun c4 => ?_) (fun c4 => ?_)
          · replace h := it_n c4 h
            refine lv_iload_n hx hb dX8_count_70 rfl (lv_at hl 1 rfl) ?_
            refine lv_iconst (v := 3) hx hb dX8_count_71 (by decide) ?_
            refine lv_icmp_ne (tgt := 79) hx hb dX8_count_72 (by decide) (fun c5 => ?_) (fun c5 => ?_)
            · replace h := it_n c5 h
              refine lv_iconst (v := -1) hx hb dX8_count_79 (by decide) ?_
              exact hm_iret hx hb hr hI hL h (by omega) (by omega) hlocks dX8_count_80
            · replace h := it_p c5 h
              refine lv_iload_n hx hb dX8_count_75 rfl (lv_at hl 2 rfl) ?_
              refine lv_goto (tgt := 80) hx hb dX8_count_76 (by decide) ?_
              exact hm_iret hx hb hr hI hL h (by omega) (by omega) hlocks dX8_count_80
          · replace h := it_p c4 h
            refine lv_aload_n hx hb dX8_count_63 rfl (lv_at hl 0 rfl) ?_
            replace h := ob_s h
            obtain ⟨f6, h7, h⟩ := h
            refine hm_get S hK hI (pf_X8_170_10 hK) (gI_s h7) dX8_count_64 ?_
            refine lv_goto (tgt := 80) hx hb dX8_count_67 (by decide) ?_
            exact hm_iret hx hb hr hI hL h (by omega) (by omega) hlocks dX8_count_80
        · replace h := it_p c3 h
          refine lv_aload_n hx hb dX8_count_51 rfl (lv_at hl 0 rfl) ?_
          replace h := ob_s h
          obtain ⟨f8, h9, h⟩ := h
          refine hm_get S hK hI (pf_X8_135_10 hK) (gI_s h9) dX8_count_52 ?_
          refine lv_goto (tgt := 80) hx hb dX8_count_55 (by decide) ?_
          exact hm_iret hx hb hr hI hL h (by omega) (by omega) hlocks dX8_count_80
      · replace h := it_p c2 h
        refine lv_aload_n hx hb dX8_count_39 rfl (lv_at hl 0 rfl) ?_
        replace h := ob_s h
        obtain ⟨f10, h11, h⟩ := h
        refine hm_get S hK hI (pf_X8_90_10 hK) (gI_s h11) dX8_count_40 ?_
        refine lv_goto (tgt := 80) hx hb dX8_count_43 (by decide) ?_
        exact hm_iret hx hb hr hI hL h (by omega) (by omega) hlocks dX8_count_80
    · replace h := it_n c1 h
      refine lv_iload_n hx hb dX8_count_10 rfl (lv_at hl 2 rfl) ?_
      refine lv_aload_n hx hb dX8_count_11 rfl (lv_at hl 0 rfl) ?_
      replace h := ob_s h
      obtain ⟨f12, h13, h⟩ := h
      refine hm_get S hK hI (pf_X8_72_10 hK) (gR_s h13) dX8_count_12 ?_
      refine lv_iload_n hx hb dX8_count_15 rfl (lv_at hl 3 rfl) ?_
      replace h := ob_s h
      obtain ⟨a14, rfl, h⟩ := h
      have hl : lv_has ls 4 [(0, .ref x0), (1, .int x1), (2, .int v2), (3, .int v3)] := hl
      replace h := ob_s h
      obtain ⟨e15, h16, h⟩ := h
      refine hm_iald S hK hI h16 dX8_count_16 ?_
      refine lv_bipush (v := -3) hx hb dX8_count_17 (by decide) ?_
      refine lv_icmp_ne (tgt := 26) hx hb dX8_count_19 (by decide) (fun c17 => ?_) (fun c17 => ?_)
      · replace h := it_n c17 h
        refine lv_iconst (v := 1) hx hb dX8_count_26 (by decide) ?_
        exact hJ27 _ _ _ _ _ _ _ h hI hL (lv_sub hl [0, 1, 3] rfl)
      · replace h := it_p c17 h
        refine lv_iconst (v := 0) hx hb dX8_count_22 (by decide) ?_
        refine lv_goto (tgt := 27) hx hb dX8_count_23 (by decide) ?_
        exact hJ27 _ _ _ _ _ _ _ h hI hL (lv_sub hl [0, 1, 3] rfl)
  have hL4 : ∀ n : Nat, ∀ (v2 : Int32) (v3 : Int32) (σ : hmS) (H : Heap) (locs : List Loc) (ls : Array Slot), fX8_count_L4 x0 x1  n v2 v3 σ = some (r, σ') → hmI E σ H → hmLo E locs → lv_has ls 4 [(0, .ref x0), (1, .int x1), (2, .int v2), (3, .int v3)] → W p l e R s m ([.ref x0, .int x1] : List Value).toArray below meth c H locs 0 0 (MQ below (hmQc E (some (.int r)) σ') ([.ref x0, .int x1] : List Value).toArray s 0 0 (fun q => hmL E ≤ q)) (F0 m 4 ls []) := by
    intro n
    induction n with
    | zero =>
      intro v2 v3 σ H locs ls h
      have h : none = some (r, σ') := h
      cases h
    | succ n ih => exact hB4 _ ih
  have h := hmain
  clear hmain
  unfold fX8_count at h
  refine lv_iconst (v := 0) hx hb dX8_count_0 (by decide) ?_
  refine lv_istore_n (lv' := [(2, .int (0 : Int32)), (0, .ref x0), (1, .int x1)]) hx hb dX8_count_1 rfl hl (by decide) rfl (fun ls hl => ?_)
  refine lv_iconst (v := 0) hx hb dX8_count_2 (by decide) ?_
  refine lv_istore_n (lv' := [(3, .int (0 : Int32)), (2, .int (0 : Int32)), (0, .ref x0), (1, .int x1)]) hx hb dX8_count_3 rfl hl (by decide) rfl (fun ls hl => ?_)
  exact hL4 20 _ _ _ _ _ _ h hI hL (lv_sub hl [2, 3, 1, 0] rfl)
