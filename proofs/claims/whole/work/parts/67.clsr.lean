/-! The class: type, with its arguments. -/
section DS
variable {E : hmG} {xa ma : Nat} {a : aS} {w : cG} {σ : hmS}
theorem cd_tmake (hi : Iv a) (h : RC E xa ma (a.1 16 0) a w σ) (hn : a.1 0 0 < 12) {kk : Nat} (hk : kk < 6) {ow oc : Option Nat} (how : ∀ q, ow = some q → q < a.1 0 0) (hoc : ∀ c, oc = some c → c < 26) (hk0 : kk = 0 ↔ ow = none) (hk5 : kk = 5 ↔ oc = none) (y z : Int32) : CC E xa ma (if taken a kk ow oc then (-4, a) else (nI (a.1 0 0), newT a kk ow oc (1 + cnt (twP a kk ow oc) (a.1 0 0) 0) (ahd a kk ow))).2 (if taken a kk ow oc then ((-4 : Int32), a) else (nI (a.1 0 0), newT a kk ow oc (1 + cnt (twP a kk ow oc) (a.1 0 0) 0) (ahd a kk ow))).1 σ (fX7_type_J76 E xa (nI kk) y z (mp w.1 5 ow) (lt oc) σ) := by
  obtain ⟨hbd, hw, hc, hO, hq, hz⟩ := id hi
  have et := h.htaken hw hbd hk how hoc
  cases hT : taken a kk ow oc with
  | true =>
    rw [if_pos rfl]
    refine CC.here h ?_
    simp only [fX7_type_J76, h.mC, ob_some, et, hT, cb_some, b2_0, Bool.true_eq_false, if_false]
  | false =>
    rw [if_neg (by decide)]
    obtain ⟨num, hnu⟩ : ∃ num, num = 1 + cnt (twP a kk ow oc) (a.1 0 0) 0 := ⟨_, rfl⟩
    have hcn := cnt_le (twP a kk ow oc) (a.1 0 0) 0
    rw [← hnu]
    have ew := h.twin hw hbd hk how hoc
    rw [← hnu] at ew
    have htw : (if 3 ≤ kk then num else 0) < 13 := by split <;> omega
    obtain ⟨σ3, s, e3, x3, ht⟩ := h.tinit hw hn hk how hoc hk0 htw
    have g3 := h.ext x3
    have hv1 : vld (a.1 16 0) a 1 0 0 := vld_0 (by decide)
    obtain ⟨c, q1, f, rfl, q2⟩ := g3.cell hv1
    have hkR : okR σ3 (hmC 4) (some σ.2) = true := okR_of ht.2.2.1
    have es := sR_of q1 (by decide) (by decide) hn (by decide) hkR
    obtain ⟨σ4, hs4⟩ : ∃ σ4, σ4 = hmU σ3 (w.1 1 0 0) (.inl (4, 12, .inr (.inr (.inr (.inr (va_up f (a.1 0 0) (some σ.2))))))) := ⟨_, rfl⟩
    rw [← hs4] at es
    have g4 : RC E xa ma (a.1 16 0) a w σ4 := by
      rw [hs4]
      exact g3.one hv1 (fun _ _ _ q => q) (fun _ _ _ _ _ _ hc => hc) ⟨_, rfl, fun j hj => by
        rw [va_up_ne _ _ (by omega)]; exact q2 j hj⟩
    have em := wF_of (k := 1) g4.c0 (by simp) (.int (nI (a.1 0 0 + 1)))
    obtain ⟨σ5, hs5⟩ : ∃ σ5, σ5 = hmU σ4 xa (.inr (9, [.ref (w.1 1 0 0), .int (nI (a.1 0 0 + 1)), .ref (w.1 2 0 0), .int (nI (a.1 16 0)), .ref (w.1 3 0 0), .int (nI (a.1 23 0)), .ref (w.1 4 0 0), .int a.2.2.2])) := ⟨_, rfl⟩
    have em' : wF σ4 xa 9 1 (.int (nI (a.1 0 0 + 1))) = some σ5 := by rw [em, hs5]; rfl
    have d5 : σ5.1 xa = some (.inr (9, [.ref (w.1 1 0 0), .int (nI (a.1 0 0 + 1)), .ref (w.1 2 0 0), .int (nI (a.1 16 0)), .ref (w.1 3 0 0), .int (nI (a.1 23 0)), .ref (w.1 4 0 0), .int a.2.2.2])) := by rw [hs5]; exact hmU_s _ _ _
    have e5 : gI σ5 xa 9 1 = some (nI (a.1 0 0 + 1)) := gI_of d5 rfl
    have g1 := h.ext (Ext.new σ (.inr (8, [.int 0, .int 0, .null, .int 0, .int 0, .int 0, .null, .null, .null, .int 0, .null])))
    have R := RC.tnew hi h hn hk how hoc hk0 hk5 (num := num) (by omega) x3 ht q1 q2
    rw [← hs4, ← hs5] at R
    refine ⟨tyG w (a.1 0 0) σ.2 s, σ5, ?_, ?_, ?_⟩
    · simp only [fX7_type_J76, h.mC, ob_some, et, hT, cb_some, b2_0, if_true, ew, h.m0, h.m1, nw, g1.m1, e3, es, g4.m1, n_s, em', e5, nI_pred]
    · have e16 : (newT a kk ow oc num (ahd a kk ow)).1 16 0 = a.1 16 0 := nt_o (by decide) (by decide) (by decide) (by decide)
      show RC E xa ma ((newT a kk ow oc num (ahd a kk ow)).1 16 0) _ _ _
      rw [e16]
      exact R
    · refine ⟨?_, fun q hq' => ?_⟩
      · rw [hs5, hs4]; exact x3.1
      · rw [hs5, hmU_n _ _ (fun e => h.out (vld_0 (k := 0) (by decide)) (by rw [h.2.1, ← e]; exact hq')), hs4, hmU_n _ _ (show q ≠ w.1 1 0 0 from fun e => h.out hv1 (e ▸ hq'))]
        exact x3.2 q (h.outlt hq')
theorem cd_type (hi : Iv a) (h : RC E xa ma (a.1 16 0) a w σ) (x y z : Int32) : CC E xa ma (sp_type a x y z).2 (sp_type a x y z).1 σ (fX7_type E xa x y z σ) := by
  obtain ⟨hbd, hw, hc, hO, hq, hz⟩ := id hi
  have hn := hw.n12
  have e12 : (nI (a.1 0 0) < (12 : Int32)) = (a.1 0 0 < 12) := n_lt (y := 12) (by omega) (by decide)
  -- with the arguments read
  have J54 : ∀ (kk : Nat) (ow oc : Option Nat), kk < 6 → (∀ q, ow = some q → q < a.1 0 0) → (∀ c, oc = some c → c < 26) → (kk = 0 ↔ ow = none) → (kk = 5 ↔ oc = none) → (kk ≠ 5 → z = lt oc) → CC E xa ma (if a.1 0 0 = 12 then (-2, a) else if taken a kk ow oc then (-4, a) else (nI (a.1 0 0), newT a kk ow oc (1 + cnt (twP a kk ow oc) (a.1 0 0) 0) (ahd a kk ow))).2 (if a.1 0 0 = 12 then ((-2 : Int32), a) else if taken a kk ow oc then (-4, a) else (nI (a.1 0 0), newT a kk ow oc (1 + cnt (twP a kk ow oc) (a.1 0 0) 0) (ahd a kk ow))).1 σ (fX7_type_J54 E xa (nI kk) y z (mp w.1 5 ow) σ) := by
    intro kk ow oc hk how hoc hk0 hk5 hzz
    have ek5 : (nI kk = (5 : Int32)) = (kk = 5) := n_eq (y := 5) (by omega) (by decide)
    by_cases hf : a.1 0 0 = 12
    · rw [if_pos hf]
      refine CC.here h ?_
      simp only [fX7_type_J54, h.m1, ob_some, e12, if_neg (show ¬ a.1 0 0 < 12 by omega)]
    · rw [if_neg hf]
      simp only [fX7_type_J54, h.m1, ob_some, e12, if_pos (show a.1 0 0 < 12 by omega), ek5]
      by_cases k5 : kk = 5
      · have : oc = none := hk5.mp k5
        rw [if_pos k5, show (-1 : Int32) = lt oc by rw [this]; rfl]
        exact cd_tmake hi h (by omega) hk how hoc hk0 hk5 y z
      · rw [if_neg k5]
        have := cd_tmake hi h (by omega) hk how hoc hk0 hk5 y z
        rw [← hzz k5] at this
        exact this
  have i5 : ∀ {k : Nat}, k < 6 → ((nI k ≤ (5 : Int32)) = (k ≤ 5)) := fun hk => n_le (y := 5) (by omega) (by decide)
  unfold sp_type tyArg
  cases hx : ix x 6 with
  | none =>
    refine CC.here h ?_
    unfold fX7_type
    rcases ix_n hx (by decide) with q | q
    · rw [if_pos q]
    · split
      · rfl
      · rename_i h0
        obtain ⟨j, hj, rfl⟩ := nI_of h0
        have hj' : 6 ≤ j := (nI_leI (by omega) hj).mp q
        rw [if_neg (fun z => by have : j ≤ 5 := (nI_leI hj (by omega)).mp z; omega)]
  | some k =>
    obtain ⟨hk, rfl⟩ := ix_s hx (by decide)
    have ek0 : (nI k = (0 : Int32)) = (k = 0) := n_eq (y := 0) (by omega) (by decide)
    have ek5 : (nI k = (5 : Int32)) = (k = 5) := n_eq (y := 5) (by omega) (by decide)
    dsimp only
    unfold fX7_type
    rw [if_neg (n_nn (show k < 100000 by omega)), if_pos (show nI k ≤ (5 : Int32) by rw [i5 hk]; omega)]
    simp only [ek5]
    by_cases k5 : k = 5
    · rw [if_pos k5, if_pos k5]
      simp only [fX7_type_J28, ek0, show ¬ k = 0 by omega, if_false, h.mC, ob_some, h.typeAt hn, cb_some, fX7_type_J41]
      cases hy : ix y (a.1 0 0) with
      | none => exact CC.here h (by simp [mp, oc_none])
      | some v =>
        obtain ⟨hv, hvv⟩ := ix_s hy (by omega)
        dsimp only
        simp only [mp_s, oc_some]
        subst k5
        exact J54 5 (some v) none (by decide) (fun q hq' => by cases hq'; exact hv) (fun c hc' => by cases hc') ⟨fun q => by omega, fun q => by cases q⟩ ⟨fun _ => rfl, fun _ => rfl⟩ (fun q => absurd rfl q)
    · rw [if_neg k5, if_neg k5]
      cases hz' : ix z 26 with
      | none =>
        refine CC.here h ?_
        rcases ix_n hz' (by decide) with q | q
        · rw [if_pos q]
        · split
          · rfl
          · rename_i h0
            obtain ⟨j, hj, rfl⟩ := nI_of h0
            have hj' : 26 ≤ j := (nI_leI (by omega) hj).mp q
            rw [if_neg (fun z => by have : j < 26 := (nI_ltI hj (by omega)).mp z; omega)]
      | some c =>
        obtain ⟨hcc, rfl⟩ := ix_s hz' (by decide)
        have ez : (nI c < (26 : Int32)) = (c < 26) := n_lt (y := 26) (by omega) (by decide)
        rw [if_neg (n_nn (show c < 100000 by omega)), if_pos (by rw [ez]; exact hcc)]
        dsimp only
        by_cases k0 : k = 0
        · rw [if_pos k0]
          simp only [fX7_type_J28, ek0, k0, if_true, fX7_type_J41]
          subst k0
          exact J54 0 none (some c) (by decide) (fun q hq' => by cases hq') (fun c' hc' => by cases hc'; exact hcc) ⟨fun _ => rfl, fun _ => rfl⟩ ⟨fun q => by omega, fun q => by cases q⟩ (fun _ => rfl)
        · rw [if_neg k0]
          simp only [fX7_type_J28, ek0, k0, if_false, h.mC, ob_some, h.typeAt hn, cb_some, fX7_type_J41]
          cases hy : ix y (a.1 0 0) with
          | none => exact CC.here h (by simp [mp, oc_none])
          | some v =>
            obtain ⟨hv, hvv⟩ := ix_s hy (by omega)
            dsimp only
            simp only [mp_s, oc_some]
            exact J54 k (some v) (some c) hk (fun q hq' => by cases hq'; exact hv) (fun c' hc' => by cases hc'; exact hcc) ⟨fun q => absurd q k0, fun q => by cases q⟩ ⟨fun q => absurd q k5, fun q => by cases q⟩ (fun _ => rfl)
end DS
