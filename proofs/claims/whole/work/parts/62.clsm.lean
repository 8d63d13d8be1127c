/-! The library: a text and a number joined, and the text taken. -/
theorem sb_str {σb σ : hmS} {q m0 : Nat} {L : List Nat} (h : SB σb σ q L m0) {s pb : Nat} {N : List Nat} {x y : Int32} {fb : Nat → Int32} (hs : σb.1 s = some (.inr (0, [.ref pb, .int 0, .int x, .int y]))) (hsl : s < σb.2) (hpl : pb < σb.2) (hpb : σb.1 pb = some (.inl (3, N.length, .inl fb))) (hfb : ∀ i, i < N.length → fb i = nI (N.getD i 0)) (hN : ∀ c ∈ N, c < 128) (hl : L.length + N.length < 61) : ∃ σ', fJ4_append_15ec4 q (some s) σ = some (some q, σ') ∧ SB σb σ' q (L ++ N) 0 := by
  obtain ⟨hx0, -, -, p0, cap0, f0, z0, k1, -⟩ := id h
  have g3 : gI σ q 1 3 = some (nI L.length) := gI_of k1 rfl
  have cod : ∀ {σ : hmS}, σ.1 s = some (.inr (0, [.ref pb, .int 0, .int x, .int y])) → fJ0_coder_7d493 s σ = some (0, σ) := fun {σ} hs => by
    unfold fJ0_coder_7d493
    rw [if_neg (by decide), show gI σ s 0 1 = some 0 from gI_of hs rfl]
    rfl
  have hs0 : σ.1 s = some (.inr (0, [.ref pb, .int 0, .int x, .int y])) := by rw [hx0.2 s hsl]; exact hs
  have hpb0 : σ.1 pb = some (.inl (3, N.length, .inl fb)) := by rw [hx0.2 pb hpl]; exact hpb
  have hlen : fJ0_length_8abf5 s σ = some (nI N.length, σ) := by
    simp only [fJ0_length_8abf5, show gR σ s 0 0 = some (some pb) from gR_of hs0 rfl, ob_some, aN_of hpb0, obC_of hs0, cod hs0, cb_some, shr0]
  obtain ⟨σ1, e1, h1⟩ := sb_ens h (m := L.length + N.length) hl
  obtain ⟨hx, hq1, hq2, p, cap, f, z, c1, ⟨p1, p2, p3⟩, c2, hLc, hmc, hc128, hby, hL⟩ := h1
  have hs1 : σ1.1 s = some (.inr (0, [.ref pb, .int 0, .int x, .int y])) := by rw [hx.2 s hsl]; exact hs
  have hpb1 : σ1.1 pb = some (.inl (3, N.length, .inl fb)) := by rw [hx.2 pb hpl]; exact hpb
  have hbf : ∀ i, i < N.length → ∃ c, c < 128 ∧ fb i = nI c := fun i hi => ⟨N.getD i 0, hN _ (by
    rw [List.getD_eq_getElem?_getD, List.getElem?_eq_getElem hi]
    exact List.getElem_mem hi), hfb i hi⟩
  have eC : cpB σ1 pb (0 : Int32) p (nI L.length) (nI N.length) = some (hmU σ1 p (.inl (3, cap, .inl (va_cpy fb f 0 L.length N.length)))) := by
    unfold cpB
    rw [hpb1, c2]
    show (if hmB 3 = 3 ∧ (3 : Nat) = 3 ∧ ¬ (0 : Int32) < 0 ∧ ¬ nI L.length < 0 ∧ ¬ nI N.length < 0 ∧ 0 + (nI N.length).toNatClampNeg ≤ N.length ∧ (nI L.length).toNatClampNeg + (nI N.length).toNatClampNeg ≤ cap ∧ okBs fb 0 (nI N.length).toNatClampNeg = true then some (hmU σ1 p (.inl (3, cap, .inl (va_cpy fb f 0 (nI L.length).toNatClampNeg (nI N.length).toNatClampNeg)))) else none) = _
    rw [nI_clamp (show N.length < 2 ^ 31 by omega), nI_clamp (show L.length < 2 ^ 31 by omega), if_pos ⟨rfl, rfl, by decide, n_nn (by omega), n_nn (by omega), by omega, by omega, okBs_of hbf⟩]
  obtain ⟨σ2, hs2⟩ : ∃ σ2, σ2 = hmU σ1 p (.inl (3, cap, .inl (va_cpy fb f 0 L.length N.length))) := ⟨_, rfl⟩
  rw [← hs2] at eC
  have d2 : σ2.1 p = some (.inl (3, cap, .inl (va_cpy fb f 0 L.length N.length))) := by rw [hs2]; exact hmU_s _ _ _
  have c1' : σ2.1 q = some (.inr (1, [.ref p, .int 0, .int z, .int (nI L.length)])) := by rw [hs2, hmU_n _ _ p3.symm]; exact c1
  have w1 := wF_of (k := 3) c1' (by simp) (.int (nI (L.length + N.length)))
  obtain ⟨σ3, hs3⟩ : ∃ σ3, σ3 = hmU σ2 q (.inr (1, [.ref p, .int 0, .int z, .int (nI (L.length + N.length))])) := ⟨_, rfl⟩
  have w1' : wF σ2 q 1 3 (.int (nI (L.length + N.length))) = some σ3 := by rw [w1, hs3]; rfl
  have d3 : σ3.1 q = some (.inr (1, [.ref p, .int 0, .int z, .int (nI (L.length + N.length))])) := by rw [hs3]; exact hmU_s _ _ _
  have d3' : σ3.1 p = some (.inl (3, cap, .inl (va_cpy fb f 0 L.length N.length))) := by rw [hs3, hmU_n _ _ p3]; exact d2
  have hinf : fJ5_inflateIfNeededFor_a7421 q (some s) σ1 = some ((), σ1) := by
    unfold fJ5_inflateIfNeededFor_a7421
    rw [if_neg (by decide), show gI σ1 q 1 1 = some 0 from gI_of c1 rfl]
    simp only [ob_some, obC_of hs1, cod hs1, cb_some, if_true]
  have hput : fJ5_putStringAt_47b60 q (nI L.length) (some s) σ1 = some ((), σ2) := by
    have g1 : gR σ1 q 1 0 = some (some p) := gR_of c1 rfl
    have g2 : gI σ1 q 1 1 = some 0 := gI_of c1 rfl
    have g4 : gR σ1 s 0 0 = some (some pb) := gR_of hs1 rfl
    simp only [fJ5_putStringAt_47b60, obC_of c1, ob_some, hinf, cb_some, g1, g2, obC_of hs1, fJ0_getBytes_840e7, cod hs1, if_true, g4, aN_of hpb1, shl0, eC]
  refine ⟨σ3, ?_, ?_, hq1, ?_, p, cap, va_cpy fb f 0 L.length N.length, z, ?_, ⟨p1, ?_, p3⟩, d3', ?_, by omega, hc128, fun i hi => ?_, fun i hi => ?_⟩
  · have g2 : gI σ1 q 1 3 = some (nI L.length) := gI_of c1 rfl
    have g5 : gI σ2 q 1 3 = some (nI L.length) := gI_of c1' rfl
    simp only [fJ4_append_15ec4, obC_of k1, ob_some, fJ5_append_cf1ce, oc_some, obC_of hs0, hlen, cb_some, g3, nI_add, e1, g2, obC_of c1, hput, g5, w1']
  · rw [hs3, hs2]; exact (hx.up p1 _).up hq1 _
  · rw [hs3, hs2]; exact hq2
  · rw [List.length_append]; exact d3
  · rw [hs3, hs2]; exact p2
  · rw [List.length_append]; exact hmc
  · unfold va_cpy
    split
    · exact hbf _ (by omega)
    · exact hby i hi
  · rw [List.length_append] at hi
    unfold va_cpy
    by_cases e : i < L.length
    · rw [if_neg (by omega), hL i e]
      simp [List.getD_eq_getElem?_getD, List.getElem?_append_left e]
    · rw [if_pos (by omega), hfb _ (by omega)]
      rw [Nat.zero_add]
      simp only [List.getD_eq_getElem?_getD]
      rw [List.getElem?_append_right (by omega)]
theorem num_f : ∀ n, n < 13 → (0 : Int32) ≤ nI n ∧ ¬ nI n < 0 ∧ (-100 : Int32) < -(nI n) ∧ - -(nI n) = nI n ∧ ((-9 : Int32) ≤ -(nI n) ↔ n ≤ 9) ∧ (-(nI n) ≤ (-10 : Int32) ↔ 10 ≤ n) ∧ ¬ -(nI n) ≤ (10 : Int32) * (-10 : Int32) := by decide +kernel
theorem num_size {n : Nat} (hn : n < 13) (σ : hmS) : fJ6_stringSize_0f7a4 (nI n) σ = some (nI (dig n).length, σ) := by
  obtain ⟨-, f1, -, -, -, f5, f6⟩ := num_f n hn
  unfold fJ6_stringSize_0f7a4
  rw [if_neg f1]
  unfold fJ6_stringSize_0f7a4_J11
  show fJ6_stringSize_0f7a4_B16 (fJ6_stringSize_0f7a4_B16 (fJ6_stringSize_0f7a4_L16 18)) (-(nI n)) (0 : Int32) (-10 : Int32) (1 : Int32) σ = _
  unfold fJ6_stringSize_0f7a4_B16
  rw [if_neg (show ¬ (10 : Int32) ≤ 1 by decide)]
  by_cases h : 10 ≤ n
  · rw [if_pos (f5.mpr h), if_neg (show ¬ (10 : Int32) ≤ 1 + 1 by decide), if_neg f6]
    rw [show dig n = [48 + n % 10, 48 + n / 10] by unfold dig; rw [if_neg (by omega)]]
    rfl
  · rw [if_neg (fun q => h (f5.mp q))]
    rw [show dig n = [48 + n] by unfold dig; rw [if_pos (by omega)]]
    rfl
theorem m1_nI {m : Nat} (h : 1 ≤ m) : nI m + (-1 : Int32) = nI (m - 1) := by
  obtain ⟨k, rfl⟩ : ∃ k, m = k + 1 := ⟨m - 1, by omega⟩
  rw [n_m1, nI_pred]; rfl
theorem sb_int {E : hmG} {σb σ : hmS} {q m0 : Nat} {L : List Nat} (h : SB σb σ q L m0) (ht : stt E σb) (hld : L.length < 58) {n : Nat} (hn : n < 13) (hn1 : 1 ≤ n) : ∃ σ', fJ4_append_bf812 E q (nI n) σ = some (some q, σ') ∧ SB σb σ' q (L ++ (dig n).reverse) 0 := by
  obtain ⟨hx0, -, -, p0, cap0, f0, z0, k1, -⟩ := id h
  obtain ⟨a1, a2, a3, a4, a5, -, -⟩ := num_f n hn
  have g3 : gI σ q 1 3 = some (nI L.length) := gI_of k1 rfl
  have hdl : (dig n).length ≤ 2 := by unfold dig; split <;> simp
  have hd1 : 1 ≤ (dig n).length := by unfold dig; split <;> simp
  obtain ⟨σ1, e1, h1⟩ := sb_ens h (m := L.length + (dig n).length) (by omega)
  obtain ⟨hx, hq1, hq2, p, cap, f, z, c1, ⟨p1, p2, p3⟩, c2, hLc, hmc, hc128, hby, hL⟩ := h1
  obtain ⟨t0, t1, t2, ⟨z0', z1', z2'⟩, tl⟩ := ht
  have o1 : σ1.1 (hmZ E 1) = some (.inl (10, 100, .inl dgO)) := by rw [hx.2 _ (by omega)]; exact t1
  have hl1 : fJ5_isLatin1_aae02 q σ1 = some (1, σ1) := by
    unfold fJ5_isLatin1_aae02
    rw [if_neg (by decide), show gI σ1 q 1 1 = some 0 from gI_of c1 rfl]
    rfl
  have r1 : aI σ1 3 (hmZ E 1) (nI n) = some (dgO n) := aI_of (bk := 3) o1 rfl (by omega) (by decide)
  -- the last digit
  have b1 : 48 + n % 10 < 128 := by omega
  have eS := sI_of (i := L.length + (dig n).length - 1) c2 (by decide) (by omega) (by omega) (nI (48 + n % 10))
  obtain ⟨σ2, hs2⟩ : ∃ σ2, σ2 = hmU σ1 p (.inl (3, cap, .inl (upd f (L.length + (dig n).length - 1) (nI (48 + n % 10))))) := ⟨_, rfl⟩
  rw [← hs2] at eS
  have d2 : σ2.1 p = some (.inl (3, cap, .inl (upd f (L.length + (dig n).length - 1) (nI (48 + n % 10))))) := by rw [hs2]; exact hmU_s _ _ _
  have c12 : σ2.1 q = some (.inr (1, [.ref p, .int 0, .int z, .int (nI L.length)])) := by rw [hs2, hmU_n _ _ p3.symm]; exact c1
  have x2 : Ext σb σ2 := by rw [hs2]; exact hx.up p1 _
  have g1 : gR σ1 q 1 0 = some (some p) := gR_of c1 rfl
  have fin : ∀ (σ3 : hmS) (f3 : Nat → Int32), fJ6_getChars_ba4f3 E (nI n) (nI (L.length + (dig n).length)) (some p) σ1 = some (nI L.length, σ3) → Ext σb σ3 → σ3.2 = σ1.2 → σ3.1 q = some (.inr (1, [.ref p, .int 0, .int z, .int (nI L.length)])) → σ3.1 p = some (.inl (3, cap, .inl f3)) → (∀ i, i < cap → ∃ c, c < 128 ∧ f3 i = nI c) → (∀ i, i < L.length + (dig n).length → f3 i = nI ((L ++ (dig n).reverse).getD i 0)) → ∃ σ', fJ4_append_bf812 E q (nI n) σ = some (some q, σ') ∧ SB σb σ' q (L ++ (dig n).reverse) 0 := by
    intro σ3 f3 eG x3 l3 d3 d3' hb3 hv3
    have w1 := wF_of (k := 3) d3 (by simp) (.int (nI (L.length + (dig n).length)))
    obtain ⟨σ4, hs4⟩ : ∃ σ4, σ4 = hmU σ3 q (.inr (1, [.ref p, .int 0, .int z, .int (nI (L.length + (dig n).length))])) := ⟨_, rfl⟩
    have w1' : wF σ3 q 1 3 (.int (nI (L.length + (dig n).length))) = some σ4 := by rw [w1, hs4]; rfl
    refine ⟨σ4, ?_, ?_, hq1, ?_, p, cap, f3, z, ?_, ⟨p1, ?_, p3⟩, ?_, ?_, by omega, hc128, hb3, fun i hi => ?_⟩
    · simp only [fJ4_append_bf812, obC_of k1, ob_some, fJ5_append_c97b9, g3, num_size hn, cb_some, nI_add, e1, obC_of c1, hl1, if_neg (show ¬ (1 : Int32) = 0 by decide), g1, eG, fJ5_append_c97b9_J48, w1']
    · rw [hs4]; exact x3.up hq1 _
    · rw [hs4]; show q < σ3.2; omega
    · rw [hs4, List.length_append, List.length_reverse]; exact hmU_s _ _ _
    · rw [hs4]; show p < σ3.2; omega
    · rw [hs4, hmU_n _ _ p3]; exact d3'
    · rw [List.length_append, List.length_reverse]; exact hmc
    · rw [List.length_append, List.length_reverse] at hi; exact hv3 i hi
  have eH : ∀ X, fJ6_getChars_ba4f3 E (nI n) (nI (L.length + (dig n).length)) (some p) σ1 = X ↔ fJ6_getChars_ba4f3_B22 E (nI (L.length + (dig n).length)) (some p) (fJ6_getChars_ba4f3_L22 E (nI (L.length + (dig n).length)) (some p) 19) (-(nI n)) (nI (L.length + (dig n).length)) (0 : Int32) σ1 = X := by
    intro X
    unfold fJ6_getChars_ba4f3
    rw [if_pos a1]
    unfold fJ6_getChars_ba4f3_J12
    rw [if_pos rfl]
    rfl
  by_cases h10 : n < 10
  · have hd : dig n = [48 + n] := by unfold dig; rw [if_pos h10]
    have hlen : (dig n).length = 1 := by rw [hd]; rfl
    refine fin σ2 _ ?_ x2 (by rw [hs2]; rfl) c12 d2 (fun i hi => ?_) (fun i hi => ?_)
    · rw [eH]
      unfold fJ6_getChars_ba4f3_B22
      rw [if_pos a3, a4, r1, ob_some, ob_some, m1_nI (by omega), show dgO n = nI (48 + n % 10) from rfl, (b_nar _ b1).1, eS, ob_some, if_pos (a5.mpr (by omega))]
      unfold fJ6_getChars_ba4f3_J104
      rw [if_pos rfl, hlen]
      rfl
    · rw [upd_at]
      split
      · exact ⟨_, b1, rfl⟩
      · exact hby i hi
    · rw [upd_at, hlen, hd]
      rw [hlen] at hi
      by_cases e : i = L.length
      · subst e
        rw [if_pos (by omega)]
        rw [show ([48 + n] : List Nat).reverse = [48 + n] from rfl, getD_app2, Nat.mod_eq_of_lt h10]
      · rw [if_neg (by omega), show ([48 + n] : List Nat).reverse = [48 + n] from rfl, getD_app1 (by omega)]
        exact hL i (by omega)
  · have hd : dig n = [48 + n % 10, 48 + n / 10] := by unfold dig; rw [if_neg h10]
    have hlen : (dig n).length = 2 := by rw [hd]; rfl
    have b2' : 48 + n / 10 < 128 := by omega
    have o2 : σ2.1 (hmZ E 2) = some (.inl (11, 100, .inl dgT)) := by rw [x2.2 _ (by omega)]; exact t2
    have r2 : aI σ2 3 (hmZ E 2) (nI n) = some (dgT n) := aI_of (bk := 3) o2 rfl (by omega) (by decide)
    have eT := sI_of (i := L.length) d2 (by decide) (by omega) (by omega) (nI (48 + n / 10))
    obtain ⟨σ3, hs3⟩ : ∃ σ3, σ3 = hmU σ2 p (.inl (3, cap, .inl (upd (upd f (L.length + (dig n).length - 1) (nI (48 + n % 10))) L.length (nI (48 + n / 10))))) := ⟨_, rfl⟩
    rw [← hs3] at eT
    refine fin σ3 (upd (upd f (L.length + (dig n).length - 1) (nI (48 + n % 10))) L.length (nI (48 + n / 10))) ?_ (by rw [hs3]; exact x2.up p1 _) (by rw [hs3, hs2]; rfl) (by rw [hs3, hmU_n _ _ p3.symm]; exact c12) (by rw [hs3]; exact hmU_s _ _ _) (fun i hi => ?_) (fun i hi => ?_)
    · rw [eH]
      unfold fJ6_getChars_ba4f3_B22
      rw [if_pos a3, a4, r1, ob_some, ob_some, m1_nI (by omega), show dgO n = nI (48 + n % 10) from rfl, (b_nar _ b1).1, eS, ob_some, if_neg (fun q => h10 (by have := a5.mp q; omega)), r2, ob_some, m1_nI (by omega), show dgT n = nI (48 + n / 10) from by unfold dgT; rw [show n / 10 % 10 = n / 10 by omega], (b_nar _ b2').1, show L.length + (dig n).length - 1 - 1 = L.length by omega, eT, ob_some]
      unfold fJ6_getChars_ba4f3_J104
      rw [if_pos rfl]
    · rw [upd_at, upd_at]
      split
      · exact ⟨_, b2', rfl⟩
      · split
        · exact ⟨_, b1, rfl⟩
        · exact hby i hi
    · rw [hlen] at hi
      rw [upd_at, upd_at, hlen, hd, show ([48 + n % 10, 48 + n / 10] : List Nat).reverse = [48 + n / 10] ++ [48 + n % 10] from rfl, ← List.append_assoc]
      by_cases e : i = L.length
      · subst e
        rw [if_pos rfl, getD_app1 (by simp), getD_app2]
      · rw [if_neg e]
        by_cases e2 : i = L.length + 1
        · subst e2
          rw [if_pos (by omega)]
          have := getD_app2 (L := L ++ [48 + n / 10]) (v := 48 + n % 10)
          rw [List.length_append, List.length_singleton] at this
          rw [this]
        · rw [if_neg (by omega), getD_app1 (by simp; omega), getD_app1 (by omega)]
          exact hL i (by omega)
theorem sb_take {σb σ : hmS} {q m0 : Nat} {L : List Nat} (h : SB σb σ q L m0) : ∃ σ' f, fJ4_toString_0e30d q σ = some (some σ.2, σ') ∧ Ext σb σ' ∧ σ.2 + 1 < σ'.2 ∧ σ'.1 σ.2 = some (.inr (0, [.ref (σ.2 + 1), .int 0, .int 0, .int 0])) ∧ σ'.1 (σ.2 + 1) = some (.inl (3, L.length, .inl f)) ∧ ∀ i, i < L.length → f i = nI (L.getD i 0) := by
  obtain ⟨hx, hq1, hq2, p, cap, f, z, c1, ⟨p1, p2, p3⟩, c2, hLc, hmc, hc128, hby, hL⟩ := h
  obtain ⟨σ1, hs1⟩ : ∃ σ1, σ1 = hmN σ (.inr (0, [.null, .int 0, .int 0, .int 0])) := ⟨_, rfl⟩
  have x1 : Ext σ σ1 := by rw [hs1]; exact Ext.new σ _
  have l1 : σ1.2 = σ.2 + 1 := by rw [hs1]; rfl
  have d1 : σ1.1 σ.2 = some (.inr (0, [.null, .int 0, .int 0, .int 0])) := by rw [hs1]; exact hmN_s _ _
  have c11 : σ1.1 q = some (.inr (1, [.ref p, .int 0, .int z, .int (nI L.length)])) := by rw [x1.2 q hq2]; exact c1
  have w1 := wF_of (k := 1) d1 (by simp) (.int (0 : Int32))
  obtain ⟨σ2, hs2⟩ : ∃ σ2, σ2 = hmU σ1 σ.2 (.inr (0, [.null, .int 0, .int 0, .int 0])) := ⟨_, rfl⟩
  have w1' : wF σ1 σ.2 0 1 (.int (0 : Int32)) = some σ2 := by rw [w1, hs2]; rfl
  have d2 : σ2.1 σ.2 = some (.inr (0, [.null, .int 0, .int 0, .int 0])) := by rw [hs2]; exact hmU_s _ _ _
  have x2 : Ext σ σ2 := by rw [hs2]; exact x1.up (Nat.le_refl _) _
  have l2 : σ2.2 = σ.2 + 1 := by rw [hs2]; exact l1
  have c22 : σ2.1 p = some (.inl (3, cap, .inl f)) := by rw [x2.2 p p2]; exact c2
  -- the copy
  obtain ⟨σ3, f3, e3, x3, l3, d3, hv3⟩ : ∃ σ3 f3, fJ7_copyOfRange_39247 (some p) (0 : Int32) (nI L.length) σ2 = some (some (σ.2 + 1), σ3) ∧ Ext σ2 σ3 ∧ σ3.2 = σ.2 + 2 ∧ σ3.1 (σ.2 + 1) = some (.inl (3, L.length, .inl f3)) ∧ ∀ i, i < L.length → f3 i = nI (L.getD i 0) := by
    by_cases e : L.length = cap
    · have e1 : clA σ2 3 p 128 = some (σ2.2, hmN σ2 (.inl (3, cap, .inl f))) := by
        unfold clA
        rw [c22]
        show (if (3 : Nat) = 3 ∧ ((3 : Nat) = 1 ∨ (3 : Nat) = 3) ∧ cap ≤ 128 ∧ (List.range cap).all (fun i => fits (hmT 3) (hmV (.inl f) i)) = true then some (σ2.2, hmN σ2 (.inl (3, cap, .inl f))) else none) = _
        rw [if_pos ⟨rfl, Or.inr rfl, hc128, List.all_eq_true.mpr (fun i hi => by
          obtain ⟨c, q1, q2⟩ := hby i (List.mem_range.mp hi)
          show fits .byte (.int (f i)) = true
          rw [q2]; exact b_fit c q1)⟩]
      have e2 : arK (hmN σ2 (.inl (3, cap, .inl f))) σ2.2 3 = some () := by
        unfold arK
        rw [hmN_s]
        rfl
      refine ⟨hmN σ2 (.inl (3, cap, .inl f)), f, ?_, Ext.new σ2 _, ?_, ?_, hL⟩
      · unfold fJ7_copyOfRange_39247
        rw [if_pos rfl, ob_some, aN_of c22, ob_some, if_pos (by rw [e]), e1, cb_some, e2, ob_some, l2]
      · show σ2.2 + 1 = _; omega
      · rw [← l2, e]; exact hmN_s _ _
    · obtain ⟨σ4, hs4⟩ : ∃ σ4, σ4 = hmN σ2 (.inl (3, L.length, .inl (fun _ => 0))) := ⟨_, rfl⟩
      have x4 : Ext σ2 σ4 := by rw [hs4]; exact Ext.new σ2 _
      have l4 : σ4.2 = σ.2 + 2 := by rw [hs4]; show σ2.2 + 1 = _; omega
      have d4 : σ4.1 σ2.2 = some (.inl (3, L.length, .inl (fun _ => 0))) := by rw [hs4]; exact hmN_s _ _
      have c24 : σ4.1 p = some (.inl (3, cap, .inl f)) := by rw [x4.2 p (by omega)]; exact c22
      have eA : nA σ2 3 (.inl (fun _ => 0)) 128 (nI L.length - (0 : Int32)) = some (σ2.2, σ4) := by
        rw [Int32.sub_zero]
        unfold nA
        rw [if_pos ⟨n_nn (by omega), by rw [nI_clamp (by omega)]; omega⟩, nI_clamp (by omega), hs4]
      have hmin : fJ9_min_7cf53 (nI cap - (0 : Int32)) (nI L.length - (0 : Int32)) σ4 = some (nI L.length, σ4) := by
        rw [Int32.sub_zero, Int32.sub_zero]
        unfold fJ9_min_7cf53
        rw [if_pos (by rw [n_lt (by omega) (by omega)]; omega)]
      have eC : cpB σ4 p (0 : Int32) σ2.2 (0 : Int32) (nI L.length) = some (hmU σ4 σ2.2 (.inl (3, L.length, .inl (va_cpy f (fun _ => 0) 0 0 L.length)))) := by
        unfold cpB
        rw [c24, d4]
        show (if hmB 3 = 3 ∧ (3 : Nat) = 3 ∧ ¬ (0 : Int32) < 0 ∧ ¬ (0 : Int32) < 0 ∧ ¬ nI L.length < 0 ∧ 0 + (nI L.length).toNatClampNeg ≤ cap ∧ 0 + (nI L.length).toNatClampNeg ≤ L.length ∧ okBs f 0 (nI L.length).toNatClampNeg = true then some (hmU σ4 σ2.2 (.inl (3, L.length, .inl (va_cpy f (fun _ => 0) 0 0 (nI L.length).toNatClampNeg)))) else none) = _
        rw [nI_clamp (show L.length < 2 ^ 31 by omega), if_pos ⟨rfl, rfl, by decide, by decide, n_nn (by omega), by omega, by omega, okBs_of (fun i hi => hby i (by omega))⟩]
      refine ⟨hmU σ4 σ2.2 (.inl (3, L.length, .inl (va_cpy f (fun _ => 0) 0 0 L.length))), va_cpy f (fun _ => 0) 0 0 L.length, ?_, x4.up (Nat.le_refl _) _, l4, ?_, fun i hi => ?_⟩
      · unfold fJ7_copyOfRange_39247
        rw [if_pos rfl, ob_some, aN_of c22, ob_some, if_neg (by rw [n_eq (show L.length < 100000 by omega) (show cap < 100000 by omega)]; exact e)]
        unfold fJ7_copyOfRange_39247_J10 fJ7_copyOfRangeByte_39247 fJ7_checkLength_df160
        have a0 : (0 : Int32) ≤ nI L.length := Int32.not_lt.mp (n_nn (by omega))
        rw [if_pos a0, cb_some, eA, cb_some, ob_some, aN_of c24, ob_some, hmin, cb_some, eC, ob_some, cb_some, l2]
      · rw [← l2]; exact hmU_s _ _ _
      · rw [← hL i hi]
        simp [va_cpy, hi]
  have d33 : σ3.1 σ.2 = some (.inr (0, [.null, .int 0, .int 0, .int 0])) := by rw [x3.2 _ (by omega)]; exact d2
  have w3 := wF_of (k := 0) d33 (by simp) (va_rf (some (σ.2 + 1)))
  obtain ⟨σ5, hs5⟩ : ∃ σ5, σ5 = hmU σ3 σ.2 (.inr (0, [.ref (σ.2 + 1), .int 0, .int 0, .int 0])) := ⟨_, rfl⟩
  have w3' : wF σ3 σ.2 0 0 (va_rf (some (σ.2 + 1))) = some σ5 := by rw [w3, hs5]; rfl
  have hl1 : fJ5_isLatin1_aae02 q σ1 = some (1, σ1) := by
    unfold fJ5_isLatin1_aae02
    rw [if_neg (by decide), show gI σ1 q 1 1 = some 0 from gI_of c11 rfl]
    rfl
  refine ⟨σ5, f3, ?_, ?_, ?_, ?_, ?_, hv3⟩
  · have g1 : gR σ1 q 1 0 = some (some p) := gR_of c11 rfl
    have g2 : gI σ1 q 1 3 = some (nI L.length) := gI_of c11 rfl
    simp only [fJ4_toString_0e30d, nw, ← hs1, fJ0_init_81219, fJ0_init_db425, ob_some, obC_of c11, fJ5_getValue_6d5f1, g1, cb_some, fJ4_length_8abf5, fJ5_length_8abf5, g2, hl1, if_neg (show ¬ (1 : Int32) = 0 by decide), w1', e3, w3']
  · rw [hs5]; exact ((hx.trans x2).trans x3).up (Nat.le_trans hq1 (Nat.le_of_lt hq2)) _
  · rw [hs5]; show σ.2 + 1 < σ3.2; omega
  · rw [hs5]; exact hmU_s _ _ _
  · rw [hs5, hmU_n _ _ (by omega)]; exact d3
