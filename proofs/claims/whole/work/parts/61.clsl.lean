/-! The library: a text built up. -/
theorem shr0 (x : Int32) : x >>> ((0 : Int32) &&& 31) = x := by rw [show (0 : Int32) &&& 31 = 0 from by decide, Int32.shiftRight_zero]
theorem shl0 (x : Int32) : x <<< ((0 : Int32) &&& 31) = x := by rw [show (0 : Int32) &&& 31 = 0 from by decide, Int32.shiftLeft_zero]
theorem n_subI {m c : Nat} (h : c ≤ m) : nI m - nI c = nI (m - c) := by rw [show nI m = nI (m - c) + nI c from by rw [nI_add, show m - c + c = m by omega], Int32.add_sub_cancel]
theorem n_subN : ∀ m, m < 61 → ∀ c, c < 129 → m ≤ c → nI m - nI c ≤ 0 := by decide +kernel
theorem b_fit : ∀ c, c < 128 → fits .byte (.int (nI c)) = true := by decide +kernel
theorem b_nar : ∀ c, c < 128 → vp_nar .byte (nI c) = nI c ∧ (nI c).toInt8.toInt32 = nI c ∧ ¬ (255 : Int32) < nI c ∧ ((nI c).toUInt32 % 65536).toInt32 = nI c := by decide +kernel
/-- a text of the library's builder at q, of letters L, room for m; all that is new lies behind σb -/
def SB (σb σ : hmS) (q : Nat) (L : List Nat) (m : Nat) : Prop := Ext σb σ ∧ σb.2 ≤ q ∧ q < σ.2 ∧ ∃ (p cap : Nat) (f : Nat → Int32) (z : Int32), σ.1 q = some (.inr (1, [.ref p, .int 0, .int z, .int (nI L.length)])) ∧ (σb.2 ≤ p ∧ p < σ.2 ∧ p ≠ q) ∧ σ.1 p = some (.inl (3, cap, .inl f)) ∧ L.length ≤ cap ∧ m ≤ cap ∧ cap ≤ 128 ∧ (∀ i, i < cap → ∃ c, c < 128 ∧ f i = nI c) ∧ ∀ i, i < L.length → f i = nI (L.getD i 0)
theorem SB.ext {σb σ : hmS} {q m : Nat} {L : List Nat} (h : SB σb σ q L m) : Ext σb σ := h.1
theorem okBs_of {f : Nat → Int32} {n : Nat} (h : ∀ i, i < n → ∃ c, c < 128 ∧ f i = nI c) : okBs f 0 n = true := by
  unfold okBs
  refine List.all_eq_true.mpr (fun i hi => ?_)
  obtain ⟨c, h1, h2⟩ := h i (List.mem_range.mp hi)
  rw [Nat.zero_add, h2]
  exact b_fit c h1
theorem sb_new (σ : hmS) : ∃ σ', nw σ (.inr (1, [.null, .int 0, .int 0, .int 0])) (fun q1 σ2 => cb (fJ4_init_da8c8 q1 σ2) fun _ σ6 => some (q1, σ6)) = some (σ.2, σ') ∧ SB σ σ' σ.2 [] 0 := by
  obtain ⟨σ1, hs1⟩ : ∃ σ1, σ1 = hmN σ (.inr (1, [.null, .int 0, .int 0, .int 0])) := ⟨_, rfl⟩
  have x1 : Ext σ σ1 := by rw [hs1]; exact Ext.new σ _
  have l1 : σ1.2 = σ.2 + 1 := by rw [hs1]; rfl
  have d1 : σ1.1 σ.2 = some (.inr (1, [.null, .int 0, .int 0, .int 0])) := by rw [hs1]; exact hmN_s _ _
  obtain ⟨σ2, hs2⟩ : ∃ σ2, σ2 = hmN σ1 (.inl (3, 16, .inl (fun _ => 0))) := ⟨_, rfl⟩
  have x2 : Ext σ1 σ2 := by rw [hs2]; exact Ext.new σ1 _
  have l2 : σ2.2 = σ.2 + 2 := by rw [hs2]; show σ1.2 + 1 = _; omega
  have d2 : σ2.1 σ1.2 = some (.inl (3, 16, .inl (fun _ => 0))) := by rw [hs2]; exact hmN_s _ _
  have d2' : σ2.1 σ.2 = some (.inr (1, [.null, .int 0, .int 0, .int 0])) := by rw [x2.2 _ (by omega)]; exact d1
  have eA : nA σ1 3 (.inl (fun _ => 0)) 128 (16 : Int32) = some (σ1.2, σ2) := by
    unfold nA
    rw [if_pos ⟨by decide, by decide⟩, hs2]
    rfl
  have w1 := wF_of (k := 0) d2' (by simp) (.ref σ1.2)
  obtain ⟨σ3, hs3⟩ : ∃ σ3, σ3 = hmU σ2 σ.2 (.inr (1, [.ref σ1.2, .int 0, .int 0, .int 0])) := ⟨_, rfl⟩
  have w1' : wF σ2 σ.2 1 0 (.ref σ1.2) = some σ3 := by rw [w1, hs3]; rfl
  have d3 : σ3.1 σ.2 = some (.inr (1, [.ref σ1.2, .int 0, .int 0, .int 0])) := by rw [hs3]; exact hmU_s _ _ _
  have w2 := wF_of (k := 1) d3 (by simp) (.int (0 : Int32))
  obtain ⟨σ4, hs4⟩ : ∃ σ4, σ4 = hmU σ3 σ.2 (.inr (1, [.ref σ1.2, .int 0, .int 0, .int 0])) := ⟨_, rfl⟩
  have w2' : wF σ3 σ.2 1 1 (.int (0 : Int32)) = some σ4 := by rw [w2, hs4]; rfl
  have d4 : σ4.1 σ.2 = some (.inr (1, [.ref σ1.2, .int 0, .int 0, .int 0])) := by rw [hs4]; exact hmU_s _ _ _
  refine ⟨σ4, ?_, ?_, Nat.le_refl _, ?_, σ1.2, 16, (fun _ => 0), 0, d4, ⟨by omega, ?_, by omega⟩, ?_, by simp, by omega, by omega, fun i _ => ⟨0, by decide, rfl⟩, fun i hi => by simp at hi⟩
  · simp only [nw, ← hs1, fJ4_init_da8c8, fJ5_init_d00df, if_neg (show ¬ (1 : Int32) = 0 by decide), eA, cb_some, w1', ob_some, w2']
  · rw [hs4, hs3]; exact ((x1.trans x2).up (Nat.le_refl _) _).up (Nat.le_refl _) _
  · rw [hs4, hs3]; show σ.2 < σ2.2; omega
  · rw [hs4, hs3]; show σ1.2 < σ2.2; omega
  · rw [hs4, hmU_n _ _ (by omega), hs3, hmU_n _ _ (by omega)]; exact d2
theorem sb_ens {σb σ : hmS} {q m0 : Nat} {L : List Nat} (h : SB σb σ q L m0) {m : Nat} (hm : m < 61) : ∃ σ', fJ5_ensureCapacityInternal_d00df q (nI m) σ = some ((), σ') ∧ SB σb σ' q L m := by
  obtain ⟨hx, hq1, hq2, p, cap, f, z, c1, ⟨p1, p2, p3⟩, c2, hLc, hmc, hc128, hby, hL⟩ := h
  have e0 : gR σ q 1 0 = some (some p) := gR_of c1 rfl
  have e1 : gI σ q 1 1 = some 0 := gI_of c1 rfl
  have eN : aN σ p = some (nI cap) := aN_of c2
  simp only [fJ5_ensureCapacityInternal_d00df, e0, ob_some, eN, e1, shr0]
  by_cases hle : m ≤ cap
  · rw [if_pos (n_subN m hm cap (by omega) hle)]
    exact ⟨σ, rfl, hx, hq1, hq2, p, cap, f, z, c1, ⟨p1, p2, p3⟩, c2, hLc, hle, hc128, hby, hL⟩
  · have hsub : nI m - nI cap = nI (m - cap) := n_subI (by omega)
    have hnot : ¬ nI m - nI cap ≤ 0 := by
      rw [hsub]
      have : (nI (m - cap) ≤ (0 : Int32)) = (m - cap ≤ 0) := n_le (y := 0) (by omega) (by decide)
      rw [this]; omega
    rw [if_neg hnot]
    obtain ⟨k, hk⟩ : ∃ k, k = cap + (if m - cap < cap + 2 then cap + 2 else m - cap) := ⟨_, rfl⟩
    have hk1 : m ≤ k ∧ k ≤ 128 ∧ cap < k := by rw [hk]; split <;> omega
    have hmax : fJ9_max_7cf53 (nI (m - cap)) (nI (cap + 2)) σ = some (nI (if m - cap < cap + 2 then cap + 2 else m - cap), σ) := by
      unfold fJ9_max_7cf53
      simp only [n_lt (show m - cap < 100000 by omega) (show cap + 2 < 100000 by omega)]
      split <;> rfl
    have hnl : fJ8_newLength_cabcc (nI cap) (nI (m - cap)) (nI (cap + 2)) σ = some (nI k, σ) := by
      have a1 : (nI k ≤ (0 : Int32)) = (k ≤ 0) := n_le (y := 0) (by omega) (by decide)
      have a2 : ¬ (2147483639 : Int32) < nI k := fun q => by
        have : ∀ k, k < 129 → ¬ (2147483639 : Int32) < nI k := by decide +kernel
        exact this k (by omega) q
      simp only [fJ8_newLength_cabcc, hmax, cb_some, nI_add]
      rw [← hk, if_neg (by rw [a1]; omega), if_neg a2]
    have hnc : fJ5_newCapacity_0f7a4 q (nI m) σ = some (nI k, σ) := by
      have a3 : ¬ nI k = (2147483647 : Int32) := fun q => by
        have : ∀ k, k < 129 → ¬ nI k = (2147483647 : Int32) := by decide +kernel
        exact this k (by omega) q
      have a4 : nI cap + (2 : Int32) = nI (cap + 2) := by rw [show (2 : Int32) = nI 2 from rfl, nI_add]
      simp only [fJ5_newCapacity_0f7a4, e0, ob_some, eN, e1, shl0, hsub, a4, hnl, cb_some, if_neg a3, shr0]
    -- the larger row
    obtain ⟨σ1, hs1⟩ : ∃ σ1, σ1 = hmN σ (.inl (3, k, .inl (fun _ => 0))) := ⟨_, rfl⟩
    have x1 : Ext σ σ1 := by rw [hs1]; exact Ext.new σ _
    have l1 : σ1.2 = σ.2 + 1 := by rw [hs1]; rfl
    have d1 : σ1.1 σ.2 = some (.inl (3, k, .inl (fun _ => 0))) := by rw [hs1]; exact hmN_s _ _
    have eA : nA σ 3 (.inl (fun _ => 0)) 128 (nI k) = some (σ.2, σ1) := by
      unfold nA
      rw [if_pos ⟨n_nn (by omega), by rw [nI_clamp (by omega)]; omega⟩, nI_clamp (by omega), hs1]
    have c2' : σ1.1 p = some (.inl (3, cap, .inl f)) := by rw [x1.2 p p2]; exact c2
    have hmin : fJ9_min_7cf53 (nI cap) (nI k) σ1 = some (nI cap, σ1) := by
      unfold fJ9_min_7cf53
      rw [if_neg (by rw [n_lt (by omega) (by omega)]; omega)]
    have eC : cpB σ1 p (0 : Int32) σ.2 (0 : Int32) (nI cap) = some (hmU σ1 σ.2 (.inl (3, k, .inl (va_cpy f (fun _ => 0) 0 0 cap)))) := by
      unfold cpB
      rw [c2', d1]
      show (if hmB 3 = 3 ∧ (3 : Nat) = 3 ∧ ¬ (0 : Int32) < 0 ∧ ¬ (0 : Int32) < 0 ∧ ¬ nI cap < 0 ∧ 0 + (nI cap).toNatClampNeg ≤ cap ∧ 0 + (nI cap).toNatClampNeg ≤ k ∧ okBs f 0 (nI cap).toNatClampNeg = true then some (hmU σ1 σ.2 (.inl (3, k, .inl (va_cpy f (fun _ => 0) 0 0 (nI cap).toNatClampNeg)))) else none) = _
      rw [nI_clamp (show cap < 2 ^ 31 by omega), if_pos ⟨rfl, rfl, by decide, by decide, n_nn (by omega), by omega, by omega, okBs_of hby⟩]
    obtain ⟨σ2, hs2⟩ : ∃ σ2, σ2 = hmU σ1 σ.2 (.inl (3, k, .inl (va_cpy f (fun _ => 0) 0 0 cap))) := ⟨_, rfl⟩
    rw [← hs2] at eC
    have d2 : σ2.1 σ.2 = some (.inl (3, k, .inl (va_cpy f (fun _ => 0) 0 0 cap))) := by rw [hs2]; exact hmU_s _ _ _
    have x2 : Ext σ σ2 := by rw [hs2]; exact x1.up (Nat.le_refl _) _
    have l2 : σ2.2 = σ.2 + 1 := by rw [hs2]; exact l1
    have c1' : σ2.1 q = some (.inr (1, [.ref p, .int 0, .int z, .int (nI L.length)])) := by rw [x2.2 q hq2]; exact c1
    have eCp : fJ7_copyOf_9075b (some p) (nI k) σ = some (some σ.2, σ2) := by
      simp only [fJ7_copyOf_9075b, ob_some, eN, n_eq (show k < 100000 by omega) (show cap < 100000 by omega), if_neg (show ¬ k = cap by omega), eA, cb_some, aN_of c2', hmin, eC]
    have w1 := wF_of (k := 0) c1' (by simp) (va_rf (some σ.2))
    obtain ⟨σ3, hs3⟩ : ∃ σ3, σ3 = hmU σ2 q (.inr (1, [.ref σ.2, .int 0, .int z, .int (nI L.length)])) := ⟨_, rfl⟩
    have w1' : wF σ2 q 1 0 (va_rf (some σ.2)) = some σ3 := by rw [w1, hs3]; rfl
    have d3 : σ3.1 q = some (.inr (1, [.ref σ.2, .int 0, .int z, .int (nI L.length)])) := by rw [hs3]; exact hmU_s _ _ _
    refine ⟨σ3, ?_, ?_, hq1, ?_, σ.2, k, va_cpy f (fun _ => 0) 0 0 cap, z, d3, ⟨Nat.le_trans hq1 (Nat.le_of_lt hq2), ?_, by omega⟩, ?_, by omega, by omega, by omega, fun i hi => ?_, fun i hi => ?_⟩
    · simp only [obC_of c1, ob_some, hnc, cb_some, e1, shl0, eCp, w1']
    · rw [hs3]; exact (hx.trans x2).up hq1 _
    · rw [hs3]; show q < σ2.2; omega
    · rw [hs3]; show σ.2 < σ2.2; omega
    · rw [hs3, hmU_n _ _ (by omega)]; exact d2
    · by_cases hic : i < cap
      · obtain ⟨cc, q1, q2⟩ := hby i hic
        exact ⟨cc, q1, by simp [va_cpy, hic, q2]⟩
      · exact ⟨0, by decide, by simp [va_cpy, hic]; rfl⟩
    · rw [← hL i hi]
      simp [va_cpy, show i < cap by omega]
theorem sb_char {σb σ : hmS} {q m0 : Nat} {L : List Nat} (h : SB σb σ q L m0) {c : Nat} (hc : c < 128) (hl : L.length < 60) : ∃ σ', fJ4_append_cf468 q (nI c) σ = some (some q, σ') ∧ SB σb σ' q (L ++ [c]) 0 := by
  obtain ⟨-, -, -, p0, cap0, f0, z0, k1, -⟩ := id h
  have g3 : gI σ q 1 3 = some (nI L.length) := gI_of k1 rfl
  obtain ⟨σ1, e1, h1⟩ := sb_ens h (m := L.length + 1) (by omega)
  obtain ⟨hx, hq1, hq2, p, cap, f, z, c1, ⟨p1, p2, p3⟩, c2, hLc, hmc, hc128, hby, hL⟩ := h1
  obtain ⟨n1, n2, n3, -⟩ := b_nar c hc
  have hl1 : fJ5_isLatin1_aae02 q σ1 = some (1, σ1) := by
    unfold fJ5_isLatin1_aae02
    rw [if_neg (by decide), show gI σ1 q 1 1 = some 0 from gI_of c1 rfl]
    rfl
  have w1 := wF_of (k := 3) c1 (by simp) (.int (nI (L.length + 1)))
  obtain ⟨σ2, hs2⟩ : ∃ σ2, σ2 = hmU σ1 q (.inr (1, [.ref p, .int 0, .int z, .int (nI (L.length + 1))])) := ⟨_, rfl⟩
  have w1' : wF σ1 q 1 3 (.int (nI (L.length + 1))) = some σ2 := by rw [w1, hs2]; rfl
  have c2' : σ2.1 p = some (.inl (3, cap, .inl f)) := by rw [hs2, hmU_n _ _ p3]; exact c2
  have eS := sI_of c2' (by decide) (show L.length < cap by omega) (by omega) (nI c)
  obtain ⟨σ3, hs3⟩ : ∃ σ3, σ3 = hmU σ2 p (.inl (3, cap, .inl (upd f L.length (nI c)))) := ⟨_, rfl⟩
  rw [← hs3] at eS
  have d3 : σ3.1 p = some (.inl (3, cap, .inl (upd f L.length (nI c)))) := by rw [hs3]; exact hmU_s _ _ _
  have d3' : σ3.1 q = some (.inr (1, [.ref p, .int 0, .int z, .int (nI (L.length + 1))])) := by rw [hs3, hmU_n _ _ p3.symm, hs2]; exact hmU_s _ _ _
  have hcan : fJ1_canEncode_fc78d (nI c) σ1 = some (1, σ1) := by
    unfold fJ1_canEncode_fc78d
    rw [if_neg n3]
  refine ⟨σ3, ?_, ?_, hq1, ?_, p, cap, upd f L.length (nI c), z, ?_, ⟨p1, ?_, p3⟩, d3, ?_, by omega, hc128, fun i hi => ?_, fun i hi => ?_⟩
  · have g1 : gR σ1 q 1 0 = some (some p) := gR_of c1 rfl
    have g2 : gI σ1 q 1 3 = some (nI L.length) := gI_of c1 rfl
    simp only [fJ4_append_cf468, obC_of k1, ob_some, fJ5_append_3fe6f, g3, n_s, e1, cb_some, obC_of c1, hl1, if_neg (show ¬ (1 : Int32) = 0 by decide), hcan, g1, g2, w1', n2, n1, eS]
  · rw [hs3, hs2]; exact (hx.up hq1 _).up p1 _
  · rw [hs3, hs2]; exact hq2
  · rw [List.length_append, List.length_singleton]; exact d3'
  · rw [hs3, hs2]; exact p2
  · rw [List.length_append, List.length_singleton]; exact hmc
  · rw [upd_at]
    split
    · exact ⟨c, hc, rfl⟩
    · exact hby i hi
  · rw [List.length_append, List.length_singleton] at hi
    rw [upd_at]
    by_cases e : i = L.length
    · subst e; rw [if_pos rfl, getD_app2]
    · rw [if_neg e, getD_app1 (by omega)]; exact hL i (by omega)
