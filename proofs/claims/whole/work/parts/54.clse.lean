/-! The class: methods, parents, what is found. -/
section CF
variable {E : hmG} {xa ma b : Nat} {a : aS} {w : cG} {σ : hmS}
theorem RC.mpE (h : RC E xa ma b a w σ) {o : Option Nat} {t : Nat} (ho : ∀ q, o = some q → q < a.1 0 0) (ht : t < a.1 0 0) : (mp w.1 5 o = some (w.1 5 t 0)) = (o = some t) := by
  cases o with
  | none => simp [mp]
  | some q => simp only [mp, Option.some.injEq, h.tyE (ho q rfl) ht]
theorem RC.inML (h : RC E xa ma b a w σ) (hw : Wt a) {t : Nat} (ht : t < a.1 0 0) : ∀ (f i N : Nat), i + f = a.1 0 0 → f < N → fX7_hasTypeInMethod_L2 xa (some (w.1 5 t 0)) N (nI i) σ = some (b2 (fi (inM a t) f i).isSome, σ) := by
  have hn := hw.n12
  intro f
  induction f with
  | zero =>
    intro i N hi hN
    obtain ⟨N, rfl⟩ : ∃ k, N = k + 1 := ⟨N - 1, by omega⟩
    simp only [fX7_hasTypeInMethod_L2, fX7_hasTypeInMethod_B2, h.m1, ob_some, n_le (show a.1 0 0 < 100000 by omega) (show i < 100000 by omega), if_pos (show a.1 0 0 ≤ i by omega)]
    rfl
  | succ f ih =>
    intro i N hi hN
    obtain ⟨N, rfl⟩ : ∃ k, N = k + 1 := ⟨N - 1, by omega⟩
    have hii : i < a.1 0 0 := by omega
    have hk := hw.kd hii
    simp only [fX7_hasTypeInMethod_L2, fX7_hasTypeInMethod_B2, fX7_hasTypeInMethod_J41, h.m1, ob_some, oc_some, n_le (show a.1 0 0 < 100000 by omega) (show i < 100000 by omega), if_neg (show ¬ a.1 0 0 ≤ i by omega), h.m0, h.tyA hn hii, h.t1 hii, RC.standsIn (show a.1 1 i < 6 by omega), cb_some, b2_0, h.t2 hii, h.mpE (o := a.2.1 2 i) (fun q hq => by have := (hw.ou hii hq).1; omega) ht, n_s, ih (i + 1) N (by omega) (by omega)]
    by_cases h3 : 3 ≤ a.1 1 i
    · by_cases h2 : a.2.1 2 i = some t
      · simp [h3, h2, fi, inM, b2]
      · simp [h3, h2, fi, inM]
    · simp [h3, fi, inM]
theorem bd_ms {a : aS} {t s : Nat} (hno : ∀ u, u < a.1 0 0 → inM a t u = false) {u : Nat} (hu : u < a.1 0 0) : bd (aN_ a 11 t s) u = bd a u := by
  have e1 : (aN_ a 11 t s).1 1 u = a.1 1 u := by simp [aN_, up2]
  unfold bd
  rw [e1]
  show (a.1 1 u == 2 || (a.1 1 u == 3 || a.1 1 u == 5) && (match a.2.1 2 u with | some o => (aN_ a 11 t s).1 11 o == 0 | none => false)) = _
  cases ho : a.2.1 2 u with
  | none => rfl
  | some o =>
    by_cases e : o = t
    · subst e
      have := hno u hu
      simp only [inM, ho, beq_self_eq_true, Bool.and_true, decide_eq_false_iff_not] at this
      have h3 : (a.1 1 u == 3) = false := beq_eq_false_iff_ne.mpr (by omega)
      have h5 : (a.1 1 u == 5) = false := beq_eq_false_iff_ne.mpr (by omega)
      simp [h3, h5]
    · have e2 : (aN_ a 11 t s).1 11 o = a.1 11 o := up2_n _ _ (fun q => e q.2)
      simp only [e2]
theorem cd_method (hi : Iv a) (h : RC E xa ma (a.1 16 0) a w σ) (x : Int32) {s : Nat} (hs : s ≤ 1) : CC E xa ma (sp_method a x s).2 (sp_method a x s).1 σ (fX7_method xa x (nI s) σ) := by
  obtain ⟨hbd, hw, hc, hO, hq, hz⟩ := id hi
  have hn := hw.n12
  unfold sp_method
  cases hx : ix x (a.1 0 0) with
  | none => exact CC.here h (by simp [fX7_method, h.mC, ob_some, h.typeAt hn, cb_some, hx, mp, oc_none])
  | some t =>
    obtain ⟨ht, rfl⟩ := ix_s hx (by omega)
    dsimp only
    have hL : fX7_hasTypeInMethod xa (some (w.1 5 t 0)) σ = _ := h.inML hw ht (a.1 0 0) 0 20 (by omega) (by omega)
    cases hf : (fi (inM a t) (a.1 0 0) 0).isSome with
    | true =>
      simp only [if_true]
      exact CC.here h (by simp [fX7_method, h.mC, ob_some, h.typeAt hn, cb_some, hx, mp_s, oc_some, hL, hf, b2])
    | false =>
      simp only [Bool.false_eq_true, if_false]
      have hno : ∀ u, u < a.1 0 0 → inM a t u = false := fun u hu => fi_none (by simpa using hf) u (by omega) (by omega)
      obtain ⟨σ', e1, g1, f1⟩ := h.w_ms ht s (fun u hu => bd_ms hno hu)
      refine ⟨w, σ', ?_, g1, f1⟩
      have hz1 : okZ (nI s) = some () := by rcases (show s = 0 ∨ s = 1 by omega) with rfl | rfl <;> rfl
      have h11 := hw.b11 t
      simp only [fX7_method, h.mC, ob_some, h.typeAt hn, cb_some, hx, mp_s, oc_some, hL, hf, b2_0, if_true, h.t9 ht, hz1, e1]
      rcases (show a.1 11 t = 0 ∨ a.1 11 t = 1 by omega) with e | e <;> rw [e]
      · rw [if_pos (show nI 0 = 0 from rfl)]; rfl
      · rw [if_neg (show ¬ nI 1 = 0 by decide)]; rfl
theorem RC.aboveL (h : RC E xa ma b a w σ) (hw : Wt a) {t : Nat} (ht : t < a.1 0 0) (x1 : Option Nat) : ∀ (l : List Nat) (o : Option Nat) (s N : Nat), isCh (a.2.1 6) o l → (∀ x ∈ l, x < a.1 0 0) → s + l.length ≤ 12 → l.length < N → fX7_isSameOrAbove_L4 (some (w.1 5 t 0)) x1 N (mp w.1 5 o) (nI s) σ = some (b2 (l.contains t), σ) := by
  intro l
  induction l with
  | nil =>
    intro o s N hch _ _ hN
    obtain ⟨N, rfl⟩ : ∃ k, N = k + 1 := ⟨N - 1, by omega⟩
    cases o with
    | some t => exact hch.elim
    | none => simp only [fX7_isSameOrAbove_L4, fX7_isSameOrAbove_B4, mp_n, oc_none]; rfl
  | cons y l ih =>
    intro o s N hch hl hs hN
    obtain ⟨N, rfl⟩ : ∃ k, N = k + 1 := ⟨N - 1, by omega⟩
    cases o with
    | none => exact hch.elim
    | some t' =>
      obtain ⟨rfl, h2⟩ := hch
      have hy := hl y List.mem_cons_self
      simp only [List.length_cons] at hs hN
      have h12 : ((12 : Int32) ≤ nI s) = (12 ≤ s) := n_le (x := 12) (by decide) (by omega)
      have ee : (some (w.1 5 y 0) = some (w.1 5 t 0)) = (y = t) := by rw [Option.some.injEq, h.tyE hy ht]
      simp only [fX7_isSameOrAbove_L4, fX7_isSameOrAbove_B4, mp_s, oc_some, h12, if_neg (show ¬ 12 ≤ s by omega), ee, h.t10 hy, ob_some, n_s, ih (a.2.1 6 y) (s + 1) N h2 (fun x hx => hl x (List.mem_cons_of_mem _ hx)) (by omega) (by omega)]
      by_cases e : y = t
      · subst e; simp [b2]
      · have e' : ¬ t = y := fun q => e q.symm
        simp [e, e', List.contains_cons]
theorem cd_parent (hi : Iv a) (h : RC E xa ma (a.1 16 0) a w σ) (x y : Int32) : CC E xa ma (sp_parent a x y).2 (sp_parent a x y).1 σ (fX7_parent xa x y σ) := by
  obtain ⟨hbd, hw, hc, hO, hq, hz⟩ := id hi
  have hn := hw.n12
  unfold sp_parent
  cases hx : ix x (a.1 0 0) with
  | none => exact CC.here h (by simp [fX7_parent, h.mC, ob_some, h.typeAt hn, cb_some, hx, mp_n, oc_none])
  | some t =>
    obtain ⟨ht, rfl⟩ := ix_s hx (by omega)
    cases hy : ix y (a.1 0 0) with
    | none => exact CC.here h (by simp [fX7_parent, h.mC, ob_some, h.typeAt hn, cb_some, hx, hy, mp_n, mp_s, oc_none, oc_some])
    | some u =>
      obtain ⟨hu, rfl⟩ := ix_s hy (by omega)
      have k1 := hw.kd ht
      have k2 := hw.kd hu
      obtain ⟨pl, p1, p2, p3⟩ := hc.ch hw (o := some u) (fun x hx => by cases hx; exact hu)
      have epl : pch a u = pl := chl_eq p1 p2
      have e1 : (nI (a.1 1 t) = (4 : Int32)) = (a.1 1 t = 4) := n_eq (y := 4) (by omega) (by decide)
      have e2 : (nI (a.1 1 u) = (4 : Int32)) = (a.1 1 u = 4) := n_eq (y := 4) (by omega) (by decide)
      have hL : fX7_isSameOrAbove (some (w.1 5 t 0)) (some (w.1 5 u 0)) σ = some (b2 (pl.contains t), σ) := h.aboveL hw ht (some (w.1 5 u 0)) pl (some u) 0 20 p1 p3 (by omega) (by omega)
      obtain ⟨σ', e3, g3, f3⟩ := h.w_pa (u := u) ht
      have eF : fX7_parent xa (nI t) (nI u) σ = if a.1 1 t = 4 ∨ a.1 1 u = 4 then some (-1, σ) else if (a.2.1 6 t).isSome || pl.contains t then some (-4, σ) else some (1, σ') := by
        simp only [fX7_parent, h.mC, ob_some, h.typeAt hn, cb_some, hx, hy, mp_s, oc_some, h.t1 ht, h.t1 hu, e1, e2, h.t10 ht, hL, b2_0, e3]
        by_cases h1 : a.1 1 t = 4
        · simp [h1]
        · by_cases h2 : a.1 1 u = 4
          · simp [h1, h2]
          · simp only [h1, h2, if_false, or_self]
            cases hp : a.2.1 6 t with
            | some q => simp [mp_s, oc_some]
            | none =>
              simp only [mp_n, oc_none, Option.isSome_none, Bool.false_or]
              cases pl.contains t <;> simp
      rw [eF]
      dsimp only
      rw [epl]
      by_cases h1 : a.1 1 t = 4 ∨ a.1 1 u = 4
      · simp only [if_pos h1]; exact CC.here h rfl
      · simp only [if_neg h1]
        cases (a.2.1 6 t).isSome || pl.contains t with
        | true => simp only [if_true]; exact CC.here h rfl
        | false => simp only [Bool.false_eq_true, if_false]; exact ⟨w, σ', rfl, g3, f3⟩
theorem cd_about (hi : Iv a) (h : RC E xa ma (a.1 16 0) a w σ) (x y : Int32) : CC E xa ma (sp_about a x y).2 (sp_about a x y).1 σ (fX7_about xa x y σ) := by
  obtain ⟨hbd, hw, hc, hO, hq, hz⟩ := id hi
  have hn := hw.n12
  unfold sp_about
  cases hx : ix x 8 with
  | none => exact CC.here h (by simp [fX7_about, cm_isPlace, cb_some, hx, b2])
  | some p =>
    obtain ⟨hp, rfl⟩ := ix_s hx (by decide)
    cases hy : ix y 4 with
    | none =>
      refine CC.here h ?_
      simp only [fX7_about, cm_isPlace, cb_some, hx, b2_0, Option.isSome_some, Bool.true_eq_false, if_false, reduceCtorEq]
      rcases ix_n hy (by decide) with h1 | h1
      · rw [if_pos h1]
      · split
        · rfl
        · rename_i h0
          obtain ⟨j, hj, rfl⟩ := nI_of h0
          have h4 : 4 ≤ j := (nI_leI (show 4 < 2 ^ 31 by decide) hj).mp h1
          rw [if_neg (fun q => by have := (nI_leI hj (show 3 < 2 ^ 31 by decide)).mp (show nI j ≤ nI 3 from q); omega)]
    | some v =>
      obtain ⟨hw4, rfl⟩ := ix_s hy (by decide)
      refine CC.here h ?_
      have e3 : (nI v ≤ (3 : Int32)) = (v ≤ 3) := n_le (y := 3) (by omega) (by decide)
      have v0 : (nI v = (0 : Int32)) = (v = 0) := n_eq (y := 0) (by omega) (by decide)
      have v1 : (nI v = (1 : Int32)) = (v = 1) := n_eq (y := 1) (by omega) (by decide)
      have v2 : (nI v = (2 : Int32)) = (v = 2) := n_eq (y := 2) (by omega) (by decide)
      simp only [fX7_about, cm_isPlace, cb_some, hx, b2_0, Option.isSome_some, Bool.true_eq_false, if_false, reduceCtorEq, if_neg (n_nn (show v < 100000 by omega)), e3, if_pos (show v ≤ 3 by omega), h.m2, ob_some, h.plA hp, v0, v1, v2]
      cases ho : a.2.1 22 p with
      | none => simp [mp_n, oc_none]
      | some o =>
        have h1 := hq.2.2.1 p hp o ho
        obtain ⟨h2, h2'⟩ := hq.2.1 o h1
        have hkd := hw.kd h2
        obtain ⟨l, nd, l3, hl, lN, -⟩ := h.levs h1
        simp only [mp_s, oc_some, h.o0 h1, h.o1 h1, ob_some, h.t0 h2, h.oC h1, h.aroundAt hw hO (Nat.le_refl _) h1 h2, h.levelOf hw hO (Nat.le_refl _) h1 h2, cb_some, h2', if_true, lN, h.v3 h1 (show a.1 17 o < 12 by omega) h2']
        by_cases k0 : v = 0
        · simp [k0]
        · by_cases k1 : v = 1
          · simp [k1, nd_cnt (isO a o) 12 l nd l3]
          · by_cases k2 : v = 2
            · simp only [k2, if_true, show ¬ (2 : Nat) = 0 by decide, show ¬ (2 : Nat) = 1 by decide, if_false]
              cases hr : a.2.1 19 (12 * o + a.1 17 o) with
              | none => simp [mp_n, oc_none]
              | some q =>
                have hq' := ((hO o h1 (a.1 17 o) (by omega) h2').2.2 q hr).2.1
                have hqt := (hq.2.1 q hq').1
                simp [mp_s, oc_some, h.o0 hq', ob_some, h.t0 hqt]
            · have k3 : v = 3 := by omega
              simp only [k0, k1, k2, k3, if_false, if_true, show ¬ (3 : Nat) = 0 by decide, show ¬ (3 : Nat) = 1 by decide, show ¬ (3 : Nat) = 2 by decide]
              by_cases h0 : cpl a (a.1 17 o) = 0
              · rw [show zr E (cpl a (a.1 17 o)) (w.1 20 o (a.1 17 o)) = hmZ E 0 by simp [zr, h0], aN_of h.2.2.2.1.1, ob_some]
                unfold cpl at h0
                by_cases h4 : a.1 1 (a.1 17 o) = 4
                · simp [h4]; rfl
                · rw [if_neg h4] at h0
                  simp [h4, h0]
              · obtain ⟨c, g1, f, rfl, g2⟩ := h.cell (vld_20 h1 (show a.1 17 o < 12 by omega) h2' h0)
                rw [show zr E (cpl a (a.1 17 o)) (w.1 20 o (a.1 17 o)) = w.1 20 o (a.1 17 o) by simp [zr, h0], aN_of g1, ob_some]
                unfold cpl at h0 ⊢
                by_cases h4 : a.1 1 (a.1 17 o) = 4
                · rw [if_pos h4] at h0; exact absurd rfl h0
                · simp [h4]
theorem nm_lt {a : aS} (hw : Wt a) : ∀ {l : List Nat}, (∀ x ∈ l, x < a.1 0 0) → ∀ c ∈ revN a l, c < 128 := by
  intro l
  induction l with
  | nil => intro _ c hc; cases hc
  | cons t l ih =>
    intro hl c hc
    rw [show revN a (t :: l) = seg a t ++ revN a l from List.flatMap_cons] at hc
    rcases List.mem_append.mp hc with h1 | h1
    · have ht := hl t List.mem_cons_self
      unfold seg at h1
      rcases List.mem_append.mp h1 with h1 | h1
      · rcases List.mem_append.mp h1 with h1 | h1
        · by_cases k5 : a.1 1 t = 5
          · rw [if_pos k5] at h1; cases h1
          · obtain ⟨q, q1, q2⟩ := hw.l1 ht k5
            rw [if_neg k5, q2] at h1
            have : c = 65 + q := by simpa using h1
            omega
        · have hnu := hw.nu ht
          unfold dig at h1
          (repeat' split at h1) <;> simp at h1 <;> omega
      · split at h1 <;> simp at h1; omega
    · exact ih (fun x hx => hl x (List.mem_cons_of_mem _ hx)) c h1
theorem ch_ok : ∀ c, c < 128 → ((((nI c &&& (255 : Int32))).toUInt32 % 65536).toInt32) = nI c ∧ okC (nI c) = some () := by decide +kernel
theorem RC.length (h : RC E xa ma b a w σ) {t : Nat} (ht : t < a.1 0 0) : fJ0_length_8abf5 (w.1 14 t 0) σ = some (nI (nmT a t).length, σ) := by
  obtain ⟨c, g1, f, rfl, g2⟩ := h.cell (vld_t (k := 15) (by decide) (by decide) ht)
  have hc : fJ0_coder_7d493 (w.1 14 t 0) σ = some (0, σ) := by
    unfold fJ0_coder_7d493
    rw [if_neg (by decide), h.s1 ht]
    rfl
  simp only [fJ0_length_8abf5, h.s0 ht, ob_some, aN_of g1, h.sC ht, hc, cb_some]
  rw [show (0 : Int32) &&& 31 = 0 from by decide, Int32.shiftRight_zero]
theorem cd_name (hi : Iv a) (h : RC E xa ma (a.1 16 0) a w σ) (x y : Int32) : CC E xa ma (sp_name a x y).2 (sp_name a x y).1 σ (fX7_name E xa x y σ) := by
  obtain ⟨hbd, hw, hc, hO, hq, hz⟩ := id hi
  have hn := hw.n12
  unfold sp_name
  cases hx : ix x (a.1 0 0) with
  | none => exact CC.here h (by simp [fX7_name, h.mC, ob_some, h.typeAt hn, cb_some, hx, mp_n, oc_none])
  | some t =>
    obtain ⟨ht, rfl⟩ := ix_s hx (by omega)
    obtain ⟨ts, t1, t2, t3⟩ := hw.oc' (o := some t) (fun x hx => by cases hx; exact ht)
    have e : och a (some t) = ts := chl_eq t1 t2
    have hlen : (nmT a t).length ≤ 48 := by
      unfold nmT
      rw [e, List.length_reverse]
      have := revN_le a ts
      omega
    have hch : ∀ c ∈ nmT a t, c < 128 := fun c hc => nm_lt hw t3 c (by unfold nmT at hc; rw [e] at hc; exact List.mem_reverse.mp hc)
    refine CC.here h ?_
    simp only [fX7_name, h.mC, ob_some, h.typeAt hn, cb_some, hx, mp_s, oc_some, h.t6 ht, h.sC ht, h.length ht]
    by_cases h3 : y = -3
    · rw [if_pos h3, if_pos h3]
    · rw [if_neg h3, if_neg h3]
      cases hy : ix y (nmT a t).length with
      | none =>
        rcases ix_n hy (by omega) with h1 | h1
        · rw [if_pos h1]
        · split
          · rfl
          · rw [if_neg (Int32.not_lt.mpr h1)]
      | some i =>
        obtain ⟨hi', rfl⟩ := ix_s hy (by omega)
        rw [if_neg (n_nn (show i < 100000 by omega)), if_pos (by rw [n_lt (by omega) (by omega)]; exact hi')]
        obtain ⟨c, g1, f, rfl, g2⟩ := h.cell (vld_t (k := 15) (by decide) (by decide) ht)
        have hcc := hch ((nmT a t).getD i 0) (by
          rw [List.getD_eq_getElem?_getD, List.getElem?_eq_getElem hi']
          exact List.getElem_mem hi')
        obtain ⟨c1, c2⟩ := ch_ok _ hcc
        have hL : fJ0_isLatin1_aae02 (w.1 14 t 0) σ = some (1, σ) := by
          unfold fJ0_isLatin1_aae02
          rw [if_neg (by decide), h.s1 ht]
          rfl
        have hI : fJ0_checkIndex_df160 E (nI i) (nI (nmT a t).length) σ = some ((), σ) := by
          unfold fJ0_checkIndex_df160 fJ3_checkIndex_8e157
          rw [if_neg (n_nn (show i < 100000 by omega)), if_pos (by rw [n_lt (by omega) (by omega)]; exact hi')]
          rfl
        simp only [fJ0_charAt_5068e, h.sC ht, ob_some, hL, cb_some, if_neg (show ¬ (1 : Int32) = 0 by decide), h.s0 ht, fJ1_charAt_3b067, aN_of g1, hI, aI_of (bk := 3) g1 rfl hi' (by omega), g2 i hi', c1, c2]
end CF
