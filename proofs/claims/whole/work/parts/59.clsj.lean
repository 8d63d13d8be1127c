/-! The class: objects made. -/
theorem rst18 (a : aS) (o j : Nat) : (rst a o 12).2.1 18 j = if 12 * o ≤ j ∧ j < 12 * o + 12 then none else a.2.1 18 j := by
  show (if (18 : Nat) = 18 ∧ 12 * o ≤ j ∧ j < 12 * o + 12 then none else a.2.1 18 j) = _
  by_cases h : 12 * o ≤ j ∧ j < 12 * o + 12
  · rw [if_pos ⟨rfl, h⟩, if_pos h]
  · rw [if_neg (fun q => h q.2), if_neg h]
theorem rstO_s (a : aS) (o : Nat) {y : Nat} (hy : y < 12) : isO (rst a o 12) o y = false := by unfold isO; rw [rst18, if_pos ⟨by omega, by omega⟩]; rfl
theorem rstO_n (a : aS) {o x : Nat} (hx : x ≠ o) {y : Nat} (hy : y < 12) : isO (rst a o 12) x y = isO a x y := by unfold isO; rw [rst18, if_neg (by omega)]
theorem rstH_n (a : aS) {o x : Nat} (hx : x ≠ o) {y : Nat} (hy : y < 12) : hs (rst a o 12) x y = hs a x y := by unfold hs; rw [rst18, if_neg (by omega)]
theorem Wo_lv {c : aS} {o u : Nat} {ab : Option Nat} (hw : Wt c) (ho : c.1 16 0 = o) (hO : Wo c (o + 1)) (hu : u < c.1 0 0) (hab : ∀ r, ab = some r → bd c u = true ∧ r < o ∧ ∀ v, c.2.1 2 u = some v → isO c r v = true) : Wo (lvA c o u ab) (o + 1) := by
  have hn := hw.n12
  intro x hx y hy hi
  by_cases e : x = o ∧ y = u
  · obtain ⟨rfl, rfl⟩ := e
    refine ⟨hu, fun q hq => ?_, fun r hr => ?_⟩
    · rw [lv18, if_pos rfl] at hq; cases hq; exact Nat.le_refl _
    · rw [lv19, if_pos rfl] at hr
      obtain ⟨h1, h2, h3⟩ := hab r hr
      refine ⟨h1, by rw [← ho] at h2; exact h2, fun v hv => ?_⟩
      have hvy := (hw.ou hu hv).1
      rw [lvO_n ab (by omega) hy (by omega)]
      exact h3 v hv
  · rw [lvO_n ab hy (by omega) e] at hi
    obtain ⟨h1, h2, h3⟩ := hO x hx y hy hi
    refine ⟨h1, fun q hq => ?_, fun r hr => ?_⟩
    · rw [lv18, if_neg (fun q => e (ix12 hy (by omega) q))] at hq; exact h2 q hq
    · rw [lv19, if_neg (fun q => e (ix12 hy (by omega) q))] at hr
      obtain ⟨g1, g2, g3⟩ := h3 r hr
      refine ⟨g1, g2, fun v hv => ?_⟩
      have hvy := (hw.ou h1 hv).1
      rw [lvO_n ab (by omega) (by omega) (by omega)]
      exact g3 v hv
/-- while an object is made: the store is as c says, the levels before are in the row at La -/
def LI (E : hmG) (xa ma : Nat) (a c : aS) (w0 w : cG) (σ0 σ : hmS) (o La len : Nat) (pre : List Nat) : Prop :=
  RC E xa ma (o + 1) c w σ ∧ Smk a c o ∧ Wb c ∧ Wo c (o + 1) ∧ (∀ k x y, k < 18 ∨ 20 < k → w.1 k x y = w0.1 k x y) ∧ w.2 La = (17, o, 0) ∧ La < σ.2 ∧ (∃ f : Nat → Option Nat, σ.1 La = some (.inl (7, len, .inr (.inr (.inr (.inr f))))) ∧ ∀ i, i < pre.length → f i = some (w.1 18 o (pre.getD i 0))) ∧ (∀ u, u < 12 → (isO c o u = true ↔ u ∈ pre)) ∧ Fr E ma σ0 σ
section CZ
variable {E : hmG} {xa ma b : Nat} {a c : aS} {w0 w : cG} {σ0 σ : hmS}
theorem RC.other (h : RC E xa ma b a w σ) {p : Nat} (hp : ∀ k x y, vld b a k x y → w.2 p ≠ (k, x, y)) (ho : ¬ outS E ma p) (e : va_E) : RC E xa ma b a w (hmU σ p e) := h.step (σ := hmU σ p e) (Nat.le_refl _) (fun q hq => hmU_n σ e (fun z => ho (z ▸ hq))) (fun _ _ => rfl) h.2.1 (fun k x y hv => Or.inl ⟨hv, rfl, hmU_n σ e (fun z => hp k x y hv (by rw [← z]; exact (h.1 k x y hv).2.1)), fun _ hc => hc⟩)
theorem RC.shrink (h : RC E xa ma b a w σ) {b' : Nat} (hb : b' ≤ b) : RC E xa ma b' a w σ := h.step (σ := σ) (Nat.le_refl _) (fun _ _ => rfl) (fun _ _ => rfl) h.2.1 (fun k x y hv => Or.inl ⟨by
  rcases hv with q | q | q | q | q | q | q | q
  · exact Or.inl q
  · exact Or.inr (Or.inl q)
  · exact Or.inr (Or.inr (Or.inl q))
  · exact vld_18 (x := x) (y := y) (by omega) q.2.2.1 q.2.2.2 |> fun z => q.1 ▸ z
  · exact (vld_19 (x := x) (y := y) (by omega) q.2.2.1 q.2.2.2.1 q.2.2.2.2) |> fun z => q.1 ▸ z
  · exact (vld_20 (x := x) (y := y) (by omega) q.2.2.1 q.2.2.2.1 q.2.2.2.2) |> fun z => q.1 ▸ z
  · exact Or.inr (Or.inr (Or.inr (Or.inr (Or.inr (Or.inr (Or.inl q))))))
  · exact Or.inr (Or.inr (Or.inr (Or.inr (Or.inr (Or.inr (Or.inr q)))))), rfl, rfl, fun _ hc => hc⟩)
theorem RC.hrst {o : Nat} (h : RC E xa ma o a w σ) (ho : a.1 16 0 = o) : RC E xa ma (o + 1) (rst a o 12) w σ := by
  refine h.step (σ := σ) (Nat.le_refl _) (fun _ _ => rfl) (fun _ _ => rfl) h.2.1 (fun k x y hv => ?_)
  have key : vld o a k x y → (∀ c, okc E a w.1 k x y c → okc E (rst a o 12) w.1 k x y c) → (vld o a k x y ∧ w.1 k x y = w.1 k x y ∧ σ.1 (w.1 k x y) = σ.1 (w.1 k x y) ∧ ∀ c, okc E a w.1 k x y c → okc E (rst a o 12) w.1 k x y c) := fun hv hok => ⟨hv, rfl, rfl, hok⟩
  have ecp : ∀ y, cpl (rst a o 12) y = cpl a y := fun y => rfl
  rcases hv with hv | hv | hv | hv | hv | hv | hv | hv
  · refine Or.inl (key (Or.inl hv) (fun c hc => ?_))
    match k, hv.1, hc with
    | 0, _, hc => exact hc
    | 1, _, hc => exact hc
    | 2, _, hc => exact hc
    | 3, _, hc => exact hc
    | 4, _, hc => exact hc
    | k + 5, q, _ => omega
  · refine Or.inl (key (Or.inr (Or.inl hv)) (fun c hc => ?_))
    match k, hv.1, hv.2.1, hc with
    | 0, q, _, _ => omega
    | 1, q, _, _ => omega
    | 2, q, _, _ => omega
    | 3, q, _, _ => omega
    | 4, q, _, _ => omega
    | 5, _, _, hc => exact hc
    | 6, _, _, hc => exact hc
    | 7, _, _, hc => exact hc
    | 8, _, _, hc => exact hc
    | 9, _, _, hc => exact hc
    | 10, _, _, hc => exact hc
    | 11, _, _, hc => exact hc
    | 12, _, _, hc => exact hc
    | 13, _, _, hc => exact hc
    | 14, _, _, hc => exact hc
    | 15, _, _, hc => exact hc
    | k + 16, _, q, _ => omega
  · obtain ⟨hk, hx, rfl⟩ := hv
    have hxo : x < o := by rw [← ho]; exact hx
    rcases hk with rfl | rfl
    · exact Or.inl (key (vld_o (Or.inl rfl) hx) (fun c hc => hc))
    · refine Or.inl (key (vld_o (Or.inr rfl) hx) (fun c hc => ?_))
      obtain ⟨l, q1, q2, q3⟩ := hc
      refine ⟨l, q1, q2, fun u' => ?_⟩
      rw [q3 u']
      constructor
      · rintro ⟨z1, z2⟩; exact ⟨z1, by rw [rstO_n a (by omega) z1]; exact z2⟩
      · rintro ⟨z1, z2⟩; exact ⟨z1, by rw [rstO_n a (by omega) z1] at z2; exact z2⟩
  · obtain ⟨rfl, hx, hy, hO⟩ := hv
    have hxo : x ≠ o := fun e => by subst e; rw [rstO_s a x hy] at hO; cases hO
    rw [rstO_n a hxo hy] at hO
    refine Or.inl (key (vld_18 (by omega) hy hO) (fun c hc => ?_))
    show c = (Sum.inr (5, [.ref (w.1 5 y 0), va_rf (mp w.1 16 (a.2.1 19 (12 * x + y))), .ref (zr E (hs (rst a o 12) x y) (w.1 19 x y)), .ref (zr E (cpl a y) (w.1 20 x y))]) : va_E)
    rw [rstH_n a hxo hy]
    exact hc
  · obtain ⟨rfl, hx, hy, hO, hne⟩ := hv
    have hxo : x ≠ o := fun e => by subst e; rw [rstO_s a x hy] at hO; cases hO
    rw [rstO_n a hxo hy] at hO
    rw [rstH_n a hxo hy] at hne
    refine Or.inl (key (vld_19 (by omega) hy hO hne) (fun c hc => ?_))
    show rowL (hs (rst a o 12) x y) (fun i => a.2.2.1 20 (4 * (12 * x + y) + i)) c
    rw [rstH_n a hxo hy]
    exact hc
  · obtain ⟨rfl, hx, hy, hO, hne⟩ := hv
    have hxo : x ≠ o := fun e => by subst e; rw [rstO_s a x hy] at hO; cases hO
    rw [rstO_n a hxo hy] at hO
    exact Or.inl (key (vld_20 (by omega) hy hO hne) (fun c hc => hc))
  · exact Or.inl (key (Or.inr (Or.inr (Or.inr (Or.inr (Or.inr (Or.inr (Or.inl hv))))))) (fun c hc => by obtain ⟨rfl, -⟩ := hv; exact hc))
  · exact Or.inl (key (Or.inr (Or.inr (Or.inr (Or.inr (Or.inr (Or.inr (Or.inr hv))))))) (fun c hc => by obtain ⟨rfl, -⟩ := hv; exact hc))
theorem RC.countL (h : RC E xa ma b a w σ) (x0 : Option Nat) : ∀ (l : List Nat) (o : Option Nat) (s N : Nat), isCh (a.2.1 6) o l → (∀ x ∈ l, x < a.1 0 0) → s + l.length ≤ 12 → l.length < N → fX7_levelCount_L4 x0 N (nI s) (mp w.1 5 o) σ = some (nI (s + l.length), σ) := by
  intro l
  induction l with
  | nil =>
    intro o s N hch _ _ hN
    obtain ⟨N, rfl⟩ : ∃ k, N = k + 1 := ⟨N - 1, by omega⟩
    cases o with
    | some t => exact hch.elim
    | none => simp only [fX7_levelCount_L4, fX7_levelCount_B4, mp_n, oc_none]; rfl
  | cons y l ih =>
    intro o s N hch hl hs hN
    obtain ⟨N, rfl⟩ : ∃ k, N = k + 1 := ⟨N - 1, by omega⟩
    cases o with
    | none => exact hch.elim
    | some t' =>
      obtain ⟨rfl, h2⟩ := hch
      have hy := hl y List.mem_cons_self
      simp only [List.length_cons] at hs hN
      have h12 : ((12 : Int32) ≤ nI s) = (12 ≤ s) := n_le (x := 12) (by decide) (by omega)
      simp only [fX7_levelCount_L4, fX7_levelCount_B4, mp_s, oc_some, h12, if_neg (show ¬ 12 ≤ s by omega), h.t10 hy, ob_some, n_s, ih (a.2.1 6 y) (s + 1) N h2 (fun x hx => hl x (List.mem_cons_of_mem _ hx)) (by omega) (by omega), List.length_cons]
      rw [show s + 1 + l.length = s + (l.length + 1) by omega]
theorem RC.nearL (h : RC E xa ma b a w σ) (hw : Wt a) (hO : Wo a (a.1 16 0)) (hb : a.1 16 0 ≤ b) {v : Nat} (hv : v < a.1 0 0) (x1 x2 : Option Nat) : ∀ (ts : List Nat) (o q : Option Nat) (s N : Nat), isCh (a.2.1 2) o ts → (∀ x ∈ ts, x < a.1 0 0) → s + ts.length ≤ 12 → ts.length < N → hdO a ts q → fX7_nearestOf_L11 (some (w.1 5 v 0)) x1 x2 N (mp w.1 16 q) (mp w.1 5 o) (nI s) σ = some (mp w.1 16 (fouL a v ts q), σ) := by
  intro ts
  induction ts with
  | nil =>
    intro o q s N hch _ _ hN hd
    obtain ⟨N, rfl⟩ : ∃ k, N = k + 1 := ⟨N - 1, by omega⟩
    cases q with
    | some r => obtain ⟨-, t, ts', e, -⟩ := hd r rfl; cases e
    | none => simp only [fX7_nearestOf_L11, fX7_nearestOf_B11, mp_n, oc_none, fouL]
  | cons t ts ih =>
    intro o q s N hch hl hs hN hd
    obtain ⟨N, rfl⟩ : ∃ k, N = k + 1 := ⟨N - 1, by omega⟩
    cases o with
    | none => exact hch.elim
    | some t' =>
      obtain ⟨rfl, h2⟩ := hch
      have ht := hl t List.mem_cons_self
      simp only [List.length_cons] at hs hN
      have h12 : ((12 : Int32) ≤ nI s) = (12 ≤ s) := n_le (x := 12) (by decide) (by omega)
      cases q with
      | none => simp only [fX7_nearestOf_L11, fX7_nearestOf_B11, mp_n, oc_none, fouL]
      | some r =>
        obtain ⟨hr, t0, ts0, e0, hi0⟩ := hd r rfl
        cases e0
        have ih' := ih (a.2.1 2 t) (a.2.1 19 (12 * r + t)) (s + 1) N h2 (fun x hx => hl x (List.mem_cons_of_mem _ hx)) (by omega) (by omega) (hdO_n hw hO ht h2 hd)
        simp only [fX7_nearestOf_L11, fX7_nearestOf_B11, mp_s, oc_some, h12, if_neg (show ¬ 12 ≤ s by omega), h.oC hr, ob_some, h.levelOf hw hO hb hr hv, cb_some, fouL]
        cases hi : isO a r v with
        | true => simp only [if_true, oc_some, mp_s]
        | false =>
          simp only [Bool.false_eq_true, if_false, oc_none, h.aroundAt hw hO hb hr ht, hi0, if_true, cb_some, h.t2 ht, ob_some, n_s, ih']
theorem LI.add {o La len : Nat} {pre : List Nat} (h : LI E xa ma a c w0 w σ0 σ o La len pre) (hw : Wt a) (ho : a.1 16 0 = o) (h520 : o < 520) {u : Nat} (hu : u < a.1 0 0) (hup : u ∉ pre) (hlen : pre.length < len) (hl12 : len ≤ 12) {ab : Option Nat} (hab : ∀ r, ab = some r → bd c u = true ∧ r < o ∧ ∀ v, c.2.1 2 u = some v → isO c r v = true) (x0 x1 : Option Nat) (K : Nat → Option Nat → Int32 → hmS → Option (Option Nat × hmS)) : ∃ w' σ', fX7_levelsFor_J61 E x0 x1 K La (w0.1 5 u 0) (nI pre.length) (mp w0.1 16 ab) σ = K La (mp w0.1 5 (a.2.1 6 u)) (nI (pre.length + 1)) σ' ∧ LI E xa ma a (lvA c o u ab) w0 w' σ0 σ' o La len (pre ++ [u]) := by
  obtain ⟨g, hS, hb, hWo, hsm, hLa, hLt, ⟨f, hf1, hf2⟩, hmem, hfr⟩ := h
  have hn := hw.n12
  have hwc := hS.hWt hw
  have hoc : c.1 16 0 = o := by rw [hS.1]; exact ho
  have huc : u < c.1 0 0 := by rw [hS.1]; exact hu
  have hno : isO c o u = false := by
    cases hi : isO c o u with
    | false => rfl
    | true => exact absurd ((hmem u (by omega)).mp hi) hup
  have e5 : w.1 5 u 0 = w0.1 5 u 0 := hsm 5 u 0 (Or.inl (by decide))
  have e16 : mp w.1 16 ab = mp w0.1 16 ab := by cases ab with
    | none => rfl
    | some r => show some (w.1 16 r 0) = some (w0.1 16 r 0); rw [hsm 16 r 0 (Or.inl (by decide))]
  obtain ⟨σ6, qc, qp, e1, x6, l6, g6, hqc, hqp, fs, d6⟩ := g.level hoc hwc hWo huc hno ab
  obtain ⟨⟨⟩, s, e2, e3⟩ := cb_s (show cb (fX3_init E σ.2 (some (w.1 5 u 0)) (mp w.1 16 ab) (hmN σ (.inr (5, [.null, .null, .null, .null])))) (fun _ σ6 => some (σ.2, σ6)) = some (σ.2, σ6) from e1)
  cases e3
  have hf6 : σ6.1 La = some (.inl (7, len, .inr (.inr (.inr (.inr f))))) := by rw [x6.2 La hLt]; exact hf1
  have es := sR_of (r := some σ.2) hf6 (by decide) (by decide) hlen (by omega) (okR_of d6)
  have hG2 : (levG w o u σ.2 qc qp).2 La = (17, o, 0) := by
    show (if La = σ.2 then _ else if La = qp then _ else if La = qc then _ else w.2 La) = _
    rw [if_neg (by omega), if_neg (by omega), if_neg (by omega)]
    exact hLa
  have hnv : ∀ k x y, vld (o + 1) (lvA c o u ab) k x y → (levG w o u σ.2 qc qp).2 La ≠ (k, x, y) := by
    intro k x y hv e
    rw [hG2] at e
    cases e
    have hlt : (lvA c o u ab).1 16 0 = o := hoc
    rcases hv with q | q | q | q | q | q | q | q <;> omega
  have hnout : ¬ outS E ma La := fun q => by
    have := g.2.2.1 La q
    rw [hLa] at this
    cases this
  have g7 := g6.other hnv hnout (.inl (7, len, .inr (.inr (.inr (.inr (va_up f pre.length (some σ.2)))))))
  have hsm' : ∀ k x y, k < 18 ∨ 20 < k → (levG w o u σ.2 qc qp).1 k x y = w0.1 k x y := fun k x y hk => by
    show (if k = 18 ∧ x = o ∧ y = u then _ else if k = 19 ∧ x = o ∧ y = u then _ else if k = 20 ∧ x = o ∧ y = u then _ else w.1 k x y) = _
    rw [if_neg (by omega), if_neg (by omega), if_neg (by omega)]
    exact hsm k x y hk
  refine ⟨levG w o u σ.2 qc qp, _, ?_, g7, hS.trans (Smk.hlvA c o (show u < 12 by omega) (hwc.nf huc) (hwc.a4 huc) ab), lvA_b hb (fun q hq => by have := (hab q hq).2.1; omega), Wo_lv hwc hoc hWo huc hab, hsm', hG2, Nat.lt_of_lt_of_le hLt x6.1, ⟨_, hmU_s _ _ _, fun i hi => ?_⟩, fun u' hu' => ?_, hfr.trans ⟨x6.1, fun p hp => ?_⟩⟩
  · have k5 : (levG w o u σ.2 qc qp).1 5 u 0 = w0.1 5 u 0 := hsm' 5 u 0 (Or.inl (by decide))
    have e10 := g7.t10 (t := u) huc
    rw [k5] at e10
    have e6 : (lvA c o u ab).2.1 6 u = a.2.1 6 u := (hS.trans (Smk.hlvA c o (show u < 12 by omega) (hwc.nf huc) (hwc.a4 huc) ab)).2.2.1 6 u (by decide) (by decide)
    have em : mp (levG w o u σ.2 qc qp).1 5 (a.2.1 6 u) = mp w0.1 5 (a.2.1 6 u) := by cases a.2.1 6 u with
      | none => rfl
      | some r => show some ((levG w o u σ.2 qc qp).1 5 r 0) = some (w0.1 5 r 0); rw [hsm' 5 r 0 (Or.inl (by decide))]
    rw [e6, em] at e10
    rw [e5, e16] at e2
    simp only [fX7_levelsFor_J61, nw, e2, cb_some, es, ob_some, e10, n_s]
  · have e18 : (levG w o u σ.2 qc qp).1 18 o u = σ.2 := if_pos ⟨rfl, rfl, rfl⟩
    rw [List.length_append, List.length_singleton] at hi
    by_cases hi' : i = pre.length
    · subst hi'
      rw [va_up_self, getD_app2, e18]
    · have hip : i < pre.length := by omega
      rw [va_up_ne _ _ hi', getD_app1 hip, hf2 i hip]
      have hm : pre.getD i 0 ∈ pre := by
        rw [List.getD_eq_getElem?_getD, List.getElem?_eq_getElem hip]
        exact List.getElem_mem hip
      have hne : pre.getD i 0 ≠ u := fun e => hup (e ▸ hm)
      have : (levG w o u σ.2 qc qp).1 18 o (pre.getD i 0) = w.1 18 o (pre.getD i 0) := by
        show (if (18 : Nat) = 18 ∧ o = o ∧ pre.getD i 0 = u then _ else if (18 : Nat) = 19 ∧ o = o ∧ pre.getD i 0 = u then _ else if (18 : Nat) = 20 ∧ o = o ∧ pre.getD i 0 = u then _ else w.1 18 o (pre.getD i 0)) = _
        rw [if_neg (fun q => hne q.2.2), if_neg (fun q => hne q.2.2), if_neg (fun q => hne q.2.2)]
      rw [this]
  · by_cases e : u' = u
    · subst e
      rw [lvO_s]
      simp
    · rw [lvO_n ab hu' (by omega) (fun q => e q.2), hmem u' hu']
      simp [e]
  · rw [hmU_n σ6 _ (show p ≠ La from fun e => hnout (e ▸ hp))]
    exact x6.2 p (g.outlt hp)
theorem fou_w (c : aS) (v : Int32) (u : Nat) : ∀ (ts : List Nat) (q : Option Nat), fouL (aW_ c v) u ts q = fouL c u ts q := by
  intro ts
  induction ts with
  | nil => intro q; rfl
  | cons t ts ih =>
    intro q
    cases q with
    | none => rfl
    | some o =>
      unfold fouL
      rw [ih]
      rfl
theorem mkL_w (o : Nat) (first : Option Nat) (t : Nat) (v : Int32) : ∀ (l : List Nat) (c : aS), mkL o first t l (aW_ c v) = ((mkL o first t l c).1, aW_ (mkL o first t l c).2 v) := by
  intro l
  induction l with
  | nil => intro c; rfl
  | cons u l ih =>
    intro c
    have e1 : bd (aW_ c v) u = bd c u := rfl
    have e2 : abt (aW_ c v) first t u = abt c first t u := by unfold abt; rw [fou_w]; rfl
    unfold mkL
    rw [e1, e2]
    split
    · rfl
    · exact ih (lvA c o u (abt c first t u))
theorem LI.loop {o La : Nat} {t : Nat} {first : Option Nat} {pl : List Nat} (hi : Iv a) (ho : a.1 16 0 = o) (ht : t < a.1 0 0) (hd : hdO a (och a (a.2.1 2 t)) first) (hpl : isCh (a.2.1 6) (some t) pl) (hpl12 : pl.length ≤ 12) (hpn : ∀ x ∈ pl, x < a.1 0 0) : ∀ (l pre : List Nat) (c : aS) (w : cG) (σ : hmS) (po : Option Nat) (N : Nat), LI E xa ma a c w0 w σ0 σ o La pl.length pre → pl = pre ++ l → isCh (a.2.1 6) po l → l.length < N → 1 ≤ pre.length → ∃ w' σ', fX7_levelsFor_L13 E (some (w0.1 5 t 0)) (mp w0.1 16 first) N La (mp w0.1 5 po) (nI pre.length) σ = some (if (mkL o first t l c).1 then some La else none, σ') ∧ RC E xa ma (o + 1) (mkL o first t l c).2 w' σ' ∧ Smk a (mkL o first t l c).2 o ∧ Wb (mkL o first t l c).2 ∧ Wo (mkL o first t l c).2 (o + 1) ∧ Fr E ma σ0 σ' ∧ (∀ k x y, k < 18 ∨ 20 < k → w'.1 k x y = w0.1 k x y) ∧ ((mkL o first t l c).1 = true → LI E xa ma a (mkL o first t l c).2 w0 w' σ0 σ' o La pl.length pl) := by
  obtain ⟨hbd, hw, hc, hO, hq, hz⟩ := id hi
  have hn := hw.n12
  have hnd := isCh_nd hpl
  intro l
  induction l with
  | nil =>
    intro pre c w σ po N h hp hch hN hp1
    obtain ⟨N, rfl⟩ : ∃ k, N = k + 1 := ⟨N - 1, by omega⟩
    obtain ⟨g, hS, hb, hWo, hsm, hLa, hLt, ⟨f, hf1, hf2⟩, hmem, hfr⟩ := id h
    rw [List.append_nil] at hp
    cases hp
    refine ⟨w, σ, ?_, g, hS, hb, hWo, hfr, hsm, fun _ => h⟩
    simp only [fX7_levelsFor_L13, fX7_levelsFor_B13, aN_of hf1, ob_some, n_le (show pl.length < 100000 by omega) (show pl.length < 100000 by omega), Nat.le_refl, if_true, mkL]
  | cons u l ih =>
    intro pre c w σ po N h hp hch hN hp1
    obtain ⟨N, rfl⟩ : ∃ k, N = k + 1 := ⟨N - 1, by omega⟩
    obtain ⟨g, hS, hb, hWo, hsm, hLa, hLt, ⟨f, hf1, hf2⟩, hmem, hfr⟩ := id h
    cases po with
    | none => exact hch.elim
    | some u' =>
      obtain ⟨rfl, h2⟩ := hch
      have hu : u < a.1 0 0 := hpn u (by rw [hp]; simp)
      have huc : u < c.1 0 0 := by rw [hS.1]; exact hu
      have hwc := hS.hWt hw
      have hup : u ∉ pre := fun q => by
        rw [hp] at hnd
        exact (List.nodup_append.mp hnd).2.2 u q u List.mem_cons_self rfl
      have hll : pre.length < pl.length := by rw [hp]; simp
      simp only [List.length_cons] at hN
      have e5 : w.1 5 u 0 = w0.1 5 u 0 := hsm 5 u 0 (Or.inl (by decide))
      have t5 := g.t5 huc
      have t2 := g.t2 huc
      rw [e5] at t5 t2
      -- to go on with a level
      have go : ∀ ab, abt c first t u = ab → ∃ w' σ', fX7_levelsFor_J61 E (some (w0.1 5 t 0)) (mp w0.1 16 first) (fX7_levelsFor_L13 E (some (w0.1 5 t 0)) (mp w0.1 16 first) N) La (w0.1 5 u 0) (nI pre.length) (mp w0.1 16 ab) σ = some (if (mkL o first t l (lvA c o u ab)).1 then some La else none, σ') ∧ RC E xa ma (o + 1) (mkL o first t l (lvA c o u ab)).2 w' σ' ∧ Smk a (mkL o first t l (lvA c o u ab)).2 o ∧ Wb (mkL o first t l (lvA c o u ab)).2 ∧ Wo (mkL o first t l (lvA c o u ab)).2 (o + 1) ∧ Fr E ma σ0 σ' ∧ (∀ k x y, k < 18 ∨ 20 < k → w'.1 k x y = w0.1 k x y) ∧ ((mkL o first t l (lvA c o u ab)).1 = true → LI E xa ma a (mkL o first t l (lvA c o u ab)).2 w0 w' σ0 σ' o La pl.length pl) := by
        intro ab hab
        obtain ⟨w1, σ1, e1, h1⟩ := h.add hw ho (by have := hq.1; omega) hu hup hll hpl12 (ab := ab) (fun r hr => by
          rw [← hab] at hr
          have hlt := abt_lt hw (by exact hO) (by rw [ho]; exact hS) ht hd hr
          unfold abt at hr
          split at hr
          · rename_i hbu
            refine ⟨hbu, by omega, fun v hv => ?_⟩
            have := fou_s hr
            rw [show wo c u = v by simp [wo, hv]] at this
            exact this
          · cases hr) (some (w0.1 5 t 0)) (mp w0.1 16 first) (fX7_levelsFor_L13 E (some (w0.1 5 t 0)) (mp w0.1 16 first) N)
        obtain ⟨w2, σ2, e2, h2'⟩ := ih (pre ++ [u]) (lvA c o u ab) w1 σ1 (a.2.1 6 u) N h1 (by rw [hp]; simp) h2 (by omega) (by simp)
        rw [List.length_append, List.length_singleton] at e2
        exact ⟨w2, σ2, by rw [e1]; exact e2, h2'⟩
      have eB : fX7_levelsFor_L13 E (some (w0.1 5 t 0)) (mp w0.1 16 first) (N + 1) La (mp w0.1 5 (some u)) (nI pre.length) σ = if bd c u then (ob (gR σ (w0.1 5 u 0) 8 2) fun f9 => cb (fX7_nearestOf f9 (some (w0.1 5 t 0)) (mp w0.1 16 first) σ) fun r13 σ12 => fX7_levelsFor_J52 E (some (w0.1 5 t 0)) (mp w0.1 16 first) (fX7_levelsFor_L13 E (some (w0.1 5 t 0)) (mp w0.1 16 first) N) La (w0.1 5 u 0) (nI pre.length) r13 σ12) else fX7_levelsFor_J61 E (some (w0.1 5 t 0)) (mp w0.1 16 first) (fX7_levelsFor_L13 E (some (w0.1 5 t 0)) (mp w0.1 16 first) N) La (w0.1 5 u 0) (nI pre.length) none σ := by
        have e0 : (nI pre.length = (0 : Int32)) = (pre.length = 0) := n_eq (y := 0) (by omega) (by decide)
        simp only [fX7_levelsFor_L13, fX7_levelsFor_B13, aN_of hf1, ob_some, n_le (show pl.length < 100000 by omega) (show pre.length < 100000 by omega), if_neg (show ¬ pl.length ≤ pre.length by omega), mp_s, oc_some, t5, b2_0, e0, if_neg (show ¬ pre.length = 0 by omega)]
        cases bd c u <;> simp
      rw [eB]
      unfold mkL
      cases hbu : bd c u with
      | false =>
        have hab : abt c first t u = none := by simp [abt, hbu]
        rw [hab]
        exact go none hab
      | true =>
        obtain ⟨v, v1, v2⟩ := hwc.o1 huc (fun e => by simp [bd, e] at hbu)
        have ev : wo c u = v := by simp [wo, v2]
        have hvc : v < c.1 0 0 := by omega
        obtain ⟨ts, t1, t2', t3⟩ := hw.oc' (o := a.2.1 2 t) (fun x hx => by have := (hw.ou ht hx).1; omega)
        have e : och a (a.2.1 2 t) = ts := chl_eq t1 t2'
        have hO' : Wo c (c.1 16 0) := by rw [hS.1, ho]; exact hS.hWo hn hw ho (by rw [← ho]; exact hO)
        have hoc : c.1 16 0 = o := by rw [hS.1]; exact ho
        have htc : t < c.1 0 0 := by rw [hS.1]; exact ht
        have hN' := g.nearL hwc hO' (by omega) hvc (some (w0.1 5 t 0)) (mp w0.1 16 first) ts (c.2.1 2 t) first 0 20 (by rw [hS.k2]; exact t1) (by rw [hS.1]; exact t3) (by omega) (by omega) (hS.hhd ho (fun x hx => by have := t3 x hx; omega) (e ▸ hd))
        have hab : abt c first t u = fouL c v ts first := by
          unfold abt
          rw [if_pos hbu, ev, hS.hoch, hS.k2, e]
        have m16 : ∀ q, mp w.1 16 q = mp w0.1 16 q := fun q => by cases q with
          | none => rfl
          | some r => show some (w.1 16 r 0) = some (w0.1 16 r 0); rw [hsm 16 r 0 (Or.inl (by decide))]
        have m5 : ∀ q, mp w.1 5 q = mp w0.1 5 q := fun q => by cases q with
          | none => rfl
          | some r => show some (w.1 5 r 0) = some (w0.1 5 r 0); rw [hsm 5 r 0 (Or.inl (by decide))]
        have k2 := g.t2 htc
        have hNe : fX7_nearestOf (some (w0.1 5 v 0)) (some (w0.1 5 t 0)) (mp w0.1 16 first) σ = some (mp w0.1 16 (fouL c v ts first), σ) := by
          have k5 : w.1 5 t 0 = w0.1 5 t 0 := hsm 5 t 0 (Or.inl (by decide))
          have k5v : w.1 5 v 0 = w0.1 5 v 0 := hsm 5 v 0 (Or.inl (by decide))
          rw [k5] at k2
          rw [m16, m16, k5v] at hN'
          simp only [fX7_nearestOf, ob_some, k2]
          exact hN'
        have t2v : gR σ (w0.1 5 u 0) 8 2 = some (some (w0.1 5 v 0)) := by rw [t2, v2, m5, mp_s]
        simp only [if_true, t2v, ob_some, hNe, cb_some, fX7_levelsFor_J52, Bool.true_and, hab]
        cases hf : fouL c v ts first with
        | none =>
          simp only [mp_n, oc_none, Option.isNone_none, if_true, Bool.false_eq_true, if_false]
          exact ⟨w, σ, rfl, g, hS, hb, hWo, hfr, hsm, fun q => by cases q⟩
        | some r =>
          simp only [mp_s, oc_some, Option.isNone_some, Bool.false_eq_true, if_false]
          exact go (some r) (hab.trans hf)
end CZ
