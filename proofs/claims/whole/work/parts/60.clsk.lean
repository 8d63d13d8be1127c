/-! The class: make. -/
def thG (w : cG) (o q La : Nat) : cG := (fun k x y => if k = 16 ∧ x = o then q else if k = 17 ∧ x = o then La else w.1 k x y, fun p => if p = q then (16, o, 0) else w.2 p)
def mkF (c : aS) (o t p : Nat) : aS := aP_ (aN_ (aN_ c 17 o t) 16 0 (o + 1)) 22 p (some o)
theorem thG_mp (w : cG) {o q La : Nat} {r : Option Nat} (hr : ∀ z, r = some z → z < o) : mp (thG w o q La).1 16 r = mp w.1 16 r := by
  cases r with
  | none => rfl
  | some z =>
    have := hr z rfl
    show some (if (16 : Nat) = 16 ∧ z = o then q else if (16 : Nat) = 17 ∧ z = o then La else w.1 16 z 0) = some (w.1 16 z 0)
    rw [if_neg (by omega), if_neg (by omega)]
section DA
variable {E : hmG} {xa ma b : Nat} {a c : aS} {w0 w : cG} {σ0 σ : hmS}
set_option maxHeartbeats 1000000 in
theorem LI.thing {o La t p : Nat} {pl : List Nat} (hi : Iv a) (ho : a.1 16 0 = o) (ht : t < a.1 0 0) (hp : p < 8) (hpl : isCh (a.2.1 6) (some t) pl) (hpl12 : pl.length ≤ 12) (hpn : ∀ x ∈ pl, x < a.1 0 0) (h : LI E xa ma a c w0 w σ0 σ o La pl.length pl) : ∃ w' σ', (ob (gR σ xa 9 2) fun f5 => nw σ (.inr (7, [.null, .null])) fun q7 σ8 => cb (fX5_init q7 (some (w0.1 5 t 0)) (some La) σ8) fun _ σ12 => ob f5 fun a13 => ob (sR σ12 a13 (nI p) (some q7)) fun σ14 => ob (gI σ14 xa 9 3) fun f16 => ob (wF σ14 xa 9 3 (.int (f16 + (1 : Int32)))) fun σ18 => some ((0 : Int32), σ18)) = some (0, σ') ∧ RC E xa ma (o + 1) (mkF c o t p) w' σ' ∧ Fr E ma σ0 σ' := by
  obtain ⟨hbd, hw, hcc, hO, hq, hz⟩ := id hi
  obtain ⟨g, hS, hb, hWo, hsm, hLa, hLt, ⟨f0, hf1, hf2⟩, hmem, hfr⟩ := h
  have hn := hw.n12
  have hoc : c.1 16 0 = o := by rw [hS.1]; exact ho
  have e5 : w.1 5 t 0 = w0.1 5 t 0 := hsm 5 t 0 (Or.inl (by decide))
  -- the new object
  obtain ⟨σ1, hs1⟩ : ∃ σ1, σ1 = hmN σ (.inr (7, [.null, .null])) := ⟨_, rfl⟩
  have x1 : Ext σ σ1 := by rw [hs1]; exact Ext.new σ _
  have l1 : σ1.2 = σ.2 + 1 := by rw [hs1]; rfl
  have d1 : σ1.1 σ.2 = some (.inr (7, [.null, .null])) := by rw [hs1]; exact hmN_s _ _
  have w1 := wF_of (k := 0) d1 (by simp) (va_rf (some (w0.1 5 t 0)))
  obtain ⟨σ2, hs2⟩ : ∃ σ2, σ2 = hmU σ1 σ.2 (.inr (7, [.ref (w0.1 5 t 0), .null])) := ⟨_, rfl⟩
  have w1' : wF σ1 σ.2 7 0 (va_rf (some (w0.1 5 t 0))) = some σ2 := by rw [w1, hs2]; rfl
  have d2 : σ2.1 σ.2 = some (.inr (7, [.ref (w0.1 5 t 0), .null])) := by rw [hs2]; exact hmU_s _ _ _
  have w2 := wF_of (k := 1) d2 (by simp) (va_rf (some La))
  obtain ⟨σ3, hs3⟩ : ∃ σ3, σ3 = hmU σ2 σ.2 (.inr (7, [.ref (w0.1 5 t 0), .ref La])) := ⟨_, rfl⟩
  have w2' : wF σ2 σ.2 7 1 (va_rf (some La)) = some σ3 := by rw [w2, hs3]; rfl
  have d3 : σ3.1 σ.2 = some (.inr (7, [.ref (w0.1 5 t 0), .ref La])) := by rw [hs3]; exact hmU_s _ _ _
  have x3 : Ext σ σ3 := by rw [hs3, hs2]; exact (x1.up (Nat.le_refl _) _).up (Nat.le_refl _) _
  have l3 : σ3.2 = σ.2 + 1 := by rw [hs3, hs2]; exact l1
  have g3 := g.ext x3
  have ei : fX5_init σ.2 (some (w0.1 5 t 0)) (some La) σ1 = some ((), σ3) := by simp only [fX5_init, w1', ob_some, w2']
  -- its place
  have hv2 : vld (o + 1) c 2 0 0 := vld_0 (by decide)
  obtain ⟨cc, q1, f, rfl, q2⟩ := g3.cell hv2
  have es := sR_of (r := some σ.2) q1 (by decide) (by decide) hp (by decide) (okR_of d3)
  obtain ⟨σ4, hs4⟩ : ∃ σ4, σ4 = hmU σ3 (w.1 2 0 0) (.inl (5, 8, .inr (.inr (.inr (.inr (va_up f p (some σ.2))))))) := ⟨_, rfl⟩
  rw [← hs4] at es
  have n2 : w.1 2 0 0 < σ.2 := g.lt0 hv2
  have n0 : xa < σ.2 := by have := g.lt0 (vld_0 (k := 0) (by decide)); rw [g.2.1] at this; exact this
  have n20 : w.1 2 0 0 ≠ xa := fun q => by
    rw [← g.2.1] at q
    have := (g.inj hv2 (vld_0 (k := 0) (by decide)) q).1
    omega
  have c4 : σ4.1 xa = σ.1 xa := by rw [hs4, hmU_n _ _ n20.symm]; exact x3.2 xa n0
  have c0 := g.c0
  rw [← c4] at c0
  have em := wF_of (k := 3) c0 (by simp) (.int (nI (o + 1)))
  obtain ⟨σ5, hs5⟩ : ∃ σ5, σ5 = hmU σ4 xa (.inr (9, [.ref (w.1 1 0 0), .int (nI (c.1 0 0)), .ref (w.1 2 0 0), .int (nI (o + 1)), .ref (w.1 3 0 0), .int (nI (c.1 23 0)), .ref (w.1 4 0 0), .int c.2.2.2])) := ⟨_, rfl⟩
  have em' : wF σ4 xa 9 3 (.int (nI (o + 1))) = some σ5 := by rw [em, hs5]; rfl
  have d5 : σ5.1 xa = some (.inr (9, [.ref (w.1 1 0 0), .int (nI (c.1 0 0)), .ref (w.1 2 0 0), .int (nI (o + 1)), .ref (w.1 3 0 0), .int (nI (c.1 23 0)), .ref (w.1 4 0 0), .int c.2.2.2])) := by rw [hs5]; exact hmU_s _ _ _
  have m3 : gI σ4 xa 9 3 = some (nI o) := by rw [← hoc]; exact gI_of c0 rfl
  have hkeep : ∀ q, q ≠ w.1 2 0 0 → q ≠ xa → σ5.1 q = σ3.1 q := fun q q3 q0 => by rw [hs5, hmU_n _ _ q0, hs4, hmU_n _ _ q3]
  have l5 : σ5.2 = σ.2 + 1 := by rw [hs5, hs4]; exact l3
  have hfr5 : Fr E ma σ σ5 := ⟨by omega, fun q hq' => by
    rw [hkeep q (fun e => g.out hv2 (e ▸ hq')) (fun e => g.out (vld_0 (k := 0) (by decide)) (by rw [g.2.1, ← e]; exact hq'))]
    exact x3.2 q (g.outlt hq')⟩
  have c22 : ∀ p', p' < 8 → ∀ z, c.2.1 22 p' = some z → z < o := fun p' hp' z hz' => by
    rw [hS.2.2.1 22 p' (by decide) (by decide)] at hz'
    rw [← ho]; exact hq.2.2.1 p' hp' z hz'
  have c25 : ∀ j, j < c.1 23 0 → ∀ z, c.2.1 25 j = some z → z < o := fun j hj z hz' => by
    rw [hS.2.2.1 25 j (by decide) (by decide)] at hz'
    rw [hS.1] at hj
    rw [← ho]; exact ((hq.2.2.2.2 j hj).2.2 z hz').1
  have hnd := isCh_nd hpl
  refine ⟨thG w o σ.2 La, σ5, ?_, ?_, hfr.trans hfr5⟩
  · simp only [g.m2, ob_some, nw, ← hs1, ei, cb_some, es, m3, n_s, em']
  · have key : ∀ k x y, vld (o + 1) c k x y → k ≠ 0 → k ≠ 2 → ¬ ((k = 16 ∨ k = 17) ∧ x = o) → (∀ cl, okc E c w.1 k x y cl → okc E (mkF c o t p) (thG w o σ.2 La).1 k x y cl) → (vld (o + 1) c k x y ∧ (thG w o σ.2 La).1 k x y = w.1 k x y ∧ σ5.1 (w.1 k x y) = σ.1 (w.1 k x y) ∧ ∀ cl, okc E c w.1 k x y cl → okc E (mkF c o t p) (thG w o σ.2 La).1 k x y cl) := by
      intro k x y hv k0 k2 hne hok
      refine ⟨hv, ?_, ?_, hok⟩
      · show (if k = 16 ∧ x = o then σ.2 else if k = 17 ∧ x = o then La else w.1 k x y) = w.1 k x y
        rw [if_neg (fun q => hne ⟨Or.inl q.1, q.2⟩), if_neg (fun q => hne ⟨Or.inr q.1, q.2⟩)]
      · rw [hkeep _ (fun e => k2 (g.inj hv hv2 e).1) (fun e => k0 (g.inj hv (vld_0 (k := 0) (by decide)) (e.trans g.2.1.symm)).1)]
        exact x3.2 _ (g.lt0 hv)
    have e16 : (mkF c o t p).1 16 0 = o + 1 := by simp [mkF, aP_, aN_, up2]
    have e17 : ∀ x, x ≠ o → (mkF c o t p).1 17 x = c.1 17 x := fun x hx => by simp [mkF, aP_, aN_, up2, hx]
    have e17' : (mkF c o t p).1 17 o = t := by simp [mkF, aP_, aN_, up2]
    have e22 : ∀ p', p' ≠ p → (mkF c o t p).2.1 22 p' = c.2.1 22 p' := fun x hx => by simp [mkF, aP_, aN_, up2, hx]
    have e22' : (mkF c o t p).2.1 22 p = some o := by simp [mkF, aP_, aN_, up2]
    refine g.step (σ := σ5) (by omega) hfr5.2 (fun q hq' => ?_) g.2.1 (fun k x y hv => ?_)
    · show (if q = σ.2 then _ else w.2 q) = w.2 q
      rw [if_neg (by omega)]
    · rcases hv with hv | hv | hv | hv | hv | hv | hv | hv
      · obtain ⟨hk5, rfl, rfl⟩ := hv
        by_cases k0 : k = 0
        · subst k0
          have d0 : σ5.1 ((thG w o σ.2 La).1 0 0 0) = _ := (congrArg σ5.1 g.2.1).trans d5
          refine Or.inr ⟨?_, ?_, _, d0, ?_⟩
          · show w.1 0 0 0 < _; rw [g.2.1]; omega
          · show (if w.1 0 0 0 = σ.2 then _ else w.2 (w.1 0 0 0)) = _
            rw [if_neg (by rw [g.2.1]; omega)]; exact (g.1 0 0 0 (vld_0 (by decide))).2.1
          · show _ = (Sum.inr (9, [.ref (w.1 1 0 0), .int (nI (c.1 0 0)), .ref (w.1 2 0 0), .int (nI ((mkF c o t p).1 16 0)), .ref (w.1 3 0 0), .int (nI (c.1 23 0)), .ref (w.1 4 0 0), .int c.2.2.2]) : va_E)
            rw [e16]
        · by_cases k2 : k = 2
          · subst k2
            have d2' : σ5.1 ((thG w o σ.2 La).1 2 0 0) = some (.inl (5, 8, .inr (.inr (.inr (.inr (va_up f p (some σ.2))))))) := by
              show σ5.1 (w.1 2 0 0) = _
              rw [hs5, hmU_n _ _ n20, hs4]; exact hmU_s _ _ _
            refine Or.inr ⟨?_, ?_, _, d2', _, rfl, fun p' hp' => ?_⟩
            · show w.1 2 0 0 < _; omega
            · show (if w.1 2 0 0 = σ.2 then _ else w.2 (w.1 2 0 0)) = _
              rw [if_neg (by omega)]; exact (g.1 2 0 0 hv2).2.1
            · show va_up f p (some σ.2) p' = mp (thG w o σ.2 La).1 16 ((mkF c o t p).2.1 22 p')
              by_cases e : p' = p
              · subst e
                rw [va_up_self, e22', mp_s]
                show some σ.2 = some (if (16 : Nat) = 16 ∧ o = o then σ.2 else _)
                rw [if_pos ⟨rfl, rfl⟩]
              · rw [va_up_ne _ _ e, e22 p' e, thG_mp w (c22 p' hp')]
                exact q2 p' hp'
          · refine Or.inl (key k 0 0 (Or.inl ⟨hk5, rfl, rfl⟩) k0 k2 (by omega) (fun cl hc => ?_))
            match k, hk5, k0, k2, hc with
            | 0, _, q, _, _ => exact absurd rfl q
            | 1, _, _, _, hc => exact hc
            | 2, _, _, q, _ => exact absurd rfl q
            | 3, _, _, _, hc => exact hc
            | 4, _, _, _, hc => exact hc
            | k + 5, q, _, _, _ => omega
      · refine Or.inl (key k x y (Or.inr (Or.inl hv)) (by omega) (by omega) (by omega) (fun cl hc => ?_))
        match k, hv.1, hv.2.1, hc with
        | 0, q, _, _ => omega
        | 1, q, _, _ => omega
        | 2, q, _, _ => omega
        | 3, q, _, _ => omega
        | 4, q, _, _ => omega
        | 5, _, _, hc => exact hc
        | 6, _, _, hc => exact hc
        | 7, _, _, hc => exact hc
        | 8, _, _, hc => exact hc
        | 9, _, _, hc => exact hc
        | 10, _, _, hc => exact hc
        | 11, _, _, hc => exact hc
        | 12, _, _, hc => exact hc
        | 13, _, _, hc => exact hc
        | 14, _, _, hc => exact hc
        | 15, _, _, hc => exact hc
        | k + 16, _, q, _ => omega
      · obtain ⟨hk, hx, rfl⟩ := hv
        rw [e16] at hx
        by_cases e : x = o
        · subst e
          rcases hk with rfl | rfl
          · have z16 : (thG w x σ.2 La).1 16 x 0 = σ.2 := if_pos ⟨rfl, rfl⟩
            have d16 : σ5.1 ((thG w x σ.2 La).1 16 x 0) = _ := (congrArg σ5.1 z16).trans ((hkeep _ (by omega) (by omega)).trans d3)
            refine Or.inr ⟨by rw [z16]; omega, by rw [z16]; exact if_pos rfl, _, d16, ?_⟩
            have z17 : (thG w x σ.2 La).1 17 x 0 = La := by simp [thG]
            show _ = (Sum.inr (7, [.ref (w.1 5 ((mkF c x t p).1 17 x) 0), .ref ((thG w x σ.2 La).1 17 x 0)]) : va_E)
            rw [e17', z17, e5]
          · have z17 : (thG w x σ.2 La).1 17 x 0 = La := by simp [thG]
            have nv : w.1 2 0 0 ≠ La := fun e => by
              have := (g.1 2 0 0 hv2).2.1
              rw [e, hLa] at this; cases this
            have nx : xa ≠ La := fun e => by
              have := (g.1 0 0 0 (vld_0 (by decide))).2.1
              rw [g.2.1, e, hLa] at this; cases this
            have d17 : σ5.1 ((thG w x σ.2 La).1 17 x 0) = _ := (congrArg σ5.1 z17).trans ((hkeep _ nv.symm nx.symm).trans ((x3.2 La hLt).trans hf1))
            refine Or.inr ⟨by rw [z17]; omega, ?_, _, d17, pl, ⟨f0, rfl, fun i hi' => ?_⟩, hnd, fun u => ?_⟩
            · rw [z17]
              show (if La = σ.2 then _ else w.2 La) = _
              rw [if_neg (by omega)]; exact hLa
            · exact hf2 i hi'
            · show u ∈ pl ↔ u < 12 ∧ isO c x u = true
              constructor
              · intro hu
                have hu12 : u < 12 := by have := hpn u hu; omega
                exact ⟨hu12, (hmem u hu12).mpr hu⟩
              · rintro ⟨z1, z2⟩; exact (hmem u z1).mp z2
        · have hxo : x < o := by omega
          have hxc : x < c.1 16 0 := by omega
          rcases hk with rfl | rfl
          · refine Or.inl (key 16 x 0 (vld_o (Or.inl rfl) hxc) (by decide) (by decide) (by omega) (fun cl hc => ?_))
            have z17 : (thG w o σ.2 La).1 17 x 0 = w.1 17 x 0 := by simp [thG, e]
            show cl = (Sum.inr (7, [.ref (w.1 5 ((mkF c o t p).1 17 x) 0), .ref ((thG w o σ.2 La).1 17 x 0)]) : va_E)
            rw [e17 x e, z17]
            exact hc
          · exact Or.inl (key 17 x 0 (vld_o (Or.inr rfl) hxc) (by decide) (by decide) (by omega) (fun cl hc => hc))
      · obtain ⟨rfl, hx, hy, hO'⟩ := hv
        have hO2 : isO c x y = true := hO'
        refine Or.inl (key 18 x y (vld_18 hx hy hO2) (by decide) (by decide) (by omega) (fun cl hc => ?_))
        show cl = (Sum.inr (5, [.ref (w.1 5 y 0), va_rf (mp (thG w o σ.2 La).1 16 (c.2.1 19 (12 * x + y))), .ref (zr E (hs c x y) (w.1 19 x y)), .ref (zr E (cpl c y) (w.1 20 x y))]) : va_E)
        rw [thG_mp w (fun z hz' => by have := ((hWo x hx y hy hO2).2.2 z hz').2.1; omega)]
        exact hc
      · obtain ⟨rfl, hx, hy, hO', hne⟩ := hv
        exact Or.inl (key 19 x y (vld_19 hx hy hO' hne) (by decide) (by decide) (by omega) (fun cl hc => hc))
      · obtain ⟨rfl, hx, hy, hO', hne⟩ := hv
        exact Or.inl (key 20 x y (vld_20 hx hy hO' hne) (by decide) (by decide) (by omega) (fun cl hc => hc))
      · obtain ⟨rfl, hx, rfl⟩ := hv
        have hx' : x < c.1 23 0 := hx
        refine Or.inl (key 21 x 0 (vld_21 hx') (by decide) (by decide) (by omega) (fun cl hc => ?_))
        show cl = (Sum.inr (4, [.ref (w.1 5 (c.1 24 x) 0), va_rf (mp (thG w o σ.2 La).1 16 (c.2.1 25 x)), .ref (zr E (c.1 26 x) (w.1 22 x 0))]) : va_E)
        rw [thG_mp w (c25 x hx')]
        exact hc
      · obtain ⟨rfl, hx, rfl, hne⟩ := hv
        exact Or.inl (key 22 x 0 (vld_22 hx hne) (by decide) (by decide) (by omega) (fun cl hc => hc))
theorem cd_mk2 (hi : Iv a) (h : RC E xa ma (a.1 16 0) a w σ) {t p : Nat} (ht : t < a.1 0 0) (hp : p < 8) (x1 x2 : Int32) {first : Option Nat} (hf1 : bd a t = true → ∃ q, first = some q ∧ q < a.1 16 0 ∧ isO a q (wo a t) = true) (hf2 : bd a t = false → first = none) : ∃ w' σ', fX7_makeInto_J71 E xa x1 x2 (nI p) (w.1 5 t 0) (mp w.1 16 first) σ = some ((mk2 a t p first).1, σ') ∧ RC E xa ma ((mk2 a t p first).2.1 16 0) (aW_ (mk2 a t p first).2 a.2.2.2) w' σ' ∧ Fr E ma σ σ' := by
  obtain ⟨hbd, hw, hc, hO, hq, hz⟩ := id hi
  have hn := hw.n12
  obtain ⟨o, ho⟩ : ∃ o, a.1 16 0 = o := ⟨_, rfl⟩
  have h520 : o < 520 := by rw [← ho]; exact hq.1
  obtain ⟨pl, p1, p2, p3⟩ := hc.ch hw (o := some t) (fun x hx => by cases hx; exact ht)
  have epl : pch a t = pl := chl_eq p1 p2
  obtain ⟨pl', rfl, p4⟩ := isCh_s p1
  rw [ho] at h
  have g0 := h.hrst ho
  have hlen : 1 ≤ (t :: pl').length := by simp
  have hC : fX7_levelCount (some (w.1 5 t 0)) σ = some (nI (0 + (t :: pl').length), σ) := h.countL (some (w.1 5 t 0)) (t :: pl') (some t) 0 20 p1 p3 (by omega) (by omega)
  rw [Nat.zero_add] at hC
  generalize hlg : (t :: pl').length = len at *
  -- the row of levels
  obtain ⟨σ1, hs1⟩ : ∃ σ1, σ1 = hmN σ (.inl (7, len, .inr (.inr (.inr (.inr (fun _ => none)))))) := ⟨_, rfl⟩
  have x1' : Ext σ σ1 := by rw [hs1]; exact Ext.new σ _
  have l1 : σ1.2 = σ.2 + 1 := by rw [hs1]; rfl
  have d1 : σ1.1 σ.2 = some (.inl (7, len, .inr (.inr (.inr (.inr (fun _ => none)))))) := by rw [hs1]; exact hmN_s _ _
  have eA : nA σ 7 (.inr (.inr (.inr (.inr (fun _ => none))))) 128 (nI len) = some (σ.2, σ1) := by
    unfold nA
    rw [if_pos ⟨n_nn (by omega), by rw [nI_clamp (by omega)]; omega⟩, nI_clamp (by omega), hs1]
  have g1 : RC E xa ma (o + 1) (rst a o 12) (w.1, fun q => if q = σ.2 then (17, o, 0) else w.2 q) σ1 := g0.step (σ := σ1) x1'.1 (fun q hq' => x1'.2 q (g0.outlt hq')) (fun q hq' => by
      show (if q = σ.2 then _ else w.2 q) = w.2 q
      rw [if_neg (by omega)]) g0.2.1 (fun k x y hv => Or.inl ⟨hv, rfl, x1'.2 _ (g0.lt0 hv), fun _ hcl => hcl⟩)
  have hS0 : Smk a (rst a o 12) o := Smk.hrst a o (Nat.le_refl 12)
  have hWo0 : Wo (rst a o 12) (o + 1) := by
    intro x hx y hy hxy
    have hxo : x ≠ o := fun e => by subst e; rw [rstO_s a x hy] at hxy; cases hxy
    exact (hS0.hWo hn hw ho (by rw [← ho]; exact hO)) x (by omega) y hy hxy
  have LI0 : LI E xa ma a (rst a o 12) w (w.1, fun q => if q = σ.2 then (17, o, 0) else w.2 q) σ σ1 o σ.2 len [] := ⟨g1, hS0, rst_b hbd, hWo0, fun _ _ _ _ => rfl, if_pos rfl, by omega, ⟨_, d1, fun i hi' => by simp at hi'⟩, fun u hu => by rw [rstO_s a o hu]; simp, ⟨by omega, fun q hq' => x1'.2 q (h.outlt hq')⟩⟩
  have hdh : hdO a (och a (a.2.1 2 t)) first := by
    obtain ⟨ts, t1, t2, t3⟩ := hw.oc' (o := a.2.1 2 t) (fun x hx => by have := (hw.ou ht hx).1; omega)
    have e : och a (a.2.1 2 t) = ts := chl_eq t1 t2
    rw [e]
    intro r hr
    cases hb : bd a t with
    | false => rw [hf2 hb] at hr; cases hr
    | true =>
      obtain ⟨q, q1, q2, q3⟩ := hf1 hb
      rw [q1] at hr; cases hr
      obtain ⟨v, v1, v2⟩ := hw.o1 ht (fun e => by simp [bd, e] at hb)
      rw [v2] at t1
      obtain ⟨l', e', -⟩ := isCh_s t1
      rw [show wo a t = v by simp [wo, v2]] at q3
      exact ⟨q2, v, l', e', q3⟩
  have ebr : bd (rst a o 12) t = bd a t := rfl
  have hab0 : ∀ r, first = some r → bd (rst a o 12) t = true ∧ r < o ∧ ∀ v, (rst a o 12).2.1 2 t = some v → isO (rst a o 12) r v = true := by
    intro r hr
    cases hb : bd a t with
    | false => rw [hf2 hb] at hr; cases hr
    | true =>
      obtain ⟨q, q1, q2, q3⟩ := hf1 hb
      rw [q1] at hr; cases hr
      refine ⟨hb, by omega, fun v hv => ?_⟩
      have hv' : a.2.1 2 t = some v := hv
      have := (hw.ou ht hv').1
      rw [rstO_n a (by omega) (by omega)]
      rw [show wo a t = v by simp [wo, hv']] at q3
      exact q3
  obtain ⟨w2, σ2, e2, LI1⟩ := LI0.add hw ho h520 ht (by simp) (by simp; omega) (by omega) (ab := first) hab0 (some (w.1 5 t 0)) (mp w.1 16 first) (fX7_levelsFor_L13 E (some (w.1 5 t 0)) (mp w.1 16 first) 13)
  simp only [List.length_nil, Nat.zero_add, List.nil_append] at e2 LI1
  obtain ⟨w3, σ3, e3, g3, hS3, hb3, hWo3, hfr3, hsm3, hLI3⟩ := LI.loop (E := E) (xa := xa) (ma := ma) (w0 := w) (σ0 := σ) hi ho ht hdh p1 (by omega) p3 pl' [t] (lvA (rst a o 12) o t first) w2 σ2 (a.2.1 6 t) 13 (by rw [hlg]; exact LI1) rfl p4 (by have : (t :: pl').length = pl'.length + 1 := rfl; omega) (by simp)
  -- what levelsFor answers
  have eF : fX7_levelsFor E (some (w.1 5 t 0)) (mp w.1 16 first) σ = some (if (mkL o first t pl' (lvA (rst a o 12) o t first)).1 then some σ.2 else none, σ3) := by
    have t5 : gI σ1 (w.1 5 t 0) 8 5 = some (b2 (bd a t)) := g1.t5 (t := t) ht
    simp only [fX7_levelsFor, hC, cb_some, eA]
    show fX7_levelsFor_B13 E (some (w.1 5 t 0)) (mp w.1 16 first) (fX7_levelsFor_L13 E (some (w.1 5 t 0)) (mp w.1 16 first) 13) σ.2 (some (w.1 5 t 0)) (0 : Int32) σ1 = _
    have e0 : (nI len ≤ (0 : Int32)) = (len ≤ 0) := n_le (y := 0) (by omega) (by decide)
    simp only [fX7_levelsFor_B13, aN_of d1, ob_some, e0, if_neg (show ¬ len ≤ 0 by omega), oc_some, t5, b2_0, if_true, fX7_levelsFor_J52]
    rw [show nI 0 = (0 : Int32) from rfl] at e2
    rw [show [t].length = 1 from rfl] at e3
    cases hb : bd a t with
    | false =>
      have hfn := hf2 hb
      subst hfn
      rw [mp_n] at e2 e3 ⊢
      simp only [if_true]
      rw [e2, e3]
    | true =>
      obtain ⟨q, rfl, -⟩ := hf1 hb
      rw [mp_s] at e2 e3 ⊢
      simp only [Bool.true_eq_false, if_false, oc_some]
      rw [e2, e3]
  have emk : mk2 a t p first = if (mkL o first t pl' (lvA (rst a o 12) o t first)).1 then (0, aW_ (mkF (mkL o first t pl' (lvA (rst a o 12) o t first)).2 o t p) 0) else (3, aW_ (mkL o first t pl' (lvA (rst a o 12) o t first)).2 3) := by
    unfold mk2
    rw [epl, ho]
    show (if (mkL o first t pl' (aW_ (lvA (rst a o 12) o t first) 0)).1 then ((0 : Int32), mkF (mkL o first t pl' (aW_ (lvA (rst a o 12) o t first) 0)).2 o t p) else (3, aW_ (mkL o first t pl' (aW_ (lvA (rst a o 12) o t first) 0)).2 3)) = _
    rw [mkL_w]
    rfl
  rw [emk]
  generalize hmk : mkL o first t pl' (lvA (rst a o 12) o t first) = R at *
  have hwhy : R.2.2.2.2 = a.2.2.2 := by
    rw [← hmk]
    have hh : ∀ (l : List Nat) (cx : aS), (mkL o first t l cx).2.2.2.2 = cx.2.2.2 := by
      intro l
      induction l with
      | nil => intro cx; rfl
      | cons u l ih =>
        intro cx
        unfold mkL
        split
        · rfl
        · rw [ih]; rfl
    rw [hh]
    rfl
  have eW : ∀ v, aW_ (aW_ R.2 v) a.2.2.2 = R.2 := fun v => by
    rw [← hwhy]
    rfl
  cases hR : R.1 with
  | false =>
    rw [hR] at eF
    simp only [Bool.false_eq_true, if_false] at eF ⊢
    refine ⟨w3, σ3, ?_, ?_, hfr3⟩
    · simp only [fX7_makeInto_J71, eF, cb_some, oc_none]
    · rw [eW, show (aW_ R.2 3).1 16 0 = o by show R.2.1 16 0 = o; rw [hS3.1]; exact ho]
      exact g3.shrink (Nat.le_succ o)
  | true =>
    rw [hR] at eF
    simp only [if_true] at eF ⊢
    obtain ⟨w4, σ4, e4, g4, f4⟩ := LI.thing (p := p) hi ho ht hp p1 (by omega) p3 (hLI3 hR)
    refine ⟨w4, σ4, ?_, ?_, f4⟩
    · simp only [fX7_makeInto_J71, eF, cb_some, oc_some]
      exact e4
    · have e1 : (aW_ (mkF R.2 o t p) 0).1 16 0 = o + 1 := by simp [mkF, aP_, aN_, aW_, up2]
      have e2 : aW_ (aW_ (mkF R.2 o t p) 0) a.2.2.2 = mkF R.2 o t p := by rw [← hwhy]; rfl
      rw [e1, e2]
      exact g4
theorem mkL_y (o : Nat) (first : Option Nat) (t : Nat) : ∀ (l : List Nat) (cx : aS), (mkL o first t l cx).2.2.2.2 = cx.2.2.2 := by
  intro l
  induction l with
  | nil => intro cx; rfl
  | cons u l ih =>
    intro cx
    unfold mkL
    split
    · rfl
    · rw [ih]; rfl
theorem mk2_y (a : aS) (t p : Nat) (first : Option Nat) (v : Int32) : aW_ (aW_ (mk2 a t p first).2 v) (mk2 a t p first).1 = (mk2 a t p first).2 := by
  have h : (mk2 a t p first).2.2.2.2 = (mk2 a t p first).1 := by
    unfold mk2
    split
    · show (mkL (a.1 16 0) first t (pch a t).tail (lvA (rst (aW_ a 0) (a.1 16 0) 12) (a.1 16 0) t first)).2.2.2.2 = 0
      rw [mkL_y]
      rfl
    · rfl
  rw [← h]
  rfl
theorem cd_make (hi : Iv a) (h : RC E xa ma (a.1 16 0) a w σ) (x y z : Int32) : CC E xa ma (sp_make a x y z).2 (sp_make a x y z).1 σ (fX7_make E xa x y z σ) := by
  obtain ⟨hbd, hw, hc, hO, hq, hzz⟩ := id hi
  have hn := hw.n12
  have fin : ∀ {a' : aS} {r : Int32} {w1 : cG} {σ1 : hmS}, fX7_makeInto E xa x y z σ = some (r, σ1) → RC E xa ma (a'.1 16 0) a' w1 σ1 → Fr E ma σ σ1 → CC E xa ma (aW_ a' r) r σ (fX7_make E xa x y z σ) := by
    intro a' r w1 σ1 e1 g1 f1
    obtain ⟨σ2, e2, g2, f2⟩ := g1.w_out r
    refine ⟨w1, σ2, ?_, g2, f1.trans f2⟩
    have e7 : gI σ2 xa 9 7 = some r := g2.m7
    simp only [fX7_make, h.mC, ob_some, e1, cb_some, e2, e7]
  unfold sp_make
  cases hx : ix x (a.1 0 0) with
  | none => exact fin (by simp [fX7_makeInto, h.mC, ob_some, h.typeAt hn, cb_some, hx, mp_n, oc_none]) h (Fr.refl _ _ _)
  | some t =>
    obtain ⟨ht, rfl⟩ := ix_s hx (by omega)
    cases hz : ix z 8 with
    | none => exact fin (by simp [fX7_makeInto, h.mC, ob_some, h.typeAt hn, cb_some, hx, mp_s, oc_some, cm_isPlace, hz, b2]) h (Fr.refl _ _ _)
    | some p =>
      obtain ⟨hp, rfl⟩ := ix_s hz (by decide)
      dsimp only
      have eM : fX7_makeInto E xa (nI t) y (nI p) σ = if bd a t = false then fX7_makeInto_J71 E xa (nI t) y (nI p) (w.1 5 t 0) none σ else cb (fX7_isPlace y σ) fun r15 σ14 => if r15 = 0 then
          some ((-1 : Int32), σ14)
        else
          ob (gR σ14 xa 9 2) fun f17 => ob f17 fun a19 => ob (aR σ14 a19 y) fun e20 => oc e20
            (some ((1 : Int32), σ14))
            (fun a22 => ob (gR σ14 (w.1 5 t 0) 8 2) fun f23 => ob (obC σ14 a22 7) fun _ => cb (fX5_levelOf a22 f23 σ14) fun r28 σ27 => oc r28
              (some ((2 : Int32), σ27))
              (fun a29 => fX7_makeInto_J71 E xa (nI t) y (nI p) (w.1 5 t 0) (some a22) σ27)) := by
        simp only [fX7_makeInto, h.mC, ob_some, h.typeAt hn, cb_some, hx, mp_s, oc_some, cm_isPlace, hz, b2_0, Option.isSome_some, Bool.true_eq_false, if_false, h.t5 ht, reduceCtorEq]
      cases hb : bd a t with
      | false =>
        obtain ⟨w1, σ1, e1, g1, f1⟩ := cd_mk2 hi h ht hp (nI t) y (first := none) (fun q => by rw [hb] at q; cases q) (fun _ => rfl)
        rw [mp_n] at e1
        simp only [Bool.false_eq_true, if_false]
        have := fin (a' := aW_ (mk2 a t p none).2 a.2.2.2) (by rw [eM, if_pos hb]; exact e1) g1 f1
        rw [mk2_y] at this
        exact this
      | true =>
        simp only [if_true]
        rw [hb] at eM
        simp only [Bool.true_eq_false, if_false] at eM
        cases hy : ix y 8 with
        | none => exact fin (by rw [eM]; simp [cm_isPlace, cb_some, hy, b2]) h (Fr.refl _ _ _)
        | some f =>
          obtain ⟨hf, rfl⟩ := ix_s hy (by decide)
          obtain ⟨v, v1, v2⟩ := hw.o1 ht (fun e => by simp [bd, e] at hb)
          have hv : v < a.1 0 0 := by omega
          have ev : wo a t = v := by simp [wo, v2]
          dsimp only
          cases ho : a.2.1 22 f with
          | none => exact fin (by rw [eM]; simp [cm_isPlace, cb_some, hy, b2, h.m2, ob_some, h.plA hf, ho, mp_n, oc_none]) h (Fr.refl _ _ _)
          | some q =>
            have hq' := hq.2.2.1 f hf q ho
            dsimp only
            rw [ev]
            cases hI : isO a q v with
            | false =>
              simp only [Bool.false_eq_true, if_false]
              exact fin (by rw [eM]; simp [cm_isPlace, cb_some, hy, b2, h.m2, ob_some, h.plA hf, ho, mp_s, oc_some, h.t2 ht, v2, h.oC hq', h.levelOf hw hO (Nat.le_refl _) hq' hv, hI, oc_none]) h (Fr.refl _ _ _)
            | true =>
              simp only [if_true]
              obtain ⟨w1, σ1, e1, g1, f1⟩ := cd_mk2 hi h ht hp (nI t) (nI f) (first := some q) (fun _ => ⟨q, rfl, hq', by rw [ev]; exact hI⟩) (fun z => by rw [hb] at z; cases z)
              rw [mp_s] at e1
              have := fin (a' := aW_ (mk2 a t p (some q)).2 a.2.2.2) (by
                rw [eM]
                simp only [cm_isPlace, cb_some, hy, b2_0, Option.isSome_some, Bool.true_eq_false, if_false, h.m2, ob_some, h.plA hf, ho, mp_s, oc_some, h.t2 ht, v2, h.oC hq', h.levelOf hw hO (Nat.le_refl _) hq' hv, hI, if_true]
                exact e1) g1 f1
              rw [mk2_y] at this
              exact this
end DA
