/-! What holds goes on to hold: type, make. -/
section IW
variable {a : aS}
theorem ty_arg {x y z : Int32} (hn : a.1 0 0 ≤ 12) {q : Nat × Option Nat × Option Nat} (h : tyArg a x y z = some q) : q.1 < 6 ∧ (∀ r, q.2.1 = some r → r < a.1 0 0) ∧ (∀ c, q.2.2 = some c → c < 26) ∧ (q.1 = 0 ↔ q.2.1 = none) ∧ (q.1 = 5 ↔ q.2.2 = none) := by
  unfold tyArg at h
  cases hx : ix x 6 with
  | none => rw [hx] at h; cases h
  | some k =>
    have hk := (ix_s hx (by decide)).1
    rw [hx] at h
    dsimp only at h
    by_cases k5 : k = 5
    · rw [if_pos k5] at h
      cases hy : ix y (a.1 0 0) with
      | none => rw [hy] at h; cases h
      | some v =>
        have hv := (ix_s hy (by omega)).1
        rw [hy] at h
        cases h
        exact ⟨(show (5 : Nat) < 6 by decide), fun r hr => by cases hr; exact hv, fun c hc => (by cases hc), ⟨fun q => absurd q (show ¬ (5 : Nat) = 0 by decide), fun q => by cases q⟩, ⟨fun _ => rfl, fun _ => rfl⟩⟩
    · rw [if_neg k5] at h
      cases hz : ix z 26 with
      | none => rw [hz] at h; cases h
      | some c =>
        have hc := (ix_s hz (by decide)).1
        rw [hz] at h
        dsimp only at h
        by_cases k0 : k = 0
        · rw [if_pos k0] at h
          cases h
          exact ⟨(show (0 : Nat) < 6 by decide), fun r hr => (by cases hr), fun c' hc' => by cases hc'; exact hc, ⟨fun _ => rfl, fun _ => rfl⟩, ⟨fun q => absurd q (show ¬ (0 : Nat) = 5 by decide), fun q => by cases q⟩⟩
        · rw [if_neg k0] at h
          cases hy : ix y (a.1 0 0) with
          | none => rw [hy] at h; cases h
          | some v =>
            have hv := (ix_s hy (by omega)).1
            rw [hy] at h
            cases h
            exact ⟨hk, fun r hr => by cases hr; exact hv, fun c' hc' => by cases hc'; exact hc, ⟨fun q => absurd q k0, fun q => by cases q⟩, ⟨fun q => absurd q k5, fun q => by cases q⟩⟩
theorem iv_newT (hi : Iv a) (hn : a.1 0 0 < 12) {kk : Nat} (hk : kk < 6) {ow oc : Option Nat} (how : ∀ q, ow = some q → q < a.1 0 0) (hoc : ∀ c, oc = some c → c < 26) (hk0 : kk = 0 ↔ ow = none) (hk5 : kk = 5 ↔ oc = none) {num : Nat} (hnum : 1 ≤ num ∧ num ≤ 12) : Iv (newT a kk ow oc num (ahd a kk ow)) := by
  obtain ⟨hbd, hw, hc, hO, hq, hz⟩ := id hi
  obtain ⟨ah, hah⟩ : ∃ ah, ah = ahd a kk ow := ⟨_, rfl⟩
  have ah3 : kk < 3 → ah = 0 := fun h => by rw [hah]; unfold ahd; rw [if_neg (by omega)]
  have ah1 : ∀ o, 3 ≤ kk → ow = some o → ah = a.1 12 o := fun o h ho => by rw [hah, ho]; unfold ahd; rw [if_pos h]
  have ah4 : ah ≤ 4 := by
    cases ow with
    | none => have : kk = 0 := hk0.mpr rfl; rw [ah3 (by omega)]; omega
    | some o =>
      by_cases h3 : 3 ≤ kk
      · rw [ah1 o h3 rfl]; exact hw.nl (how o rfl)
      · rw [ah3 (by omega)]; omega
  rw [← hah]
  clear hah
  obtain ⟨a', ha'⟩ : ∃ a', a' = newT a kk ow oc num ah := ⟨_, rfl⟩
  have e0 : a'.1 0 0 = a.1 0 0 + 1 := by rw [ha']; exact nt0
  have eo : ∀ j x, j ≠ 0 → j ≠ 1 → j ≠ 4 → j ≠ 5 → a'.1 j x = a.1 j x := fun j x j0 j1 j4 j5 => by rw [ha']; exact nt_o j0 j1 j4 j5
  have ep : ∀ j x, j ≠ 2 → j ≠ 3 → j ≠ 6 → a'.2.1 j x = a.2.1 j x := fun j x j0 j1 j4 => by rw [ha']; exact nt_p j0 j1 j4
  have el : a'.2.2 = a.2.2 := by rw [ha']; rfl
  have e1 : ∀ x, a'.1 1 x = if x = a.1 0 0 then kk else a.1 1 x := fun x => by rw [ha', nt1]
  have e2 : ∀ x, a'.2.1 2 x = if x = a.1 0 0 then ow else a.2.1 2 x := fun x => by rw [ha', nt2]
  have e3 : ∀ x, a'.2.1 3 x = if x = a.1 0 0 then oc else a.2.1 3 x := fun x => by rw [ha', nt3]
  have e4 : ∀ x, a'.1 4 x = if x = a.1 0 0 then num else a.1 4 x := fun x => by rw [ha', nt4]
  have e5 : ∀ x, a'.1 5 x = if x = a.1 0 0 then ah else a.1 5 x := fun x => by rw [ha', nt5]
  have e6 : ∀ x, a'.2.1 6 x = if x = a.1 0 0 then none else a.2.1 6 x := fun x => by rw [ha', nt6]
  have eO : ∀ o u, isO a' o u = isO a o u := fun o u => by unfold isO; rw [ep 18 _ (by decide) (by decide) (by decide)]
  have ebd : ∀ u, u ≠ a.1 0 0 → bd a' u = bd a u := fun u hu => by
    unfold bd
    rw [e1, e2, if_neg hu, if_neg hu]
    cases a.2.1 2 u with
    | none => rfl
    | some v => dsimp only; rw [eo 11 v (by decide) (by decide) (by decide) (by decide)]
  have hB : Wb a' := by
    rw [ha']
    refine wb_N (wb_P (wb_N (wb_N (wb_P (wb_P (wb_N hbd _ _ (by omega)) _ _ (fun q hq' => by have := how q hq'; omega)) _ _ (fun q hq' => by have := hoc q hq'; omega)) _ _ (by omega)) _ _ (by omega)) _ _ (fun q hq' => by cases hq')) _ _ (by omega)
  rw [← ha']
  clear ha'
  refine ⟨hB, ⟨by omega, fun j => ?_, fun t ht => ?_⟩, fun t ht => ?_, fun o ho u hu hio => ?_, ⟨?_, fun o ho => ?_, fun p hp o ho => ?_, ?_, fun j hj => ?_⟩, fun t ht => ?_, fun j hj => ?_⟩
  · rw [eo 10 j (by decide) (by decide) (by decide) (by decide), eo 11 j (by decide) (by decide) (by decide) (by decide), eo 15 j (by decide) (by decide) (by decide) (by decide)]
    exact hw.2.1 j
  · rw [e0] at ht
    rw [e0, e1, e2, e3, e4, e5, e6, eo 7 t (by decide) (by decide) (by decide) (by decide), eo 12 t (by decide) (by decide) (by decide) (by decide)]
    by_cases e : t = a.1 0 0
    · simp only [if_pos e]
      have z := hz.1 t (by omega)
      refine ⟨by omega, fun h => hk0.mp h, fun h => ?_, fun h => hk5.mp h, fun h => ?_, by rw [z.1]; omega, by rw [z.2.2]; omega, ah3, fun o h3 ho => ?_, fun p hp => (by cases hp), hnum⟩
      · cases ow with
        | none => exact absurd (hk0.mpr rfl) h
        | some o => exact ⟨o, by have := how o rfl; omega, rfl⟩
      · cases oc with
        | none => exact absurd (hk5.mpr rfl) h
        | some c => exact ⟨c, hoc c rfl, rfl⟩
      · rw [eo 12 o (by decide) (by decide) (by decide) (by decide), ah1 o h3 ho]
        exact Nat.le_refl _
    · simp only [if_neg e]
      have z := hw.2.2 t (by omega)
      refine ⟨z.1, z.2.1, z.2.2.1, z.2.2.2.1, z.2.2.2.2.1, z.2.2.2.2.2.1, z.2.2.2.2.2.2.1, z.2.2.2.2.2.2.2.1, fun o h3 ho => ?_, fun p hp => ?_, z.2.2.2.2.2.2.2.2.2.2⟩
      · rw [eo 12 o (by decide) (by decide) (by decide) (by decide)]
        exact z.2.2.2.2.2.2.2.2.1 o h3 ho
      · have := z.2.2.2.2.2.2.2.2.2.1 p hp
        omega
  · rw [e0] at ht
    by_cases e : t = a.1 0 0
    · exact ⟨[t], rfl, by rw [e6, if_pos e]; trivial⟩
    · obtain ⟨l, l1, l2, l3⟩ := hc.ch hw (o := some t) (fun x hx => by cases hx; omega)
      exact ⟨l, isCh_cg (fun x hx => by rw [e6, if_neg (by have := l3 x hx; omega)]) l1⟩
  · rw [eo 16 0 (by decide) (by decide) (by decide) (by decide)] at ho
    rw [eO] at hio
    have z := hO o ho u hu hio
    refine ⟨by omega, fun q hq' => ?_, fun o' ho' => ?_⟩
    · rw [ep 18 _ (by decide) (by decide) (by decide)] at hq'
      rw [eo 7 u (by decide) (by decide) (by decide) (by decide)]
      exact z.2.1 q hq'
    · rw [ep 19 _ (by decide) (by decide) (by decide)] at ho'
      have z' := z.2.2 o' ho'
      rw [ebd u (by omega), eo 16 0 (by decide) (by decide) (by decide) (by decide)]
      refine ⟨z'.1, z'.2.1, fun v hv => ?_⟩
      rw [e2, if_neg (by omega)] at hv
      rw [eO]
      exact z'.2.2 v hv
  · rw [eo 16 0 (by decide) (by decide) (by decide) (by decide)]
    exact hq.1
  · rw [eo 16 0 (by decide) (by decide) (by decide) (by decide)] at ho
    have z := hq.2.1 o ho
    rw [eO, eo 17 o (by decide) (by decide) (by decide) (by decide)]
    exact ⟨by omega, z.2⟩
  · rw [ep 22 _ (by decide) (by decide) (by decide)] at ho
    rw [eo 16 0 (by decide) (by decide) (by decide) (by decide)]
    exact hq.2.2.1 p hp o ho
  · rw [eo 23 0 (by decide) (by decide) (by decide) (by decide)]
    exact hq.2.2.2.1
  · rw [eo 23 0 (by decide) (by decide) (by decide) (by decide)] at hj
    have z := hq.2.2.2.2 j hj
    rw [eo 24 j (by decide) (by decide) (by decide) (by decide), eo 26 j (by decide) (by decide) (by decide) (by decide), eo 12 _ (by decide) (by decide) (by decide) (by decide)]
    refine ⟨by omega, z.2.1, fun o ho => ?_⟩
    rw [ep 25 _ (by decide) (by decide) (by decide)] at ho
    rw [eo 16 0 (by decide) (by decide) (by decide) (by decide), eO]
    exact z.2.2 o ho
  · rw [eo 7 t (by decide) (by decide) (by decide) (by decide), eo 11 t (by decide) (by decide) (by decide) (by decide), eo 12 t (by decide) (by decide) (by decide) (by decide)]
    exact hz.1 t (by omega)
  · rw [eo 8 j (by decide) (by decide) (by decide) (by decide), eo 10 j (by decide) (by decide) (by decide) (by decide), eo 13 j (by decide) (by decide) (by decide) (by decide), eo 15 j (by decide) (by decide) (by decide) (by decide), el]
    exact hz.2 j (by omega)
theorem iv_type (hi : Iv a) (x y z : Int32) : Go a (sp_type a x y z).2 := by
  have hn := hi.2.1.n12
  unfold sp_type
  cases hA : tyArg a x y z with
  | none => exact Go.here hi
  | some q =>
    obtain ⟨q1, q2, q3, q4, q5⟩ := ty_arg hn hA
    dsimp only
    split
    · exact Go.here hi
    · split
      · exact Go.here hi
      · have hcn := cnt_le (twP a q.1 q.2.1 q.2.2) (a.1 0 0) 0
        refine ⟨iv_newT hi (by omega) q1 q2 q3 q4 q5 ⟨by omega, by omega⟩, ?_⟩
        show (newT a q.1 q.2.1 q.2.2 _ _).1 16 0 ≤ _
        rw [nt_o (by decide) (by decide) (by decide) (by decide)]
        exact Nat.le_succ _
theorem iv_smk (hi : Iv a) {c : aS} (hS : Smk a c (a.1 16 0)) (hb : Wb c) : Iv c := by
  obtain ⟨hbd, hw, hc, hO, hq, hz⟩ := id hi
  have hn := hw.n12
  have hO' := hS.hWo hn hw rfl hO
  refine ⟨hb, hS.hWt hw, hS.hWc hc, by rw [hS.1]; exact hO', ⟨by rw [hS.1]; exact hq.1, fun o ho => ?_, fun p hp o ho => ?_, by rw [hS.1]; exact hq.2.2.2.1, fun j hj => ?_⟩, fun t ht => ?_, fun j hj => ?_⟩
  · rw [hS.1] at ho
    have z := hq.2.1 o ho
    rw [hS.1, hS.hisO ho (by omega)]
    exact z
  · rw [hS.2.2.1 22 p (by decide) (by decide)] at ho
    rw [hS.1]
    exact hq.2.2.1 p hp o ho
  · rw [hS.1] at hj
    have z := hq.2.2.2.2 j hj
    rw [hS.1, hS.2.2.1 25 j (by decide) (by decide)]
    refine ⟨z.1, z.2.1, fun o ho => ?_⟩
    have z' := z.2.2 o ho
    rw [hS.hisO z'.1 (by omega)]
    exact z'
  · rw [hS.1] at ht ⊢
    exact hz.1 t ht
  · rw [hS.1] at hj ⊢
    rw [hS.2.2.2.2 9 j (by decide) (by decide), hS.2.2.2.2 14 j (by decide) (by decide)]
    exact hz.2 j hj
theorem mkL_inv (hi : Iv a) {t : Nat} (ht : t < a.1 0 0) {first : Option Nat} (hd : hdO a (och a (a.2.1 2 t)) first) : ∀ (l : List Nat) (c : aS), (∀ x ∈ l, x < a.1 0 0) → Smk a c (a.1 16 0) → Wb c → Wo c (a.1 16 0 + 1) → isO c (a.1 16 0) t = true → Smk a (mkL (a.1 16 0) first t l c).2 (a.1 16 0) ∧ Wb (mkL (a.1 16 0) first t l c).2 ∧ Wo (mkL (a.1 16 0) first t l c).2 (a.1 16 0 + 1) ∧ isO (mkL (a.1 16 0) first t l c).2 (a.1 16 0) t = true := by
  obtain ⟨hbd, hw, hc, hO, hq, hz⟩ := id hi
  have hn := hw.n12
  intro l
  induction l with
  | nil => intro c _ h1 h2 h3 h4; exact ⟨h1, h2, h3, h4⟩
  | cons u l ih =>
    intro c hl hS hb hWo hio
    have hu := hl u List.mem_cons_self
    have hwc := hS.hWt hw
    have h16 : c.1 16 0 = a.1 16 0 := by rw [hS.1]
    unfold mkL
    split
    · exact ⟨hS, hb, hWo, hio⟩
    · have hab : ∀ r, abt c first t u = some r → bd c u = true ∧ r < a.1 16 0 ∧ ∀ v, c.2.1 2 u = some v → isO c r v = true := fun r hr => by
        have hlt := abt_lt hw hO hS ht hd hr
        unfold abt at hr
        split at hr
        · rename_i hbu
          refine ⟨hbu, hlt, fun v hv => ?_⟩
          have := fou_s hr
          rw [show wo c u = v by simp [wo, hv]] at this
          exact this
        · cases hr
      have h5 : c.1 5 u ≤ 4 := by rw [hS.1]; exact hw.a4 hu
      have h7 : c.1 7 u ≤ 4 := by rw [hS.1]; exact hw.nf hu
      refine ih _ (fun x hx => hl x (List.mem_cons_of_mem _ hx)) (hS.trans (Smk.hlvA c (a.1 16 0) (by omega) h7 h5 _)) (lvA_b hb (fun q hq' => by have := (hab q hq').2.1; have := hq.1; omega)) (Wo_lv hwc h16 hWo (by rw [hS.1]; exact hu) hab) ?_
      by_cases e : t = u
      · subst e; exact lvO_s _ _ _ _
      · rw [lvO_n _ (by omega) (by omega) (fun q => e q.2)]
        exact hio
theorem iv_mk2 (hi : Iv a) (h519 : a.1 16 0 < 519) {t p : Nat} (ht : t < a.1 0 0) (hp : p < 8) {first : Option Nat} (hf1 : bd a t = true → ∃ q, first = some q ∧ q < a.1 16 0 ∧ isO a q (wo a t) = true) (hf2 : bd a t = false → first = none) : Go a (mk2 a t p first).2 := by
  obtain ⟨hbd, hw, hc, hO, hq, hz⟩ := id hi
  have hn := hw.n12
  obtain ⟨o, ho⟩ : ∃ o, a.1 16 0 = o := ⟨_, rfl⟩
  have hdh : hdO a (och a (a.2.1 2 t)) first := by
    obtain ⟨ts, t1, t2, t3⟩ := hw.oc' (o := a.2.1 2 t) (fun x hx => by have := (hw.ou ht hx).1; omega)
    have e : och a (a.2.1 2 t) = ts := chl_eq t1 t2
    rw [e]
    intro r hr
    cases hb : bd a t with
    | false => rw [hf2 hb] at hr; cases hr
    | true =>
      obtain ⟨q, q1, q2, q3⟩ := hf1 hb
      rw [q1] at hr; cases hr
      obtain ⟨v, v1, v2⟩ := hw.o1 ht (fun e => by simp [bd, e] at hb)
      rw [v2] at t1
      obtain ⟨l', e', -⟩ := isCh_s t1
      rw [show wo a t = v by simp [wo, v2]] at q3
      exact ⟨q2, v, l', e', q3⟩
  have hab0 : ∀ r, first = some r → bd (rst (aW_ a 0) o 12) t = true ∧ r < o ∧ ∀ v, (rst (aW_ a 0) o 12).2.1 2 t = some v → isO (rst (aW_ a 0) o 12) r v = true := by
    intro r hr
    cases hb : bd a t with
    | false => rw [hf2 hb] at hr; cases hr
    | true =>
      obtain ⟨q, q1, q2, q3⟩ := hf1 hb
      rw [q1] at hr; cases hr
      refine ⟨hb, by omega, fun v hv => ?_⟩
      have hv' : a.2.1 2 t = some v := hv
      have := (hw.ou ht hv').1
      rw [rstO_n (aW_ a 0) (by omega) (by omega)]
      rw [show wo a t = v by simp [wo, hv']] at q3
      exact q3
  have hS0 : Smk a (rst (aW_ a 0) o 12) o := (Smk.w a o 0).trans (Smk.hrst (aW_ a 0) o (Nat.le_refl 12))
  have hWo0 : Wo (rst (aW_ a 0) o 12) (o + 1) := by
    intro x hx y hy hxy
    have hxo : x ≠ o := fun e => by subst e; rw [rstO_s (aW_ a 0) x hy] at hxy; cases hxy
    exact (hS0.hWo hn hw ho (by rw [← ho]; exact hO)) x (by omega) y hy hxy
  have h5 : a.1 5 t ≤ 4 := hw.a4 ht
  have h7 : a.1 7 t ≤ 4 := hw.nf ht
  have hS1 : Smk a (lvA (rst (aW_ a 0) o 12) o t first) o := hS0.trans (Smk.hlvA (rst (aW_ a 0) o 12) o (by omega) h7 h5 first)
  have hb1 : Wb (lvA (rst (aW_ a 0) o 12) o t first) := lvA_b (rst_b hbd) (fun q hq' => by have := (hab0 q hq').2.1; omega)
  have hWo1 : Wo (lvA (rst (aW_ a 0) o 12) o t first) (o + 1) := Wo_lv (hS0.hWt hw) (by rw [hS0.1]; exact ho) hWo0 (by rw [hS0.1]; exact ht) hab0
  have hpt : ∀ x ∈ (pch a t).tail, x < a.1 0 0 := fun x hx => by
    obtain ⟨pl, p1, p2, p3⟩ := hc.ch hw (o := some t) (fun x hx => by cases hx; exact ht)
    have ep : pch a t = pl := chl_eq p1 p2
    rw [ep] at hx
    exact p3 x (List.mem_of_mem_tail hx)
  subst ho
  obtain ⟨m1, m2, m3, m4⟩ := mkL_inv hi ht hdh (pch a t).tail _ hpt hS1 hb1 hWo1 (lvO_s _ _ _ _)
  unfold mk2
  obtain ⟨r, hr⟩ : ∃ r, r = mkL (a.1 16 0) first t (pch a t).tail (lvA (rst (aW_ a 0) (a.1 16 0) 12) (a.1 16 0) t first) := ⟨_, rfl⟩
  rw [← hr] at m1 m2 m3 m4 ⊢
  clear hr
  have hI := iv_smk hi m1 m2
  have h16 : r.2.1 16 0 = a.1 16 0 := by rw [m1.1]
  split
  · obtain ⟨b1, b2', b3, b4, b5, b6⟩ := hI
    have e17 : ∀ q, (aP_ (aN_ (aN_ r.2 17 (a.1 16 0) t) 16 0 (a.1 16 0 + 1)) 22 p (some (a.1 16 0))).1 17 q = if q = a.1 16 0 then t else r.2.1 17 q := fun q => by simp [aN_, aP_, up2]
    have e16 : (aP_ (aN_ (aN_ r.2 17 (a.1 16 0) t) 16 0 (a.1 16 0 + 1)) 22 p (some (a.1 16 0))).1 16 0 = a.1 16 0 + 1 := by simp [aN_, aP_, up2]
    have e22 : ∀ q, (aP_ (aN_ (aN_ r.2 17 (a.1 16 0) t) 16 0 (a.1 16 0 + 1)) 22 p (some (a.1 16 0))).2.1 22 q = if q = p then some (a.1 16 0) else r.2.2.1 22 q := fun q => by simp [aN_, aP_, up2]
    have hB : Wb (aP_ (aN_ (aN_ r.2 17 (a.1 16 0) t) 16 0 (a.1 16 0 + 1)) 22 p (some (a.1 16 0))) := wb_P (wb_N (wb_N b1 17 (a.1 16 0) (by omega)) 16 0 (by omega)) 22 p (fun q hq' => by cases hq'; omega)
    refine ⟨⟨hB, b2', b3, ?_, ⟨by rw [e16]; omega, fun q hq' => ?_, fun i hi' q hq' => ?_, b5.2.2.2.1, fun j hj => ?_⟩, b6⟩, by rw [e16]; exact Nat.le_refl _⟩
    · rw [e16]
      intro x hx y hy hxy
      have z := m3 x hx y hy hxy
      refine ⟨z.1, z.2.1, fun o' ho' => ?_⟩
      have z' := z.2.2 o' ho'
      rw [h16] at z'
      refine ⟨z'.1, by rw [e16]; omega, z'.2.2⟩
    · rw [e16] at hq'
      rw [e17]
      by_cases e : q = a.1 16 0
      · rw [if_pos e]
        subst e
        exact ⟨by show t < r.2.1 0 0; rw [m1.1]; exact ht, m4⟩
      · rw [if_neg e]
        exact b5.2.1 q (by omega)
    · rw [e22] at hq'
      rw [e16]
      split at hq'
      · cases hq'; exact Nat.lt_succ_self _
      · have := b5.2.2.1 i hi' q hq'
        omega
    · have z := b5.2.2.2.2 j hj
      refine ⟨z.1, z.2.1, fun q hq' => ?_⟩
      have z' := z.2.2 q hq'
      rw [e16]
      exact ⟨by omega, z'.2⟩
  · exact ⟨iv_W hI 3, by show r.2.1 16 0 ≤ _; omega⟩
theorem iv_make (hi : Iv a) (h519 : a.1 16 0 < 519) (x y z : Int32) : Go a (sp_make a x y z).2 := by
  obtain ⟨hbd, hw, hc, hO, hq, hz⟩ := id hi
  have hn := hw.n12
  unfold sp_make
  cases hx : ix x (a.1 0 0) with
  | none => exact Go.w hi _
  | some t =>
    have ht := (ix_s hx (by omega)).1
    cases hz' : ix z 8 with
    | none => exact Go.w hi _
    | some p =>
      have hp := (ix_s hz' (by decide)).1
      dsimp only
      cases hb : bd a t with
      | false =>
        rw [if_neg (by decide)]
        exact iv_mk2 hi h519 ht hp (fun q => by rw [hb] at q; cases q) (fun _ => rfl)
      | true =>
        rw [if_pos rfl]
        cases hy : ix y 8 with
        | none => exact Go.w hi _
        | some f =>
          have hf := (ix_s hy (by decide)).1
          dsimp only
          cases ho : a.2.1 22 f with
          | none => exact Go.w hi _
          | some q =>
            have hq' := hq.2.2.1 f hf q ho
            dsimp only
            split
            · rename_i hI
              exact iv_mk2 hi h519 ht hp (fun _ => ⟨q, rfl, hq', hI⟩) (fun z => by rw [hb] at z; cases z)
            · exact Go.w hi _
end IW
