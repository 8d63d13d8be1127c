/-! The class: type. -/
theorem isCh_cg {f g : Nat → Option Nat} : ∀ {l : List Nat} {o : Option Nat}, (∀ t ∈ l, f t = g t) → isCh f o l → isCh g o l := by
  intro l
  induction l with
  | nil =>
    intro o _ h
    cases o with
    | none => trivial
    | some t => exact h.elim
  | cons x l ih =>
    intro o hl h
    cases o with
    | none => exact h.elim
    | some t =>
      obtain ⟨rfl, h2⟩ := h
      refine ⟨rfl, ?_⟩
      rw [← hl x List.mem_cons_self]
      exact ih (fun t ht => hl t (List.mem_cons_of_mem _ ht)) h2
section NT
variable {a : aS} {kk : Nat} {ow oc : Option Nat} {num ah : Nat}
theorem nt0 : (newT a kk ow oc num ah).1 0 0 = a.1 0 0 + 1 := by simp [newT, aN_, aP_, up2]
theorem nt1 (x : Nat) : (newT a kk ow oc num ah).1 1 x = if x = a.1 0 0 then kk else a.1 1 x := by simp [newT, aN_, aP_, up2]
theorem nt2 (x : Nat) : (newT a kk ow oc num ah).2.1 2 x = if x = a.1 0 0 then ow else a.2.1 2 x := by simp [newT, aN_, aP_, up2]
theorem nt3 (x : Nat) : (newT a kk ow oc num ah).2.1 3 x = if x = a.1 0 0 then oc else a.2.1 3 x := by simp [newT, aN_, aP_, up2]
theorem nt4 (x : Nat) : (newT a kk ow oc num ah).1 4 x = if x = a.1 0 0 then num else a.1 4 x := by simp [newT, aN_, aP_, up2]
theorem nt5 (x : Nat) : (newT a kk ow oc num ah).1 5 x = if x = a.1 0 0 then ah else a.1 5 x := by simp [newT, aN_, aP_, up2]
theorem nt6 (x : Nat) : (newT a kk ow oc num ah).2.1 6 x = if x = a.1 0 0 then none else a.2.1 6 x := by simp [newT, aN_, aP_, up2]
theorem nt_o {j x : Nat} (h0 : j ≠ 0) (h1 : j ≠ 1) (h4 : j ≠ 4) (h5 : j ≠ 5) : (newT a kk ow oc num ah).1 j x = a.1 j x := by simp [newT, aN_, aP_, up2, h0, h1, h4, h5]
theorem nt_p {j x : Nat} (h2 : j ≠ 2) (h3 : j ≠ 3) (h6 : j ≠ 6) : (newT a kk ow oc num ah).2.1 j x = a.2.1 j x := by simp [newT, aN_, aP_, up2, h2, h3, h6]
theorem nt_och (hw : Wt a) {o : Option Nat} (ho : ∀ t, o = some t → t < a.1 0 0) : och (newT a kk ow oc num ah) o = och a o := by
  obtain ⟨ts, t1, t2, t3⟩ := hw.oc' ho
  have t1' : isCh ((newT a kk ow oc num ah).2.1 2) o ts := isCh_cg (fun t ht => by rw [nt2, if_neg (by have := t3 t ht; omega)]) t1
  unfold och
  rw [chl_eq t1 t2, chl_eq t1' t2]
theorem nt_seg {x : Nat} (hx : x ≠ a.1 0 0) : seg (newT a kk ow oc num ah) x = seg a x := by
  unfold seg
  rw [nt1, nt3, nt4, if_neg hx, if_neg hx, if_neg hx]
theorem nt_rev : ∀ {l : List Nat}, (∀ x ∈ l, x < a.1 0 0) → revN (newT a kk ow oc num ah) l = revN a l := by
  intro l
  induction l with
  | nil => intro _; rfl
  | cons t l ih =>
    intro hl
    rw [show revN a (t :: l) = seg a t ++ revN a l from List.flatMap_cons, show revN (newT a kk ow oc num ah) (t :: l) = seg (newT a kk ow oc num ah) t ++ revN (newT a kk ow oc num ah) l from List.flatMap_cons, ih (fun x hx => hl x (List.mem_cons_of_mem _ hx)), nt_seg (by have := hl t List.mem_cons_self; omega)]
theorem nt_old (hw : Wt a) {x : Nat} (hx : x < a.1 0 0) : nmT (newT a kk ow oc num ah) x = nmT a x := by
  have ho : ∀ t, some x = some t → t < a.1 0 0 := fun t ht => by cases ht; exact hx
  obtain ⟨ts, t1, t2, t3⟩ := hw.oc' ho
  unfold nmT
  rw [nt_och hw ho]
  unfold och
  rw [chl_eq t1 t2, nt_rev t3]
theorem nt_new (hw : Wt a) (hn : a.1 0 0 < 12) (how : ∀ q, ow = some q → q < a.1 0 0) (hk0 : kk = 0 ↔ ow = none) (hk5 : kk = 5 ↔ oc = none) (hnum : num ≠ 0) : nmT (newT a kk ow oc num ah) (a.1 0 0) = nmN a ow (if 3 ≤ kk then num else 0) oc := by
  obtain ⟨ts, t1, t2, t3⟩ := hw.oc' how
  have t1' : isCh ((newT a kk ow oc num ah).2.1 2) ow ts := isCh_cg (fun t ht => by rw [nt2, if_neg (by have := t3 t ht; omega)]) t1
  have t4 : isCh ((newT a kk ow oc num ah).2.1 2) (some (a.1 0 0)) (a.1 0 0 :: ts) := ⟨rfl, by rw [nt2, if_pos rfl]; exact t1'⟩
  have t5 : ts.length ≤ a.1 0 0 := nd_le _ _ (isCh_nd t1) t3
  have e1 : och (newT a kk ow oc num ah) (some (a.1 0 0)) = a.1 0 0 :: ts := chl_eq t4 (by simp only [List.length_cons]; omega)
  unfold nmT
  rw [e1, show revN (newT a kk ow oc num ah) (a.1 0 0 :: ts) = seg (newT a kk ow oc num ah) (a.1 0 0) ++ revN (newT a kk ow oc num ah) ts from List.flatMap_cons, nt_rev t3, List.reverse_append]
  unfold nmN seg
  rw [nt1, nt3, nt4, if_pos rfl, if_pos rfl, if_pos rfl]
  have e2 : (if kk = 5 then [] else [65 + oc.getD 0]).reverse = (match (generalizing := false) oc with | some c => [65 + c] | none => []) := by
    cases oc with
    | none => rw [if_pos (hk5.mpr rfl)]; rfl
    | some c => rw [if_neg (fun q => by have := hk5.mp q; cases this)]; rfl
  have e3 : (if 3 ≤ kk then dig num else []).reverse = (if (if 3 ≤ kk then num else 0) = 0 then [] else (dig (if 3 ≤ kk then num else 0)).reverse) := by
    by_cases k3 : 3 ≤ kk
    · rw [if_pos k3, if_pos k3, if_neg hnum]
    · rw [if_neg k3, if_neg k3, if_pos rfl]; rfl
  have e4 : (revN a ts).reverse ++ (if kk = 0 then [] else [36]).reverse = (match (generalizing := false) ow with | some v => nmT a v ++ [36] | none => []) := by
    cases ow with
    | none =>
      rw [if_pos (hk0.mpr rfl), isCh_n t1]; rfl
    | some v =>
      rw [if_neg (fun q => by have := hk0.mp q; cases this)]
      show _ = nmT a v ++ [36]
      unfold nmT och
      rw [chl_eq t1 t2]; rfl
  rw [List.reverse_append, List.reverse_append, e2, e3, ← List.append_assoc, e4, ← List.append_assoc]
  rfl
end NT
def tyG (w : cG) (n T s : Nat) : cG := (fun k x y => if 5 ≤ k ∧ k < 16 ∧ x = n then (if k < 14 then T + (k - 5) else s + (k - 14)) else w.1 k x y, fun p => if T ≤ p ∧ p < T + 9 then (5 + (p - T), n, 0) else if p = s then (14, n, 0) else if p = s + 1 then (15, n, 0) else w.2 p)
theorem tyG_o (w : cG) {n T s k x y : Nat} (h : ¬ (5 ≤ k ∧ k < 16 ∧ x = n)) : (tyG w n T s).1 k x y = w.1 k x y := if_neg h
theorem tyG_5 (w : cG) {n T s x : Nat} (h : x ≠ n) : (tyG w n T s).1 5 x 0 = w.1 5 x 0 := tyG_o w (fun q => h q.2.2)
theorem tyG_mp (w : cG) {n T s : Nat} {o : Option Nat} (h : ∀ q, o = some q → q < n) : mp (tyG w n T s).1 5 o = mp w.1 5 o := by
  cases o with
  | none => rfl
  | some q => show some _ = some _; rw [tyG_5 w (by have := h q rfl; omega)]
theorem tyG_t (w : cG) {n T s k : Nat} (h1 : 5 ≤ k) (h2 : k < 14) (y : Nat) : (tyG w n T s).1 k n y = T + (k - 5) := by
  show (if 5 ≤ k ∧ k < 16 ∧ n = n then (if k < 14 then T + (k - 5) else s + (k - 14)) else w.1 k n y) = _
  rw [if_pos ⟨h1, by omega, rfl⟩, if_pos h2]
theorem tyG_s (w : cG) {n T s k : Nat} (h1 : 14 ≤ k) (h2 : k < 16) (y : Nat) : (tyG w n T s).1 k n y = s + (k - 14) := by
  show (if 5 ≤ k ∧ k < 16 ∧ n = n then (if k < 14 then T + (k - 5) else s + (k - 14)) else w.1 k n y) = _
  rw [if_pos ⟨by omega, h2, rfl⟩, if_neg (by omega)]
section DR
variable {E : hmG} {xa ma : Nat} {a : aS} {w : cG} {σ : hmS}
set_option maxHeartbeats 2000000 in
theorem RC.tnew (hi : Iv a) (h : RC E xa ma (a.1 16 0) a w σ) (hn : a.1 0 0 < 12) {kk : Nat} (hk : kk < 6) {ow oc : Option Nat} (how : ∀ q, ow = some q → q < a.1 0 0) (hoc : ∀ c, oc = some c → c < 26) (hk0 : kk = 0 ↔ ow = none) (hk5 : kk = 5 ↔ oc = none) {num : Nat} (hnum : num ≠ 0) {s : Nat} {σ3 : hmS} (x3 : Ext σ σ3) (ht : tyC a w.1 kk ow oc (if 3 ≤ kk then num else 0) σ.2 s σ3) {f : Nat → Option Nat} (q1 : σ3.1 (w.1 1 0 0) = some (.inl (4, 12, .inr (.inr (.inr (.inr f)))))) (q2 : ∀ t, t < a.1 0 0 → f t = some (w.1 5 t 0)) : RC E xa ma (a.1 16 0) (newT a kk ow oc num (ahd a kk ow)) (tyG w (a.1 0 0) σ.2 s) (hmU (hmU σ3 (w.1 1 0 0) (.inl (4, 12, .inr (.inr (.inr (.inr (va_up f (a.1 0 0) (some σ.2)))))))) xa (.inr (9, [.ref (w.1 1 0 0), .int (nI (a.1 0 0 + 1)), .ref (w.1 2 0 0), .int (nI (a.1 16 0)), .ref (w.1 3 0 0), .int (nI (a.1 23 0)), .ref (w.1 4 0 0), .int a.2.2.2]))) := by
  obtain ⟨hbd, hw, hc, hO, hq, hz⟩ := id hi
  obtain ⟨s1, s2, c5, c6, c7, c8, c9, c10, c11, c12, c13, c14, fs, c15, hfs⟩ := ht
  have hv1 : vld (a.1 16 0) a 1 0 0 := vld_0 (by decide)
  have n1 : w.1 1 0 0 < σ.2 := h.lt0 hv1
  have n0 : xa < σ.2 := by have := h.lt0 (vld_0 (k := 0) (by decide)); rw [h.2.1] at this; exact this
  have n10 : w.1 1 0 0 ≠ xa := fun q => by
    rw [← h.2.1] at q
    have := (h.inj hv1 (vld_0 (k := 0) (by decide)) q).1
    omega
  obtain ⟨σ5, hs5⟩ : ∃ σ5, σ5 = hmU (hmU σ3 (w.1 1 0 0) (.inl (4, 12, .inr (.inr (.inr (.inr (va_up f (a.1 0 0) (some σ.2)))))))) xa (.inr (9, [.ref (w.1 1 0 0), .int (nI (a.1 0 0 + 1)), .ref (w.1 2 0 0), .int (nI (a.1 16 0)), .ref (w.1 3 0 0), .int (nI (a.1 23 0)), .ref (w.1 4 0 0), .int a.2.2.2])) := ⟨_, rfl⟩
  have l5 : σ5.2 = σ3.2 := by rw [hs5]; rfl
  have d0 : σ5.1 xa = some (.inr (9, [.ref (w.1 1 0 0), .int (nI (a.1 0 0 + 1)), .ref (w.1 2 0 0), .int (nI (a.1 16 0)), .ref (w.1 3 0 0), .int (nI (a.1 23 0)), .ref (w.1 4 0 0), .int a.2.2.2])) := by rw [hs5]; exact hmU_s _ _ _
  have d1 : σ5.1 (w.1 1 0 0) = some (.inl (4, 12, .inr (.inr (.inr (.inr (va_up f (a.1 0 0) (some σ.2))))))) := by rw [hs5, hmU_n _ _ n10]; exact hmU_s _ _ _
  have hkeep : ∀ q, q ≠ w.1 1 0 0 → q ≠ xa → σ5.1 q = σ3.1 q := fun q q3 q0 => by rw [hs5, hmU_n _ _ q0, hmU_n _ _ q3]
  rw [← hs5]
  clear hs5
  obtain ⟨a', ha'⟩ : ∃ a', a' = newT a kk ow oc num (ahd a kk ow) := ⟨_, rfl⟩
  obtain ⟨g', hg'⟩ : ∃ g', g' = tyG w (a.1 0 0) σ.2 s := ⟨_, rfl⟩
  have hgw2 : ∀ p, p < σ.2 → g'.2 p = w.2 p := fun p hp => by
    rw [hg']
    show (if σ.2 ≤ p ∧ p < σ.2 + 9 then _ else if p = s then _ else if p = s + 1 then _ else w.2 p) = w.2 p
    rw [if_neg (by omega), if_neg (by omega), if_neg (by omega)]
  have hgT : ∀ i, i < 9 → g'.2 (σ.2 + i) = (5 + i, a.1 0 0, 0) := fun i hi => by
    rw [hg']
    show (if σ.2 ≤ σ.2 + i ∧ σ.2 + i < σ.2 + 9 then (5 + (σ.2 + i - σ.2), a.1 0 0, 0) else _) = _
    rw [if_pos ⟨by omega, by omega⟩, show σ.2 + i - σ.2 = i by omega]
  have hgs : g'.2 s = (14, a.1 0 0, 0) := by
    rw [hg']
    show (if σ.2 ≤ s ∧ s < σ.2 + 9 then _ else if s = s then _ else _) = _
    rw [if_neg (by omega), if_pos rfl]
  have hgs1 : g'.2 (s + 1) = (15, a.1 0 0, 0) := by
    rw [hg']
    show (if σ.2 ≤ s + 1 ∧ s + 1 < σ.2 + 9 then _ else if s + 1 = s then _ else if s + 1 = s + 1 then _ else _) = _
    rw [if_neg (by omega), if_neg (by omega), if_pos rfl]
  have go : ∀ k x y, ¬ (5 ≤ k ∧ k < 16 ∧ x = a.1 0 0) → g'.1 k x y = w.1 k x y := fun k x y q => by rw [hg']; exact tyG_o w q
  have gt : ∀ k y, 5 ≤ k → k < 14 → g'.1 k (a.1 0 0) y = σ.2 + (k - 5) := fun k y k1 k2 => by rw [hg']; exact tyG_t w k1 k2 y
  have gs : ∀ k y, 14 ≤ k → k < 16 → g'.1 k (a.1 0 0) y = s + (k - 14) := fun k y k1 k2 => by rw [hg']; exact tyG_s w k1 k2 y
  have g5 : ∀ x, x < a.1 0 0 → g'.1 5 x 0 = w.1 5 x 0 := fun x hx => go 5 x 0 (by omega)
  have gmp : ∀ o : Option Nat, (∀ q, o = some q → q < a.1 0 0) → mp g'.1 5 o = mp w.1 5 o := fun o ho => by rw [hg']; exact tyG_mp w ho
  have gm16 : ∀ o : Option Nat, mp g'.1 16 o = mp w.1 16 o := fun o => by
    cases o with
    | none => rfl
    | some q => show some _ = some _; rw [go 16 q 0 (by omega)]
  rw [← ha', ← hg']
  have e0 : a'.1 0 0 = a.1 0 0 + 1 := by rw [ha']; exact nt0
  have e16 : a'.1 16 0 = a.1 16 0 := by rw [ha']; exact nt_o (by decide) (by decide) (by decide) (by decide)
  have eo : ∀ j x, j ≠ 0 → j ≠ 1 → j ≠ 4 → j ≠ 5 → a'.1 j x = a.1 j x := fun j x j0 j1 j4 j5 => by rw [ha']; exact nt_o j0 j1 j4 j5
  have ep : ∀ j x, j ≠ 2 → j ≠ 3 → j ≠ 6 → a'.2.1 j x = a.2.1 j x := fun j x j0 j1 j4 => by rw [ha']; exact nt_p j0 j1 j4
  have el : a'.2.2 = a.2.2 := by rw [ha']; rfl
  have eh : ∀ o u, hs a' o u = hs a o u := fun o u => by unfold hs; rw [ep 18 _ (by decide) (by decide) (by decide)]
  have eO : ∀ o u, isO a' o u = isO a o u := fun o u => by unfold isO; rw [ep 18 _ (by decide) (by decide) (by decide)]
  have ecp : ∀ u, u ≠ a.1 0 0 → cpl a' u = cpl a u := fun u hu => by unfold cpl; rw [ha', nt1, nt5, if_neg hu, if_neg hu]
  have lold : ∀ {k x y}, vld (a.1 16 0) a k x y → k ≠ 0 → k ≠ 1 → σ5.1 (w.1 k x y) = σ.1 (w.1 k x y) := fun hv' k0 k1 => by
    rw [hkeep _ (fun e => k1 (h.inj hv' hv1 e).1) (fun e => k0 (h.inj hv' (vld_0 (k := 0) (by decide)) (e.trans h.2.1.symm)).1)]
    exact x3.2 _ (h.lt0 hv')
  have lnew : ∀ p, σ.2 ≤ p → σ5.1 p = σ3.1 p := fun p hp => hkeep p (by omega) (by omega)
  have x31 := x3.1
  refine h.step (σ := σ5) (by omega) ?_ hgw2 ((go 0 0 0 (by omega)).trans h.2.1) ?_
  · intro q hq'
    have hlt := h.outlt hq'
    rw [hkeep q (fun e => h.out hv1 (e ▸ hq')) (fun e => h.out (vld_0 (k := 0) (by decide)) (by rw [h.2.1, ← e]; exact hq'))]
    exact x3.2 q hlt
  · intro k x y hv
    rcases hv with hv | hv | hv | hv | hv | hv | hv | hv
    · obtain ⟨hk5', rfl, rfl⟩ := hv
      have eg := go k 0 0 (by omega)
      match k, hk5', eg with
      | 0, _, eg =>
        have d0' : σ5.1 (g'.1 0 0 0) = _ := (congrArg σ5.1 (eg.trans h.2.1)).trans d0
        refine Or.inr ⟨by rw [eg, h.2.1]; omega, by rw [eg, h.2.1, hgw2 xa n0, ← h.2.1]; exact (h.1 0 0 0 (vld_0 (by decide))).2.1, _, d0', ?_⟩
        show _ = (Sum.inr (9, [.ref (g'.1 1 0 0), .int (nI (a'.1 0 0)), .ref (g'.1 2 0 0), .int (nI (a'.1 16 0)), .ref (g'.1 3 0 0), .int (nI (a'.1 23 0)), .ref (g'.1 4 0 0), .int a'.2.2.2]) : va_E)
        rw [e0, e16, eo 23 0 (by decide) (by decide) (by decide) (by decide), el, go 1 0 0 (by omega), go 2 0 0 (by omega), go 3 0 0 (by omega), go 4 0 0 (by omega)]
      | 1, _, eg =>
        have d1' : σ5.1 (g'.1 1 0 0) = _ := (congrArg σ5.1 eg).trans d1
        refine Or.inr ⟨by rw [eg]; omega, by rw [eg, hgw2 _ n1]; exact (h.1 1 0 0 hv1).2.1, _, d1', va_up f (a.1 0 0) (some σ.2), rfl, fun j hj => ?_⟩
        rw [e0] at hj
        by_cases hj' : j = a.1 0 0
        · dsimp only; rw [hj', va_up_self, gt 5 0 (by decide) (by decide)]; rfl
        · dsimp only; rw [va_up_ne _ _ hj', g5 j (by omega)]
          exact q2 j (by omega)
      | 2, _, eg =>
        refine Or.inl ⟨vld_0 (by decide), eg, lold (vld_0 (by decide)) (by decide) (by decide), fun c hc => ?_⟩
        obtain ⟨ff, rfl, hff⟩ := hc
        exact ⟨ff, rfl, fun i hi' => by rw [hff i hi']; dsimp only; rw [gm16, ep 22 _ (by decide) (by decide) (by decide)]⟩
      | 3, _, eg =>
        refine Or.inl ⟨vld_0 (by decide), eg, lold (vld_0 (by decide)) (by decide) (by decide), fun c hc => ?_⟩
        obtain ⟨ff, rfl, hff⟩ := hc
        refine ⟨ff, rfl, fun i hi' => ?_⟩
        rw [eo 23 0 (by decide) (by decide) (by decide) (by decide)] at hi'
        rw [hff i hi']; dsimp only; rw [go 21 i 0 (by omega)]
      | 4, _, eg => exact Or.inl ⟨vld_0 (by decide), eg, lold (vld_0 (by decide)) (by decide) (by decide), fun c hc => hc⟩
      | _ + 5, hk5', _ => omega
    · obtain ⟨ka, kb, hx, rfl⟩ := hv
      rw [e0] at hx
      by_cases hx' : x = a.1 0 0
      · subst hx'
        have z1 := hz.1 (a.1 0 0) (Nat.le_refl _)
        have z2 : ∀ i, _ := fun i => hz.2 (4 * a.1 0 0 + i) (by omega)
        have ea : σ.2 + 9 < σ5.2 := by omega
        match k, ka, kb with
        | 0, ka, _ | 1, ka, _ | 2, ka, _ | 3, ka, _ | 4, ka, _ => omega
        | 5, _, _ =>
          have eg := gt 5 0 (by decide) (by decide)
          have dd : σ5.1 (g'.1 5 (a.1 0 0) 0) = _ := (congrArg σ5.1 eg).trans ((lnew _ (by omega)).trans c5)
          refine Or.inr ⟨by rw [eg]; omega, by rw [eg]; exact hgT 0 (by decide), _, dd, ?_⟩
          show _ = (Sum.inr (8, [.int (nI (a.1 0 0)), .int (nI (a'.1 1 (a.1 0 0))), va_rf (mp g'.1 5 (a'.2.1 2 (a.1 0 0))), .int (lt (a'.2.1 3 (a.1 0 0))), .int (nI (a'.1 5 (a.1 0 0))), .int (b2 (bd a' (a.1 0 0))), .ref (g'.1 14 (a.1 0 0) 0), .ref (g'.1 6 (a.1 0 0) 0), .ref (g'.1 10 (a.1 0 0) 0), .int (nI (a'.1 11 (a.1 0 0))), va_rf (mp g'.1 5 (a'.2.1 6 (a.1 0 0)))]) : va_E)
          have hb : bd a' (a.1 0 0) = bdN a kk ow := by
            unfold bd bdN
            rw [show a'.1 1 (a.1 0 0) = kk by rw [ha', nt1, if_pos rfl], show a'.2.1 2 (a.1 0 0) = ow by rw [ha', nt2, if_pos rfl]]
            cases ow with
            | none => rfl
            | some v => show _ = (kk == 2 || (kk == 3 || kk == 5) && a.1 11 v == 0); rw [← eo 11 v (by decide) (by decide) (by decide) (by decide)]
          rw [hb, show a'.1 1 (a.1 0 0) = kk by rw [ha', nt1, if_pos rfl], show a'.2.1 2 (a.1 0 0) = ow by rw [ha', nt2, if_pos rfl], show a'.2.1 3 (a.1 0 0) = oc by rw [ha', nt3, if_pos rfl], show a'.1 5 (a.1 0 0) = ahd a kk ow by rw [ha', nt5, if_pos rfl], show a'.2.1 6 (a.1 0 0) = none by rw [ha', nt6, if_pos rfl], eo 11 _ (by decide) (by decide) (by decide) (by decide), z1.2.1, gmp ow how, gs 14 0 (by decide) (by decide), gt 6 0 (by decide) (by decide), gt 10 0 (by decide) (by decide)]
          rfl
        | 6, _, _ =>
          have eg := gt 6 0 (by decide) (by decide)
          have dd : σ5.1 (g'.1 6 (a.1 0 0) 0) = _ := (congrArg σ5.1 eg).trans ((lnew _ (by omega)).trans c6)
          refine Or.inr ⟨by rw [eg]; omega, by rw [eg]; exact hgT 1 (by decide), _, dd, ?_⟩
          show _ = (Sum.inr (3, [.ref (g'.1 7 (a.1 0 0) 0), .ref (g'.1 8 (a.1 0 0) 0), .ref (g'.1 9 (a.1 0 0) 0), .int (nI (a'.1 7 (a.1 0 0)))]) : va_E)
          rw [gt 7 0 (by decide) (by decide), gt 8 0 (by decide) (by decide), gt 9 0 (by decide) (by decide), eo 7 _ (by decide) (by decide) (by decide) (by decide), z1.1]
          rfl
        | 7, _, _ =>
          have eg := gt 7 0 (by decide) (by decide)
          have dd : σ5.1 (g'.1 7 (a.1 0 0) 0) = _ := (congrArg σ5.1 eg).trans ((lnew _ (by omega)).trans c7)
          refine Or.inr ⟨by rw [eg]; omega, by rw [eg]; exact hgT 2 (by decide), _, dd, _, rfl, fun i hi' => ?_⟩
          dsimp only; rw [eo 8 _ (by decide) (by decide) (by decide) (by decide), (z2 i).1]; rfl
        | 8, _, _ =>
          have eg := gt 8 0 (by decide) (by decide)
          have dd : σ5.1 (g'.1 8 (a.1 0 0) 0) = _ := (congrArg σ5.1 eg).trans ((lnew _ (by omega)).trans c8)
          refine Or.inr ⟨by rw [eg]; omega, by rw [eg]; exact hgT 3 (by decide), _, dd, _, rfl, fun i hi' => ?_⟩
          dsimp only; rw [el, (z2 i).2.1]
        | 9, _, _ =>
          have eg := gt 9 0 (by decide) (by decide)
          have dd : σ5.1 (g'.1 9 (a.1 0 0) 0) = _ := (congrArg σ5.1 eg).trans ((lnew _ (by omega)).trans c9)
          refine Or.inr ⟨by rw [eg]; omega, by rw [eg]; exact hgT 4 (by decide), _, dd, _, rfl, fun i hi' => ?_⟩
          dsimp only; rw [eo 10 _ (by decide) (by decide) (by decide) (by decide), (z2 i).2.2.1]; rfl
        | 10, _, _ =>
          have eg := gt 10 0 (by decide) (by decide)
          have dd : σ5.1 (g'.1 10 (a.1 0 0) 0) = _ := (congrArg σ5.1 eg).trans ((lnew _ (by omega)).trans c10)
          refine Or.inr ⟨by rw [eg]; omega, by rw [eg]; exact hgT 5 (by decide), _, dd, ?_⟩
          show _ = (Sum.inr (6, [.ref (g'.1 11 (a.1 0 0) 0), .ref (g'.1 12 (a.1 0 0) 0), .ref (g'.1 13 (a.1 0 0) 0), .int (nI (a'.1 12 (a.1 0 0)))]) : va_E)
          rw [gt 11 0 (by decide) (by decide), gt 12 0 (by decide) (by decide), gt 13 0 (by decide) (by decide), eo 12 _ (by decide) (by decide) (by decide) (by decide), z1.2.2]
          rfl
        | 11, _, _ =>
          have eg := gt 11 0 (by decide) (by decide)
          have dd : σ5.1 (g'.1 11 (a.1 0 0) 0) = _ := (congrArg σ5.1 eg).trans ((lnew _ (by omega)).trans c11)
          refine Or.inr ⟨by rw [eg]; omega, by rw [eg]; exact hgT 6 (by decide), _, dd, _, rfl, fun i hi' => ?_⟩
          dsimp only; rw [eo 13 _ (by decide) (by decide) (by decide) (by decide), (z2 i).2.2.2.1]; rfl
        | 12, _, _ =>
          have eg := gt 12 0 (by decide) (by decide)
          have dd : σ5.1 (g'.1 12 (a.1 0 0) 0) = _ := (congrArg σ5.1 eg).trans ((lnew _ (by omega)).trans c12)
          refine Or.inr ⟨by rw [eg]; omega, by rw [eg]; exact hgT 7 (by decide), _, dd, _, rfl, fun i hi' => ?_⟩
          dsimp only; rw [el, (z2 i).2.2.2.2.1]
        | 13, _, _ =>
          have eg := gt 13 0 (by decide) (by decide)
          have dd : σ5.1 (g'.1 13 (a.1 0 0) 0) = _ := (congrArg σ5.1 eg).trans ((lnew _ (by omega)).trans c13)
          refine Or.inr ⟨by rw [eg]; omega, by rw [eg]; exact hgT 8 (by decide), _, dd, _, rfl, fun i hi' => ?_⟩
          dsimp only; rw [eo 15 _ (by decide) (by decide) (by decide) (by decide), (z2 i).2.2.2.2.2]; rfl
        | 14, _, _ =>
          have eg := gs 14 0 (by decide) (by decide)
          have dd : σ5.1 (g'.1 14 (a.1 0 0) 0) = _ := (congrArg σ5.1 eg).trans ((lnew _ (by omega)).trans c14)
          refine Or.inr ⟨by rw [eg]; omega, by rw [eg]; exact hgs, _, dd, ?_⟩
          show _ = (Sum.inr (0, [.ref (g'.1 15 (a.1 0 0) 0), .int 0, .int 0, .int 0]) : va_E)
          rw [gs 15 0 (by decide) (by decide)]
        | 15, _, _ =>
          have eg := gs 15 0 (by decide) (by decide)
          have dd : σ5.1 (g'.1 15 (a.1 0 0) 0) = _ := (congrArg σ5.1 eg).trans ((lnew _ (by omega)).trans c15)
          refine Or.inr ⟨by rw [eg]; omega, by rw [eg]; exact hgs1, _, dd, ?_⟩
          show rowI 3 (nmT a' (a.1 0 0)).length (fun i => nI ((nmT a' (a.1 0 0)).getD i 0)) _
          rw [ha', nt_new hw hn how hk0 hk5 hnum]
          exact ⟨fs, rfl, hfs⟩
        | _ + 16, _, kb => omega
      · have hxl : x < a.1 0 0 := by omega
        have hvo : vld (a.1 16 0) a k x 0 := vld_t ka kb hxl
        refine Or.inl ⟨hvo, go k x 0 (by omega), lold hvo (by omega) (by omega), fun c hc => ?_⟩
        have gx : ∀ k, g'.1 k x 0 = w.1 k x 0 := fun k => go k x 0 (by omega)
        match k, ka, kb, hc with
        | 0, ka, _, _ | 1, ka, _, _ | 2, ka, _, _ | 3, ka, _, _ | 4, ka, _, _ => omega
        | 5, _, _, hc =>
          show c = (Sum.inr (8, [.int (nI x), .int (nI (a'.1 1 x)), va_rf (mp g'.1 5 (a'.2.1 2 x)), .int (lt (a'.2.1 3 x)), .int (nI (a'.1 5 x)), .int (b2 (bd a' x)), .ref (g'.1 14 x 0), .ref (g'.1 6 x 0), .ref (g'.1 10 x 0), .int (nI (a'.1 11 x)), va_rf (mp g'.1 5 (a'.2.1 6 x))]) : va_E)
          have hb : bd a' x = bd a x := by
            unfold bd
            rw [show a'.1 1 x = a.1 1 x by rw [ha', nt1, if_neg hx'], show a'.2.1 2 x = a.2.1 2 x by rw [ha', nt2, if_neg hx']]
            cases a.2.1 2 x with
            | none => rfl
            | some v => show _ = (a.1 1 x == 2 || (a.1 1 x == 3 || a.1 1 x == 5) && a.1 11 v == 0); rw [← eo 11 v (by decide) (by decide) (by decide) (by decide)]
          rw [hb, show a'.1 1 x = a.1 1 x by rw [ha', nt1, if_neg hx'], show a'.2.1 2 x = a.2.1 2 x by rw [ha', nt2, if_neg hx'], show a'.2.1 3 x = a.2.1 3 x by rw [ha', nt3, if_neg hx'], show a'.1 5 x = a.1 5 x by rw [ha', nt5, if_neg hx'], show a'.2.1 6 x = a.2.1 6 x by rw [ha', nt6, if_neg hx'], eo 11 _ (by decide) (by decide) (by decide) (by decide), gmp (a.2.1 2 x) (fun q hq' => by have := (hw.ou hxl hq').1; omega), gmp (a.2.1 6 x) (fun q hq' => hw.pa hxl q hq'), gx, gx, gx]
          exact hc
        | 6, _, _, hc =>
          show c = (Sum.inr (3, [.ref (g'.1 7 x 0), .ref (g'.1 8 x 0), .ref (g'.1 9 x 0), .int (nI (a'.1 7 x))]) : va_E)
          rw [gx, gx, gx, eo 7 _ (by decide) (by decide) (by decide) (by decide)]
          exact hc
        | 7, _, _, hc =>
          obtain ⟨ff, rfl, hff⟩ := hc
          exact ⟨ff, rfl, fun i hi' => by rw [hff i hi']; dsimp only; rw [eo 8 _ (by decide) (by decide) (by decide) (by decide)]⟩
        | 8, _, _, hc =>
          obtain ⟨ff, rfl, hff⟩ := hc
          exact ⟨ff, rfl, fun i hi' => by rw [hff i hi']; dsimp only; rw [el]⟩
        | 9, _, _, hc =>
          obtain ⟨ff, rfl, hff⟩ := hc
          exact ⟨ff, rfl, fun i hi' => by rw [hff i hi']; dsimp only; rw [eo 10 _ (by decide) (by decide) (by decide) (by decide)]⟩
        | 10, _, _, hc =>
          show c = (Sum.inr (6, [.ref (g'.1 11 x 0), .ref (g'.1 12 x 0), .ref (g'.1 13 x 0), .int (nI (a'.1 12 x))]) : va_E)
          rw [gx, gx, gx, eo 12 _ (by decide) (by decide) (by decide) (by decide)]
          exact hc
        | 11, _, _, hc =>
          obtain ⟨ff, rfl, hff⟩ := hc
          exact ⟨ff, rfl, fun i hi' => by rw [hff i hi']; dsimp only; rw [eo 13 _ (by decide) (by decide) (by decide) (by decide)]⟩
        | 12, _, _, hc =>
          obtain ⟨ff, rfl, hff⟩ := hc
          exact ⟨ff, rfl, fun i hi' => by rw [hff i hi']; dsimp only; rw [el]⟩
        | 13, _, _, hc =>
          obtain ⟨ff, rfl, hff⟩ := hc
          exact ⟨ff, rfl, fun i hi' => by rw [hff i hi']; dsimp only; rw [eo 15 _ (by decide) (by decide) (by decide) (by decide)]⟩
        | 14, _, _, hc =>
          show c = (Sum.inr (0, [.ref (g'.1 15 x 0), .int 0, .int 0, .int 0]) : va_E)
          rw [gx]
          exact hc
        | 15, _, _, hc =>
          show rowI 3 (nmT a' x).length (fun i => nI ((nmT a' x).getD i 0)) c
          rw [ha', nt_old hw hxl]
          exact hc
        | _ + 16, _, kb, _ => omega
    · obtain ⟨hk', hx, rfl⟩ := hv
      rw [e16] at hx
      have hvo : vld (a.1 16 0) a k x 0 := vld_o hk' hx
      refine Or.inl ⟨hvo, go k x 0 (by omega), lold hvo (by omega) (by omega), fun c hc => ?_⟩
      rcases hk' with rfl | rfl
      · show c = (Sum.inr (7, [.ref (g'.1 5 (a'.1 17 x) 0), .ref (g'.1 17 x 0)]) : va_E)
        rw [eo 17 _ (by decide) (by decide) (by decide) (by decide), g5 _ (hq.2.1 x hx).1, go 17 x 0 (by omega)]
        exact hc
      · obtain ⟨l, ⟨ff, rfl, hff⟩, l2, l3⟩ := hc
        exact ⟨l, ⟨ff, rfl, fun i hi' => by rw [hff i hi']; dsimp only; rw [go 18 x _ (by omega)]⟩, l2, fun u => by rw [l3 u, eO]⟩
    · obtain ⟨rfl, hx, hy, ho⟩ := hv
      rw [eO] at ho
      have hvo : vld (a.1 16 0) a 18 x y := vld_18 hx hy ho
      have hyn := (hO x hx y hy ho).1
      refine Or.inl ⟨hvo, go 18 x y (by omega), lold hvo (by omega) (by omega), fun c hc => ?_⟩
      show c = (Sum.inr (5, [.ref (g'.1 5 y 0), va_rf (mp g'.1 16 (a'.2.1 19 (12 * x + y))), .ref (zr E (hs a' x y) (g'.1 19 x y)), .ref (zr E (cpl a' y) (g'.1 20 x y))]) : va_E)
      rw [g5 y hyn, gm16, ep 19 _ (by decide) (by decide) (by decide), eh, ecp y (by omega), go 19 x y (by omega), go 20 x y (by omega)]
      exact hc
    · obtain ⟨rfl, hx, hy, ho, h0⟩ := hv
      rw [eO] at ho
      rw [eh] at h0
      have hvo : vld (a.1 16 0) a 19 x y := vld_19 hx hy ho h0
      refine Or.inl ⟨hvo, go 19 x y (by omega), lold hvo (by omega) (by omega), fun c hc => ?_⟩
      show rowL (hs a' x y) (fun i => a'.2.2.1 20 (4 * (12 * x + y) + i)) c
      rw [eh, el]
      exact hc
    · obtain ⟨rfl, hx, hy, ho, h0⟩ := hv
      rw [eO] at ho
      have hyn := (hO x hx y hy ho).1
      rw [ecp y (by omega)] at h0
      have hvo : vld (a.1 16 0) a 20 x y := vld_20 hx hy ho h0
      refine Or.inl ⟨hvo, go 20 x y (by omega), lold hvo (by omega) (by omega), fun c hc => ?_⟩
      show rowL (cpl a' y) (fun i => a'.2.2.1 21 (4 * (12 * x + y) + i)) c
      rw [ecp y (by omega), el]
      exact hc
    · obtain ⟨rfl, hx, rfl⟩ := hv
      rw [eo 23 0 (by decide) (by decide) (by decide) (by decide)] at hx
      have hvo : vld (a.1 16 0) a 21 x 0 := vld_21 hx
      refine Or.inl ⟨hvo, go 21 x 0 (by omega), lold hvo (by omega) (by omega), fun c hc => ?_⟩
      show c = (Sum.inr (4, [.ref (g'.1 5 (a'.1 24 x) 0), va_rf (mp g'.1 16 (a'.2.1 25 x)), .ref (zr E (a'.1 26 x) (g'.1 22 x 0))]) : va_E)
      rw [eo 24 _ (by decide) (by decide) (by decide) (by decide), eo 26 _ (by decide) (by decide) (by decide) (by decide), ep 25 _ (by decide) (by decide) (by decide), g5 _ (hq.2.2.2.2 x hx).1, gm16, go 22 x 0 (by omega)]
      exact hc
    · obtain ⟨rfl, hx, rfl, h0⟩ := hv
      rw [eo 23 0 (by decide) (by decide) (by decide) (by decide)] at hx
      rw [eo 26 _ (by decide) (by decide) (by decide) (by decide)] at h0
      have hvo : vld (a.1 16 0) a 22 x 0 := vld_22 hx h0
      refine Or.inl ⟨hvo, go 22 x 0 (by omega), lold hvo (by omega) (by omega), fun c hc => ?_⟩
      show rowL (a'.1 26 x) (fun i => a'.2.2.1 27 (4 * x + i)) c
      rw [eo 26 _ (by decide) (by decide) (by decide) (by decide), el]
      exact hc
end DR
