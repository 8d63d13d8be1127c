/-! The reference: names. -/
def dig (n : Nat) : List Nat := if n < 10 then [48 + n] else [48 + n % 10, 48 + n / 10]
/-- a type's part of its name, from the end -/
def seg (a : aS) (t : Nat) : List Nat := (if a.1 1 t = 5 then [] else [65 + (a.2.1 3 t).getD 0]) ++ (if 3 ≤ a.1 1 t then dig (a.1 4 t) else []) ++ (if a.1 1 t = 0 then [] else [36])
def revN (a : aS) (l : List Nat) : List Nat := l.flatMap (seg a)
/-- the name, from its first letter on -/
def nmT (a : aS) (t : Nat) : List Nat := (revN a (och a (some t))).reverse
def sp_name (a : aS) (x y : Int32) : Int32 × aS := match ix x (a.1 0 0) with
  | none => (-1, a)
  | some t => (if y = -3 then nI (nmT a t).length else match ix y (nmT a t).length with
    | none => -1
    | some i => nI ((nmT a t).getD i 0), a)
def scr (X : Nat → Nat → Int32) (L : List Nat) : Prop := X 30 0 = nI L.length ∧ ∀ j, j < L.length → X 29 j = nI (L.getD j 0)
theorem seg_le (a : aS) (t : Nat) : (seg a t).length ≤ 4 := by
  unfold seg dig
  simp only [List.length_append]
  have h1 : (if a.1 1 t = 5 then ([] : List Nat) else [65 + (a.2.1 3 t).getD 0]).length ≤ 1 := by split <;> simp
  have h2 : (if 3 ≤ a.1 1 t then (if a.1 4 t < 10 then [48 + a.1 4 t] else [48 + a.1 4 t % 10, 48 + a.1 4 t / 10]) else ([] : List Nat)).length ≤ 2 := by (repeat' split) <;> simp
  have h3 : (if a.1 1 t = 0 then ([] : List Nat) else [36]).length ≤ 1 := by split <;> simp
  omega
theorem revN_le (a : aS) : ∀ l : List Nat, (revN a l).length ≤ 4 * l.length := by
  intro l
  induction l with
  | nil => simp [revN]
  | cons t l ih =>
    have := seg_le a t
    simp only [revN, List.flatMap_cons, List.length_append, List.length_cons] at ih ⊢
    omega
theorem getD_app1 {L : List Nat} {v j : Nat} (h : j < L.length) : (L ++ [v]).getD j 0 = L.getD j 0 := by
  simp [List.getD_eq_getElem?_getD, List.getElem?_append_left h]
theorem getD_app2 {L : List Nat} {v : Nat} : (L ++ [v]).getD L.length 0 = v := by
  simp [List.getD_eq_getElem?_getD]
theorem digF : ∀ n, n < 13 → (nI n / (10 : Int32) = nI (n / 10)) ∧ (48 : Int32) + (nI n - nI (n / 10) * (10 : Int32)) = nI (48 + n % 10) ∧ (nI n ≤ 0 ↔ n = 0) := by decide +kernel
section RL
variable (ρ : hmS) (ma : Nat) (a : aS)
theorem rl_put {X : Nat → Nat → Int32} {L : List Nat} (h : scr X L) (hl : L.length < 64) (v : Nat) : ∃ X', fX8_put ma (nI v) (rSt ρ ma (mkS a X)) = some ((), rSt ρ ma (mkS a X')) ∧ scr X' (L ++ [v]) := by
  obtain ⟨h1, h2⟩ := h
  refine ⟨up2 (up2 X 29 L.length (nI v)) 30 0 (nI (L.length + 1)), ?_, ?_, ?_⟩
  · simp only [fX8_put, q_r29, q_g30, ob_some, h1, q_s29 ρ ma a X hl, show up2 X 29 L.length (nI v) 30 0 = nI L.length from by rw [up2_k _ _ (by decide), h1], n_s, q_w30]
  · rw [up2_s]; simp
  · intro j hj
    rw [up2_k _ _ (by decide)]
    by_cases hj' : j = L.length
    · subst hj'; rw [up2_s, getD_app2]
    · have hj2 : j < L.length := by simp at hj; omega
      rw [up2_n _ _ (fun q => hj' q.2), h2 j hj2, getD_app1 hj2]
theorem rl_dig {x1 x2 v3 : Int32} (K : Int32 → hmS → Option (Int32 × hmS)) {X : Nat → Nat → Int32} {L : List Nat} (h : scr X L) (hl : L.length + 2 < 64) {n : Nat} (h1 : 1 ≤ n) (h12 : n ≤ 12) : ∃ X', fX8_name_L66 ma x1 x2 K 20 v3 (nI n) (rSt ρ ma (mkS a X)) = fX8_name_J93 ma x1 x2 K v3 (rSt ρ ma (mkS a X')) ∧ scr X' (L ++ dig n) := by
  obtain ⟨d1, d2, d3⟩ := digF n (by omega)
  obtain ⟨X1, e1, s1⟩ := rl_put ρ ma a h (by omega) (48 + n % 10)
  obtain ⟨c1, c2, c3⟩ := digF (n / 10) (by omega)
  by_cases hn : n < 10
  · refine ⟨X1, ?_, ?_⟩
    · show fX8_name_B66 ma x1 x2 K (fX8_name_B66 ma x1 x2 K (fX8_name_L66 ma x1 x2 K 18)) v3 (nI n) (rSt ρ ma (mkS a X)) = _
      have hn0 : ¬ nI n ≤ 0 := fun q => by have := d3.mp q; omega
      have hn1 : nI (n / 10) ≤ 0 := c3.mpr (by omega)
      unfold fX8_name_B66
      rw [if_neg hn0]
      simp only [rf_obC, ob_some, d2, e1, cb_some, d1]
      rw [if_pos hn1]
    · rw [show dig n = [48 + n % 10] by unfold dig; rw [if_pos hn, Nat.mod_eq_of_lt hn]]; exact s1
  · obtain ⟨X2, e2, s2⟩ := rl_put ρ ma a s1 (by simp; omega) (48 + n / 10 % 10)
    refine ⟨X2, ?_, ?_⟩
    · show fX8_name_B66 ma x1 x2 K (fX8_name_B66 ma x1 x2 K (fX8_name_B66 ma x1 x2 K (fX8_name_L66 ma x1 x2 K 17))) v3 (nI n) (rSt ρ ma (mkS a X)) = _
      have hn0 : ¬ nI n ≤ 0 := fun q => by have := d3.mp q; omega
      have hn1 : ¬ nI (n / 10) ≤ 0 := fun q => by have := c3.mp q; omega
      have hn2 : nI (n / 10 / 10) ≤ 0 := (digF (n / 10 / 10) (by omega)).2.2.mpr (by omega)
      unfold fX8_name_B66
      rw [if_neg hn0]
      simp only [rf_obC, ob_some, d2, e1, cb_some, d1]
      rw [if_neg hn1]
      simp only [rf_obC, ob_some, c2, e2, cb_some, c1]
      rw [if_pos hn2]
    · rw [show dig n = [48 + n % 10] ++ [48 + n / 10 % 10] by unfold dig; rw [if_neg hn, show n / 10 % 10 = n / 10 by omega]; rfl, ← List.append_assoc]; exact s2
theorem rl_step (hw : Wt a) {x1 x2 : Int32} (K : Int32 → hmS → Option (Int32 × hmS)) {X : Nat → Nat → Int32} {L : List Nat} (h : scr X L) (hl : L.length + 4 < 64) {t : Nat} (ht : t < a.1 0 0) : ∃ X', fX8_name_B17 ma x1 x2 K (nI t) (rSt ρ ma (mkS a X)) = K (pv (a.2.1 2 t)) (rSt ρ ma (mkS a X')) ∧ scr X' (L ++ seg a t) := by
  have hn := hw.n12
  have hk := hw.kd ht
  have e5 : (nI (a.1 1 t) = (5 : Int32)) = (a.1 1 t = 5) := n_eq (y := 5) (by omega) (by decide)
  have e0 : (nI (a.1 1 t) = (0 : Int32)) = (a.1 1 t = 0) := n_eq (y := 0) (by omega) (by decide)
  -- the letter
  obtain ⟨X1, f1, s1⟩ : ∃ X1, fX8_name_B17 ma x1 x2 K (nI t) (rSt ρ ma (mkS a X)) = fX8_name_J46 ma x1 x2 K (nI t) (rSt ρ ma (mkS a X1)) ∧ scr X1 (L ++ (if a.1 1 t = 5 then [] else [65 + (a.2.1 3 t).getD 0])) := by
    by_cases k5 : a.1 1 t = 5
    · refine ⟨X, ?_, by rw [if_pos k5, List.append_nil]; exact h⟩
      simp only [fX8_name_B17, if_neg (n_ne3 (show t < 100000 by omega)), q_r1, ob_some, q_a1 ρ ma a X (show t < 12 by omega), e5, if_pos k5]
    · obtain ⟨c, c1, c2⟩ := hw.l1 ht k5
      obtain ⟨X1, e1, s1⟩ := rl_put ρ ma a h (by omega) (65 + c)
      refine ⟨X1, ?_, by rw [if_neg k5, c2]; exact s1⟩
      have e65 : (65 : Int32) + nI c = nI (65 + c) := by rw [show (65 : Int32) = nI 65 from rfl, nI_add]
      simp only [fX8_name_B17, if_neg (n_ne3 (show t < 100000 by omega)), q_r1, ob_some, q_a1 ρ ma a X (show t < 12 by omega), e5, if_neg k5, q_r3, q_a3 ρ ma a X (show t < 12 by omega), c2, pv_s, e65, rf_obC, e1, cb_some]
  have l1 : (if a.1 1 t = 5 then ([] : List Nat) else [65 + (a.2.1 3 t).getD 0]).length ≤ 1 := by split <;> simp
  -- the number
  obtain ⟨X2, f2, s2⟩ : ∃ X2, fX8_name_J46 ma x1 x2 K (nI t) (rSt ρ ma (mkS a X1)) = fX8_name_J93 ma x1 x2 K (nI t) (rSt ρ ma (mkS a X2)) ∧ scr X2 ((L ++ (if a.1 1 t = 5 then [] else [65 + (a.2.1 3 t).getD 0])) ++ (if 3 ≤ a.1 1 t then dig (a.1 4 t) else [])) := by
    by_cases k3 : 3 ≤ a.1 1 t
    · obtain ⟨X2, e2, s2⟩ := rl_dig ρ ma a (x1 := x1) (x2 := x2) (v3 := nI t) K s1 (by rw [List.length_append]; omega) (hw.nu ht).1 (hw.nu ht).2
      refine ⟨X2, ?_, by rw [if_pos k3]; exact s2⟩
      simp only [fX8_name_J46, q_r1, ob_some, q_a1 ρ ma a _ (show t < 12 by omega), rg_isInMethod (a.1 1 t) (by omega), cb_some, b2_0, k3, decide_true, Bool.true_eq_false, if_false, q_r4, q_a4 ρ ma a _ (show t < 12 by omega), e2]
    · refine ⟨X1, ?_, by rw [if_neg k3, List.append_nil]; exact s1⟩
      simp only [fX8_name_J46, q_r1, ob_some, q_a1 ρ ma a _ (show t < 12 by omega), rg_isInMethod (a.1 1 t) (by omega), cb_some, b2_0, k3, decide_false, if_true]
  have l2 : (if 3 ≤ a.1 1 t then dig (a.1 4 t) else ([] : List Nat)).length ≤ 2 := by unfold dig; (repeat' split) <;> simp
  have eJ : ∀ X, fX8_name_J108 ma x1 x2 K (nI t) (rSt ρ ma (mkS a X)) = K (pv (a.2.1 2 t)) (rSt ρ ma (mkS a X)) := fun X => by
    simp only [fX8_name_J108, q_r2, ob_some, q_a2 ρ ma a X (show t < 12 by omega)]
  rw [f1, f2]
  unfold seg
  rw [← List.append_assoc, ← List.append_assoc]
  by_cases k0 : a.1 1 t = 0
  · refine ⟨X2, ?_, by rw [if_pos k0, List.append_nil]; exact s2⟩
    simp only [fX8_name_J93, q_r1, ob_some, q_a1 ρ ma a _ (show t < 12 by omega), e0, if_pos k0, eJ]
  · obtain ⟨X3, e3, s3⟩ := rl_put ρ ma a s2 (by simp only [List.length_append]; omega) 36
    refine ⟨X3, ?_, by rw [if_neg k0]; exact s3⟩
    rw [show nI 36 = (36 : Int32) from rfl] at e3
    simp only [fX8_name_J93, q_r1, ob_some, q_a1 ρ ma a _ (show t < 12 by omega), e0, if_neg k0, rf_obC, e3, cb_some, eJ]
theorem rl_nameL (hw : Wt a) {x1 x2 : Int32} : ∀ (l : List Nat) (o : Option Nat) (N : Nat) (X : Nat → Nat → Int32) (L : List Nat), isCh (a.2.1 2) o l → (∀ x ∈ l, x < a.1 0 0) → l.length < N → scr X L → L.length + 4 * l.length < 60 → ∃ X', fX8_name_L17 ma x1 x2 N (pv o) (rSt ρ ma (mkS a X)) = some (if x2 = -3 then nI (L ++ revN a l).length else match ix x2 (L ++ revN a l).length with | none => -1 | some i => nI ((L ++ revN a l).reverse.getD i 0), rSt ρ ma (mkS a X')) := by
  intro l
  induction l with
  | nil =>
    intro o N X L h _ hN hs hL
    obtain ⟨N, rfl⟩ : ∃ k, N = k + 1 := ⟨N - 1, by omega⟩
    cases o with
    | some t => exact h.elim
    | none =>
      refine ⟨X, ?_⟩
      obtain ⟨s1, s2⟩ := hs
      show fX8_name_B17 ma x1 x2 _ (-3) (rSt ρ ma (mkS a X)) = _
      simp only [List.length_nil, Nat.mul_zero, Nat.add_zero] at hL
      rw [show revN a [] = [] from rfl, List.append_nil]
      simp only [fX8_name_B17, if_true, q_g30, ob_some, s1, rf_in x2 L.length (by omega), cb_some, b2_0, q_r29]
      by_cases h3 : x2 = -3
      · rw [if_pos h3, if_pos h3]
      · rw [if_neg h3, if_neg h3]
        cases hx : ix x2 L.length with
        | none => simp
        | some i =>
          obtain ⟨hi, rfl⟩ := ix_s hx (by omega)
          have e : nI L.length - (1 : Int32) - nI i = nI (L.length - 1 - i) := by
            obtain ⟨m, hm⟩ : ∃ m, L.length = m + 1 := ⟨L.length - 1, by omega⟩
            rw [hm, nI_pred, show m + 1 - 1 - i = m - i by omega]
            rw [show nI m = nI (m - i) + nI i from by rw [nI_add, show m - i + i = m by omega], Int32.add_sub_cancel]
          simp only [Option.isSome_some, Bool.true_eq_false, if_false, e, q_a29 ρ ma a X (show L.length - 1 - i < 64 by omega), ob_some, s2 (L.length - 1 - i) (by omega)]
          rw [show L.reverse.getD i 0 = L.getD (L.length - 1 - i) 0 from by
            simp only [List.getD_eq_getElem?_getD]
            rw [List.getElem?_reverse hi]]
  | cons t l ih =>
    intro o N X L h hl hN hs hL
    obtain ⟨N, rfl⟩ : ∃ k, N = k + 1 := ⟨N - 1, by omega⟩
    cases o with
    | none => exact h.elim
    | some t' =>
      obtain ⟨rfl, h2⟩ := h
      simp only [List.length_cons] at hL
      obtain ⟨X1, e1, s1⟩ := rl_step ρ ma a hw (x1 := x1) (x2 := x2) (fX8_name_L17 ma x1 x2 N) hs (by omega) (hl t List.mem_cons_self)
      have := seg_le a t
      obtain ⟨X2, e2⟩ := ih (a.2.1 2 t) N X1 (L ++ seg a t) h2 (fun x hx => hl x (List.mem_cons_of_mem _ hx)) (by simpa using hN) s1 (by rw [List.length_append]; omega)
      refine ⟨X2, ?_⟩
      show fX8_name_B17 ma x1 x2 (fX8_name_L17 ma x1 x2 N) (nI t) (rSt ρ ma (mkS a X)) = _
      rw [e1, e2, show revN a (t :: l) = seg a t ++ revN a l from List.flatMap_cons, ← List.append_assoc]
theorem rl_name (hi : Iv a) (X : Nat → Nat → Int32) (x y : Int32) : ∃ X', fX8_name ma x y (rSt ρ ma (mkS a X)) = some ((sp_name a x y).1, rSt ρ ma (mkS (sp_name a x y).2 X')) := by
  obtain ⟨hbd, hw, hc, hO, hq, hz⟩ := id hi
  have hn := hw.n12
  unfold sp_name
  cases hx : ix x (a.1 0 0) with
  | none => exact ⟨X, by simp [fX8_name, rf_obC, ob_some, rf_isType ρ ma a X hbd, cb_some, hx, b2]⟩
  | some t =>
    obtain ⟨ht, rfl⟩ := ix_s hx (by omega)
    obtain ⟨ts, t1, t2, t3⟩ := hw.oc' (o := some t) (fun x hx => by cases hx; exact ht)
    have e : och a (some t) = ts := chl_eq t1 t2
    obtain ⟨X', e1⟩ := rl_nameL ρ ma a hw (x1 := nI t) (x2 := y) ts (some t) 20 (up2 X 30 0 0) [] t1 t3 (by omega) ⟨by rw [up2_s]; rfl, fun j hj => by simp at hj⟩ (by simp; omega)
    refine ⟨X', ?_⟩
    simp only [fX8_name, rf_obC, ob_some, rf_isType ρ ma a X hbd, cb_some, hx, b2_0, Option.isSome_some, Bool.true_eq_false, if_false, q_w30, reduceCtorEq]
    rw [pv_s] at e1
    rw [e1]
    unfold nmT
    rw [e]
    simp
end RL
