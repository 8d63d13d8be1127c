/-! The reference: methods, parents, places, lambdas. -/
theorem b2or (b c : Bool) : b2 b ||| b2 c = b2 (b || c) := by cases b <;> cases c <;> decide
theorem b2or1 (b : Bool) : b2 b ||| (1 : Int32) = b2 true := by cases b <;> decide
theorem b2or0 (b : Bool) : b2 b ||| (0 : Int32) = b2 b := by cases b <;> decide
theorem pv_nI {o : Option Nat} {t : Nat} (h : ∀ q, o = some q → q < 100000) (ht : t < 100000) : (pv o = nI t) = (o = some t) := pv_eq (o' := some t) h (fun q hq => by cases hq; exact ht)
theorem aP_id (a : aS) (k j : Nat) : aP_ a k j (a.2.1 k j) = a := by
  refine Prod.ext rfl (Prod.ext (funext fun k' => funext fun j' => ?_) rfl)
  show up2 a.2.1 k j (a.2.1 k j) k' j' = a.2.1 k' j'
  unfold up2
  split
  · rename_i h; rw [h.1, h.2]
  · rfl
/-- n longs from place b of row K on -/
def blk (a : aS) (K b n : Nat) (src : Nat → Int64) : aS := (a.1, a.2.1, fun k j => if k = K ∧ b ≤ j ∧ j < b + n then src (j - b) else a.2.2.1 k j, a.2.2.2)
theorem blk_0 (a : aS) (K b : Nat) (src : Nat → Int64) : blk a K b 0 src = a := by
  refine Prod.ext rfl (Prod.ext rfl (Prod.ext (funext fun k => funext fun j => ?_) rfl))
  show (if k = K ∧ b ≤ j ∧ j < b + 0 then src (j - b) else a.2.2.1 k j) = a.2.2.1 k j
  rw [if_neg (by omega)]
theorem blk_s (a : aS) (K b n : Nat) (src : Nat → Int64) : aL_ (blk a K b n src) K (b + n) (src n) = blk a K b (n + 1) src := by
  refine Prod.ext rfl (Prod.ext rfl (Prod.ext (funext fun k => funext fun j => ?_) rfl))
  show (if k = K ∧ j = b + n then src n else if k = K ∧ b ≤ j ∧ j < b + n then src (j - b) else a.2.2.1 k j) = if k = K ∧ b ≤ j ∧ j < b + (n + 1) then src (j - b) else a.2.2.1 k j
  by_cases h1 : k = K ∧ j = b + n
  · rw [if_pos h1, if_pos ⟨h1.1, by omega⟩, h1.2, show b + n - b = n by omega]
  · rw [if_neg h1]
    by_cases h2 : k = K ∧ b ≤ j ∧ j < b + n
    · rw [if_pos h2, if_pos ⟨h2.1, by omega⟩]
    · rw [if_neg h2, if_neg (fun q => by
        rcases Nat.lt_or_ge j (b + n) with h | h
        · exact h2 ⟨q.1, q.2.1, h⟩
        · exact h1 ⟨q.1, by omega⟩)]
theorem blk_k {a : aS} {K b n : Nat} {src : Nat → Int64} {k : Nat} (h : k ≠ K) (j : Nat) : (blk a K b n src).2.2.1 k j = a.2.2.1 k j := by
  show (if k = K ∧ b ≤ j ∧ j < b + n then src (j - b) else a.2.2.1 k j) = a.2.2.1 k j
  rw [if_neg (fun q => h q.1)]
def sp_parent (a : aS) (x y : Int32) : Int32 × aS := match ix x (a.1 0 0), ix y (a.1 0 0) with
  | some t, some u => if a.1 1 t = 4 ∨ a.1 1 u = 4 then (-1, a) else if (a.2.1 6 t).isSome || (pch a u).contains t then (-4, a) else (1, aP_ a 6 t (some u))
  | _, _ => (-1, a)
def thL (a : aS) (w : Nat) : List Nat → Option Nat → Int32 × Option Nat
  | [], _ => (8, none)
  | t :: ts, o => if t = w then (match o with
    | none => (4, none)
    | some q => (0, some q)) else thL a w ts (nxt a t o)
def sp_that (a : aS) (x y z : Int32) : Int32 × aS := match ix x 8, ix y (a.1 0 0), ix z 8 with
  | some p, some w, some d => (match a.2.1 22 p with
    | none => (9, aW_ a 9)
    | some o => ((thL a w (tyO a o) (some o)).1, match (thL a w (tyO a o) (some o)).2 with
      | some q => aP_ (aW_ a (thL a w (tyO a o) (some o)).1) 22 d (some q)
      | none => aW_ a (thL a w (tyO a o) (some o)).1))
  | _, _, _ => (-1, aW_ a (-1))
def sp_about (a : aS) (x y : Int32) : Int32 × aS := match ix x 8, ix y 4 with
  | some p, some w => (match a.2.1 22 p with
    | none => -3
    | some o => if w = 0 then nI (a.1 17 o) else if w = 2 then (match a.2.1 19 (12 * o + a.1 17 o) with
      | none => -3
      | some q => nI (a.1 17 q)) else if w = 3 then (if a.1 1 (a.1 17 o) = 4 then 0 else nI (a.1 5 (a.1 17 o))) else nI (cnt (isO a o) 12 0), a)
  | _, _ => (-1, a)
def lamA (a : aS) (t : Nat) (ob : Option Nat) (n : Nat) : aS := aN_ (blk (aN_ (aP_ (aN_ a 24 (a.1 23 0) t) 25 (a.1 23 0) ob) 26 (a.1 23 0) n) 27 (4 * a.1 23 0) n (fun k => a.2.2.1 14 (4 * t + k))) 23 0 (a.1 23 0 + 1)
def sp_lambda (a : aS) (x y : Int32) : Int32 × aS := match ix x 8 with
  | some p => (match a.2.1 22 p with
    | none => (-3, a)
    | some o => match ix y (a.1 12 (a.1 17 o) + 1) with
      | none => (-1, a)
      | some n => if a.1 23 0 = 6 then (-2, a) else (nI (a.1 23 0), lamA a (a.1 17 o) (if a.1 11 (a.1 17 o) = 0 then some o else none) n))
  | none => (-1, a)
section RI
variable (ρ : hmS) (ma : Nat) (a : aS) (X : Nat → Nat → Int32)
theorem ri_methodL (hw : Wt a) (hbd : Wb a) {t s : Nat} (ht : t < a.1 0 0) (hs : s ≤ 1) : ∀ (f i N : Nat), i + f = a.1 0 0 → f < N → fX8_method_L12 ma (nI t) (nI s) N (nI i) (rSt ρ ma (mkS a X)) = if (fi (inM a t) f i).isSome then some (-4, rSt ρ ma (mkS a X)) else some (nI (a.1 11 t), rSt ρ ma (mkS (aN_ a 11 t s) X)) := by
  have hn := hw.n12
  intro f
  induction f with
  | zero =>
    intro i N hi hN
    obtain ⟨N, rfl⟩ : ∃ k, N = k + 1 := ⟨N - 1, by omega⟩
    simp only [fX8_method_L12, fX8_method_B12, fX8_method_J65, q_g0, ob_some, n_le (show a.1 0 0 < 100000 by omega) (show i < 100000 by omega), if_pos (show a.1 0 0 ≤ i by omega), q_r11, q_a11 ρ ma a X (show t < 12 by omega), nz s hs, q_s11 ρ ma a X (show t < 12 by omega), fi, Option.isSome_none, Bool.false_eq_true, if_false]
    have := hw.b11 t
    rcases (show a.1 11 t = 0 ∨ a.1 11 t = 1 by omega) with h | h <;> rw [h]
    · rw [if_pos (show nI 0 = 0 from rfl)]; rfl
    · rw [if_neg (show ¬ nI 1 = 0 by decide)]; rfl
  | succ f ih =>
    intro i N hi hN
    obtain ⟨N, rfl⟩ : ∃ k, N = k + 1 := ⟨N - 1, by omega⟩
    have hk := hw.kd (t := i) (by omega)
    simp only [fX8_method_L12, fX8_method_B12, fX8_method_J45, q_g0, ob_some, n_le (show a.1 0 0 < 100000 by omega) (show i < 100000 by omega), if_neg (show ¬ a.1 0 0 ≤ i by omega), q_r1, q_a1 ρ ma a X (show i < 12 by omega), rg_isInMethod (a.1 1 i) (by omega), cb_some, b2_0, q_r2, q_a2 ρ ma a X (show i < 12 by omega), pv_nI (o := a.2.1 2 i) (fun r hr => Nat.lt_trans (hbd.2 _ _ _ hr) (by decide)) (show t < 100000 by omega), n_s, ih (i + 1) N (by omega) (by omega)]
    by_cases h3 : 3 ≤ a.1 1 i
    · by_cases h2 : a.2.1 2 i = some t
      · simp [h3, h2, fi, inM]
      · simp [h3, h2, fi, inM]
    · simp [h3, fi, inM]
theorem ri_method (hw : Wt a) (hbd : Wb a) (x : Int32) {s : Nat} (hs : s ≤ 1) : fX8_method ma x (nI s) (rSt ρ ma (mkS a X)) = some ((sp_method a x s).1, rSt ρ ma (mkS (sp_method a x s).2 X)) := by
  have hn := hw.n12
  unfold sp_method
  cases hx : ix x (a.1 0 0) with
  | none => simp [fX8_method, rf_obC, ob_some, rf_isType ρ ma a X hbd, cb_some, hx, b2]
  | some t =>
    obtain ⟨ht, rfl⟩ := ix_s hx (by omega)
    have := ri_methodL ρ ma a X hw hbd ht hs (a.1 0 0) 0 20 (by omega) (by omega)
    simp only [fX8_method, rf_obC, ob_some, rf_isType ρ ma a X hbd, cb_some, hx, b2_0, Option.isSome_some, Bool.true_eq_false, if_false, reduceCtorEq]
    rw [show (0 : Int32) = nI 0 from rfl, this]
    split <;> rfl
theorem ri_parentL (hw : Wt a) (hbd : Wb a) {t u : Nat} (ht : t < a.1 0 0) (hu : u < a.1 0 0) : ∀ (l : List Nat) (o : Option Nat) (b : Bool) (N : Nat), isCh (a.2.1 6) o l → (∀ x ∈ l, x < a.1 0 0) → l.length < N → fX8_parent_L58 ma (nI t) (nI u) N (b2 b) (pv o) (rSt ρ ma (mkS a X)) = if b || l.contains t then some (-4, rSt ρ ma (mkS a X)) else some (1, rSt ρ ma (mkS (aP_ a 6 t (some u)) X)) := by
  have hn := hw.n12
  intro l
  induction l with
  | nil =>
    intro o b N h _ hN
    obtain ⟨N, rfl⟩ : ∃ k, N = k + 1 := ⟨N - 1, by omega⟩
    cases o with
    | some t => exact h.elim
    | none =>
      have e : sI (rSt ρ ma (mkS a X)) 0 (ma + 6) (nI t) (nI u) = some (rSt ρ ma (mkS (aP_ a 6 t (some u)) X)) := q_s6 ρ ma a X (show t < 12 by omega) (some u)
      show fX8_parent_B58 ma (nI t) (nI u) _ (b2 b) (-3) (rSt ρ ma (mkS a X)) = _
      simp only [fX8_parent_B58, if_true, b2_0, q_r6, ob_some, e]
      cases b <;> simp
  | cons y l ih =>
    intro o b N h hl hN
    obtain ⟨N, rfl⟩ : ∃ k, N = k + 1 := ⟨N - 1, by omega⟩
    cases o with
    | none => exact h.elim
    | some t' =>
      obtain ⟨rfl, h2⟩ := h
      have hy := hl y List.mem_cons_self
      have ih' := fun b => ih (a.2.1 6 y) b N h2 (fun x hx => hl x (List.mem_cons_of_mem _ hx)) (by simpa using hN)
      show fX8_parent_B58 ma (nI t) (nI u) (fX8_parent_L58 ma (nI t) (nI u) N) (b2 b) (nI y) (rSt ρ ma (mkS a X)) = _
      simp only [fX8_parent_B58, if_neg (n_ne3 (show y < 100000 by omega)), n_eq (show y < 100000 by omega) (show t < 100000 by omega), fX8_parent_J77, q_r6, ob_some, q_a6 ρ ma a X (show y < 12 by omega), b2or1, b2or0, ih']
      by_cases h : y = t
      · subst h; simp
      · have h' : ¬ t = y := fun e => h e.symm
        simp [h, h', List.contains_cons]
theorem ri_parent (hi : Iv a) (x y : Int32) : fX8_parent ma x y (rSt ρ ma (mkS a X)) = some ((sp_parent a x y).1, rSt ρ ma (mkS (sp_parent a x y).2 X)) := by
  obtain ⟨hbd, hw, hc, hO, hq, hz⟩ := id hi
  have hn := hw.n12
  unfold sp_parent
  cases hx : ix x (a.1 0 0) with
  | none => simp [fX8_parent, rf_obC, ob_some, rf_isType ρ ma a X hbd, cb_some, hx, b2]
  | some t =>
    obtain ⟨ht, rfl⟩ := ix_s hx (by omega)
    cases hy : ix y (a.1 0 0) with
    | none => simp [fX8_parent, rf_obC, ob_some, rf_isType ρ ma a X hbd, cb_some, hx, hy, b2]
    | some u =>
      obtain ⟨hu, rfl⟩ := ix_s hy (by omega)
      have k1 := hw.kd ht
      have k2 := hw.kd hu
      obtain ⟨pl, p1, p2, p3⟩ := hc.ch hw (o := some u) (fun x hx => by cases hx; exact hu)
      have epl : pch a u = pl := chl_eq p1 p2
      have e1 : (nI (a.1 1 t) = (4 : Int32)) = (a.1 1 t = 4) := n_eq (y := 4) (by omega) (by decide)
      have e2 : (nI (a.1 1 u) = (4 : Int32)) = (a.1 1 u = 4) := n_eq (y := 4) (by omega) (by decide)
      have hL := fun b => ri_parentL ρ ma a X hw hbd ht hu pl (some u) b 20 p1 p3 (by omega)
      simp only [pv_s] at hL
      have e0 : fX8_parent_L58 ma (nI t) (nI u) 20 (0 : Int32) (nI u) (rSt ρ ma (mkS a X)) = _ := hL false
      have e0' : fX8_parent_L58 ma (nI t) (nI u) 20 (1 : Int32) (nI u) (rSt ρ ma (mkS a X)) = _ := hL true
      simp only [fX8_parent, rf_obC, ob_some, rf_isType ρ ma a X hbd, cb_some, hx, hy, b2_0, Option.isSome_some, Bool.true_eq_false, if_false, reduceCtorEq, q_r1, q_a1 ρ ma a X (show t < 12 by omega), q_a1 ρ ma a X (show u < 12 by omega), e1, e2, q_r6, q_a6 ρ ma a X (show t < 12 by omega), pv_3 (o := a.2.1 6 t) (fun r hr => Nat.lt_trans (hbd.2 _ _ _ hr) (by decide)), fX8_parent_J54, e0, e0', epl]
      by_cases h1 : a.1 1 t = 4
      · simp [h1]
      · by_cases h2 : a.1 1 u = 4
        · simp [h1, h2]
        · simp only [h1, h2, if_false, false_or, if_neg (not_false)]
          cases hp : a.2.1 6 t with
          | none => simp; split <;> rfl
          | some q => simp
theorem ri_aboutL (hbd : Wb a) {o : Nat} (ho : o < 520) (x1 x2 : Int32) : ∀ (f i c N : Nat), i + f = 12 → f < N → fX8_about_L122 ma x1 x2 N (nI o) (nI c) (nI i) (rSt ρ ma (mkS a X)) = some (nI (c + cnt (isO a o) f i), rSt ρ ma (mkS a X)) := by
  intro f
  induction f with
  | zero =>
    intro i c N hi hN
    obtain ⟨N, rfl⟩ : ∃ k, N = k + 1 := ⟨N - 1, by omega⟩
    have : i = 12 := by omega
    subst this
    simp only [fX8_about_L122, fX8_about_B122, show ((12 : Int32) ≤ nI 12) = True from by decide, if_true, cnt, Nat.add_zero]
  | succ f ih =>
    intro i c N hi hN
    obtain ⟨N, rfl⟩ : ∃ k, N = k + 1 := ⟨N - 1, by omega⟩
    have h8 : ((12 : Int32) ≤ nI i) = (12 ≤ i) := n_le (x := 12) (by decide) (by omega)
    simp only [fX8_about_L122, fX8_about_B122, h8, if_neg (show ¬ 12 ≤ i by omega), rf_obC, ob_some, rh_isOf ρ ma a X hbd (show 12 * o + i < 6240 by omega), cb_some, b2_0, fX8_about_J146, n_s]
    cases h : isO a o i with
    | false =>
      simp only [if_true]
      rw [show nI c + (0 : Int32) = nI c from by rw [show (0 : Int32) = nI 0 from rfl, nI_add]; rfl, ih (i + 1) c N (by omega) (by omega)]
      simp [cnt, h]
    | true =>
      simp only [Bool.true_eq_false, if_false]
      rw [ih (i + 1) (c + 1) N (by omega) (by omega)]
      simp [cnt, h, Nat.add_assoc]
theorem ri_about (hi : Iv a) (x y : Int32) : fX8_about ma x y (rSt ρ ma (mkS a X)) = some ((sp_about a x y).1, rSt ρ ma (mkS (sp_about a x y).2 X)) := by
  obtain ⟨hbd, hw, hc, hO, hq, hz⟩ := id hi
  have hn := hw.n12
  have hin : ∀ σ, fX8_in y (0 : Int32) (3 : Int32) σ = some (b2 (ix y 4).isSome, σ) := fun σ => rf_in y 4 (by decide) σ
  unfold sp_about
  cases hx : ix x 8 with
  | none => simp [fX8_about, rf_isPlace, cb_some, hx, b2]
  | some p =>
    obtain ⟨hp, rfl⟩ := ix_s hx (by decide)
    cases hy : ix y 4 with
    | none => simp [fX8_about, rf_isPlace, hin, cb_some, hx, hy, b2]
    | some w =>
      obtain ⟨hw4, rfl⟩ := ix_s hy (by decide)
      simp only [fX8_about, rf_isPlace, hin, cb_some, hx, hy, b2_0, Option.isSome_some, Bool.true_eq_false, if_false, q_r22, ob_some, q_a22 ρ ma a X hp, reduceCtorEq]
      cases ho : a.2.1 22 p with
      | none => simp [pv_n]
      | some o =>
        have h1 := hq.2.2.1 p hp o ho
        obtain ⟨h2, h2'⟩ := hq.2.1 o h1
        have h3 := hq.1
        have hkd := hw.kd h2
        have e0 : (nI w = (0 : Int32)) = (w = 0) := n_eq (y := 0) (by omega) (by decide)
        have e2 : (nI w = (2 : Int32)) = (w = 2) := n_eq (y := 2) (by omega) (by decide)
        have e3 : (nI w = (3 : Int32)) = (w = 3) := n_eq (y := 3) (by omega) (by decide)
        have e4 : (nI (a.1 1 (a.1 17 o)) = (4 : Int32)) = (a.1 1 (a.1 17 o) = 4) := n_eq (y := 4) (by omega) (by decide)
        have hL := ri_aboutL ρ ma a X hbd (show o < 520 by omega) (nI p) (nI w) 12 0 0 20 rfl (by decide)
        rw [show nI 0 = (0 : Int32) from rfl] at hL
        simp only [pv_s, if_neg (n_ne3 (show o < 100000 by omega)), q_r17, ob_some, q_a17 ρ ma a X (show o < 520 by omega), e0, e2, e3, q_r19, n_i12, q_a19 ρ ma a X (show 12 * o + a.1 17 o < 6240 by omega), q_r1, q_a1 ρ ma a X (show a.1 17 o < 12 by omega), e4, q_r5, q_a5 ρ ma a X (show a.1 17 o < 12 by omega), hL, Nat.zero_add]
        by_cases w0 : w = 0
        · simp [w0]
        · by_cases w2 : w = 2
          · simp only [w2, if_true]
            cases hr : a.2.1 19 (12 * o + a.1 17 o) with
            | none => simp [pv_n]
            | some q =>
              have hq' := ((hO o h1 (a.1 17 o) (by omega) h2').2.2 q hr).2.1
              simp [pv_s, n_ne3 (show q < 100000 by omega), q_a17 ρ ma a X (show q < 520 by omega), ob_some]
          · simp only [w0, w2, if_false]
            split
            · split <;> rfl
            · rfl
theorem ri_thatL (hi : Iv a) {w d : Nat} (hw' : w < a.1 0 0) (hd : d < 8) (x1 : Int32) : ∀ (ts : List Nat) (o q : Option Nat) (N : Nat), isCh (a.2.1 2) o ts → (∀ x ∈ ts, x < a.1 0 0) → ts.length < N → (∀ r, q = some r → r < a.1 16 0 ∧ ∀ t, o = some t → isO a r t = true) → fX8_that_L62 ma x1 (nI w) (nI d) N (pv q) (pv o) (rSt ρ ma (mkS a X)) = some ((thL a w ts q).1, rSt ρ ma (mkS (match (thL a w ts q).2 with | some q' => aP_ (aW_ a (thL a w ts q).1) 22 d (some q') | none => aW_ a (thL a w ts q).1) X)) := by
  obtain ⟨hbd, hw, hc, hO, hq, hz⟩ := hi
  have hn := hw.n12
  have hJ : ∀ (w0 : Int32) (v4 : Int32), w0 ≠ 0 → fX8_that_J148 ma x1 (nI w) (nI d) v4 w0 (rSt ρ ma (mkS a X)) = some (w0, rSt ρ ma (mkS (aW_ a w0) X)) := by
    intro w0 v4 h0
    simp only [fX8_that_J148, fX8_that_J174, q_w28, ob_some, q_r22, q_g28, show (aW_ a w0).2.2.2 = w0 from rfl, if_neg h0, q_a22 ρ ma _ X hd, q_s22 ρ ma _ X hd, aP_id]
  have hJ0 : ∀ r, fX8_that_J148 ma x1 (nI w) (nI d) (nI r) 0 (rSt ρ ma (mkS a X)) = some (0, rSt ρ ma (mkS (aP_ (aW_ a 0) 22 d (some r)) X)) := by
    intro r
    have e : sI (rSt ρ ma (mkS (aW_ a 0) X)) 0 (ma + 21) (nI d) (nI r) = some (rSt ρ ma (mkS (aP_ (aW_ a 0) 22 d (some r)) X)) := q_s22 ρ ma (aW_ a 0) X hd (some r)
    simp only [fX8_that_J148, fX8_that_J174, q_w28, ob_some, q_r22, q_g28, show (aW_ a 0).2.2.2 = 0 from rfl, if_true, e]
    rfl
  intro ts
  induction ts with
  | nil =>
    intro o q N h _ hN _
    obtain ⟨N, rfl⟩ : ∃ k, N = k + 1 := ⟨N - 1, by omega⟩
    cases o with
    | some t => exact h.elim
    | none =>
      show fX8_that_B62 ma x1 (nI w) (nI d) _ (pv q) (-3) (rSt ρ ma (mkS a X)) = _
      simp only [fX8_that_B62, if_true, fX8_that_J123, hJ 8 (pv q) (by decide), thL]
  | cons t ts ih =>
    intro o q N h hl hN hob
    obtain ⟨N, rfl⟩ : ∃ k, N = k + 1 := ⟨N - 1, by omega⟩
    cases o with
    | none => exact h.elim
    | some t' =>
      obtain ⟨rfl, h2⟩ := h
      have ht := hl t List.mem_cons_self
      have h520 := hq.1
      show fX8_that_B62 ma x1 (nI w) (nI d) (fX8_that_L62 ma x1 (nI w) (nI d) N) (pv q) (nI t) (rSt ρ ma (mkS a X)) = _
      simp only [fX8_that_B62, if_neg (n_ne3 (show t < 100000 by omega)), n_eq (show t < 100000 by omega) (show w < 100000 by omega)]
      unfold thL
      by_cases htw : t = w
      · simp only [if_pos htw, fX8_that_J123, if_neg (n_ne3 (show t < 100000 by omega))]
        cases q with
        | none => simp only [pv_n, if_true, hJ 4 (-3) (by decide)]
        | some r =>
          have := (hob r rfl).1
          simp only [pv_s, if_neg (n_ne3 (show r < 100000 by omega)), hJ0 r]
      · simp only [if_neg htw]
        have hnx : ∀ r, nxt a t q = some r → r < a.1 16 0 ∧ ∀ t', a.2.1 2 t = some t' → isO a r t' = true := by
          intro r hr
          cases q with
          | none => cases hr
          | some qo =>
            obtain ⟨c1, c2⟩ := hob qo rfl
            rw [show nxt a t (some qo) = if bd a t then a.2.1 19 (12 * qo + t) else none from rfl] at hr
            split at hr
            · have := (hO qo c1 t (by omega) (c2 t rfl)).2.2 r hr
              exact ⟨this.2.1, fun w hw' => this.2.2 w hw'⟩
            · cases hr
        rw [← ih (a.2.1 2 t) (nxt a t q) N h2 (fun x hx => hl x (List.mem_cons_of_mem _ hx)) (by simpa using hN) hnx]
        cases q with
        | none => simp only [pv_n, if_true, fX8_that_J91, fX8_that_J109, q_r2, ob_some, q_a2 ρ ma a X (show t < 12 by omega), nxt]
        | some qo =>
          have := (hob qo rfl).1
          simp only [pv_s, if_neg (n_ne3 (show qo < 100000 by omega)), rf_obC, ob_some, rh_isBound ρ ma a X hw ht, cb_some, b2_0, nxt]
          cases hb : bd a t with
          | false => simp only [if_true, fX8_that_J91, fX8_that_J109, q_r2, ob_some, q_a2 ρ ma a X (show t < 12 by omega), Bool.false_eq_true, if_false, pv_n]
          | true => simp only [Bool.true_eq_false, if_false, if_true, q_r19, ob_some, n_i12, q_a19 ρ ma a X (show 12 * qo + t < 6240 by omega), fX8_that_J109, q_r2, q_a2 ρ ma a X (show t < 12 by omega)]
theorem ri_that (hi : Iv a) (x y z : Int32) : fX8_that ma x y z (rSt ρ ma (mkS a X)) = some ((sp_that a x y z).1, rSt ρ ma (mkS (sp_that a x y z).2 X)) := by
  obtain ⟨hbd, hw, hc, hO, hq, hz⟩ := id hi
  have hn := hw.n12
  have hJ : ∀ x y z, fX8_that_J22 ma x y z (rSt ρ ma (mkS a X)) = some (-1, rSt ρ ma (mkS (aW_ a (-1)) X)) := fun x y z => by
    simp only [fX8_that_J22, q_w28, ob_some]
  unfold sp_that
  cases hx : ix x 8 with
  | none => simp [fX8_that, rf_isPlace, cb_some, hx, b2, hJ]
  | some p =>
    obtain ⟨hp, rfl⟩ := ix_s hx (by decide)
    cases hy : ix y (a.1 0 0) with
    | none => simp [fX8_that, rf_isPlace, rf_obC, ob_some, rf_isType ρ ma a X hbd, cb_some, hx, hy, b2, hJ]
    | some w =>
      obtain ⟨hw', rfl⟩ := ix_s hy (by omega)
      cases hz : ix z 8 with
      | none => simp [fX8_that, rf_isPlace, rf_obC, ob_some, rf_isType ρ ma a X hbd, cb_some, hx, hy, hz, b2, hJ]
      | some d =>
        obtain ⟨hd, rfl⟩ := ix_s hz (by decide)
        simp only [fX8_that, rf_isPlace, rf_obC, ob_some, rf_isType ρ ma a X hbd, cb_some, hx, hy, hz, b2_0, Option.isSome_some, Bool.true_eq_false, if_false, q_r22, q_a22 ρ ma a X hp, reduceCtorEq]
        cases ho : a.2.1 22 p with
        | none => simp [pv_n, q_w28, ob_some]
        | some o =>
          have h1 := hq.2.2.1 p hp o ho
          obtain ⟨h2, h2'⟩ := hq.2.1 o h1
          have h3 := hq.1
          obtain ⟨ts, t1, t2, t3⟩ := hw.oc' (o := some (a.1 17 o)) (fun x hx => by cases hx; exact h2)
          have e : tyO a o = ts := chl_eq t1 t2
          have hL := ri_thatL ρ ma a X hi hw' hd (nI p) ts (some (a.1 17 o)) (some o) 20 t1 t3 (by omega) (fun r hr => by cases hr; exact ⟨h1, fun t ht => by cases ht; exact h2'⟩)
          simp only [pv_s] at hL
          simp only [pv_s, if_neg (n_ne3 (show o < 100000 by omega)), q_r17, ob_some, q_a17 ρ ma a X (show o < 520 by omega), hL, e]
theorem ri_lambdaL {t n L : Nat} (hL : L < 6) (hn : n ≤ 4) (ht : t < 12) (x1 : Int32) (b : aS) (hb : b.1 23 0 = L) : ∀ (f i N : Nat), i + f = n → f < N → fX8_lambda_L111 ma x1 (nI n) N (nI t) (nI i) (rSt ρ ma (mkS (blk b 27 (4 * L) i (fun k => b.2.2.1 14 (4 * t + k))) X)) = some (nI L, rSt ρ ma (mkS (aN_ (blk b 27 (4 * L) n (fun k => b.2.2.1 14 (4 * t + k))) 23 0 (L + 1)) X)) := by
  intro f
  induction f with
  | zero =>
    intro i N hi hN
    obtain ⟨N, rfl⟩ : ∃ k, N = k + 1 := ⟨N - 1, by omega⟩
    have : i = n := by omega
    subst this
    have eb : (blk b 27 (4 * L) i (fun k => b.2.2.1 14 (4 * t + k))).1 23 0 = L := hb
    simp only [fX8_lambda_L111, fX8_lambda_B111, n_le (show i < 100000 by omega) (show i < 100000 by omega), Nat.le_refl, if_true, q_g23, ob_some, eb, n_s, q_w23]
    rw [show (aN_ (blk b 27 (4 * L) i (fun k => b.2.2.1 14 (4 * t + k))) 23 0 (L + 1)).1 23 0 = L + 1 from by simp [aN_, up2], nI_pred]
  | succ f ih =>
    intro i N hi hN
    obtain ⟨N, rfl⟩ : ∃ k, N = k + 1 := ⟨N - 1, by omega⟩
    have eb : (blk b 27 (4 * L) i (fun k => b.2.2.1 14 (4 * t + k))).1 23 0 = L := hb
    simp only [fX8_lambda_L111, fX8_lambda_B111, n_le (show n < 100000 by omega) (show i < 100000 by omega), if_neg (show ¬ n ≤ i by omega), q_r27, q_r14, q_g23, ob_some, eb, n_i4, q_a14 ρ ma _ X (show 4 * t + i < 48 by omega), blk_k (show (14 : Nat) ≠ 27 by decide), q_s27 ρ ma _ X (show 4 * L + i < 24 by omega), n_s]
    rw [blk_s b 27 (4 * L) i (fun k => b.2.2.1 14 (4 * t + k)), ih (i + 1) N (by omega) (by omega)]
theorem ri_lambda (hi : Iv a) (x y : Int32) : fX8_lambda ma x y (rSt ρ ma (mkS a X)) = some ((sp_lambda a x y).1, rSt ρ ma (mkS (sp_lambda a x y).2 X)) := by
  obtain ⟨hbd, hw, hc, hO, hq, hz⟩ := id hi
  have hn := hw.n12
  unfold sp_lambda
  cases hx : ix x 8 with
  | none => simp [fX8_lambda, rf_isPlace, cb_some, hx, b2]
  | some p =>
    obtain ⟨hp, rfl⟩ := ix_s hx (by decide)
    simp only [fX8_lambda, rf_isPlace, cb_some, hx, b2_0, Option.isSome_some, Bool.true_eq_false, if_false, q_r22, ob_some, q_a22 ρ ma a X hp, reduceCtorEq]
    cases ho : a.2.1 22 p with
    | none => simp [pv_n]
    | some o =>
      have h1 := hq.2.2.1 p hp o ho
      obtain ⟨h2, h2'⟩ := hq.2.1 o h1
      have h3 := hq.1
      have hnl := hw.nl h2
      have h23 := hq.2.2.2.1
      have hin : ∀ σ, fX8_in y (0 : Int32) (nI (a.1 12 (a.1 17 o))) σ = some (b2 (ix y (a.1 12 (a.1 17 o) + 1)).isSome, σ) := fun σ => by
        have := rf_in y (a.1 12 (a.1 17 o) + 1) (by omega) σ
        rw [nI_pred] at this
        exact this
      simp only [pv_s, if_neg (n_ne3 (show o < 100000 by omega)), q_r17, ob_some, q_a17 ρ ma a X (show o < 520 by omega), q_r12, q_a12 ρ ma a X (show a.1 17 o < 12 by omega), hin, cb_some, b2_0]
      cases hy : ix y (a.1 12 (a.1 17 o) + 1) with
      | none => simp
      | some n =>
        obtain ⟨hm, rfl⟩ := ix_s hy (by omega)
        have e6 : (nI (a.1 23 0) = (6 : Int32)) = (a.1 23 0 = 6) := n_eq (y := 6) (by omega) (by decide)
        simp only [Option.isSome_some, Bool.true_eq_false, if_false, q_g23, ob_some, e6]
        by_cases h6 : a.1 23 0 = 6
        · simp [h6]
        · have hL6 : a.1 23 0 < 6 := by omega
          simp only [if_neg h6, q_r24, ob_some, q_s24 ρ ma a X hL6, q_g23, q_r25, q_r11, q_a11 ρ ma _ X (show a.1 17 o < 12 by omega)]
          have e1 : (aN_ a 24 (a.1 23 0) (a.1 17 o)).1 11 (a.1 17 o) = a.1 11 (a.1 17 o) := by simp [aN_, up2]
          have e2 : (aN_ a 24 (a.1 23 0) (a.1 17 o)).1 23 0 = a.1 23 0 := by simp [aN_, up2]
          have e0 : (nI (a.1 11 (a.1 17 o)) = (0 : Int32)) = (a.1 11 (a.1 17 o) = 0) := n_eq (y := 0) (Nat.lt_trans (hbd.1 11 _) (by decide)) (by decide)
          have hJ : ∀ ob : Option Nat, fX8_lambda_J97 ma (nI p) (nI n) (nI (a.1 17 o)) (pv ob) (nI (a.1 23 0)) (some (ma + 23)) (rSt ρ ma (mkS (aN_ a 24 (a.1 23 0) (a.1 17 o)) X)) = some (nI (a.1 23 0), rSt ρ ma (mkS (lamA a (a.1 17 o) ob n) X)) := by
            intro ob
            have e3 : (aP_ (aN_ a 24 (a.1 23 0) (a.1 17 o)) 25 (a.1 23 0) ob).1 23 0 = a.1 23 0 := by simp [aN_, aP_, up2]
            have e4 : (aN_ (aP_ (aN_ a 24 (a.1 23 0) (a.1 17 o)) 25 (a.1 23 0) ob) 26 (a.1 23 0) n).1 23 0 = a.1 23 0 := by simp [aN_, aP_, up2]
            simp only [fX8_lambda_J97, ob_some, q_s25 ρ ma _ X hL6, q_r26, q_g23, e3, q_s26 ρ ma _ X hL6]
            have := ri_lambdaL ρ ma X hL6 (show n ≤ 4 by omega) (show a.1 17 o < 12 by omega) (nI p) (aN_ (aP_ (aN_ a 24 (a.1 23 0) (a.1 17 o)) 25 (a.1 23 0) ob) 26 (a.1 23 0) n) e4 n 0 20 (by omega) (by omega)
            rw [blk_0] at this
            exact this
          rw [e1, e2]
          simp only [e0]
          by_cases h0 : a.1 11 (a.1 17 o) = 0
          · simp only [if_pos h0]
            exact hJ (some o)
          · simp only [if_neg h0]
            exact hJ none
end RI
