/-! The reference: objects made. -/
def fouL (a : aS) (w : Nat) : List Nat → Option Nat → Option Nat
  | [], _ => none
  | _ :: _, none => none
  | t :: ts, some o => if isO a o w then some o else fouL a w ts (a.2.1 19 (12 * o + t))
def lvA (a : aS) (o t : Nat) (ab : Option Nat) : aS := blk (blk (aP_ (aP_ a 18 (12 * o + t) (some (a.1 7 t))) 19 (12 * o + t) ab) 20 (4 * (12 * o + t)) (a.1 7 t) (fun k => a.2.2.1 9 (4 * t + k))) 21 (4 * (12 * o + t)) (a.1 5 t) (fun k => a.2.2.1 14 (4 * wo a t + k))
def rst (a : aS) (o m : Nat) : aS := (a.1, (fun k j => if k = 18 ∧ 12 * o ≤ j ∧ j < 12 * o + m then none else a.2.1 k j), a.2.2)
theorem rst_0 (a : aS) (o : Nat) : rst a o 0 = a := by
  refine Prod.ext rfl (Prod.ext (funext fun k => funext fun j => ?_) rfl)
  show (if k = 18 ∧ 12 * o ≤ j ∧ j < 12 * o + 0 then none else a.2.1 k j) = a.2.1 k j
  rw [if_neg (by omega)]
theorem rst_s (a : aS) (o n : Nat) : aP_ (rst a o n) 18 (12 * o + n) none = rst a o (n + 1) := by
  refine Prod.ext rfl (Prod.ext (funext fun k => funext fun j => ?_) rfl)
  show (if k = 18 ∧ j = 12 * o + n then none else if k = 18 ∧ 12 * o ≤ j ∧ j < 12 * o + n then none else a.2.1 k j) = if k = 18 ∧ 12 * o ≤ j ∧ j < 12 * o + (n + 1) then none else a.2.1 k j
  by_cases h1 : k = 18 ∧ j = 12 * o + n
  · rw [if_pos h1, if_pos ⟨h1.1, by omega⟩]
  · rw [if_neg h1]
    by_cases h2 : k = 18 ∧ 12 * o ≤ j ∧ j < 12 * o + n
    · rw [if_pos h2, if_pos ⟨h2.1, by omega⟩]
    · rw [if_neg h2, if_neg (fun q => by
        rcases Nat.lt_or_ge j (12 * o + n) with h | h
        · exact h2 ⟨q.1, q.2.1, h⟩
        · exact h1 ⟨q.1, by omega⟩)]
/-- the object that a parent's level is bound to -/
def abt (a : aS) (first : Option Nat) (type t : Nat) : Option Nat := if bd a t then fouL a (wo a t) (och a (a.2.1 2 type)) first else none
def mkL (o : Nat) (first : Option Nat) (type : Nat) : List Nat → aS → Bool × aS
  | [], a => (true, a)
  | t :: ts, a => if bd a t && (abt a first type t).isNone then (false, a) else mkL o first type ts (lvA a o t (abt a first type t))
def mk2 (a : aS) (t p : Nat) (first : Option Nat) : Int32 × aS :=
  if (mkL (a.1 16 0) first t (pch a t).tail (lvA (rst (aW_ a 0) (a.1 16 0) 12) (a.1 16 0) t first)).1 then (0, aP_ (aN_ (aN_ (mkL (a.1 16 0) first t (pch a t).tail (lvA (rst (aW_ a 0) (a.1 16 0) 12) (a.1 16 0) t first)).2 17 (a.1 16 0) t) 16 0 (a.1 16 0 + 1)) 22 p (some (a.1 16 0))) else (3, aW_ (mkL (a.1 16 0) first t (pch a t).tail (lvA (rst (aW_ a 0) (a.1 16 0) 12) (a.1 16 0) t first)).2 3)
def sp_make (a : aS) (x y z : Int32) : Int32 × aS := match ix x (a.1 0 0), ix z 8 with
  | some t, some p => if bd a t then (match ix y 8 with
    | none => (-1, aW_ a (-1))
    | some f => match a.2.1 22 f with
      | none => (1, aW_ a 1)
      | some q => if isO a q (wo a t) then mk2 a t p (some q) else (2, aW_ a 2)) else mk2 a t p none
  | _, _ => (-1, aW_ a (-1))
/-- what stays as it was while an object is made: all but the longs 20, 21, the numbers 18, 19 of object o, and what came of it -/
def Smk (a a' : aS) (o : Nat) : Prop := a'.1 = a.1 ∧ (∀ k j, (k = 18 ∨ k = 19) → (j < 12 * o ∨ 12 * o + 12 ≤ j) → a'.2.1 k j = a.2.1 k j) ∧ (∀ k j, k ≠ 18 → k ≠ 19 → a'.2.1 k j = a.2.1 k j) ∧ (∀ k j, (k = 20 ∨ k = 21) → (j < 4 * (12 * o) ∨ 4 * (12 * o + 12) ≤ j) → a'.2.2.1 k j = a.2.2.1 k j) ∧ (∀ k j, k ≠ 20 → k ≠ 21 → a'.2.2.1 k j = a.2.2.1 k j)
theorem Smk.refl (a : aS) (o : Nat) : Smk a a o := ⟨rfl, fun _ _ _ _ => rfl, fun _ _ _ _ => rfl, fun _ _ _ _ => rfl, fun _ _ _ _ => rfl⟩
theorem Smk.trans {a b c : aS} {o : Nat} (h : Smk a b o) (h' : Smk b c o) : Smk a c o := ⟨h'.1.trans h.1, fun k j h1 h2 => (h'.2.1 k j h1 h2).trans (h.2.1 k j h1 h2), fun k j h1 h2 => (h'.2.2.1 k j h1 h2).trans (h.2.2.1 k j h1 h2), fun k j h1 h2 => (h'.2.2.2.1 k j h1 h2).trans (h.2.2.2.1 k j h1 h2), fun k j h1 h2 => (h'.2.2.2.2 k j h1 h2).trans (h.2.2.2.2 k j h1 h2)⟩
theorem Smk.w (a : aS) (o : Nat) (w : Int32) : Smk a (aW_ a w) o := ⟨rfl, fun _ _ _ _ => rfl, fun _ _ _ _ => rfl, fun _ _ _ _ => rfl, fun _ _ _ _ => rfl⟩
theorem Smk.hrst (a : aS) (o : Nat) {m : Nat} (hm : m ≤ 12) : Smk a (rst a o m) o := ⟨rfl, fun k j _ h => by
    show (if k = 18 ∧ 12 * o ≤ j ∧ j < 12 * o + m then none else a.2.1 k j) = _
    rw [if_neg (by omega)], fun k j h _ => by
    show (if k = 18 ∧ 12 * o ≤ j ∧ j < 12 * o + m then none else a.2.1 k j) = _
    rw [if_neg (by omega)], fun _ _ _ _ => rfl, fun _ _ _ _ => rfl⟩
theorem Smk.hlvA (a : aS) (o : Nat) {t : Nat} (ht : t < 12) (h7 : a.1 7 t ≤ 4) (h5 : a.1 5 t ≤ 4) (ab : Option Nat) : Smk a (lvA a o t ab) o := by
  refine ⟨rfl, fun k j _ h => ?_, fun k j h1 h2 => ?_, fun k j _ h => ?_, fun k j h1 h2 => ?_⟩
  · show (if k = 19 ∧ j = 12 * o + t then ab else if k = 18 ∧ j = 12 * o + t then some (a.1 7 t) else a.2.1 k j) = _
    rw [if_neg (by omega), if_neg (by omega)]
  · show (if k = 19 ∧ j = 12 * o + t then ab else if k = 18 ∧ j = 12 * o + t then some (a.1 7 t) else a.2.1 k j) = _
    rw [if_neg (by omega), if_neg (by omega)]
  · show (if k = 21 ∧ 4 * (12 * o + t) ≤ j ∧ j < 4 * (12 * o + t) + a.1 5 t then _ else if k = 20 ∧ 4 * (12 * o + t) ≤ j ∧ j < 4 * (12 * o + t) + a.1 7 t then _ else a.2.2.1 k j) = _
    rw [if_neg (by omega), if_neg (by omega)]
  · show (if k = 21 ∧ 4 * (12 * o + t) ≤ j ∧ j < 4 * (12 * o + t) + a.1 5 t then _ else if k = 20 ∧ 4 * (12 * o + t) ≤ j ∧ j < 4 * (12 * o + t) + a.1 7 t then _ else a.2.2.1 k j) = _
    rw [if_neg (by omega), if_neg (by omega)]
theorem Smk.hwo {a b : aS} {o : Nat} (h : Smk a b o) (t : Nat) : wo b t = wo a t := by
  unfold wo
  rw [h.2.2.1 2 t (by decide) (by decide)]
theorem Smk.k2 {a b : aS} {o : Nat} (h : Smk a b o) : b.2.1 2 = a.2.1 2 := funext fun t => h.2.2.1 2 t (by decide) (by decide)
theorem Smk.k6 {a b : aS} {o : Nat} (h : Smk a b o) : b.2.1 6 = a.2.1 6 := funext fun t => h.2.2.1 6 t (by decide) (by decide)
theorem Smk.hbd {a b : aS} {o : Nat} (h : Smk a b o) (t : Nat) : bd b t = bd a t := by
  unfold bd
  rw [h.1, h.k2]
theorem Smk.hisO {a b : aS} {o : Nat} (h : Smk a b o) {q t : Nat} (hq : q < o) (ht : t < 12) : isO b q t = isO a q t := by
  unfold isO
  rw [h.2.1 18 (12 * q + t) (Or.inl rfl) (by omega)]
theorem Smk.a19 {a b : aS} {o : Nat} (h : Smk a b o) {q t : Nat} (hq : q < o) (ht : t < 12) : b.2.1 19 (12 * q + t) = a.2.1 19 (12 * q + t) := h.2.1 19 (12 * q + t) (Or.inr rfl) (by omega)
theorem Smk.hWt {a b : aS} {o : Nat} (h : Smk a b o) (hw : Wt a) : Wt b := by
  obtain ⟨h1, h2, h3⟩ := hw
  refine ⟨by rw [h.1]; exact h1, fun j => by rw [h.1]; exact h2 j, fun t ht => ?_⟩
  rw [h.1] at ht
  have := h3 t ht
  rw [h.1, h.2.2.1 2 t (by decide) (by decide), h.2.2.1 3 t (by decide) (by decide), h.2.2.1 6 t (by decide) (by decide)]
  exact this
theorem Smk.hWc {a b : aS} {o : Nat} (h : Smk a b o) (hc : Wc a) : Wc b := fun t ht => by
  rw [h.1] at ht
  rw [h.k6]
  exact hc t ht
theorem blk_b {a : aS} {K b n : Nat} {src : Nat → Int64} (h : Wb a) : Wb (blk a K b n src) := h
theorem lvA_b {a : aS} {o t : Nat} {ab : Option Nat} (h : Wb a) (hab : ∀ q, ab = some q → q < 10000) : Wb (lvA a o t ab) := by
  refine ⟨h.1, fun k j q hq => ?_⟩
  have hq' : (if k = 19 ∧ j = 12 * o + t then ab else if k = 18 ∧ j = 12 * o + t then some (a.1 7 t) else a.2.1 k j) = some q := hq
  split at hq'
  · exact hab q hq'
  · split at hq'
    · cases hq'; exact h.1 _ _
    · exact h.2 _ _ _ hq'
theorem rst_b {a : aS} {o m : Nat} (h : Wb a) : Wb (rst a o m) := by
  refine ⟨h.1, fun k j q hq => ?_⟩
  have hq' : (if k = 18 ∧ 12 * o ≤ j ∧ j < 12 * o + m then none else a.2.1 k j) = some q := hq
  split at hq'
  · cases hq'
  · exact h.2 _ _ _ hq'
theorem fou_s {a : aS} {w : Nat} : ∀ {ts : List Nat} {q : Option Nat} {r : Nat}, fouL a w ts q = some r → isO a r w = true := by
  intro ts
  induction ts with
  | nil => intro q r h; cases h
  | cons t ts ih =>
    intro q r h
    cases q with
    | none => cases h
    | some o =>
      unfold fouL at h
      split at h
      · rename_i hi; cases h; exact hi
      · exact ih h
/-- an object that a chain of outer types begins with -/
def hdO (a : aS) (ts : List Nat) (q : Option Nat) : Prop := ∀ r, q = some r → r < a.1 16 0 ∧ ∃ t ts', ts = t :: ts' ∧ isO a r t = true
theorem hdO_n {a : aS} (hw : Wt a) (hO : Wo a (a.1 16 0)) {t : Nat} {ts : List Nat} {o : Nat} (ht : t < a.1 0 0) (h2 : isCh (a.2.1 2) (a.2.1 2 t) ts) (hob : hdO a (t :: ts) (some o)) : hdO a ts (a.2.1 19 (12 * o + t)) := by
  have hn := hw.n12
  intro r hr
  obtain ⟨c1, t', ts', c2, c3⟩ := hob o rfl
  cases c2
  obtain ⟨d1, d2, d3⟩ := (hO o c1 t (by omega) c3).2.2 r hr
  refine ⟨d2, ?_⟩
  cases hwo : a.2.1 2 t with
  | none =>
    exfalso
    by_cases hk : a.1 1 t = 0
    · simp [bd, hk] at d1
    · obtain ⟨w, -, hw2⟩ := hw.o1 ht hk
      rw [hwo] at hw2; cases hw2
  | some w =>
    rw [hwo] at h2
    obtain ⟨l', e, -⟩ := isCh_s h2
    exact ⟨w, l', e, d3 w hwo⟩
theorem fou_lt {a : aS} (hw : Wt a) (hO : Wo a (a.1 16 0)) {w : Nat} : ∀ {ts : List Nat} {o q : Option Nat} {r : Nat}, isCh (a.2.1 2) o ts → (∀ x ∈ ts, x < a.1 0 0) → hdO a ts q → fouL a w ts q = some r → r < a.1 16 0 := by
  intro ts
  induction ts with
  | nil => intro o q r _ _ _ h; cases h
  | cons t ts ih =>
    intro o q r hch hl hob h
    cases o with
    | none => exact hch.elim
    | some t' =>
      obtain ⟨rfl, h2⟩ := hch
      cases q with
      | none => cases h
      | some p =>
        unfold fouL at h
        split at h
        · cases h; exact (hob r rfl).1
        · exact ih h2 (fun x hx => hl x (List.mem_cons_of_mem _ hx)) (hdO_n hw hO (hl t List.mem_cons_self) h2 hob) h
section RJ
variable (ρ : hmS) (ma : Nat) (a : aS) (X : Nat → Nat → Int32)
theorem rj_foundL (hbd : Wb a) (hw : Wt a) (hO : Wo a (a.1 16 0)) (h520 : a.1 16 0 < 520) {w : Nat} (hw' : w < 12) (x1 x2 : Int32) : ∀ (ts : List Nat) (o q : Option Nat) (N : Nat), isCh (a.2.1 2) o ts → (∀ x ∈ ts, x < a.1 0 0) → ts.length < N → hdO a ts q → fX8_found_L11 ma x1 x2 (nI w) N (pv q) (pv o) (rSt ρ ma (mkS a X)) = some (pv (fouL a w ts q), rSt ρ ma (mkS a X)) := by
  have hn := hw.n12
  intro ts
  induction ts with
  | nil =>
    intro o q N h _ hN hob
    obtain ⟨N, rfl⟩ : ∃ k, N = k + 1 := ⟨N - 1, by omega⟩
    cases q with
    | some r => obtain ⟨-, t, ts', e, -⟩ := hob r rfl; cases e
    | none =>
      show fX8_found_B11 ma x1 x2 (nI w) _ (-3) (pv o) (rSt ρ ma (mkS a X)) = _
      simp only [fX8_found_B11, if_true, fouL, pv_n]
  | cons t ts ih =>
    intro o q N h hl hN hob
    obtain ⟨N, rfl⟩ : ∃ k, N = k + 1 := ⟨N - 1, by omega⟩
    cases o with
    | none => exact h.elim
    | some t' =>
      obtain ⟨rfl, h2⟩ := h
      have ht := hl t List.mem_cons_self
      cases q with
      | none =>
        show fX8_found_B11 ma x1 x2 (nI w) _ (-3) (nI t) (rSt ρ ma (mkS a X)) = _
        simp only [fX8_found_B11, if_true, fouL, pv_n]
      | some r =>
        have hr := (hob r rfl).1
        have ih' := ih (a.2.1 2 t) (a.2.1 19 (12 * r + t)) N h2 (fun x hx => hl x (List.mem_cons_of_mem _ hx)) (by simpa using hN) (hdO_n hw hO ht h2 hob)
        show fX8_found_B11 ma x1 x2 (nI w) (fX8_found_L11 ma x1 x2 (nI w) N) (nI r) (nI t) (rSt ρ ma (mkS a X)) = _
        simp only [fX8_found_B11, if_neg (n_ne3 (show r < 100000 by omega)), rf_obC, ob_some, rh_isOf ρ ma a X hbd (show 12 * r + w < 6240 by omega), cb_some, b2_0, q_r19, n_i12, q_a19 ρ ma a X (show 12 * r + t < 6240 by omega), q_r2, q_a2 ρ ma a X (show t < 12 by omega), ih', fouL]
        cases isO a r w <;> simp [pv_s]
theorem rj_levelA {o t : Nat} (ho : o < 520) (ht : t < 12) (x1 x2 x3 : Int32) (b : aS) (h5 : b.1 5 t ≤ 4) {w : Nat} (hwo : 0 < b.1 5 t → b.2.1 2 t = some w ∧ w < 12) (hx2 : x2 = nI t) : ∀ (f i N : Nat), i + f = b.1 5 t → f < N → fX8_level_L75 ma x1 x2 x3 N (nI (12 * o + t)) (nI i) (rSt ρ ma (mkS (blk b 21 (4 * (12 * o + t)) i (fun k => b.2.2.1 14 (4 * w + k))) X)) = some ((), rSt ρ ma (mkS (blk b 21 (4 * (12 * o + t)) (b.1 5 t) (fun k => b.2.2.1 14 (4 * w + k))) X)) := by
  subst hx2
  intro f
  induction f with
  | zero =>
    intro i N hi hN
    obtain ⟨N, rfl⟩ : ∃ k, N = k + 1 := ⟨N - 1, by omega⟩
    have hi' : i = b.1 5 t := by omega
    have eb : ∀ i, (blk b 21 (4 * (12 * o + t)) i (fun k => b.2.2.1 14 (4 * w + k))).1 5 t = b.1 5 t := fun _ => rfl
    simp only [fX8_level_L75, fX8_level_B75, q_r5, ob_some, q_a5 ρ ma _ X ht, eb, n_le (show b.1 5 t < 100000 by omega) (show i < 100000 by omega), if_pos (show b.1 5 t ≤ i by omega)]
    rw [hi']
  | succ f ih =>
    intro i N hi hN
    obtain ⟨N, rfl⟩ : ∃ k, N = k + 1 := ⟨N - 1, by omega⟩
    obtain ⟨w1, w2⟩ := hwo (by omega)
    have eb : ∀ i, (blk b 21 (4 * (12 * o + t)) i (fun k => b.2.2.1 14 (4 * w + k))).1 5 t = b.1 5 t := fun _ => rfl
    have ew : ∀ i, (blk b 21 (4 * (12 * o + t)) i (fun k => b.2.2.1 14 (4 * w + k))).2.1 2 t = some w := fun _ => w1
    simp only [fX8_level_L75, fX8_level_B75, q_r5, ob_some, q_a5 ρ ma _ X ht, eb, n_le (show b.1 5 t < 100000 by omega) (show i < 100000 by omega), if_neg (show ¬ b.1 5 t ≤ i by omega), q_r21, q_r14, q_r2, q_a2 ρ ma _ X ht, ew, pv_s, n_i4, q_a14 ρ ma _ X (show 4 * w + i < 48 by omega), blk_k (show (14 : Nat) ≠ 21 by decide), q_s21 ρ ma _ X (show 4 * (12 * o + t) + i < 24960 by omega), n_s]
    rw [blk_s b 21 (4 * (12 * o + t)) i (fun k => b.2.2.1 14 (4 * w + k)), ih (i + 1) N (by omega) (by omega)]
theorem rj_levelB {o t : Nat} (ho : o < 520) (ht : t < 12) (x1 x3 : Int32) (b : aS) (h7 : b.1 7 t ≤ 4) (h5 : b.1 5 t ≤ 4) {w : Nat} (hwo : 0 < b.1 5 t → b.2.1 2 t = some w ∧ w < 12) : ∀ (f i N : Nat), i + f = b.1 7 t → f < N → fX8_level_L32 ma x1 (nI t) x3 N (nI (12 * o + t)) (nI i) (rSt ρ ma (mkS (blk b 20 (4 * (12 * o + t)) i (fun k => b.2.2.1 9 (4 * t + k))) X)) = some ((), rSt ρ ma (mkS (blk (blk b 20 (4 * (12 * o + t)) (b.1 7 t) (fun k => b.2.2.1 9 (4 * t + k))) 21 (4 * (12 * o + t)) (b.1 5 t) (fun k => b.2.2.1 14 (4 * w + k))) X)) := by
  intro f
  induction f with
  | zero =>
    intro i N hi hN
    obtain ⟨N, rfl⟩ : ∃ k, N = k + 1 := ⟨N - 1, by omega⟩
    have hi' : i = b.1 7 t := by omega
    subst hi'
    have eb : ∀ i, (blk b 20 (4 * (12 * o + t)) i (fun k => b.2.2.1 9 (4 * t + k))).1 7 t = b.1 7 t := fun _ => rfl
    simp only [fX8_level_L32, fX8_level_B32, q_r7, ob_some, q_a7 ρ ma _ X ht, eb, n_le (show b.1 7 t < 100000 by omega) (show b.1 7 t < 100000 by omega), Nat.le_refl, if_true]
    have := rj_levelA ρ ma X ho ht x1 (nI t) x3 (blk b 20 (4 * (12 * o + t)) (b.1 7 t) (fun k => b.2.2.1 9 (4 * t + k))) h5 (w := w) hwo rfl (b.1 5 t) 0 20 (Nat.zero_add _) (by omega)
    rw [blk_0] at this
    exact this
  | succ f ih =>
    intro i N hi hN
    obtain ⟨N, rfl⟩ : ∃ k, N = k + 1 := ⟨N - 1, by omega⟩
    have eb : ∀ i, (blk b 20 (4 * (12 * o + t)) i (fun k => b.2.2.1 9 (4 * t + k))).1 7 t = b.1 7 t := fun _ => rfl
    simp only [fX8_level_L32, fX8_level_B32, q_r7, ob_some, q_a7 ρ ma _ X ht, eb, n_le (show b.1 7 t < 100000 by omega) (show i < 100000 by omega), if_neg (show ¬ b.1 7 t ≤ i by omega), q_r20, q_r9, n_i4, q_a9 ρ ma _ X (show 4 * t + i < 48 by omega), blk_k (show (9 : Nat) ≠ 20 by decide), q_s20 ρ ma _ X (show 4 * (12 * o + t) + i < 24960 by omega), n_s]
    rw [blk_s b 20 (4 * (12 * o + t)) i (fun k => b.2.2.1 9 (4 * t + k)), ih (i + 1) N (by omega) (by omega)]
theorem rj_level (hw : Wt a) {o t : Nat} (ho : o < 520) (ht : t < a.1 0 0) (ab : Option Nat) : fX8_level ma (nI o) (nI t) (pv ab) (rSt ρ ma (mkS a X)) = some ((), rSt ρ ma (mkS (lvA a o t ab) X)) := by
  have hn := hw.n12
  have h7 := hw.nf ht
  have h5 := hw.a4 ht
  have hj : 12 * o + t < 6240 := by omega
  have e1 : sI (rSt ρ ma (mkS a X)) 0 (ma + 17) (nI (12 * o + t)) (nI (a.1 7 t)) = some (rSt ρ ma (mkS (aP_ a 18 (12 * o + t) (some (a.1 7 t))) X)) := q_s18 ρ ma a X hj (some (a.1 7 t))
  simp only [fX8_level, q_r18, q_r7, ob_some, q_a7 ρ ma a X (show t < 12 by omega), n_i12, e1, q_r19, q_s19 ρ ma _ X hj]
  have hwo : 0 < a.1 5 t → a.2.1 2 t = some (wo a t) ∧ wo a t < 12 := fun h0 => by
    by_cases hk : a.1 1 t < 3
    · rw [hw.a0 ht hk] at h0; omega
    · obtain ⟨w, w1, w2⟩ := hw.o1 ht (by omega)
      have : wo a t = w := by simp [wo, w2]
      rw [this]; exact ⟨w2, by omega⟩
  have := rj_levelB ρ ma X ho (show t < 12 by omega) (nI o) (pv ab) (aP_ (aP_ a 18 (12 * o + t) (some (a.1 7 t))) 19 (12 * o + t) ab) h7 h5 (w := wo a t) (fun h0 => hwo h0) (a.1 7 t) 0 20 (Nat.zero_add _) (by omega)
  rw [blk_0] at this
  exact this
theorem Smk.hWo {a b : aS} {o : Nat} (h : Smk a b o) (hn : a.1 0 0 ≤ 12) (hw : Wt a) (ho : a.1 16 0 = o) (hO : Wo a o) : Wo b o := by
  intro q hq u hu hi
  rw [h.hisO hq hu] at hi
  obtain ⟨h1, h2, h3⟩ := hO q hq u hu hi
  refine ⟨by rw [h.1]; exact h1, fun r hr => by
    rw [h.2.1 18 (12 * q + u) (Or.inl rfl) (by omega)] at hr
    rw [h.1]; exact h2 r hr, fun r hr => ?_⟩
  rw [h.a19 hq hu] at hr
  obtain ⟨d1, d2, d3⟩ := h3 r hr
  refine ⟨by rw [h.hbd]; exact d1, by rw [h.1]; exact d2, fun w hw' => ?_⟩
  rw [h.k2] at hw'
  have hwt := (hw.ou h1 hw').1
  rw [h.hisO (by omega) (by omega)]
  exact d3 w hw'
theorem Smk.hhd {a b : aS} {o : Nat} (h : Smk a b o) (ho : a.1 16 0 = o) {ts : List Nat} (hl : ∀ x ∈ ts, x < 12) {q : Option Nat} (hd : hdO a ts q) : hdO b ts q := by
  intro r hr
  obtain ⟨h1, t, ts', e, h2⟩ := hd r hr
  refine ⟨by rw [h.1]; exact h1, t, ts', e, ?_⟩
  rw [h.hisO (by omega) (hl t (by rw [e]; exact List.mem_cons_self))]
  exact h2
theorem Smk.hoch {a b : aS} {o : Nat} (h : Smk a b o) (q : Option Nat) : och b q = och a q := by unfold och; rw [h.k2]
/-- what make's end leaves -/
def mkE (r : Bool × aS) (o t p : Nat) : Int32 × aS := if r.1 then (0, aP_ (aN_ (aN_ r.2 17 o t) 16 0 (o + 1)) 22 p (some o)) else (3, aW_ r.2 3)
theorem abt_lt {a c : aS} (hw : Wt a) (hO : Wo a (a.1 16 0)) (hS : Smk a c (a.1 16 0)) {t : Nat} (ht : t < a.1 0 0) {first : Option Nat} (hd : hdO a (och a (a.2.1 2 t)) first) {u r : Nat} (h : abt c first t u = some r) : r < a.1 16 0 := by
  have hn := hw.n12
  have hwc := hS.hWt hw
  obtain ⟨ts, t1, t2, t3⟩ := hw.oc' (o := a.2.1 2 t) (fun x hx => by have := (hw.ou ht hx).1; omega)
  have e : och a (a.2.1 2 t) = ts := chl_eq t1 t2
  rw [e] at hd
  unfold abt at h
  split at h
  · rw [hS.hoch, hS.k2, e] at h
    have hO' : Wo c (c.1 16 0) := by rw [hS.1]; exact hS.hWo hn hw rfl hO
    have := fou_lt hwc hO' (o := a.2.1 2 t) (by rw [hS.k2]; exact t1) (by rw [hS.1]; exact t3) (hS.hhd rfl (fun x hx => by have := t3 x hx; omega) hd) h
    rw [hS.1] at this
    exact this
  · cases h
theorem rj_makeL (hi : Iv a) {t p : Nat} (ht : t < a.1 0 0) (hp : p < 8) (x2 : Int32) {first : Option Nat} (hd : hdO a (och a (a.2.1 2 t)) first) : ∀ (l : List Nat) (po : Option Nat) (N : Nat) (c : aS), isCh (a.2.1 6) po l → (∀ x ∈ l, x < a.1 0 0) → l.length < N → Smk a c (a.1 16 0) → Wb c → fX8_make_L172 ma (nI t) x2 (nI p) N (nI (a.1 16 0)) (pv first) (pv po) (rSt ρ ma (mkS c X)) = some ((mkE (mkL (a.1 16 0) first t l c) (a.1 16 0) t p).1, rSt ρ ma (mkS (mkE (mkL (a.1 16 0) first t l c) (a.1 16 0) t p).2 X)) := by
  obtain ⟨hbd, hw, hc, hO, hq, hz⟩ := hi
  have hn := hw.n12
  have h520 := hq.1
  intro l
  induction l with
  | nil =>
    intro po N c h _ hN hS hb
    obtain ⟨N, rfl⟩ : ∃ k, N = k + 1 := ⟨N - 1, by omega⟩
    cases po with
    | some t => exact h.elim
    | none =>
      have e1 : (aN_ c 17 (a.1 16 0) t).1 16 0 = a.1 16 0 := by
        rw [show (aN_ c 17 (a.1 16 0) t).1 16 0 = c.1 16 0 by simp [aN_, up2], hS.1]
      have e2 : sI (rSt ρ ma (mkS (aN_ (aN_ c 17 (a.1 16 0) t) 16 0 (a.1 16 0 + 1)) X)) 0 (ma + 21) (nI p) (nI (a.1 16 0)) = some (rSt ρ ma (mkS (aP_ (aN_ (aN_ c 17 (a.1 16 0) t) 16 0 (a.1 16 0 + 1)) 22 p (some (a.1 16 0))) X)) := q_s22 ρ ma _ X hp (some (a.1 16 0))
      show fX8_make_B172 ma (nI t) x2 (nI p) _ (nI (a.1 16 0)) (pv first) (-3) (rSt ρ ma (mkS c X)) = _
      simp only [fX8_make_B172, if_true, q_r17, ob_some, q_s17 ρ ma c X h520, q_g16, e1, n_s, q_w16, q_r22, e2, mkL, mkE]
  | cons u l ih =>
    intro po N c h hl hN hS hb
    obtain ⟨N, rfl⟩ : ∃ k, N = k + 1 := ⟨N - 1, by omega⟩
    cases po with
    | none => exact h.elim
    | some u' =>
      obtain ⟨rfl, h2⟩ := h
      have hu := hl u List.mem_cons_self
      have huc : u < c.1 0 0 := by rw [hS.1]; exact hu
      have hwc := hS.hWt hw
      have habt : ∀ r, abt c first t u = some r → r < a.1 16 0 := fun r hr => abt_lt hw hO hS ht hd hr
      have h7 := hwc.nf huc
      have h5 := hwc.a4 huc
      have ih' := ih (a.2.1 6 u) N (lvA c (a.1 16 0) u (abt c first t u)) h2 (fun x hx => hl x (List.mem_cons_of_mem _ hx)) (by simpa using hN) (hS.trans (Smk.hlvA c (a.1 16 0) (show u < 12 by omega) h7 h5 _)) (lvA_b hb (fun q hq => by have := habt q hq; omega))
      have eJ : ∀ ab, abt c first t u = ab → fX8_make_J235 ma (nI t) x2 (nI p) (fX8_make_L172 ma (nI t) x2 (nI p) N) (nI (a.1 16 0)) (pv first) (nI u) (pv ab) (rSt ρ ma (mkS c X)) = some ((mkE (mkL (a.1 16 0) first t l (lvA c (a.1 16 0) u ab)) (a.1 16 0) t p).1, rSt ρ ma (mkS (mkE (mkL (a.1 16 0) first t l (lvA c (a.1 16 0) u ab)) (a.1 16 0) t p).2 X)) := by
        intro ab hab
        rw [hab] at ih'
        have e6 : (lvA c (a.1 16 0) u ab).2.1 6 u = a.2.1 6 u := by
          rw [← hab]
          exact (hS.trans (Smk.hlvA c (a.1 16 0) (show u < 12 by omega) h7 h5 _)).2.2.1 6 u (by decide) (by decide)
        simp only [fX8_make_J235, rf_obC, ob_some, rj_level ρ ma c X hwc h520 huc ab, cb_some, q_r6, q_a6 ρ ma _ X (show u < 12 by omega), e6, ih']
      show fX8_make_B172 ma (nI t) x2 (nI p) (fX8_make_L172 ma (nI t) x2 (nI p) N) (nI (a.1 16 0)) (pv first) (nI u) (rSt ρ ma (mkS c X)) = _
      unfold mkL
      cases hbu : bd c u with
      | false =>
        have hab : abt c first t u = none := by simp [abt, hbu]
        simp only [fX8_make_B172, if_neg (n_ne3 (show u < 100000 by omega)), rf_obC, ob_some, rh_isBound ρ ma c X hwc huc, cb_some, b2_0, hbu, if_true, fX8_make_J207, Bool.false_and, Bool.false_eq_true, if_false]
        rw [hab]
        exact eJ none hab
      | true =>
        obtain ⟨w, w1, w2⟩ := hwc.o1 huc (fun e => by simp [bd, e] at hbu)
        have ew : wo c u = w := by simp [wo, w2]
        obtain ⟨ts, t1, t2, t3⟩ := hw.oc' (o := a.2.1 2 t) (fun x hx => by have := (hw.ou ht hx).1; omega)
        have e : och a (a.2.1 2 t) = ts := chl_eq t1 t2
        have hO' : Wo c (c.1 16 0) := by rw [hS.1]; exact hS.hWo hn hw rfl hO
        have hF := rj_foundL ρ ma c X hb hwc hO' (by rw [hS.1]; exact h520) (show w < 12 by omega) (pv first) (nI t) ts (a.2.1 2 t) first 20 (by rw [hS.k2]; exact t1) (by rw [hS.1]; exact t3) (by omega) (hS.hhd rfl (fun x hx => by have := t3 x hx; omega) (e ▸ hd))
        have hab : abt c first t u = fouL c w ts first := by
          unfold abt
          rw [if_pos hbu, ew, hS.hoch, hS.k2, e]
        have hF' : fX8_found ma (pv first) (nI t) (nI w) (rSt ρ ma (mkS c X)) = some (pv (fouL c w ts first), rSt ρ ma (mkS c X)) := by
          simp only [fX8_found, q_r2, ob_some, q_a2 ρ ma c X (show t < 12 by omega), hS.k2, hF]
        simp only [fX8_make_B172, if_neg (n_ne3 (show u < 100000 by omega)), rf_obC, ob_some, rh_isBound ρ ma c X hwc huc, cb_some, b2_0, hbu, Bool.true_eq_false, if_false, q_r2, q_a2 ρ ma c X (show u < 12 by omega), w2, pv_s, hF', fX8_make_J207, Bool.true_and, hab]
        cases hf : fouL c w ts first with
        | none =>
          simp only [pv_n, if_true, q_w28, ob_some, q_g28, Option.isNone_none, mkE, Bool.false_eq_true, if_false]
          rfl
        | some r =>
          have hr := habt r (hab.trans hf)
          have hne : ¬ pv (some r) = -3 := n_ne3 (show r < 100000 by omega)
          simp only [if_neg hne, Option.isNone_some, Bool.false_eq_true, if_false]
          exact eJ (some r) (hab.trans hf)
theorem rj_rstL {o : Nat} (ho : o < 520) (x1 x2 x3 v5 : Int32) (b : aS) : ∀ (f i N : Nat), i + f = 12 → f < N → fX8_make_L127 ma x1 x2 x3 N (nI o) v5 (nI i) (rSt ρ ma (mkS (rst b o i) X)) = cb (fX8_level ma (nI o) x1 v5 (rSt ρ ma (mkS (rst b o 12) X))) fun _ σ4 => ob (gR σ4 ma 10 6) fun f5 => ob f5 fun a7 => ob (aI σ4 0 a7 x1) fun e8 => fX8_make_L172 ma x1 x2 x3 20 (nI o) v5 e8 σ4 := by
  intro f
  induction f with
  | zero =>
    intro i N hi hN
    obtain ⟨N, rfl⟩ : ∃ k, N = k + 1 := ⟨N - 1, by omega⟩
    have : i = 12 := by omega
    subst this
    simp only [fX8_make_L127, fX8_make_B127, show ((12 : Int32) ≤ nI 12) = True from by decide, if_true, rf_obC, ob_some]
  | succ f ih =>
    intro i N hi hN
    obtain ⟨N, rfl⟩ : ∃ k, N = k + 1 := ⟨N - 1, by omega⟩
    have h8 : ((12 : Int32) ≤ nI i) = (12 ≤ i) := n_le (x := 12) (by decide) (by omega)
    have e : sI (rSt ρ ma (mkS (rst b o i) X)) 0 (ma + 17) (nI (12 * o + i)) (-3) = some (rSt ρ ma (mkS (rst b o (i + 1)) X)) := by
      rw [← rst_s]
      exact q_s18 ρ ma (rst b o i) X (show 12 * o + i < 6240 by omega) none
    simp only [fX8_make_L127, fX8_make_B127, h8, if_neg (show ¬ 12 ≤ i by omega), q_r18, ob_some, n_i12, e, n_s]
    exact ih (i + 1) N (by omega) (by omega)
theorem rj_mk2 (hi : Iv a) {t p : Nat} (ht : t < a.1 0 0) (hp : p < 8) (x2 : Int32) {first : Option Nat} (hd : hdO a (och a (a.2.1 2 t)) first) : fX8_make_L127 ma (nI t) x2 (nI p) 20 (nI (a.1 16 0)) (pv first) (0 : Int32) (rSt ρ ma (mkS (aW_ a 0) X)) = some ((mk2 a t p first).1, rSt ρ ma (mkS (mk2 a t p first).2 X)) := by
  obtain ⟨hbd, hw, hc, hO, hq, hz⟩ := id hi
  have hn := hw.n12
  have h520 := hq.1
  have h1 := rj_rstL ρ ma X h520 (nI t) x2 (nI p) (pv first) (aW_ a 0) 12 0 20 rfl (by decide)
  rw [rst_0] at h1
  rw [show (0 : Int32) = nI 0 from rfl, show aW_ a (nI 0) = aW_ a 0 from rfl, h1]
  have hS0 : Smk a (rst (aW_ a 0) (a.1 16 0) 12) (a.1 16 0) := (Smk.w a (a.1 16 0) 0).trans (Smk.hrst (aW_ a 0) (a.1 16 0) (Nat.le_refl 12))
  have hS : Smk a (lvA (rst (aW_ a 0) (a.1 16 0) 12) (a.1 16 0) t first) (a.1 16 0) := hS0.trans (Smk.hlvA (rst (aW_ a 0) (a.1 16 0) 12) (a.1 16 0) (show t < 12 by omega) (hw.nf ht) (hw.a4 ht) first)
  have hb : Wb (lvA (rst (aW_ a 0) (a.1 16 0) 12) (a.1 16 0) t first) := lvA_b (rst_b hbd) (fun q hq => by have := (hd q hq).1; omega)
  obtain ⟨pl, p1, p2, p3⟩ := hc.ch hw (o := some t) (fun x hx => by cases hx; exact ht)
  have epl : pch a t = pl := chl_eq p1 p2
  obtain ⟨pl', rfl, p4⟩ := isCh_s p1
  have e6 : (lvA (rst (aW_ a 0) (a.1 16 0) 12) (a.1 16 0) t first).2.1 6 t = a.2.1 6 t := hS.2.2.1 6 t (by decide) (by decide)
  have hL := rj_makeL ρ ma a X hi ht hp x2 hd pl' (a.2.1 6 t) 20 (lvA (rst (aW_ a 0) (a.1 16 0) 12) (a.1 16 0) t first) p4 (fun x hx => p3 x (List.mem_cons_of_mem _ hx)) (by simp at p2; omega) hS hb
  simp only [rj_level ρ ma (rst (aW_ a 0) (a.1 16 0) 12) X (hS0.hWt hw) h520 (show t < (rst (aW_ a 0) (a.1 16 0) 12).1 0 0 from ht) first, cb_some, q_r6, ob_some, q_a6 ρ ma _ X (show t < 12 by omega), e6, hL]
  unfold mk2
  rw [epl]
  rfl
theorem rj_make (hi : Iv a) (x y z : Int32) : fX8_make ma x y z (rSt ρ ma (mkS a X)) = some ((sp_make a x y z).1, rSt ρ ma (mkS (sp_make a x y z).2 X)) := by
  obtain ⟨hbd, hw, hc, hO, hq, hz⟩ := id hi
  have hn := hw.n12
  have hJ : ∀ x y z, fX8_make_J30 ma x y z (rSt ρ ma (mkS a X)) = some (-1, rSt ρ ma (mkS (aW_ a (-1)) X)) := fun x y z => by
    simp only [fX8_make_J30, q_w28, ob_some]
  unfold sp_make
  cases hx : ix x (a.1 0 0) with
  | none => simp [fX8_make, rf_obC, ob_some, rf_isType ρ ma a X hbd, cb_some, hx, b2, hJ]
  | some t =>
    obtain ⟨ht, rfl⟩ := ix_s hx (by omega)
    cases hz : ix z 8 with
    | none => simp [fX8_make, rf_obC, ob_some, rf_isType ρ ma a X hbd, rf_isPlace, cb_some, hx, hz, b2, hJ]
    | some p =>
      obtain ⟨hp, rfl⟩ := ix_s hz (by decide)
      simp only [fX8_make, rf_obC, ob_some, rf_isType ρ ma a X hbd, rf_isPlace, cb_some, hx, hz, b2_0, Option.isSome_some, Bool.true_eq_false, if_false, reduceCtorEq, rh_isBound ρ ma a X hw ht]
      have hwW : Wt (aW_ a 0) := hw
      have htW : t < (aW_ a 0).1 0 0 := ht
      have ebW : bd (aW_ a 0) t = bd a t := rfl
      cases hb : bd a t with
      | false =>
        have hM := rj_mk2 ρ ma a X hi ht hp y (first := none) (fun r hr => by cases hr)
        simp only [if_true, fX8_make_J37, q_g16, ob_some, rf_obC, rh_isBound ρ ma a X hw ht, cb_some, b2_0, hb, fX8_make_J62, q_w28, rh_isBound ρ ma (aW_ a 0) X hwW htW, ebW, fX8_make_J112, q_g28, show (aW_ a 0).2.2.2 = 0 from rfl, show ((0 : Int32) ≤ 0) = True from by decide, Bool.false_eq_true, if_false]
        exact hM
      | true =>
        simp only [Bool.true_eq_false, if_false, if_true]
        cases hy : ix y 8 with
        | none => simp [hJ]
        | some f =>
          obtain ⟨hf, rfl⟩ := ix_s hy (by decide)
          obtain ⟨w, w1, w2⟩ := hw.o1 ht (fun e => by simp [bd, e] at hb)
          have ew : wo a t = w := by simp [wo, w2]
          simp only [Option.isSome_some, Bool.true_eq_false, if_false, fX8_make_J37, q_g16, ob_some, rf_obC, rh_isBound ρ ma a X hw ht, cb_some, b2_0, hb, q_r22, q_a22 ρ ma a X hf, fX8_make_J62, q_w28, rh_isBound ρ ma (aW_ a 0) X hwW htW, ebW]
          cases ho : a.2.1 22 f with
          | none => simp only [pv_n, if_true, fX8_make_J109, q_w28, ob_some, fX8_make_J112, q_g28, show (aW_ (aW_ a 0) 1).2.2.2 = 1 from rfl, if_neg (show ¬ (1 : Int32) ≤ 0 by decide)]; rfl
          | some q =>
            have hq' := hq.2.2.1 f hf q ho
            have h520 := hq.1
            have hbdW : Wb (aW_ a 0) := hbd
            have e2 : (aW_ a 0).2.1 2 t = some w := w2
            have eI : isO (aW_ a 0) q w = isO a q w := rfl
            simp only [pv_s, if_neg (n_ne3 (show q < 100000 by omega)), q_r2, ob_some, q_a2 ρ ma _ X (show t < 12 by omega), e2, rf_obC, rh_isOf ρ ma (aW_ a 0) X hbdW (show 12 * q + w < 6240 by omega), cb_some, b2_0, eI, ew, fX8_make_J109, q_w28, fX8_make_J112, q_g28]
            cases hI : isO a q w with
            | false => simp only [if_true, show (aW_ (aW_ a 0) 2).2.2.2 = 2 from rfl, if_neg (show ¬ (2 : Int32) ≤ 0 by decide), Bool.false_eq_true, if_false]; rfl
            | true =>
              obtain ⟨ts, t1, t2, t3⟩ := hw.oc' (o := a.2.1 2 t) (fun x hx => by have := (hw.ou ht hx).1; omega)
              have e : och a (a.2.1 2 t) = ts := chl_eq t1 t2
              have hM := rj_mk2 ρ ma a X hi ht hp (nI f) (first := some q) (by
                rw [e]
                intro r hr
                cases hr
                rw [w2] at t1
                obtain ⟨l', e', -⟩ := isCh_s t1
                exact ⟨hq', w, l', e', hI⟩)
              simp only [Bool.true_eq_false, if_false, if_true, show (aW_ (aW_ a 0) 0).2.2.2 = 0 from rfl, show ((0 : Int32) ≤ 0) = True from by decide]
              exact hM
end RJ
