/-! The abstract state: a.1 k j naturals, a.2.1 k j numbers or NONE, a.2.2.1 k j longs, a.2.2.2 what came of the latest call; X: the reference's scratch fields. -/
abbrev aS : Type := (Nat → Nat → Nat) × (Nat → Nat → Option Nat) × (Nat → Nat → Int64) × Int32
def pv (o : Option Nat) : Int32 := match o with
  | none => -3
  | some j => nI j
def isP (k : Nat) : Bool := k == 2 || k == 3 || k == 6 || k == 18 || k == 19 || k == 22 || k == 25
def isX (k : Nat) : Bool := decide (29 ≤ k)
def mkS (a : aS) (X : Nat → Nat → Int32) : rS := (fun k j => if isX k then X k j else if k = 28 then (if j = 0 then a.2.2.2 else 0) else if isP k then pv (a.2.1 k j) else nI (a.1 k j), a.2.2.1)
def up2 {α : Type} (f : Nat → Nat → α) (k j : Nat) (v : α) : Nat → Nat → α := fun k' j' => if k' = k ∧ j' = j then v else f k' j'
def aN_ (a : aS) (k j v : Nat) : aS := (up2 a.1 k j v, a.2)
def aP_ (a : aS) (k j : Nat) (v : Option Nat) : aS := (a.1, up2 a.2.1 k j v, a.2.2)
def aL_ (a : aS) (k j : Nat) (v : Int64) : aS := (a.1, a.2.1, up2 a.2.2.1 k j v, a.2.2.2)
def aW_ (a : aS) (w : Int32) : aS := (a.1, a.2.1, a.2.2.1, w)
theorem up2_s {α : Type} (f : Nat → Nat → α) (k j : Nat) (v : α) : up2 f k j v k j = v := by simp [up2]
theorem up2_n {α : Type} (f : Nat → Nat → α) {k j k' j' : Nat} (v : α) (h : ¬ (k' = k ∧ j' = j)) : up2 f k j v k' j' = f k' j' := by simp only [up2, if_neg h]
theorem up2_k {α : Type} (f : Nat → Nat → α) {k j k' j' : Nat} (v : α) (h : k' ≠ k) : up2 f k j v k' j' = f k' j' := up2_n f v (fun q => h q.1)
theorem mk_eq {S T : rS} (h1 : ∀ k j, S.1 k j = T.1 k j) (h2 : ∀ k j, S.2 k j = T.2 k j) : S = T := Prod.ext (funext fun k => funext fun j => h1 k j) (funext fun k => funext fun j => h2 k j)
theorem rU_at (S : rS) (k j : Nat) (x : Int32) (k' j' : Nat) : (rU S k j x).1 k' j' = if k' = k ∧ j' = j then x else S.1 k' j' := by
  by_cases hk : k' = k
  · subst hk
    by_cases hj : j' = j
    · subst hj; simp [rU, va_up, upd]
    · simp [rU, va_up, upd, hj]
  · simp [rU, va_up, hk]
theorem rUL_at (S : rS) (k j : Nat) (x : Int64) (k' j' : Nat) : (rUL S k j x).2 k' j' = if k' = k ∧ j' = j then x else S.2 k' j' := by
  by_cases hk : k' = k
  · subst hk
    by_cases hj : j' = j
    · subst hj; simp [rUL, va_up, vp_updL]
    · simp [rUL, va_up, vp_updL, hj]
  · simp [rUL, va_up, hk]
theorem mk_N (a : aS) (X : Nat → Nat → Int32) {k : Nat} (j v : Nat) (h1 : isX k = false) (h2 : k ≠ 28) (h3 : isP k = false) : rU (mkS a X) k j (nI v) = mkS (aN_ a k j v) X := by
  refine mk_eq (fun k' j' => ?_) (fun k' j' => rfl)
  rw [rU_at]
  split
  · rename_i h; obtain ⟨rfl, rfl⟩ := h
    simp [mkS, h1, h2, h3, aN_, up2]
  · rename_i h
    simp [mkS, aN_, up2, h]
theorem mk_P (a : aS) (X : Nat → Nat → Int32) {k : Nat} (j : Nat) (v : Option Nat) (h1 : isX k = false) (h2 : k ≠ 28) (h3 : isP k = true) : rU (mkS a X) k j (pv v) = mkS (aP_ a k j v) X := by
  refine mk_eq (fun k' j' => ?_) (fun k' j' => rfl)
  rw [rU_at]
  split
  · rename_i h; obtain ⟨rfl, rfl⟩ := h
    simp [mkS, h1, h2, h3, aP_, up2]
  · rename_i h
    simp [mkS, aP_, up2, h]
theorem mk_X (a : aS) (X : Nat → Nat → Int32) {k : Nat} (j : Nat) (v : Int32) (h1 : isX k = true) : rU (mkS a X) k j v = mkS a (up2 X k j v) := by
  refine mk_eq (fun k' j' => ?_) (fun k' j' => rfl)
  rw [rU_at]
  split
  · rename_i h; obtain ⟨rfl, rfl⟩ := h
    simp [mkS, h1, up2]
  · rename_i h
    simp [mkS, up2, h]
theorem mk_W (a : aS) (X : Nat → Nat → Int32) (w : Int32) : rU (mkS a X) 28 0 w = mkS (aW_ a w) X := by
  refine mk_eq (fun k' j' => ?_) (fun k' j' => rfl)
  rw [rU_at]
  split
  · rename_i h; obtain ⟨rfl, rfl⟩ := h
    simp [mkS, isX, aW_]
  · rename_i h
    by_cases hk : k' = 28
    · subst hk
      have hj : j' ≠ 0 := fun q => h ⟨rfl, q⟩
      simp [mkS, isX, hj]
    · simp [mkS, aW_, hk]
theorem mk_L (a : aS) (X : Nat → Nat → Int32) (k j : Nat) (v : Int64) : rUL (mkS a X) k j v = mkS (aL_ a k j v) X := by
  refine mk_eq (fun k' j' => rfl) (fun k' j' => ?_)
  rw [rUL_at]
  rfl

-- reading and writing the reference, field by field
section RQ
variable (ρ : hmS) (ma : Nat) (a : aS) (X : Nat → Nat → Int32)
theorem q_g0 : gI (rSt ρ ma (mkS a X)) ma 10 0 = some (nI (a.1 0 0)) := r_gI ρ ma (mkS a X) (by decide) (by decide)
theorem q_w0 (v : Nat) : wF (rSt ρ ma (mkS a X)) ma 10 0 (.int (nI v)) = some (rSt ρ ma (mkS (aN_ a 0 0 v) X)) := by rw [r_wF ρ ma (mkS a X) (by decide) (by decide), mk_N a X 0 v (by decide) (by decide) (by decide)]
theorem q_r1 : gR (rSt ρ ma (mkS a X)) ma 10 1 = some (some (ma + 1)) := r_gR ρ ma (mkS a X) (by decide) (by decide)
theorem q_a1 {j : Nat} (h : j < 12) : aI (rSt ρ ma (mkS a X)) 0 (ma + 1) (nI j) = some (nI (a.1 1 j)) := r_aI ρ ma (mkS a X) (k := 1) (by decide) (by decide) (by decide) (by decide) h (by decide)
theorem q_s1 {j : Nat} (h : j < 12) (v : Nat) : sI (rSt ρ ma (mkS a X)) 0 (ma + 1) (nI j) (nI v) = some (rSt ρ ma (mkS (aN_ a 1 j v) X)) := by rw [← mk_N a X j v (by decide) (by decide) (by decide)]; exact r_sI ρ ma (mkS a X) (k := 1) (by decide) (by decide) (by decide) (by decide) (by decide) h (by decide) (nI v)
theorem q_r2 : gR (rSt ρ ma (mkS a X)) ma 10 2 = some (some (ma + 2)) := r_gR ρ ma (mkS a X) (by decide) (by decide)
theorem q_a2 {j : Nat} (h : j < 12) : aI (rSt ρ ma (mkS a X)) 0 (ma + 2) (nI j) = some (pv (a.2.1 2 j)) := r_aI ρ ma (mkS a X) (k := 2) (by decide) (by decide) (by decide) (by decide) h (by decide)
theorem q_s2 {j : Nat} (h : j < 12) (v : Option Nat) : sI (rSt ρ ma (mkS a X)) 0 (ma + 2) (nI j) (pv v) = some (rSt ρ ma (mkS (aP_ a 2 j v) X)) := by rw [← mk_P a X j v (by decide) (by decide) (by decide)]; exact r_sI ρ ma (mkS a X) (k := 2) (by decide) (by decide) (by decide) (by decide) (by decide) h (by decide) (pv v)
theorem q_r3 : gR (rSt ρ ma (mkS a X)) ma 10 3 = some (some (ma + 3)) := r_gR ρ ma (mkS a X) (by decide) (by decide)
theorem q_a3 {j : Nat} (h : j < 12) : aI (rSt ρ ma (mkS a X)) 0 (ma + 3) (nI j) = some (pv (a.2.1 3 j)) := r_aI ρ ma (mkS a X) (k := 3) (by decide) (by decide) (by decide) (by decide) h (by decide)
theorem q_s3 {j : Nat} (h : j < 12) (v : Option Nat) : sI (rSt ρ ma (mkS a X)) 0 (ma + 3) (nI j) (pv v) = some (rSt ρ ma (mkS (aP_ a 3 j v) X)) := by rw [← mk_P a X j v (by decide) (by decide) (by decide)]; exact r_sI ρ ma (mkS a X) (k := 3) (by decide) (by decide) (by decide) (by decide) (by decide) h (by decide) (pv v)
theorem q_r4 : gR (rSt ρ ma (mkS a X)) ma 10 4 = some (some (ma + 4)) := r_gR ρ ma (mkS a X) (by decide) (by decide)
theorem q_a4 {j : Nat} (h : j < 12) : aI (rSt ρ ma (mkS a X)) 0 (ma + 4) (nI j) = some (nI (a.1 4 j)) := r_aI ρ ma (mkS a X) (k := 4) (by decide) (by decide) (by decide) (by decide) h (by decide)
theorem q_s4 {j : Nat} (h : j < 12) (v : Nat) : sI (rSt ρ ma (mkS a X)) 0 (ma + 4) (nI j) (nI v) = some (rSt ρ ma (mkS (aN_ a 4 j v) X)) := by rw [← mk_N a X j v (by decide) (by decide) (by decide)]; exact r_sI ρ ma (mkS a X) (k := 4) (by decide) (by decide) (by decide) (by decide) (by decide) h (by decide) (nI v)
theorem q_r5 : gR (rSt ρ ma (mkS a X)) ma 10 5 = some (some (ma + 5)) := r_gR ρ ma (mkS a X) (by decide) (by decide)
theorem q_a5 {j : Nat} (h : j < 12) : aI (rSt ρ ma (mkS a X)) 0 (ma + 5) (nI j) = some (nI (a.1 5 j)) := r_aI ρ ma (mkS a X) (k := 5) (by decide) (by decide) (by decide) (by decide) h (by decide)
theorem q_s5 {j : Nat} (h : j < 12) (v : Nat) : sI (rSt ρ ma (mkS a X)) 0 (ma + 5) (nI j) (nI v) = some (rSt ρ ma (mkS (aN_ a 5 j v) X)) := by rw [← mk_N a X j v (by decide) (by decide) (by decide)]; exact r_sI ρ ma (mkS a X) (k := 5) (by decide) (by decide) (by decide) (by decide) (by decide) h (by decide) (nI v)
theorem q_r6 : gR (rSt ρ ma (mkS a X)) ma 10 6 = some (some (ma + 6)) := r_gR ρ ma (mkS a X) (by decide) (by decide)
theorem q_a6 {j : Nat} (h : j < 12) : aI (rSt ρ ma (mkS a X)) 0 (ma + 6) (nI j) = some (pv (a.2.1 6 j)) := r_aI ρ ma (mkS a X) (k := 6) (by decide) (by decide) (by decide) (by decide) h (by decide)
theorem q_s6 {j : Nat} (h : j < 12) (v : Option Nat) : sI (rSt ρ ma (mkS a X)) 0 (ma + 6) (nI j) (pv v) = some (rSt ρ ma (mkS (aP_ a 6 j v) X)) := by rw [← mk_P a X j v (by decide) (by decide) (by decide)]; exact r_sI ρ ma (mkS a X) (k := 6) (by decide) (by decide) (by decide) (by decide) (by decide) h (by decide) (pv v)
theorem q_r7 : gR (rSt ρ ma (mkS a X)) ma 10 7 = some (some (ma + 7)) := r_gR ρ ma (mkS a X) (by decide) (by decide)
theorem q_a7 {j : Nat} (h : j < 12) : aI (rSt ρ ma (mkS a X)) 0 (ma + 7) (nI j) = some (nI (a.1 7 j)) := r_aI ρ ma (mkS a X) (k := 7) (by decide) (by decide) (by decide) (by decide) h (by decide)
theorem q_s7 {j : Nat} (h : j < 12) (v : Nat) : sI (rSt ρ ma (mkS a X)) 0 (ma + 7) (nI j) (nI v) = some (rSt ρ ma (mkS (aN_ a 7 j v) X)) := by rw [← mk_N a X j v (by decide) (by decide) (by decide)]; exact r_sI ρ ma (mkS a X) (k := 7) (by decide) (by decide) (by decide) (by decide) (by decide) h (by decide) (nI v)
theorem q_r8 : gR (rSt ρ ma (mkS a X)) ma 10 8 = some (some (ma + 8)) := r_gR ρ ma (mkS a X) (by decide) (by decide)
theorem q_a8 {j : Nat} (h : j < 48) : aI (rSt ρ ma (mkS a X)) 0 (ma + 8) (nI j) = some (nI (a.1 8 j)) := r_aI ρ ma (mkS a X) (k := 8) (by decide) (by decide) (by decide) (by decide) h (by decide)
theorem q_s8 {j : Nat} (h : j < 48) (v : Nat) : sI (rSt ρ ma (mkS a X)) 0 (ma + 8) (nI j) (nI v) = some (rSt ρ ma (mkS (aN_ a 8 j v) X)) := by rw [← mk_N a X j v (by decide) (by decide) (by decide)]; exact r_sI ρ ma (mkS a X) (k := 8) (by decide) (by decide) (by decide) (by decide) (by decide) h (by decide) (nI v)
theorem q_r9 : gR (rSt ρ ma (mkS a X)) ma 10 9 = some (some (ma + 9)) := r_gR ρ ma (mkS a X) (by decide) (by decide)
theorem q_a9 {j : Nat} (h : j < 48) : aL (rSt ρ ma (mkS a X)) (ma + 9) (nI j) = some (a.2.2.1 9 j) := r_aL ρ ma (mkS a X) (k := 9) (by decide) (by decide) (by decide) h (by decide)
theorem q_s9 {j : Nat} (h : j < 48) (v : Int64) : sL (rSt ρ ma (mkS a X)) (ma + 9) (nI j) v = some (rSt ρ ma (mkS (aL_ a 9 j v) X)) := by rw [← mk_L]; exact r_sL ρ ma (mkS a X) (k := 9) (by decide) (by decide) (by decide) h (by decide) v
theorem q_r10 : gR (rSt ρ ma (mkS a X)) ma 10 10 = some (some (ma + 10)) := r_gR ρ ma (mkS a X) (by decide) (by decide)
theorem q_a10 {j : Nat} (h : j < 48) : aI (rSt ρ ma (mkS a X)) 2 (ma + 10) (nI j) = some (nI (a.1 10 j)) := r_aI ρ ma (mkS a X) (k := 10) (by decide) (by decide) (by decide) (by decide) h (by decide)
theorem q_s10 {j : Nat} (h : j < 48) (v : Nat) : sI (rSt ρ ma (mkS a X)) 2 (ma + 10) (nI j) (nI v) = some (rSt ρ ma (mkS (aN_ a 10 j v) X)) := by rw [← mk_N a X j v (by decide) (by decide) (by decide)]; exact r_sI ρ ma (mkS a X) (k := 10) (by decide) (by decide) (by decide) (by decide) (by decide) h (by decide) (nI v)
theorem q_r11 : gR (rSt ρ ma (mkS a X)) ma 10 11 = some (some (ma + 11)) := r_gR ρ ma (mkS a X) (by decide) (by decide)
theorem q_a11 {j : Nat} (h : j < 12) : aI (rSt ρ ma (mkS a X)) 2 (ma + 11) (nI j) = some (nI (a.1 11 j)) := r_aI ρ ma (mkS a X) (k := 11) (by decide) (by decide) (by decide) (by decide) h (by decide)
theorem q_s11 {j : Nat} (h : j < 12) (v : Nat) : sI (rSt ρ ma (mkS a X)) 2 (ma + 11) (nI j) (nI v) = some (rSt ρ ma (mkS (aN_ a 11 j v) X)) := by rw [← mk_N a X j v (by decide) (by decide) (by decide)]; exact r_sI ρ ma (mkS a X) (k := 11) (by decide) (by decide) (by decide) (by decide) (by decide) h (by decide) (nI v)
theorem q_r12 : gR (rSt ρ ma (mkS a X)) ma 10 12 = some (some (ma + 12)) := r_gR ρ ma (mkS a X) (by decide) (by decide)
theorem q_a12 {j : Nat} (h : j < 12) : aI (rSt ρ ma (mkS a X)) 0 (ma + 12) (nI j) = some (nI (a.1 12 j)) := r_aI ρ ma (mkS a X) (k := 12) (by decide) (by decide) (by decide) (by decide) h (by decide)
theorem q_s12 {j : Nat} (h : j < 12) (v : Nat) : sI (rSt ρ ma (mkS a X)) 0 (ma + 12) (nI j) (nI v) = some (rSt ρ ma (mkS (aN_ a 12 j v) X)) := by rw [← mk_N a X j v (by decide) (by decide) (by decide)]; exact r_sI ρ ma (mkS a X) (k := 12) (by decide) (by decide) (by decide) (by decide) (by decide) h (by decide) (nI v)
theorem q_r13 : gR (rSt ρ ma (mkS a X)) ma 10 13 = some (some (ma + 13)) := r_gR ρ ma (mkS a X) (by decide) (by decide)
theorem q_a13 {j : Nat} (h : j < 48) : aI (rSt ρ ma (mkS a X)) 0 (ma + 13) (nI j) = some (nI (a.1 13 j)) := r_aI ρ ma (mkS a X) (k := 13) (by decide) (by decide) (by decide) (by decide) h (by decide)
theorem q_s13 {j : Nat} (h : j < 48) (v : Nat) : sI (rSt ρ ma (mkS a X)) 0 (ma + 13) (nI j) (nI v) = some (rSt ρ ma (mkS (aN_ a 13 j v) X)) := by rw [← mk_N a X j v (by decide) (by decide) (by decide)]; exact r_sI ρ ma (mkS a X) (k := 13) (by decide) (by decide) (by decide) (by decide) (by decide) h (by decide) (nI v)
theorem q_r14 : gR (rSt ρ ma (mkS a X)) ma 10 14 = some (some (ma + 14)) := r_gR ρ ma (mkS a X) (by decide) (by decide)
theorem q_a14 {j : Nat} (h : j < 48) : aL (rSt ρ ma (mkS a X)) (ma + 14) (nI j) = some (a.2.2.1 14 j) := r_aL ρ ma (mkS a X) (k := 14) (by decide) (by decide) (by decide) h (by decide)
theorem q_s14 {j : Nat} (h : j < 48) (v : Int64) : sL (rSt ρ ma (mkS a X)) (ma + 14) (nI j) v = some (rSt ρ ma (mkS (aL_ a 14 j v) X)) := by rw [← mk_L]; exact r_sL ρ ma (mkS a X) (k := 14) (by decide) (by decide) (by decide) h (by decide) v
theorem q_r15 : gR (rSt ρ ma (mkS a X)) ma 10 15 = some (some (ma + 15)) := r_gR ρ ma (mkS a X) (by decide) (by decide)
theorem q_a15 {j : Nat} (h : j < 48) : aI (rSt ρ ma (mkS a X)) 2 (ma + 15) (nI j) = some (nI (a.1 15 j)) := r_aI ρ ma (mkS a X) (k := 15) (by decide) (by decide) (by decide) (by decide) h (by decide)
theorem q_s15 {j : Nat} (h : j < 48) (v : Nat) : sI (rSt ρ ma (mkS a X)) 2 (ma + 15) (nI j) (nI v) = some (rSt ρ ma (mkS (aN_ a 15 j v) X)) := by rw [← mk_N a X j v (by decide) (by decide) (by decide)]; exact r_sI ρ ma (mkS a X) (k := 15) (by decide) (by decide) (by decide) (by decide) (by decide) h (by decide) (nI v)
theorem q_g16 : gI (rSt ρ ma (mkS a X)) ma 10 16 = some (nI (a.1 16 0)) := r_gI ρ ma (mkS a X) (by decide) (by decide)
theorem q_w16 (v : Nat) : wF (rSt ρ ma (mkS a X)) ma 10 16 (.int (nI v)) = some (rSt ρ ma (mkS (aN_ a 16 0 v) X)) := by rw [r_wF ρ ma (mkS a X) (by decide) (by decide), mk_N a X 0 v (by decide) (by decide) (by decide)]
theorem q_r17 : gR (rSt ρ ma (mkS a X)) ma 10 17 = some (some (ma + 16)) := r_gR ρ ma (mkS a X) (by decide) (by decide)
theorem q_a17 {j : Nat} (h : j < 520) : aI (rSt ρ ma (mkS a X)) 0 (ma + 16) (nI j) = some (nI (a.1 17 j)) := r_aI ρ ma (mkS a X) (k := 17) (by decide) (by decide) (by decide) (by decide) h (by decide)
theorem q_s17 {j : Nat} (h : j < 520) (v : Nat) : sI (rSt ρ ma (mkS a X)) 0 (ma + 16) (nI j) (nI v) = some (rSt ρ ma (mkS (aN_ a 17 j v) X)) := by rw [← mk_N a X j v (by decide) (by decide) (by decide)]; exact r_sI ρ ma (mkS a X) (k := 17) (by decide) (by decide) (by decide) (by decide) (by decide) h (by decide) (nI v)
theorem q_r18 : gR (rSt ρ ma (mkS a X)) ma 10 18 = some (some (ma + 17)) := r_gR ρ ma (mkS a X) (by decide) (by decide)
theorem q_a18 {j : Nat} (h : j < 6240) : aI (rSt ρ ma (mkS a X)) 0 (ma + 17) (nI j) = some (pv (a.2.1 18 j)) := r_aI ρ ma (mkS a X) (k := 18) (by decide) (by decide) (by decide) (by decide) h (by decide)
theorem q_s18 {j : Nat} (h : j < 6240) (v : Option Nat) : sI (rSt ρ ma (mkS a X)) 0 (ma + 17) (nI j) (pv v) = some (rSt ρ ma (mkS (aP_ a 18 j v) X)) := by rw [← mk_P a X j v (by decide) (by decide) (by decide)]; exact r_sI ρ ma (mkS a X) (k := 18) (by decide) (by decide) (by decide) (by decide) (by decide) h (by decide) (pv v)
theorem q_r19 : gR (rSt ρ ma (mkS a X)) ma 10 19 = some (some (ma + 18)) := r_gR ρ ma (mkS a X) (by decide) (by decide)
theorem q_a19 {j : Nat} (h : j < 6240) : aI (rSt ρ ma (mkS a X)) 0 (ma + 18) (nI j) = some (pv (a.2.1 19 j)) := r_aI ρ ma (mkS a X) (k := 19) (by decide) (by decide) (by decide) (by decide) h (by decide)
theorem q_s19 {j : Nat} (h : j < 6240) (v : Option Nat) : sI (rSt ρ ma (mkS a X)) 0 (ma + 18) (nI j) (pv v) = some (rSt ρ ma (mkS (aP_ a 19 j v) X)) := by rw [← mk_P a X j v (by decide) (by decide) (by decide)]; exact r_sI ρ ma (mkS a X) (k := 19) (by decide) (by decide) (by decide) (by decide) (by decide) h (by decide) (pv v)
theorem q_r20 : gR (rSt ρ ma (mkS a X)) ma 10 20 = some (some (ma + 19)) := r_gR ρ ma (mkS a X) (by decide) (by decide)
theorem q_a20 {j : Nat} (h : j < 24960) : aL (rSt ρ ma (mkS a X)) (ma + 19) (nI j) = some (a.2.2.1 20 j) := r_aL ρ ma (mkS a X) (k := 20) (by decide) (by decide) (by decide) h (by decide)
theorem q_s20 {j : Nat} (h : j < 24960) (v : Int64) : sL (rSt ρ ma (mkS a X)) (ma + 19) (nI j) v = some (rSt ρ ma (mkS (aL_ a 20 j v) X)) := by rw [← mk_L]; exact r_sL ρ ma (mkS a X) (k := 20) (by decide) (by decide) (by decide) h (by decide) v
theorem q_r21 : gR (rSt ρ ma (mkS a X)) ma 10 21 = some (some (ma + 20)) := r_gR ρ ma (mkS a X) (by decide) (by decide)
theorem q_a21 {j : Nat} (h : j < 24960) : aL (rSt ρ ma (mkS a X)) (ma + 20) (nI j) = some (a.2.2.1 21 j) := r_aL ρ ma (mkS a X) (k := 21) (by decide) (by decide) (by decide) h (by decide)
theorem q_s21 {j : Nat} (h : j < 24960) (v : Int64) : sL (rSt ρ ma (mkS a X)) (ma + 20) (nI j) v = some (rSt ρ ma (mkS (aL_ a 21 j v) X)) := by rw [← mk_L]; exact r_sL ρ ma (mkS a X) (k := 21) (by decide) (by decide) (by decide) h (by decide) v
theorem q_r22 : gR (rSt ρ ma (mkS a X)) ma 10 22 = some (some (ma + 21)) := r_gR ρ ma (mkS a X) (by decide) (by decide)
theorem q_a22 {j : Nat} (h : j < 8) : aI (rSt ρ ma (mkS a X)) 0 (ma + 21) (nI j) = some (pv (a.2.1 22 j)) := r_aI ρ ma (mkS a X) (k := 22) (by decide) (by decide) (by decide) (by decide) h (by decide)
theorem q_s22 {j : Nat} (h : j < 8) (v : Option Nat) : sI (rSt ρ ma (mkS a X)) 0 (ma + 21) (nI j) (pv v) = some (rSt ρ ma (mkS (aP_ a 22 j v) X)) := by rw [← mk_P a X j v (by decide) (by decide) (by decide)]; exact r_sI ρ ma (mkS a X) (k := 22) (by decide) (by decide) (by decide) (by decide) (by decide) h (by decide) (pv v)
theorem q_g23 : gI (rSt ρ ma (mkS a X)) ma 10 23 = some (nI (a.1 23 0)) := r_gI ρ ma (mkS a X) (by decide) (by decide)
theorem q_w23 (v : Nat) : wF (rSt ρ ma (mkS a X)) ma 10 23 (.int (nI v)) = some (rSt ρ ma (mkS (aN_ a 23 0 v) X)) := by rw [r_wF ρ ma (mkS a X) (by decide) (by decide), mk_N a X 0 v (by decide) (by decide) (by decide)]
theorem q_r24 : gR (rSt ρ ma (mkS a X)) ma 10 24 = some (some (ma + 22)) := r_gR ρ ma (mkS a X) (by decide) (by decide)
theorem q_a24 {j : Nat} (h : j < 6) : aI (rSt ρ ma (mkS a X)) 0 (ma + 22) (nI j) = some (nI (a.1 24 j)) := r_aI ρ ma (mkS a X) (k := 24) (by decide) (by decide) (by decide) (by decide) h (by decide)
theorem q_s24 {j : Nat} (h : j < 6) (v : Nat) : sI (rSt ρ ma (mkS a X)) 0 (ma + 22) (nI j) (nI v) = some (rSt ρ ma (mkS (aN_ a 24 j v) X)) := by rw [← mk_N a X j v (by decide) (by decide) (by decide)]; exact r_sI ρ ma (mkS a X) (k := 24) (by decide) (by decide) (by decide) (by decide) (by decide) h (by decide) (nI v)
theorem q_r25 : gR (rSt ρ ma (mkS a X)) ma 10 25 = some (some (ma + 23)) := r_gR ρ ma (mkS a X) (by decide) (by decide)
theorem q_a25 {j : Nat} (h : j < 6) : aI (rSt ρ ma (mkS a X)) 0 (ma + 23) (nI j) = some (pv (a.2.1 25 j)) := r_aI ρ ma (mkS a X) (k := 25) (by decide) (by decide) (by decide) (by decide) h (by decide)
theorem q_s25 {j : Nat} (h : j < 6) (v : Option Nat) : sI (rSt ρ ma (mkS a X)) 0 (ma + 23) (nI j) (pv v) = some (rSt ρ ma (mkS (aP_ a 25 j v) X)) := by rw [← mk_P a X j v (by decide) (by decide) (by decide)]; exact r_sI ρ ma (mkS a X) (k := 25) (by decide) (by decide) (by decide) (by decide) (by decide) h (by decide) (pv v)
theorem q_r26 : gR (rSt ρ ma (mkS a X)) ma 10 26 = some (some (ma + 24)) := r_gR ρ ma (mkS a X) (by decide) (by decide)
theorem q_a26 {j : Nat} (h : j < 6) : aI (rSt ρ ma (mkS a X)) 0 (ma + 24) (nI j) = some (nI (a.1 26 j)) := r_aI ρ ma (mkS a X) (k := 26) (by decide) (by decide) (by decide) (by decide) h (by decide)
theorem q_s26 {j : Nat} (h : j < 6) (v : Nat) : sI (rSt ρ ma (mkS a X)) 0 (ma + 24) (nI j) (nI v) = some (rSt ρ ma (mkS (aN_ a 26 j v) X)) := by rw [← mk_N a X j v (by decide) (by decide) (by decide)]; exact r_sI ρ ma (mkS a X) (k := 26) (by decide) (by decide) (by decide) (by decide) (by decide) h (by decide) (nI v)
theorem q_r27 : gR (rSt ρ ma (mkS a X)) ma 10 27 = some (some (ma + 25)) := r_gR ρ ma (mkS a X) (by decide) (by decide)
theorem q_a27 {j : Nat} (h : j < 24) : aL (rSt ρ ma (mkS a X)) (ma + 25) (nI j) = some (a.2.2.1 27 j) := r_aL ρ ma (mkS a X) (k := 27) (by decide) (by decide) (by decide) h (by decide)
theorem q_s27 {j : Nat} (h : j < 24) (v : Int64) : sL (rSt ρ ma (mkS a X)) (ma + 25) (nI j) v = some (rSt ρ ma (mkS (aL_ a 27 j v) X)) := by rw [← mk_L]; exact r_sL ρ ma (mkS a X) (k := 27) (by decide) (by decide) (by decide) h (by decide) v
theorem q_g28 : gI (rSt ρ ma (mkS a X)) ma 10 28 = some (a.2.2.2) := r_gI ρ ma (mkS a X) (by decide) (by decide)
theorem q_w28 (w : Int32) : wF (rSt ρ ma (mkS a X)) ma 10 28 (.int w) = some (rSt ρ ma (mkS (aW_ a w) X)) := by rw [r_wF ρ ma (mkS a X) (by decide) (by decide), mk_W]
theorem q_r29 : gR (rSt ρ ma (mkS a X)) ma 10 29 = some (some (ma + 26)) := r_gR ρ ma (mkS a X) (by decide) (by decide)
theorem q_a29 {j : Nat} (h : j < 64) : aI (rSt ρ ma (mkS a X)) 0 (ma + 26) (nI j) = some (X 29 j) := r_aI ρ ma (mkS a X) (k := 29) (by decide) (by decide) (by decide) (by decide) h (by decide)
theorem q_s29 {j : Nat} (h : j < 64) (v : Int32) : sI (rSt ρ ma (mkS a X)) 0 (ma + 26) (nI j) v = some (rSt ρ ma (mkS a (up2 X 29 j v))) := by rw [← mk_X a X j v (by decide)]; exact r_sI ρ ma (mkS a X) (k := 29) (by decide) (by decide) (by decide) (by decide) (by decide) h (by decide) v
theorem q_g30 : gI (rSt ρ ma (mkS a X)) ma 10 30 = some (X 30 0) := r_gI ρ ma (mkS a X) (by decide) (by decide)
theorem q_w30 (v : Int32) : wF (rSt ρ ma (mkS a X)) ma 10 30 (.int v) = some (rSt ρ ma (mkS a (up2 X 30 0 v))) := by rw [r_wF ρ ma (mkS a X) (by decide) (by decide), mk_X a X 0 v (by decide)]
theorem q_g31 : gI (rSt ρ ma (mkS a X)) ma 10 31 = some (X 31 0) := r_gI ρ ma (mkS a X) (by decide) (by decide)
theorem q_w31 (v : Int32) : wF (rSt ρ ma (mkS a X)) ma 10 31 (.int v) = some (rSt ρ ma (mkS a (up2 X 31 0 v))) := by rw [r_wF ρ ma (mkS a X) (by decide) (by decide), mk_X a X 0 v (by decide)]
theorem q_g32 : gI (rSt ρ ma (mkS a X)) ma 10 32 = some (X 32 0) := r_gI ρ ma (mkS a X) (by decide) (by decide)
theorem q_w32 (v : Int32) : wF (rSt ρ ma (mkS a X)) ma 10 32 (.int v) = some (rSt ρ ma (mkS a (up2 X 32 0 v))) := by rw [r_wF ρ ma (mkS a X) (by decide) (by decide), mk_X a X 0 v (by decide)]
end RQ

theorem ob_some {α β : Type} (x : α) (k : α → Option β) : ob (some x) k = k x := rfl
theorem cb_some {α β : Type} (x : α) (σ : hmS) (k : α → hmS → Option β) : cb (some (x, σ)) k = k x σ := rfl
theorem oc_none {α β : Type} (n : β) (f : α → β) : oc none n f = n := rfl
theorem oc_some {α β : Type} (x : α) (n : β) (f : α → β) : oc (some x) n f = f x := rfl
/-- a number of a call, as an index below n -/
def ix (x : Int32) (n : Nat) : Option Nat := if x < 0 ∨ n ≤ x.toNatClampNeg then none else some x.toNatClampNeg
theorem ix_s {x : Int32} {n j : Nat} (h : ix x n = some j) (hn : n < 2 ^ 31) : j < n ∧ x = nI j := by
  unfold ix at h
  split at h
  · cases h
  · rename_i hc
    obtain ⟨i, hi, rfl⟩ := vp_in_of (x := x) (n := n) hc hn
    rw [nI_clamp (by omega)] at h
    cases h
    exact ⟨hi, rfl⟩
theorem ix_n {x : Int32} {n : Nat} (h : ix x n = none) (hn : n < 2 ^ 31) : x < 0 ∨ nI n ≤ x := by
  unfold ix at h
  split at h
  · rename_i hc
    rcases hc with hc | hc
    · exact Or.inl hc
    · by_cases h0 : x < 0
      · exact Or.inl h0
      · obtain ⟨i, hi, rfl⟩ := nI_of h0
        rw [nI_clamp hi] at hc
        exact Or.inr (nI_le hc hi)
  · cases h
theorem ix_nI {j n : Nat} (h : j < n) (hn : n < 2 ^ 31) : ix (nI j) n = some j := by
  unfold ix
  rw [if_neg (vp_in_nI h hn), nI_clamp (by omega)]
