/-! The class's writes. -/
theorem vld_y {b : Nat} {a : aS} {k x y : Nat} (h1 : 5 ≤ k) (h2 : k < 16) (h : vld b a k x y) : x < a.1 0 0 ∧ y = 0 := by
  rcases h with h | h | h | h | h | h | h | h <;> first | omega | exact ⟨h.2.2.1, h.2.2.2⟩
theorem upd_at (f : Nat → Int32) (i : Nat) (v : Int32) (j : Nat) : upd f i v j = if j = i then v else f j := by
  by_cases h : j = i
  · subst h; simp [upd]
  · simp [upd, h]
theorem updL_at (f : Nat → Int64) (i : Nat) (v : Int64) (j : Nat) : vp_updL f i v j = if j = i then v else f j := by
  by_cases h : j = i
  · subst h; simp [vp_updL]
  · simp [vp_updL, h]
section CW
variable {E : hmG} {xa ma b : Nat} {a : aS} {w : cG} {σ : hmS}
theorem RC.w_fn (h : RC E xa ma b a w σ) {t : Nat} (ht : t < a.1 0 0) {i : Nat} (hi : i < 4) (v : Nat) : ∃ σ', sI σ 0 (w.1 7 t 0) (nI i) (nI v) = some σ' ∧ RC E xa ma b (aN_ a 8 (4 * t + i) v) w σ' ∧ Fr E ma σ σ' := by
  have hv : vld b a 7 t 0 := vld_t (k := 7) (by decide) (by decide) ht
  obtain ⟨c, h1, f, rfl, h2⟩ := h.cell hv
  refine ⟨_, sI_of h1 (by decide) hi (by decide) _, h.one hv (fun _ _ _ q => q) (fun k' x' y' hv' hne c hc => ?_) ⟨upd f i (nI v), rfl, fun j hj => ?_⟩, h.fr hv _⟩
  · by_cases hk : k' = 7
    · subst hk
      have hy := vld_y (by decide) (by decide) hv'
      have hx : x' ≠ t := fun e => hne ⟨rfl, e, hy.2⟩
      obtain ⟨f', rfl, h3⟩ := hc
      refine ⟨f', rfl, fun j hj => ?_⟩
      rw [h3 j hj]
      show nI (a.1 8 (4 * x' + j)) = nI (up2 a.1 8 (4 * t + i) v 8 (4 * x' + j))
      rw [up2_n _ _ (by omega)]
    · exact okc_N8 _ _ hk hc
  · show upd f i (nI v) j = nI (up2 a.1 8 (4 * t + i) v 8 (4 * t + j))
    rw [upd_at]
    by_cases hj' : j = i
    · subst hj'; rw [if_pos rfl, up2_s]
    · rw [if_neg hj', up2_n _ _ (by omega), h2 j hj]
theorem RC.w_fv (h : RC E xa ma b a w σ) {t : Nat} (ht : t < a.1 0 0) {i : Nat} (hi : i < 4) (v : Int64) : ∃ σ', sL σ (w.1 8 t 0) (nI i) v = some σ' ∧ RC E xa ma b (aL_ a 9 (4 * t + i) v) w σ' ∧ Fr E ma σ σ' := by
  have hv : vld b a 8 t 0 := vld_t (k := 8) (by decide) (by decide) ht
  obtain ⟨c, h1, f, rfl, h2⟩ := h.cell hv
  refine ⟨_, sL_of h1 hi (by decide) _, h.one hv (fun _ _ _ q => q) (fun k' x' y' hv' hne c hc => ?_) ⟨vp_updL f i v, rfl, fun j hj => ?_⟩, h.fr hv _⟩
  · by_cases hk : k' = 8
    · subst hk
      have hy := vld_y (by decide) (by decide) hv'
      have hx : x' ≠ t := fun e => hne ⟨rfl, e, hy.2⟩
      obtain ⟨f', rfl, h3⟩ := hc
      refine ⟨f', rfl, fun j hj => ?_⟩
      rw [h3 j hj]
      show a.2.2.1 9 (4 * x' + j) = up2 a.2.2.1 9 (4 * t + i) v 9 (4 * x' + j)
      rw [up2_n _ _ (by omega)]
    · exact okc_L9 _ _ hk hc
  · show vp_updL f i v j = up2 a.2.2.1 9 (4 * t + i) v 9 (4 * t + j)
    rw [updL_at]
    by_cases hj' : j = i
    · subst hj'; rw [if_pos rfl, up2_s]
    · rw [if_neg hj', up2_n _ _ (by omega), h2 j hj]
theorem RC.w_fs (h : RC E xa ma b a w σ) {t : Nat} (ht : t < a.1 0 0) {i : Nat} (hi : i < 4) (v : Nat) : ∃ σ', sI σ 2 (w.1 9 t 0) (nI i) (nI v) = some σ' ∧ RC E xa ma b (aN_ a 10 (4 * t + i) v) w σ' ∧ Fr E ma σ σ' := by
  have hv : vld b a 9 t 0 := vld_t (k := 9) (by decide) (by decide) ht
  obtain ⟨c, h1, f, rfl, h2⟩ := h.cell hv
  refine ⟨_, sI_of h1 (by decide) hi (by decide) _, h.one hv (fun _ _ _ q => q) (fun k' x' y' hv' hne c hc => ?_) ⟨upd f i (nI v), rfl, fun j hj => ?_⟩, h.fr hv _⟩
  · by_cases hk : k' = 9
    · subst hk
      have hy := vld_y (by decide) (by decide) hv'
      have hx : x' ≠ t := fun e => hne ⟨rfl, e, hy.2⟩
      obtain ⟨f', rfl, h3⟩ := hc
      refine ⟨f', rfl, fun j hj => ?_⟩
      rw [h3 j hj]
      show nI (a.1 10 (4 * x' + j)) = nI (up2 a.1 10 (4 * t + i) v 10 (4 * x' + j))
      rw [up2_n _ _ (by omega)]
    · exact okc_N10 _ _ hk hc
  · show upd f i (nI v) j = nI (up2 a.1 10 (4 * t + i) v 10 (4 * t + j))
    rw [upd_at]
    by_cases hj' : j = i
    · subst hj'; rw [if_pos rfl, up2_s]
    · rw [if_neg hj', up2_n _ _ (by omega), h2 j hj]
theorem RC.w_ln (h : RC E xa ma b a w σ) {t : Nat} (ht : t < a.1 0 0) {i : Nat} (hi : i < 4) (v : Nat) : ∃ σ', sI σ 0 (w.1 11 t 0) (nI i) (nI v) = some σ' ∧ RC E xa ma b (aN_ a 13 (4 * t + i) v) w σ' ∧ Fr E ma σ σ' := by
  have hv : vld b a 11 t 0 := vld_t (k := 11) (by decide) (by decide) ht
  obtain ⟨c, h1, f, rfl, h2⟩ := h.cell hv
  refine ⟨_, sI_of h1 (by decide) hi (by decide) _, h.one hv (fun _ _ _ q => q) (fun k' x' y' hv' hne c hc => ?_) ⟨upd f i (nI v), rfl, fun j hj => ?_⟩, h.fr hv _⟩
  · by_cases hk : k' = 11
    · subst hk
      have hy := vld_y (by decide) (by decide) hv'
      have hx : x' ≠ t := fun e => hne ⟨rfl, e, hy.2⟩
      obtain ⟨f', rfl, h3⟩ := hc
      refine ⟨f', rfl, fun j hj => ?_⟩
      rw [h3 j hj]
      show nI (a.1 13 (4 * x' + j)) = nI (up2 a.1 13 (4 * t + i) v 13 (4 * x' + j))
      rw [up2_n _ _ (by omega)]
    · exact okc_N13 _ _ hk hc
  · show upd f i (nI v) j = nI (up2 a.1 13 (4 * t + i) v 13 (4 * t + j))
    rw [upd_at]
    by_cases hj' : j = i
    · subst hj'; rw [if_pos rfl, up2_s]
    · rw [if_neg hj', up2_n _ _ (by omega), h2 j hj]
theorem RC.w_lv (h : RC E xa ma b a w σ) {t : Nat} (ht : t < a.1 0 0) {i : Nat} (hi : i < 4) (v : Int64) : ∃ σ', sL σ (w.1 12 t 0) (nI i) v = some σ' ∧ RC E xa ma b (aL_ a 14 (4 * t + i) v) w σ' ∧ Fr E ma σ σ' := by
  have hv : vld b a 12 t 0 := vld_t (k := 12) (by decide) (by decide) ht
  obtain ⟨c, h1, f, rfl, h2⟩ := h.cell hv
  refine ⟨_, sL_of h1 hi (by decide) _, h.one hv (fun _ _ _ q => q) (fun k' x' y' hv' hne c hc => ?_) ⟨vp_updL f i v, rfl, fun j hj => ?_⟩, h.fr hv _⟩
  · by_cases hk : k' = 12
    · subst hk
      have hy := vld_y (by decide) (by decide) hv'
      have hx : x' ≠ t := fun e => hne ⟨rfl, e, hy.2⟩
      obtain ⟨f', rfl, h3⟩ := hc
      refine ⟨f', rfl, fun j hj => ?_⟩
      rw [h3 j hj]
      show a.2.2.1 14 (4 * x' + j) = up2 a.2.2.1 14 (4 * t + i) v 14 (4 * x' + j)
      rw [up2_n _ _ (by omega)]
    · exact okc_L14 _ _ hk hc
  · show vp_updL f i v j = up2 a.2.2.1 14 (4 * t + i) v 14 (4 * t + j)
    rw [updL_at]
    by_cases hj' : j = i
    · subst hj'; rw [if_pos rfl, up2_s]
    · rw [if_neg hj', up2_n _ _ (by omega), h2 j hj]
theorem RC.w_la (h : RC E xa ma b a w σ) {t : Nat} (ht : t < a.1 0 0) {i : Nat} (hi : i < 4) (v : Nat) : ∃ σ', sI σ 2 (w.1 13 t 0) (nI i) (nI v) = some σ' ∧ RC E xa ma b (aN_ a 15 (4 * t + i) v) w σ' ∧ Fr E ma σ σ' := by
  have hv : vld b a 13 t 0 := vld_t (k := 13) (by decide) (by decide) ht
  obtain ⟨c, h1, f, rfl, h2⟩ := h.cell hv
  refine ⟨_, sI_of h1 (by decide) hi (by decide) _, h.one hv (fun _ _ _ q => q) (fun k' x' y' hv' hne c hc => ?_) ⟨upd f i (nI v), rfl, fun j hj => ?_⟩, h.fr hv _⟩
  · by_cases hk : k' = 13
    · subst hk
      have hy := vld_y (by decide) (by decide) hv'
      have hx : x' ≠ t := fun e => hne ⟨rfl, e, hy.2⟩
      obtain ⟨f', rfl, h3⟩ := hc
      refine ⟨f', rfl, fun j hj => ?_⟩
      rw [h3 j hj]
      show nI (a.1 15 (4 * x' + j)) = nI (up2 a.1 15 (4 * t + i) v 15 (4 * x' + j))
      rw [up2_n _ _ (by omega)]
    · exact okc_N15 _ _ hk hc
  · show upd f i (nI v) j = nI (up2 a.1 15 (4 * t + i) v 15 (4 * t + j))
    rw [upd_at]
    by_cases hj' : j = i
    · subst hj'; rw [if_pos rfl, up2_s]
    · rw [if_neg hj', up2_n _ _ (by omega), h2 j hj]
theorem RC.w_fo (h : RC E xa ma b a w σ) {t : Nat} (ht : t < a.1 0 0) (v : Nat) : ∃ σ', wF σ (w.1 6 t 0) 3 3 (.int (nI v)) = some σ' ∧ RC E xa ma b (aN_ a 7 t v) w σ' ∧ Fr E ma σ σ' := by
  have hv : vld b a 6 t 0 := vld_t (k := 6) (by decide) (by decide) ht
  refine ⟨_, wF_of (h.fc ht) (by simp) _, h.one hv (fun _ _ _ q => q) (fun k' x' y' hv' hne c hc => ?_) ?_, h.fr hv _⟩
  · by_cases hk : k' = 6
    · subst hk
      have hy := vld_y (by decide) (by decide) hv'
      have hx : x' ≠ t := fun e => hne ⟨rfl, e, hy.2⟩
      have e : (aN_ a 7 t v).1 7 x' = a.1 7 x' := up2_n _ _ (fun q => hx q.2)
      show c = .inr (3, [.ref (w.1 7 x' 0), .ref (w.1 8 x' 0), .ref (w.1 9 x' 0), .int (nI ((aN_ a 7 t v).1 7 x'))])
      rw [e]
      exact hc
    · exact okc_N7 _ _ hk hc
  · have e : (aN_ a 7 t v).1 7 t = v := up2_s _ _ _ _
    show _ = (Sum.inr (3, [.ref (w.1 7 t 0), .ref (w.1 8 t 0), .ref (w.1 9 t 0), .int (nI ((aN_ a 7 t v).1 7 t))]) : va_E)
    rw [e]
    rfl
theorem RC.w_lo (h : RC E xa ma b a w σ) {t : Nat} (ht : t < a.1 0 0) (v : Nat) : ∃ σ', wF σ (w.1 10 t 0) 6 3 (.int (nI v)) = some σ' ∧ RC E xa ma b (aN_ a 12 t v) w σ' ∧ Fr E ma σ σ' := by
  have hv : vld b a 10 t 0 := vld_t (k := 10) (by decide) (by decide) ht
  refine ⟨_, wF_of (h.lc ht) (by simp) _, h.one hv (fun _ _ _ q => q) (fun k' x' y' hv' hne c hc => ?_) ?_, h.fr hv _⟩
  · by_cases hk : k' = 10
    · subst hk
      have hy := vld_y (by decide) (by decide) hv'
      have hx : x' ≠ t := fun e => hne ⟨rfl, e, hy.2⟩
      have e : (aN_ a 12 t v).1 12 x' = a.1 12 x' := up2_n _ _ (fun q => hx q.2)
      show c = .inr (6, [.ref (w.1 11 x' 0), .ref (w.1 12 x' 0), .ref (w.1 13 x' 0), .int (nI ((aN_ a 12 t v).1 12 x'))])
      rw [e]
      exact hc
    · exact okc_N12 _ _ hk hc
  · have e : (aN_ a 12 t v).1 12 t = v := up2_s _ _ _ _
    show _ = (Sum.inr (6, [.ref (w.1 11 t 0), .ref (w.1 12 t 0), .ref (w.1 13 t 0), .int (nI ((aN_ a 12 t v).1 12 t))]) : va_E)
    rw [e]
    rfl
theorem RC.w_out (h : RC E xa ma b a w σ) (v : Int32) : ∃ σ', wF σ xa 9 7 (.int v) = some σ' ∧ RC E xa ma b (aW_ a v) w σ' ∧ Fr E ma σ σ' := by
  have hv : vld b a 0 0 0 := vld_0 (by decide)
  have hc := h.c0
  rw [← h.2.1] at hc ⊢
  refine ⟨_, wF_of hc (by simp) _, ?_, h.fr hv _⟩
  have := h.one hv (a' := aW_ a v) (fun _ _ _ q => q) (fun k' x' y' hv' hne c hc => by
    by_cases hk : k' = 0
    · subst hk
      rcases hv' with q | q | q | q | q | q | q | q <;> first | omega | exact absurd ⟨rfl, q.2⟩ hne
    · exact okc_W _ hk hc) (c := .inr (9, [.ref (w.1 1 0 0), .int (nI (a.1 0 0)), .ref (w.1 2 0 0), .int (nI (a.1 16 0)), .ref (w.1 3 0 0), .int (nI (a.1 23 0)), .ref (w.1 4 0 0), .int v])) rfl
  rw [← h.2.1] at this
  exact this
theorem RC.w_ms (h : RC E xa ma b a w σ) {t : Nat} (ht : t < a.1 0 0) (v : Nat) (hb : ∀ u, u < a.1 0 0 → bd (aN_ a 11 t v) u = bd a u) : ∃ σ', wF σ (w.1 5 t 0) 8 9 (.int (nI v)) = some σ' ∧ RC E xa ma b (aN_ a 11 t v) w σ' ∧ Fr E ma σ σ' := by
  have hv : vld b a 5 t 0 := vld_t (by decide) (by decide) ht
  refine ⟨_, wF_of (h.tc ht) (by simp) _, h.one hv (fun _ _ _ q => q) (fun k' x' y' hv' hne c hc => ?_) ?_, h.fr hv _⟩
  · by_cases hk : k' = 5
    · subst hk
      have hy := vld_y (by decide) (by decide) hv'
      have hx : x' ≠ t := fun e => hne ⟨rfl, e, hy.2⟩
      have e : (aN_ a 11 t v).1 11 x' = a.1 11 x' := up2_n _ _ (fun q => hx q.2)
      show c = .inr (8, [.int (nI x'), .int (nI (a.1 1 x')), va_rf (mp w.1 5 (a.2.1 2 x')), .int (lt (a.2.1 3 x')), .int (nI (a.1 5 x')), .int (b2 (bd (aN_ a 11 t v) x')), .ref (w.1 14 x' 0), .ref (w.1 6 x' 0), .ref (w.1 10 x' 0), .int (nI ((aN_ a 11 t v).1 11 x')), va_rf (mp w.1 5 (a.2.1 6 x'))])
      rw [e, hb x' hy.1]
      exact hc
    · exact okc_N11 _ _ hk hc
  · have e : (aN_ a 11 t v).1 11 t = v := up2_s _ _ _ _
    show _ = (Sum.inr (8, [.int (nI t), .int (nI (a.1 1 t)), va_rf (mp w.1 5 (a.2.1 2 t)), .int (lt (a.2.1 3 t)), .int (nI (a.1 5 t)), .int (b2 (bd (aN_ a 11 t v) t)), .ref (w.1 14 t 0), .ref (w.1 6 t 0), .ref (w.1 10 t 0), .int (nI ((aN_ a 11 t v).1 11 t)), va_rf (mp w.1 5 (a.2.1 6 t))]) : va_E)
    rw [e, hb t ht]
    rfl
theorem RC.w_pa (h : RC E xa ma b a w σ) {t u : Nat} (ht : t < a.1 0 0) : ∃ σ', wF σ (w.1 5 t 0) 8 10 (.ref (w.1 5 u 0)) = some σ' ∧ RC E xa ma b (aP_ a 6 t (some u)) w σ' ∧ Fr E ma σ σ' := by
  have hv : vld b a 5 t 0 := vld_t (by decide) (by decide) ht
  refine ⟨_, wF_of (h.tc ht) (by simp) _, h.one hv (fun _ _ _ q => q) (fun k' x' y' hv' hne c hc => ?_) ?_, h.fr hv _⟩
  · by_cases hk : k' = 5
    · subst hk
      have hy := vld_y (by decide) (by decide) hv'
      have hx : x' ≠ t := fun e => hne ⟨rfl, e, hy.2⟩
      have e : (aP_ a 6 t (some u)).2.1 6 x' = a.2.1 6 x' := up2_n _ _ (fun q => hx q.2)
      show c = .inr (8, [.int (nI x'), .int (nI (a.1 1 x')), va_rf (mp w.1 5 (a.2.1 2 x')), .int (lt (a.2.1 3 x')), .int (nI (a.1 5 x')), .int (b2 (bd a x')), .ref (w.1 14 x' 0), .ref (w.1 6 x' 0), .ref (w.1 10 x' 0), .int (nI (a.1 11 x')), va_rf (mp w.1 5 ((aP_ a 6 t (some u)).2.1 6 x'))])
      rw [e]
      exact hc
    · exact okc_P6 _ _ hk hc
  · have e : (aP_ a 6 t (some u)).2.1 6 t = some u := up2_s _ _ _ _
    show _ = (Sum.inr (8, [.int (nI t), .int (nI (a.1 1 t)), va_rf (mp w.1 5 (a.2.1 2 t)), .int (lt (a.2.1 3 t)), .int (nI (a.1 5 t)), .int (b2 (bd a t)), .ref (w.1 14 t 0), .ref (w.1 6 t 0), .ref (w.1 10 t 0), .int (nI (a.1 11 t)), va_rf (mp w.1 5 ((aP_ a 6 t (some u)).2.1 6 t))]) : va_E)
    rw [e]
    rfl
theorem okR_of {ci : Nat} {q : Nat} {fs : List Value} (h : σ.1 q = some (.inr (ci, fs))) : okR σ ci (some q) = true := by
  unfold okR
  simp [h]
theorem RC.w_pl (h : RC E xa ma b a w σ) {p : Nat} (hp : p < 8) {r : Option Nat} (hr : ∀ o, r = some o → o < a.1 16 0) : ∃ σ', sR σ (w.1 2 0 0) (nI p) (mp w.1 16 r) = some σ' ∧ RC E xa ma b (aP_ a 22 p r) w σ' ∧ Fr E ma σ σ' := by
  have hv : vld b a 2 0 0 := vld_0 (by decide)
  obtain ⟨c, h1, f, rfl, h2⟩ := h.cell hv
  have hk : okR σ (hmC 5) (mp w.1 16 r) = true := by
    cases r with
    | none => rfl
    | some o => exact okR_of (h.oc (hr o rfl))
  refine ⟨_, sR_of h1 (by decide) (by decide) hp (by decide) hk, h.one hv (fun _ _ _ q => q) (fun k' x' y' hv' hne c hc => ?_) ⟨va_up f p (mp w.1 16 r), rfl, fun j hj => ?_⟩, h.fr hv _⟩
  · by_cases hk : k' = 2
    · subst hk
      rcases hv' with q | q | q | q | q | q | q | q <;> first | omega | exact absurd ⟨rfl, q.2⟩ hne
    · exact okc_P22 _ _ hk hc
  · show va_up f p (mp w.1 16 r) j = mp w.1 16 (up2 a.2.1 22 p r 22 j)
    by_cases hj' : j = p
    · subst hj'; rw [va_up_self, up2_s]
    · rw [va_up_ne _ _ hj', up2_n _ _ (fun q => hj' q.2), h2 j hj]
theorem RC.w_ce (h : RC E xa ma b a w σ) {o u : Nat} (h1 : o < b) (h2 : u < 12) (h3 : isO a o u = true) (hb : ∀ x y, x < b → y < 12 → isO a x y = true → hs a x y ≤ 4) {i : Nat} (hi : i < hs a o u) (v : Int64) : ∃ σ', sL σ (w.1 19 o u) (nI i) v = some σ' ∧ RC E xa ma b (aL_ a 20 (4 * (12 * o + u) + i) v) w σ' ∧ Fr E ma σ σ' := by
  have hv : vld b a 19 o u := vld_19 h1 h2 h3 (by omega)
  have h4 := hb o u h1 h2 h3
  obtain ⟨c, g1, f, rfl, g2⟩ := h.cell hv
  refine ⟨_, sL_of g1 hi (by omega) _, h.one hv (fun _ _ _ q => q) (fun k' x' y' hv' hne c hc => ?_) ⟨vp_updL f i v, rfl, fun j hj => ?_⟩, h.fr hv _⟩
  · by_cases hk : k' = 19
    · subst hk
      obtain ⟨f', rfl, h3⟩ := hc
      refine ⟨f', rfl, fun j hj => ?_⟩
      have hq : x' < b ∧ y' < 12 ∧ isO a x' y' = true := by
        rcases hv' with q | q | q | q | q | q | q | q <;> first | omega | exact ⟨q.2.1, q.2.2.1, q.2.2.2.1⟩
      have hj4 : hs a x' y' ≤ 4 := hb x' y' hq.1 hq.2.1 hq.2.2
      have hj' : j < hs a x' y' := hj
      rw [h3 j hj]
      show a.2.2.1 20 (4 * (12 * x' + y') + j) = up2 a.2.2.1 20 (4 * (12 * o + u) + i) v 20 (4 * (12 * x' + y') + j)
      rw [up2_n _ _ (fun q => hne ⟨rfl, by omega, by omega⟩)]
    · exact okc_L20 _ _ hk hc
  · have hj' : j < hs a o u := hj
    show vp_updL f i v j = up2 a.2.2.1 20 (4 * (12 * o + u) + i) v 20 (4 * (12 * o + u) + j)
    rw [updL_at]
    by_cases hj' : j = i
    · subst hj'; rw [if_pos rfl, up2_s]
    · rw [if_neg hj', up2_n _ _ (by omega), g2 j hj]
theorem RC.w_fd (h : RC E xa ma b a w σ) (r : Option Nat) (i : Int32) (z : Bool) : ∃ σ', fX0_pointAt (w.1 4 0 0) r i (b2 z) σ = some ((), σ') ∧ RC E xa ma b a w σ' ∧ Fr E ma σ σ' ∧ σ'.1 (w.1 4 0 0) = some (.inr (2, [va_rf r, .int i, .int (b2 z)])) := by
  have hv : vld b a 4 0 0 := vld_0 (by decide)
  obtain ⟨c, h1, r0, i0, z0, rfl⟩ := h.cell hv
  have up : ∀ {σ : hmS}, RC E xa ma b a w σ → ∀ (r : Option Nat) (i z : Int32), RC E xa ma b a w (hmU σ (w.1 4 0 0) (.inr (2, [va_rf r, .int i, .int z]))) := fun h r i z => h.one hv (fun _ _ _ q => q) (fun k' x' y' hv' hne c hc => hc) ⟨r, i, z, rfl⟩
  have e1 := wF_of (k := 0) h1 (by simp) (va_rf r)
  have g1 : RC E xa ma b a w (hmU σ (w.1 4 0 0) (.inr (2, [va_rf r, .int i0, .int z0]))) := up h r i0 z0
  have e2 := wF_of (σ := hmU σ (w.1 4 0 0) (.inr (2, [va_rf r, .int i0, .int z0]))) (k := 1) (hmU_s _ _ _) (by simp) (.int i)
  have g2 := up g1 r i z0
  have e3 := wF_of (σ := hmU (hmU σ (w.1 4 0 0) (.inr (2, [va_rf r, .int i0, .int z0]))) (w.1 4 0 0) (.inr (2, [va_rf r, .int i, .int z0]))) (k := 2) (hmU_s _ _ _) (by simp) (.int (b2 z))
  have g3 := up g2 r i (b2 z)
  refine ⟨_, ?_, g3, ((h.fr hv _).trans (g1.fr hv _)).trans (g2.fr hv _), hmU_s _ _ _⟩
  unfold fX0_pointAt
  rw [e1]
  simp only [ob_some, List.set]
  rw [e2]
  simp only [ob_some, List.set, okZ_b2]
  rw [e3]
  rfl
end CW
