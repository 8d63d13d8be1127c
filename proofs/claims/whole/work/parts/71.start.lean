/-! The beginning. -/
def a00 : aS := (fun _ _ => 0, fun k j => if k = 22 ∧ j < 8 then none else some 0, fun _ _ => 0, 0)
def X00 : Nat → Nat → Int32 := fun _ _ => 0
theorem iv_00 : Iv a00 := by
  refine ⟨⟨fun k j => by show (0 : Nat) < 10000; decide, fun k j q hq => ?_⟩, ⟨Nat.zero_le _, fun j => ⟨Nat.zero_le _, Nat.zero_le _, Nat.zero_le _⟩, fun t ht => absurd ht (Nat.not_lt_zero _)⟩, fun t ht => absurd ht (Nat.not_lt_zero _), fun o ho => absurd ho (Nat.not_lt_zero _), ⟨by show (0 : Nat) < 520; decide, fun o ho => absurd ho (Nat.not_lt_zero _), fun p hp o ho => ?_, Nat.zero_le _, fun j hj => absurd hj (Nat.not_lt_zero _)⟩, fun t _ => ⟨rfl, rfl, rfl⟩, fun j _ => ⟨rfl, rfl, rfl, rfl, rfl, rfl⟩⟩
  · have hq' : (if k = 22 ∧ j < 8 then none else some 0) = some q := hq
    split at hq'
    · cases hq'
    · cases hq'; decide
  · have ho' : (if 22 = 22 ∧ p < 8 then none else some 0) = some o := ho
    rw [if_pos ⟨rfl, hp⟩] at ho'
    cases ho'
theorem mk00 (k j : Nat) : (mkS a00 X00).1 k j = if k = 22 ∧ j < 8 then -3 else 0 := by
  show (if isX k then (0 : Int32) else if k = 28 then (if j = 0 then 0 else 0) else if isP k then pv (if k = 22 ∧ j < 8 then none else some 0) else nI 0) = _
  by_cases h : k = 22 ∧ j < 8
  · rw [if_pos h, if_pos h]
    obtain ⟨rfl, h2⟩ := h
    rfl
  · rw [if_neg h, if_neg h]
    split
    · rfl
    · split
      · split <;> rfl
      · split <;> rfl
theorem z22_at (j : Nat) : z22 j = if j < 8 then -3 else 0 := by
  unfold z22 upd
  by_cases h : j < 8
  · rw [if_pos h]
    (repeat' split) <;> first | rfl | omega
  · rw [if_neg h]
    (repeat' split) <;> first | rfl | omega
theorem RI.rep {ma : Nat} {σ0 σ : hmS} (h : RI ma 26 σ0 σ) : RepR (mkS a00 X00) ma σ := by
  obtain ⟨h1, h2, h3, h4⟩ := h
  intro i hi
  by_cases e : i = 0
  · subst e
    rw [Nat.add_zero, h2]
    have : rF0 ma 26 = rFs (mkS a00 X00) ma := by
      unfold rF0 rFs
      apply List.map_congr_left
      intro k hk
      have hk' : k < 33 := List.mem_range.mp hk
      cases hr : rInt k with
      | true =>
        have hne : k ≠ 22 := fun e => by subst e; cases hr
        simp only [if_true]
        rw [mk00, if_neg (fun q => hne q.1)]
      | false =>
        have := (r_pos k hk' hr).2.1
        simp only [Bool.false_eq_true, if_false]
        rw [if_pos (by omega)]
    rw [this]
    rfl
  · rw [h3 i (by omega) (by omega)]
    unfold rC0 rCell
    rw [if_neg e]
    have e1 : (mkS a00 X00).1 (rFld i) = (if rFld i = 22 then z22 else fun _ => 0) := by
      funext j
      rw [mk00]
      by_cases h22 : rFld i = 22
      · rw [if_pos h22, z22_at]
        by_cases hj : j < 8
        · rw [if_pos ⟨h22, hj⟩, if_pos hj]
        · rw [if_neg (fun q => hj q.2), if_neg hj]
      · rw [if_neg (fun q => h22 q.1), if_neg h22]
    rw [e1]
    rfl
def w00 (xa : Nat) : cG := (fun k _ _ => xa + k, fun p => if xa ≤ p ∧ p < xa + 5 then (p - xa, 0, 0) else (99, 0, 0))
theorem RC.start {E : hmG} {x0 L : Nat} {xs : Nat → Int32} {σ : hmS} (hL : L ≤ 3072) (h : st_ok E x0 L xs σ) : ∃ σ', (∀ K : Nat → Nat → hmS → Option (Int32 × hmS), (nw σ (.inr (9, [.null, .int 0, .null, .int 0, .null, .int 0, .null, .int 0])) fun q1 σ2 => cb (fX7_init E q1 σ2) fun _ σ6 => nw σ6 (.inr (10, [.int 0, .null, .null, .null, .null, .null, .null, .null, .null, .null, .null, .null, .null, .null, .null, .null, .int 0, .null, .null, .null, .null, .null, .null, .int 0, .null, .null, .null, .null, .int 0, .null, .int 0, .int 0, .int 0])) fun q7 σ8 => cb (fX8_init q7 σ8) fun _ σ12 => K q1 q7 σ12) = K σ.2 (σ.2 + 5) σ') ∧ RC E σ.2 (σ.2 + 5) 0 a00 (w00 σ.2) σ' ∧ RepR (mkS a00 X00) (σ.2 + 5) σ' ∧ σ'.1 x0 = some (.inl (9, L, .inl xs)) := by
  obtain ⟨s1, s2, s3, s4, s5, s6, s7, s8, s9⟩ := h
  obtain ⟨σ1, e1, x1, l1, c0, c1, c2, c3, c4⟩ := di_class E σ
  obtain ⟨σ2, e2, hR⟩ := di_ref σ1
  have hrep := hR.rep
  obtain ⟨r1, r2, r3, r4⟩ := hR
  rw [l1] at r1 r4 hrep
  have keep : ∀ p, p < σ.2 → σ2.1 p = σ.1 p := fun p hp => by rw [r4 p (by omega), x1.2 p hp]
  refine ⟨σ2, fun K => ?_, ⟨fun k x y hv => ?_, rfl, fun p hp => ?_, ⟨?_, ?_, ?_, ⟨s7, s8, s9⟩, by omega⟩, by omega⟩, hrep, by rw [keep _ (by omega)]; exact s2⟩
  · simp only [nw]
    rw [e1, cb_some, e2, cb_some, l1]
  · have hk : k < 5 ∧ x = 0 ∧ y = 0 := by
      rcases hv with q | q | q | q | q | q | q | q
      · exact q
      · exact absurd q.2.2.1 (Nat.not_lt_zero _)
      · exact absurd q.2.1 (Nat.not_lt_zero _)
      · exact absurd q.2.1 (Nat.not_lt_zero _)
      · exact absurd q.2.1 (Nat.not_lt_zero _)
      · exact absurd q.2.1 (Nat.not_lt_zero _)
      · exact absurd q.2.1 (Nat.not_lt_zero _)
      · exact absurd q.2.1 (Nat.not_lt_zero _)
    obtain ⟨hk5, rfl, rfl⟩ := hk
    refine ⟨by show σ.2 + k < σ2.2; omega, ?_, ?_⟩
    · show (if σ.2 ≤ σ.2 + k ∧ σ.2 + k < σ.2 + 5 then (σ.2 + k - σ.2, 0, 0) else _) = _
      rw [if_pos ⟨by omega, by omega⟩, show σ.2 + k - σ.2 = k by omega]
    · show ∃ c, σ2.1 (σ.2 + k) = some c ∧ _
      rw [r4 _ (by omega)]
      match k, hk5 with
      | 0, _ => exact ⟨_, c0, rfl⟩
      | 1, _ => exact ⟨_, c1, _, rfl, fun i hi => absurd hi (Nat.not_lt_zero _)⟩
      | 2, _ =>
        refine ⟨_, c2, _, rfl, fun i hi => ?_⟩
        show none = mp _ 16 (if 22 = 22 ∧ i < 8 then none else some 0)
        rw [if_pos ⟨rfl, hi⟩]
        rfl
      | 3, _ => exact ⟨_, c3, _, rfl, fun i hi => absurd hi (Nat.not_lt_zero _)⟩
      | 4, _ => exact ⟨_, c4, some (hmZ E 0), 0, 0, rfl⟩
      | _ + 5, hk5 => omega
  · show (if σ.2 ≤ p ∧ p < σ.2 + 5 then (p - σ.2, 0, 0) else (99, 0, 0)) = _
    rw [if_neg]
    rcases hp with hp | hp
    · rw [← s1] at hp; omega
    · omega
  · rw [keep _ (by omega)]; exact s3
  · rw [keep _ (by omega)]; exact s4
  · rw [keep _ (by omega)]; exact s5
