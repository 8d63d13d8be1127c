/-! The class: see, put, seen, that. -/
section CP
variable {E : hmG} {xa ma b : Nat} {a : aS} {w : cG} {σ : hmS}
theorem RC.w_out2 (h : RC E xa ma b a w σ) (v : Int32) : ∃ σ', wF σ xa 9 7 (.int v) = some σ' ∧ RC E xa ma b (aW_ a v) w σ' ∧ Fr E ma σ σ' ∧ σ'.1 (w.1 4 0 0) = σ.1 (w.1 4 0 0) := by
  obtain ⟨σ', e, g, f⟩ := h.w_out v
  refine ⟨σ', e, g, f, ?_⟩
  obtain ⟨fs, -, -, rfl⟩ := wF_s e
  refine hmU_n σ _ (fun q => ?_)
  rw [← h.2.1] at q
  have := (h.inj (vld_0 (k := 4) (by decide)) (vld_0 (k := 0) (by decide)) q).1
  omega
theorem RC.ptrR (h : RC E xa ma b a w σ) (hi : Iv a) (hb : a.1 16 0 ≤ b) {r : Int32 × Nat × Nat} {p i : Nat} {z : Bool} (hp : ptr4 a w r p i z) : ∃ m, aN σ p = some (nI m) ∧ i < m ∧ m ≤ 4 ∧ aL σ p (nI i) = some (a.2.2.1 r.2.1 r.2.2) := by
  obtain ⟨hbd, hw, hc, hO, hq, hz⟩ := id hi
  rcases hp with (⟨e, -, t, h1, h2, rfl, e2⟩ | ⟨e, -, o, u, h1, h2, h3, h4, rfl, e2⟩ | ⟨e, -, o, u, h1, h2, h3, h4, rfl, e2⟩) | ⟨e, -, j, h1, h2, rfl, e2⟩
  · obtain ⟨c, g1, f, rfl, g2⟩ := h.cell (vld_t (k := 8) (by decide) (by decide) h1)
    exact ⟨4, aN_of g1, h2, Nat.le_refl _, by rw [aL_of g1 rfl h2 (by decide), g2 i h2, e, e2]⟩
  · obtain ⟨c, g1, f, rfl, g2⟩ := h.cell (vld_19 (Nat.lt_of_lt_of_le h1 hb) h2 h3 (by omega))
    have hl := hs_le hw hO h1 h2 h3
    exact ⟨hs a o u, aN_of g1, h4, hl, by rw [aL_of g1 rfl h4 (by omega), g2 i h4, e, e2]⟩
  · obtain ⟨c, g1, f, rfl, g2⟩ := h.cell (vld_20 (Nat.lt_of_lt_of_le h1 hb) h2 h3 (by omega))
    have hl := cpl_le hw (hO o h1 u h2 h3).1
    exact ⟨cpl a u, aN_of g1, h4, hl, by rw [aL_of g1 rfl h4 (by omega), g2 i h4, e, e2]⟩
  · obtain ⟨c, g1, f, rfl, g2⟩ := h.cell (vld_22 h1 (by omega))
    obtain ⟨l1, l2, -⟩ := hq.2.2.2.2 j h1
    have hl := hw.nl l1
    exact ⟨a.1 26 j, aN_of g1, h2, by omega, by rw [aL_of g1 rfl h2 (by omega), g2 i h2, e, e2]⟩
theorem cp_there {p i m : Nat} {z : Int32} {q : Nat} (hc : σ.1 q = some (.inr (2, [.ref p, .int (nI i), .int z]))) (hN : aN σ p = some (nI m)) (him : i < m) (hm : m ≤ 4) : fX0_isThere q σ = some (1, σ) := by
  have e0 : gR σ q 2 0 = some (some p) := gR_of hc rfl
  have e1 : gI σ q 2 1 = some (nI i) := gI_of hc rfl
  simp only [fX0_isThere, e0, ob_some, oc_some, e1, if_neg (n_nn (show i < 100000 by omega)), hN, n_le (show m < 100000 by omega) (show i < 100000 by omega), if_neg (show ¬ m ≤ i by omega)]
theorem cp_read {p i m : Nat} {z : Int32} {q : Nat} {v : Int64} (hc : σ.1 q = some (.inr (2, [.ref p, .int (nI i), .int z]))) (hN : aN σ p = some (nI m)) (him : i < m) (hm : m ≤ 4) (hv : aL σ p (nI i) = some v) : fX0_read q σ = some (v, σ) := by
  have e0 : gR σ q 2 0 = some (some p) := gR_of hc rfl
  have e1 : gI σ q 2 1 = some (nI i) := gI_of hc rfl
  simp only [fX0_read, obC_of hc, ob_some, cp_there hc hN him hm, cb_some, if_neg (show ¬ (1 : Int32) = 0 by decide), e0, e1, hv]
theorem cp_seeG (hi : Iv a) (hb : a.1 16 0 ≤ b) (h : RC E xa ma b a w σ) {r : Int32 × Nat × Nat} {f : Option (Int32 × hmS)} (hF : FD E xa ma b a w σ (ptr4 a w) r f) : ∃ σ', (cb f fun r4 σ3 => ob (wF σ3 xa 9 7 (.int r4)) fun σ5 => ob (gI σ5 xa 9 7) fun f7 => if f7 = 0 then ob (gR σ5 xa 9 6) fun f10 => ob f10 fun a12 => ob (obC σ5 a12 2) fun _ => cb (fX0_read a12 σ5) fun r16 σ15 => some (r16, σ15) else some ((0 : Int64), σ5)) = some (rv a 0 r, σ') ∧ RC E xa ma b (aW_ a (pw 0 r)) w σ' ∧ Fr E ma σ σ' := by
  obtain ⟨σ1, e1, g1, f1, p1⟩ := hF
  obtain ⟨σ2, e2, g2, f2, k2⟩ := g1.w_out2 r.1
  have epw : pw 0 r = r.1 := by unfold pw; rw [if_neg (fun q => absurd q.1 (by decide))]
  have e7 : gI σ2 xa 9 7 = some r.1 := g2.m7
  refine ⟨σ2, ?_, by rw [epw]; exact g2, f1.trans f2⟩
  unfold rv
  rw [epw, e1, cb_some, e2, ob_some, e7, ob_some]
  by_cases h0 : r.1 = 0
  · rw [if_pos h0, if_pos h0]
    obtain ⟨p, i, z, hi4, c1, hp⟩ := p1 h0
    rw [← k2] at c1
    obtain ⟨m, q1, q2, q3, q4⟩ := g2.ptrR (show Iv (aW_ a r.1) from hi) hb (show ptr4 (aW_ a r.1) w r p i z from hp)
    simp only [g2.m6, ob_some, obC_of c1, cp_read c1 q1 q2 q3 q4, cb_some]
    rfl
  · rw [if_neg h0, if_neg h0]
theorem cd_see (hi : Iv a) (h : RC E xa ma (a.1 16 0) a w σ) (x y : Int32) : CC E xa ma (sp_see a x y).2 (sp_see a x y).1 σ (fX7_see xa x y σ) := by
  obtain ⟨σ1, e1, g1, f1, p1⟩ := h.findP hi (Nat.le_refl _) x y
  obtain ⟨σ', e, g, f⟩ := cp_seeG hi (Nat.le_refl _) h (r := fpl a x y) (f := fX7_findFromPlace xa x y σ) ⟨σ1, e1, g1, f1, fun h0 => by obtain ⟨p, i, z, q1, q2, q3⟩ := p1 h0; exact ⟨p, i, z, q1, q2, Or.inl q3⟩⟩
  refine ⟨w, σ', ?_, g, f⟩
  simp only [fX7_see, h.mC, ob_some]
  exact e
theorem cd_seen (hi : Iv a) (h : RC E xa ma (a.1 16 0) a w σ) (x y : Int32) : CC E xa ma (sp_seen a x y).2 (sp_seen a x y).1 σ (fX7_seen xa x y σ) := by
  obtain ⟨σ', e, g, f⟩ := cp_seeG hi (Nat.le_refl _) h (h.findM hi (Nat.le_refl _) x y)
  refine ⟨w, σ', ?_, g, f⟩
  simp only [fX7_seen, h.mC, ob_some]
  exact e
theorem cd_put (hi : Iv a) (h : RC E xa ma (a.1 16 0) a w σ) (x y : Int32) (v : Int64) : CC E xa ma (sp_put a x y v).2 (sp_put a x y v).1 σ (fX7_put xa x y v σ) := by
  obtain ⟨hbd, hw, hc, hO, hq, hz⟩ := id hi
  obtain ⟨σ1, e1, g1, f1, p1⟩ := h.findP hi (Nat.le_refl _) x y
  unfold sp_put
  generalize fpl a x y = r at *
  obtain ⟨σ2, e2, g2, f2, k2⟩ := g1.w_out2 r.1
  have e7 : gI σ2 xa 9 7 = some r.1 := g2.m7
  have f12 := f1.trans f2
  have hJ48 : ∀ {a' : aS} {σ : hmS}, RC E xa ma (a.1 16 0) a' w σ → fX7_put_J48 xa x y v σ = some (a'.2.2.2, σ) := fun {a' σ} g => by simp only [fX7_put_J48, g.m7, ob_some]
  simp only [fX7_put, h.mC, ob_some, e1, cb_some, e2, e7]
  by_cases h0 : r.1 = 0
  · rw [if_pos h0]
    obtain ⟨p, i, z, hi4, c1, hp⟩ := p1 h0
    rw [← k2] at c1
    obtain ⟨m, q1, q2, q3, q4⟩ := g2.ptrR (show Iv (aW_ a r.1) from hi) (Nat.le_refl _) (show ptr4 (aW_ a r.1) w r p i z from Or.inl hp)
    have ez : gI σ2 (w.1 4 0 0) 2 2 = some (b2 z) := gI_of c1 rfl
    have er : gR σ2 (w.1 4 0 0) 2 0 = some (some p) := gR_of c1 rfl
    have ei : gI σ2 (w.1 4 0 0) 2 1 = some (nI i) := gI_of c1 rfl
    simp only [g2.m6, ob_some, ez]
    have hW : ∀ {a' : aS} {σ3 : hmS}, sL σ2 p (nI i) v = some σ3 → RC E xa ma (a.1 16 0) a' w σ3 → fX7_put_J33 xa x y v σ2 = some (a'.2.2.2, σ3) := fun {a' σ3} es g3 => by
      simp only [fX7_put_J33, e7, ob_some, if_pos h0, g2.m6, obC_of c1, fX0_write, cp_there c1 q1 q2 q3, cb_some, if_neg (show ¬ (1 : Int32) = 0 by decide), er, ei, es, hJ48 g3]
    rw [h0] at g2
    rcases hp with ⟨e, rfl, t, t1, t2, rfl, t3⟩ | ⟨e, rfl, o, u, o1, o2, o3, o4, rfl, o5⟩ | ⟨e, rfl, o, u, o1, o2, o3, o4, rfl, o5⟩
    · have epw : pw 1 r = 0 := by unfold pw; rw [if_neg (fun q => by have := q.2.2; omega)]; exact h0
      obtain ⟨σ3, e3, g3, f3⟩ := g2.w_fv t1 t2 v
      refine ⟨w, σ3, ?_, ?_, f12.trans f3⟩
      · rw [if_pos (show b2 false = 0 from rfl), hW e3 g3, epw]; rfl
      · unfold putR
        rw [if_pos epw, e, t3]
        exact g3
    · have epw : pw 1 r = 0 := by unfold pw; rw [if_neg (fun q => by have := q.2.2; omega)]; exact h0
      obtain ⟨σ3, e3, g3, f3⟩ := g2.w_ce o1 o2 o3 (fun x y hx hy hxy => hs_le (a := a) hw hO hx hy hxy) o4 v
      refine ⟨w, σ3, ?_, ?_, f12.trans f3⟩
      · rw [if_pos (show b2 false = 0 from rfl), hW e3 g3, epw]; rfl
      · unfold putR
        rw [if_pos epw, e, o5]
        exact g3
    · have epw : pw 1 r = 7 := by unfold pw; rw [if_pos ⟨rfl, h0, e⟩]
      obtain ⟨σ3, e3, g3, f3⟩ := g2.w_out 7
      have e8 : gI σ3 xa 9 7 = some 7 := g3.m7
      refine ⟨w, σ3, ?_, ?_, f12.trans f3⟩
      · rw [if_neg (show ¬ b2 true = 0 by decide)]
        simp only [e3, ob_some, fX7_put_J33, e8, if_neg (show ¬ (7 : Int32) = 0 by decide), hJ48 g3, epw]
        rfl
      · unfold putR
        rw [epw, if_neg (by decide)]
        exact g3
  · have epw : pw 1 r = r.1 := by unfold pw; rw [if_neg (fun q => h0 q.2.1)]
    rw [if_neg h0]
    refine ⟨w, σ2, ?_, ?_, f12⟩
    · simp only [fX7_put_J33, e7, ob_some, if_neg h0, hJ48 g2, epw]
      rfl
    · unfold putR
      rw [epw, if_neg h0]
      exact g2
theorem RC.thatL (h : RC E xa ma b a w σ) (hi : Iv a) (hb : a.1 16 0 ≤ b) {v d : Nat} (hv : v < a.1 0 0) (hd : d < 8) (x1 x2 : Int32) : ∀ (ts : List Nat) (o q : Option Nat) (s N : Nat), isCh (a.2.1 2) o ts → (∀ x ∈ ts, x < a.1 0 0) → s + ts.length ≤ 12 → ts.length < N → (∀ r, q = some r → r < a.1 16 0 ∧ ∀ t, o = some t → isO a r t = true) → ∃ σ', fX7_holdThat_L54 xa x1 x2 (nI d) N (w.1 5 v 0) (mp w.1 16 q) (mp w.1 5 o) (nI s) σ = some ((thL a v ts q).1, σ') ∧ RC E xa ma b (match (thL a v ts q).2 with | some q' => aP_ a 22 d (some q') | none => a) w σ' ∧ Fr E ma σ σ' := by
  obtain ⟨hbd, hw, hc, hO, hq, hz⟩ := hi
  have hn := hw.n12
  intro ts
  induction ts with
  | nil =>
    intro o q s N hch _ _ hN _
    obtain ⟨N, rfl⟩ : ∃ k, N = k + 1 := ⟨N - 1, by omega⟩
    cases o with
    | some t => exact hch.elim
    | none =>
      refine ⟨σ, ?_, h, Fr.refl _ _ _⟩
      simp only [fX7_holdThat_L54, fX7_holdThat_B54, mp_n, oc_none, fX7_holdThat_J104, reduceCtorEq, if_false, thL]
  | cons t ts ih =>
    intro o q s N hch hl hs hN hob
    obtain ⟨N, rfl⟩ : ∃ k, N = k + 1 := ⟨N - 1, by omega⟩
    cases o with
    | none => exact hch.elim
    | some t' =>
      obtain ⟨rfl, h2⟩ := hch
      have ht := hl t List.mem_cons_self
      simp only [List.length_cons] at hs hN
      have h12 : ((12 : Int32) ≤ nI s) = (12 ≤ s) := n_le (x := 12) (by decide) (by omega)
      have ee : (some (w.1 5 t 0) = some (w.1 5 v 0)) = (t = v) := by rw [Option.some.injEq, h.tyE ht hv]
      simp only [fX7_holdThat_L54, fX7_holdThat_B54, mp_s, oc_some, ee, h12, if_neg (show ¬ 12 ≤ s by omega)]
      unfold thL
      by_cases htv : t = v
      · simp only [if_pos htv, fX7_holdThat_J104, ee]
        cases q with
        | none => exact ⟨σ, by simp only [mp_n, oc_none], h, Fr.refl _ _ _⟩
        | some r =>
          obtain ⟨σ', e1, g1, f1⟩ := h.w_pl hd (r := some r) (fun o ho => by cases ho; exact (hob r rfl).1)
          refine ⟨σ', ?_, g1, f1⟩
          rw [mp_s] at e1
          simp only [mp_s, oc_some, h.m2, ob_some, e1]
      · simp only [if_neg htv]
        have hnx := nxt_ok hw hO ht (q := q) (fun r hr => ⟨(hob r hr).1, (hob r hr).2 t rfl⟩)
        obtain ⟨σ', e1, g1, f1⟩ := ih (a.2.1 2 t) (nxt a t q) (s + 1) N h2 (fun x hx => hl x (List.mem_cons_of_mem _ hx)) (by omega) (by omega) hnx
        refine ⟨σ', ?_, g1, f1⟩
        rw [← e1]
        cases q with
        | none => simp only [mp_n, oc_none, fX7_holdThat_J89, h.t2 ht, ob_some, n_s, nxt]
        | some qo =>
          obtain ⟨c1, c2⟩ := hob qo rfl
          simp only [mp_s, oc_some, h.oC c1, ob_some, h.nxtA hw hO hb ht c1 (c2 t rfl), cb_some, fX7_holdThat_J89, h.t2 ht, n_s]
theorem cd_that (hi : Iv a) (h : RC E xa ma (a.1 16 0) a w σ) (x y z : Int32) : CC E xa ma (sp_that a x y z).2 (sp_that a x y z).1 σ (fX7_that xa x y z σ) := by
  obtain ⟨hbd, hw, hc, hO, hq, hzz⟩ := id hi
  have hn := hw.n12
  -- what is held, then what came of it
  have fin : ∀ {a' : aS} {r : Int32} {σ1 : hmS}, a'.1 16 0 = a.1 16 0 → fX7_holdThat xa x y z σ = some (r, σ1) → RC E xa ma (a.1 16 0) a' w σ1 → Fr E ma σ σ1 → CC E xa ma (aW_ a' r) r σ (fX7_that xa x y z σ) := by
    intro a' r σ1 ha e1 g1 f1
    obtain ⟨σ2, e2, g2, f2⟩ := g1.w_out r
    refine ⟨w, σ2, ?_, by rw [show (aW_ a' r).1 16 0 = a.1 16 0 from ha]; exact g2, f1.trans f2⟩
    have e7 : gI σ2 xa 9 7 = some r := g2.m7
    simp only [fX7_that, h.mC, ob_some, e1, cb_some, e2, e7]
  unfold sp_that
  cases hx : ix x 8 with
  | none => exact fin rfl (by simp [fX7_holdThat, h.mC, ob_some, h.typeAt hn, cm_isPlace, cb_some, hx, b2]) h (Fr.refl _ _ _)
  | some p =>
    obtain ⟨hp, rfl⟩ := ix_s hx (by decide)
    cases hy : ix y (a.1 0 0) with
    | none => exact fin rfl (by simp [fX7_holdThat, h.mC, ob_some, h.typeAt hn, cm_isPlace, cb_some, hx, hy, b2, mp_n, oc_none]) h (Fr.refl _ _ _)
    | some v =>
      obtain ⟨hv, rfl⟩ := ix_s hy (by omega)
      cases hz : ix z 8 with
      | none => exact fin rfl (by simp [fX7_holdThat, h.mC, ob_some, h.typeAt hn, cm_isPlace, cb_some, hx, hy, hz, b2, mp_s, oc_some]) h (Fr.refl _ _ _)
      | some d =>
        obtain ⟨hd, rfl⟩ := ix_s hz (by decide)
        dsimp only
        cases ho : a.2.1 22 p with
        | none => exact fin rfl (by simp [fX7_holdThat, h.mC, ob_some, h.typeAt hn, cm_isPlace, cb_some, hx, hy, hz, b2, mp_s, mp_n, oc_some, oc_none, h.m2, h.plA hp, ho]) h (Fr.refl _ _ _)
        | some o =>
          have h1 := hq.2.2.1 p hp o ho
          obtain ⟨h2, h2'⟩ := hq.2.1 o h1
          obtain ⟨ts, t1, t2, t3⟩ := hw.oc' (o := some (a.1 17 o)) (fun x hx => by cases hx; exact h2)
          have e : tyO a o = ts := chl_eq t1 t2
          obtain ⟨σ1, e1, g1, f1⟩ := h.thatL hi (Nat.le_refl _) hv hd (nI p) (nI v) ts (some (a.1 17 o)) (some o) 0 20 t1 t3 (by omega) (by omega) (fun r hr => by cases hr; exact ⟨h1, fun t ht => by cases ht; exact h2'⟩)
          have eH : fX7_holdThat xa (nI p) (nI v) (nI d) σ = some ((thL a v ts (some o)).1, σ1) := by
            rw [mp_s, mp_s] at e1
            simp only [fX7_holdThat, h.mC, ob_some, h.typeAt hn, cm_isPlace, cb_some, hx, hy, hz, b2_0, Option.isSome_some, Bool.true_eq_false, if_false, mp_s, oc_some, h.m2, h.plA hp, ho, h.o0 h1, reduceCtorEq]
            exact e1
          dsimp only
          rw [e]
          cases hr : (thL a v ts (some o)).2 with
          | none =>
            rw [hr] at g1
            exact fin rfl eH g1 f1
          | some q' =>
            rw [hr] at g1
            exact fin (a' := aP_ a 22 d (some q')) rfl eH g1 f1
end CP
