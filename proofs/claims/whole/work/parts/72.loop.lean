/-! The law's loop: each call answers alike. -/
theorem l_sub {L j : Nat} (hL : L < 100000) (hj : j < 100000) : (nI L - (6 : Int32) < nI j) = (L < j + 6) := by
  by_cases h6 : L < 6
  · have h0 : nI L - (6 : Int32) < 0 := by
      have : ∀ L, L < 6 → nI L - (6 : Int32) < 0 := by decide +kernel
      exact this L h6
    have h1 : (0 : Int32) ≤ nI j := Int32.not_lt.mp (n_nn hj)
    exact propext ⟨fun _ => by omega, fun _ => Int32.lt_of_lt_of_le h0 h1⟩
  · obtain ⟨m, rfl⟩ : ∃ m, L = m + 6 := ⟨L - 6, by omega⟩
    have : nI (m + 6) - (6 : Int32) = nI m := by
      rw [← nI_add m 6, show nI 6 = (6 : Int32) from rfl, Int32.add_sub_cancel]
    rw [this, n_lt (by omega) hj]
    exact propext ⟨fun _ => by omega, fun _ => by omega⟩
theorem l_cmp (x : Int64) : lg_cmp x x = 0 := (lg_cmp_eq x x).mpr rfl
/-- both objects stand as a says, after i calls; the script is as it was -/
def JS (E : hmG) (x0 L : Nat) (xs : Nat → Int32) (xa ma i : Nat) (a : aS) (X : Nat → Nat → Int32) (w : cG) (σ : hmS) : Prop := RC E xa ma (a.1 16 0) a w σ ∧ RepR (mkS a X) ma σ ∧ σ.1 x0 = some (.inl (9, L, .inl xs)) ∧ Iv a ∧ a.1 16 0 ≤ i
def JT (E : hmG) (x0 L : Nat) (xs : Nat → Int32) (xa ma i : Nat) (σ : hmS) : Prop := ∃ a X w, JS E x0 L xs xa ma i a X w σ
section LL
variable {E : hmG} {x0 L : Nat} {xs : Nat → Int32} {xa ma : Nat}
theorem JS.call {i : Nat} {a : aS} {X : Nat → Nat → Int32} {w : cG} {σ : hmS} (hx0 : x0 < hmL E) (hma : hmL E ≤ ma) (h : JS E x0 L xs xa ma i a X w σ) {α : Type} {r : α} {a' : aS} {f7 : Option (α × hmS)} {f8 : hmS → Option (α × hmS)} (h7 : CC E xa ma a' r σ f7) (h8 : ∀ ρ, ∃ X', f8 (rSt ρ ma (mkS a X)) = some (r, rSt ρ ma (mkS a' X'))) (hg : Go a a') : ∃ σ1 σ2, f7 = some (r, σ1) ∧ f8 σ1 = some (r, σ2) ∧ σ1.1 x0 = some (.inl (9, L, .inl xs)) ∧ obC σ1 ma 10 = some () ∧ JT E x0 L xs xa ma (i + 1) σ2 := by
  obtain ⟨g1, g2, g3, g4, g5⟩ := h
  obtain ⟨w', σ1, e1, R1, F1⟩ := h7
  have rep : RepR (mkS a X) ma σ1 := fun j hj => by rw [F1.2 _ (Or.inr ⟨by omega, by omega⟩)]; exact g2 j hj
  obtain ⟨X', e2⟩ := h8 σ1
  rw [← rSt_of rep] at e2
  have s1 : σ1.1 x0 = some (.inl (9, L, .inl xs)) := by rw [F1.2 _ (Or.inl hx0)]; exact g3
  have o1 : obC σ1 ma 10 = some () := obC_of (p := ma) (ci := 10) (fs := rFs (mkS a X) ma) (rep 0 (by decide))
  refine ⟨σ1, rSt σ1 ma (mkS a' X'), e1, e2, s1, o1, a', X', w', ⟨fun k x y hv => ?_, R1.2.1, R1.2.2.1, ?_, R1.2.2.2.2⟩, rSt_rep _ _ _, ?_, hg.1, by have := hg.2; omega⟩
  · obtain ⟨q1, q2, c, q3, q4⟩ := R1.1 k x y hv
    refine ⟨q1, q2, c, ?_, q4⟩
    rw [rSt_out _ _ _ (fun q => R1.out hv (Or.inr q))]
    exact q3
  · obtain ⟨t1, t2, t3, ⟨t4, t5, t6⟩, t7⟩ := R1.2.2.2.1
    exact ⟨by rw [rSt_out _ _ _ (by omega)]; exact t1, by rw [rSt_out _ _ _ (by omega)]; exact t2, by rw [rSt_out _ _ _ (by omega)]; exact t3, ⟨t4, t5, t6⟩, t7⟩
  · rw [rSt_out _ _ _ (by omega)]
    exact s1
set_option maxHeartbeats 4000000 in
set_option maxRecDepth 10000 in
theorem law_loop (hx0 : x0 < hmL E) (hma : hmL E ≤ ma) (hL : L ≤ 3072) : ∀ (N i : Nat) (σ : hmS), JT E x0 L xs xa ma i σ → L + 6 ≤ 6 * (i + N) → 6 * i ≤ L → ∃ σ', fL_law_L18 E x0 N xa ma (nI (6 * i)) σ = some ((1 : Int32), σ') := by
  intro N
  induction N with
  | zero => intro i σ _ h1 h2; omega
  | succ N ih =>
    intro i σ hJ h1 h2
    obtain ⟨a, X, w, hS⟩ := hJ
    obtain ⟨hrc, hrep, hs, hi, hc⟩ := id hS
    have hbd : Wb a := hi.1
    have hw : Wt a := hi.2.1
    have hC := hrc.mC
    by_cases hl : L < 6 * i + 6
    · refine ⟨σ, ?_⟩
      show fL_law_B18 E x0 (fL_law_L18 E x0 N) xa ma (nI (6 * i)) σ = _
      unfold fL_law_B18
      rw [aN_of hs, ob_some]
      show (if nI L - (6 : Int32) < nI (6 * i) then _ else _) = _
      rw [if_pos (by rw [l_sub (by omega) (by omega)]; exact hl)]
    have rd0 : aI σ 0 x0 (nI (6 * i)) = some (xs (6 * i)) := aI_of (bk := 0) hs rfl (by omega) (by omega)
    have rd1 : ∀ s : hmS, s.1 x0 = some (.inl (9, L, .inl xs)) → aI s 0 x0 (nI (6 * i) + (1 : Int32)) = some (xs (6 * i + 1)) := fun s h => by
      rw [show (1 : Int32) = nI 1 from rfl, nI_add]
      exact aI_of (bk := 0) h rfl (by omega) (by omega)
    have rd2 : ∀ s : hmS, s.1 x0 = some (.inl (9, L, .inl xs)) → aI s 0 x0 (nI (6 * i) + (2 : Int32)) = some (xs (6 * i + 2)) := fun s h => by
      rw [show (2 : Int32) = nI 2 from rfl, nI_add]
      exact aI_of (bk := 0) h rfl (by omega) (by omega)
    have rd3 : ∀ s : hmS, s.1 x0 = some (.inl (9, L, .inl xs)) → aI s 0 x0 (nI (6 * i) + (3 : Int32)) = some (xs (6 * i + 3)) := fun s h => by
      rw [show (3 : Int32) = nI 3 from rfl, nI_add]
      exact aI_of (bk := 0) h rfl (by omega) (by omega)
    have rd4 : ∀ s : hmS, s.1 x0 = some (.inl (9, L, .inl xs)) → aI s 0 x0 (nI (6 * i) + (4 : Int32)) = some (xs (6 * i + 4)) := fun s h => by
      rw [show (4 : Int32) = nI 4 from rfl, nI_add]
      exact aI_of (bk := 0) h rfl (by omega) (by omega)
    have rd5 : ∀ s : hmS, s.1 x0 = some (.inl (9, L, .inl xs)) → aI s 0 x0 (nI (6 * i) + (5 : Int32)) = some (xs (6 * i + 5)) := fun s h => by
      rw [show (5 : Int32) = nI 5 from rfl, nI_add]
      exact aI_of (bk := 0) h rfl (by omega) (by omega)
    have next : ∀ σ2, JT E x0 L xs xa ma (i + 1) σ2 → ∃ σ', fL_law_J983 E x0 (fL_law_L18 E x0 N) xa ma (nI (6 * i)) σ2 = some ((1 : Int32), σ') := fun σ2 h => by
      obtain ⟨σ', e⟩ := ih (i + 1) σ2 h (by omega) (by omega)
      refine ⟨σ', ?_⟩
      unfold fL_law_J983
      rw [show (6 : Int32) = nI 6 from rfl, nI_add, show 6 * i + 6 = 6 * (i + 1) by omega]
      exact e
    show ∃ σ', fL_law_B18 E x0 (fL_law_L18 E x0 N) xa ma (nI (6 * i)) σ = some ((1 : Int32), σ')
    generalize fL_law_L18 E x0 N = K18 at next ⊢
    unfold fL_law_B18
    rw [aN_of hs, ob_some]
    show ∃ σ', (if nI L - (6 : Int32) < nI (6 * i) then _ else _) = some ((1 : Int32), σ')
    rw [if_neg (by rw [l_sub (by omega) (by omega)]; exact hl), rd0, ob_some]
    obtain ⟨c0, hc0⟩ : ∃ c0, c0 = xs (6 * i) &&& (31 : Int32) := ⟨_, rfl⟩
    rw [← hc0]
    by_cases h0 : c0 = (0 : Int32)
    · rw [if_pos h0]
      obtain ⟨σ1, σ2, f1, f2, s1, o1, J2⟩ := hS.call hx0 hma (f7 := fX7_type E xa (xs (6 * i + 1)) (xs (6 * i + 2)) (xs (6 * i + 3)) σ) (f8 := fX8_type ma (xs (6 * i + 1)) (xs (6 * i + 2)) (xs (6 * i + 3))) (cd_type hi hrc _ _ _) (fun ρ => ⟨X, rk_type ρ ma a X hi _ _ _⟩) (iv_type hi _ _ _)
      rw [rd1 σ hs, ob_some, rd2 σ hs, ob_some, rd3 σ hs, ob_some, hC, ob_some, f1, cb_some, rd1 σ1 s1, ob_some, rd2 σ1 s1, ob_some, rd3 σ1 s1, ob_some, o1, ob_some, f2, cb_some, if_pos rfl]
      exact next σ2 J2
    rw [if_neg h0]
    by_cases h1 : c0 = (1 : Int32)
    · rw [if_pos h1]
      rw [rd1 σ hs, ob_some, rd2 σ hs, ob_some, rd3 σ hs, ob_some, rd4 σ hs, ob_some, rd5 σ hs, ob_some]
      by_cases hz : xs (6 * i + 5) = 0
      · rw [if_pos hz]
        obtain ⟨σ1, σ2, f1, f2, s1, o1, J2⟩ := hS.call hx0 hma (f7 := fX7_field xa (xs (6 * i + 1)) (xs (6 * i + 2)) (((xs (6 * i + 3)).toInt64 <<< (((32 : Int32)).toInt64 &&& 63)) ||| ((xs (6 * i + 4)).toInt64 &&& (4294967295 : Int64))) (0 : Int32) σ) (f8 := fX8_field ma (xs (6 * i + 1)) (xs (6 * i + 2)) (((xs (6 * i + 3)).toInt64 <<< (((32 : Int32)).toInt64 &&& 63)) ||| ((xs (6 * i + 4)).toInt64 &&& (4294967295 : Int64))) (0 : Int32)) (cd_field hi hrc _ _ _ (s := 0) (by decide)) (fun ρ => ⟨X, rg_field ρ ma a X hw hbd _ _ _ (s := 0) (by decide)⟩) (iv_field hi _ _ _ (by decide))
        unfold fL_law_J215
        rw [hC, ob_some, f1, cb_some, rd1 σ1 s1, ob_some, rd2 σ1 s1, ob_some, rd3 σ1 s1, ob_some, rd4 σ1 s1, ob_some, rd5 σ1 s1, ob_some, if_pos hz]
        unfold fL_law_J262
        rw [o1, ob_some, f2, cb_some, if_pos rfl]
        exact next σ2 J2
      · rw [if_neg hz]
        obtain ⟨σ1, σ2, f1, f2, s1, o1, J2⟩ := hS.call hx0 hma (f7 := fX7_field xa (xs (6 * i + 1)) (xs (6 * i + 2)) (((xs (6 * i + 3)).toInt64 <<< (((32 : Int32)).toInt64 &&& 63)) ||| ((xs (6 * i + 4)).toInt64 &&& (4294967295 : Int64))) (1 : Int32) σ) (f8 := fX8_field ma (xs (6 * i + 1)) (xs (6 * i + 2)) (((xs (6 * i + 3)).toInt64 <<< (((32 : Int32)).toInt64 &&& 63)) ||| ((xs (6 * i + 4)).toInt64 &&& (4294967295 : Int64))) (1 : Int32)) (cd_field hi hrc _ _ _ (s := 1) (by decide)) (fun ρ => ⟨X, rg_field ρ ma a X hw hbd _ _ _ (s := 1) (by decide)⟩) (iv_field hi _ _ _ (by decide))
        unfold fL_law_J215
        rw [hC, ob_some, f1, cb_some, rd1 σ1 s1, ob_some, rd2 σ1 s1, ob_some, rd3 σ1 s1, ob_some, rd4 σ1 s1, ob_some, rd5 σ1 s1, ob_some, if_neg hz]
        unfold fL_law_J262
        rw [o1, ob_some, f2, cb_some, if_pos rfl]
        exact next σ2 J2
    rw [if_neg h1]
    by_cases h2 : c0 = (2 : Int32)
    · rw [if_pos h2]
      obtain ⟨σ1, σ2, f1, f2, s1, o1, J2⟩ := hS.call hx0 hma (f7 := fX7_local xa (xs (6 * i + 1)) (xs (6 * i + 2)) (((xs (6 * i + 3)).toInt64 <<< (((32 : Int32)).toInt64 &&& 63)) ||| ((xs (6 * i + 4)).toInt64 &&& (4294967295 : Int64))) σ) (f8 := fX8_local ma (xs (6 * i + 1)) (xs (6 * i + 2)) (((xs (6 * i + 3)).toInt64 <<< (((32 : Int32)).toInt64 &&& 63)) ||| ((xs (6 * i + 4)).toInt64 &&& (4294967295 : Int64)))) (cd_local hi hrc _ _ _) (fun ρ => ⟨X, rg_local ρ ma a X hw hbd _ _ _⟩) (iv_local hi _ _ _)
      rw [rd1 σ hs, ob_some, rd2 σ hs, ob_some, rd3 σ hs, ob_some, rd4 σ hs, ob_some, hC, ob_some, f1, cb_some, rd1 σ1 s1, ob_some, rd2 σ1 s1, ob_some, rd3 σ1 s1, ob_some, rd4 σ1 s1, ob_some, o1, ob_some, f2, cb_some, if_pos rfl]
      exact next σ2 J2
    rw [if_neg h2]
    by_cases h3 : c0 = (3 : Int32)
    · rw [if_pos h3]
      obtain ⟨σ1, σ2, f1, f2, s1, o1, J2⟩ := hS.call hx0 hma (f7 := fX7_assign xa (xs (6 * i + 1)) (xs (6 * i + 2)) (((xs (6 * i + 3)).toInt64 <<< (((32 : Int32)).toInt64 &&& 63)) ||| ((xs (6 * i + 4)).toInt64 &&& (4294967295 : Int64))) σ) (f8 := fX8_assign ma (xs (6 * i + 1)) (xs (6 * i + 2)) (((xs (6 * i + 3)).toInt64 <<< (((32 : Int32)).toInt64 &&& 63)) ||| ((xs (6 * i + 4)).toInt64 &&& (4294967295 : Int64)))) (cd_assign hi hrc _ _ _) (fun ρ => ⟨X, rg_assign ρ ma a X hw hbd _ _ _⟩) (iv_assign hi _ _ _)
      rw [rd1 σ hs, ob_some, rd2 σ hs, ob_some, rd3 σ hs, ob_some, rd4 σ hs, ob_some, hC, ob_some, f1, cb_some, rd1 σ1 s1, ob_some, rd2 σ1 s1, ob_some, rd3 σ1 s1, ob_some, rd4 σ1 s1, ob_some, o1, ob_some, f2, cb_some, if_pos rfl]
      exact next σ2 J2
    rw [if_neg h3]
    by_cases h4 : c0 = (4 : Int32)
    · rw [if_pos h4]
      rw [rd1 σ hs, ob_some, rd2 σ hs, ob_some]
      by_cases hz : xs (6 * i + 2) = 0
      · rw [if_pos hz]
        obtain ⟨σ1, σ2, f1, f2, s1, o1, J2⟩ := hS.call hx0 hma (f7 := fX7_method xa (xs (6 * i + 1)) (0 : Int32) σ) (f8 := fX8_method ma (xs (6 * i + 1)) (0 : Int32)) (cd_method hi hrc _ (s := 0) (by decide)) (fun ρ => ⟨X, ri_method ρ ma a X hw hbd _ (s := 0) (by decide)⟩) (iv_method hi _ (by decide))
        unfold fL_law_J435
        rw [hC, ob_some, f1, cb_some, rd1 σ1 s1, ob_some, rd2 σ1 s1, ob_some, if_pos hz]
        unfold fL_law_J457
        rw [o1, ob_some, f2, cb_some, if_pos rfl]
        exact next σ2 J2
      · rw [if_neg hz]
        obtain ⟨σ1, σ2, f1, f2, s1, o1, J2⟩ := hS.call hx0 hma (f7 := fX7_method xa (xs (6 * i + 1)) (1 : Int32) σ) (f8 := fX8_method ma (xs (6 * i + 1)) (1 : Int32)) (cd_method hi hrc _ (s := 1) (by decide)) (fun ρ => ⟨X, ri_method ρ ma a X hw hbd _ (s := 1) (by decide)⟩) (iv_method hi _ (by decide))
        unfold fL_law_J435
        rw [hC, ob_some, f1, cb_some, rd1 σ1 s1, ob_some, rd2 σ1 s1, ob_some, if_neg hz]
        unfold fL_law_J457
        rw [o1, ob_some, f2, cb_some, if_pos rfl]
        exact next σ2 J2
    rw [if_neg h4]
    by_cases h5 : c0 = (5 : Int32)
    · rw [if_pos h5]
      obtain ⟨σ1, σ2, f1, f2, s1, o1, J2⟩ := hS.call hx0 hma (f7 := fX7_parent xa (xs (6 * i + 1)) (xs (6 * i + 2)) σ) (f8 := fX8_parent ma (xs (6 * i + 1)) (xs (6 * i + 2))) (cd_parent hi hrc _ _) (fun ρ => ⟨X, ri_parent ρ ma a X hi _ _⟩) (iv_parent hi _ _)
      rw [rd1 σ hs, ob_some, rd2 σ hs, ob_some, hC, ob_some, f1, cb_some, rd1 σ1 s1, ob_some, rd2 σ1 s1, ob_some, o1, ob_some, f2, cb_some, if_pos rfl]
      exact next σ2 J2
    rw [if_neg h5]
    by_cases h6 : c0 = (6 : Int32)
    · rw [if_pos h6]
      obtain ⟨σ1, σ2, f1, f2, s1, o1, J2⟩ := hS.call hx0 hma (f7 := fX7_name E xa (xs (6 * i + 1)) (xs (6 * i + 2)) σ) (f8 := fX8_name ma (xs (6 * i + 1)) (xs (6 * i + 2))) (cd_name hi hrc _ _) (fun ρ => rl_name ρ ma a hi X _ _) (iv_name hi _ _)
      rw [rd1 σ hs, ob_some, rd2 σ hs, ob_some, hC, ob_some, f1, cb_some, rd1 σ1 s1, ob_some, rd2 σ1 s1, ob_some, o1, ob_some, f2, cb_some, if_pos rfl]
      exact next σ2 J2
    rw [if_neg h6]
    by_cases h7 : c0 = (7 : Int32)
    · rw [if_pos h7]
      obtain ⟨σ1, σ2, f1, f2, s1, o1, J2⟩ := hS.call hx0 hma (f7 := fX7_make E xa (xs (6 * i + 1)) (xs (6 * i + 2)) (xs (6 * i + 3)) σ) (f8 := fX8_make ma (xs (6 * i + 1)) (xs (6 * i + 2)) (xs (6 * i + 3))) (cd_make hi hrc _ _ _) (fun ρ => ⟨X, rj_make ρ ma a X hi _ _ _⟩) (iv_make hi (by omega) _ _ _)
      rw [rd1 σ hs, ob_some, rd2 σ hs, ob_some, rd3 σ hs, ob_some, hC, ob_some, f1, cb_some, rd1 σ1 s1, ob_some, rd2 σ1 s1, ob_some, rd3 σ1 s1, ob_some, o1, ob_some, f2, cb_some, if_pos rfl]
      exact next σ2 J2
    rw [if_neg h7]
    by_cases h8 : c0 = (8 : Int32)
    · rw [if_pos h8]
      obtain ⟨σ1, σ2, f1, f2, s1, o1, J2⟩ := hS.call hx0 hma (f7 := fX7_share xa (xs (6 * i + 1)) (xs (6 * i + 2)) σ) (f8 := fX8_share ma (xs (6 * i + 1)) (xs (6 * i + 2))) (cd_share hi hrc _ _) (fun ρ => ⟨X, rf_share ρ ma a X hbd _ _⟩) (iv_share hi _ _)
      rw [rd1 σ hs, ob_some, rd2 σ hs, ob_some, hC, ob_some, f1, cb_some, rd1 σ1 s1, ob_some, rd2 σ1 s1, ob_some, o1, ob_some, f2, cb_some, if_pos rfl]
      exact next σ2 J2
    rw [if_neg h8]
    by_cases h9 : c0 = (9 : Int32)
    · rw [if_pos h9]
      obtain ⟨σ1, σ2, f1, f2, s1, o1, J2⟩ := hS.call hx0 hma (f7 := fX7_free xa (xs (6 * i + 1)) σ) (f8 := fX8_free ma (xs (6 * i + 1))) (cd_free hrc _) (fun ρ => ⟨X, rf_free ρ ma a X hbd _⟩) (iv_free hi _)
      rw [rd1 σ hs, ob_some, hC, ob_some, f1, cb_some, rd1 σ1 s1, ob_some, o1, ob_some, f2, cb_some, if_pos rfl]
      exact next σ2 J2
    rw [if_neg h9]
    by_cases h10 : c0 = (10 : Int32)
    · rw [if_pos h10]
      obtain ⟨σ1, σ2, f1, f2, s1, o1, J2⟩ := hS.call hx0 hma (f7 := fX7_about xa (xs (6 * i + 1)) (xs (6 * i + 2)) σ) (f8 := fX8_about ma (xs (6 * i + 1)) (xs (6 * i + 2))) (cd_about hi hrc _ _) (fun ρ => ⟨X, ri_about ρ ma a X hi _ _⟩) (iv_about hi _ _)
      rw [rd1 σ hs, ob_some, rd2 σ hs, ob_some, hC, ob_some, f1, cb_some, rd1 σ1 s1, ob_some, rd2 σ1 s1, ob_some, o1, ob_some, f2, cb_some, if_pos rfl]
      exact next σ2 J2
    rw [if_neg h10]
    by_cases h11 : c0 = (11 : Int32)
    · rw [if_pos h11]
      obtain ⟨σ1, σ2, f1, f2, s1, o1, J2⟩ := hS.call hx0 hma (f7 := fX7_same xa (xs (6 * i + 1)) (xs (6 * i + 2)) σ) (f8 := fX8_same ma (xs (6 * i + 1)) (xs (6 * i + 2))) (cd_same hi hrc _ _) (fun ρ => ⟨X, rf_same ρ ma a X hbd _ _⟩) (iv_same hi _ _)
      rw [rd1 σ hs, ob_some, rd2 σ hs, ob_some, hC, ob_some, f1, cb_some, rd1 σ1 s1, ob_some, rd2 σ1 s1, ob_some, o1, ob_some, f2, cb_some, if_pos rfl]
      exact next σ2 J2
    rw [if_neg h11]
    by_cases h12 : c0 = (12 : Int32)
    · rw [if_pos h12]
      obtain ⟨σ1, σ2, f1, f2, s1, o1, J2⟩ := hS.call hx0 hma (f7 := fX7_see xa (xs (6 * i + 1)) (xs (6 * i + 2)) σ) (f8 := fX8_see ma (xs (6 * i + 1)) (xs (6 * i + 2))) (cd_see hi hrc _ _) (fun ρ => rh_see ρ ma a X hi _ _) (iv_see hi _ _)
      rw [rd1 σ hs, ob_some, rd2 σ hs, ob_some, hC, ob_some, f1, cb_some, rd1 σ1 s1, ob_some, rd2 σ1 s1, ob_some, o1, ob_some, f2, cb_some, if_pos (l_cmp _)]
      exact next σ2 J2
    rw [if_neg h12]
    by_cases h13 : c0 = (13 : Int32)
    · rw [if_pos h13]
      obtain ⟨σ1, σ2, f1, f2, s1, o1, J2⟩ := hS.call hx0 hma (f7 := fX7_put xa (xs (6 * i + 1)) (xs (6 * i + 2)) (((xs (6 * i + 3)).toInt64 <<< (((32 : Int32)).toInt64 &&& 63)) ||| ((xs (6 * i + 4)).toInt64 &&& (4294967295 : Int64))) σ) (f8 := fX8_put_ ma (xs (6 * i + 1)) (xs (6 * i + 2)) (((xs (6 * i + 3)).toInt64 <<< (((32 : Int32)).toInt64 &&& 63)) ||| ((xs (6 * i + 4)).toInt64 &&& (4294967295 : Int64)))) (cd_put hi hrc _ _ _) (fun ρ => rh_put ρ ma a X hi _ _ _) (iv_put hi _ _ _)
      rw [rd1 σ hs, ob_some, rd2 σ hs, ob_some, rd3 σ hs, ob_some, rd4 σ hs, ob_some, hC, ob_some, f1, cb_some, rd1 σ1 s1, ob_some, rd2 σ1 s1, ob_some, rd3 σ1 s1, ob_some, rd4 σ1 s1, ob_some, o1, ob_some, f2, cb_some, if_pos rfl]
      exact next σ2 J2
    rw [if_neg h13]
    by_cases h14 : c0 = (14 : Int32)
    · rw [if_pos h14]
      obtain ⟨σ1, σ2, f1, f2, s1, o1, J2⟩ := hS.call hx0 hma (f7 := fX7_that xa (xs (6 * i + 1)) (xs (6 * i + 2)) (xs (6 * i + 3)) σ) (f8 := fX8_that ma (xs (6 * i + 1)) (xs (6 * i + 2)) (xs (6 * i + 3))) (cd_that hi hrc _ _ _) (fun ρ => ⟨X, ri_that ρ ma a X hi _ _ _⟩) (iv_that hi _ _ _)
      rw [rd1 σ hs, ob_some, rd2 σ hs, ob_some, rd3 σ hs, ob_some, hC, ob_some, f1, cb_some, rd1 σ1 s1, ob_some, rd2 σ1 s1, ob_some, rd3 σ1 s1, ob_some, o1, ob_some, f2, cb_some, if_pos rfl]
      exact next σ2 J2
    rw [if_neg h14]
    by_cases h15 : c0 = (15 : Int32)
    · rw [if_pos h15]
      obtain ⟨σ1, σ2, f1, f2, s1, o1, J2⟩ := hS.call hx0 hma (f7 := fX7_constant xa (xs (6 * i + 1)) (xs (6 * i + 2)) σ) (f8 := fX8_constant ma (xs (6 * i + 1)) (xs (6 * i + 2))) (cd_constant hi hrc _ _) (fun ρ => ⟨X, rh_constant ρ ma a X hw hbd _ _⟩) (iv_constant hi _ _)
      rw [rd1 σ hs, ob_some, rd2 σ hs, ob_some, hC, ob_some, f1, cb_some, rd1 σ1 s1, ob_some, rd2 σ1 s1, ob_some, o1, ob_some, f2, cb_some, if_pos (l_cmp _)]
      exact next σ2 J2
    rw [if_neg h15]
    by_cases h16 : c0 = (16 : Int32)
    · rw [if_pos h16]
      obtain ⟨σ1, σ2, f1, f2, s1, o1, J2⟩ := hS.call hx0 hma (f7 := fX7_lambda E xa (xs (6 * i + 1)) (xs (6 * i + 2)) σ) (f8 := fX8_lambda ma (xs (6 * i + 1)) (xs (6 * i + 2))) (cd_lambda hi hrc _ _) (fun ρ => ⟨X, ri_lambda ρ ma a X hi _ _⟩) (iv_lambda hi _ _)
      rw [rd1 σ hs, ob_some, rd2 σ hs, ob_some, hC, ob_some, f1, cb_some, rd1 σ1 s1, ob_some, rd2 σ1 s1, ob_some, o1, ob_some, f2, cb_some, if_pos rfl]
      exact next σ2 J2
    rw [if_neg h16]
    by_cases h17 : c0 = (17 : Int32)
    · rw [if_pos h17]
      obtain ⟨σ1, σ2, f1, f2, s1, o1, J2⟩ := hS.call hx0 hma (f7 := fX7_seen xa (xs (6 * i + 1)) (xs (6 * i + 2)) σ) (f8 := fX8_seen ma (xs (6 * i + 1)) (xs (6 * i + 2))) (cd_seen hi hrc _ _) (fun ρ => rh_seen ρ ma a X hi _ _) (iv_seen hi _ _)
      rw [rd1 σ hs, ob_some, rd2 σ hs, ob_some, hC, ob_some, f1, cb_some, rd1 σ1 s1, ob_some, rd2 σ1 s1, ob_some, o1, ob_some, f2, cb_some, if_pos (l_cmp _)]
      exact next σ2 J2
    rw [if_neg h17]
    by_cases h18 : c0 = (18 : Int32)
    · rw [if_pos h18]
      obtain ⟨σ1, σ2, f1, f2, s1, o1, J2⟩ := hS.call hx0 hma (f7 := fX7_why xa σ) (f8 := fX8_why ma) (cd_why hrc) (fun ρ => ⟨X, rf_why ρ ma a X ⟩) (Go.here hi)
      rw [hC, ob_some, f1, cb_some, o1, ob_some, f2, cb_some, if_pos rfl]
      exact next σ2 J2
    rw [if_neg h18]
    by_cases h19 : c0 = (19 : Int32)
    · rw [if_pos h19]
      obtain ⟨σ1, σ2, f1, f2, s1, o1, J2⟩ := hS.call hx0 hma (f7 := fX7_count xa (xs (6 * i + 1)) σ) (f8 := fX8_count ma (xs (6 * i + 1))) (cd_count hrc _) (fun ρ => ⟨X, rf_count ρ ma a X hbd _⟩) (iv_count hi _)
      rw [rd1 σ hs, ob_some, hC, ob_some, f1, cb_some, rd1 σ1 s1, ob_some, o1, ob_some, f2, cb_some, if_pos rfl]
      exact next σ2 J2
    rw [if_neg h19]
    exact next σ ⟨a, X, w, hrc, hrep, hs, hi, Nat.le_succ_of_le hc⟩
end LL
