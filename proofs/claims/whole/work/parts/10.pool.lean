theorem in_J0 : ∀ w ∈ u_ws RJ0 TJ0 4, w ∈ lw_tbl ∧ goodWord w = true := by decide +kernel
theorem in_J4 : ∀ w ∈ u_ws RJ4 TJ4 4, w ∈ lw_tbl ∧ goodWord w = true := by decide +kernel
theorem in_X0 : ∀ w ∈ u_ws RX0 TX0 3, w ∈ lw_tbl ∧ goodWord w = true := by decide +kernel
theorem in_X1 : ∀ w ∈ u_ws RX1 TX1 4, w ∈ lw_tbl ∧ goodWord w = true := by decide +kernel
theorem in_X2 : ∀ w ∈ u_ws RX2 TX2 3, w ∈ lw_tbl ∧ goodWord w = true := by decide +kernel
theorem in_X3 : ∀ w ∈ u_ws RX3 TX3 4, w ∈ lw_tbl ∧ goodWord w = true := by decide +kernel
theorem in_X4 : ∀ w ∈ u_ws RX4 TX4 4, w ∈ lw_tbl ∧ goodWord w = true := by decide +kernel
theorem in_X5 : ∀ w ∈ u_ws RX5 TX5 2, w ∈ lw_tbl ∧ goodWord w = true := by decide +kernel
theorem in_X6 : ∀ w ∈ u_ws RX6 TX6 11, w ∈ lw_tbl ∧ goodWord w = true := by decide +kernel
theorem in_X7 : ∀ w ∈ u_ws RX7 TX7 8, w ∈ lw_tbl ∧ goodWord w = true := by decide +kernel
theorem in_X8 : ∀ w ∈ u_ws RX8 TX8 33, w ∈ lw_tbl ∧ goodWord w = true := by decide +kernel
theorem pf_X1_23_3 {E : hmG} {s : State} (hK : hmK E s) : hmFd RX1 23 3 3 .int false true s := hm_fd hK RX1 TX1 4 rfl (by decide) 124 (by decide +kernel) (by decide +kernel) rfl (fun h => rfl) in_X1
theorem pf_X1_9_3 {E : hmG} {s : State} (hK : hmK E s) : hmFd RX1 9 3 0 (.array .int) true true s := hm_fd hK RX1 TX1 4 rfl (by decide) 120 (by decide +kernel) (by decide +kernel) rfl (fun h => rfl) in_X1
theorem pf_X4_15_6 {E : hmG} {s : State} (hK : hmK E s) : hmFd RX4 15 6 1 (.array .long) true true s := hm_fd hK RX4 TX4 4 rfl (by decide) 145 (by decide +kernel) (by decide +kernel) rfl (fun h => rfl) in_X4
theorem pf_X4_19_6 {E : hmG} {s : State} (hK : hmK E s) : hmFd RX4 19 6 2 (.array .boolean) true true s := hm_fd hK RX4 TX4 4 rfl (by decide) 146 (by decide +kernel) (by decide +kernel) rfl (fun h => rfl) in_X4
theorem pf_X4_23_6 {E : hmG} {s : State} (hK : hmK E s) : hmFd RX4 23 6 3 .int false true s := hm_fd hK RX4 TX4 4 rfl (by decide) 147 (by decide +kernel) (by decide +kernel) rfl (fun h => rfl) in_X4
theorem pf_X5_13_7 {E : hmG} {s : State} (hK : hmK E s) : hmFd RX5 13 7 1 (.array (.object "InnerCaptures$Level")) true true s := hm_fd hK RX5 TX5 2 rfl (by decide) 627 (by decide +kernel) (by decide +kernel) rfl (fun h => rfl) in_X5
theorem pf_X5_17_5 {E : hmG} {s : State} (hK : hmK E s) : hmFd RX5 17 5 0 (.object "InnerCaptures$Type") true false s := hm_fd hK RX3 TX3 4 rfl (by decide) 604 (by decide +kernel) (by decide +kernel) rfl (fun h => by cases h) in_X3
theorem pf_X5_26_5 {E : hmG} {s : State} (hK : hmK E s) : hmFd RX5 26 5 1 (.object "InnerCaptures$Thing") true false s := hm_fd hK RX3 TX3 4 rfl (by decide) 606 (by decide +kernel) (by decide +kernel) rfl (fun h => by cases h) in_X3
theorem pf_X7_11_9 {E : hmG} {s : State} (hK : hmK E s) : hmFd RX7 11 9 0 (.array (.object "InnerCaptures$Type")) true true s := hm_fd hK RX7 TX7 8 rfl (by decide) 54 (by decide +kernel) (by decide +kernel) rfl (fun h => rfl) in_X7
theorem pf_X7_15_9 {E : hmG} {s : State} (hK : hmK E s) : hmFd RX7 15 9 1 .int false true s := hm_fd hK RX7 TX7 8 rfl (by decide) 55 (by decide +kernel) (by decide +kernel) rfl (fun h => rfl) in_X7
theorem pi_X4_has {E : hmG} {s : State} (hK : hmK E s) : ∀ A, (Cond.instanceMethod yX4_has).before A s = true := hm_wd hK 495 (by decide +kernel) rfl
theorem pi_X5_levelOf {E : hmG} {s : State} (hK : hmK E s) : ∀ A, (Cond.instanceMethod yX5_levelOf).before A s = true := hm_wd hK 554 (by decide +kernel) rfl
theorem pl_X4_X4_has {E : hmG} {s : State} (hK : hmK E s) : ∀ A, (Cond.selects RX4 yX4_has yX4_has).before A s = true := hm_wd hK 496 (by decide +kernel) rfl
theorem pl_X5_X5_levelOf {E : hmG} {s : State} (hK : hmK E s) : ∀ A, (Cond.selects RX5 yX5_levelOf yX5_levelOf).before A s = true := hm_wd hK 555 (by decide +kernel) rfl
theorem pm_X4_27 {E : hmG} {s : State} (hK : hmK E s) : hmMs RX4 27 yX4_has cX4_has 2 (some .boolean) 1 s := hm_ms hK 497 6 502 (by decide +kernel) (by decide +kernel) (by decide +kernel) (by decide) (by decide +kernel)
theorem pm_X5_22 {E : hmG} {s : State} (hK : hmK E s) : hmMs RX5 22 yX5_levelOf cX5_levelOf 3 (some (.object "InnerCaptures$Level")) 1 s := hm_ms hK 556 19 572 (by decide +kernel) (by decide +kernel) (by decide +kernel) (by decide) (by decide +kernel)
