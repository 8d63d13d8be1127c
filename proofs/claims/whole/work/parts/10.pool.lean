theorem in_J0 : ∀ w ∈ u_ws RJ0 TJ0 4, w ∈ lw_tbl ∧ goodWord w = true := by decide +kernel
theorem in_J4 : ∀ w ∈ u_ws RJ4 TJ4 4, w ∈ lw_tbl ∧ goodWord w = true := by decide +kernel
theorem in_X0 : ∀ w ∈ u_ws RX0 TX0 3, w ∈ lw_tbl ∧ goodWord w = true := by decide +kernel
theorem in_X1 : ∀ w ∈ u_ws RX1 TX1 4, w ∈ lw_tbl ∧ goodWord w = true := by decide +kernel
theorem in_X2 : ∀ w ∈ u_ws RX2 TX2 3, w ∈ lw_tbl ∧ goodWord w = true := by decide +kernel
theorem in_X3 : ∀ w ∈ u_ws RX3 TX3 4, w ∈ lw_tbl ∧ goodWord w = true := by decide +kernel
theorem in_X4 : ∀ w ∈ u_ws RX4 TX4 4, w ∈ lw_tbl ∧ goodWord w = true := by decide +kernel
theorem in_X5 : ∀ w ∈ u_ws RX5 TX5 2, w ∈ lw_tbl ∧ goodWord w = true := by decide +kernel
theorem in_X6 : ∀ w ∈ u_ws RX6 TX6 11, w ∈ lw_tbl ∧ goodWord w = true := by decide +kernel
theorem in_X7 : ∀ w ∈ u_ws RX7 TX7 8, w ∈ lw_tbl ∧ goodWord w = true := by decide +kernel
theorem in_X8 : ∀ w ∈ u_ws RX8 TX8 33, w ∈ lw_tbl ∧ goodWord w = true := by decide +kernel
theorem pf_J0_1048_1 {E : hmG} {s : State} (hK : hmK E s) : hmFd RJ0 1048 1 2 .boolean false false s := hm_fd hK RJ4 TJ4 4 rfl (by decide) 183 (by decide +kernel) (by decide +kernel) rfl (fun h => by cases h) in_J4
theorem pf_J0_15_0 {E : hmG} {s : State} (hK : hmK E s) : hmFd RJ0 15 0 1 .byte true true s := hm_fd hK RJ0 TJ0 4 rfl (by decide) 412 (by decide +kernel) (by decide +kernel) rfl (fun h => rfl) in_J0
theorem pf_J0_9_0 {E : hmG} {s : State} (hK : hmK E s) : hmFd RJ0 9 0 0 (.array .byte) true true s := hm_fd hK RJ0 TJ0 4 rfl (by decide) 411 (by decide +kernel) (by decide +kernel) rfl (fun h => rfl) in_J0
theorem pf_J5_15_1 {E : hmG} {s : State} (hK : hmK E s) : hmFd RJ5 15 1 0 (.array .byte) false true s := hm_fd hK RJ4 TJ4 4 rfl (by decide) 181 (by decide +kernel) (by decide +kernel) rfl (fun h => rfl) in_J4
theorem pf_J5_22_1 {E : hmG} {s : State} (hK : hmK E s) : hmFd RJ5 22 1 1 .byte false true s := hm_fd hK RJ4 TJ4 4 rfl (by decide) 182 (by decide +kernel) (by decide +kernel) rfl (fun h => rfl) in_J4
theorem pf_J5_79_1 {E : hmG} {s : State} (hK : hmK E s) : hmFd RJ5 79 1 3 .int false true s := hm_fd hK RJ4 TJ4 4 rfl (by decide) 184 (by decide +kernel) (by decide +kernel) rfl (fun h => rfl) in_J4
theorem pf_X0_13_2 {E : hmG} {s : State} (hK : hmK E s) : hmFd RX0 13 2 0 (.array .long) false true s := hm_fd hK RX0 TX0 3 rfl (by decide) 43 (by decide +kernel) (by decide +kernel) rfl (fun h => rfl) in_X0
theorem pf_X0_18_2 {E : hmG} {s : State} (hK : hmK E s) : hmFd RX0 18 2 1 .int false true s := hm_fd hK RX0 TX0 3 rfl (by decide) 44 (by decide +kernel) (by decide +kernel) rfl (fun h => rfl) in_X0
theorem pf_X0_22_2 {E : hmG} {s : State} (hK : hmK E s) : hmFd RX0 22 2 2 .boolean false true s := hm_fd hK RX0 TX0 3 rfl (by decide) 45 (by decide +kernel) (by decide +kernel) rfl (fun h => rfl) in_X0
theorem pf_X1_15_3 {E : hmG} {s : State} (hK : hmK E s) : hmFd RX1 15 3 1 (.array .long) true true s := hm_fd hK RX1 TX1 4 rfl (by decide) 121 (by decide +kernel) (by decide +kernel) rfl (fun h => rfl) in_X1
theorem pf_X1_19_3 {E : hmG} {s : State} (hK : hmK E s) : hmFd RX1 19 3 2 (.array .boolean) true true s := hm_fd hK RX1 TX1 4 rfl (by decide) 123 (by decide +kernel) (by decide +kernel) rfl (fun h => rfl) in_X1
theorem pf_X1_23_3 {E : hmG} {s : State} (hK : hmK E s) : hmFd RX1 23 3 3 .int false true s := hm_fd hK RX1 TX1 4 rfl (by decide) 124 (by decide +kernel) (by decide +kernel) rfl (fun h => rfl) in_X1
theorem pf_X1_9_3 {E : hmG} {s : State} (hK : hmK E s) : hmFd RX1 9 3 0 (.array .int) true true s := hm_fd hK RX1 TX1 4 rfl (by decide) 120 (by decide +kernel) (by decide +kernel) rfl (fun h => rfl) in_X1
theorem pf_X2_13_4 {E : hmG} {s : State} (hK : hmK E s) : hmFd RX2 13 4 1 (.object "InnerCaptures$Thing") true true s := hm_fd hK RX2 TX2 3 rfl (by decide) 733 (by decide +kernel) (by decide +kernel) rfl (fun h => rfl) in_X2
theorem pf_X2_17_4 {E : hmG} {s : State} (hK : hmK E s) : hmFd RX2 17 4 2 (.array .long) true true s := hm_fd hK RX2 TX2 3 rfl (by decide) 735 (by decide +kernel) (by decide +kernel) rfl (fun h => rfl) in_X2
theorem pf_X2_7_4 {E : hmG} {s : State} (hK : hmK E s) : hmFd RX2 7 4 0 (.object "InnerCaptures$Type") true true s := hm_fd hK RX2 TX2 3 rfl (by decide) 731 (by decide +kernel) (by decide +kernel) rfl (fun h => rfl) in_X2
theorem pf_X3_13_5 {E : hmG} {s : State} (hK : hmK E s) : hmFd RX3 13 5 1 (.object "InnerCaptures$Thing") true true s := hm_fd hK RX3 TX3 4 rfl (by decide) 605 (by decide +kernel) (by decide +kernel) rfl (fun h => rfl) in_X3
theorem pf_X3_17_8 {E : hmG} {s : State} (hK : hmK E s) : hmFd RX3 17 8 7 (.object "InnerCaptures$Fields") true false s := hm_fd hK RX6 TX6 11 rfl (by decide) 436 (by decide +kernel) (by decide +kernel) rfl (fun h => by cases h) in_X6
theorem pf_X3_29_5 {E : hmG} {s : State} (hK : hmK E s) : hmFd RX3 29 5 2 (.array .long) true true s := hm_fd hK RX3 TX3 4 rfl (by decide) 607 (by decide +kernel) (by decide +kernel) rfl (fun h => rfl) in_X3
theorem pf_X3_36_5 {E : hmG} {s : State} (hK : hmK E s) : hmFd RX3 36 5 3 (.array .long) true true s := hm_fd hK RX3 TX3 4 rfl (by decide) 609 (by decide +kernel) (by decide +kernel) rfl (fun h => rfl) in_X3
theorem pf_X3_7_5 {E : hmG} {s : State} (hK : hmK E s) : hmFd RX3 7 5 0 (.object "InnerCaptures$Type") true true s := hm_fd hK RX3 TX3 4 rfl (by decide) 603 (by decide +kernel) (by decide +kernel) rfl (fun h => rfl) in_X3
theorem pf_X4_15_6 {E : hmG} {s : State} (hK : hmK E s) : hmFd RX4 15 6 1 (.array .long) true true s := hm_fd hK RX4 TX4 4 rfl (by decide) 145 (by decide +kernel) (by decide +kernel) rfl (fun h => rfl) in_X4
theorem pf_X4_19_6 {E : hmG} {s : State} (hK : hmK E s) : hmFd RX4 19 6 2 (.array .boolean) true true s := hm_fd hK RX4 TX4 4 rfl (by decide) 146 (by decide +kernel) (by decide +kernel) rfl (fun h => rfl) in_X4
theorem pf_X4_23_6 {E : hmG} {s : State} (hK : hmK E s) : hmFd RX4 23 6 3 .int false true s := hm_fd hK RX4 TX4 4 rfl (by decide) 147 (by decide +kernel) (by decide +kernel) rfl (fun h => rfl) in_X4
theorem pf_X4_9_6 {E : hmG} {s : State} (hK : hmK E s) : hmFd RX4 9 6 0 (.array .int) true true s := hm_fd hK RX4 TX4 4 rfl (by decide) 144 (by decide +kernel) (by decide +kernel) rfl (fun h => rfl) in_X4
theorem pf_X5_13_7 {E : hmG} {s : State} (hK : hmK E s) : hmFd RX5 13 7 1 (.array (.object "InnerCaptures$Level")) true true s := hm_fd hK RX5 TX5 2 rfl (by decide) 627 (by decide +kernel) (by decide +kernel) rfl (fun h => rfl) in_X5
theorem pf_X5_17_5 {E : hmG} {s : State} (hK : hmK E s) : hmFd RX5 17 5 0 (.object "InnerCaptures$Type") true false s := hm_fd hK RX3 TX3 4 rfl (by decide) 604 (by decide +kernel) (by decide +kernel) rfl (fun h => by cases h) in_X3
theorem pf_X5_26_5 {E : hmG} {s : State} (hK : hmK E s) : hmFd RX5 26 5 1 (.object "InnerCaptures$Thing") true false s := hm_fd hK RX3 TX3 4 rfl (by decide) 606 (by decide +kernel) (by decide +kernel) rfl (fun h => by cases h) in_X3
theorem pf_X5_7_7 {E : hmG} {s : State} (hK : hmK E s) : hmFd RX5 7 7 0 (.object "InnerCaptures$Type") true true s := hm_fd hK RX5 TX5 2 rfl (by decide) 625 (by decide +kernel) (by decide +kernel) rfl (fun h => rfl) in_X5
theorem pf_X6_12_8 {E : hmG} {s : State} (hK : hmK E s) : hmFd RX6 12 8 7 (.object "InnerCaptures$Fields") true true s := hm_fd hK RX6 TX6 11 rfl (by decide) 435 (by decide +kernel) (by decide +kernel) rfl (fun h => rfl) in_X6
theorem pf_X6_21_8 {E : hmG} {s : State} (hK : hmK E s) : hmFd RX6 21 8 8 (.object "InnerCaptures$Locals") true true s := hm_fd hK RX6 TX6 11 rfl (by decide) 438 (by decide +kernel) (by decide +kernel) rfl (fun h => rfl) in_X6
theorem pf_X6_25_8 {E : hmG} {s : State} (hK : hmK E s) : hmFd RX6 25 8 9 .boolean false true s := hm_fd hK RX6 TX6 11 rfl (by decide) 440 (by decide +kernel) (by decide +kernel) rfl (fun h => rfl) in_X6
theorem pf_X6_29_8 {E : hmG} {s : State} (hK : hmK E s) : hmFd RX6 29 8 10 (.object "InnerCaptures$Type") false true s := hm_fd hK RX6 TX6 11 rfl (by decide) 442 (by decide +kernel) (by decide +kernel) rfl (fun h => rfl) in_X6
theorem pf_X6_33_8 {E : hmG} {s : State} (hK : hmK E s) : hmFd RX6 33 8 0 .int true true s := hm_fd hK RX6 TX6 11 rfl (by decide) 422 (by decide +kernel) (by decide +kernel) rfl (fun h => rfl) in_X6
theorem pf_X6_37_8 {E : hmG} {s : State} (hK : hmK E s) : hmFd RX6 37 8 1 .int true true s := hm_fd hK RX6 TX6 11 rfl (by decide) 424 (by decide +kernel) (by decide +kernel) rfl (fun h => rfl) in_X6
theorem pf_X6_40_8 {E : hmG} {s : State} (hK : hmK E s) : hmFd RX6 40 8 2 (.object "InnerCaptures$Type") true true s := hm_fd hK RX6 TX6 11 rfl (by decide) 426 (by decide +kernel) (by decide +kernel) rfl (fun h => rfl) in_X6
theorem pf_X6_43_8 {E : hmG} {s : State} (hK : hmK E s) : hmFd RX6 43 8 3 .int true true s := hm_fd hK RX6 TX6 11 rfl (by decide) 428 (by decide +kernel) (by decide +kernel) rfl (fun h => rfl) in_X6
theorem pf_X6_50_6 {E : hmG} {s : State} (hK : hmK E s) : hmFd RX6 50 6 3 .int false false s := hm_fd hK RX4 TX4 4 rfl (by decide) 148 (by decide +kernel) (by decide +kernel) rfl (fun h => by cases h) in_X4
theorem pf_X6_53_8 {E : hmG} {s : State} (hK : hmK E s) : hmFd RX6 53 8 4 .int true true s := hm_fd hK RX6 TX6 11 rfl (by decide) 430 (by decide +kernel) (by decide +kernel) rfl (fun h => rfl) in_X6
theorem pf_X6_56_8 {E : hmG} {s : State} (hK : hmK E s) : hmFd RX6 56 8 5 .boolean true true s := hm_fd hK RX6 TX6 11 rfl (by decide) 431 (by decide +kernel) (by decide +kernel) rfl (fun h => rfl) in_X6
theorem pf_X6_63_8 {E : hmG} {s : State} (hK : hmK E s) : hmFd RX6 63 8 6 (.object "java/lang/String") true true s := hm_fd hK RX6 TX6 11 rfl (by decide) 433 (by decide +kernel) (by decide +kernel) rfl (fun h => rfl) in_X6
theorem pf_X7_106_8 {E : hmG} {s : State} (hK : hmK E s) : hmFd RX7 106 8 9 .boolean false false s := hm_fd hK RX6 TX6 11 rfl (by decide) 441 (by decide +kernel) (by decide +kernel) rfl (fun h => by cases h) in_X6
theorem pf_X7_110_8 {E : hmG} {s : State} (hK : hmK E s) : hmFd RX7 110 8 1 .int true false s := hm_fd hK RX6 TX6 11 rfl (by decide) 425 (by decide +kernel) (by decide +kernel) rfl (fun h => by cases h) in_X6
theorem pf_X7_113_8 {E : hmG} {s : State} (hK : hmK E s) : hmFd RX7 113 8 10 (.object "InnerCaptures$Type") false false s := hm_fd hK RX6 TX6 11 rfl (by decide) 443 (by decide +kernel) (by decide +kernel) rfl (fun h => by cases h) in_X6
theorem pf_X7_11_9 {E : hmG} {s : State} (hK : hmK E s) : hmFd RX7 11 9 0 (.array (.object "InnerCaptures$Type")) true true s := hm_fd hK RX7 TX7 8 rfl (by decide) 54 (by decide +kernel) (by decide +kernel) rfl (fun h => rfl) in_X7
theorem pf_X7_121_8 {E : hmG} {s : State} (hK : hmK E s) : hmFd RX7 121 8 6 (.object "java/lang/String") true false s := hm_fd hK RX6 TX6 11 rfl (by decide) 434 (by decide +kernel) (by decide +kernel) rfl (fun h => by cases h) in_X6
theorem pf_X7_142_7 {E : hmG} {s : State} (hK : hmK E s) : hmFd RX7 142 7 0 (.object "InnerCaptures$Type") true false s := hm_fd hK RX5 TX5 2 rfl (by decide) 626 (by decide +kernel) (by decide +kernel) rfl (fun h => by cases h) in_X5
theorem pf_X7_145_8 {E : hmG} {s : State} (hK : hmK E s) : hmFd RX7 145 8 0 .int true false s := hm_fd hK RX6 TX6 11 rfl (by decide) 423 (by decide +kernel) (by decide +kernel) rfl (fun h => by cases h) in_X6
theorem pf_X7_148_7 {E : hmG} {s : State} (hK : hmK E s) : hmFd RX7 148 7 1 (.array (.object "InnerCaptures$Level")) true false s := hm_fd hK RX5 TX5 2 rfl (by decide) 628 (by decide +kernel) (by decide +kernel) rfl (fun h => by cases h) in_X5
theorem pf_X7_15_9 {E : hmG} {s : State} (hK : hmK E s) : hmFd RX7 15 9 1 .int false true s := hm_fd hK RX7 TX7 8 rfl (by decide) 55 (by decide +kernel) (by decide +kernel) rfl (fun h => rfl) in_X7
theorem pf_X7_160_5 {E : hmG} {s : State} (hK : hmK E s) : hmFd RX7 160 5 3 (.array .long) true false s := hm_fd hK RX3 TX3 4 rfl (by decide) 610 (by decide +kernel) (by decide +kernel) rfl (fun h => by cases h) in_X3
theorem pf_X7_174_2 {E : hmG} {s : State} (hK : hmK E s) : hmFd RX7 174 2 2 .boolean false false s := hm_fd hK RX0 TX0 3 rfl (by decide) 46 (by decide +kernel) (by decide +kernel) rfl (fun h => by cases h) in_X0
theorem pf_X7_187_3 {E : hmG} {s : State} (hK : hmK E s) : hmFd RX7 187 3 1 (.array .long) true false s := hm_fd hK RX1 TX1 4 rfl (by decide) 122 (by decide +kernel) (by decide +kernel) rfl (fun h => by cases h) in_X1
theorem pf_X7_213_8 {E : hmG} {s : State} (hK : hmK E s) : hmFd RX7 213 8 3 .int true false s := hm_fd hK RX6 TX6 11 rfl (by decide) 429 (by decide +kernel) (by decide +kernel) rfl (fun h => by cases h) in_X6
theorem pf_X7_216_8 {E : hmG} {s : State} (hK : hmK E s) : hmFd RX7 216 8 2 (.object "InnerCaptures$Type") true false s := hm_fd hK RX6 TX6 11 rfl (by decide) 427 (by decide +kernel) (by decide +kernel) rfl (fun h => by cases h) in_X6
theorem pf_X7_21_9 {E : hmG} {s : State} (hK : hmK E s) : hmFd RX7 21 9 2 (.array (.object "InnerCaptures$Thing")) true true s := hm_fd hK RX7 TX7 8 rfl (by decide) 56 (by decide +kernel) (by decide +kernel) rfl (fun h => rfl) in_X7
theorem pf_X7_222_8 {E : hmG} {s : State} (hK : hmK E s) : hmFd RX7 222 8 5 .boolean true false s := hm_fd hK RX6 TX6 11 rfl (by decide) 432 (by decide +kernel) (by decide +kernel) rfl (fun h => by cases h) in_X6
theorem pf_X7_251_4 {E : hmG} {s : State} (hK : hmK E s) : hmFd RX7 251 4 0 (.object "InnerCaptures$Type") true false s := hm_fd hK RX2 TX2 3 rfl (by decide) 732 (by decide +kernel) (by decide +kernel) rfl (fun h => by cases h) in_X2
theorem pf_X7_254_4 {E : hmG} {s : State} (hK : hmK E s) : hmFd RX7 254 4 2 (.array .long) true false s := hm_fd hK RX2 TX2 3 rfl (by decide) 736 (by decide +kernel) (by decide +kernel) rfl (fun h => by cases h) in_X2
theorem pf_X7_258_4 {E : hmG} {s : State} (hK : hmK E s) : hmFd RX7 258 4 1 (.object "InnerCaptures$Thing") true false s := hm_fd hK RX2 TX2 3 rfl (by decide) 734 (by decide +kernel) (by decide +kernel) rfl (fun h => by cases h) in_X2
theorem pf_X7_25_9 {E : hmG} {s : State} (hK : hmK E s) : hmFd RX7 25 9 3 .int false true s := hm_fd hK RX7 TX7 8 rfl (by decide) 57 (by decide +kernel) (by decide +kernel) rfl (fun h => rfl) in_X7
theorem pf_X7_279_5 {E : hmG} {s : State} (hK : hmK E s) : hmFd RX7 279 5 2 (.array .long) true false s := hm_fd hK RX3 TX3 4 rfl (by decide) 608 (by decide +kernel) (by decide +kernel) rfl (fun h => by cases h) in_X3
theorem pf_X7_30_9 {E : hmG} {s : State} (hK : hmK E s) : hmFd RX7 30 9 4 (.array (.object "InnerCaptures$Lambda")) true true s := hm_fd hK RX7 TX7 8 rfl (by decide) 58 (by decide +kernel) (by decide +kernel) rfl (fun h => rfl) in_X7
theorem pf_X7_34_9 {E : hmG} {s : State} (hK : hmK E s) : hmFd RX7 34 9 5 .int false true s := hm_fd hK RX7 TX7 8 rfl (by decide) 59 (by decide +kernel) (by decide +kernel) rfl (fun h => rfl) in_X7
theorem pf_X7_40_9 {E : hmG} {s : State} (hK : hmK E s) : hmFd RX7 40 9 6 (.object "InnerCaptures$Cell") true true s := hm_fd hK RX7 TX7 8 rfl (by decide) 60 (by decide +kernel) (by decide +kernel) rfl (fun h => rfl) in_X7
theorem pf_X7_44_9 {E : hmG} {s : State} (hK : hmK E s) : hmFd RX7 44 9 7 .int false true s := hm_fd hK RX7 TX7 8 rfl (by decide) 61 (by decide +kernel) (by decide +kernel) rfl (fun h => rfl) in_X7
theorem pf_X7_66_8 {E : hmG} {s : State} (hK : hmK E s) : hmFd RX7 66 8 7 (.object "InnerCaptures$Fields") true false s := hm_fd hK RX6 TX6 11 rfl (by decide) 437 (by decide +kernel) (by decide +kernel) rfl (fun h => by cases h) in_X6
theorem pf_X7_70_3 {E : hmG} {s : State} (hK : hmK E s) : hmFd RX7 70 3 3 .int false false s := hm_fd hK RX1 TX1 4 rfl (by decide) 125 (by decide +kernel) (by decide +kernel) rfl (fun h => by cases h) in_X1
theorem pf_X7_83_8 {E : hmG} {s : State} (hK : hmK E s) : hmFd RX7 83 8 8 (.object "InnerCaptures$Locals") true false s := hm_fd hK RX6 TX6 11 rfl (by decide) 439 (by decide +kernel) (by decide +kernel) rfl (fun h => by cases h) in_X6
theorem pf_X7_87_6 {E : hmG} {s : State} (hK : hmK E s) : hmFd RX7 87 6 3 .int false false s := hm_fd hK RX4 TX4 4 rfl (by decide) 149 (by decide +kernel) (by decide +kernel) rfl (fun h => by cases h) in_X4
theorem pf_X8_115_10 {E : hmG} {s : State} (hK : hmK E s) : hmFd RX8 115 10 30 .int false true s := hm_fd hK RX8 TX8 33 rfl (by decide) 805 (by decide +kernel) (by decide +kernel) rfl (fun h => rfl) in_X8
theorem pf_X8_132_10 {E : hmG} {s : State} (hK : hmK E s) : hmFd RX8 132 10 28 .int false true s := hm_fd hK RX8 TX8 33 rfl (by decide) 803 (by decide +kernel) (by decide +kernel) rfl (fun h => rfl) in_X8
theorem pf_X8_135_10 {E : hmG} {s : State} (hK : hmK E s) : hmFd RX8 135 10 16 .int false true s := hm_fd hK RX8 TX8 33 rfl (by decide) 791 (by decide +kernel) (by decide +kernel) rfl (fun h => rfl) in_X8
theorem pf_X8_13_10 {E : hmG} {s : State} (hK : hmK E s) : hmFd RX8 13 10 2 (.array .int) true true s := hm_fd hK RX8 TX8 33 rfl (by decide) 777 (by decide +kernel) (by decide +kernel) rfl (fun h => rfl) in_X8
theorem pf_X8_146_10 {E : hmG} {s : State} (hK : hmK E s) : hmFd RX8 146 10 31 .int false true s := hm_fd hK RX8 TX8 33 rfl (by decide) 806 (by decide +kernel) (by decide +kernel) rfl (fun h => rfl) in_X8
theorem pf_X8_149_10 {E : hmG} {s : State} (hK : hmK E s) : hmFd RX8 149 10 32 .int false true s := hm_fd hK RX8 TX8 33 rfl (by decide) 807 (by decide +kernel) (by decide +kernel) rfl (fun h => rfl) in_X8
theorem pf_X8_16_10 {E : hmG} {s : State} (hK : hmK E s) : hmFd RX8 16 10 3 (.array .int) true true s := hm_fd hK RX8 TX8 33 rfl (by decide) 778 (by decide +kernel) (by decide +kernel) rfl (fun h => rfl) in_X8
theorem pf_X8_170_10 {E : hmG} {s : State} (hK : hmK E s) : hmFd RX8 170 10 23 .int false true s := hm_fd hK RX8 TX8 33 rfl (by decide) 798 (by decide +kernel) (by decide +kernel) rfl (fun h => rfl) in_X8
theorem pf_X8_19_10 {E : hmG} {s : State} (hK : hmK E s) : hmFd RX8 19 10 4 (.array .int) true true s := hm_fd hK RX8 TX8 33 rfl (by decide) 779 (by decide +kernel) (by decide +kernel) rfl (fun h => rfl) in_X8
theorem pf_X8_22_10 {E : hmG} {s : State} (hK : hmK E s) : hmFd RX8 22 10 5 (.array .int) true true s := hm_fd hK RX8 TX8 33 rfl (by decide) 780 (by decide +kernel) (by decide +kernel) rfl (fun h => rfl) in_X8
theorem pf_X8_25_10 {E : hmG} {s : State} (hK : hmK E s) : hmFd RX8 25 10 6 (.array .int) true true s := hm_fd hK RX8 TX8 33 rfl (by decide) 781 (by decide +kernel) (by decide +kernel) rfl (fun h => rfl) in_X8
theorem pf_X8_28_10 {E : hmG} {s : State} (hK : hmK E s) : hmFd RX8 28 10 7 (.array .int) true true s := hm_fd hK RX8 TX8 33 rfl (by decide) 782 (by decide +kernel) (by decide +kernel) rfl (fun h => rfl) in_X8
theorem pf_X8_31_10 {E : hmG} {s : State} (hK : hmK E s) : hmFd RX8 31 10 8 (.array .int) true true s := hm_fd hK RX8 TX8 33 rfl (by decide) 783 (by decide +kernel) (by decide +kernel) rfl (fun h => rfl) in_X8
theorem pf_X8_34_10 {E : hmG} {s : State} (hK : hmK E s) : hmFd RX8 34 10 9 (.array .long) true true s := hm_fd hK RX8 TX8 33 rfl (by decide) 784 (by decide +kernel) (by decide +kernel) rfl (fun h => rfl) in_X8
theorem pf_X8_38_10 {E : hmG} {s : State} (hK : hmK E s) : hmFd RX8 38 10 10 (.array .boolean) true true s := hm_fd hK RX8 TX8 33 rfl (by decide) 785 (by decide +kernel) (by decide +kernel) rfl (fun h => rfl) in_X8
theorem pf_X8_42_10 {E : hmG} {s : State} (hK : hmK E s) : hmFd RX8 42 10 11 (.array .boolean) true true s := hm_fd hK RX8 TX8 33 rfl (by decide) 786 (by decide +kernel) (by decide +kernel) rfl (fun h => rfl) in_X8
theorem pf_X8_45_10 {E : hmG} {s : State} (hK : hmK E s) : hmFd RX8 45 10 12 (.array .int) true true s := hm_fd hK RX8 TX8 33 rfl (by decide) 787 (by decide +kernel) (by decide +kernel) rfl (fun h => rfl) in_X8
theorem pf_X8_48_10 {E : hmG} {s : State} (hK : hmK E s) : hmFd RX8 48 10 13 (.array .int) true true s := hm_fd hK RX8 TX8 33 rfl (by decide) 788 (by decide +kernel) (by decide +kernel) rfl (fun h => rfl) in_X8
theorem pf_X8_51_10 {E : hmG} {s : State} (hK : hmK E s) : hmFd RX8 51 10 14 (.array .long) true true s := hm_fd hK RX8 TX8 33 rfl (by decide) 789 (by decide +kernel) (by decide +kernel) rfl (fun h => rfl) in_X8
theorem pf_X8_54_10 {E : hmG} {s : State} (hK : hmK E s) : hmFd RX8 54 10 15 (.array .boolean) true true s := hm_fd hK RX8 TX8 33 rfl (by decide) 790 (by decide +kernel) (by decide +kernel) rfl (fun h => rfl) in_X8
theorem pf_X8_57_10 {E : hmG} {s : State} (hK : hmK E s) : hmFd RX8 57 10 17 (.array .int) true true s := hm_fd hK RX8 TX8 33 rfl (by decide) 792 (by decide +kernel) (by decide +kernel) rfl (fun h => rfl) in_X8
theorem pf_X8_60_10 {E : hmG} {s : State} (hK : hmK E s) : hmFd RX8 60 10 18 (.array .int) true true s := hm_fd hK RX8 TX8 33 rfl (by decide) 793 (by decide +kernel) (by decide +kernel) rfl (fun h => rfl) in_X8
theorem pf_X8_63_10 {E : hmG} {s : State} (hK : hmK E s) : hmFd RX8 63 10 19 (.array .int) true true s := hm_fd hK RX8 TX8 33 rfl (by decide) 794 (by decide +kernel) (by decide +kernel) rfl (fun h => rfl) in_X8
theorem pf_X8_66_10 {E : hmG} {s : State} (hK : hmK E s) : hmFd RX8 66 10 20 (.array .long) true true s := hm_fd hK RX8 TX8 33 rfl (by decide) 795 (by decide +kernel) (by decide +kernel) rfl (fun h => rfl) in_X8
theorem pf_X8_69_10 {E : hmG} {s : State} (hK : hmK E s) : hmFd RX8 69 10 21 (.array .long) true true s := hm_fd hK RX8 TX8 33 rfl (by decide) 796 (by decide +kernel) (by decide +kernel) rfl (fun h => rfl) in_X8
theorem pf_X8_72_10 {E : hmG} {s : State} (hK : hmK E s) : hmFd RX8 72 10 22 (.array .int) true true s := hm_fd hK RX8 TX8 33 rfl (by decide) 797 (by decide +kernel) (by decide +kernel) rfl (fun h => rfl) in_X8
theorem pf_X8_75_10 {E : hmG} {s : State} (hK : hmK E s) : hmFd RX8 75 10 24 (.array .int) true true s := hm_fd hK RX8 TX8 33 rfl (by decide) 799 (by decide +kernel) (by decide +kernel) rfl (fun h => rfl) in_X8
theorem pf_X8_78_10 {E : hmG} {s : State} (hK : hmK E s) : hmFd RX8 78 10 25 (.array .int) true true s := hm_fd hK RX8 TX8 33 rfl (by decide) 800 (by decide +kernel) (by decide +kernel) rfl (fun h => rfl) in_X8
theorem pf_X8_7_10 {E : hmG} {s : State} (hK : hmK E s) : hmFd RX8 7 10 1 (.array .int) true true s := hm_fd hK RX8 TX8 33 rfl (by decide) 776 (by decide +kernel) (by decide +kernel) rfl (fun h => rfl) in_X8
theorem pf_X8_81_10 {E : hmG} {s : State} (hK : hmK E s) : hmFd RX8 81 10 26 (.array .int) true true s := hm_fd hK RX8 TX8 33 rfl (by decide) 801 (by decide +kernel) (by decide +kernel) rfl (fun h => rfl) in_X8
theorem pf_X8_84_10 {E : hmG} {s : State} (hK : hmK E s) : hmFd RX8 84 10 27 (.array .long) true true s := hm_fd hK RX8 TX8 33 rfl (by decide) 802 (by decide +kernel) (by decide +kernel) rfl (fun h => rfl) in_X8
theorem pf_X8_87_10 {E : hmG} {s : State} (hK : hmK E s) : hmFd RX8 87 10 29 (.array .int) true true s := hm_fd hK RX8 TX8 33 rfl (by decide) 804 (by decide +kernel) (by decide +kernel) rfl (fun h => rfl) in_X8
theorem pf_X8_90_10 {E : hmG} {s : State} (hK : hmK E s) : hmFd RX8 90 10 0 .int false true s := hm_fd hK RX8 TX8 33 rfl (by decide) 775 (by decide +kernel) (by decide +kernel) rfl (fun h => rfl) in_X8
theorem pi_J0_charAt_5068e {E : hmG} {s : State} (hK : hmK E s) : ∀ A, (Cond.instanceMethod yJ0_charAt_5068e).before A s = true := hm_wd hK 528 (by decide +kernel) rfl
theorem pi_J0_coder_7d493 {E : hmG} {s : State} (hK : hmK E s) : ∀ A, (Cond.instanceMethod yJ0_coder_7d493).before A s = true := hm_wd hK 277 (by decide +kernel) rfl
theorem pi_J0_getBytes_840e7 {E : hmG} {s : State} (hK : hmK E s) : ∀ A, (Cond.instanceMethod yJ0_getBytes_840e7).before A s = true := hm_wd hK 310 (by decide +kernel) rfl
theorem pi_J0_init_81219 {E : hmG} {s : State} (hK : hmK E s) : ∀ A, (Cond.instanceMethod yJ0_init_81219).before A s = true := hm_wd hK 369 (by decide +kernel) rfl
theorem pi_J0_init_db425 {E : hmG} {s : State} (hK : hmK E s) : ∀ A, (Cond.instanceMethod yJ0_init_db425).before A s = true := hm_wd hK 372 (by decide +kernel) rfl
theorem pi_J0_isLatin1_aae02 {E : hmG} {s : State} (hK : hmK E s) : ∀ A, (Cond.instanceMethod yJ0_isLatin1_aae02).before A s = true := hm_wd hK 532 (by decide +kernel) rfl
theorem pi_J0_length_8abf5 {E : hmG} {s : State} (hK : hmK E s) : ∀ A, (Cond.instanceMethod yJ0_length_8abf5).before A s = true := hm_wd hK 273 (by decide +kernel) rfl
theorem pi_J4_append_15ec4 {E : hmG} {s : State} (hK : hmK E s) : ∀ A, (Cond.instanceMethod yJ4_append_15ec4).before A s = true := hm_wd hK 196 (by decide +kernel) rfl
theorem pi_J4_append_bf812 {E : hmG} {s : State} (hK : hmK E s) : ∀ A, (Cond.instanceMethod yJ4_append_bf812).before A s = true := hm_wd hK 338 (by decide +kernel) rfl
theorem pi_J4_append_cf468 {E : hmG} {s : State} (hK : hmK E s) : ∀ A, (Cond.instanceMethod yJ4_append_cf468).before A s = true := hm_wd hK 316 (by decide +kernel) rfl
theorem pi_J4_init_da8c8 {E : hmG} {s : State} (hK : hmK E s) : ∀ A, (Cond.instanceMethod yJ4_init_da8c8).before A s = true := hm_wd hK 166 (by decide +kernel) rfl
theorem pi_J4_length_8abf5 {E : hmG} {s : State} (hK : hmK E s) : ∀ A, (Cond.instanceMethod yJ4_length_8abf5).before A s = true := hm_wd hK 384 (by decide +kernel) rfl
theorem pi_J4_toString_0e30d {E : hmG} {s : State} (hK : hmK E s) : ∀ A, (Cond.instanceMethod yJ4_toString_0e30d).before A s = true := hm_wd hK 363 (by decide +kernel) rfl
theorem pi_J5_append_3fe6f {E : hmG} {s : State} (hK : hmK E s) : ∀ A, (Cond.instanceMethod yJ5_append_3fe6f).before A s = true := hm_wd hK 320 (by decide +kernel) rfl
theorem pi_J5_append_c97b9 {E : hmG} {s : State} (hK : hmK E s) : ∀ A, (Cond.instanceMethod yJ5_append_c97b9).before A s = true := hm_wd hK 342 (by decide +kernel) rfl
theorem pi_J5_append_cf1ce {E : hmG} {s : State} (hK : hmK E s) : ∀ A, (Cond.instanceMethod yJ5_append_cf1ce).before A s = true := hm_wd hK 200 (by decide +kernel) rfl
theorem pi_J5_ensureCapacityInternal_d00df {E : hmG} {s : State} (hK : hmK E s) : ∀ A, (Cond.instanceMethod yJ5_ensureCapacityInternal_d00df).before A s = true := hm_wd hK 208 (by decide +kernel) rfl
theorem pi_J5_getValue_6d5f1 {E : hmG} {s : State} (hK : hmK E s) : ∀ A, (Cond.instanceMethod yJ5_getValue_6d5f1).before A s = true := hm_wd hK 376 (by decide +kernel) rfl
theorem pi_J5_inflateIfNeededFor_a7421 {E : hmG} {s : State} (hK : hmK E s) : ∀ A, (Cond.instanceMethod yJ5_inflateIfNeededFor_a7421).before A s = true := hm_wd hK 287 (by decide +kernel) rfl
theorem pi_J5_init_d00df {E : hmG} {s : State} (hK : hmK E s) : ∀ A, (Cond.instanceMethod yJ5_init_d00df).before A s = true := hm_wd hK 169 (by decide +kernel) rfl
theorem pi_J5_isLatin1_aae02 {E : hmG} {s : State} (hK : hmK E s) : ∀ A, (Cond.instanceMethod yJ5_isLatin1_aae02).before A s = true := hm_wd hK 242 (by decide +kernel) rfl
theorem pi_J5_length_8abf5 {E : hmG} {s : State} (hK : hmK E s) : ∀ A, (Cond.instanceMethod yJ5_length_8abf5).before A s = true := hm_wd hK 381 (by decide +kernel) rfl
theorem pi_J5_newCapacity_0f7a4 {E : hmG} {s : State} (hK : hmK E s) : ∀ A, (Cond.instanceMethod yJ5_newCapacity_0f7a4).before A s = true := hm_wd hK 212 (by decide +kernel) rfl
theorem pi_J5_putStringAt_47b60 {E : hmG} {s : State} (hK : hmK E s) : ∀ A, (Cond.instanceMethod yJ5_putStringAt_47b60).before A s = true := hm_wd hK 283 (by decide +kernel) rfl
theorem pi_X0_init {E : hmG} {s : State} (hK : hmK E s) : ∀ A, (Cond.instanceMethod yX0_init).before A s = true := hm_wd hK 38 (by decide +kernel) rfl
theorem pi_X0_isThere {E : hmG} {s : State} (hK : hmK E s) : ∀ A, (Cond.instanceMethod yX0_isThere).before A s = true := hm_wd hK 699 (by decide +kernel) rfl
theorem pi_X0_pointAt {E : hmG} {s : State} (hK : hmK E s) : ∀ A, (Cond.instanceMethod yX0_pointAt).before A s = true := hm_wd hK 678 (by decide +kernel) rfl
theorem pi_X0_read {E : hmG} {s : State} (hK : hmK E s) : ∀ A, (Cond.instanceMethod yX0_read).before A s = true := hm_wd hK 694 (by decide +kernel) rfl
theorem pi_X0_write {E : hmG} {s : State} (hK : hmK E s) : ∀ A, (Cond.instanceMethod yX0_write).before A s = true := hm_wd hK 706 (by decide +kernel) rfl
theorem pi_X1_add {E : hmG} {s : State} (hK : hmK E s) : ∀ A, (Cond.instanceMethod yX1_add).before A s = true := hm_wd hK 479 (by decide +kernel) rfl
theorem pi_X1_firstCells {E : hmG} {s : State} (hK : hmK E s) : ∀ A, (Cond.instanceMethod yX1_firstCells).before A s = true := hm_wd hK 579 (by decide +kernel) rfl
theorem pi_X1_has {E : hmG} {s : State} (hK : hmK E s) : ∀ A, (Cond.instanceMethod yX1_has).before A s = true := hm_wd hK 674 (by decide +kernel) rfl
theorem pi_X1_indexOf {E : hmG} {s : State} (hK : hmK E s) : ∀ A, (Cond.instanceMethod yX1_indexOf).before A s = true := hm_wd hK 475 (by decide +kernel) rfl
theorem pi_X1_init {E : hmG} {s : State} (hK : hmK E s) : ∀ A, (Cond.instanceMethod yX1_init).before A s = true := hm_wd hK 117 (by decide +kernel) rfl
theorem pi_X1_isStatic {E : hmG} {s : State} (hK : hmK E s) : ∀ A, (Cond.instanceMethod yX1_isStatic).before A s = true := hm_wd hK 670 (by decide +kernel) rfl
theorem pi_X2_init {E : hmG} {s : State} (hK : hmK E s) : ∀ A, (Cond.instanceMethod yX2_init).before A s = true := hm_wd hK 728 (by decide +kernel) rfl
theorem pi_X3_init {E : hmG} {s : State} (hK : hmK E s) : ∀ A, (Cond.instanceMethod yX3_init).before A s = true := hm_wd hK 575 (by decide +kernel) rfl
theorem pi_X4_add {E : hmG} {s : State} (hK : hmK E s) : ∀ A, (Cond.instanceMethod yX4_add).before A s = true := hm_wd hK 487 (by decide +kernel) rfl
theorem pi_X4_copyOfFirst {E : hmG} {s : State} (hK : hmK E s) : ∀ A, (Cond.instanceMethod yX4_copyOfFirst).before A s = true := hm_wd hK 597 (by decide +kernel) rfl
theorem pi_X4_has {E : hmG} {s : State} (hK : hmK E s) : ∀ A, (Cond.instanceMethod yX4_has).before A s = true := hm_wd hK 495 (by decide +kernel) rfl
theorem pi_X4_init {E : hmG} {s : State} (hK : hmK E s) : ∀ A, (Cond.instanceMethod yX4_init).before A s = true := hm_wd hK 141 (by decide +kernel) rfl
theorem pi_X4_isAssigned {E : hmG} {s : State} (hK : hmK E s) : ∀ A, (Cond.instanceMethod yX4_isAssigned).before A s = true := hm_wd hK 499 (by decide +kernel) rfl
theorem pi_X4_latest {E : hmG} {s : State} (hK : hmK E s) : ∀ A, (Cond.instanceMethod yX4_latest).before A s = true := hm_wd hK 686 (by decide +kernel) rfl
theorem pi_X4_set {E : hmG} {s : State} (hK : hmK E s) : ∀ A, (Cond.instanceMethod yX4_set).before A s = true := hm_wd hK 504 (by decide +kernel) rfl
theorem pi_X5_aroundAt {E : hmG} {s : State} (hK : hmK E s) : ∀ A, (Cond.instanceMethod yX5_aroundAt).before A s = true := hm_wd hK 569 (by decide +kernel) rfl
theorem pi_X5_init {E : hmG} {s : State} (hK : hmK E s) : ∀ A, (Cond.instanceMethod yX5_init).before A s = true := hm_wd hK 622 (by decide +kernel) rfl
theorem pi_X5_levelOf {E : hmG} {s : State} (hK : hmK E s) : ∀ A, (Cond.instanceMethod yX5_levelOf).before A s = true := hm_wd hK 554 (by decide +kernel) rfl
theorem pi_X6_copyLocalsAhead {E : hmG} {s : State} (hK : hmK E s) : ∀ A, (Cond.instanceMethod yX6_copyLocalsAhead).before A s = true := hm_wd hK 592 (by decide +kernel) rfl
theorem pi_X6_init {E : hmG} {s : State} (hK : hmK E s) : ∀ A, (Cond.instanceMethod yX6_init).before A s = true := hm_wd hK 111 (by decide +kernel) rfl
theorem pi_X6_latestLocalAhead {E : hmG} {s : State} (hK : hmK E s) : ∀ A, (Cond.instanceMethod yX6_latestLocalAhead).before A s = true := hm_wd hK 682 (by decide +kernel) rfl
theorem pi_X7_about {E : hmG} {s : State} (hK : hmK E s) : ∀ A, (Cond.instanceMethod yX7_about).before A s = true := hm_wd hK 643 (by decide +kernel) rfl
theorem pi_X7_assign {E : hmG} {s : State} (hK : hmK E s) : ∀ A, (Cond.instanceMethod yX7_assign).before A s = true := hm_wd hK 491 (by decide +kernel) rfl
theorem pi_X7_constant {E : hmG} {s : State} (hK : hmK E s) : ∀ A, (Cond.instanceMethod yX7_constant).before A s = true := hm_wd hK 718 (by decide +kernel) rfl
theorem pi_X7_count {E : hmG} {s : State} (hK : hmK E s) : ∀ A, (Cond.instanceMethod yX7_count).before A s = true := hm_wd hK 762 (by decide +kernel) rfl
theorem pi_X7_field {E : hmG} {s : State} (hK : hmK E s) : ∀ A, (Cond.instanceMethod yX7_field).before A s = true := hm_wd hK 468 (by decide +kernel) rfl
theorem pi_X7_findCopy {E : hmG} {s : State} (hK : hmK E s) : ∀ A, (Cond.instanceMethod yX7_findCopy).before A s = true := hm_wd hK 691 (by decide +kernel) rfl
theorem pi_X7_findField {E : hmG} {s : State} (hK : hmK E s) : ∀ A, (Cond.instanceMethod yX7_findField).before A s = true := hm_wd hK 667 (by decide +kernel) rfl
theorem pi_X7_findFromLambda {E : hmG} {s : State} (hK : hmK E s) : ∀ A, (Cond.instanceMethod yX7_findFromLambda).before A s = true := hm_wd hK 750 (by decide +kernel) rfl
theorem pi_X7_findFromPlace {E : hmG} {s : State} (hK : hmK E s) : ∀ A, (Cond.instanceMethod yX7_findFromPlace).before A s = true := hm_wd hK 656 (by decide +kernel) rfl
theorem pi_X7_findFromType {E : hmG} {s : State} (hK : hmK E s) : ∀ A, (Cond.instanceMethod yX7_findFromType).before A s = true := hm_wd hK 660 (by decide +kernel) rfl
theorem pi_X7_free {E : hmG} {s : State} (hK : hmK E s) : ∀ A, (Cond.instanceMethod yX7_free).before A s = true := hm_wd hK 639 (by decide +kernel) rfl
theorem pi_X7_hasMemberWith {E : hmG} {s : State} (hK : hmK E s) : ∀ A, (Cond.instanceMethod yX7_hasMemberWith).before A s = true := hm_wd hK 100 (by decide +kernel) rfl
theorem pi_X7_hasTopWith {E : hmG} {s : State} (hK : hmK E s) : ∀ A, (Cond.instanceMethod yX7_hasTopWith).before A s = true := hm_wd hK 93 (by decide +kernel) rfl
theorem pi_X7_hasTypeInMethod {E : hmG} {s : State} (hK : hmK E s) : ∀ A, (Cond.instanceMethod yX7_hasTypeInMethod).before A s = true := hm_wd hK 513 (by decide +kernel) rfl
theorem pi_X7_heldPlaces {E : hmG} {s : State} (hK : hmK E s) : ∀ A, (Cond.instanceMethod yX7_heldPlaces).before A s = true := hm_wd hK 767 (by decide +kernel) rfl
theorem pi_X7_holdThat {E : hmG} {s : State} (hK : hmK E s) : ∀ A, (Cond.instanceMethod yX7_holdThat).before A s = true := hm_wd hK 715 (by decide +kernel) rfl
theorem pi_X7_init {E : hmG} {s : State} (hK : hmK E s) : ∀ A, (Cond.instanceMethod yX7_init).before A s = true := hm_wd hK 24 (by decide +kernel) rfl
theorem pi_X7_isLetterTaken {E : hmG} {s : State} (hK : hmK E s) : ∀ A, (Cond.instanceMethod yX7_isLetterTaken).before A s = true := hm_wd hK 89 (by decide +kernel) rfl
theorem pi_X7_lambda {E : hmG} {s : State} (hK : hmK E s) : ∀ A, (Cond.instanceMethod yX7_lambda).before A s = true := hm_wd hK 722 (by decide +kernel) rfl
theorem pi_X7_lambdaAt {E : hmG} {s : State} (hK : hmK E s) : ∀ A, (Cond.instanceMethod yX7_lambdaAt).before A s = true := hm_wd hK 754 (by decide +kernel) rfl
theorem pi_X7_local {E : hmG} {s : State} (hK : hmK E s) : ∀ A, (Cond.instanceMethod yX7_local).before A s = true := hm_wd hK 483 (by decide +kernel) rfl
theorem pi_X7_make {E : hmG} {s : State} (hK : hmK E s) : ∀ A, (Cond.instanceMethod yX7_make).before A s = true := hm_wd hK 543 (by decide +kernel) rfl
theorem pi_X7_makeInto {E : hmG} {s : State} (hK : hmK E s) : ∀ A, (Cond.instanceMethod yX7_makeInto).before A s = true := hm_wd hK 548 (by decide +kernel) rfl
theorem pi_X7_method {E : hmG} {s : State} (hK : hmK E s) : ∀ A, (Cond.instanceMethod yX7_method).before A s = true := hm_wd hK 508 (by decide +kernel) rfl
theorem pi_X7_name {E : hmG} {s : State} (hK : hmK E s) : ∀ A, (Cond.instanceMethod yX7_name).before A s = true := hm_wd hK 523 (by decide +kernel) rfl
theorem pi_X7_parent {E : hmG} {s : State} (hK : hmK E s) : ∀ A, (Cond.instanceMethod yX7_parent).before A s = true := hm_wd hK 516 (by decide +kernel) rfl
theorem pi_X7_put {E : hmG} {s : State} (hK : hmK E s) : ∀ A, (Cond.instanceMethod yX7_put).before A s = true := hm_wd hK 702 (by decide +kernel) rfl
theorem pi_X7_same {E : hmG} {s : State} (hK : hmK E s) : ∀ A, (Cond.instanceMethod yX7_same).before A s = true := hm_wd hK 647 (by decide +kernel) rfl
theorem pi_X7_see {E : hmG} {s : State} (hK : hmK E s) : ∀ A, (Cond.instanceMethod yX7_see).before A s = true := hm_wd hK 651 (by decide +kernel) rfl
theorem pi_X7_seen {E : hmG} {s : State} (hK : hmK E s) : ∀ A, (Cond.instanceMethod yX7_seen).before A s = true := hm_wd hK 745 (by decide +kernel) rfl
theorem pi_X7_share {E : hmG} {s : State} (hK : hmK E s) : ∀ A, (Cond.instanceMethod yX7_share).before A s = true := hm_wd hK 635 (by decide +kernel) rfl
theorem pi_X7_that {E : hmG} {s : State} (hK : hmK E s) : ∀ A, (Cond.instanceMethod yX7_that).before A s = true := hm_wd hK 710 (by decide +kernel) rfl
theorem pi_X7_twinNumber {E : hmG} {s : State} (hK : hmK E s) : ∀ A, (Cond.instanceMethod yX7_twinNumber).before A s = true := hm_wd hK 104 (by decide +kernel) rfl
theorem pi_X7_type {E : hmG} {s : State} (hK : hmK E s) : ∀ A, (Cond.instanceMethod yX7_type).before A s = true := hm_wd hK 80 (by decide +kernel) rfl
theorem pi_X7_typeAt {E : hmG} {s : State} (hK : hmK E s) : ∀ A, (Cond.instanceMethod yX7_typeAt).before A s = true := hm_wd hK 85 (by decide +kernel) rfl
theorem pi_X7_why {E : hmG} {s : State} (hK : hmK E s) : ∀ A, (Cond.instanceMethod yX7_why).before A s = true := hm_wd hK 758 (by decide +kernel) rfl
theorem pi_X8_about {E : hmG} {s : State} (hK : hmK E s) : ∀ A, (Cond.instanceMethod yX8_about).before A s = true := hm_wd hK 960 (by decide +kernel) rfl
theorem pi_X8_assign {E : hmG} {s : State} (hK : hmK E s) : ∀ A, (Cond.instanceMethod yX8_assign).before A s = true := hm_wd hK 909 (by decide +kernel) rfl
theorem pi_X8_constant {E : hmG} {s : State} (hK : hmK E s) : ∀ A, (Cond.instanceMethod yX8_constant).before A s = true := hm_wd hK 1000 (by decide +kernel) rfl
theorem pi_X8_count {E : hmG} {s : State} (hK : hmK E s) : ∀ A, (Cond.instanceMethod yX8_count).before A s = true := hm_wd hK 1016 (by decide +kernel) rfl
theorem pi_X8_field {E : hmG} {s : State} (hK : hmK E s) : ∀ A, (Cond.instanceMethod yX8_field).before A s = true := hm_wd hK 894 (by decide +kernel) rfl
theorem pi_X8_fieldOf {E : hmG} {s : State} (hK : hmK E s) : ∀ A, (Cond.instanceMethod yX8_fieldOf).before A s = true := hm_wd hK 902 (by decide +kernel) rfl
theorem pi_X8_find {E : hmG} {s : State} (hK : hmK E s) : ∀ A, (Cond.instanceMethod yX8_find).before A s = true := hm_wd hK 977 (by decide +kernel) rfl
theorem pi_X8_found {E : hmG} {s : State} (hK : hmK E s) : ∀ A, (Cond.instanceMethod yX8_found).before A s = true := hm_wd hK 949 (by decide +kernel) rfl
theorem pi_X8_free {E : hmG} {s : State} (hK : hmK E s) : ∀ A, (Cond.instanceMethod yX8_free).before A s = true := hm_wd hK 956 (by decide +kernel) rfl
theorem pi_X8_init {E : hmG} {s : State} (hK : hmK E s) : ∀ A, (Cond.instanceMethod yX8_init).before A s = true := hm_wd hK 772 (by decide +kernel) rfl
theorem pi_X8_isBound {E : hmG} {s : State} (hK : hmK E s) : ∀ A, (Cond.instanceMethod yX8_isBound).before A s = true := hm_wd hK 937 (by decide +kernel) rfl
theorem pi_X8_isOf {E : hmG} {s : State} (hK : hmK E s) : ∀ A, (Cond.instanceMethod yX8_isOf).before A s = true := hm_wd hK 941 (by decide +kernel) rfl
theorem pi_X8_isTaken {E : hmG} {s : State} (hK : hmK E s) : ∀ A, (Cond.instanceMethod yX8_isTaken).before A s = true := hm_wd hK 888 (by decide +kernel) rfl
theorem pi_X8_isType {E : hmG} {s : State} (hK : hmK E s) : ∀ A, (Cond.instanceMethod yX8_isType).before A s = true := hm_wd hK 884 (by decide +kernel) rfl
theorem pi_X8_lambda {E : hmG} {s : State} (hK : hmK E s) : ∀ A, (Cond.instanceMethod yX8_lambda).before A s = true := hm_wd hK 1004 (by decide +kernel) rfl
theorem pi_X8_level {E : hmG} {s : State} (hK : hmK E s) : ∀ A, (Cond.instanceMethod yX8_level).before A s = true := hm_wd hK 945 (by decide +kernel) rfl
theorem pi_X8_local {E : hmG} {s : State} (hK : hmK E s) : ∀ A, (Cond.instanceMethod yX8_local).before A s = true := hm_wd hK 905 (by decide +kernel) rfl
theorem pi_X8_localOf {E : hmG} {s : State} (hK : hmK E s) : ∀ A, (Cond.instanceMethod yX8_localOf).before A s = true := hm_wd hK 985 (by decide +kernel) rfl
theorem pi_X8_make {E : hmG} {s : State} (hK : hmK E s) : ∀ A, (Cond.instanceMethod yX8_make).before A s = true := hm_wd hK 929 (by decide +kernel) rfl
theorem pi_X8_method {E : hmG} {s : State} (hK : hmK E s) : ∀ A, (Cond.instanceMethod yX8_method).before A s = true := hm_wd hK 913 (by decide +kernel) rfl
theorem pi_X8_name {E : hmG} {s : State} (hK : hmK E s) : ∀ A, (Cond.instanceMethod yX8_name).before A s = true := hm_wd hK 921 (by decide +kernel) rfl
theorem pi_X8_ofField {E : hmG} {s : State} (hK : hmK E s) : ∀ A, (Cond.instanceMethod yX8_ofField).before A s = true := hm_wd hK 981 (by decide +kernel) rfl
theorem pi_X8_ofLocal {E : hmG} {s : State} (hK : hmK E s) : ∀ A, (Cond.instanceMethod yX8_ofLocal).before A s = true := hm_wd hK 989 (by decide +kernel) rfl
theorem pi_X8_parent {E : hmG} {s : State} (hK : hmK E s) : ∀ A, (Cond.instanceMethod yX8_parent).before A s = true := hm_wd hK 917 (by decide +kernel) rfl
theorem pi_X8_put {E : hmG} {s : State} (hK : hmK E s) : ∀ A, (Cond.instanceMethod yX8_put).before A s = true := hm_wd hK 926 (by decide +kernel) rfl
theorem pi_X8_put_ {E : hmG} {s : State} (hK : hmK E s) : ∀ A, (Cond.instanceMethod yX8_put_).before A s = true := hm_wd hK 992 (by decide +kernel) rfl
theorem pi_X8_same {E : hmG} {s : State} (hK : hmK E s) : ∀ A, (Cond.instanceMethod yX8_same).before A s = true := hm_wd hK 964 (by decide +kernel) rfl
theorem pi_X8_see {E : hmG} {s : State} (hK : hmK E s) : ∀ A, (Cond.instanceMethod yX8_see).before A s = true := hm_wd hK 968 (by decide +kernel) rfl
theorem pi_X8_seen {E : hmG} {s : State} (hK : hmK E s) : ∀ A, (Cond.instanceMethod yX8_seen).before A s = true := hm_wd hK 1008 (by decide +kernel) rfl
theorem pi_X8_share {E : hmG} {s : State} (hK : hmK E s) : ∀ A, (Cond.instanceMethod yX8_share).before A s = true := hm_wd hK 952 (by decide +kernel) rfl
theorem pi_X8_that {E : hmG} {s : State} (hK : hmK E s) : ∀ A, (Cond.instanceMethod yX8_that).before A s = true := hm_wd hK 996 (by decide +kernel) rfl
theorem pi_X8_told {E : hmG} {s : State} (hK : hmK E s) : ∀ A, (Cond.instanceMethod yX8_told).before A s = true := hm_wd hK 973 (by decide +kernel) rfl
theorem pi_X8_type {E : hmG} {s : State} (hK : hmK E s) : ∀ A, (Cond.instanceMethod yX8_type).before A s = true := hm_wd hK 876 (by decide +kernel) rfl
theorem pi_X8_why {E : hmG} {s : State} (hK : hmK E s) : ∀ A, (Cond.instanceMethod yX8_why).before A s = true := hm_wd hK 1012 (by decide +kernel) rfl
theorem pl_J0_J0_charAt_5068e {E : hmG} {s : State} (hK : hmK E s) : ∀ A, (Cond.selects RJ0 yJ0_charAt_5068e yJ0_charAt_5068e).before A s = true := hm_wd hK 529 (by decide +kernel) rfl
theorem pl_J0_J0_coder_7d493 {E : hmG} {s : State} (hK : hmK E s) : ∀ A, (Cond.selects RJ0 yJ0_coder_7d493 yJ0_coder_7d493).before A s = true := hm_wd hK 278 (by decide +kernel) rfl
theorem pl_J0_J0_getBytes_840e7 {E : hmG} {s : State} (hK : hmK E s) : ∀ A, (Cond.selects RJ0 yJ0_getBytes_840e7 yJ0_getBytes_840e7).before A s = true := hm_wd hK 311 (by decide +kernel) rfl
theorem pl_J0_J0_isLatin1_aae02 {E : hmG} {s : State} (hK : hmK E s) : ∀ A, (Cond.selects RJ0 yJ0_isLatin1_aae02 yJ0_isLatin1_aae02).before A s = true := hm_wd hK 533 (by decide +kernel) rfl
theorem pl_J0_J0_length_8abf5 {E : hmG} {s : State} (hK : hmK E s) : ∀ A, (Cond.selects RJ0 yJ0_length_8abf5 yJ0_length_8abf5).before A s = true := hm_wd hK 274 (by decide +kernel) rfl
theorem pl_J4_J4_append_15ec4 {E : hmG} {s : State} (hK : hmK E s) : ∀ A, (Cond.selects RJ4 yJ4_append_15ec4 yJ4_append_15ec4).before A s = true := hm_wd hK 197 (by decide +kernel) rfl
theorem pl_J4_J4_append_bf812 {E : hmG} {s : State} (hK : hmK E s) : ∀ A, (Cond.selects RJ4 yJ4_append_bf812 yJ4_append_bf812).before A s = true := hm_wd hK 339 (by decide +kernel) rfl
theorem pl_J4_J4_append_cf468 {E : hmG} {s : State} (hK : hmK E s) : ∀ A, (Cond.selects RJ4 yJ4_append_cf468 yJ4_append_cf468).before A s = true := hm_wd hK 317 (by decide +kernel) rfl
theorem pl_J4_J4_toString_0e30d {E : hmG} {s : State} (hK : hmK E s) : ∀ A, (Cond.selects RJ4 yJ4_toString_0e30d yJ4_toString_0e30d).before A s = true := hm_wd hK 364 (by decide +kernel) rfl
theorem pl_J4_J5_ensureCapacityInternal_d00df {E : hmG} {s : State} (hK : hmK E s) : ∀ A, (Cond.selects RJ4 yJ5_ensureCapacityInternal_d00df yJ5_ensureCapacityInternal_d00df).before A s = true := hm_wq hK 0 (by decide +kernel) rfl
theorem pl_J4_J5_getValue_6d5f1 {E : hmG} {s : State} (hK : hmK E s) : ∀ A, (Cond.selects RJ4 yJ5_getValue_6d5f1 yJ5_getValue_6d5f1).before A s = true := hm_wd hK 378 (by decide +kernel) rfl
theorem pl_J4_J5_inflateIfNeededFor_a7421 {E : hmG} {s : State} (hK : hmK E s) : ∀ A, (Cond.selects RJ4 yJ5_inflateIfNeededFor_a7421 yJ5_inflateIfNeededFor_a7421).before A s = true := hm_wq hK 3 (by decide +kernel) rfl
theorem pl_J4_J5_isLatin1_aae02 {E : hmG} {s : State} (hK : hmK E s) : ∀ A, (Cond.selects RJ4 yJ5_isLatin1_aae02 yJ5_isLatin1_aae02).before A s = true := hm_wd hK 244 (by decide +kernel) rfl
theorem pl_J4_J5_newCapacity_0f7a4 {E : hmG} {s : State} (hK : hmK E s) : ∀ A, (Cond.selects RJ4 yJ5_newCapacity_0f7a4 yJ5_newCapacity_0f7a4).before A s = true := hm_wq hK 1 (by decide +kernel) rfl
theorem pl_J4_J5_putStringAt_47b60 {E : hmG} {s : State} (hK : hmK E s) : ∀ A, (Cond.selects RJ4 yJ5_putStringAt_47b60 yJ5_putStringAt_47b60).before A s = true := hm_wq hK 2 (by decide +kernel) rfl
theorem pl_X0_X0_isThere {E : hmG} {s : State} (hK : hmK E s) : ∀ A, (Cond.selects RX0 yX0_isThere yX0_isThere).before A s = true := hm_wp hK 11 (by decide +kernel) rfl
theorem pl_X0_X0_pointAt {E : hmG} {s : State} (hK : hmK E s) : ∀ A, (Cond.selects RX0 yX0_pointAt yX0_pointAt).before A s = true := hm_wd hK 679 (by decide +kernel) rfl
theorem pl_X0_X0_read {E : hmG} {s : State} (hK : hmK E s) : ∀ A, (Cond.selects RX0 yX0_read yX0_read).before A s = true := hm_wd hK 695 (by decide +kernel) rfl
theorem pl_X0_X0_write {E : hmG} {s : State} (hK : hmK E s) : ∀ A, (Cond.selects RX0 yX0_write yX0_write).before A s = true := hm_wd hK 707 (by decide +kernel) rfl
theorem pl_X1_X1_add {E : hmG} {s : State} (hK : hmK E s) : ∀ A, (Cond.selects RX1 yX1_add yX1_add).before A s = true := hm_wd hK 480 (by decide +kernel) rfl
theorem pl_X1_X1_firstCells {E : hmG} {s : State} (hK : hmK E s) : ∀ A, (Cond.selects RX1 yX1_firstCells yX1_firstCells).before A s = true := hm_wd hK 580 (by decide +kernel) rfl
theorem pl_X1_X1_has {E : hmG} {s : State} (hK : hmK E s) : ∀ A, (Cond.selects RX1 yX1_has yX1_has).before A s = true := hm_wd hK 675 (by decide +kernel) rfl
theorem pl_X1_X1_indexOf {E : hmG} {s : State} (hK : hmK E s) : ∀ A, (Cond.selects RX1 yX1_indexOf yX1_indexOf).before A s = true := hm_wd hK 476 (by decide +kernel) rfl
theorem pl_X1_X1_isStatic {E : hmG} {s : State} (hK : hmK E s) : ∀ A, (Cond.selects RX1 yX1_isStatic yX1_isStatic).before A s = true := hm_wd hK 671 (by decide +kernel) rfl
theorem pl_X4_X4_add {E : hmG} {s : State} (hK : hmK E s) : ∀ A, (Cond.selects RX4 yX4_add yX4_add).before A s = true := hm_wd hK 488 (by decide +kernel) rfl
theorem pl_X4_X4_copyOfFirst {E : hmG} {s : State} (hK : hmK E s) : ∀ A, (Cond.selects RX4 yX4_copyOfFirst yX4_copyOfFirst).before A s = true := hm_wd hK 598 (by decide +kernel) rfl
theorem pl_X4_X4_has {E : hmG} {s : State} (hK : hmK E s) : ∀ A, (Cond.selects RX4 yX4_has yX4_has).before A s = true := hm_wd hK 496 (by decide +kernel) rfl
theorem pl_X4_X4_isAssigned {E : hmG} {s : State} (hK : hmK E s) : ∀ A, (Cond.selects RX4 yX4_isAssigned yX4_isAssigned).before A s = true := hm_wd hK 500 (by decide +kernel) rfl
theorem pl_X4_X4_latest {E : hmG} {s : State} (hK : hmK E s) : ∀ A, (Cond.selects RX4 yX4_latest yX4_latest).before A s = true := hm_wd hK 687 (by decide +kernel) rfl
theorem pl_X4_X4_set {E : hmG} {s : State} (hK : hmK E s) : ∀ A, (Cond.selects RX4 yX4_set yX4_set).before A s = true := hm_wd hK 505 (by decide +kernel) rfl
theorem pl_X5_X5_aroundAt {E : hmG} {s : State} (hK : hmK E s) : ∀ A, (Cond.selects RX5 yX5_aroundAt yX5_aroundAt).before A s = true := hm_wd hK 570 (by decide +kernel) rfl
theorem pl_X5_X5_levelOf {E : hmG} {s : State} (hK : hmK E s) : ∀ A, (Cond.selects RX5 yX5_levelOf yX5_levelOf).before A s = true := hm_wd hK 555 (by decide +kernel) rfl
theorem pl_X6_X6_copyLocalsAhead {E : hmG} {s : State} (hK : hmK E s) : ∀ A, (Cond.selects RX6 yX6_copyLocalsAhead yX6_copyLocalsAhead).before A s = true := hm_wd hK 593 (by decide +kernel) rfl
theorem pl_X6_X6_latestLocalAhead {E : hmG} {s : State} (hK : hmK E s) : ∀ A, (Cond.selects RX6 yX6_latestLocalAhead yX6_latestLocalAhead).before A s = true := hm_wd hK 683 (by decide +kernel) rfl
theorem pl_X7_X7_about {E : hmG} {s : State} (hK : hmK E s) : ∀ A, (Cond.selects RX7 yX7_about yX7_about).before A s = true := hm_wd hK 644 (by decide +kernel) rfl
theorem pl_X7_X7_assign {E : hmG} {s : State} (hK : hmK E s) : ∀ A, (Cond.selects RX7 yX7_assign yX7_assign).before A s = true := hm_wd hK 492 (by decide +kernel) rfl
theorem pl_X7_X7_constant {E : hmG} {s : State} (hK : hmK E s) : ∀ A, (Cond.selects RX7 yX7_constant yX7_constant).before A s = true := hm_wd hK 719 (by decide +kernel) rfl
theorem pl_X7_X7_count {E : hmG} {s : State} (hK : hmK E s) : ∀ A, (Cond.selects RX7 yX7_count yX7_count).before A s = true := hm_wd hK 763 (by decide +kernel) rfl
theorem pl_X7_X7_field {E : hmG} {s : State} (hK : hmK E s) : ∀ A, (Cond.selects RX7 yX7_field yX7_field).before A s = true := hm_wd hK 469 (by decide +kernel) rfl
theorem pl_X7_X7_findCopy {E : hmG} {s : State} (hK : hmK E s) : ∀ A, (Cond.selects RX7 yX7_findCopy yX7_findCopy).before A s = true := hm_wp hK 10 (by decide +kernel) rfl
theorem pl_X7_X7_findField {E : hmG} {s : State} (hK : hmK E s) : ∀ A, (Cond.selects RX7 yX7_findField yX7_findField).before A s = true := hm_wp hK 9 (by decide +kernel) rfl
theorem pl_X7_X7_findFromLambda {E : hmG} {s : State} (hK : hmK E s) : ∀ A, (Cond.selects RX7 yX7_findFromLambda yX7_findFromLambda).before A s = true := hm_wp hK 13 (by decide +kernel) rfl
theorem pl_X7_X7_findFromPlace {E : hmG} {s : State} (hK : hmK E s) : ∀ A, (Cond.selects RX7 yX7_findFromPlace yX7_findFromPlace).before A s = true := hm_wp hK 7 (by decide +kernel) rfl
theorem pl_X7_X7_findFromType {E : hmG} {s : State} (hK : hmK E s) : ∀ A, (Cond.selects RX7 yX7_findFromType yX7_findFromType).before A s = true := hm_wp hK 8 (by decide +kernel) rfl
theorem pl_X7_X7_free {E : hmG} {s : State} (hK : hmK E s) : ∀ A, (Cond.selects RX7 yX7_free yX7_free).before A s = true := hm_wd hK 640 (by decide +kernel) rfl
theorem pl_X7_X7_hasMemberWith {E : hmG} {s : State} (hK : hmK E s) : ∀ A, (Cond.selects RX7 yX7_hasMemberWith yX7_hasMemberWith).before A s = true := hm_wp hK 3 (by decide +kernel) rfl
theorem pl_X7_X7_hasTopWith {E : hmG} {s : State} (hK : hmK E s) : ∀ A, (Cond.selects RX7 yX7_hasTopWith yX7_hasTopWith).before A s = true := hm_wp hK 2 (by decide +kernel) rfl
theorem pl_X7_X7_hasTypeInMethod {E : hmG} {s : State} (hK : hmK E s) : ∀ A, (Cond.selects RX7 yX7_hasTypeInMethod yX7_hasTypeInMethod).before A s = true := hm_wp hK 5 (by decide +kernel) rfl
theorem pl_X7_X7_heldPlaces {E : hmG} {s : State} (hK : hmK E s) : ∀ A, (Cond.selects RX7 yX7_heldPlaces yX7_heldPlaces).before A s = true := hm_wp hK 15 (by decide +kernel) rfl
theorem pl_X7_X7_holdThat {E : hmG} {s : State} (hK : hmK E s) : ∀ A, (Cond.selects RX7 yX7_holdThat yX7_holdThat).before A s = true := hm_wp hK 12 (by decide +kernel) rfl
theorem pl_X7_X7_isLetterTaken {E : hmG} {s : State} (hK : hmK E s) : ∀ A, (Cond.selects RX7 yX7_isLetterTaken yX7_isLetterTaken).before A s = true := hm_wp hK 1 (by decide +kernel) rfl
theorem pl_X7_X7_lambda {E : hmG} {s : State} (hK : hmK E s) : ∀ A, (Cond.selects RX7 yX7_lambda yX7_lambda).before A s = true := hm_wd hK 723 (by decide +kernel) rfl
theorem pl_X7_X7_lambdaAt {E : hmG} {s : State} (hK : hmK E s) : ∀ A, (Cond.selects RX7 yX7_lambdaAt yX7_lambdaAt).before A s = true := hm_wp hK 14 (by decide +kernel) rfl
theorem pl_X7_X7_local {E : hmG} {s : State} (hK : hmK E s) : ∀ A, (Cond.selects RX7 yX7_local yX7_local).before A s = true := hm_wd hK 484 (by decide +kernel) rfl
theorem pl_X7_X7_make {E : hmG} {s : State} (hK : hmK E s) : ∀ A, (Cond.selects RX7 yX7_make yX7_make).before A s = true := hm_wd hK 544 (by decide +kernel) rfl
theorem pl_X7_X7_makeInto {E : hmG} {s : State} (hK : hmK E s) : ∀ A, (Cond.selects RX7 yX7_makeInto yX7_makeInto).before A s = true := hm_wp hK 6 (by decide +kernel) rfl
theorem pl_X7_X7_method {E : hmG} {s : State} (hK : hmK E s) : ∀ A, (Cond.selects RX7 yX7_method yX7_method).before A s = true := hm_wd hK 509 (by decide +kernel) rfl
theorem pl_X7_X7_name {E : hmG} {s : State} (hK : hmK E s) : ∀ A, (Cond.selects RX7 yX7_name yX7_name).before A s = true := hm_wd hK 524 (by decide +kernel) rfl
theorem pl_X7_X7_parent {E : hmG} {s : State} (hK : hmK E s) : ∀ A, (Cond.selects RX7 yX7_parent yX7_parent).before A s = true := hm_wd hK 517 (by decide +kernel) rfl
theorem pl_X7_X7_put {E : hmG} {s : State} (hK : hmK E s) : ∀ A, (Cond.selects RX7 yX7_put yX7_put).before A s = true := hm_wd hK 703 (by decide +kernel) rfl
theorem pl_X7_X7_same {E : hmG} {s : State} (hK : hmK E s) : ∀ A, (Cond.selects RX7 yX7_same yX7_same).before A s = true := hm_wd hK 648 (by decide +kernel) rfl
theorem pl_X7_X7_see {E : hmG} {s : State} (hK : hmK E s) : ∀ A, (Cond.selects RX7 yX7_see yX7_see).before A s = true := hm_wd hK 652 (by decide +kernel) rfl
theorem pl_X7_X7_seen {E : hmG} {s : State} (hK : hmK E s) : ∀ A, (Cond.selects RX7 yX7_seen yX7_seen).before A s = true := hm_wd hK 746 (by decide +kernel) rfl
theorem pl_X7_X7_share {E : hmG} {s : State} (hK : hmK E s) : ∀ A, (Cond.selects RX7 yX7_share yX7_share).before A s = true := hm_wd hK 636 (by decide +kernel) rfl
theorem pl_X7_X7_that {E : hmG} {s : State} (hK : hmK E s) : ∀ A, (Cond.selects RX7 yX7_that yX7_that).before A s = true := hm_wd hK 711 (by decide +kernel) rfl
theorem pl_X7_X7_twinNumber {E : hmG} {s : State} (hK : hmK E s) : ∀ A, (Cond.selects RX7 yX7_twinNumber yX7_twinNumber).before A s = true := hm_wp hK 4 (by decide +kernel) rfl
theorem pl_X7_X7_type {E : hmG} {s : State} (hK : hmK E s) : ∀ A, (Cond.selects RX7 yX7_type yX7_type).before A s = true := hm_wd hK 81 (by decide +kernel) rfl
theorem pl_X7_X7_typeAt {E : hmG} {s : State} (hK : hmK E s) : ∀ A, (Cond.selects RX7 yX7_typeAt yX7_typeAt).before A s = true := hm_wp hK 0 (by decide +kernel) rfl
theorem pl_X7_X7_why {E : hmG} {s : State} (hK : hmK E s) : ∀ A, (Cond.selects RX7 yX7_why yX7_why).before A s = true := hm_wd hK 759 (by decide +kernel) rfl
theorem pl_X8_X8_about {E : hmG} {s : State} (hK : hmK E s) : ∀ A, (Cond.selects RX8 yX8_about yX8_about).before A s = true := hm_wd hK 961 (by decide +kernel) rfl
theorem pl_X8_X8_assign {E : hmG} {s : State} (hK : hmK E s) : ∀ A, (Cond.selects RX8 yX8_assign yX8_assign).before A s = true := hm_wd hK 910 (by decide +kernel) rfl
theorem pl_X8_X8_constant {E : hmG} {s : State} (hK : hmK E s) : ∀ A, (Cond.selects RX8 yX8_constant yX8_constant).before A s = true := hm_wd hK 1001 (by decide +kernel) rfl
theorem pl_X8_X8_count {E : hmG} {s : State} (hK : hmK E s) : ∀ A, (Cond.selects RX8 yX8_count yX8_count).before A s = true := hm_wd hK 1017 (by decide +kernel) rfl
theorem pl_X8_X8_field {E : hmG} {s : State} (hK : hmK E s) : ∀ A, (Cond.selects RX8 yX8_field yX8_field).before A s = true := hm_wd hK 895 (by decide +kernel) rfl
theorem pl_X8_X8_fieldOf {E : hmG} {s : State} (hK : hmK E s) : ∀ A, (Cond.selects RX8 yX8_fieldOf yX8_fieldOf).before A s = true := hm_wp hK 18 (by decide +kernel) rfl
theorem pl_X8_X8_find {E : hmG} {s : State} (hK : hmK E s) : ∀ A, (Cond.selects RX8 yX8_find yX8_find).before A s = true := hm_wp hK 25 (by decide +kernel) rfl
theorem pl_X8_X8_found {E : hmG} {s : State} (hK : hmK E s) : ∀ A, (Cond.selects RX8 yX8_found yX8_found).before A s = true := hm_wp hK 23 (by decide +kernel) rfl
theorem pl_X8_X8_free {E : hmG} {s : State} (hK : hmK E s) : ∀ A, (Cond.selects RX8 yX8_free yX8_free).before A s = true := hm_wd hK 957 (by decide +kernel) rfl
theorem pl_X8_X8_isBound {E : hmG} {s : State} (hK : hmK E s) : ∀ A, (Cond.selects RX8 yX8_isBound yX8_isBound).before A s = true := hm_wp hK 20 (by decide +kernel) rfl
theorem pl_X8_X8_isOf {E : hmG} {s : State} (hK : hmK E s) : ∀ A, (Cond.selects RX8 yX8_isOf yX8_isOf).before A s = true := hm_wp hK 21 (by decide +kernel) rfl
theorem pl_X8_X8_isTaken {E : hmG} {s : State} (hK : hmK E s) : ∀ A, (Cond.selects RX8 yX8_isTaken yX8_isTaken).before A s = true := hm_wp hK 17 (by decide +kernel) rfl
theorem pl_X8_X8_isType {E : hmG} {s : State} (hK : hmK E s) : ∀ A, (Cond.selects RX8 yX8_isType yX8_isType).before A s = true := hm_wp hK 16 (by decide +kernel) rfl
theorem pl_X8_X8_lambda {E : hmG} {s : State} (hK : hmK E s) : ∀ A, (Cond.selects RX8 yX8_lambda yX8_lambda).before A s = true := hm_wd hK 1005 (by decide +kernel) rfl
theorem pl_X8_X8_level {E : hmG} {s : State} (hK : hmK E s) : ∀ A, (Cond.selects RX8 yX8_level yX8_level).before A s = true := hm_wp hK 22 (by decide +kernel) rfl
theorem pl_X8_X8_local {E : hmG} {s : State} (hK : hmK E s) : ∀ A, (Cond.selects RX8 yX8_local yX8_local).before A s = true := hm_wd hK 906 (by decide +kernel) rfl
theorem pl_X8_X8_localOf {E : hmG} {s : State} (hK : hmK E s) : ∀ A, (Cond.selects RX8 yX8_localOf yX8_localOf).before A s = true := hm_wp hK 27 (by decide +kernel) rfl
theorem pl_X8_X8_make {E : hmG} {s : State} (hK : hmK E s) : ∀ A, (Cond.selects RX8 yX8_make yX8_make).before A s = true := hm_wd hK 930 (by decide +kernel) rfl
theorem pl_X8_X8_method {E : hmG} {s : State} (hK : hmK E s) : ∀ A, (Cond.selects RX8 yX8_method yX8_method).before A s = true := hm_wd hK 914 (by decide +kernel) rfl
theorem pl_X8_X8_name {E : hmG} {s : State} (hK : hmK E s) : ∀ A, (Cond.selects RX8 yX8_name yX8_name).before A s = true := hm_wd hK 922 (by decide +kernel) rfl
theorem pl_X8_X8_ofField {E : hmG} {s : State} (hK : hmK E s) : ∀ A, (Cond.selects RX8 yX8_ofField yX8_ofField).before A s = true := hm_wp hK 26 (by decide +kernel) rfl
theorem pl_X8_X8_ofLocal {E : hmG} {s : State} (hK : hmK E s) : ∀ A, (Cond.selects RX8 yX8_ofLocal yX8_ofLocal).before A s = true := hm_wp hK 28 (by decide +kernel) rfl
theorem pl_X8_X8_parent {E : hmG} {s : State} (hK : hmK E s) : ∀ A, (Cond.selects RX8 yX8_parent yX8_parent).before A s = true := hm_wd hK 918 (by decide +kernel) rfl
theorem pl_X8_X8_put {E : hmG} {s : State} (hK : hmK E s) : ∀ A, (Cond.selects RX8 yX8_put yX8_put).before A s = true := hm_wp hK 19 (by decide +kernel) rfl
theorem pl_X8_X8_put_ {E : hmG} {s : State} (hK : hmK E s) : ∀ A, (Cond.selects RX8 yX8_put_ yX8_put_).before A s = true := hm_wd hK 993 (by decide +kernel) rfl
theorem pl_X8_X8_same {E : hmG} {s : State} (hK : hmK E s) : ∀ A, (Cond.selects RX8 yX8_same yX8_same).before A s = true := hm_wd hK 965 (by decide +kernel) rfl
theorem pl_X8_X8_see {E : hmG} {s : State} (hK : hmK E s) : ∀ A, (Cond.selects RX8 yX8_see yX8_see).before A s = true := hm_wd hK 969 (by decide +kernel) rfl
theorem pl_X8_X8_seen {E : hmG} {s : State} (hK : hmK E s) : ∀ A, (Cond.selects RX8 yX8_seen yX8_seen).before A s = true := hm_wd hK 1009 (by decide +kernel) rfl
theorem pl_X8_X8_share {E : hmG} {s : State} (hK : hmK E s) : ∀ A, (Cond.selects RX8 yX8_share yX8_share).before A s = true := hm_wd hK 953 (by decide +kernel) rfl
theorem pl_X8_X8_that {E : hmG} {s : State} (hK : hmK E s) : ∀ A, (Cond.selects RX8 yX8_that yX8_that).before A s = true := hm_wd hK 997 (by decide +kernel) rfl
theorem pl_X8_X8_told {E : hmG} {s : State} (hK : hmK E s) : ∀ A, (Cond.selects RX8 yX8_told yX8_told).before A s = true := hm_wp hK 24 (by decide +kernel) rfl
theorem pl_X8_X8_type {E : hmG} {s : State} (hK : hmK E s) : ∀ A, (Cond.selects RX8 yX8_type yX8_type).before A s = true := hm_wd hK 877 (by decide +kernel) rfl
theorem pl_X8_X8_why {E : hmG} {s : State} (hK : hmK E s) : ∀ A, (Cond.selects RX8 yX8_why yX8_why).before A s = true := hm_wd hK 1013 (by decide +kernel) rfl
theorem pm_J0_1047 {E : hmG} {s : State} (hK : hmK E s) : hmMs RJ0 1047 yJ5_isLatin1_aae02 cJ5_isLatin1_aae02 1 (some .boolean) 0 s := hm_ms hK 245 7 388 (by decide +kernel) (by decide +kernel) (by decide +kernel) (by decide) (by decide +kernel)
theorem pm_J0_1059 {E : hmG} {s : State} (hK : hmK E s) : hmMs RJ0 1059 yJ3_checkIndex_8e157 cJ3_checkIndex_8e157 3 (some .int) 3 s := hm_ms hK 336 15 334 (by decide +kernel) (by decide +kernel) (by decide +kernel) (by decide) (by decide +kernel)
theorem pm_J0_335 {E : hmG} {s : State} (hK : hmK E s) : hmMs RJ0 335 yJ0_coder_7d493 cJ0_coder_7d493 1 (some .byte) 0 s := hm_ms hK 279 9 276 (by decide +kernel) (by decide +kernel) (by decide +kernel) (by decide) (by decide +kernel)
theorem pm_J0_489 {E : hmG} {s : State} (hK : hmK E s) : hmMs RJ0 489 yJ0_init_db425 cJ0_init_db425 5 none 2 s := hm_ms hK 373 9 371 (by decide +kernel) (by decide +kernel) (by decide +kernel) (by decide) (by decide +kernel)
theorem pm_J0_492 {E : hmG} {s : State} (hK : hmK E s) : hmMs RJ0 492 yJ0_isLatin1_aae02 cJ0_isLatin1_aae02 1 (some .boolean) 0 s := hm_ms hK 534 9 531 (by decide +kernel) (by decide +kernel) (by decide +kernel) (by decide) (by decide +kernel)
theorem pm_J0_495 {E : hmG} {s : State} (hK : hmK E s) : hmMs RJ0 495 yJ1_charAt_3b067 cJ1_charAt_3b067 2 (some .char) 2 s := hm_ms hK 537 16 535 (by decide +kernel) (by decide +kernel) (by decide +kernel) (by decide) (by decide +kernel)
theorem pm_J0_54 {E : hmG} {s : State} (hK : hmK E s) : hmMs RJ0 54 yJ7_copyOfRange_39247 cJ7_copyOfRange_39247 3 (some (.array .byte)) 3 s := hm_ms hK 391 13 389 (by decide +kernel) (by decide +kernel) (by decide +kernel) (by decide) (by decide +kernel)
theorem pm_J0_552 {E : hmG} {s : State} (hK : hmK E s) : hmMs RJ0 552 yJ5_getValue_6d5f1 cJ5_getValue_6d5f1 1 (some (.array .byte)) 0 s := hm_ms hK 379 7 375 (by decide +kernel) (by decide +kernel) (by decide +kernel) (by decide) (by decide +kernel)
theorem pm_J1_9 {E : hmG} {s : State} (hK : hmK E s) : hmMs RJ1 9 yJ0_checkIndex_df160 cJ0_checkIndex_df160 2 none 2 s := hm_ms hK 333 9 538 (by decide +kernel) (by decide +kernel) (by decide +kernel) (by decide) (by decide +kernel)
theorem pm_J4_1 {E : hmG} {s : State} (hK : hmK E s) : hmMs RJ4 1 yJ5_init_d00df cJ5_init_d00df 2 none 1 s := hm_ms hK 170 7 168 (by decide +kernel) (by decide +kernel) (by decide +kernel) (by decide) (by decide +kernel)
theorem pm_J4_137 {E : hmG} {s : State} (hK : hmK E s) : hmMs RJ4 137 yJ0_init_81219 cJ0_init_81219 2 none 1 s := hm_ms hK 370 9 368 (by decide +kernel) (by decide +kernel) (by decide +kernel) (by decide) (by decide +kernel)
theorem pm_J4_29 {E : hmG} {s : State} (hK : hmK E s) : hmMs RJ4 29 yJ5_append_cf1ce cJ5_append_cf1ce 3 (some (.object "java/lang/AbstractStringBuilder")) 1 s := hm_ms hK 201 7 199 (by decide +kernel) (by decide +kernel) (by decide +kernel) (by decide) (by decide +kernel)
theorem pm_J4_343 {E : hmG} {s : State} (hK : hmK E s) : hmMs RJ4 343 yJ5_length_8abf5 cJ5_length_8abf5 1 (some .int) 0 s := hm_ms hK 387 7 386 (by decide +kernel) (by decide +kernel) (by decide +kernel) (by decide) (by decide +kernel)
theorem pm_J4_50 {E : hmG} {s : State} (hK : hmK E s) : hmMs RJ4 50 yJ5_append_3fe6f cJ5_append_3fe6f 2 (some (.object "java/lang/AbstractStringBuilder")) 1 s := hm_ms hK 321 7 319 (by decide +kernel) (by decide +kernel) (by decide +kernel) (by decide) (by decide +kernel)
theorem pm_J4_53 {E : hmG} {s : State} (hK : hmK E s) : hmMs RJ4 53 yJ5_append_c97b9 cJ5_append_c97b9 4 (some (.object "java/lang/AbstractStringBuilder")) 1 s := hm_ms hK 343 7 341 (by decide +kernel) (by decide +kernel) (by decide +kernel) (by decide) (by decide +kernel)
theorem pm_J5_100 {E : hmG} {s : State} (hK : hmK E s) : hmMs RJ5 100 yJ5_ensureCapacityInternal_d00df cJ5_ensureCapacityInternal_d00df 3 none 1 s := hm_ms hK 209 7 206 (by decide +kernel) (by decide +kernel) (by decide +kernel) (by decide) (by decide +kernel)
theorem pm_J5_104 {E : hmG} {s : State} (hK : hmK E s) : hmMs RJ5 104 yJ5_newCapacity_0f7a4 cJ5_newCapacity_0f7a4 6 (some .int) 1 s := hm_ms hK 213 7 210 (by decide +kernel) (by decide +kernel) (by decide +kernel) (by decide) (by decide +kernel)
theorem pm_J5_108 {E : hmG} {s : State} (hK : hmK E s) : hmMs RJ5 108 yJ7_copyOf_9075b cJ7_copyOf_9075b 3 (some (.array .byte)) 2 s := hm_ms hK 227 13 225 (by decide +kernel) (by decide +kernel) (by decide +kernel) (by decide) (by decide +kernel)
theorem pm_J5_114 {E : hmG} {s : State} (hK : hmK E s) : hmMs RJ5 114 yJ8_newLength_cabcc cJ8_newLength_cabcc 4 (some .int) 3 s := hm_ms hK 216 11 214 (by decide +kernel) (by decide +kernel) (by decide +kernel) (by decide) (by decide +kernel)
theorem pm_J5_191 {E : hmG} {s : State} (hK : hmK E s) : hmMs RJ5 191 yJ1_canEncode_fc78d cJ1_canEncode_fc78d 1 (some .boolean) 1 s := hm_ms hK 324 16 322 (by decide +kernel) (by decide +kernel) (by decide +kernel) (by decide) (by decide +kernel)
theorem pm_J5_208 {E : hmG} {s : State} (hK : hmK E s) : hmMs RJ5 208 yJ5_putStringAt_47b60 cJ5_putStringAt_47b60 3 none 2 s := hm_ms hK 284 7 281 (by decide +kernel) (by decide +kernel) (by decide +kernel) (by decide) (by decide +kernel)
theorem pm_J5_245 {E : hmG} {s : State} (hK : hmK E s) : hmMs RJ5 245 yJ6_stringSize_0f7a4 cJ6_stringSize_0f7a4 4 (some .int) 1 s := hm_ms hK 346 17 344 (by decide +kernel) (by decide +kernel) (by decide +kernel) (by decide) (by decide +kernel)
theorem pm_J5_248 {E : hmG} {s : State} (hK : hmK E s) : hmMs RJ5 248 yJ6_getChars_ba4f3 cJ6_getChars_ba4f3 7 (some .int) 3 s := hm_ms hK 349 17 347 (by decide +kernel) (by decide +kernel) (by decide +kernel) (by decide) (by decide +kernel)
theorem pm_J5_32 {E : hmG} {s : State} (hK : hmK E s) : hmMs RJ5 32 yJ0_length_8abf5 cJ0_length_8abf5 1 (some .int) 0 s := hm_ms hK 275 9 272 (by decide +kernel) (by decide +kernel) (by decide +kernel) (by decide) (by decide +kernel)
theorem pm_J5_397 {E : hmG} {s : State} (hK : hmK E s) : hmMs RJ5 397 yJ5_inflateIfNeededFor_a7421 cJ5_inflateIfNeededFor_a7421 2 none 1 s := hm_ms hK 288 7 285 (by decide +kernel) (by decide +kernel) (by decide +kernel) (by decide) (by decide +kernel)
theorem pm_J5_399 {E : hmG} {s : State} (hK : hmK E s) : hmMs RJ5 399 yJ0_getBytes_840e7 cJ0_getBytes_840e7 4 none 3 s := hm_ms hK 312 9 309 (by decide +kernel) (by decide +kernel) (by decide +kernel) (by decide) (by decide +kernel)
theorem pm_J5_40 {E : hmG} {s : State} (hK : hmK E s) : hmMs RJ5 40 yJ0_coder_7d493 cJ0_coder_7d493 1 (some .byte) 0 s := hm_ms hK 279 9 289 (by decide +kernel) (by decide +kernel) (by decide +kernel) (by decide) (by decide +kernel)
theorem pm_J5_83 {E : hmG} {s : State} (hK : hmK E s) : hmMs RJ5 83 yJ5_isLatin1_aae02 cJ5_isLatin1_aae02 1 (some .boolean) 0 s := hm_ms hK 245 7 241 (by decide +kernel) (by decide +kernel) (by decide +kernel) (by decide) (by decide +kernel)
theorem pm_J7_304 {E : hmG} {s : State} (hK : hmK E s) : hmMs RJ7 304 yJ9_min_7cf53 cJ9_min_7cf53 2 (some .int) 2 s := hm_ms hK 237 12 235 (by decide +kernel) (by decide +kernel) (by decide +kernel) (by decide) (by decide +kernel)
theorem pm_J7_339 {E : hmG} {s : State} (hK : hmK E s) : hmMs RJ7 339 yJ7_copyOfRangeByte_39247 cJ7_copyOfRangeByte_39247 5 (some (.array .byte)) 3 s := hm_ms hK 394 13 392 (by decide +kernel) (by decide +kernel) (by decide +kernel) (by decide) (by decide +kernel)
theorem pm_J7_343 {E : hmG} {s : State} (hK : hmK E s) : hmMs RJ7 343 yJ7_checkLength_df160 cJ7_checkLength_df160 2 none 2 s := hm_ms hK 397 13 395 (by decide +kernel) (by decide +kernel) (by decide +kernel) (by decide) (by decide +kernel)
theorem pm_J8_194 {E : hmG} {s : State} (hK : hmK E s) : hmMs RJ8 194 yJ9_max_7cf53 cJ9_max_7cf53 2 (some .int) 2 s := hm_ms hK 219 12 217 (by decide +kernel) (by decide +kernel) (by decide +kernel) (by decide) (by decide +kernel)
theorem pm_L_102 {E : hmG} {s : State} (hK : hmK E s) : hmMs RL 102 yX8_count cX8_count 4 (some .int) 1 s := hm_ms hK 1018 3 1015 (by decide +kernel) (by decide +kernel) (by decide +kernel) (by decide) (by decide +kernel)
theorem pm_L_12 {E : hmG} {s : State} (hK : hmK E s) : hmMs RL 12 yX8_init cX8_init 1 none 0 s := hm_ms hK 773 3 771 (by decide +kernel) (by decide +kernel) (by decide +kernel) (by decide) (by decide +kernel)
theorem pm_L_13 {E : hmG} {s : State} (hK : hmK E s) : hmMs RL 13 yX7_type cX7_type 7 (some .int) 3 s := hm_ms hK 82 1 79 (by decide +kernel) (by decide +kernel) (by decide +kernel) (by decide) (by decide +kernel)
theorem pm_L_17 {E : hmG} {s : State} (hK : hmK E s) : hmMs RL 17 yX8_type cX8_type 6 (some .int) 3 s := hm_ms hK 878 3 875 (by decide +kernel) (by decide +kernel) (by decide +kernel) (by decide) (by decide +kernel)
theorem pm_L_20 {E : hmG} {s : State} (hK : hmK E s) : hmMs RL 20 yX7_field cX7_field 8 (some .int) 4 s := hm_ms hK 470 1 467 (by decide +kernel) (by decide +kernel) (by decide +kernel) (by decide) (by decide +kernel)
theorem pm_L_24 {E : hmG} {s : State} (hK : hmK E s) : hmMs RL 24 yX8_field cX8_field 7 (some .int) 4 s := hm_ms hK 896 3 893 (by decide +kernel) (by decide +kernel) (by decide +kernel) (by decide) (by decide +kernel)
theorem pm_L_25 {E : hmG} {s : State} (hK : hmK E s) : hmMs RL 25 yX7_local cX7_local 7 (some .int) 3 s := hm_ms hK 485 1 482 (by decide +kernel) (by decide +kernel) (by decide +kernel) (by decide) (by decide +kernel)
theorem pm_L_29 {E : hmG} {s : State} (hK : hmK E s) : hmMs RL 29 yX8_local cX8_local 6 (some .int) 3 s := hm_ms hK 907 3 904 (by decide +kernel) (by decide +kernel) (by decide +kernel) (by decide) (by decide +kernel)
theorem pm_L_30 {E : hmG} {s : State} (hK : hmK E s) : hmMs RL 30 yX7_assign cX7_assign 7 (some .int) 3 s := hm_ms hK 493 1 490 (by decide +kernel) (by decide +kernel) (by decide +kernel) (by decide) (by decide +kernel)
theorem pm_L_33 {E : hmG} {s : State} (hK : hmK E s) : hmMs RL 33 yX8_assign cX8_assign 7 (some .int) 3 s := hm_ms hK 911 3 908 (by decide +kernel) (by decide +kernel) (by decide +kernel) (by decide) (by decide +kernel)
theorem pm_L_34 {E : hmG} {s : State} (hK : hmK E s) : hmMs RL 34 yX7_method cX7_method 5 (some .int) 2 s := hm_ms hK 510 1 507 (by decide +kernel) (by decide +kernel) (by decide +kernel) (by decide) (by decide +kernel)
theorem pm_L_38 {E : hmG} {s : State} (hK : hmK E s) : hmMs RL 38 yX8_method cX8_method 4 (some .int) 2 s := hm_ms hK 915 3 912 (by decide +kernel) (by decide +kernel) (by decide +kernel) (by decide) (by decide +kernel)
theorem pm_L_39 {E : hmG} {s : State} (hK : hmK E s) : hmMs RL 39 yX7_parent cX7_parent 5 (some .int) 2 s := hm_ms hK 518 1 515 (by decide +kernel) (by decide +kernel) (by decide +kernel) (by decide) (by decide +kernel)
theorem pm_L_43 {E : hmG} {s : State} (hK : hmK E s) : hmMs RL 43 yX8_parent cX8_parent 5 (some .int) 2 s := hm_ms hK 919 3 916 (by decide +kernel) (by decide +kernel) (by decide +kernel) (by decide) (by decide +kernel)
theorem pm_L_44 {E : hmG} {s : State} (hK : hmK E s) : hmMs RL 44 yX7_name cX7_name 5 (some .int) 2 s := hm_ms hK 525 1 522 (by decide +kernel) (by decide +kernel) (by decide +kernel) (by decide) (by decide +kernel)
theorem pm_L_47 {E : hmG} {s : State} (hK : hmK E s) : hmMs RL 47 yX8_name cX8_name 5 (some .int) 2 s := hm_ms hK 923 3 920 (by decide +kernel) (by decide +kernel) (by decide +kernel) (by decide) (by decide +kernel)
theorem pm_L_48 {E : hmG} {s : State} (hK : hmK E s) : hmMs RL 48 yX7_make cX7_make 4 (some .int) 3 s := hm_ms hK 545 1 542 (by decide +kernel) (by decide +kernel) (by decide +kernel) (by decide) (by decide +kernel)
theorem pm_L_51 {E : hmG} {s : State} (hK : hmK E s) : hmMs RL 51 yX8_make cX8_make 8 (some .int) 3 s := hm_ms hK 931 3 928 (by decide +kernel) (by decide +kernel) (by decide +kernel) (by decide) (by decide +kernel)
theorem pm_L_52 {E : hmG} {s : State} (hK : hmK E s) : hmMs RL 52 yX7_share cX7_share 3 (some .int) 2 s := hm_ms hK 637 1 634 (by decide +kernel) (by decide +kernel) (by decide +kernel) (by decide) (by decide +kernel)
theorem pm_L_55 {E : hmG} {s : State} (hK : hmK E s) : hmMs RL 55 yX8_share cX8_share 3 (some .int) 2 s := hm_ms hK 954 3 951 (by decide +kernel) (by decide +kernel) (by decide +kernel) (by decide) (by decide +kernel)
theorem pm_L_56 {E : hmG} {s : State} (hK : hmK E s) : hmMs RL 56 yX7_free cX7_free 3 (some .int) 1 s := hm_ms hK 641 1 638 (by decide +kernel) (by decide +kernel) (by decide +kernel) (by decide) (by decide +kernel)
theorem pm_L_60 {E : hmG} {s : State} (hK : hmK E s) : hmMs RL 60 yX8_free cX8_free 3 (some .int) 1 s := hm_ms hK 958 3 955 (by decide +kernel) (by decide +kernel) (by decide +kernel) (by decide) (by decide +kernel)
theorem pm_L_61 {E : hmG} {s : State} (hK : hmK E s) : hmMs RL 61 yX7_about cX7_about 6 (some .int) 2 s := hm_ms hK 645 1 642 (by decide +kernel) (by decide +kernel) (by decide +kernel) (by decide) (by decide +kernel)
theorem pm_L_64 {E : hmG} {s : State} (hK : hmK E s) : hmMs RL 64 yX8_about cX8_about 7 (some .int) 2 s := hm_ms hK 962 3 959 (by decide +kernel) (by decide +kernel) (by decide +kernel) (by decide) (by decide +kernel)
theorem pm_L_65 {E : hmG} {s : State} (hK : hmK E s) : hmMs RL 65 yX7_same cX7_same 3 (some .int) 2 s := hm_ms hK 649 1 646 (by decide +kernel) (by decide +kernel) (by decide +kernel) (by decide) (by decide +kernel)
theorem pm_L_68 {E : hmG} {s : State} (hK : hmK E s) : hmMs RL 68 yX8_same cX8_same 3 (some .int) 2 s := hm_ms hK 966 3 963 (by decide +kernel) (by decide +kernel) (by decide +kernel) (by decide) (by decide +kernel)
theorem pm_L_69 {E : hmG} {s : State} (hK : hmK E s) : hmMs RL 69 yX7_see cX7_see 3 (some .long) 2 s := hm_ms hK 653 1 650 (by decide +kernel) (by decide +kernel) (by decide +kernel) (by decide) (by decide +kernel)
theorem pm_L_73 {E : hmG} {s : State} (hK : hmK E s) : hmMs RL 73 yX8_see cX8_see 4 (some .long) 2 s := hm_ms hK 970 3 967 (by decide +kernel) (by decide +kernel) (by decide +kernel) (by decide) (by decide +kernel)
theorem pm_L_74 {E : hmG} {s : State} (hK : hmK E s) : hmMs RL 74 yX7_put cX7_put 5 (some .int) 3 s := hm_ms hK 704 1 701 (by decide +kernel) (by decide +kernel) (by decide +kernel) (by decide) (by decide +kernel)
theorem pm_L_77 {E : hmG} {s : State} (hK : hmK E s) : hmMs RL 77 yX8_put_ cX8_put_ 8 (some .int) 3 s := hm_ms hK 994 3 991 (by decide +kernel) (by decide +kernel) (by decide +kernel) (by decide) (by decide +kernel)
theorem pm_L_78 {E : hmG} {s : State} (hK : hmK E s) : hmMs RL 78 yX7_that cX7_that 4 (some .int) 3 s := hm_ms hK 712 1 709 (by decide +kernel) (by decide +kernel) (by decide +kernel) (by decide) (by decide +kernel)
theorem pm_L_81 {E : hmG} {s : State} (hK : hmK E s) : hmMs RL 81 yX8_that cX8_that 6 (some .int) 3 s := hm_ms hK 998 3 995 (by decide +kernel) (by decide +kernel) (by decide +kernel) (by decide) (by decide +kernel)
theorem pm_L_82 {E : hmG} {s : State} (hK : hmK E s) : hmMs RL 82 yX7_constant cX7_constant 4 (some .long) 2 s := hm_ms hK 720 1 717 (by decide +kernel) (by decide +kernel) (by decide +kernel) (by decide) (by decide +kernel)
theorem pm_L_85 {E : hmG} {s : State} (hK : hmK E s) : hmMs RL 85 yX8_constant cX8_constant 3 (some .long) 2 s := hm_ms hK 1002 3 999 (by decide +kernel) (by decide +kernel) (by decide +kernel) (by decide) (by decide +kernel)
theorem pm_L_86 {E : hmG} {s : State} (hK : hmK E s) : hmMs RL 86 yX7_lambda cX7_lambda 6 (some .int) 2 s := hm_ms hK 724 1 721 (by decide +kernel) (by decide +kernel) (by decide +kernel) (by decide) (by decide +kernel)
theorem pm_L_89 {E : hmG} {s : State} (hK : hmK E s) : hmMs RL 89 yX8_lambda cX8_lambda 6 (some .int) 2 s := hm_ms hK 1006 3 1003 (by decide +kernel) (by decide +kernel) (by decide +kernel) (by decide) (by decide +kernel)
theorem pm_L_9 {E : hmG} {s : State} (hK : hmK E s) : hmMs RL 9 yX7_init cX7_init 1 none 0 s := hm_ms hK 25 1 23 (by decide +kernel) (by decide +kernel) (by decide +kernel) (by decide) (by decide +kernel)
theorem pm_L_90 {E : hmG} {s : State} (hK : hmK E s) : hmMs RL 90 yX7_seen cX7_seen 3 (some .long) 2 s := hm_ms hK 747 1 744 (by decide +kernel) (by decide +kernel) (by decide +kernel) (by decide) (by decide +kernel)
theorem pm_L_93 {E : hmG} {s : State} (hK : hmK E s) : hmMs RL 93 yX8_seen cX8_seen 5 (some .long) 2 s := hm_ms hK 1010 3 1007 (by decide +kernel) (by decide +kernel) (by decide +kernel) (by decide) (by decide +kernel)
theorem pm_L_94 {E : hmG} {s : State} (hK : hmK E s) : hmMs RL 94 yX7_why cX7_why 1 (some .int) 0 s := hm_ms hK 760 1 757 (by decide +kernel) (by decide +kernel) (by decide +kernel) (by decide) (by decide +kernel)
theorem pm_L_98 {E : hmG} {s : State} (hK : hmK E s) : hmMs RL 98 yX8_why cX8_why 1 (some .int) 0 s := hm_ms hK 1014 3 1011 (by decide +kernel) (by decide +kernel) (by decide +kernel) (by decide) (by decide +kernel)
theorem pm_L_99 {E : hmG} {s : State} (hK : hmK E s) : hmMs RL 99 yX7_count cX7_count 2 (some .int) 1 s := hm_ms hK 764 1 761 (by decide +kernel) (by decide +kernel) (by decide +kernel) (by decide) (by decide +kernel)
theorem pm_X0_26 {E : hmG} {s : State} (hK : hmK E s) : hmMs RX0 26 yX0_isThere cX0_isThere 1 (some .boolean) 0 s := hm_ms hK 700 2 697 (by decide +kernel) (by decide +kernel) (by decide +kernel) (by decide) (by decide +kernel)
theorem pm_X1_27 {E : hmG} {s : State} (hK : hmK E s) : hmMs RX1 27 yX1_has cX1_has 2 (some .boolean) 1 s := hm_ms hK 676 5 673 (by decide +kernel) (by decide +kernel) (by decide +kernel) (by decide) (by decide +kernel)
theorem pm_X1_34 {E : hmG} {s : State} (hK : hmK E s) : hmMs RX1 34 yJ7_copyOf_c38d5 cJ7_copyOf_c38d5 3 (some (.array .long)) 2 s := hm_ms hK 585 13 583 (by decide +kernel) (by decide +kernel) (by decide +kernel) (by decide) (by decide +kernel)
theorem pm_X3_23 {E : hmG} {s : State} (hK : hmK E s) : hmMs RX3 23 yX1_firstCells cX1_firstCells 1 (some (.array .long)) 0 s := hm_ms hK 581 5 578 (by decide +kernel) (by decide +kernel) (by decide +kernel) (by decide) (by decide +kernel)
theorem pm_X3_33 {E : hmG} {s : State} (hK : hmK E s) : hmMs RX3 33 yX6_copyLocalsAhead cX6_copyLocalsAhead 1 (some (.array .long)) 0 s := hm_ms hK 594 4 591 (by decide +kernel) (by decide +kernel) (by decide +kernel) (by decide) (by decide +kernel)
theorem pm_X4_27 {E : hmG} {s : State} (hK : hmK E s) : hmMs RX4 27 yX4_has cX4_has 2 (some .boolean) 1 s := hm_ms hK 497 6 502 (by decide +kernel) (by decide +kernel) (by decide +kernel) (by decide) (by decide +kernel)
theorem pm_X4_31 {E : hmG} {s : State} (hK : hmK E s) : hmMs RX4 31 yJ9_min_7cf53 cJ9_min_7cf53 2 (some .int) 2 s := hm_ms hK 237 12 600 (by decide +kernel) (by decide +kernel) (by decide +kernel) (by decide) (by decide +kernel)
theorem pm_X4_40 {E : hmG} {s : State} (hK : hmK E s) : hmMs RX4 40 yJ7_copyOf_c38d5 cJ7_copyOf_c38d5 3 (some (.array .long)) 2 s := hm_ms hK 585 13 602 (by decide +kernel) (by decide +kernel) (by decide +kernel) (by decide) (by decide +kernel)
theorem pm_X5_22 {E : hmG} {s : State} (hK : hmK E s) : hmMs RX5 22 yX5_levelOf cX5_levelOf 3 (some (.object "InnerCaptures$Level")) 1 s := hm_ms hK 556 19 572 (by decide +kernel) (by decide +kernel) (by decide +kernel) (by decide) (by decide +kernel)
theorem pm_X6_11 {E : hmG} {s : State} (hK : hmK E s) : hmMn RX6 11 yX1_init "InnerCaptures" cX1_init 1 none 0 s := hm_mn hK 118 5 (by decide +kernel) (by decide +kernel) hK.2.2.2.2.2.1.2.1 (by decide) (by decide +kernel)
theorem pm_X6_20 {E : hmG} {s : State} (hK : hmK E s) : hmMn RX6 20 yX4_init "InnerCaptures" cX4_init 1 none 0 s := hm_mn hK 142 6 (by decide +kernel) (by decide +kernel) hK.2.2.2.2.2.1.2.2.1 (by decide) (by decide +kernel)
theorem pm_X6_46 {E : hmG} {s : State} (hK : hmK E s) : hmMn RX6 46 yX7_standsInMethod "InnerCaptures" cX7_standsInMethod 1 (some .boolean) 1 s := hm_mn hK 108 1 (by decide +kernel) (by decide +kernel) hK.2.2.2.2.2.1.2.2.2 (by decide) (by decide +kernel)
theorem pm_X6_59 {E : hmG} {s : State} (hK : hmK E s) : hmMs RX6 59 yX6_classNameOf cX6_classNameOf 4 (some (.object "java/lang/String")) 3 s := hm_ms hK 162 4 160 (by decide +kernel) (by decide +kernel) (by decide +kernel) (by decide) (by decide +kernel)
theorem pm_X6_69 {E : hmG} {s : State} (hK : hmK E s) : hmMs RX6 69 yJ4_init_da8c8 cJ4_init_da8c8 1 none 0 s := hm_ms hK 167 8 165 (by decide +kernel) (by decide +kernel) (by decide +kernel) (by decide) (by decide +kernel)
theorem pm_X6_70 {E : hmG} {s : State} (hK : hmK E s) : hmMs RX6 70 yJ4_append_15ec4 cJ4_append_15ec4 2 (some (.object "java/lang/StringBuilder")) 1 s := hm_ms hK 198 8 195 (by decide +kernel) (by decide +kernel) (by decide +kernel) (by decide) (by decide +kernel)
theorem pm_X6_74 {E : hmG} {s : State} (hK : hmK E s) : hmMs RX6 74 yJ4_append_cf468 cJ4_append_cf468 2 (some (.object "java/lang/StringBuilder")) 1 s := hm_ms hK 318 8 315 (by decide +kernel) (by decide +kernel) (by decide +kernel) (by decide) (by decide +kernel)
theorem pm_X6_77 {E : hmG} {s : State} (hK : hmK E s) : hmMs RX6 77 yJ4_append_bf812 cJ4_append_bf812 2 (some (.object "java/lang/StringBuilder")) 1 s := hm_ms hK 340 8 337 (by decide +kernel) (by decide +kernel) (by decide +kernel) (by decide) (by decide +kernel)
theorem pm_X6_80 {E : hmG} {s : State} (hK : hmK E s) : hmMs RX6 80 yJ4_toString_0e30d cJ4_toString_0e30d 1 (some (.object "java/lang/String")) 0 s := hm_ms hK 365 8 362 (by decide +kernel) (by decide +kernel) (by decide +kernel) (by decide) (by decide +kernel)
theorem pm_X6_84 {E : hmG} {s : State} (hK : hmK E s) : hmMs RX6 84 yX4_latest cX4_latest 4 (some .int) 2 s := hm_ms hK 688 6 685 (by decide +kernel) (by decide +kernel) (by decide +kernel) (by decide) (by decide +kernel)
theorem pm_X6_92 {E : hmG} {s : State} (hK : hmK E s) : hmMs RX6 92 yX4_copyOfFirst cX4_copyOfFirst 3 (some (.array .long)) 1 s := hm_ms hK 599 6 596 (by decide +kernel) (by decide +kernel) (by decide +kernel) (by decide) (by decide +kernel)
theorem pm_X7_102 {E : hmG} {s : State} (hK : hmK E s) : hmMs RX7 102 yX7_hasTypeInMethod cX7_hasTypeInMethod 4 (some .boolean) 1 s := hm_ms hK 514 1 511 (by decide +kernel) (by decide +kernel) (by decide +kernel) (by decide) (by decide +kernel)
theorem pm_X7_117 {E : hmG} {s : State} (hK : hmK E s) : hmMs RX7 117 yX7_isSameOrAbove cX7_isSameOrAbove 4 (some .boolean) 2 s := hm_ms hK 521 1 519 (by decide +kernel) (by decide +kernel) (by decide +kernel) (by decide) (by decide +kernel)
theorem pm_X7_125 {E : hmG} {s : State} (hK : hmK E s) : hmMs RX7 125 yJ0_length_8abf5 cJ0_length_8abf5 1 (some .int) 0 s := hm_ms hK 275 9 526 (by decide +kernel) (by decide +kernel) (by decide +kernel) (by decide) (by decide +kernel)
theorem pm_X7_131 {E : hmG} {s : State} (hK : hmK E s) : hmMs RX7 131 yJ0_charAt_5068e cJ0_charAt_5068e 2 (some .char) 1 s := hm_ms hK 530 9 527 (by decide +kernel) (by decide +kernel) (by decide +kernel) (by decide) (by decide +kernel)
theorem pm_X7_135 {E : hmG} {s : State} (hK : hmK E s) : hmMs RX7 135 yX7_makeInto cX7_makeInto 7 (some .int) 3 s := hm_ms hK 549 1 546 (by decide +kernel) (by decide +kernel) (by decide +kernel) (by decide) (by decide +kernel)
theorem pm_X7_139 {E : hmG} {s : State} (hK : hmK E s) : hmMs RX7 139 yX7_isPlace cX7_isPlace 1 (some .boolean) 1 s := hm_ms hK 552 1 550 (by decide +kernel) (by decide +kernel) (by decide +kernel) (by decide) (by decide +kernel)
theorem pm_X7_152 {E : hmG} {s : State} (hK : hmK E s) : hmMs RX7 152 yX5_aroundAt cX5_aroundAt 3 (some (.object "InnerCaptures$Thing")) 1 s := hm_ms hK 571 19 568 (by decide +kernel) (by decide +kernel) (by decide +kernel) (by decide) (by decide +kernel)
theorem pm_X7_156 {E : hmG} {s : State} (hK : hmK E s) : hmMs RX7 156 yX5_levelOf cX5_levelOf 3 (some (.object "InnerCaptures$Level")) 1 s := hm_ms hK 556 19 553 (by decide +kernel) (by decide +kernel) (by decide +kernel) (by decide) (by decide +kernel)
theorem pm_X7_166 {E : hmG} {s : State} (hK : hmK E s) : hmMs RX7 166 yX7_findFromPlace cX7_findFromPlace 4 (some .int) 2 s := hm_ms hK 657 1 654 (by decide +kernel) (by decide +kernel) (by decide +kernel) (by decide) (by decide +kernel)
theorem pm_X7_170 {E : hmG} {s : State} (hK : hmK E s) : hmMs RX7 170 yX0_read cX0_read 1 (some .long) 0 s := hm_ms hK 696 2 693 (by decide +kernel) (by decide +kernel) (by decide +kernel) (by decide) (by decide +kernel)
theorem pm_X7_177 {E : hmG} {s : State} (hK : hmK E s) : hmMs RX7 177 yX0_write cX0_write 3 none 1 s := hm_ms hK 708 2 705 (by decide +kernel) (by decide +kernel) (by decide +kernel) (by decide) (by decide +kernel)
theorem pm_X7_181 {E : hmG} {s : State} (hK : hmK E s) : hmMs RX7 181 yX7_holdThat cX7_holdThat 8 (some .int) 3 s := hm_ms hK 716 1 713 (by decide +kernel) (by decide +kernel) (by decide +kernel) (by decide) (by decide +kernel)
theorem pm_X7_184 {E : hmG} {s : State} (hK : hmK E s) : hmMs RX7 184 yX1_isStatic cX1_isStatic 2 (some .boolean) 1 s := hm_ms hK 672 5 669 (by decide +kernel) (by decide +kernel) (by decide +kernel) (by decide) (by decide +kernel)
theorem pm_X7_190 {E : hmG} {s : State} (hK : hmK E s) : hmMs RX7 190 yX4_copyOfFirst cX4_copyOfFirst 3 (some (.array .long)) 1 s := hm_ms hK 599 6 726 (by decide +kernel) (by decide +kernel) (by decide +kernel) (by decide) (by decide +kernel)
theorem pm_X7_194 {E : hmG} {s : State} (hK : hmK E s) : hmMs RX7 194 yX2_init cX2_init 4 none 3 s := hm_ms hK 729 20 727 (by decide +kernel) (by decide +kernel) (by decide +kernel) (by decide) (by decide +kernel)
theorem pm_X7_197 {E : hmG} {s : State} (hK : hmK E s) : hmMs RX7 197 yX7_findFromLambda cX7_findFromLambda 6 (some .int) 2 s := hm_ms hK 751 1 748 (by decide +kernel) (by decide +kernel) (by decide +kernel) (by decide) (by decide +kernel)
theorem pm_X7_200 {E : hmG} {s : State} (hK : hmK E s) : hmMs RX7 200 yX7_heldPlaces cX7_heldPlaces 3 (some .int) 0 s := hm_ms hK 768 1 765 (by decide +kernel) (by decide +kernel) (by decide +kernel) (by decide) (by decide +kernel)
theorem pm_X7_203 {E : hmG} {s : State} (hK : hmK E s) : hmMs RX7 203 yX7_hasTopWith cX7_hasTopWith 4 (some .boolean) 1 s := hm_ms hK 94 1 91 (by decide +kernel) (by decide +kernel) (by decide +kernel) (by decide) (by decide +kernel)
theorem pm_X7_206 {E : hmG} {s : State} (hK : hmK E s) : hmMs RX7 206 yX7_isMember cX7_isMember 1 (some .boolean) 1 s := hm_ms hK 97 1 95 (by decide +kernel) (by decide +kernel) (by decide +kernel) (by decide) (by decide +kernel)
theorem pm_X7_209 {E : hmG} {s : State} (hK : hmK E s) : hmMs RX7 209 yX7_hasMemberWith cX7_hasMemberWith 5 (some .boolean) 2 s := hm_ms hK 101 1 98 (by decide +kernel) (by decide +kernel) (by decide +kernel) (by decide) (by decide +kernel)
theorem pm_X7_219 {E : hmG} {s : State} (hK : hmK E s) : hmMs RX7 219 yX7_standsInMethod cX7_standsInMethod 1 (some .boolean) 1 s := hm_ms hK 108 1 106 (by decide +kernel) (by decide +kernel) (by decide +kernel) (by decide) (by decide +kernel)
theorem pm_X7_225 {E : hmG} {s : State} (hK : hmK E s) : hmMs RX7 225 yX7_levelsFor cX7_levelsFor 6 (some (.array (.object "InnerCaptures$Level"))) 2 s := hm_ms hK 559 1 557 (by decide +kernel) (by decide +kernel) (by decide +kernel) (by decide) (by decide +kernel)
theorem pm_X7_229 {E : hmG} {s : State} (hK : hmK E s) : hmMs RX7 229 yX5_init cX5_init 3 none 2 s := hm_ms hK 623 19 621 (by decide +kernel) (by decide +kernel) (by decide +kernel) (by decide) (by decide +kernel)
theorem pm_X7_232 {E : hmG} {s : State} (hK : hmK E s) : hmMs RX7 232 yX7_levelCount cX7_levelCount 3 (some .int) 1 s := hm_ms hK 562 1 560 (by decide +kernel) (by decide +kernel) (by decide +kernel) (by decide) (by decide +kernel)
theorem pm_X7_236 {E : hmG} {s : State} (hK : hmK E s) : hmMs RX7 236 yX7_nearestOf cX7_nearestOf 6 (some (.object "InnerCaptures$Thing")) 3 s := hm_ms hK 567 1 565 (by decide +kernel) (by decide +kernel) (by decide +kernel) (by decide) (by decide +kernel)
theorem pm_X7_240 {E : hmG} {s : State} (hK : hmK E s) : hmMs RX7 240 yX3_init cX3_init 3 none 2 s := hm_ms hK 576 18 574 (by decide +kernel) (by decide +kernel) (by decide +kernel) (by decide) (by decide +kernel)
theorem pm_X7_243 {E : hmG} {s : State} (hK : hmK E s) : hmMs RX7 243 yX7_findFromType cX7_findFromType 9 (some .int) 3 s := hm_ms hK 661 1 658 (by decide +kernel) (by decide +kernel) (by decide +kernel) (by decide) (by decide +kernel)
theorem pm_X7_247 {E : hmG} {s : State} (hK : hmK E s) : hmMs RX7 247 yX7_lambdaAt cX7_lambdaAt 2 (some (.object "InnerCaptures$Lambda")) 1 s := hm_ms hK 755 1 752 (by decide +kernel) (by decide +kernel) (by decide +kernel) (by decide) (by decide +kernel)
theorem pm_X7_255 {E : hmG} {s : State} (hK : hmK E s) : hmMs RX7 255 yX4_latest cX4_latest 4 (some .int) 2 s := hm_ms hK 688 6 756 (by decide +kernel) (by decide +kernel) (by decide +kernel) (by decide) (by decide +kernel)
theorem pm_X7_262 {E : hmG} {s : State} (hK : hmK E s) : hmMs RX7 262 yX0_pointAt cX0_pointAt 4 none 3 s := hm_ms hK 680 2 677 (by decide +kernel) (by decide +kernel) (by decide +kernel) (by decide) (by decide +kernel)
theorem pm_X7_266 {E : hmG} {s : State} (hK : hmK E s) : hmMs RX7 266 yX7_ownerOfField cX7_ownerOfField 4 (some (.object "InnerCaptures$Type")) 2 s := hm_ms hK 664 1 662 (by decide +kernel) (by decide +kernel) (by decide +kernel) (by decide) (by decide +kernel)
theorem pm_X7_270 {E : hmG} {s : State} (hK : hmK E s) : hmMs RX7 270 yX7_findField cX7_findField 7 (some .int) 3 s := hm_ms hK 668 1 665 (by decide +kernel) (by decide +kernel) (by decide +kernel) (by decide) (by decide +kernel)
theorem pm_X7_273 {E : hmG} {s : State} (hK : hmK E s) : hmMs RX7 273 yX6_latestLocalAhead cX6_latestLocalAhead 2 (some .int) 1 s := hm_ms hK 684 4 681 (by decide +kernel) (by decide +kernel) (by decide +kernel) (by decide) (by decide +kernel)
theorem pm_X7_276 {E : hmG} {s : State} (hK : hmK E s) : hmMs RX7 276 yX7_findCopy cX7_findCopy 5 (some .int) 3 s := hm_ms hK 692 1 689 (by decide +kernel) (by decide +kernel) (by decide +kernel) (by decide) (by decide +kernel)
theorem pm_X7_39 {E : hmG} {s : State} (hK : hmK E s) : hmMn RX7 39 yX0_init "InnerCaptures" cX0_init 1 none 0 s := hm_mn hK 39 2 (by decide +kernel) (by decide +kernel) hK.2.2.2.2.2.1.1 (by decide) (by decide +kernel)
theorem pm_X7_47 {E : hmG} {s : State} (hK : hmK E s) : hmMs RX7 47 yX7_typeAt cX7_typeAt 2 (some (.object "InnerCaptures$Type")) 1 s := hm_ms hK 86 1 83 (by decide +kernel) (by decide +kernel) (by decide +kernel) (by decide) (by decide +kernel)
theorem pm_X7_51 {E : hmG} {s : State} (hK : hmK E s) : hmMs RX7 51 yX7_isLetterTaken cX7_isLetterTaken 6 (some .boolean) 3 s := hm_ms hK 90 1 87 (by decide +kernel) (by decide +kernel) (by decide +kernel) (by decide) (by decide +kernel)
theorem pm_X7_55 {E : hmG} {s : State} (hK : hmK E s) : hmMs RX7 55 yX7_twinNumber cX7_twinNumber 7 (some .int) 3 s := hm_ms hK 105 1 102 (by decide +kernel) (by decide +kernel) (by decide +kernel) (by decide) (by decide +kernel)
theorem pm_X7_59 {E : hmG} {s : State} (hK : hmK E s) : hmMs RX7 59 yX6_init cX6_init 7 none 5 s := hm_ms hK 112 4 110 (by decide +kernel) (by decide +kernel) (by decide +kernel) (by decide) (by decide +kernel)
theorem pm_X7_62 {E : hmG} {s : State} (hK : hmK E s) : hmMs RX7 62 yX7_isName cX7_isName 1 (some .boolean) 1 s := hm_ms hK 473 1 471 (by decide +kernel) (by decide +kernel) (by decide +kernel) (by decide) (by decide +kernel)
theorem pm_X7_75 {E : hmG} {s : State} (hK : hmK E s) : hmMs RX7 75 yX1_indexOf cX1_indexOf 3 (some .int) 1 s := hm_ms hK 477 5 474 (by decide +kernel) (by decide +kernel) (by decide +kernel) (by decide) (by decide +kernel)
theorem pm_X7_79 {E : hmG} {s : State} (hK : hmK E s) : hmMs RX7 79 yX1_add cX1_add 5 none 3 s := hm_ms hK 481 5 478 (by decide +kernel) (by decide +kernel) (by decide +kernel) (by decide) (by decide +kernel)
theorem pm_X7_90 {E : hmG} {s : State} (hK : hmK E s) : hmMs RX7 90 yX4_add cX4_add 4 none 2 s := hm_ms hK 489 6 486 (by decide +kernel) (by decide +kernel) (by decide +kernel) (by decide) (by decide +kernel)
theorem pm_X7_93 {E : hmG} {s : State} (hK : hmK E s) : hmMs RX7 93 yX4_has cX4_has 2 (some .boolean) 1 s := hm_ms hK 497 6 494 (by decide +kernel) (by decide +kernel) (by decide +kernel) (by decide) (by decide +kernel)
theorem pm_X7_96 {E : hmG} {s : State} (hK : hmK E s) : hmMs RX7 96 yX4_isAssigned cX4_isAssigned 2 (some .boolean) 1 s := hm_ms hK 501 6 498 (by decide +kernel) (by decide +kernel) (by decide +kernel) (by decide) (by decide +kernel)
theorem pm_X7_99 {E : hmG} {s : State} (hK : hmK E s) : hmMs RX7 99 yX4_set cX4_set 4 none 2 s := hm_ms hK 506 6 503 (by decide +kernel) (by decide +kernel) (by decide +kernel) (by decide) (by decide +kernel)
theorem pm_X8_102 {E : hmG} {s : State} (hK : hmK E s) : hmMs RX8 102 yX8_isTaken cX8_isTaken 6 (some .boolean) 3 s := hm_ms hK 889 3 886 (by decide +kernel) (by decide +kernel) (by decide +kernel) (by decide) (by decide +kernel)
theorem pm_X8_105 {E : hmG} {s : State} (hK : hmK E s) : hmMs RX8 105 yX8_isInMethod cX8_isInMethod 1 (some .boolean) 1 s := hm_ms hK 892 3 890 (by decide +kernel) (by decide +kernel) (by decide +kernel) (by decide) (by decide +kernel)
theorem pm_X8_108 {E : hmG} {s : State} (hK : hmK E s) : hmMs RX8 108 yX8_isName cX8_isName 1 (some .boolean) 1 s := hm_ms hK 899 3 897 (by decide +kernel) (by decide +kernel) (by decide +kernel) (by decide) (by decide +kernel)
theorem pm_X8_111 {E : hmG} {s : State} (hK : hmK E s) : hmMs RX8 111 yX8_fieldOf cX8_fieldOf 4 (some .int) 2 s := hm_ms hK 903 3 900 (by decide +kernel) (by decide +kernel) (by decide +kernel) (by decide) (by decide +kernel)
theorem pm_X8_118 {E : hmG} {s : State} (hK : hmK E s) : hmMs RX8 118 yX8_put cX8_put 2 none 1 s := hm_ms hK 927 3 924 (by decide +kernel) (by decide +kernel) (by decide +kernel) (by decide) (by decide +kernel)
theorem pm_X8_122 {E : hmG} {s : State} (hK : hmK E s) : hmMs RX8 122 yX8_isOf cX8_isOf 3 (some .boolean) 2 s := hm_ms hK 942 3 939 (by decide +kernel) (by decide +kernel) (by decide +kernel) (by decide) (by decide +kernel)
theorem pm_X8_126 {E : hmG} {s : State} (hK : hmK E s) : hmMs RX8 126 yX8_isPlace cX8_isPlace 1 (some .boolean) 1 s := hm_ms hK 934 3 932 (by decide +kernel) (by decide +kernel) (by decide +kernel) (by decide) (by decide +kernel)
theorem pm_X8_129 {E : hmG} {s : State} (hK : hmK E s) : hmMs RX8 129 yX8_isBound cX8_isBound 2 (some .boolean) 1 s := hm_ms hK 938 3 935 (by decide +kernel) (by decide +kernel) (by decide +kernel) (by decide) (by decide +kernel)
theorem pm_X8_138 {E : hmG} {s : State} (hK : hmK E s) : hmMs RX8 138 yX8_level cX8_level 6 none 3 s := hm_ms hK 946 3 943 (by decide +kernel) (by decide +kernel) (by decide +kernel) (by decide) (by decide +kernel)
theorem pm_X8_142 {E : hmG} {s : State} (hK : hmK E s) : hmMs RX8 142 yX8_found cX8_found 6 (some .int) 3 s := hm_ms hK 950 3 947 (by decide +kernel) (by decide +kernel) (by decide +kernel) (by decide) (by decide +kernel)
theorem pm_X8_152 {E : hmG} {s : State} (hK : hmK E s) : hmMs RX8 152 yX8_told cX8_told 2 (some .long) 1 s := hm_ms hK 974 3 971 (by decide +kernel) (by decide +kernel) (by decide +kernel) (by decide) (by decide +kernel)
theorem pm_X8_156 {E : hmG} {s : State} (hK : hmK E s) : hmMs RX8 156 yX8_ofField cX8_ofField 4 (some .long) 3 s := hm_ms hK 982 3 979 (by decide +kernel) (by decide +kernel) (by decide +kernel) (by decide) (by decide +kernel)
theorem pm_X8_160 {E : hmG} {s : State} (hK : hmK E s) : hmMs RX8 160 yX8_localOf cX8_localOf 6 (some .int) 3 s := hm_ms hK 986 3 983 (by decide +kernel) (by decide +kernel) (by decide +kernel) (by decide) (by decide +kernel)
theorem pm_X8_163 {E : hmG} {s : State} (hK : hmK E s) : hmMs RX8 163 yX8_ofLocal cX8_ofLocal 6 (some .long) 4 s := hm_ms hK 990 3 987 (by decide +kernel) (by decide +kernel) (by decide +kernel) (by decide) (by decide +kernel)
theorem pm_X8_167 {E : hmG} {s : State} (hK : hmK E s) : hmMs RX8 167 yX8_find cX8_find 9 (some .long) 4 s := hm_ms hK 978 3 975 (by decide +kernel) (by decide +kernel) (by decide +kernel) (by decide) (by decide +kernel)
theorem pm_X8_94 {E : hmG} {s : State} (hK : hmK E s) : hmMs RX8 94 yX8_in cX8_in 3 (some .boolean) 3 s := hm_ms hK 881 3 879 (by decide +kernel) (by decide +kernel) (by decide +kernel) (by decide) (by decide +kernel)
theorem pm_X8_98 {E : hmG} {s : State} (hK : hmK E s) : hmMs RX8 98 yX8_isType cX8_isType 2 (some .boolean) 1 s := hm_ms hK 885 3 882 (by decide +kernel) (by decide +kernel) (by decide +kernel) (by decide) (by decide +kernel)
theorem pn_J4_18 {E : hmG} {s : State} (hK : hmK E s) : hmCn RJ4 18 0 4 [.null, .int 0, .int 0, .int 0] s := hm_cn hK RJ0 TJ0 tyJ0 rfl 366 367 9 (by decide +kernel) (by decide +kernel) (by decide +kernel) tyJ0_ok (fun j hj => by rcases (show j = 0 ∨ j = 1 ∨ j = 2 ∨ j = 3 by omega) with rfl | rfl | rfl | rfl <;> rfl) in_J0
theorem pn_L_10 {E : hmG} {s : State} (hK : hmK E s) : hmCn RL 10 10 33 [.int 0, .null, .null, .null, .null, .null, .null, .null, .null, .null, .null, .null, .null, .null, .null, .null, .int 0, .null, .null, .null, .null, .null, .null, .int 0, .null, .null, .null, .null, .int 0, .null, .int 0, .int 0, .int 0] s := hm_cn hK RX8 TX8 tyX8 rfl 769 770 3 (by decide +kernel) (by decide +kernel) (by decide +kernel) tyX8_ok (fun j hj => by rcases (show j = 0 ∨ j = 1 ∨ j = 2 ∨ j = 3 ∨ j = 4 ∨ j = 5 ∨ j = 6 ∨ j = 7 ∨ j = 8 ∨ j = 9 ∨ j = 10 ∨ j = 11 ∨ j = 12 ∨ j = 13 ∨ j = 14 ∨ j = 15 ∨ j = 16 ∨ j = 17 ∨ j = 18 ∨ j = 19 ∨ j = 20 ∨ j = 21 ∨ j = 22 ∨ j = 23 ∨ j = 24 ∨ j = 25 ∨ j = 26 ∨ j = 27 ∨ j = 28 ∨ j = 29 ∨ j = 30 ∨ j = 31 ∨ j = 32 by omega) with rfl | rfl | rfl | rfl | rfl | rfl | rfl | rfl | rfl | rfl | rfl | rfl | rfl | rfl | rfl | rfl | rfl | rfl | rfl | rfl | rfl | rfl | rfl | rfl | rfl | rfl | rfl | rfl | rfl | rfl | rfl | rfl | rfl <;> rfl) in_X8
theorem pn_L_7 {E : hmG} {s : State} (hK : hmK E s) : hmCn RL 7 9 8 [.null, .int 0, .null, .int 0, .null, .int 0, .null, .int 0] s := hm_cn hK RX7 TX7 tyX7 rfl 21 22 1 (by decide +kernel) (by decide +kernel) (by decide +kernel) tyX7_ok (fun j hj => by rcases (show j = 0 ∨ j = 1 ∨ j = 2 ∨ j = 3 ∨ j = 4 ∨ j = 5 ∨ j = 6 ∨ j = 7 by omega) with rfl | rfl | rfl | rfl | rfl | rfl | rfl | rfl <;> rfl) in_X7
theorem pn_X6_18 {E : hmG} {s : State} (hK : hmK E s) : hmCn RX6 18 6 4 [.null, .null, .null, .int 0] s := hm_cn hK RX4 TX4 tyX4 rfl 138 139 6 (by decide +kernel) (by decide +kernel) (by decide +kernel) tyX4_ok (fun j hj => by rcases (show j = 0 ∨ j = 1 ∨ j = 2 ∨ j = 3 by omega) with rfl | rfl | rfl | rfl <;> rfl) in_X4
theorem pn_X6_67 {E : hmG} {s : State} (hK : hmK E s) : hmCn RX6 67 1 4 [.null, .int 0, .int 0, .int 0] s := hm_cn hK RJ4 TJ4 tyJ4 rfl 163 164 8 (by decide +kernel) (by decide +kernel) (by decide +kernel) tyJ4_ok (fun j hj => by rcases (show j = 0 ∨ j = 1 ∨ j = 2 ∨ j = 3 by omega) with rfl | rfl | rfl | rfl <;> rfl) in_J4
theorem pn_X6_9 {E : hmG} {s : State} (hK : hmK E s) : hmCn RX6 9 3 4 [.null, .null, .null, .int 0] s := hm_cn hK RX1 TX1 tyX1 rfl 114 115 5 (by decide +kernel) (by decide +kernel) (by decide +kernel) tyX1_ok (fun j hj => by rcases (show j = 0 ∨ j = 1 ∨ j = 2 ∨ j = 3 by omega) with rfl | rfl | rfl | rfl <;> rfl) in_X1
theorem pn_X7_161 {E : hmG} {s : State} (hK : hmK E s) : hmCn RX7 161 5 4 [.null, .null, .null, .null] s := hm_cn hK RX3 TX3 tyX3 rfl 563 573 18 (by decide +kernel) (by decide +kernel) (by decide +kernel) tyX3_ok (fun j hj => by rcases (show j = 0 ∨ j = 1 ∨ j = 2 ∨ j = 3 by omega) with rfl | rfl | rfl | rfl <;> rfl) in_X3
theorem pn_X7_19 {E : hmG} {s : State} (hK : hmK E s) : hmCn RX7 19 7 2 [.null, .null] s := hm_cn hK RX5 TX5 tyX5 rfl 31 620 19 (by decide +kernel) (by decide +kernel) (by decide +kernel) tyX5_ok (fun j hj => by rcases (show j = 0 ∨ j = 1 by omega) with rfl | rfl <;> rfl) in_X5
theorem pn_X7_28 {E : hmG} {s : State} (hK : hmK E s) : hmCn RX7 28 4 3 [.null, .null, .null] s := hm_cn hK RX2 TX2 tyX2 rfl 33 725 20 (by decide +kernel) (by decide +kernel) (by decide +kernel) tyX2_ok (fun j hj => by rcases (show j = 0 ∨ j = 1 ∨ j = 2 by omega) with rfl | rfl | rfl <;> rfl) in_X2
theorem pn_X7_37 {E : hmG} {s : State} (hK : hmK E s) : hmCn RX7 37 2 3 [.null, .int 0, .int 0] s := hm_cn hK RX0 TX0 tyX0 rfl 35 36 2 (by decide +kernel) (by decide +kernel) (by decide +kernel) tyX0_ok (fun j hj => by rcases (show j = 0 ∨ j = 1 ∨ j = 2 by omega) with rfl | rfl | rfl <;> rfl) in_X0
theorem pn_X7_9 {E : hmG} {s : State} (hK : hmK E s) : hmCn RX7 9 8 11 [.int 0, .int 0, .null, .int 0, .int 0, .int 0, .null, .null, .null, .int 0, .null] s := hm_cn hK RX6 TX6 tyX6 rfl 29 109 4 (by decide +kernel) (by decide +kernel) (by decide +kernel) tyX6_ok (fun j hj => by rcases (show j = 0 ∨ j = 1 ∨ j = 2 ∨ j = 3 ∨ j = 4 ∨ j = 5 ∨ j = 6 ∨ j = 7 ∨ j = 8 ∨ j = 9 ∨ j = 10 by omega) with rfl | rfl | rfl | rfl | rfl | rfl | rfl | rfl | rfl | rfl | rfl <;> rfl) in_X6
theorem ps_J0_checkIndex_df160 {E : hmG} {s : State} (hK : hmK E s) : ∀ A, (Cond.static yJ0_checkIndex_df160).before A s = true := hm_wd hK 332 (by decide +kernel) rfl
theorem ps_J1_canEncode_fc78d {E : hmG} {s : State} (hK : hmK E s) : ∀ A, (Cond.static yJ1_canEncode_fc78d).before A s = true := hm_wd hK 323 (by decide +kernel) rfl
theorem ps_J1_charAt_3b067 {E : hmG} {s : State} (hK : hmK E s) : ∀ A, (Cond.static yJ1_charAt_3b067).before A s = true := hm_wd hK 536 (by decide +kernel) rfl
theorem ps_J3_checkIndex_8e157 {E : hmG} {s : State} (hK : hmK E s) : ∀ A, (Cond.static yJ3_checkIndex_8e157).before A s = true := hm_wd hK 335 (by decide +kernel) rfl
theorem ps_J6_getChars_ba4f3 {E : hmG} {s : State} (hK : hmK E s) : ∀ A, (Cond.static yJ6_getChars_ba4f3).before A s = true := hm_wd hK 348 (by decide +kernel) rfl
theorem ps_J6_stringSize_0f7a4 {E : hmG} {s : State} (hK : hmK E s) : ∀ A, (Cond.static yJ6_stringSize_0f7a4).before A s = true := hm_wd hK 345 (by decide +kernel) rfl
theorem ps_J7_checkLength_df160 {E : hmG} {s : State} (hK : hmK E s) : ∀ A, (Cond.static yJ7_checkLength_df160).before A s = true := hm_wd hK 396 (by decide +kernel) rfl
theorem ps_J7_copyOfRangeByte_39247 {E : hmG} {s : State} (hK : hmK E s) : ∀ A, (Cond.static yJ7_copyOfRangeByte_39247).before A s = true := hm_wd hK 393 (by decide +kernel) rfl
theorem ps_J7_copyOfRange_39247 {E : hmG} {s : State} (hK : hmK E s) : ∀ A, (Cond.static yJ7_copyOfRange_39247).before A s = true := hm_wd hK 390 (by decide +kernel) rfl
theorem ps_J7_copyOf_9075b {E : hmG} {s : State} (hK : hmK E s) : ∀ A, (Cond.static yJ7_copyOf_9075b).before A s = true := hm_wd hK 226 (by decide +kernel) rfl
theorem ps_J7_copyOf_c38d5 {E : hmG} {s : State} (hK : hmK E s) : ∀ A, (Cond.static yJ7_copyOf_c38d5).before A s = true := hm_wd hK 584 (by decide +kernel) rfl
theorem ps_J8_newLength_cabcc {E : hmG} {s : State} (hK : hmK E s) : ∀ A, (Cond.static yJ8_newLength_cabcc).before A s = true := hm_wd hK 215 (by decide +kernel) rfl
theorem ps_J9_max_7cf53 {E : hmG} {s : State} (hK : hmK E s) : ∀ A, (Cond.static yJ9_max_7cf53).before A s = true := hm_wd hK 218 (by decide +kernel) rfl
theorem ps_J9_min_7cf53 {E : hmG} {s : State} (hK : hmK E s) : ∀ A, (Cond.static yJ9_min_7cf53).before A s = true := hm_wd hK 236 (by decide +kernel) rfl
theorem ps_X6_classNameOf {E : hmG} {s : State} (hK : hmK E s) : ∀ A, (Cond.static yX6_classNameOf).before A s = true := hm_wd hK 161 (by decide +kernel) rfl
theorem ps_X7_isMember {E : hmG} {s : State} (hK : hmK E s) : ∀ A, (Cond.static yX7_isMember).before A s = true := hm_wd hK 96 (by decide +kernel) rfl
theorem ps_X7_isName {E : hmG} {s : State} (hK : hmK E s) : ∀ A, (Cond.static yX7_isName).before A s = true := hm_wd hK 472 (by decide +kernel) rfl
theorem ps_X7_isPlace {E : hmG} {s : State} (hK : hmK E s) : ∀ A, (Cond.static yX7_isPlace).before A s = true := hm_wd hK 551 (by decide +kernel) rfl
theorem ps_X7_isSameOrAbove {E : hmG} {s : State} (hK : hmK E s) : ∀ A, (Cond.static yX7_isSameOrAbove).before A s = true := hm_wd hK 520 (by decide +kernel) rfl
theorem ps_X7_levelCount {E : hmG} {s : State} (hK : hmK E s) : ∀ A, (Cond.static yX7_levelCount).before A s = true := hm_wd hK 561 (by decide +kernel) rfl
theorem ps_X7_levelsFor {E : hmG} {s : State} (hK : hmK E s) : ∀ A, (Cond.static yX7_levelsFor).before A s = true := hm_wd hK 558 (by decide +kernel) rfl
theorem ps_X7_nearestOf {E : hmG} {s : State} (hK : hmK E s) : ∀ A, (Cond.static yX7_nearestOf).before A s = true := hm_wd hK 566 (by decide +kernel) rfl
theorem ps_X7_ownerOfField {E : hmG} {s : State} (hK : hmK E s) : ∀ A, (Cond.static yX7_ownerOfField).before A s = true := hm_wd hK 663 (by decide +kernel) rfl
theorem ps_X7_standsInMethod {E : hmG} {s : State} (hK : hmK E s) : ∀ A, (Cond.static yX7_standsInMethod).before A s = true := hm_wd hK 107 (by decide +kernel) rfl
theorem ps_X8_in {E : hmG} {s : State} (hK : hmK E s) : ∀ A, (Cond.static yX8_in).before A s = true := hm_wd hK 880 (by decide +kernel) rfl
theorem ps_X8_isInMethod {E : hmG} {s : State} (hK : hmK E s) : ∀ A, (Cond.static yX8_isInMethod).before A s = true := hm_wd hK 891 (by decide +kernel) rfl
theorem ps_X8_isName {E : hmG} {s : State} (hK : hmK E s) : ∀ A, (Cond.static yX8_isName).before A s = true := hm_wd hK 898 (by decide +kernel) rfl
theorem ps_X8_isPlace {E : hmG} {s : State} (hK : hmK E s) : ∀ A, (Cond.static yX8_isPlace).before A s = true := hm_wd hK 933 (by decide +kernel) rfl
