theorem in_J0 : ∀ w ∈ u_ws RJ0 TJ0 4, w ∈ lw_tbl ∧ goodWord w = true := by decide +kernel
theorem in_J4 : ∀ w ∈ u_ws RJ4 TJ4 4, w ∈ lw_tbl ∧ goodWord w = true := by decide +kernel
theorem in_X0 : ∀ w ∈ u_ws RX0 TX0 3, w ∈ lw_tbl ∧ goodWord w = true := by decide +kernel
theorem in_X1 : ∀ w ∈ u_ws RX1 TX1 4, w ∈ lw_tbl ∧ goodWord w = true := by decide +kernel
theorem in_X2 : ∀ w ∈ u_ws RX2 TX2 3, w ∈ lw_tbl ∧ goodWord w = true := by decide +kernel
theorem in_X3 : ∀ w ∈ u_ws RX3 TX3 4, w ∈ lw_tbl ∧ goodWord w = true := by decide +kernel
theorem in_X4 : ∀ w ∈ u_ws RX4 TX4 4, w ∈ lw_tbl ∧ goodWord w = true := by decide +kernel
theorem in_X5 : ∀ w ∈ u_ws RX5 TX5 2, w ∈ lw_tbl ∧ goodWord w = true := by decide +kernel
theorem in_X6 : ∀ w ∈ u_ws RX6 TX6 11, w ∈ lw_tbl ∧ goodWord w = true := by decide +kernel
theorem in_X7 : ∀ w ∈ u_ws RX7 TX7 8, w ∈ lw_tbl ∧ goodWord w = true := by decide +kernel
theorem in_X8 : ∀ w ∈ u_ws RX8 TX8 33, w ∈ lw_tbl ∧ goodWord w = true := by decide +kernel
theorem pf_X1_23_3 {E : hmG} {s : State} (hK : hmK E s) : hmFd RX1 23 3 3 .int false true s := hm_fd hK RX1 TX1 4 rfl (by decide) 124 (by decide +kernel) (by decide +kernel) rfl (fun h => rfl) in_X1
theorem pf_X1_9_3 {E : hmG} {s : State} (hK : hmK E s) : hmFd RX1 9 3 0 (.array .int) true true s := hm_fd hK RX1 TX1 4 rfl (by decide) 120 (by decide +kernel) (by decide +kernel) rfl (fun h => rfl) in_X1
theorem pf_X4_15_6 {E : hmG} {s : State} (hK : hmK E s) : hmFd RX4 15 6 1 (.array .long) true true s := hm_fd hK RX4 TX4 4 rfl (by decide) 145 (by decide +kernel) (by decide +kernel) rfl (fun h => rfl) in_X4
theorem pf_X4_19_6 {E : hmG} {s : State} (hK : hmK E s) : hmFd RX4 19 6 2 (.array .boolean) true true s := hm_fd hK RX4 TX4 4 rfl (by decide) 146 (by decide +kernel) (by decide +kernel) rfl (fun h => rfl) in_X4
theorem pf_X4_23_6 {E : hmG} {s : State} (hK : hmK E s) : hmFd RX4 23 6 3 .int false true s := hm_fd hK RX4 TX4 4 rfl (by decide) 147 (by decide +kernel) (by decide +kernel) rfl (fun h => rfl) in_X4
theorem pf_X5_13_7 {E : hmG} {s : State} (hK : hmK E s) : hmFd RX5 13 7 1 (.array (.object "InnerCaptures$Level")) true true s := hm_fd hK RX5 TX5 2 rfl (by decide) 627 (by decide +kernel) (by decide +kernel) rfl (fun h => rfl) in_X5
theorem pf_X5_17_5 {E : hmG} {s : State} (hK : hmK E s) : hmFd RX5 17 5 0 (.object "InnerCaptures$Type") true false s := hm_fd hK RX3 TX3 4 rfl (by decide) 604 (by decide +kernel) (by decide +kernel) rfl (fun h => by cases h) in_X3
theorem pf_X5_26_5 {E : hmG} {s : State} (hK : hmK E s) : hmFd RX5 26 5 1 (.object "InnerCaptures$Thing") true false s := hm_fd hK RX3 TX3 4 rfl (by decide) 606 (by decide +kernel) (by decide +kernel) rfl (fun h => by cases h) in_X3
theorem pf_X7_11_9 {E : hmG} {s : State} (hK : hmK E s) : hmFd RX7 11 9 0 (.array (.object "InnerCaptures$Type")) true true s := hm_fd hK RX7 TX7 8 rfl (by decide) 54 (by decide +kernel) (by decide +kernel) rfl (fun h => rfl) in_X7
theorem pf_X7_15_9 {E : hmG} {s : State} (hK : hmK E s) : hmFd RX7 15 9 1 .int false true s := hm_fd hK RX7 TX7 8 rfl (by decide) 55 (by decide +kernel) (by decide +kernel) rfl (fun h => rfl) in_X7
theorem pf_X8_115_10 {E : hmG} {s : State} (hK : hmK E s) : hmFd RX8 115 10 30 .int false true s := hm_fd hK RX8 TX8 33 rfl (by decide) 801 (by decide +kernel) (by decide +kernel) rfl (fun h => rfl) in_X8
theorem pf_X8_132_10 {E : hmG} {s : State} (hK : hmK E s) : hmFd RX8 132 10 28 .int false true s := hm_fd hK RX8 TX8 33 rfl (by decide) 799 (by decide +kernel) (by decide +kernel) rfl (fun h => rfl) in_X8
theorem pf_X8_135_10 {E : hmG} {s : State} (hK : hmK E s) : hmFd RX8 135 10 16 .int false true s := hm_fd hK RX8 TX8 33 rfl (by decide) 787 (by decide +kernel) (by decide +kernel) rfl (fun h => rfl) in_X8
theorem pf_X8_13_10 {E : hmG} {s : State} (hK : hmK E s) : hmFd RX8 13 10 2 (.array .int) true true s := hm_fd hK RX8 TX8 33 rfl (by decide) 773 (by decide +kernel) (by decide +kernel) rfl (fun h => rfl) in_X8
theorem pf_X8_146_10 {E : hmG} {s : State} (hK : hmK E s) : hmFd RX8 146 10 31 .int false true s := hm_fd hK RX8 TX8 33 rfl (by decide) 802 (by decide +kernel) (by decide +kernel) rfl (fun h => rfl) in_X8
theorem pf_X8_149_10 {E : hmG} {s : State} (hK : hmK E s) : hmFd RX8 149 10 32 .int false true s := hm_fd hK RX8 TX8 33 rfl (by decide) 803 (by decide +kernel) (by decide +kernel) rfl (fun h => rfl) in_X8
theorem pf_X8_16_10 {E : hmG} {s : State} (hK : hmK E s) : hmFd RX8 16 10 3 (.array .int) true true s := hm_fd hK RX8 TX8 33 rfl (by decide) 774 (by decide +kernel) (by decide +kernel) rfl (fun h => rfl) in_X8
theorem pf_X8_170_10 {E : hmG} {s : State} (hK : hmK E s) : hmFd RX8 170 10 23 .int false true s := hm_fd hK RX8 TX8 33 rfl (by decide) 794 (by decide +kernel) (by decide +kernel) rfl (fun h => rfl) in_X8
theorem pf_X8_19_10 {E : hmG} {s : State} (hK : hmK E s) : hmFd RX8 19 10 4 (.array .int) true true s := hm_fd hK RX8 TX8 33 rfl (by decide) 775 (by decide +kernel) (by decide +kernel) rfl (fun h => rfl) in_X8
theorem pf_X8_22_10 {E : hmG} {s : State} (hK : hmK E s) : hmFd RX8 22 10 5 (.array .int) true true s := hm_fd hK RX8 TX8 33 rfl (by decide) 776 (by decide +kernel) (by decide +kernel) rfl (fun h => rfl) in_X8
theorem pf_X8_25_10 {E : hmG} {s : State} (hK : hmK E s) : hmFd RX8 25 10 6 (.array .int) true true s := hm_fd hK RX8 TX8 33 rfl (by decide) 777 (by decide +kernel) (by decide +kernel) rfl (fun h => rfl) in_X8
theorem pf_X8_28_10 {E : hmG} {s : State} (hK : hmK E s) : hmFd RX8 28 10 7 (.array .int) true true s := hm_fd hK RX8 TX8 33 rfl (by decide) 778 (by decide +kernel) (by decide +kernel) rfl (fun h => rfl) in_X8
theorem pf_X8_31_10 {E : hmG} {s : State} (hK : hmK E s) : hmFd RX8 31 10 8 (.array .int) true true s := hm_fd hK RX8 TX8 33 rfl (by decide) 779 (by decide +kernel) (by decide +kernel) rfl (fun h => rfl) in_X8
theorem pf_X8_34_10 {E : hmG} {s : State} (hK : hmK E s) : hmFd RX8 34 10 9 (.array .long) true true s := hm_fd hK RX8 TX8 33 rfl (by decide) 780 (by decide +kernel) (by decide +kernel) rfl (fun h => rfl) in_X8
theorem pf_X8_38_10 {E : hmG} {s : State} (hK : hmK E s) : hmFd RX8 38 10 10 (.array .boolean) true true s := hm_fd hK RX8 TX8 33 rfl (by decide) 781 (by decide +kernel) (by decide +kernel) rfl (fun h => rfl) in_X8
theorem pf_X8_42_10 {E : hmG} {s : State} (hK : hmK E s) : hmFd RX8 42 10 11 (.array .boolean) true true s := hm_fd hK RX8 TX8 33 rfl (by decide) 782 (by decide +kernel) (by decide +kernel) rfl (fun h => rfl) in_X8
theorem pf_X8_45_10 {E : hmG} {s : State} (hK : hmK E s) : hmFd RX8 45 10 12 (.array .int) true true s := hm_fd hK RX8 TX8 33 rfl (by decide) 783 (by decide +kernel) (by decide +kernel) rfl (fun h => rfl) in_X8
theorem pf_X8_48_10 {E : hmG} {s : State} (hK : hmK E s) : hmFd RX8 48 10 13 (.array .int) true true s := hm_fd hK RX8 TX8 33 rfl (by decide) 784 (by decide +kernel) (by decide +kernel) rfl (fun h => rfl) in_X8
theorem pf_X8_51_10 {E : hmG} {s : State} (hK : hmK E s) : hmFd RX8 51 10 14 (.array .long) true true s := hm_fd hK RX8 TX8 33 rfl (by decide) 785 (by decide +kernel) (by decide +kernel) rfl (fun h => rfl) in_X8
theorem pf_X8_54_10 {E : hmG} {s : State} (hK : hmK E s) : hmFd RX8 54 10 15 (.array .boolean) true true s := hm_fd hK RX8 TX8 33 rfl (by decide) 786 (by decide +kernel) (by decide +kernel) rfl (fun h => rfl) in_X8
theorem pf_X8_57_10 {E : hmG} {s : State} (hK : hmK E s) : hmFd RX8 57 10 17 (.array .int) true true s := hm_fd hK RX8 TX8 33 rfl (by decide) 788 (by decide +kernel) (by decide +kernel) rfl (fun h => rfl) in_X8
theorem pf_X8_60_10 {E : hmG} {s : State} (hK : hmK E s) : hmFd RX8 60 10 18 (.array .int) true true s := hm_fd hK RX8 TX8 33 rfl (by decide) 789 (by decide +kernel) (by decide +kernel) rfl (fun h => rfl) in_X8
theorem pf_X8_63_10 {E : hmG} {s : State} (hK : hmK E s) : hmFd RX8 63 10 19 (.array .int) true true s := hm_fd hK RX8 TX8 33 rfl (by decide) 790 (by decide +kernel) (by decide +kernel) rfl (fun h => rfl) in_X8
theorem pf_X8_66_10 {E : hmG} {s : State} (hK : hmK E s) : hmFd RX8 66 10 20 (.array .long) true true s := hm_fd hK RX8 TX8 33 rfl (by decide) 791 (by decide +kernel) (by decide +kernel) rfl (fun h => rfl) in_X8
theorem pf_X8_69_10 {E : hmG} {s : State} (hK : hmK E s) : hmFd RX8 69 10 21 (.array .long) true true s := hm_fd hK RX8 TX8 33 rfl (by decide) 792 (by decide +kernel) (by decide +kernel) rfl (fun h => rfl) in_X8
theorem pf_X8_72_10 {E : hmG} {s : State} (hK : hmK E s) : hmFd RX8 72 10 22 (.array .int) true true s := hm_fd hK RX8 TX8 33 rfl (by decide) 793 (by decide +kernel) (by decide +kernel) rfl (fun h => rfl) in_X8
theorem pf_X8_75_10 {E : hmG} {s : State} (hK : hmK E s) : hmFd RX8 75 10 24 (.array .int) true true s := hm_fd hK RX8 TX8 33 rfl (by decide) 795 (by decide +kernel) (by decide +kernel) rfl (fun h => rfl) in_X8
theorem pf_X8_78_10 {E : hmG} {s : State} (hK : hmK E s) : hmFd RX8 78 10 25 (.array .int) true true s := hm_fd hK RX8 TX8 33 rfl (by decide) 796 (by decide +kernel) (by decide +kernel) rfl (fun h => rfl) in_X8
theorem pf_X8_7_10 {E : hmG} {s : State} (hK : hmK E s) : hmFd RX8 7 10 1 (.array .int) true true s := hm_fd hK RX8 TX8 33 rfl (by decide) 772 (by decide +kernel) (by decide +kernel) rfl (fun h => rfl) in_X8
theorem pf_X8_81_10 {E : hmG} {s : State} (hK : hmK E s) : hmFd RX8 81 10 26 (.array .int) true true s := hm_fd hK RX8 TX8 33 rfl (by decide) 797 (by decide +kernel) (by decide +kernel) rfl (fun h => rfl) in_X8
theorem pf_X8_84_10 {E : hmG} {s : State} (hK : hmK E s) : hmFd RX8 84 10 27 (.array .long) true true s := hm_fd hK RX8 TX8 33 rfl (by decide) 798 (by decide +kernel) (by decide +kernel) rfl (fun h => rfl) in_X8
theorem pf_X8_87_10 {E : hmG} {s : State} (hK : hmK E s) : hmFd RX8 87 10 29 (.array .int) true true s := hm_fd hK RX8 TX8 33 rfl (by decide) 800 (by decide +kernel) (by decide +kernel) rfl (fun h => rfl) in_X8
theorem pf_X8_90_10 {E : hmG} {s : State} (hK : hmK E s) : hmFd RX8 90 10 0 .int false true s := hm_fd hK RX8 TX8 33 rfl (by decide) 771 (by decide +kernel) (by decide +kernel) rfl (fun h => rfl) in_X8
theorem pi_X4_has {E : hmG} {s : State} (hK : hmK E s) : ∀ A, (Cond.instanceMethod yX4_has).before A s = true := hm_wd hK 495 (by decide +kernel) rfl
theorem pi_X5_levelOf {E : hmG} {s : State} (hK : hmK E s) : ∀ A, (Cond.instanceMethod yX5_levelOf).before A s = true := hm_wd hK 554 (by decide +kernel) rfl
theorem pi_X8_fieldOf {E : hmG} {s : State} (hK : hmK E s) : ∀ A, (Cond.instanceMethod yX8_fieldOf).before A s = true := hm_wd hK 898 (by decide +kernel) rfl
theorem pi_X8_find {E : hmG} {s : State} (hK : hmK E s) : ∀ A, (Cond.instanceMethod yX8_find).before A s = true := hm_wd hK 973 (by decide +kernel) rfl
theorem pi_X8_found {E : hmG} {s : State} (hK : hmK E s) : ∀ A, (Cond.instanceMethod yX8_found).before A s = true := hm_wd hK 945 (by decide +kernel) rfl
theorem pi_X8_isBound {E : hmG} {s : State} (hK : hmK E s) : ∀ A, (Cond.instanceMethod yX8_isBound).before A s = true := hm_wd hK 933 (by decide +kernel) rfl
theorem pi_X8_isOf {E : hmG} {s : State} (hK : hmK E s) : ∀ A, (Cond.instanceMethod yX8_isOf).before A s = true := hm_wd hK 937 (by decide +kernel) rfl
theorem pi_X8_isTaken {E : hmG} {s : State} (hK : hmK E s) : ∀ A, (Cond.instanceMethod yX8_isTaken).before A s = true := hm_wd hK 884 (by decide +kernel) rfl
theorem pi_X8_isType {E : hmG} {s : State} (hK : hmK E s) : ∀ A, (Cond.instanceMethod yX8_isType).before A s = true := hm_wd hK 880 (by decide +kernel) rfl
theorem pi_X8_level {E : hmG} {s : State} (hK : hmK E s) : ∀ A, (Cond.instanceMethod yX8_level).before A s = true := hm_wd hK 941 (by decide +kernel) rfl
theorem pi_X8_localOf {E : hmG} {s : State} (hK : hmK E s) : ∀ A, (Cond.instanceMethod yX8_localOf).before A s = true := hm_wd hK 981 (by decide +kernel) rfl
theorem pi_X8_ofField {E : hmG} {s : State} (hK : hmK E s) : ∀ A, (Cond.instanceMethod yX8_ofField).before A s = true := hm_wd hK 977 (by decide +kernel) rfl
theorem pi_X8_ofLocal {E : hmG} {s : State} (hK : hmK E s) : ∀ A, (Cond.instanceMethod yX8_ofLocal).before A s = true := hm_wd hK 985 (by decide +kernel) rfl
theorem pi_X8_put {E : hmG} {s : State} (hK : hmK E s) : ∀ A, (Cond.instanceMethod yX8_put).before A s = true := hm_wd hK 922 (by decide +kernel) rfl
theorem pi_X8_told {E : hmG} {s : State} (hK : hmK E s) : ∀ A, (Cond.instanceMethod yX8_told).before A s = true := hm_wd hK 969 (by decide +kernel) rfl
theorem pl_X4_X4_has {E : hmG} {s : State} (hK : hmK E s) : ∀ A, (Cond.selects RX4 yX4_has yX4_has).before A s = true := hm_wd hK 496 (by decide +kernel) rfl
theorem pl_X5_X5_levelOf {E : hmG} {s : State} (hK : hmK E s) : ∀ A, (Cond.selects RX5 yX5_levelOf yX5_levelOf).before A s = true := hm_wd hK 555 (by decide +kernel) rfl
theorem pl_X8_X8_fieldOf {E : hmG} {s : State} (hK : hmK E s) : ∀ A, (Cond.selects RX8 yX8_fieldOf yX8_fieldOf).before A s = true := hm_wp hK 17 (by decide +kernel) rfl
theorem pl_X8_X8_find {E : hmG} {s : State} (hK : hmK E s) : ∀ A, (Cond.selects RX8 yX8_find yX8_find).before A s = true := hm_wp hK 24 (by decide +kernel) rfl
theorem pl_X8_X8_found {E : hmG} {s : State} (hK : hmK E s) : ∀ A, (Cond.selects RX8 yX8_found yX8_found).before A s = true := hm_wp hK 22 (by decide +kernel) rfl
theorem pl_X8_X8_isBound {E : hmG} {s : State} (hK : hmK E s) : ∀ A, (Cond.selects RX8 yX8_isBound yX8_isBound).before A s = true := hm_wp hK 19 (by decide +kernel) rfl
theorem pl_X8_X8_isOf {E : hmG} {s : State} (hK : hmK E s) : ∀ A, (Cond.selects RX8 yX8_isOf yX8_isOf).before A s = true := hm_wp hK 20 (by decide +kernel) rfl
theorem pl_X8_X8_isTaken {E : hmG} {s : State} (hK : hmK E s) : ∀ A, (Cond.selects RX8 yX8_isTaken yX8_isTaken).before A s = true := hm_wp hK 16 (by decide +kernel) rfl
theorem pl_X8_X8_isType {E : hmG} {s : State} (hK : hmK E s) : ∀ A, (Cond.selects RX8 yX8_isType yX8_isType).before A s = true := hm_wp hK 15 (by decide +kernel) rfl
theorem pl_X8_X8_level {E : hmG} {s : State} (hK : hmK E s) : ∀ A, (Cond.selects RX8 yX8_level yX8_level).before A s = true := hm_wp hK 21 (by decide +kernel) rfl
theorem pl_X8_X8_localOf {E : hmG} {s : State} (hK : hmK E s) : ∀ A, (Cond.selects RX8 yX8_localOf yX8_localOf).before A s = true := hm_wp hK 26 (by decide +kernel) rfl
theorem pl_X8_X8_ofField {E : hmG} {s : State} (hK : hmK E s) : ∀ A, (Cond.selects RX8 yX8_ofField yX8_ofField).before A s = true := hm_wp hK 25 (by decide +kernel) rfl
theorem pl_X8_X8_ofLocal {E : hmG} {s : State} (hK : hmK E s) : ∀ A, (Cond.selects RX8 yX8_ofLocal yX8_ofLocal).before A s = true := hm_wp hK 27 (by decide +kernel) rfl
theorem pl_X8_X8_put {E : hmG} {s : State} (hK : hmK E s) : ∀ A, (Cond.selects RX8 yX8_put yX8_put).before A s = true := hm_wp hK 18 (by decide +kernel) rfl
theorem pl_X8_X8_told {E : hmG} {s : State} (hK : hmK E s) : ∀ A, (Cond.selects RX8 yX8_told yX8_told).before A s = true := hm_wp hK 23 (by decide +kernel) rfl
theorem pm_X4_27 {E : hmG} {s : State} (hK : hmK E s) : hmMs RX4 27 yX4_has cX4_has 2 (some .boolean) 1 s := hm_ms hK 497 6 502 (by decide +kernel) (by decide +kernel) (by decide +kernel) (by decide) (by decide +kernel)
theorem pm_X5_22 {E : hmG} {s : State} (hK : hmK E s) : hmMs RX5 22 yX5_levelOf cX5_levelOf 3 (some (.object "InnerCaptures$Level")) 1 s := hm_ms hK 556 19 572 (by decide +kernel) (by decide +kernel) (by decide +kernel) (by decide) (by decide +kernel)
theorem pm_X8_102 {E : hmG} {s : State} (hK : hmK E s) : hmMs RX8 102 yX8_isTaken cX8_isTaken 6 (some .boolean) 3 s := hm_ms hK 885 3 882 (by decide +kernel) (by decide +kernel) (by decide +kernel) (by decide) (by decide +kernel)
theorem pm_X8_105 {E : hmG} {s : State} (hK : hmK E s) : hmMs RX8 105 yX8_isInMethod cX8_isInMethod 1 (some .boolean) 1 s := hm_ms hK 888 3 886 (by decide +kernel) (by decide +kernel) (by decide +kernel) (by decide) (by decide +kernel)
theorem pm_X8_108 {E : hmG} {s : State} (hK : hmK E s) : hmMs RX8 108 yX8_isName cX8_isName 1 (some .boolean) 1 s := hm_ms hK 895 3 893 (by decide +kernel) (by decide +kernel) (by decide +kernel) (by decide) (by decide +kernel)
theorem pm_X8_111 {E : hmG} {s : State} (hK : hmK E s) : hmMs RX8 111 yX8_fieldOf cX8_fieldOf 4 (some .int) 2 s := hm_ms hK 899 3 896 (by decide +kernel) (by decide +kernel) (by decide +kernel) (by decide) (by decide +kernel)
theorem pm_X8_118 {E : hmG} {s : State} (hK : hmK E s) : hmMs RX8 118 yX8_put cX8_put 2 none 1 s := hm_ms hK 923 3 920 (by decide +kernel) (by decide +kernel) (by decide +kernel) (by decide) (by decide +kernel)
theorem pm_X8_122 {E : hmG} {s : State} (hK : hmK E s) : hmMs RX8 122 yX8_isOf cX8_isOf 3 (some .boolean) 2 s := hm_ms hK 938 3 935 (by decide +kernel) (by decide +kernel) (by decide +kernel) (by decide) (by decide +kernel)
theorem pm_X8_126 {E : hmG} {s : State} (hK : hmK E s) : hmMs RX8 126 yX8_isPlace cX8_isPlace 1 (some .boolean) 1 s := hm_ms hK 930 3 928 (by decide +kernel) (by decide +kernel) (by decide +kernel) (by decide) (by decide +kernel)
theorem pm_X8_129 {E : hmG} {s : State} (hK : hmK E s) : hmMs RX8 129 yX8_isBound cX8_isBound 2 (some .boolean) 1 s := hm_ms hK 934 3 931 (by decide +kernel) (by decide +kernel) (by decide +kernel) (by decide) (by decide +kernel)
theorem pm_X8_138 {E : hmG} {s : State} (hK : hmK E s) : hmMs RX8 138 yX8_level cX8_level 6 none 3 s := hm_ms hK 942 3 939 (by decide +kernel) (by decide +kernel) (by decide +kernel) (by decide) (by decide +kernel)
theorem pm_X8_142 {E : hmG} {s : State} (hK : hmK E s) : hmMs RX8 142 yX8_found cX8_found 6 (some .int) 3 s := hm_ms hK 946 3 943 (by decide +kernel) (by decide +kernel) (by decide +kernel) (by decide) (by decide +kernel)
theorem pm_X8_152 {E : hmG} {s : State} (hK : hmK E s) : hmMs RX8 152 yX8_told cX8_told 2 (some .long) 1 s := hm_ms hK 970 3 967 (by decide +kernel) (by decide +kernel) (by decide +kernel) (by decide) (by decide +kernel)
theorem pm_X8_156 {E : hmG} {s : State} (hK : hmK E s) : hmMs RX8 156 yX8_ofField cX8_ofField 4 (some .long) 3 s := hm_ms hK 978 3 975 (by decide +kernel) (by decide +kernel) (by decide +kernel) (by decide) (by decide +kernel)
theorem pm_X8_160 {E : hmG} {s : State} (hK : hmK E s) : hmMs RX8 160 yX8_localOf cX8_localOf 6 (some .int) 3 s := hm_ms hK 982 3 979 (by decide +kernel) (by decide +kernel) (by decide +kernel) (by decide) (by decide +kernel)
theorem pm_X8_163 {E : hmG} {s : State} (hK : hmK E s) : hmMs RX8 163 yX8_ofLocal cX8_ofLocal 6 (some .long) 4 s := hm_ms hK 986 3 983 (by decide +kernel) (by decide +kernel) (by decide +kernel) (by decide) (by decide +kernel)
theorem pm_X8_167 {E : hmG} {s : State} (hK : hmK E s) : hmMs RX8 167 yX8_find cX8_find 9 (some .long) 4 s := hm_ms hK 974 3 971 (by decide +kernel) (by decide +kernel) (by decide +kernel) (by decide) (by decide +kernel)
theorem pm_X8_94 {E : hmG} {s : State} (hK : hmK E s) : hmMs RX8 94 yX8_in cX8_in 3 (some .boolean) 3 s := hm_ms hK 877 3 875 (by decide +kernel) (by decide +kernel) (by decide +kernel) (by decide) (by decide +kernel)
theorem pm_X8_98 {E : hmG} {s : State} (hK : hmK E s) : hmMs RX8 98 yX8_isType cX8_isType 2 (some .boolean) 1 s := hm_ms hK 881 3 878 (by decide +kernel) (by decide +kernel) (by decide +kernel) (by decide) (by decide +kernel)
theorem ps_X8_in {E : hmG} {s : State} (hK : hmK E s) : ∀ A, (Cond.static yX8_in).before A s = true := hm_wd hK 876 (by decide +kernel) rfl
theorem ps_X8_isInMethod {E : hmG} {s : State} (hK : hmK E s) : ∀ A, (Cond.static yX8_isInMethod).before A s = true := hm_wd hK 887 (by decide +kernel) rfl
theorem ps_X8_isName {E : hmG} {s : State} (hK : hmK E s) : ∀ A, (Cond.static yX8_isName).before A s = true := hm_wd hK 894 (by decide +kernel) rfl
theorem ps_X8_isPlace {E : hmG} {s : State} (hK : hmK E s) : ∀ A, (Cond.static yX8_isPlace).before A s = true := hm_wd hK 929 (by decide +kernel) rfl
