theorem gw_list (ws : List Cond) (ps : List Nat) (hp : ws = ps.filterMap (fun i => tables_1[i]?)) (h : ws.all goodWord = true) : ∀ w ∈ ws, w ∈ gW := by
  intro w hw
  have h1 := List.all_eq_true.mp h w hw
  rw [hp] at hw
  obtain ⟨i, -, hi⟩ := List.mem_filterMap.mp hw
  exact gw_t i hi h1
theorem inwX0 : ∀ w ∈ u_ws RX0 TX0 5, w ∈ gW := gw_list _ [113, 115, 117, 119, 121] (by decide +kernel) (by decide +kernel)
theorem inwX1 : ∀ w ∈ u_ws RX1 TX1 7, w ∈ gW := gw_list _ [86, 88, 90, 92, 94, 96, 98] (by decide +kernel) (by decide +kernel)
theorem inwX2 : ∀ w ∈ u_ws RX2 TX2 5, w ∈ gW := gw_list _ [37, 39, 41, 43, 45] (by decide +kernel) (by decide +kernel)
theorem inwX3 : ∀ w ∈ u_ws RX3 TX3 4, w ∈ gW := gw_list _ [138, 140, 142, 144] (by decide +kernel) (by decide +kernel)
theorem inwX4 : ∀ w ∈ u_ws RX4 TX4 3, w ∈ gW := gw_list _ [64, 66, 68] (by decide +kernel) (by decide +kernel)
theorem inwX5 : ∀ w ∈ u_ws RX5 TX5 7, w ∈ gW := gw_list _ [154, 156, 158, 160, 162, 164, 166] (by decide +kernel) (by decide +kernel)
theorem inwX6 : ∀ w ∈ u_ws RX6 TX6 27, w ∈ gW := gw_list _ [601, 603, 605, 607, 609, 611, 613, 615, 617, 619, 621, 623, 625, 627, 629, 631, 633, 635, 637, 639, 641, 643, 645, 647, 649, 651, 653] (by decide +kernel) (by decide +kernel)
theorem fl_X2_9 : FL RX2 9 2 0 true (.array .int) := ⟨RX2, TX2, 5, tyX2, rfl, by decide, rfl, inwX2, tyX2_ok, nmX2, Or.inl (gw_t 24 (by decide +kernel) rfl), rfl, rfl⟩
theorem fl_X2_15 : FL RX2 15 2 1 true (.array .int) := ⟨RX2, TX2, 5, tyX2, rfl, by decide, rfl, inwX2, tyX2_ok, nmX2, Or.inl (gw_t 27 (by decide +kernel) rfl), rfl, rfl⟩
theorem fl_X2_18 : FL RX2 18 2 2 false .int := ⟨RX2, TX2, 5, tyX2, rfl, by decide, rfl, inwX2, tyX2_ok, nmX2, Or.inl (gw_t 30 (by decide +kernel) rfl), rfl, rfl⟩
theorem fl_X2_22 : FL RX2 22 2 3 false .int := ⟨RX2, TX2, 5, tyX2, rfl, by decide, rfl, inwX2, tyX2_ok, nmX2, Or.inl (gw_t 32 (by decide +kernel) rfl), rfl, rfl⟩
theorem fl_X2_25 : FL RX2 25 2 4 false .boolean := ⟨RX2, TX2, 5, tyX2, rfl, by decide, rfl, inwX2, tyX2_ok, nmX2, Or.inl (gw_t 35 (by decide +kernel) rfl), rfl, rfl⟩
theorem fl_X4_9 : FL RX4 9 4 0 true (.array .int) := ⟨RX4, TX4, 3, tyX4, rfl, by decide, rfl, inwX4, tyX4_ok, nmX4, Or.inl (gw_t 55 (by decide +kernel) rfl), rfl, rfl⟩
theorem fl_X4_15 : FL RX4 15 4 1 true (.array .int) := ⟨RX4, TX4, 3, tyX4, rfl, by decide, rfl, inwX4, tyX4_ok, nmX4, Or.inl (gw_t 58 (by decide +kernel) rfl), rfl, rfl⟩
theorem fl_X4_18 : FL RX4 18 4 2 false .int := ⟨RX4, TX4, 3, tyX4, rfl, by decide, rfl, inwX4, tyX4_ok, nmX4, Or.inl (gw_t 61 (by decide +kernel) rfl), rfl, rfl⟩
theorem fl_X1_29 : FL RX1 29 1 0 true (.object "MarbleVotes$Hill") := ⟨RX1, TX1, 7, tyX1, rfl, by decide, rfl, inwX1, tyX1_ok, nmX1, Or.inl (gw_t 79 (by decide +kernel) rfl), rfl, rfl⟩
theorem fl_X1_33 : FL RX1 33 1 1 true (.object "MarbleVotes$Votes") := ⟨RX1, TX1, 7, tyX1, rfl, by decide, rfl, inwX1, tyX1_ok, nmX1, Or.inl (gw_t 80 (by decide +kernel) rfl), rfl, rfl⟩
theorem fl_X1_11 : FL RX1 11 1 2 true (.array (.array .int)) := ⟨RX1, TX1, 7, tyX1, rfl, by decide, rfl, inwX1, tyX1_ok, nmX1, Or.inl (gw_t 81 (by decide +kernel) rfl), rfl, rfl⟩
theorem fl_X1_16 : FL RX1 16 1 3 true (.array (.array .int)) := ⟨RX1, TX1, 7, tyX1, rfl, by decide, rfl, inwX1, tyX1_ok, nmX1, Or.inl (gw_t 82 (by decide +kernel) rfl), rfl, rfl⟩
theorem fl_X1_19 : FL RX1 19 1 4 true (.array .int) := ⟨RX1, TX1, 7, tyX1, rfl, by decide, rfl, inwX1, tyX1_ok, nmX1, Or.inl (gw_t 83 (by decide +kernel) rfl), rfl, rfl⟩
theorem fl_X1_23 : FL RX1 23 1 5 true (.array .int) := ⟨RX1, TX1, 7, tyX1, rfl, by decide, rfl, inwX1, tyX1_ok, nmX1, Or.inl (gw_t 84 (by decide +kernel) rfl), rfl, rfl⟩
theorem fl_X1_26 : FL RX1 26 1 6 true (.array .int) := ⟨RX1, TX1, 7, tyX1, rfl, by decide, rfl, inwX1, tyX1_ok, nmX1, Or.inl (gw_t 85 (by decide +kernel) rfl), rfl, rfl⟩
theorem fl_X0_9 : FL RX0 9 0 0 true (.array .int) := ⟨RX0, TX0, 5, tyX0, rfl, by decide, rfl, inwX0, tyX0_ok, nmX0, Or.inl (gw_t 107 (by decide +kernel) rfl), rfl, rfl⟩
theorem fl_X0_15 : FL RX0 15 0 1 true (.array .int) := ⟨RX0, TX0, 5, tyX0, rfl, by decide, rfl, inwX0, tyX0_ok, nmX0, Or.inl (gw_t 108 (by decide +kernel) rfl), rfl, rfl⟩
theorem fl_X0_18 : FL RX0 18 0 2 true (.array .int) := ⟨RX0, TX0, 5, tyX0, rfl, by decide, rfl, inwX0, tyX0_ok, nmX0, Or.inl (gw_t 110 (by decide +kernel) rfl), rfl, rfl⟩
theorem fl_X0_21 : FL RX0 21 0 3 true (.array .int) := ⟨RX0, TX0, 5, tyX0, rfl, by decide, rfl, inwX0, tyX0_ok, nmX0, Or.inl (gw_t 111 (by decide +kernel) rfl), rfl, rfl⟩
theorem fl_X0_24 : FL RX0 24 0 4 true (.array .int) := ⟨RX0, TX0, 5, tyX0, rfl, by decide, rfl, inwX0, tyX0_ok, nmX0, Or.inl (gw_t 112 (by decide +kernel) rfl), rfl, rfl⟩
theorem fl_X3_9 : FL RX3 9 3 0 true (.array .int) := ⟨RX3, TX3, 4, tyX3, rfl, by decide, rfl, inwX3, tyX3_ok, nmX3, Or.inl (gw_t 131 (by decide +kernel) rfl), rfl, rfl⟩
theorem fl_X3_15 : FL RX3 15 3 1 false .boolean := ⟨RX3, TX3, 4, tyX3, rfl, by decide, rfl, inwX3, tyX3_ok, nmX3, Or.inl (gw_t 133 (by decide +kernel) rfl), rfl, rfl⟩
theorem fl_X3_19 : FL RX3 19 3 2 false .int := ⟨RX3, TX3, 4, tyX3, rfl, by decide, rfl, inwX3, tyX3_ok, nmX3, Or.inl (gw_t 135 (by decide +kernel) rfl), rfl, rfl⟩
theorem fl_X3_23 : FL RX3 23 3 3 false .int := ⟨RX3, TX3, 4, tyX3, rfl, by decide, rfl, inwX3, tyX3_ok, nmX3, Or.inl (gw_t 137 (by decide +kernel) rfl), rfl, rfl⟩
theorem fl_X5_14 : FL RX5 14 5 0 true (.object "MarbleVotes$Hill") := ⟨RX5, TX5, 7, tyX5, rfl, by decide, rfl, inwX5, tyX5_ok, nmX5, Or.inl (gw_t 147 (by decide +kernel) rfl), rfl, rfl⟩
theorem fl_X5_21 : FL RX5 21 5 1 true (.object "MarbleVotes$Votes") := ⟨RX5, TX5, 7, tyX5, rfl, by decide, rfl, inwX5, tyX5_ok, nmX5, Or.inl (gw_t 148 (by decide +kernel) rfl), rfl, rfl⟩
theorem fl_X5_30 : FL RX5 30 5 2 true (.object "MarbleVotes$Flow") := ⟨RX5, TX5, 7, tyX5, rfl, by decide, rfl, inwX5, tyX5_ok, nmX5, Or.inl (gw_t 149 (by decide +kernel) rfl), rfl, rfl⟩
theorem fl_X5_37 : FL RX5 37 5 3 true (.object "MarbleVotes$Count") := ⟨RX5, TX5, 7, tyX5, rfl, by decide, rfl, inwX5, tyX5_ok, nmX5, Or.inl (gw_t 150 (by decide +kernel) rfl), rfl, rfl⟩
theorem fl_X5_43 : FL RX5 43 5 4 true (.array (.object "MarbleVotes$Sheet")) := ⟨RX5, TX5, 7, tyX5, rfl, by decide, rfl, inwX5, tyX5_ok, nmX5, Or.inl (gw_t 151 (by decide +kernel) rfl), rfl, rfl⟩
theorem fl_X5_48 : FL RX5 48 5 5 false .int := ⟨RX5, TX5, 7, tyX5, rfl, by decide, rfl, inwX5, tyX5_ok, nmX5, Or.inl (gw_t 152 (by decide +kernel) rfl), rfl, rfl⟩
theorem fl_X5_52 : FL RX5 52 5 6 false .int := ⟨RX5, TX5, 7, tyX5, rfl, by decide, rfl, inwX5, tyX5_ok, nmX5, Or.inl (gw_t 153 (by decide +kernel) rfl), rfl, rfl⟩
theorem fl_X6_61 : FL RX6 61 6 0 false .int := ⟨RX6, TX6, 27, tyX6, rfl, by decide, rfl, inwX6, tyX6_ok, nmX6, Or.inl (gw_t 574 (by decide +kernel) rfl), rfl, rfl⟩
theorem fl_X6_69 : FL RX6 69 6 1 false .int := ⟨RX6, TX6, 27, tyX6, rfl, by decide, rfl, inwX6, tyX6_ok, nmX6, Or.inl (gw_t 575 (by decide +kernel) rfl), rfl, rfl⟩
theorem fl_X6_72 : FL RX6 72 6 2 false .int := ⟨RX6, TX6, 27, tyX6, rfl, by decide, rfl, inwX6, tyX6_ok, nmX6, Or.inl (gw_t 576 (by decide +kernel) rfl), rfl, rfl⟩
theorem fl_X6_7 : FL RX6 7 6 3 true (.array .int) := ⟨RX6, TX6, 27, tyX6, rfl, by decide, rfl, inwX6, tyX6_ok, nmX6, Or.inl (gw_t 577 (by decide +kernel) rfl), rfl, rfl⟩
theorem fl_X6_13 : FL RX6 13 6 4 true (.array .int) := ⟨RX6, TX6, 27, tyX6, rfl, by decide, rfl, inwX6, tyX6_ok, nmX6, Or.inl (gw_t 578 (by decide +kernel) rfl), rfl, rfl⟩
theorem fl_X6_134 : FL RX6 134 6 5 false .boolean := ⟨RX6, TX6, 27, tyX6, rfl, by decide, rfl, inwX6, tyX6_ok, nmX6, Or.inl (gw_t 579 (by decide +kernel) rfl), rfl, rfl⟩
theorem fl_X6_85 : FL RX6 85 6 6 false .int := ⟨RX6, TX6, 27, tyX6, rfl, by decide, rfl, inwX6, tyX6_ok, nmX6, Or.inl (gw_t 580 (by decide +kernel) rfl), rfl, rfl⟩
theorem fl_X6_100 : FL RX6 100 6 7 false .int := ⟨RX6, TX6, 27, tyX6, rfl, by decide, rfl, inwX6, tyX6_ok, nmX6, Or.inl (gw_t 581 (by decide +kernel) rfl), rfl, rfl⟩
theorem fl_X6_103 : FL RX6 103 6 8 false .int := ⟨RX6, TX6, 27, tyX6, rfl, by decide, rfl, inwX6, tyX6_ok, nmX6, Or.inl (gw_t 582 (by decide +kernel) rfl), rfl, rfl⟩
theorem fl_X6_16 : FL RX6 16 6 9 true (.array .int) := ⟨RX6, TX6, 27, tyX6, rfl, by decide, rfl, inwX6, tyX6_ok, nmX6, Or.inl (gw_t 583 (by decide +kernel) rfl), rfl, rfl⟩
theorem fl_X6_19 : FL RX6 19 6 10 true (.array .int) := ⟨RX6, TX6, 27, tyX6, rfl, by decide, rfl, inwX6, tyX6_ok, nmX6, Or.inl (gw_t 584 (by decide +kernel) rfl), rfl, rfl⟩
theorem fl_X6_138 : FL RX6 138 6 11 false .int := ⟨RX6, TX6, 27, tyX6, rfl, by decide, rfl, inwX6, tyX6_ok, nmX6, Or.inl (gw_t 585 (by decide +kernel) rfl), rfl, rfl⟩
theorem fl_X6_22 : FL RX6 22 6 12 true (.array .int) := ⟨RX6, TX6, 27, tyX6, rfl, by decide, rfl, inwX6, tyX6_ok, nmX6, Or.inl (gw_t 586 (by decide +kernel) rfl), rfl, rfl⟩
theorem fl_X6_25 : FL RX6 25 6 13 true (.array .int) := ⟨RX6, TX6, 27, tyX6, rfl, by decide, rfl, inwX6, tyX6_ok, nmX6, Or.inl (gw_t 587 (by decide +kernel) rfl), rfl, rfl⟩
theorem fl_X6_28 : FL RX6 28 6 14 true (.array .long) := ⟨RX6, TX6, 27, tyX6, rfl, by decide, rfl, inwX6, tyX6_ok, nmX6, Or.inl (gw_t 588 (by decide +kernel) rfl), rfl, rfl⟩
theorem fl_X6_32 : FL RX6 32 6 15 true (.array .long) := ⟨RX6, TX6, 27, tyX6, rfl, by decide, rfl, inwX6, tyX6_ok, nmX6, Or.inl (gw_t 589 (by decide +kernel) rfl), rfl, rfl⟩
theorem fl_X6_35 : FL RX6 35 6 16 true (.array .long) := ⟨RX6, TX6, 27, tyX6, rfl, by decide, rfl, inwX6, tyX6_ok, nmX6, Or.inl (gw_t 590 (by decide +kernel) rfl), rfl, rfl⟩
theorem fl_X6_170 : FL RX6 170 6 17 false .long := ⟨RX6, TX6, 27, tyX6, rfl, by decide, rfl, inwX6, tyX6_ok, nmX6, Or.inl (gw_t 591 (by decide +kernel) rfl), rfl, rfl⟩
theorem fl_X6_174 : FL RX6 174 6 18 false .long := ⟨RX6, TX6, 27, tyX6, rfl, by decide, rfl, inwX6, tyX6_ok, nmX6, Or.inl (gw_t 592 (by decide +kernel) rfl), rfl, rfl⟩
theorem fl_X6_38 : FL RX6 38 6 19 true (.array .int) := ⟨RX6, TX6, 27, tyX6, rfl, by decide, rfl, inwX6, tyX6_ok, nmX6, Or.inl (gw_t 593 (by decide +kernel) rfl), rfl, rfl⟩
theorem fl_X6_41 : FL RX6 41 6 20 true (.array .int) := ⟨RX6, TX6, 27, tyX6, rfl, by decide, rfl, inwX6, tyX6_ok, nmX6, Or.inl (gw_t 594 (by decide +kernel) rfl), rfl, rfl⟩
theorem fl_X6_44 : FL RX6 44 6 21 true (.array .int) := ⟨RX6, TX6, 27, tyX6, rfl, by decide, rfl, inwX6, tyX6_ok, nmX6, Or.inl (gw_t 595 (by decide +kernel) rfl), rfl, rfl⟩
theorem fl_X6_47 : FL RX6 47 6 22 true (.array .int) := ⟨RX6, TX6, 27, tyX6, rfl, by decide, rfl, inwX6, tyX6_ok, nmX6, Or.inl (gw_t 596 (by decide +kernel) rfl), rfl, rfl⟩
theorem fl_X6_50 : FL RX6 50 6 23 true (.array .int) := ⟨RX6, TX6, 27, tyX6, rfl, by decide, rfl, inwX6, tyX6_ok, nmX6, Or.inl (gw_t 597 (by decide +kernel) rfl), rfl, rfl⟩
theorem fl_X6_53 : FL RX6 53 6 24 true (.array .int) := ⟨RX6, TX6, 27, tyX6, rfl, by decide, rfl, inwX6, tyX6_ok, nmX6, Or.inl (gw_t 598 (by decide +kernel) rfl), rfl, rfl⟩
theorem fl_X6_56 : FL RX6 56 6 25 true (.array .int) := ⟨RX6, TX6, 27, tyX6, rfl, by decide, rfl, inwX6, tyX6_ok, nmX6, Or.inl (gw_t 599 (by decide +kernel) rfl), rfl, rfl⟩
theorem fl_X6_239 : FL RX6 239 6 26 false .int := ⟨RX6, TX6, 27, tyX6, rfl, by decide, rfl, inwX6, tyX6_ok, nmX6, Or.inl (gw_t 600 (by decide +kernel) rfl), rfl, rfl⟩
theorem fl_X5_90 : FL RX5 90 2 0 true (.array .int) := ⟨RX2, TX2, 5, tyX2, rfl, by decide, rfl, inwX2, tyX2_ok, nmX2, Or.inr ⟨"MarbleVotes", nw_t 25 (by decide +kernel) rfl⟩, rfl, rfl⟩
theorem fl_X1_66 : FL RX1 66 2 0 true (.array .int) := ⟨RX2, TX2, 5, tyX2, rfl, by decide, rfl, inwX2, tyX2_ok, nmX2, Or.inr ⟨"MarbleVotes", nw_t 26 (by decide +kernel) rfl⟩, rfl, rfl⟩
theorem fl_X5_97 : FL RX5 97 2 1 true (.array .int) := ⟨RX2, TX2, 5, tyX2, rfl, by decide, rfl, inwX2, tyX2_ok, nmX2, Or.inr ⟨"MarbleVotes", nw_t 28 (by decide +kernel) rfl⟩, rfl, rfl⟩
theorem fl_X1_93 : FL RX1 93 2 1 true (.array .int) := ⟨RX2, TX2, 5, tyX2, rfl, by decide, rfl, inwX2, tyX2_ok, nmX2, Or.inr ⟨"MarbleVotes", nw_t 29 (by decide +kernel) rfl⟩, rfl, rfl⟩
theorem fl_X5_134 : FL RX5 134 2 2 false .int := ⟨RX2, TX2, 5, tyX2, rfl, by decide, rfl, inwX2, tyX2_ok, nmX2, Or.inr ⟨"MarbleVotes", nw_t 31 (by decide +kernel) rfl⟩, rfl, rfl⟩
theorem fl_X1_83 : FL RX1 83 2 3 false .int := ⟨RX2, TX2, 5, tyX2, rfl, by decide, rfl, inwX2, tyX2_ok, nmX2, Or.inr ⟨"MarbleVotes", nw_t 33 (by decide +kernel) rfl⟩, rfl, rfl⟩
theorem fl_X5_189 : FL RX5 189 2 3 false .int := ⟨RX2, TX2, 5, tyX2, rfl, by decide, rfl, inwX2, tyX2_ok, nmX2, Or.inr ⟨"MarbleVotes", nw_t 34 (by decide +kernel) rfl⟩, rfl, rfl⟩
theorem fl_X5_104 : FL RX5 104 2 4 false .boolean := ⟨RX2, TX2, 5, tyX2, rfl, by decide, rfl, inwX2, tyX2_ok, nmX2, Or.inr ⟨"MarbleVotes", nw_t 36 (by decide +kernel) rfl⟩, rfl, rfl⟩
theorem fl_X1_54 : FL RX1 54 4 0 true (.array .int) := ⟨RX4, TX4, 3, tyX4, rfl, by decide, rfl, inwX4, tyX4_ok, nmX4, Or.inr ⟨"MarbleVotes", nw_t 56 (by decide +kernel) rfl⟩, rfl, rfl⟩
theorem fl_X5_118 : FL RX5 118 4 0 true (.array .int) := ⟨RX4, TX4, 3, tyX4, rfl, by decide, rfl, inwX4, tyX4_ok, nmX4, Or.inr ⟨"MarbleVotes", nw_t 57 (by decide +kernel) rfl⟩, rfl, rfl⟩
theorem fl_X1_57 : FL RX1 57 4 1 true (.array .int) := ⟨RX4, TX4, 3, tyX4, rfl, by decide, rfl, inwX4, tyX4_ok, nmX4, Or.inr ⟨"MarbleVotes", nw_t 59 (by decide +kernel) rfl⟩, rfl, rfl⟩
theorem fl_X5_121 : FL RX5 121 4 1 true (.array .int) := ⟨RX4, TX4, 3, tyX4, rfl, by decide, rfl, inwX4, tyX4_ok, nmX4, Or.inr ⟨"MarbleVotes", nw_t 60 (by decide +kernel) rfl⟩, rfl, rfl⟩
theorem fl_X5_81 : FL RX5 81 4 2 false .int := ⟨RX4, TX4, 3, tyX4, rfl, by decide, rfl, inwX4, tyX4_ok, nmX4, Or.inr ⟨"MarbleVotes", nw_t 62 (by decide +kernel) rfl⟩, rfl, rfl⟩
theorem fl_X1_48 : FL RX1 48 4 2 false .int := ⟨RX4, TX4, 3, tyX4, rfl, by decide, rfl, inwX4, tyX4_ok, nmX4, Or.inr ⟨"MarbleVotes", nw_t 63 (by decide +kernel) rfl⟩, rfl, rfl⟩
theorem fl_X5_196 : FL RX5 196 0 1 true (.array .int) := ⟨RX0, TX0, 5, tyX0, rfl, by decide, rfl, inwX0, tyX0_ok, nmX0, Or.inr ⟨"MarbleVotes", nw_t 109 (by decide +kernel) rfl⟩, rfl, rfl⟩
theorem fl_X5_223 : FL RX5 223 3 0 true (.array .int) := ⟨RX3, TX3, 4, tyX3, rfl, by decide, rfl, inwX3, tyX3_ok, nmX3, Or.inr ⟨"MarbleVotes", nw_t 132 (by decide +kernel) rfl⟩, rfl, rfl⟩
theorem fl_X5_214 : FL RX5 214 3 1 false .boolean := ⟨RX3, TX3, 4, tyX3, rfl, by decide, rfl, inwX3, tyX3_ok, nmX3, Or.inr ⟨"MarbleVotes", nw_t 134 (by decide +kernel) rfl⟩, rfl, rfl⟩
theorem fl_X5_220 : FL RX5 220 3 2 false .int := ⟨RX3, TX3, 4, tyX3, rfl, by decide, rfl, inwX3, tyX3_ok, nmX3, Or.inr ⟨"MarbleVotes", nw_t 136 (by decide +kernel) rfl⟩, rfl, rfl⟩
abbrev mdX0_take : MD := (yX0_take, cX0_take, 8, (some .boolean), 3)
theorem clX0_take : CLV mdX0_take := ⟨⟨(gw_t 448 (by decide +kernel) rfl), (gw_t 5 (by decide +kernel) rfl), by decide +kernel, by decide +kernel, trivial⟩, (gw_t 446 (by decide +kernel) rfl), (gw_t 447 (by decide +kernel) rfl)⟩
theorem arX0_take : (parseMethodDescriptor mdX0_take.1.desc).map (fun d => d.parameters.length) = some 4 := by decide +kernel
theorem plX0_take : plainName mdX0_take.1.cls = true := by decide +kernel
abbrev mdX0_rows : MD := (yX0_rows, cX0_rows, 3, (some .int), 2)
theorem clX0_rows : CLV mdX0_rows := ⟨⟨(gw_t 458 (by decide +kernel) rfl), (gw_t 5 (by decide +kernel) rfl), by decide +kernel, by decide +kernel, trivial⟩, (gw_t 456 (by decide +kernel) rfl), (gw_t 457 (by decide +kernel) rfl)⟩
theorem arX0_rows : (parseMethodDescriptor mdX0_rows.1.desc).map (fun d => d.parameters.length) = some 0 := by decide +kernel
theorem plX0_rows : plainName mdX0_rows.1.cls = true := by decide +kernel
abbrev mdX0_layOut : MD := (yX0_layOut, cX0_layOut, 3, (some .int), 1)
theorem clX0_layOut : CLV mdX0_layOut := ⟨⟨(gw_t 462 (by decide +kernel) rfl), (gw_t 5 (by decide +kernel) rfl), by decide +kernel, by decide +kernel, trivial⟩, (gw_t 461 (by decide +kernel) rfl), (gw_s 11 (by decide +kernel) rfl)⟩
theorem arX0_layOut : (parseMethodDescriptor mdX0_layOut.1.desc).map (fun d => d.parameters.length) = some 0 := by decide +kernel
theorem plX0_layOut : plainName mdX0_layOut.1.cls = true := by decide +kernel
abbrev mdX0_placeNextVote : MD := (yX0_placeNextVote, cX0_placeNextVote, 4, none, 1)
theorem clX0_placeNextVote : CLV mdX0_placeNextVote := ⟨⟨(gw_t 466 (by decide +kernel) rfl), (gw_t 5 (by decide +kernel) rfl), by decide +kernel, by decide +kernel, trivial⟩, (gw_t 465 (by decide +kernel) rfl), (gw_s 12 (by decide +kernel) rfl)⟩
theorem arX0_placeNextVote : (parseMethodDescriptor mdX0_placeNextVote.1.desc).map (fun d => d.parameters.length) = some 1 := by decide +kernel
theorem plX0_placeNextVote : plainName mdX0_placeNextVote.1.cls = true := by decide +kernel
abbrev mdX0_nextUsed : MD := (yX0_nextUsed, cX0_nextUsed, 2, none, 1)
theorem clX0_nextUsed : CLV mdX0_nextUsed := ⟨⟨(gw_t 470 (by decide +kernel) rfl), (gw_t 5 (by decide +kernel) rfl), by decide +kernel, by decide +kernel, trivial⟩, (gw_t 469 (by decide +kernel) rfl), (gw_s 13 (by decide +kernel) rfl)⟩
theorem arX0_nextUsed : (parseMethodDescriptor mdX0_nextUsed.1.desc).map (fun d => d.parameters.length) = some 0 := by decide +kernel
theorem plX0_nextUsed : plainName mdX0_nextUsed.1.cls = true := by decide +kernel
abbrev mdX0_endsOfRows : MD := (yX0_endsOfRows, cX0_endsOfRows, 5, (some .int), 3)
theorem clX0_endsOfRows : CLV mdX0_endsOfRows := ⟨⟨(gw_t 474 (by decide +kernel) rfl), (gw_t 5 (by decide +kernel) rfl), by decide +kernel, by decide +kernel, trivial⟩, (gw_t 472 (by decide +kernel) rfl), (gw_t 473 (by decide +kernel) rfl)⟩
theorem arX0_endsOfRows : (parseMethodDescriptor mdX0_endsOfRows.1.desc).map (fun d => d.parameters.length) = some 1 := by decide +kernel
theorem plX0_endsOfRows : plainName mdX0_endsOfRows.1.cls = true := by decide +kernel
abbrev mdX1_drop : MD := (yX1_drop, cX1_drop, 3, none, 3)
theorem clX1_drop : CLV mdX1_drop := ⟨⟨(gw_t 312 (by decide +kernel) rfl), (gw_t 4 (by decide +kernel) rfl), by decide +kernel, by decide +kernel, trivial⟩, (gw_t 310 (by decide +kernel) rfl), (gw_t 311 (by decide +kernel) rfl)⟩
theorem arX1_drop : (parseMethodDescriptor mdX1_drop.1.desc).map (fun d => d.parameters.length) = some 2 := by decide +kernel
theorem plX1_drop : plainName mdX1_drop.1.cls = true := by decide +kernel
abbrev mdX1_dropAll : MD := (yX1_dropAll, cX1_dropAll, 3, none, 3)
theorem clX1_dropAll : CLV mdX1_dropAll := ⟨⟨(gw_t 381 (by decide +kernel) rfl), (gw_t 4 (by decide +kernel) rfl), by decide +kernel, by decide +kernel, trivial⟩, (gw_t 380 (by decide +kernel) rfl), (gw_s 6 (by decide +kernel) rfl)⟩
theorem arX1_dropAll : (parseMethodDescriptor mdX1_dropAll.1.desc).map (fun d => d.parameters.length) = some 1 := by decide +kernel
theorem plX1_dropAll : plainName mdX1_dropAll.1.cls = true := by decide +kernel
abbrev mdX1_runDown : MD := (yX1_runDown, cX1_runDown, 8, none, 2)
theorem clX1_runDown : CLV mdX1_runDown := ⟨⟨(gw_t 320 (by decide +kernel) rfl), (gw_t 4 (by decide +kernel) rfl), by decide +kernel, by decide +kernel, trivial⟩, (gw_t 319 (by decide +kernel) rfl), (gw_s 2 (by decide +kernel) rfl)⟩
theorem arX1_runDown : (parseMethodDescriptor mdX1_runDown.1.desc).map (fun d => d.parameters.length) = some 2 := by decide +kernel
theorem plX1_runDown : plainName mdX1_runDown.1.cls = true := by decide +kernel
abbrev mdX1_arrived : MD := (yX1_arrived, cX1_arrived, 3, (some .int), 2)
theorem clX1_arrived : CLV mdX1_arrived := ⟨⟨(gw_t 333 (by decide +kernel) rfl), (gw_t 4 (by decide +kernel) rfl), by decide +kernel, by decide +kernel, trivial⟩, (gw_t 331 (by decide +kernel) rfl), (gw_t 332 (by decide +kernel) rfl)⟩
theorem arX1_arrived : (parseMethodDescriptor mdX1_arrived.1.desc).map (fun d => d.parameters.length) = some 2 := by decide +kernel
theorem plX1_arrived : plainName mdX1_arrived.1.cls = true := by decide +kernel
abbrev mdX1_stuck : MD := (yX1_stuck, cX1_stuck, 4, (some .int), 3)
theorem clX1_stuck : CLV mdX1_stuck := ⟨⟨(gw_t 329 (by decide +kernel) rfl), (gw_t 4 (by decide +kernel) rfl), by decide +kernel, by decide +kernel, trivial⟩, (gw_t 327 (by decide +kernel) rfl), (gw_t 328 (by decide +kernel) rfl)⟩
theorem arX1_stuck : (parseMethodDescriptor mdX1_stuck.1.desc).map (fun d => d.parameters.length) = some 1 := by decide +kernel
theorem plX1_stuck : plainName mdX1_stuck.1.cls = true := by decide +kernel
abbrev mdX1_appraiseAll : MD := (yX1_appraiseAll, cX1_appraiseAll, 3, none, 4)
theorem clX1_appraiseAll : CLV mdX1_appraiseAll := ⟨⟨(gw_t 353 (by decide +kernel) rfl), (gw_t 4 (by decide +kernel) rfl), by decide +kernel, by decide +kernel, trivial⟩, (gw_t 352 (by decide +kernel) rfl), (gw_s 3 (by decide +kernel) rfl)⟩
theorem arX1_appraiseAll : (parseMethodDescriptor mdX1_appraiseAll.1.desc).map (fun d => d.parameters.length) = some 1 := by decide +kernel
theorem plX1_appraiseAll : plainName mdX1_appraiseAll.1.cls = true := by decide +kernel
abbrev mdX1_appraise : MD := (yX1_appraise, cX1_appraise, 5, none, 3)
theorem clX1_appraise : CLV mdX1_appraise := ⟨⟨(gw_t 357 (by decide +kernel) rfl), (gw_t 4 (by decide +kernel) rfl), by decide +kernel, by decide +kernel, trivial⟩, (gw_t 356 (by decide +kernel) rfl), (gw_s 4 (by decide +kernel) rfl)⟩
theorem arX1_appraise : (parseMethodDescriptor mdX1_appraise.1.desc).map (fun d => d.parameters.length) = some 2 := by decide +kernel
theorem plX1_appraise : plainName mdX1_appraise.1.cls = true := by decide +kernel
abbrev mdX1_worthUnder : MD := (yX1_worthUnder, cX1_worthUnder, 8, (some .int), 2)
theorem clX1_worthUnder : CLV mdX1_worthUnder := ⟨⟨(gw_t 361 (by decide +kernel) rfl), (gw_t 4 (by decide +kernel) rfl), by decide +kernel, by decide +kernel, trivial⟩, (gw_t 360 (by decide +kernel) rfl), (gw_s 5 (by decide +kernel) rfl)⟩
theorem arX1_worthUnder : (parseMethodDescriptor mdX1_worthUnder.1.desc).map (fun d => d.parameters.length) = some 3 := by decide +kernel
theorem plX1_worthUnder : plainName mdX1_worthUnder.1.cls = true := by decide +kernel
abbrev mdX1_expected : MD := (yX1_expected, cX1_expected, 4, (some .int), 5)
theorem clX1_expected : CLV mdX1_expected := ⟨⟨(gw_t 349 (by decide +kernel) rfl), (gw_t 4 (by decide +kernel) rfl), by decide +kernel, by decide +kernel, trivial⟩, (gw_t 347 (by decide +kernel) rfl), (gw_t 348 (by decide +kernel) rfl)⟩
theorem arX1_expected : (parseMethodDescriptor mdX1_expected.1.desc).map (fun d => d.parameters.length) = some 1 := by decide +kernel
theorem plX1_expected : plainName mdX1_expected.1.cls = true := by decide +kernel
abbrev mdX1_bestStart : MD := (yX1_bestStart, cX1_bestStart, 5, (some .int), 4)
theorem clX1_bestStart : CLV mdX1_bestStart := ⟨⟨(gw_t 369 (by decide +kernel) rfl), (gw_t 4 (by decide +kernel) rfl), by decide +kernel, by decide +kernel, trivial⟩, (gw_t 367 (by decide +kernel) rfl), (gw_t 368 (by decide +kernel) rfl)⟩
theorem arX1_bestStart : (parseMethodDescriptor mdX1_bestStart.1.desc).map (fun d => d.parameters.length) = some 2 := by decide +kernel
theorem plX1_bestStart : plainName mdX1_bestStart.1.cls = true := by decide +kernel
abbrev mdX1_bestMove : MD := (yX1_bestMove, cX1_bestMove, 9, (some .int), 5)
theorem clX1_bestMove : CLV mdX1_bestMove := ⟨⟨(gw_t 377 (by decide +kernel) rfl), (gw_t 4 (by decide +kernel) rfl), by decide +kernel, by decide +kernel, trivial⟩, (gw_t 375 (by decide +kernel) rfl), (gw_t 376 (by decide +kernel) rfl)⟩
theorem arX1_bestMove : (parseMethodDescriptor mdX1_bestMove.1.desc).map (fun d => d.parameters.length) = some 1 := by decide +kernel
theorem plX1_bestMove : plainName mdX1_bestMove.1.cls = true := by decide +kernel
abbrev mdX1_gain : MD := (yX1_gain, cX1_gain, 8, (some .long), 3)
theorem clX1_gain : CLV mdX1_gain := ⟨⟨(gw_t 385 (by decide +kernel) rfl), (gw_t 4 (by decide +kernel) rfl), by decide +kernel, by decide +kernel, trivial⟩, (gw_t 384 (by decide +kernel) rfl), (gw_s 7 (by decide +kernel) rfl)⟩
theorem arX1_gain : (parseMethodDescriptor mdX1_gain.1.desc).map (fun d => d.parameters.length) = some 2 := by decide +kernel
theorem plX1_gain : plainName mdX1_gain.1.cls = true := by decide +kernel
abbrev mdX1_likeliestEnd : MD := (yX1_likeliestEnd, cX1_likeliestEnd, 5, (some .int), 4)
theorem clX1_likeliestEnd : CLV mdX1_likeliestEnd := ⟨⟨(gw_t 397 (by decide +kernel) rfl), (gw_t 4 (by decide +kernel) rfl), by decide +kernel, by decide +kernel, trivial⟩, (gw_t 395 (by decide +kernel) rfl), (gw_t 396 (by decide +kernel) rfl)⟩
theorem arX1_likeliestEnd : (parseMethodDescriptor mdX1_likeliestEnd.1.desc).map (fun d => d.parameters.length) = some 1 := by decide +kernel
theorem plX1_likeliestEnd : plainName mdX1_likeliestEnd.1.cls = true := by decide +kernel
abbrev mdX1_tallyOf : MD := (yX1_tallyOf, cX1_tallyOf, 2, (some .int), 6)
theorem clX1_tallyOf : CLV mdX1_tallyOf := ⟨⟨(gw_t 407 (by decide +kernel) rfl), (gw_t 4 (by decide +kernel) rfl), by decide +kernel, by decide +kernel, trivial⟩, (gw_t 405 (by decide +kernel) rfl), (gw_t 406 (by decide +kernel) rfl)⟩
theorem arX1_tallyOf : (parseMethodDescriptor mdX1_tallyOf.1.desc).map (fun d => d.parameters.length) = some 1 := by decide +kernel
theorem plX1_tallyOf : plainName mdX1_tallyOf.1.cls = true := by decide +kernel
abbrev mdX1_winnerOfAll : MD := (yX1_winnerOfAll, cX1_winnerOfAll, 1, (some .int), 6)
theorem clX1_winnerOfAll : CLV mdX1_winnerOfAll := ⟨⟨(gw_t 424 (by decide +kernel) rfl), (gw_t 4 (by decide +kernel) rfl), by decide +kernel, by decide +kernel, trivial⟩, (gw_t 422 (by decide +kernel) rfl), (gw_t 423 (by decide +kernel) rfl)⟩
theorem arX1_winnerOfAll : (parseMethodDescriptor mdX1_winnerOfAll.1.desc).map (fun d => d.parameters.length) = some 0 := by decide +kernel
theorem plX1_winnerOfAll : plainName mdX1_winnerOfAll.1.cls = true := by decide +kernel
abbrev mdX1_votesItHangsOn : MD := (yX1_votesItHangsOn, cX1_votesItHangsOn, 4, (some .int), 6)
theorem clX1_votesItHangsOn : CLV mdX1_votesItHangsOn := ⟨⟨(gw_t 432 (by decide +kernel) rfl), (gw_t 4 (by decide +kernel) rfl), by decide +kernel, by decide +kernel, trivial⟩, (gw_t 430 (by decide +kernel) rfl), (gw_t 431 (by decide +kernel) rfl)⟩
theorem arX1_votesItHangsOn : (parseMethodDescriptor mdX1_votesItHangsOn.1.desc).map (fun d => d.parameters.length) = some 0 := by decide +kernel
theorem plX1_votesItHangsOn : plainName mdX1_votesItHangsOn.1.cls = true := by decide +kernel
abbrev mdX1_findLeanings : MD := (yX1_findLeanings, cX1_findLeanings, 3, none, 5)
theorem clX1_findLeanings : CLV mdX1_findLeanings := ⟨⟨(gw_t 411 (by decide +kernel) rfl), (gw_t 4 (by decide +kernel) rfl), by decide +kernel, by decide +kernel, trivial⟩, (gw_t 410 (by decide +kernel) rfl), (gw_s 8 (by decide +kernel) rfl)⟩
theorem arX1_findLeanings : (parseMethodDescriptor mdX1_findLeanings.1.desc).map (fun d => d.parameters.length) = some 0 := by decide +kernel
theorem plX1_findLeanings : plainName mdX1_findLeanings.1.cls = true := by decide +kernel
abbrev mdX1_winnerWithout : MD := (yX1_winnerWithout, cX1_winnerWithout, 4, (some .int), 3)
theorem clX1_winnerWithout : CLV mdX1_winnerWithout := ⟨⟨(gw_t 428 (by decide +kernel) rfl), (gw_t 4 (by decide +kernel) rfl), by decide +kernel, by decide +kernel, trivial⟩, (gw_t 427 (by decide +kernel) rfl), (gw_s 10 (by decide +kernel) rfl)⟩
theorem arX1_winnerWithout : (parseMethodDescriptor mdX1_winnerWithout.1.desc).map (fun d => d.parameters.length) = some 1 := by decide +kernel
theorem plX1_winnerWithout : plainName mdX1_winnerWithout.1.cls = true := by decide +kernel
abbrev mdX1_tallyWithout : MD := (yX1_tallyWithout, cX1_tallyWithout, 3, none, 2)
theorem clX1_tallyWithout : CLV mdX1_tallyWithout := ⟨⟨(gw_t 416 (by decide +kernel) rfl), (gw_t 4 (by decide +kernel) rfl), by decide +kernel, by decide +kernel, trivial⟩, (gw_t 415 (by decide +kernel) rfl), (gw_s 9 (by decide +kernel) rfl)⟩
theorem arX1_tallyWithout : (parseMethodDescriptor mdX1_tallyWithout.1.desc).map (fun d => d.parameters.length) = some 1 := by decide +kernel
theorem plX1_tallyWithout : plainName mdX1_tallyWithout.1.cls = true := by decide +kernel
abbrev mdX1_damsReached : MD := (yX1_damsReached, cX1_damsReached, 6, (some .long), 4)
theorem clX1_damsReached : CLV mdX1_damsReached := ⟨⟨(gw_t 440 (by decide +kernel) rfl), (gw_t 4 (by decide +kernel) rfl), by decide +kernel, by decide +kernel, trivial⟩, (gw_t 438 (by decide +kernel) rfl), (gw_t 439 (by decide +kernel) rfl)⟩
theorem arX1_damsReached : (parseMethodDescriptor mdX1_damsReached.1.desc).map (fun d => d.parameters.length) = some 1 := by decide +kernel
theorem plX1_damsReached : plainName mdX1_damsReached.1.cls = true := by decide +kernel
abbrev mdX1_endsOf : MD := (yX1_endsOf, cX1_endsOf, 5, (some .int), 4)
theorem clX1_endsOf : CLV mdX1_endsOf := ⟨⟨(gw_t 454 (by decide +kernel) rfl), (gw_t 4 (by decide +kernel) rfl), by decide +kernel, by decide +kernel, trivial⟩, (gw_t 452 (by decide +kernel) rfl), (gw_t 453 (by decide +kernel) rfl)⟩
theorem arX1_endsOf : (parseMethodDescriptor mdX1_endsOf.1.desc).map (fun d => d.parameters.length) = some 1 := by decide +kernel
theorem plX1_endsOf : plainName mdX1_endsOf.1.cls = true := by decide +kernel
abbrev mdX1_fairColumns : MD := (yX1_fairColumns, cX1_fairColumns, 3, (some .int), 5)
theorem clX1_fairColumns : CLV mdX1_fairColumns := ⟨⟨(gw_t 483 (by decide +kernel) rfl), (gw_t 4 (by decide +kernel) rfl), by decide +kernel, by decide +kernel, trivial⟩, (gw_t 481 (by decide +kernel) rfl), (gw_t 482 (by decide +kernel) rfl)⟩
theorem arX1_fairColumns : (parseMethodDescriptor mdX1_fairColumns.1.desc).map (fun d => d.parameters.length) = some 0 := by decide +kernel
theorem plX1_fairColumns : plainName mdX1_fairColumns.1.cls = true := by decide +kernel
abbrev mdX1_isFair : MD := (yX1_isFair, cX1_isFair, 4, (some .boolean), 4)
theorem clX1_isFair : CLV mdX1_isFair := ⟨⟨(gw_t 487 (by decide +kernel) rfl), (gw_t 4 (by decide +kernel) rfl), by decide +kernel, by decide +kernel, trivial⟩, (gw_t 486 (by decide +kernel) rfl), (gw_s 14 (by decide +kernel) rfl)⟩
theorem arX1_isFair : (parseMethodDescriptor mdX1_isFair.1.desc).map (fun d => d.parameters.length) = some 1 := by decide +kernel
theorem plX1_isFair : plainName mdX1_isFair.1.cls = true := by decide +kernel
abbrev mdX2_stands : MD := (yX2_stands, cX2_stands, 1, (some .boolean), 1)
theorem clX2_stands : CLV mdX2_stands := ⟨⟨(gw_t 248 (by decide +kernel) rfl), (gw_t 2 (by decide +kernel) rfl), by decide +kernel, by decide +kernel, trivial⟩, (gw_t 246 (by decide +kernel) rfl), (gw_t 247 (by decide +kernel) rfl)⟩
theorem arX2_stands : (parseMethodDescriptor mdX2_stands.1.desc).map (fun d => d.parameters.length) = some 0 := by decide +kernel
theorem plX2_stands : plainName mdX2_stands.1.cls = true := by decide +kernel
abbrev mdX2_cells : MD := (yX2_cells, cX2_cells, 1, (some .int), 1)
theorem clX2_cells : CLV mdX2_cells := ⟨⟨(gw_t 219 (by decide +kernel) rfl), (gw_t 2 (by decide +kernel) rfl), by decide +kernel, by decide +kernel, trivial⟩, (gw_t 217 (by decide +kernel) rfl), (gw_t 218 (by decide +kernel) rfl)⟩
theorem arX2_cells : (parseMethodDescriptor mdX2_cells.1.desc).map (fun d => d.parameters.length) = some 0 := by decide +kernel
theorem plX2_cells : plainName mdX2_cells.1.cls = true := by decide +kernel
abbrev mdX2_hasCell : MD := (yX2_hasCell, cX2_hasCell, 2, (some .boolean), 2)
theorem clX2_hasCell : CLV mdX2_hasCell := ⟨⟨(gw_t 227 (by decide +kernel) rfl), (gw_t 2 (by decide +kernel) rfl), by decide +kernel, by decide +kernel, trivial⟩, (gw_t 225 (by decide +kernel) rfl), (gw_t 226 (by decide +kernel) rfl)⟩
theorem arX2_hasCell : (parseMethodDescriptor mdX2_hasCell.1.desc).map (fun d => d.parameters.length) = some 1 := by decide +kernel
theorem plX2_hasCell : plainName mdX2_hasCell.1.cls = true := by decide +kernel
abbrev mdX2_hasColumn : MD := (yX2_hasColumn, cX2_hasColumn, 2, (some .boolean), 1)
theorem clX2_hasColumn : CLV mdX2_hasColumn := ⟨⟨(gw_t 240 (by decide +kernel) rfl), (gw_t 2 (by decide +kernel) rfl), by decide +kernel, by decide +kernel, trivial⟩, (gw_t 238 (by decide +kernel) rfl), (gw_t 239 (by decide +kernel) rfl)⟩
theorem arX2_hasColumn : (parseMethodDescriptor mdX2_hasColumn.1.desc).map (fun d => d.parameters.length) = some 1 := by decide +kernel
theorem plX2_hasColumn : plainName mdX2_hasColumn.1.cls = true := by decide +kernel
abbrev mdX2_hasTroughOf : MD := (yX2_hasTroughOf, cX2_hasTroughOf, 3, (some .boolean), 1)
theorem clX2_hasTroughOf : CLV mdX2_hasTroughOf := ⟨⟨(gw_t 491 (by decide +kernel) rfl), (gw_t 2 (by decide +kernel) rfl), by decide +kernel, by decide +kernel, trivial⟩, (gw_t 489 (by decide +kernel) rfl), (gw_t 490 (by decide +kernel) rfl)⟩
theorem arX2_hasTroughOf : (parseMethodDescriptor mdX2_hasTroughOf.1.desc).map (fun d => d.parameters.length) = some 1 := by decide +kernel
theorem plX2_hasTroughOf : plainName mdX2_hasTroughOf.1.cls = true := by decide +kernel
abbrev mdX2_firstFault : MD := (yX2_firstFault, cX2_firstFault, 8, (some .int), 3)
theorem clX2_firstFault : CLV mdX2_firstFault := ⟨⟨(gw_t 194 (by decide +kernel) rfl), (gw_t 2 (by decide +kernel) rfl), by decide +kernel, by decide +kernel, trivial⟩, (gw_t 192 (by decide +kernel) rfl), (gw_t 193 (by decide +kernel) rfl)⟩
theorem arX2_firstFault : (parseMethodDescriptor mdX2_firstFault.1.desc).map (fun d => d.parameters.length) = some 3 := by decide +kernel
theorem plX2_firstFault : plainName mdX2_firstFault.1.cls = true := by decide +kernel
abbrev mdX2_lengthOfText : MD := (yX2_lengthOfText, cX2_lengthOfText, 2, (some .int), 1)
theorem clX2_lengthOfText : CLS mdX2_lengthOfText := ⟨⟨(gw_t 208 (by decide +kernel) rfl), (gw_t 2 (by decide +kernel) rfl), by decide +kernel, by decide +kernel, trivial⟩, (gw_t 207 (by decide +kernel) rfl)⟩
theorem arX2_lengthOfText : (parseMethodDescriptor mdX2_lengthOfText.1.desc).map (fun d => d.parameters.length) = some 2 := by decide +kernel
theorem plX2_lengthOfText : plainName mdX2_lengthOfText.1.cls = true := by decide +kernel
abbrev mdX2_goesOn : MD := (yX2_goesOn, cX2_goesOn, 5, (some .boolean), 2)
theorem clX2_goesOn : CLS mdX2_goesOn := ⟨⟨(gw_t 205 (by decide +kernel) rfl), (gw_t 2 (by decide +kernel) rfl), by decide +kernel, by decide +kernel, trivial⟩, (gw_t 204 (by decide +kernel) rfl)⟩
theorem arX2_goesOn : (parseMethodDescriptor mdX2_goesOn.1.desc).map (fun d => d.parameters.length) = some 4 := by decide +kernel
theorem plX2_goesOn : plainName mdX2_goesOn.1.cls = true := by decide +kernel
abbrev mdX2_signOf : MD := (yX2_signOf, cX2_signOf, 1, (some .int), 1)
theorem clX2_signOf : CLS mdX2_signOf := ⟨⟨(gw_t 211 (by decide +kernel) rfl), (gw_t 2 (by decide +kernel) rfl), by decide +kernel, by decide +kernel, trivial⟩, (gw_t 210 (by decide +kernel) rfl)⟩
theorem arX2_signOf : (parseMethodDescriptor mdX2_signOf.1.desc).map (fun d => d.parameters.length) = some 1 := by decide +kernel
theorem plX2_signOf : plainName mdX2_signOf.1.cls = true := by decide +kernel
abbrev mdX2_build : MD := (yX2_build, cX2_build, 6, none, 3)
theorem clX2_build : CLV mdX2_build := ⟨⟨(gw_t 215 (by decide +kernel) rfl), (gw_t 2 (by decide +kernel) rfl), by decide +kernel, by decide +kernel, trivial⟩, (gw_t 213 (by decide +kernel) rfl), (gw_t 214 (by decide +kernel) rfl)⟩
theorem arX2_build : (parseMethodDescriptor mdX2_build.1.desc).map (fun d => d.parameters.length) = some 2 := by decide +kernel
theorem plX2_build : plainName mdX2_build.1.cls = true := by decide +kernel
abbrev mdX2_partsLeft : MD := (yX2_partsLeft, cX2_partsLeft, 4, (some .int), 1)
theorem clX2_partsLeft : CLV mdX2_partsLeft := ⟨⟨(gw_t 271 (by decide +kernel) rfl), (gw_t 2 (by decide +kernel) rfl), by decide +kernel, by decide +kernel, trivial⟩, (gw_t 269 (by decide +kernel) rfl), (gw_t 270 (by decide +kernel) rfl)⟩
theorem arX2_partsLeft : (parseMethodDescriptor mdX2_partsLeft.1.desc).map (fun d => d.parameters.length) = some 2 := by decide +kernel
theorem plX2_partsLeft : plainName mdX2_partsLeft.1.cls = true := by decide +kernel
abbrev mdX2_partsRight : MD := (yX2_partsRight, cX2_partsRight, 4, (some .int), 1)
theorem clX2_partsRight : CLV mdX2_partsRight := ⟨⟨(gw_t 275 (by decide +kernel) rfl), (gw_t 2 (by decide +kernel) rfl), by decide +kernel, by decide +kernel, trivial⟩, (gw_t 273 (by decide +kernel) rfl), (gw_t 274 (by decide +kernel) rfl)⟩
theorem arX2_partsRight : (parseMethodDescriptor mdX2_partsRight.1.desc).map (fun d => d.parameters.length) = some 2 := by decide +kernel
theorem plX2_partsRight : plainName mdX2_partsRight.1.cls = true := by decide +kernel
abbrev mdX2_below : MD := (yX2_below, cX2_below, 5, (some .int), 2)
theorem clX2_below : CLV mdX2_below := ⟨⟨(gw_t 293 (by decide +kernel) rfl), (gw_t 2 (by decide +kernel) rfl), by decide +kernel, by decide +kernel, trivial⟩, (gw_t 291 (by decide +kernel) rfl), (gw_t 292 (by decide +kernel) rfl)⟩
theorem arX2_below : (parseMethodDescriptor mdX2_below.1.desc).map (fun d => d.parameters.length) = some 4 := by decide +kernel
theorem plX2_below : plainName mdX2_below.1.cls = true := by decide +kernel
abbrev mdX2_belowLeft : MD := (yX2_belowLeft, cX2_belowLeft, 3, (some .int), 1)
theorem clX2_belowLeft : CLV mdX2_belowLeft := ⟨⟨(gw_t 298 (by decide +kernel) rfl), (gw_t 2 (by decide +kernel) rfl), by decide +kernel, by decide +kernel, trivial⟩, (gw_t 296 (by decide +kernel) rfl), (gw_t 297 (by decide +kernel) rfl)⟩
theorem arX2_belowLeft : (parseMethodDescriptor mdX2_belowLeft.1.desc).map (fun d => d.parameters.length) = some 1 := by decide +kernel
theorem plX2_belowLeft : plainName mdX2_belowLeft.1.cls = true := by decide +kernel
abbrev mdX2_belowRight : MD := (yX2_belowRight, cX2_belowRight, 3, (some .int), 1)
theorem clX2_belowRight : CLV mdX2_belowRight := ⟨⟨(gw_t 303 (by decide +kernel) rfl), (gw_t 2 (by decide +kernel) rfl), by decide +kernel, by decide +kernel, trivial⟩, (gw_t 301 (by decide +kernel) rfl), (gw_t 302 (by decide +kernel) rfl)⟩
theorem arX2_belowRight : (parseMethodDescriptor mdX2_belowRight.1.desc).map (fun d => d.parameters.length) = some 1 := by decide +kernel
theorem plX2_belowRight : plainName mdX2_belowRight.1.cls = true := by decide +kernel
abbrev mdX3_renew : MD := (yX3_renew, cX3_renew, 3, none, 2)
theorem clX3_renew : CLV mdX3_renew := ⟨⟨(gw_t 499 (by decide +kernel) rfl), (gw_t 6 (by decide +kernel) rfl), by decide +kernel, by decide +kernel, trivial⟩, (gw_t 497 (by decide +kernel) rfl), (gw_t 498 (by decide +kernel) rfl)⟩
theorem arX3_renew : (parseMethodDescriptor mdX3_renew.1.desc).map (fun d => d.parameters.length) = some 2 := by decide +kernel
theorem plX3_renew : plainName mdX3_renew.1.cls = true := by decide +kernel
abbrev mdX3_faultAs : MD := (yX3_faultAs, cX3_faultAs, 2, (some .int), 1)
theorem clX3_faultAs : CLV mdX3_faultAs := ⟨⟨(gw_t 182 (by decide +kernel) rfl), (gw_t 6 (by decide +kernel) rfl), by decide +kernel, by decide +kernel, trivial⟩, (gw_t 180 (by decide +kernel) rfl), (gw_t 181 (by decide +kernel) rfl)⟩
theorem arX3_faultAs : (parseMethodDescriptor mdX3_faultAs.1.desc).map (fun d => d.parameters.length) = some 1 := by decide +kernel
theorem plX3_faultAs : plainName mdX3_faultAs.1.cls = true := by decide +kernel
abbrev mdX3_has : MD := (yX3_has, cX3_has, 2, (some .boolean), 1)
theorem clX3_has : CLV mdX3_has := ⟨⟨(gw_t 202 (by decide +kernel) rfl), (gw_t 6 (by decide +kernel) rfl), by decide +kernel, by decide +kernel, trivial⟩, (gw_t 200 (by decide +kernel) rfl), (gw_t 201 (by decide +kernel) rfl)⟩
theorem arX3_has : (parseMethodDescriptor mdX3_has.1.desc).map (fun d => d.parameters.length) = some 1 := by decide +kernel
theorem plX3_has : plainName mdX3_has.1.cls = true := by decide +kernel
abbrev mdX3_spans : MD := (yX3_spans, cX3_spans, 3, (some .boolean), 1)
theorem clX3_spans : CLV mdX3_spans := ⟨⟨(gw_t 186 (by decide +kernel) rfl), (gw_t 6 (by decide +kernel) rfl), by decide +kernel, by decide +kernel, trivial⟩, (gw_t 184 (by decide +kernel) rfl), (gw_t 185 (by decide +kernel) rfl)⟩
theorem arX3_spans : (parseMethodDescriptor mdX3_spans.1.desc).map (fun d => d.parameters.length) = some 2 := by decide +kernel
theorem plX3_spans : plainName mdX3_spans.1.cls = true := by decide +kernel
abbrev mdX3_at : MD := (yX3_at, cX3_at, 2, (some .int), 2)
theorem clX3_at : CLV mdX3_at := ⟨⟨(gw_t 198 (by decide +kernel) rfl), (gw_t 6 (by decide +kernel) rfl), by decide +kernel, by decide +kernel, trivial⟩, (gw_t 196 (by decide +kernel) rfl), (gw_t 197 (by decide +kernel) rfl)⟩
theorem arX3_at : (parseMethodDescriptor mdX3_at.1.desc).map (fun d => d.parameters.length) = some 1 := by decide +kernel
theorem plX3_at : plainName mdX3_at.1.cls = true := by decide +kernel
abbrev mdX3_write : MD := (yX3_write, cX3_write, 3, none, 2)
theorem clX3_write : CLV mdX3_write := ⟨⟨(gw_t 512 (by decide +kernel) rfl), (gw_t 6 (by decide +kernel) rfl), by decide +kernel, by decide +kernel, trivial⟩, (gw_t 510 (by decide +kernel) rfl), (gw_t 511 (by decide +kernel) rfl)⟩
theorem arX3_write : (parseMethodDescriptor mdX3_write.1.desc).map (fun d => d.parameters.length) = some 2 := by decide +kernel
theorem plX3_write : plainName mdX3_write.1.cls = true := by decide +kernel
abbrev mdX3_cut : MD := (yX3_cut, cX3_cut, 2, (some .int), 1)
theorem clX3_cut : CLV mdX3_cut := ⟨⟨(gw_t 516 (by decide +kernel) rfl), (gw_t 6 (by decide +kernel) rfl), by decide +kernel, by decide +kernel, trivial⟩, (gw_t 515 (by decide +kernel) rfl), (gw_s 15 (by decide +kernel) rfl)⟩
theorem arX3_cut : (parseMethodDescriptor mdX3_cut.1.desc).map (fun d => d.parameters.length) = some 1 := by decide +kernel
theorem plX3_cut : plainName mdX3_cut.1.cls = true := by decide +kernel
abbrev mdX4_has : MD := (yX4_has, cX4_has, 2, (some .boolean), 1)
theorem clX4_has : CLV mdX4_has := ⟨⟨(gw_t 267 (by decide +kernel) rfl), (gw_t 3 (by decide +kernel) rfl), by decide +kernel, by decide +kernel, trivial⟩, (gw_t 265 (by decide +kernel) rfl), (gw_t 266 (by decide +kernel) rfl)⟩
theorem arX4_has : (parseMethodDescriptor mdX4_has.1.desc).map (fun d => d.parameters.length) = some 1 := by decide +kernel
theorem plX4_has : plainName mdX4_has.1.cls = true := by decide +kernel
abbrev mdX4_add : MD := (yX4_add, cX4_add, 4, (some .int), 1)
theorem clX4_add : CLV mdX4_add := ⟨⟨(gw_t 259 (by decide +kernel) rfl), (gw_t 3 (by decide +kernel) rfl), by decide +kernel, by decide +kernel, trivial⟩, (gw_t 257 (by decide +kernel) rfl), (gw_t 258 (by decide +kernel) rfl)⟩
theorem arX4_add : (parseMethodDescriptor mdX4_add.1.desc).map (fun d => d.parameters.length) = some 2 := by decide +kernel
theorem plX4_add : plainName mdX4_add.1.cls = true := by decide +kernel
abbrev mdX5_hill : MD := (yX5_hill, cX5_hill, 8, (some .int), 4)
theorem clX5_hill : CLV mdX5_hill := ⟨⟨(gw_t 172 (by decide +kernel) rfl), (gw_t 1 (by decide +kernel) rfl), by decide +kernel, by decide +kernel, trivial⟩, (gw_t 170 (by decide +kernel) rfl), (gw_t 171 (by decide +kernel) rfl)⟩
theorem arX5_hill : (parseMethodDescriptor mdX5_hill.1.desc).map (fun d => d.parameters.length) = some 4 := by decide +kernel
theorem plX5_hill : plainName mdX5_hill.1.cls = true := by decide +kernel
abbrev mdX5_sign : MD := (yX5_sign, cX5_sign, 2, (some .int), 3)
theorem clX5_sign : CLV mdX5_sign := ⟨⟨(gw_t 223 (by decide +kernel) rfl), (gw_t 1 (by decide +kernel) rfl), by decide +kernel, by decide +kernel, trivial⟩, (gw_t 221 (by decide +kernel) rfl), (gw_t 222 (by decide +kernel) rfl)⟩
theorem arX5_sign : (parseMethodDescriptor mdX5_sign.1.desc).map (fun d => d.parameters.length) = some 1 := by decide +kernel
theorem plX5_sign : plainName mdX5_sign.1.cls = true := by decide +kernel
abbrev mdX5_set : MD := (yX5_set, cX5_set, 4, (some .int), 3)
theorem clX5_set : CLV mdX5_set := ⟨⟨(gw_t 232 (by decide +kernel) rfl), (gw_t 1 (by decide +kernel) rfl), by decide +kernel, by decide +kernel, trivial⟩, (gw_t 230 (by decide +kernel) rfl), (gw_t 231 (by decide +kernel) rfl)⟩
theorem arX5_set : (parseMethodDescriptor mdX5_set.1.desc).map (fun d => d.parameters.length) = some 2 := by decide +kernel
theorem plX5_set : plainName mdX5_set.1.cls = true := by decide +kernel
abbrev mdX5_party : MD := (yX5_party, cX5_party, 2, (some .int), 2)
theorem clX5_party : CLV mdX5_party := ⟨⟨(gw_t 236 (by decide +kernel) rfl), (gw_t 1 (by decide +kernel) rfl), by decide +kernel, by decide +kernel, trivial⟩, (gw_t 234 (by decide +kernel) rfl), (gw_t 235 (by decide +kernel) rfl)⟩
theorem arX5_party : (parseMethodDescriptor mdX5_party.1.desc).map (fun d => d.parameters.length) = some 1 := by decide +kernel
theorem plX5_party : plainName mdX5_party.1.cls = true := by decide +kernel
abbrev mdX5_wet : MD := (yX5_wet, cX5_wet, 3, (some .int), 2)
theorem clX5_wet : CLV mdX5_wet := ⟨⟨(gw_t 244 (by decide +kernel) rfl), (gw_t 1 (by decide +kernel) rfl), by decide +kernel, by decide +kernel, trivial⟩, (gw_t 242 (by decide +kernel) rfl), (gw_t 243 (by decide +kernel) rfl)⟩
theorem arX5_wet : (parseMethodDescriptor mdX5_wet.1.desc).map (fun d => d.parameters.length) = some 1 := by decide +kernel
theorem plX5_wet : plainName mdX5_wet.1.cls = true := by decide +kernel
abbrev mdX5_vote : MD := (yX5_vote, cX5_vote, 3, (some .int), 2)
theorem clX5_vote : CLV mdX5_vote := ⟨⟨(gw_t 252 (by decide +kernel) rfl), (gw_t 1 (by decide +kernel) rfl), by decide +kernel, by decide +kernel, trivial⟩, (gw_t 250 (by decide +kernel) rfl), (gw_t 251 (by decide +kernel) rfl)⟩
theorem arX5_vote : (parseMethodDescriptor mdX5_vote.1.desc).map (fun d => d.parameters.length) = some 2 := by decide +kernel
theorem plX5_vote : plainName mdX5_vote.1.cls = true := by decide +kernel
abbrev mdX5_ofVote : MD := (yX5_ofVote, cX5_ofVote, 3, (some .int), 2)
theorem clX5_ofVote : CLV mdX5_ofVote := ⟨⟨(gw_t 263 (by decide +kernel) rfl), (gw_t 1 (by decide +kernel) rfl), by decide +kernel, by decide +kernel, trivial⟩, (gw_t 261 (by decide +kernel) rfl), (gw_t 262 (by decide +kernel) rfl)⟩
theorem arX5_ofVote : (parseMethodDescriptor mdX5_ofVote.1.desc).map (fun d => d.parameters.length) = some 2 := by decide +kernel
theorem plX5_ofVote : plainName mdX5_ofVote.1.cls = true := by decide +kernel
abbrev mdX5_back : MD := (yX5_back, cX5_back, 2, (some .int), 1)
theorem clX5_back : CLV mdX5_back := ⟨⟨(gw_t 279 (by decide +kernel) rfl), (gw_t 1 (by decide +kernel) rfl), by decide +kernel, by decide +kernel, trivial⟩, (gw_t 277 (by decide +kernel) rfl), (gw_t 278 (by decide +kernel) rfl)⟩
theorem arX5_back : (parseMethodDescriptor mdX5_back.1.desc).map (fun d => d.parameters.length) = some 1 := by decide +kernel
theorem plX5_back : plainName mdX5_back.1.cls = true := by decide +kernel
abbrev mdX5_roll : MD := (yX5_roll, cX5_roll, 7, (some .int), 4)
theorem clX5_roll : CLV mdX5_roll := ⟨⟨(gw_t 283 (by decide +kernel) rfl), (gw_t 1 (by decide +kernel) rfl), by decide +kernel, by decide +kernel, trivial⟩, (gw_t 281 (by decide +kernel) rfl), (gw_t 282 (by decide +kernel) rfl)⟩
theorem arX5_roll : (parseMethodDescriptor mdX5_roll.1.desc).map (fun d => d.parameters.length) = some 4 := by decide +kernel
theorem plX5_roll : plainName mdX5_roll.1.cls = true := by decide +kernel
abbrev mdX5_rollBy : MD := (yX5_rollBy, cX5_rollBy, 10, (some .int), 3)
theorem clX5_rollBy : CLV mdX5_rollBy := ⟨⟨(gw_t 287 (by decide +kernel) rfl), (gw_t 1 (by decide +kernel) rfl), by decide +kernel, by decide +kernel, trivial⟩, (gw_t 286 (by decide +kernel) rfl), (gw_s 1 (by decide +kernel) rfl)⟩
theorem arX5_rollBy : (parseMethodDescriptor mdX5_rollBy.1.desc).map (fun d => d.parameters.length) = some 3 := by decide +kernel
theorem plX5_rollBy : plainName mdX5_rollBy.1.cls = true := by decide +kernel
abbrev mdX5_chance : MD := (yX5_chance, cX5_chance, 5, (some .long), 4)
theorem clX5_chance : CLV mdX5_chance := ⟨⟨(gw_t 307 (by decide +kernel) rfl), (gw_t 1 (by decide +kernel) rfl), by decide +kernel, by decide +kernel, trivial⟩, (gw_t 305 (by decide +kernel) rfl), (gw_t 306 (by decide +kernel) rfl)⟩
theorem arX5_chance : (parseMethodDescriptor mdX5_chance.1.desc).map (fun d => d.parameters.length) = some 3 := by decide +kernel
theorem plX5_chance : plainName mdX5_chance.1.cls = true := by decide +kernel
abbrev mdX5_expects : MD := (yX5_expects, cX5_expects, 3, (some .long), 6)
theorem clX5_expects : CLV mdX5_expects := ⟨⟨(gw_t 342 (by decide +kernel) rfl), (gw_t 1 (by decide +kernel) rfl), by decide +kernel, by decide +kernel, trivial⟩, (gw_t 340 (by decide +kernel) rfl), (gw_t 341 (by decide +kernel) rfl)⟩
theorem arX5_expects : (parseMethodDescriptor mdX5_expects.1.desc).map (fun d => d.parameters.length) = some 2 := by decide +kernel
theorem plX5_expects : plainName mdX5_expects.1.cls = true := by decide +kernel
abbrev mdX5_leastTerms : MD := (yX5_leastTerms, cX5_leastTerms, 4, (some .int), 1)
theorem clX5_leastTerms : CLS mdX5_leastTerms := ⟨⟨(gw_t 337 (by decide +kernel) rfl), (gw_t 1 (by decide +kernel) rfl), by decide +kernel, by decide +kernel, trivial⟩, (gw_t 336 (by decide +kernel) rfl)⟩
theorem arX5_leastTerms : (parseMethodDescriptor mdX5_leastTerms.1.desc).map (fun d => d.parameters.length) = some 2 := by decide +kernel
theorem plX5_leastTerms : plainName mdX5_leastTerms.1.cls = true := by decide +kernel
abbrev mdX5_start : MD := (yX5_start, cX5_start, 3, (some .int), 5)
theorem clX5_start : CLV mdX5_start := ⟨⟨(gw_t 365 (by decide +kernel) rfl), (gw_t 1 (by decide +kernel) rfl), by decide +kernel, by decide +kernel, trivial⟩, (gw_t 363 (by decide +kernel) rfl), (gw_t 364 (by decide +kernel) rfl)⟩
theorem arX5_start : (parseMethodDescriptor mdX5_start.1.desc).map (fun d => d.parameters.length) = some 2 := by decide +kernel
theorem plX5_start : plainName mdX5_start.1.cls = true := by decide +kernel
abbrev mdX5_move : MD := (yX5_move, cX5_move, 2, (some .int), 6)
theorem clX5_move : CLV mdX5_move := ⟨⟨(gw_t 373 (by decide +kernel) rfl), (gw_t 1 (by decide +kernel) rfl), by decide +kernel, by decide +kernel, trivial⟩, (gw_t 371 (by decide +kernel) rfl), (gw_t 372 (by decide +kernel) rfl)⟩
theorem arX5_move : (parseMethodDescriptor mdX5_move.1.desc).map (fun d => d.parameters.length) = some 1 := by decide +kernel
theorem plX5_move : plainName mdX5_move.1.cls = true := by decide +kernel
abbrev mdX5_answer : MD := (yX5_answer, cX5_answer, 7, (some .int), 6)
theorem clX5_answer : CLV mdX5_answer := ⟨⟨(gw_t 389 (by decide +kernel) rfl), (gw_t 1 (by decide +kernel) rfl), by decide +kernel, by decide +kernel, trivial⟩, (gw_t 387 (by decide +kernel) rfl), (gw_t 388 (by decide +kernel) rfl)⟩
theorem arX5_answer : (parseMethodDescriptor mdX5_answer.1.desc).map (fun d => d.parameters.length) = some 2 := by decide +kernel
theorem plX5_answer : plainName mdX5_answer.1.cls = true := by decide +kernel
abbrev mdX5_likeliest : MD := (yX5_likeliest, cX5_likeliest, 3, (some .int), 5)
theorem clX5_likeliest : CLV mdX5_likeliest := ⟨⟨(gw_t 393 (by decide +kernel) rfl), (gw_t 1 (by decide +kernel) rfl), by decide +kernel, by decide +kernel, trivial⟩, (gw_t 391 (by decide +kernel) rfl), (gw_t 392 (by decide +kernel) rfl)⟩
theorem arX5_likeliest : (parseMethodDescriptor mdX5_likeliest.1.desc).map (fun d => d.parameters.length) = some 1 := by decide +kernel
theorem plX5_likeliest : plainName mdX5_likeliest.1.cls = true := by decide +kernel
abbrev mdX5_tally : MD := (yX5_tally, cX5_tally, 2, (some .int), 7)
theorem clX5_tally : CLV mdX5_tally := ⟨⟨(gw_t 403 (by decide +kernel) rfl), (gw_t 1 (by decide +kernel) rfl), by decide +kernel, by decide +kernel, trivial⟩, (gw_t 401 (by decide +kernel) rfl), (gw_t 402 (by decide +kernel) rfl)⟩
theorem arX5_tally : (parseMethodDescriptor mdX5_tally.1.desc).map (fun d => d.parameters.length) = some 1 := by decide +kernel
theorem plX5_tally : plainName mdX5_tally.1.cls = true := by decide +kernel
abbrev mdX5_winner : MD := (yX5_winner, cX5_winner, 2, (some .int), 7)
theorem clX5_winner : CLV mdX5_winner := ⟨⟨(gw_t 420 (by decide +kernel) rfl), (gw_t 1 (by decide +kernel) rfl), by decide +kernel, by decide +kernel, trivial⟩, (gw_t 418 (by decide +kernel) rfl), (gw_t 419 (by decide +kernel) rfl)⟩
theorem arX5_winner : (parseMethodDescriptor mdX5_winner.1.desc).map (fun d => d.parameters.length) = some 1 := by decide +kernel
theorem plX5_winner : plainName mdX5_winner.1.cls = true := by decide +kernel
abbrev mdX5_dams : MD := (yX5_dams, cX5_dams, 2, (some .long), 5)
theorem clX5_dams : CLV mdX5_dams := ⟨⟨(gw_t 436 (by decide +kernel) rfl), (gw_t 1 (by decide +kernel) rfl), by decide +kernel, by decide +kernel, trivial⟩, (gw_t 434 (by decide +kernel) rfl), (gw_t 435 (by decide +kernel) rfl)⟩
theorem arX5_dams : (parseMethodDescriptor mdX5_dams.1.desc).map (fun d => d.parameters.length) = some 1 := by decide +kernel
theorem plX5_dams : plainName mdX5_dams.1.cls = true := by decide +kernel
abbrev mdX5_ways : MD := (yX5_ways, cX5_ways, 8, (some .int), 5)
theorem clX5_ways : CLV mdX5_ways := ⟨⟨(gw_t 444 (by decide +kernel) rfl), (gw_t 1 (by decide +kernel) rfl), by decide +kernel, by decide +kernel, trivial⟩, (gw_t 442 (by decide +kernel) rfl), (gw_t 443 (by decide +kernel) rfl)⟩
theorem arX5_ways : (parseMethodDescriptor mdX5_ways.1.desc).map (fun d => d.parameters.length) = some 4 := by decide +kernel
theorem plX5_ways : plainName mdX5_ways.1.cls = true := by decide +kernel
abbrev mdX5_fair : MD := (yX5_fair, cX5_fair, 1, (some .int), 6)
theorem clX5_fair : CLV mdX5_fair := ⟨⟨(gw_t 479 (by decide +kernel) rfl), (gw_t 1 (by decide +kernel) rfl), by decide +kernel, by decide +kernel, trivial⟩, (gw_t 477 (by decide +kernel) rfl), (gw_t 478 (by decide +kernel) rfl)⟩
theorem arX5_fair : (parseMethodDescriptor mdX5_fair.1.desc).map (fun d => d.parameters.length) = some 0 := by decide +kernel
theorem plX5_fair : plainName mdX5_fair.1.cls = true := by decide +kernel
abbrev mdX5_sheet : MD := (yX5_sheet, cX5_sheet, 4, (some .int), 3)
theorem clX5_sheet : CLV mdX5_sheet := ⟨⟨(gw_t 495 (by decide +kernel) rfl), (gw_t 1 (by decide +kernel) rfl), by decide +kernel, by decide +kernel, trivial⟩, (gw_t 493 (by decide +kernel) rfl), (gw_t 494 (by decide +kernel) rfl)⟩
theorem arX5_sheet : (parseMethodDescriptor mdX5_sheet.1.desc).map (fun d => d.parameters.length) = some 3 := by decide +kernel
theorem plX5_sheet : plainName mdX5_sheet.1.cls = true := by decide +kernel
abbrev mdX5_lose : MD := (yX5_lose, cX5_lose, 3, (some .int), 2)
theorem clX5_lose : CLV mdX5_lose := ⟨⟨(gw_t 504 (by decide +kernel) rfl), (gw_t 1 (by decide +kernel) rfl), by decide +kernel, by decide +kernel, trivial⟩, (gw_t 502 (by decide +kernel) rfl), (gw_t 503 (by decide +kernel) rfl)⟩
theorem arX5_lose : (parseMethodDescriptor mdX5_lose.1.desc).map (fun d => d.parameters.length) = some 1 := by decide +kernel
theorem plX5_lose : plainName mdX5_lose.1.cls = true := by decide +kernel
abbrev mdX5_put : MD := (yX5_put, cX5_put, 4, (some .int), 3)
theorem clX5_put : CLV mdX5_put := ⟨⟨(gw_t 508 (by decide +kernel) rfl), (gw_t 1 (by decide +kernel) rfl), by decide +kernel, by decide +kernel, trivial⟩, (gw_t 506 (by decide +kernel) rfl), (gw_t 507 (by decide +kernel) rfl)⟩
theorem arX5_put : (parseMethodDescriptor mdX5_put.1.desc).map (fun d => d.parameters.length) = some 3 := by decide +kernel
theorem plX5_put : plainName mdX5_put.1.cls = true := by decide +kernel
abbrev mdX5_cell : MD := (yX5_cell, cX5_cell, 5, (some .long), 3)
theorem clX5_cell : CLV mdX5_cell := ⟨⟨(gw_t 520 (by decide +kernel) rfl), (gw_t 1 (by decide +kernel) rfl), by decide +kernel, by decide +kernel, trivial⟩, (gw_t 518 (by decide +kernel) rfl), (gw_t 519 (by decide +kernel) rfl)⟩
theorem arX5_cell : (parseMethodDescriptor mdX5_cell.1.desc).map (fun d => d.parameters.length) = some 3 := by decide +kernel
theorem plX5_cell : plainName mdX5_cell.1.cls = true := by decide +kernel
abbrev mdX5_copy : MD := (yX5_copy, cX5_copy, 8, (some .int), 2)
theorem clX5_copy : CLV mdX5_copy := ⟨⟨(gw_t 524 (by decide +kernel) rfl), (gw_t 1 (by decide +kernel) rfl), by decide +kernel, by decide +kernel, trivial⟩, (gw_t 522 (by decide +kernel) rfl), (gw_t 523 (by decide +kernel) rfl)⟩
theorem arX5_copy : (parseMethodDescriptor mdX5_copy.1.desc).map (fun d => d.parameters.length) = some 5 := by decide +kernel
theorem plX5_copy : plainName mdX5_copy.1.cls = true := by decide +kernel
abbrev mdX5_tell : MD := (yX5_tell, cX5_tell, 2, (some .int), 5)
theorem clX5_tell : CLV mdX5_tell := ⟨⟨(gw_t 531 (by decide +kernel) rfl), (gw_t 1 (by decide +kernel) rfl), by decide +kernel, by decide +kernel, trivial⟩, (gw_t 529 (by decide +kernel) rfl), (gw_t 530 (by decide +kernel) rfl)⟩
theorem arX5_tell : (parseMethodDescriptor mdX5_tell.1.desc).map (fun d => d.parameters.length) = some 1 := by decide +kernel
theorem plX5_tell : plainName mdX5_tell.1.cls = true := by decide +kernel
abbrev mdX5_toldByMarble : MD := (yX5_toldByMarble, cX5_toldByMarble, 2, (some .int), 2)
theorem clX5_toldByMarble : CLV mdX5_toldByMarble := ⟨⟨(gw_t 547 (by decide +kernel) rfl), (gw_t 1 (by decide +kernel) rfl), by decide +kernel, by decide +kernel, trivial⟩, (gw_t 546 (by decide +kernel) rfl), (gw_s 19 (by decide +kernel) rfl)⟩
theorem arX5_toldByMarble : (parseMethodDescriptor mdX5_toldByMarble.1.desc).map (fun d => d.parameters.length) = some 1 := by decide +kernel
theorem plX5_toldByMarble : plainName mdX5_toldByMarble.1.cls = true := by decide +kernel
abbrev mdX5_toldByHeavy : MD := (yX5_toldByHeavy, cX5_toldByHeavy, 2, (some .int), 3)
theorem clX5_toldByHeavy : CLV mdX5_toldByHeavy := ⟨⟨(gw_t 543 (by decide +kernel) rfl), (gw_t 1 (by decide +kernel) rfl), by decide +kernel, by decide +kernel, trivial⟩, (gw_t 542 (by decide +kernel) rfl), (gw_s 18 (by decide +kernel) rfl)⟩
theorem arX5_toldByHeavy : (parseMethodDescriptor mdX5_toldByHeavy.1.desc).map (fun d => d.parameters.length) = some 1 := by decide +kernel
theorem plX5_toldByHeavy : plainName mdX5_toldByHeavy.1.cls = true := by decide +kernel
abbrev mdX5_toldByLead : MD := (yX5_toldByLead, cX5_toldByLead, 3, (some .int), 4)
theorem clX5_toldByLead : CLV mdX5_toldByLead := ⟨⟨(gw_t 535 (by decide +kernel) rfl), (gw_t 1 (by decide +kernel) rfl), by decide +kernel, by decide +kernel, trivial⟩, (gw_t 534 (by decide +kernel) rfl), (gw_s 16 (by decide +kernel) rfl)⟩
theorem arX5_toldByLead : (parseMethodDescriptor mdX5_toldByLead.1.desc).map (fun d => d.parameters.length) = some 1 := by decide +kernel
theorem plX5_toldByLead : plainName mdX5_toldByLead.1.cls = true := by decide +kernel
abbrev mdX5_weigh : MD := (yX5_weigh, cX5_weigh, 2, (some .int), 2)
theorem clX5_weigh : CLV mdX5_weigh := ⟨⟨(gw_t 551 (by decide +kernel) rfl), (gw_t 1 (by decide +kernel) rfl), by decide +kernel, by decide +kernel, trivial⟩, (gw_t 549 (by decide +kernel) rfl), (gw_t 550 (by decide +kernel) rfl)⟩
theorem arX5_weigh : (parseMethodDescriptor mdX5_weigh.1.desc).map (fun d => d.parameters.length) = some 1 := by decide +kernel
theorem plX5_weigh : plainName mdX5_weigh.1.cls = true := by decide +kernel
abbrev mdX5_as : MD := (yX5_as, cX5_as, 3, (some .int), 2)
theorem clX5_as : CLV mdX5_as := ⟨⟨(gw_t 555 (by decide +kernel) rfl), (gw_t 1 (by decide +kernel) rfl), by decide +kernel, by decide +kernel, trivial⟩, (gw_t 553 (by decide +kernel) rfl), (gw_t 554 (by decide +kernel) rfl)⟩
theorem arX5_as : (parseMethodDescriptor mdX5_as.1.desc).map (fun d => d.parameters.length) = some 2 := by decide +kernel
theorem plX5_as : plainName mdX5_as.1.cls = true := by decide +kernel
abbrev mdX5_trace : MD := (yX5_trace, cX5_trace, 1, (some .int), 1)
theorem clX5_trace : CLV mdX5_trace := ⟨⟨(gw_t 559 (by decide +kernel) rfl), (gw_t 1 (by decide +kernel) rfl), by decide +kernel, by decide +kernel, trivial⟩, (gw_t 557 (by decide +kernel) rfl), (gw_t 558 (by decide +kernel) rfl)⟩
theorem arX5_trace : (parseMethodDescriptor mdX5_trace.1.desc).map (fun d => d.parameters.length) = some 0 := by decide +kernel
theorem plX5_trace : plainName mdX5_trace.1.cls = true := by decide +kernel
abbrev mdX5_fault : MD := (yX5_fault, cX5_fault, 1, (some .int), 1)
theorem clX5_fault : CLV mdX5_fault := ⟨⟨(gw_t 563 (by decide +kernel) rfl), (gw_t 1 (by decide +kernel) rfl), by decide +kernel, by decide +kernel, trivial⟩, (gw_t 561 (by decide +kernel) rfl), (gw_t 562 (by decide +kernel) rfl)⟩
theorem arX5_fault : (parseMethodDescriptor mdX5_fault.1.desc).map (fun d => d.parameters.length) = some 0 := by decide +kernel
theorem plX5_fault : plainName mdX5_fault.1.cls = true := by decide +kernel
abbrev mdX5_many : MD := (yX5_many, cX5_many, 2, (some .int), 2)
theorem clX5_many : CLV mdX5_many := ⟨⟨(gw_t 567 (by decide +kernel) rfl), (gw_t 1 (by decide +kernel) rfl), by decide +kernel, by decide +kernel, trivial⟩, (gw_t 565 (by decide +kernel) rfl), (gw_t 566 (by decide +kernel) rfl)⟩
theorem arX5_many : (parseMethodDescriptor mdX5_many.1.desc).map (fun d => d.parameters.length) = some 1 := by decide +kernel
theorem plX5_many : plainName mdX5_many.1.cls = true := by decide +kernel
abbrev mdX5_leaveTrace : MD := (yX5_leaveTrace, cX5_leaveTrace, 2, none, 1)
theorem clX5_leaveTrace : CLV mdX5_leaveTrace := ⟨⟨(gw_t 539 (by decide +kernel) rfl), (gw_t 1 (by decide +kernel) rfl), by decide +kernel, by decide +kernel, trivial⟩, (gw_t 538 (by decide +kernel) rfl), (gw_s 17 (by decide +kernel) rfl)⟩
theorem arX5_leaveTrace : (parseMethodDescriptor mdX5_leaveTrace.1.desc).map (fun d => d.parameters.length) = some 1 := by decide +kernel
theorem plX5_leaveTrace : plainName mdX5_leaveTrace.1.cls = true := by decide +kernel
abbrev mdX5_failed : MD := (yX5_failed, cX5_failed, 2, (some .int), 1)
theorem clX5_failed : CLV mdX5_failed := ⟨⟨(gw_t 190 (by decide +kernel) rfl), (gw_t 1 (by decide +kernel) rfl), by decide +kernel, by decide +kernel, trivial⟩, (gw_t 189 (by decide +kernel) rfl), (gw_s 0 (by decide +kernel) rfl)⟩
theorem arX5_failed : (parseMethodDescriptor mdX5_failed.1.desc).map (fun d => d.parameters.length) = some 1 := by decide +kernel
theorem plX5_failed : plainName mdX5_failed.1.cls = true := by decide +kernel
abbrev mdX5_isSheet : MD := (yX5_isSheet, cX5_isSheet, 1, (some .boolean), 1)
theorem clX5_isSheet : CLS mdX5_isSheet := ⟨⟨(gw_t 175 (by decide +kernel) rfl), (gw_t 1 (by decide +kernel) rfl), by decide +kernel, by decide +kernel, trivial⟩, (gw_t 174 (by decide +kernel) rfl)⟩
theorem arX5_isSheet : (parseMethodDescriptor mdX5_isSheet.1.desc).map (fun d => d.parameters.length) = some 1 := by decide +kernel
theorem plX5_isSheet : plainName mdX5_isSheet.1.cls = true := by decide +kernel
abbrev mdX5_isLane : MD := (yX5_isLane, cX5_isLane, 1, (some .boolean), 1)
theorem clX5_isLane : CLS mdX5_isLane := ⟨⟨(gw_t 178 (by decide +kernel) rfl), (gw_t 1 (by decide +kernel) rfl), by decide +kernel, by decide +kernel, trivial⟩, (gw_t 177 (by decide +kernel) rfl)⟩
theorem arX5_isLane : (parseMethodDescriptor mdX5_isLane.1.desc).map (fun d => d.parameters.length) = some 1 := by decide +kernel
theorem plX5_isLane : plainName mdX5_isLane.1.cls = true := by decide +kernel
abbrev mdX5_isKind : MD := (yX5_isKind, cX5_isKind, 1, (some .boolean), 1)
theorem clX5_isKind : CLS mdX5_isKind := ⟨⟨(gw_t 255 (by decide +kernel) rfl), (gw_t 1 (by decide +kernel) rfl), by decide +kernel, by decide +kernel, trivial⟩, (gw_t 254 (by decide +kernel) rfl)⟩
theorem arX5_isKind : (parseMethodDescriptor mdX5_isKind.1.desc).map (fun d => d.parameters.length) = some 1 := by decide +kernel
theorem plX5_isKind : plainName mdX5_isKind.1.cls = true := by decide +kernel
abbrev mdX5_isParty : MD := (yX5_isParty, cX5_isParty, 1, (some .boolean), 1)
theorem clX5_isParty : CLS mdX5_isParty := ⟨⟨(gw_t 345 (by decide +kernel) rfl), (gw_t 1 (by decide +kernel) rfl), by decide +kernel, by decide +kernel, trivial⟩, (gw_t 344 (by decide +kernel) rfl)⟩
theorem arX5_isParty : (parseMethodDescriptor mdX5_isParty.1.desc).map (fun d => d.parameters.length) = some 1 := by decide +kernel
theorem plX5_isParty : plainName mdX5_isParty.1.cls = true := by decide +kernel
abbrev mdX6_in : MD := (yX6_in, cX6_in, 6, (some .boolean), 1)
theorem clX6_in : CLS mdX6_in := ⟨⟨(gw_t 667 (by decide +kernel) rfl), (gw_t 7 (by decide +kernel) rfl), by decide +kernel, by decide +kernel, trivial⟩, (gw_t 666 (by decide +kernel) rfl)⟩
theorem arX6_in : (parseMethodDescriptor mdX6_in.1.desc).map (fun d => d.parameters.length) = some 3 := by decide +kernel
theorem plX6_in : plainName mdX6_in.1.cls = true := by decide +kernel
abbrev mdX6_lost : MD := (yX6_lost, cX6_lost, 0, (some .long), 1)
theorem clX6_lost : CLS mdX6_lost := ⟨⟨(gw_t 779 (by decide +kernel) rfl), (gw_t 7 (by decide +kernel) rfl), by decide +kernel, by decide +kernel, trivial⟩, (gw_t 778 (by decide +kernel) rfl)⟩
theorem arX6_lost : (parseMethodDescriptor mdX6_lost.1.desc).map (fun d => d.parameters.length) = some 0 := by decide +kernel
theorem plX6_lost : plainName mdX6_lost.1.cls = true := by decide +kernel
abbrev mdX6_isIn : MD := (yX6_isIn, cX6_isIn, 2, (some .boolean), 1)
theorem clX6_isIn : CLS mdX6_isIn := ⟨⟨(gw_t 878 (by decide +kernel) rfl), (gw_t 7 (by decide +kernel) rfl), by decide +kernel, by decide +kernel, trivial⟩, (gw_t 877 (by decide +kernel) rfl)⟩
theorem arX6_isIn : (parseMethodDescriptor mdX6_isIn.1.desc).map (fun d => d.parameters.length) = some 2 := by decide +kernel
theorem plX6_isIn : plainName mdX6_isIn.1.cls = true := by decide +kernel
abbrev mdX6_bits : MD := (yX6_bits, cX6_bits, 3, (some .int), 1)
theorem clX6_bits : CLS mdX6_bits := ⟨⟨(gw_t 875 (by decide +kernel) rfl), (gw_t 7 (by decide +kernel) rfl), by decide +kernel, by decide +kernel, trivial⟩, (gw_t 874 (by decide +kernel) rfl)⟩
theorem arX6_bits : (parseMethodDescriptor mdX6_bits.1.desc).map (fun d => d.parameters.length) = some 1 := by decide +kernel
theorem plX6_bits : plainName mdX6_bits.1.cls = true := by decide +kernel
abbrev mdX6_told : MD := (yX6_told, cX6_told, 11, (some .long), 1)
theorem clX6_told : CLS mdX6_told := ⟨⟨(gw_t 792 (by decide +kernel) rfl), (gw_t 7 (by decide +kernel) rfl), by decide +kernel, by decide +kernel, trivial⟩, (gw_t 791 (by decide +kernel) rfl)⟩
theorem arX6_told : (parseMethodDescriptor mdX6_told.1.desc).map (fun d => d.parameters.length) = some 3 := by decide +kernel
theorem plX6_told : plainName mdX6_told.1.cls = true := by decide +kernel
abbrev mdX6_refused : MD := (yX6_refused, cX6_refused, 2, (some .int), 1)
theorem clX6_refused : CLV mdX6_refused := ⟨⟨(gw_t 671 (by decide +kernel) rfl), (gw_t 7 (by decide +kernel) rfl), by decide +kernel, by decide +kernel, trivial⟩, (gw_t 670 (by decide +kernel) rfl), (gw_s 20 (by decide +kernel) rfl)⟩
theorem arX6_refused : (parseMethodDescriptor mdX6_refused.1.desc).map (fun d => d.parameters.length) = some 1 := by decide +kernel
theorem plX6_refused : plainName mdX6_refused.1.cls = true := by decide +kernel
abbrev mdX6_failed : MD := (yX6_failed, cX6_failed, 2, (some .int), 1)
theorem clX6_failed : CLV mdX6_failed := ⟨⟨(gw_t 680 (by decide +kernel) rfl), (gw_t 7 (by decide +kernel) rfl), by decide +kernel, by decide +kernel, trivial⟩, (gw_t 679 (by decide +kernel) rfl), (gw_s 22 (by decide +kernel) rfl)⟩
theorem arX6_failed : (parseMethodDescriptor mdX6_failed.1.desc).map (fun d => d.parameters.length) = some 1 := by decide +kernel
theorem plX6_failed : plainName mdX6_failed.1.cls = true := by decide +kernel
abbrev mdX6_failedLong : MD := (yX6_failedLong, cX6_failedLong, 2, (some .long), 2)
theorem clX6_failedLong : CLV mdX6_failedLong := ⟨⟨(gw_t 906 (by decide +kernel) rfl), (gw_t 7 (by decide +kernel) rfl), by decide +kernel, by decide +kernel, trivial⟩, (gw_t 905 (by decide +kernel) rfl), (gw_s 49 (by decide +kernel) rfl)⟩
theorem arX6_failedLong : (parseMethodDescriptor mdX6_failedLong.1.desc).map (fun d => d.parameters.length) = some 1 := by decide +kernel
theorem plX6_failedLong : plainName mdX6_failedLong.1.cls = true := by decide +kernel
abbrev mdX6_cells : MD := (yX6_cells, cX6_cells, 1, (some .int), 1)
theorem clX6_cells : CLV mdX6_cells := ⟨⟨(gw_t 706 (by decide +kernel) rfl), (gw_t 7 (by decide +kernel) rfl), by decide +kernel, by decide +kernel, trivial⟩, (gw_t 705 (by decide +kernel) rfl), (gw_s 27 (by decide +kernel) rfl)⟩
theorem arX6_cells : (parseMethodDescriptor mdX6_cells.1.desc).map (fun d => d.parameters.length) = some 0 := by decide +kernel
theorem plX6_cells : plainName mdX6_cells.1.cls = true := by decide +kernel
abbrev mdX6_noCell : MD := (yX6_noCell, cX6_noCell, 2, (some .boolean), 2)
theorem clX6_noCell : CLV mdX6_noCell := ⟨⟨(gw_t 714 (by decide +kernel) rfl), (gw_t 7 (by decide +kernel) rfl), by decide +kernel, by decide +kernel, trivial⟩, (gw_t 713 (by decide +kernel) rfl), (gw_s 28 (by decide +kernel) rfl)⟩
theorem arX6_noCell : (parseMethodDescriptor mdX6_noCell.1.desc).map (fun d => d.parameters.length) = some 1 := by decide +kernel
theorem plX6_noCell : plainName mdX6_noCell.1.cls = true := by decide +kernel
abbrev mdX6_noColumn : MD := (yX6_noColumn, cX6_noColumn, 2, (some .boolean), 2)
theorem clX6_noColumn : CLV mdX6_noColumn := ⟨⟨(gw_t 727 (by decide +kernel) rfl), (gw_t 7 (by decide +kernel) rfl), by decide +kernel, by decide +kernel, trivial⟩, (gw_t 726 (by decide +kernel) rfl), (gw_s 29 (by decide +kernel) rfl)⟩
theorem arX6_noColumn : (parseMethodDescriptor mdX6_noColumn.1.desc).map (fun d => d.parameters.length) = some 1 := by decide +kernel
theorem plX6_noColumn : plainName mdX6_noColumn.1.cls = true := by decide +kernel
abbrev mdX6_noParty : MD := (yX6_noParty, cX6_noParty, 1, (some .boolean), 2)
theorem clX6_noParty : CLS mdX6_noParty := ⟨⟨(gw_t 799 (by decide +kernel) rfl), (gw_t 7 (by decide +kernel) rfl), by decide +kernel, by decide +kernel, trivial⟩, (gw_t 798 (by decide +kernel) rfl)⟩
theorem arX6_noParty : (parseMethodDescriptor mdX6_noParty.1.desc).map (fun d => d.parameters.length) = some 1 := by decide +kernel
theorem plX6_noParty : plainName mdX6_noParty.1.cls = true := by decide +kernel
abbrev mdX6_codeAt : MD := (yX6_codeAt, cX6_codeAt, 3, (some .int), 1)
theorem clX6_codeAt : CLV mdX6_codeAt := ⟨⟨(gw_t 691 (by decide +kernel) rfl), (gw_t 7 (by decide +kernel) rfl), by decide +kernel, by decide +kernel, trivial⟩, (gw_t 690 (by decide +kernel) rfl), (gw_s 24 (by decide +kernel) rfl)⟩
theorem arX6_codeAt : (parseMethodDescriptor mdX6_codeAt.1.desc).map (fun d => d.parameters.length) = some 2 := by decide +kernel
theorem plX6_codeAt : plainName mdX6_codeAt.1.cls = true := by decide +kernel
abbrev mdX6_figure : MD := (yX6_figure, cX6_figure, 7, (some .int), 2)
theorem clX6_figure : CLV mdX6_figure := ⟨⟨(gw_t 695 (by decide +kernel) rfl), (gw_t 7 (by decide +kernel) rfl), by decide +kernel, by decide +kernel, trivial⟩, (gw_t 694 (by decide +kernel) rfl), (gw_s 25 (by decide +kernel) rfl)⟩
theorem arX6_figure : (parseMethodDescriptor mdX6_figure.1.desc).map (fun d => d.parameters.length) = some 4 := by decide +kernel
theorem plX6_figure : plainName mdX6_figure.1.cls = true := by decide +kernel
abbrev mdX6_signBy : MD := (yX6_signBy, cX6_signBy, 1, (some .int), 1)
theorem clX6_signBy : CLS mdX6_signBy := ⟨⟨(gw_t 702 (by decide +kernel) rfl), (gw_t 7 (by decide +kernel) rfl), by decide +kernel, by decide +kernel, trivial⟩, (gw_t 701 (by decide +kernel) rfl)⟩
theorem arX6_signBy : (parseMethodDescriptor mdX6_signBy.1.desc).map (fun d => d.parameters.length) = some 1 := by decide +kernel
theorem plX6_signBy : plainName mdX6_signBy.1.cls = true := by decide +kernel
abbrev mdX6_readsCell : MD := (yX6_readsCell, cX6_readsCell, 5, (some .boolean), 2)
theorem clX6_readsCell : CLV mdX6_readsCell := ⟨⟨(gw_t 699 (by decide +kernel) rfl), (gw_t 7 (by decide +kernel) rfl), by decide +kernel, by decide +kernel, trivial⟩, (gw_t 698 (by decide +kernel) rfl), (gw_s 26 (by decide +kernel) rfl)⟩
theorem arX6_readsCell : (parseMethodDescriptor mdX6_readsCell.1.desc).map (fun d => d.parameters.length) = some 3 := by decide +kernel
theorem plX6_readsCell : plainName mdX6_readsCell.1.cls = true := by decide +kernel
abbrev mdX6_readsHill : MD := (yX6_readsHill, cX6_readsHill, 5, (some .boolean), 3)
theorem clX6_readsHill : CLV mdX6_readsHill := ⟨⟨(gw_t 687 (by decide +kernel) rfl), (gw_t 7 (by decide +kernel) rfl), by decide +kernel, by decide +kernel, trivial⟩, (gw_t 686 (by decide +kernel) rfl), (gw_s 23 (by decide +kernel) rfl)⟩
theorem arX6_readsHill : (parseMethodDescriptor mdX6_readsHill.1.desc).map (fun d => d.parameters.length) = some 2 := by decide +kernel
theorem plX6_readsHill : plainName mdX6_readsHill.1.cls = true := by decide +kernel
abbrev mdX6_cellsBarred : MD := (yX6_cellsBarred, cX6_cellsBarred, 6, (some .int), 2)
theorem clX6_cellsBarred : CLV mdX6_cellsBarred := ⟨⟨(gw_t 676 (by decide +kernel) rfl), (gw_t 7 (by decide +kernel) rfl), by decide +kernel, by decide +kernel, trivial⟩, (gw_t 675 (by decide +kernel) rfl), (gw_s 21 (by decide +kernel) rfl)⟩
theorem arX6_cellsBarred : (parseMethodDescriptor mdX6_cellsBarred.1.desc).map (fun d => d.parameters.length) = some 4 := by decide +kernel
theorem plX6_cellsBarred : plainName mdX6_cellsBarred.1.cls = true := by decide +kernel
abbrev mdX6_hill : MD := (yX6_hill, cX6_hill, 7, (some .int), 4)
theorem clX6_hill : CLV mdX6_hill := ⟨⟨(gw_t 660 (by decide +kernel) rfl), (gw_t 7 (by decide +kernel) rfl), by decide +kernel, by decide +kernel, trivial⟩, (gw_t 658 (by decide +kernel) rfl), (gw_t 659 (by decide +kernel) rfl)⟩
theorem arX6_hill : (parseMethodDescriptor mdX6_hill.1.desc).map (fun d => d.parameters.length) = some 4 := by decide +kernel
theorem plX6_hill : plainName mdX6_hill.1.cls = true := by decide +kernel
abbrev mdX6_sign : MD := (yX6_sign, cX6_sign, 2, (some .int), 3)
theorem clX6_sign : CLV mdX6_sign := ⟨⟨(gw_t 710 (by decide +kernel) rfl), (gw_t 7 (by decide +kernel) rfl), by decide +kernel, by decide +kernel, trivial⟩, (gw_t 708 (by decide +kernel) rfl), (gw_t 709 (by decide +kernel) rfl)⟩
theorem arX6_sign : (parseMethodDescriptor mdX6_sign.1.desc).map (fun d => d.parameters.length) = some 1 := by decide +kernel
theorem plX6_sign : plainName mdX6_sign.1.cls = true := by decide +kernel
abbrev mdX6_set : MD := (yX6_set, cX6_set, 4, (some .int), 3)
theorem clX6_set : CLV mdX6_set := ⟨⟨(gw_t 718 (by decide +kernel) rfl), (gw_t 7 (by decide +kernel) rfl), by decide +kernel, by decide +kernel, trivial⟩, (gw_t 716 (by decide +kernel) rfl), (gw_t 717 (by decide +kernel) rfl)⟩
theorem arX6_set : (parseMethodDescriptor mdX6_set.1.desc).map (fun d => d.parameters.length) = some 2 := by decide +kernel
theorem plX6_set : plainName mdX6_set.1.cls = true := by decide +kernel
abbrev mdX6_party : MD := (yX6_party, cX6_party, 2, (some .int), 3)
theorem clX6_party : CLV mdX6_party := ⟨⟨(gw_t 723 (by decide +kernel) rfl), (gw_t 7 (by decide +kernel) rfl), by decide +kernel, by decide +kernel, trivial⟩, (gw_t 721 (by decide +kernel) rfl), (gw_t 722 (by decide +kernel) rfl)⟩
theorem arX6_party : (parseMethodDescriptor mdX6_party.1.desc).map (fun d => d.parameters.length) = some 1 := by decide +kernel
theorem plX6_party : plainName mdX6_party.1.cls = true := by decide +kernel
abbrev mdX6_wet : MD := (yX6_wet, cX6_wet, 3, (some .int), 1)
theorem clX6_wet : CLV mdX6_wet := ⟨⟨(gw_t 731 (by decide +kernel) rfl), (gw_t 7 (by decide +kernel) rfl), by decide +kernel, by decide +kernel, trivial⟩, (gw_t 729 (by decide +kernel) rfl), (gw_t 730 (by decide +kernel) rfl)⟩
theorem arX6_wet : (parseMethodDescriptor mdX6_wet.1.desc).map (fun d => d.parameters.length) = some 1 := by decide +kernel
theorem plX6_wet : plainName mdX6_wet.1.cls = true := by decide +kernel
abbrev mdX6_noVote : MD := (yX6_noVote, cX6_noVote, 2, (some .boolean), 2)
theorem clX6_noVote : CLV mdX6_noVote := ⟨⟨(gw_t 743 (by decide +kernel) rfl), (gw_t 7 (by decide +kernel) rfl), by decide +kernel, by decide +kernel, trivial⟩, (gw_t 742 (by decide +kernel) rfl), (gw_s 30 (by decide +kernel) rfl)⟩
theorem arX6_noVote : (parseMethodDescriptor mdX6_noVote.1.desc).map (fun d => d.parameters.length) = some 1 := by decide +kernel
theorem plX6_noVote : plainName mdX6_noVote.1.cls = true := by decide +kernel
abbrev mdX6_vote : MD := (yX6_vote, cX6_vote, 3, (some .int), 3)
theorem clX6_vote : CLV mdX6_vote := ⟨⟨(gw_t 735 (by decide +kernel) rfl), (gw_t 7 (by decide +kernel) rfl), by decide +kernel, by decide +kernel, trivial⟩, (gw_t 733 (by decide +kernel) rfl), (gw_t 734 (by decide +kernel) rfl)⟩
theorem arX6_vote : (parseMethodDescriptor mdX6_vote.1.desc).map (fun d => d.parameters.length) = some 2 := by decide +kernel
theorem plX6_vote : plainName mdX6_vote.1.cls = true := by decide +kernel
abbrev mdX6_leftOf : MD := (yX6_leftOf, cX6_leftOf, 2, (some .int), 1)
theorem clX6_leftOf : CLV mdX6_leftOf := ⟨⟨(gw_t 747 (by decide +kernel) rfl), (gw_t 7 (by decide +kernel) rfl), by decide +kernel, by decide +kernel, trivial⟩, (gw_t 746 (by decide +kernel) rfl), (gw_s 31 (by decide +kernel) rfl)⟩
theorem arX6_leftOf : (parseMethodDescriptor mdX6_leftOf.1.desc).map (fun d => d.parameters.length) = some 1 := by decide +kernel
theorem plX6_leftOf : plainName mdX6_leftOf.1.cls = true := by decide +kernel
abbrev mdX6_rightOf : MD := (yX6_rightOf, cX6_rightOf, 2, (some .int), 1)
theorem clX6_rightOf : CLV mdX6_rightOf := ⟨⟨(gw_t 751 (by decide +kernel) rfl), (gw_t 7 (by decide +kernel) rfl), by decide +kernel, by decide +kernel, trivial⟩, (gw_t 750 (by decide +kernel) rfl), (gw_s 32 (by decide +kernel) rfl)⟩
theorem arX6_rightOf : (parseMethodDescriptor mdX6_rightOf.1.desc).map (fun d => d.parameters.length) = some 1 := by decide +kernel
theorem plX6_rightOf : plainName mdX6_rightOf.1.cls = true := by decide +kernel
abbrev mdX6_ofVote : MD := (yX6_ofVote, cX6_ofVote, 3, (some .int), 3)
theorem clX6_ofVote : CLV mdX6_ofVote := ⟨⟨(gw_t 739 (by decide +kernel) rfl), (gw_t 7 (by decide +kernel) rfl), by decide +kernel, by decide +kernel, trivial⟩, (gw_t 737 (by decide +kernel) rfl), (gw_t 738 (by decide +kernel) rfl)⟩
theorem arX6_ofVote : (parseMethodDescriptor mdX6_ofVote.1.desc).map (fun d => d.parameters.length) = some 2 := by decide +kernel
theorem plX6_ofVote : plainName mdX6_ofVote.1.cls = true := by decide +kernel
abbrev mdX6_back : MD := (yX6_back, cX6_back, 2, (some .int), 2)
theorem clX6_back : CLV mdX6_back := ⟨⟨(gw_t 755 (by decide +kernel) rfl), (gw_t 7 (by decide +kernel) rfl), by decide +kernel, by decide +kernel, trivial⟩, (gw_t 753 (by decide +kernel) rfl), (gw_t 754 (by decide +kernel) rfl)⟩
theorem arX6_back : (parseMethodDescriptor mdX6_back.1.desc).map (fun d => d.parameters.length) = some 1 := by decide +kernel
theorem plX6_back : plainName mdX6_back.1.cls = true := by decide +kernel
abbrev mdX6_leftBy : MD := (yX6_leftBy, cX6_leftBy, 2, (some .int), 1)
theorem clX6_leftBy : CLV mdX6_leftBy := ⟨⟨(gw_t 764 (by decide +kernel) rfl), (gw_t 7 (by decide +kernel) rfl), by decide +kernel, by decide +kernel, trivial⟩, (gw_t 763 (by decide +kernel) rfl), (gw_s 33 (by decide +kernel) rfl)⟩
theorem arX6_leftBy : (parseMethodDescriptor mdX6_leftBy.1.desc).map (fun d => d.parameters.length) = some 1 := by decide +kernel
theorem plX6_leftBy : plainName mdX6_leftBy.1.cls = true := by decide +kernel
abbrev mdX6_rightBy : MD := (yX6_rightBy, cX6_rightBy, 2, (some .int), 1)
theorem clX6_rightBy : CLV mdX6_rightBy := ⟨⟨(gw_t 768 (by decide +kernel) rfl), (gw_t 7 (by decide +kernel) rfl), by decide +kernel, by decide +kernel, trivial⟩, (gw_t 767 (by decide +kernel) rfl), (gw_s 34 (by decide +kernel) rfl)⟩
theorem arX6_rightBy : (parseMethodDescriptor mdX6_rightBy.1.desc).map (fun d => d.parameters.length) = some 1 := by decide +kernel
theorem plX6_rightBy : plainName mdX6_rightBy.1.cls = true := by decide +kernel
abbrev mdX6_goesOn : MD := (yX6_goesOn, cX6_goesOn, 4, (some .int), 2)
theorem clX6_goesOn : CLV mdX6_goesOn := ⟨⟨(gw_t 772 (by decide +kernel) rfl), (gw_t 7 (by decide +kernel) rfl), by decide +kernel, by decide +kernel, trivial⟩, (gw_t 771 (by decide +kernel) rfl), (gw_s 35 (by decide +kernel) rfl)⟩
theorem arX6_goesOn : (parseMethodDescriptor mdX6_goesOn.1.desc).map (fun d => d.parameters.length) = some 3 := by decide +kernel
theorem plX6_goesOn : plainName mdX6_goesOn.1.cls = true := by decide +kernel
abbrev mdX6_roll : MD := (yX6_roll, cX6_roll, 12, (some .int), 3)
theorem clX6_roll : CLV mdX6_roll := ⟨⟨(gw_t 759 (by decide +kernel) rfl), (gw_t 7 (by decide +kernel) rfl), by decide +kernel, by decide +kernel, trivial⟩, (gw_t 757 (by decide +kernel) rfl), (gw_t 758 (by decide +kernel) rfl)⟩
theorem arX6_roll : (parseMethodDescriptor mdX6_roll.1.desc).map (fun d => d.parameters.length) = some 4 := by decide +kernel
theorem plX6_roll : plainName mdX6_roll.1.cls = true := by decide +kernel
abbrev mdX6_layChances : MD := (yX6_layChances, cX6_layChances, 8, none, 3)
theorem clX6_layChances : CLV mdX6_layChances := ⟨⟨(gw_t 788 (by decide +kernel) rfl), (gw_t 7 (by decide +kernel) rfl), by decide +kernel, by decide +kernel, trivial⟩, (gw_t 787 (by decide +kernel) rfl), (gw_s 37 (by decide +kernel) rfl)⟩
theorem arX6_layChances : (parseMethodDescriptor mdX6_layChances.1.desc).map (fun d => d.parameters.length) = some 2 := by decide +kernel
theorem plX6_layChances : plainName mdX6_layChances.1.cls = true := by decide +kernel
abbrev mdX6_layVote : MD := (yX6_layVote, cX6_layVote, 2, none, 4)
theorem clX6_layVote : CLV mdX6_layVote := ⟨⟨(gw_t 784 (by decide +kernel) rfl), (gw_t 7 (by decide +kernel) rfl), by decide +kernel, by decide +kernel, trivial⟩, (gw_t 783 (by decide +kernel) rfl), (gw_s 36 (by decide +kernel) rfl)⟩
theorem arX6_layVote : (parseMethodDescriptor mdX6_layVote.1.desc).map (fun d => d.parameters.length) = some 1 := by decide +kernel
theorem plX6_layVote : plainName mdX6_layVote.1.cls = true := by decide +kernel
abbrev mdX6_chance : MD := (yX6_chance, cX6_chance, 4, (some .long), 5)
theorem clX6_chance : CLV mdX6_chance := ⟨⟨(gw_t 776 (by decide +kernel) rfl), (gw_t 7 (by decide +kernel) rfl), by decide +kernel, by decide +kernel, trivial⟩, (gw_t 774 (by decide +kernel) rfl), (gw_t 775 (by decide +kernel) rfl)⟩
theorem arX6_chance : (parseMethodDescriptor mdX6_chance.1.desc).map (fun d => d.parameters.length) = some 3 := by decide +kernel
theorem plX6_chance : plainName mdX6_chance.1.cls = true := by decide +kernel
abbrev mdX6_partsFor : MD := (yX6_partsFor, cX6_partsFor, 5, (some .long), 1)
theorem clX6_partsFor : CLV mdX6_partsFor := ⟨⟨(gw_t 807 (by decide +kernel) rfl), (gw_t 7 (by decide +kernel) rfl), by decide +kernel, by decide +kernel, trivial⟩, (gw_t 806 (by decide +kernel) rfl), (gw_s 39 (by decide +kernel) rfl)⟩
theorem arX6_partsFor : (parseMethodDescriptor mdX6_partsFor.1.desc).map (fun d => d.parameters.length) = some 1 := by decide +kernel
theorem plX6_partsFor : plainName mdX6_partsFor.1.cls = true := by decide +kernel
abbrev mdX6_expectsNow : MD := (yX6_expectsNow, cX6_expectsNow, 5, (some .long), 5)
theorem clX6_expectsNow : CLV mdX6_expectsNow := ⟨⟨(gw_t 803 (by decide +kernel) rfl), (gw_t 7 (by decide +kernel) rfl), by decide +kernel, by decide +kernel, trivial⟩, (gw_t 802 (by decide +kernel) rfl), (gw_s 38 (by decide +kernel) rfl)⟩
theorem arX6_expectsNow : (parseMethodDescriptor mdX6_expectsNow.1.desc).map (fun d => d.parameters.length) = some 1 := by decide +kernel
theorem plX6_expectsNow : plainName mdX6_expectsNow.1.cls = true := by decide +kernel
abbrev mdX6_expects : MD := (yX6_expects, cX6_expects, 5, (some .long), 6)
theorem clX6_expects : CLV mdX6_expects := ⟨⟨(gw_t 796 (by decide +kernel) rfl), (gw_t 7 (by decide +kernel) rfl), by decide +kernel, by decide +kernel, trivial⟩, (gw_t 794 (by decide +kernel) rfl), (gw_t 795 (by decide +kernel) rfl)⟩
theorem arX6_expects : (parseMethodDescriptor mdX6_expects.1.desc).map (fun d => d.parameters.length) = some 2 := by decide +kernel
theorem plX6_expects : plainName mdX6_expects.1.cls = true := by decide +kernel
abbrev mdX6_start : MD := (yX6_start, cX6_start, 9, (some .int), 4)
theorem clX6_start : CLV mdX6_start := ⟨⟨(gw_t 811 (by decide +kernel) rfl), (gw_t 7 (by decide +kernel) rfl), by decide +kernel, by decide +kernel, trivial⟩, (gw_t 809 (by decide +kernel) rfl), (gw_t 810 (by decide +kernel) rfl)⟩
theorem arX6_start : (parseMethodDescriptor mdX6_start.1.desc).map (fun d => d.parameters.length) = some 2 := by decide +kernel
theorem plX6_start : plainName mdX6_start.1.cls = true := by decide +kernel
abbrev mdX6_moveOf : MD := (yX6_moveOf, cX6_moveOf, 10, (some .int), 6)
theorem clX6_moveOf : CLV mdX6_moveOf := ⟨⟨(gw_t 820 (by decide +kernel) rfl), (gw_t 7 (by decide +kernel) rfl), by decide +kernel, by decide +kernel, trivial⟩, (gw_t 819 (by decide +kernel) rfl), (gw_s 40 (by decide +kernel) rfl)⟩
theorem arX6_moveOf : (parseMethodDescriptor mdX6_moveOf.1.desc).map (fun d => d.parameters.length) = some 1 := by decide +kernel
theorem plX6_moveOf : plainName mdX6_moveOf.1.cls = true := by decide +kernel
abbrev mdX6_move : MD := (yX6_move, cX6_move, 2, (some .int), 7)
theorem clX6_move : CLV mdX6_move := ⟨⟨(gw_t 816 (by decide +kernel) rfl), (gw_t 7 (by decide +kernel) rfl), by decide +kernel, by decide +kernel, trivial⟩, (gw_t 814 (by decide +kernel) rfl), (gw_t 815 (by decide +kernel) rfl)⟩
theorem arX6_move : (parseMethodDescriptor mdX6_move.1.desc).map (fun d => d.parameters.length) = some 1 := by decide +kernel
theorem plX6_move : plainName mdX6_move.1.cls = true := by decide +kernel
abbrev mdX6_answer : MD := (yX6_answer, cX6_answer, 6, (some .int), 7)
theorem clX6_answer : CLV mdX6_answer := ⟨⟨(gw_t 824 (by decide +kernel) rfl), (gw_t 7 (by decide +kernel) rfl), by decide +kernel, by decide +kernel, trivial⟩, (gw_t 822 (by decide +kernel) rfl), (gw_t 823 (by decide +kernel) rfl)⟩
theorem arX6_answer : (parseMethodDescriptor mdX6_answer.1.desc).map (fun d => d.parameters.length) = some 2 := by decide +kernel
theorem plX6_answer : plainName mdX6_answer.1.cls = true := by decide +kernel
abbrev mdX6_likeliestOf : MD := (yX6_likeliestOf, cX6_likeliestOf, 4, (some .int), 5)
theorem clX6_likeliestOf : CLV mdX6_likeliestOf := ⟨⟨(gw_t 832 (by decide +kernel) rfl), (gw_t 7 (by decide +kernel) rfl), by decide +kernel, by decide +kernel, trivial⟩, (gw_t 831 (by decide +kernel) rfl), (gw_s 41 (by decide +kernel) rfl)⟩
theorem arX6_likeliestOf : (parseMethodDescriptor mdX6_likeliestOf.1.desc).map (fun d => d.parameters.length) = some 1 := by decide +kernel
theorem plX6_likeliestOf : plainName mdX6_likeliestOf.1.cls = true := by decide +kernel
abbrev mdX6_likeliest : MD := (yX6_likeliest, cX6_likeliest, 2, (some .int), 6)
theorem clX6_likeliest : CLV mdX6_likeliest := ⟨⟨(gw_t 828 (by decide +kernel) rfl), (gw_t 7 (by decide +kernel) rfl), by decide +kernel, by decide +kernel, trivial⟩, (gw_t 826 (by decide +kernel) rfl), (gw_t 827 (by decide +kernel) rfl)⟩
theorem arX6_likeliest : (parseMethodDescriptor mdX6_likeliest.1.desc).map (fun d => d.parameters.length) = some 1 := by decide +kernel
theorem plX6_likeliest : plainName mdX6_likeliest.1.cls = true := by decide +kernel
abbrev mdX6_tallyOf : MD := (yX6_tallyOf, cX6_tallyOf, 6, (some .int), 6)
theorem clX6_tallyOf : CLV mdX6_tallyOf := ⟨⟨(gw_t 840 (by decide +kernel) rfl), (gw_t 7 (by decide +kernel) rfl), by decide +kernel, by decide +kernel, trivial⟩, (gw_t 839 (by decide +kernel) rfl), (gw_s 42 (by decide +kernel) rfl)⟩
theorem arX6_tallyOf : (parseMethodDescriptor mdX6_tallyOf.1.desc).map (fun d => d.parameters.length) = some 2 := by decide +kernel
theorem plX6_tallyOf : plainName mdX6_tallyOf.1.cls = true := by decide +kernel
abbrev mdX6_tally : MD := (yX6_tally, cX6_tally, 2, (some .int), 7)
theorem clX6_tally : CLV mdX6_tally := ⟨⟨(gw_t 836 (by decide +kernel) rfl), (gw_t 7 (by decide +kernel) rfl), by decide +kernel, by decide +kernel, trivial⟩, (gw_t 834 (by decide +kernel) rfl), (gw_t 835 (by decide +kernel) rfl)⟩
theorem arX6_tally : (parseMethodDescriptor mdX6_tally.1.desc).map (fun d => d.parameters.length) = some 1 := by decide +kernel
theorem plX6_tally : plainName mdX6_tally.1.cls = true := by decide +kernel
abbrev mdX6_winnerBut : MD := (yX6_winnerBut, cX6_winnerBut, 6, (some .int), 7)
theorem clX6_winnerBut : CLV mdX6_winnerBut := ⟨⟨(gw_t 848 (by decide +kernel) rfl), (gw_t 7 (by decide +kernel) rfl), by decide +kernel, by decide +kernel, trivial⟩, (gw_t 847 (by decide +kernel) rfl), (gw_s 43 (by decide +kernel) rfl)⟩
theorem arX6_winnerBut : (parseMethodDescriptor mdX6_winnerBut.1.desc).map (fun d => d.parameters.length) = some 1 := by decide +kernel
theorem plX6_winnerBut : plainName mdX6_winnerBut.1.cls = true := by decide +kernel
abbrev mdX6_winner : MD := (yX6_winner, cX6_winner, 5, (some .int), 8)
theorem clX6_winner : CLV mdX6_winner := ⟨⟨(gw_t 844 (by decide +kernel) rfl), (gw_t 7 (by decide +kernel) rfl), by decide +kernel, by decide +kernel, trivial⟩, (gw_t 842 (by decide +kernel) rfl), (gw_t 843 (by decide +kernel) rfl)⟩
theorem arX6_winner : (parseMethodDescriptor mdX6_winner.1.desc).map (fun d => d.parameters.length) = some 1 := by decide +kernel
theorem plX6_winner : plainName mdX6_winner.1.cls = true := by decide +kernel
abbrev mdX6_holdsNow : MD := (yX6_holdsNow, cX6_holdsNow, 6, (some .long), 5)
theorem clX6_holdsNow : CLV mdX6_holdsNow := ⟨⟨(gw_t 856 (by decide +kernel) rfl), (gw_t 7 (by decide +kernel) rfl), by decide +kernel, by decide +kernel, trivial⟩, (gw_t 855 (by decide +kernel) rfl), (gw_s 44 (by decide +kernel) rfl)⟩
theorem arX6_holdsNow : (parseMethodDescriptor mdX6_holdsNow.1.desc).map (fun d => d.parameters.length) = some 0 := by decide +kernel
theorem plX6_holdsNow : plainName mdX6_holdsNow.1.cls = true := by decide +kernel
abbrev mdX6_setAll : MD := (yX6_setAll, cX6_setAll, 5, none, 1)
theorem clX6_setAll : CLV mdX6_setAll := ⟨⟨(gw_t 860 (by decide +kernel) rfl), (gw_t 7 (by decide +kernel) rfl), by decide +kernel, by decide +kernel, trivial⟩, (gw_t 859 (by decide +kernel) rfl), (gw_s 45 (by decide +kernel) rfl)⟩
theorem arX6_setAll : (parseMethodDescriptor mdX6_setAll.1.desc).map (fun d => d.parameters.length) = some 2 := by decide +kernel
theorem plX6_setAll : plainName mdX6_setAll.1.cls = true := by decide +kernel
abbrev mdX6_dams : MD := (yX6_dams, cX6_dams, 8, (some .long), 6)
theorem clX6_dams : CLV mdX6_dams := ⟨⟨(gw_t 852 (by decide +kernel) rfl), (gw_t 7 (by decide +kernel) rfl), by decide +kernel, by decide +kernel, trivial⟩, (gw_t 850 (by decide +kernel) rfl), (gw_t 851 (by decide +kernel) rfl)⟩
theorem arX6_dams : (parseMethodDescriptor mdX6_dams.1.desc).map (fun d => d.parameters.length) = some 1 := by decide +kernel
theorem plX6_dams : plainName mdX6_dams.1.cls = true := by decide +kernel
abbrev mdX6_waysBy : MD := (yX6_waysBy, cX6_waysBy, 10, (some .int), 2)
theorem clX6_waysBy : CLV mdX6_waysBy := ⟨⟨(gw_t 872 (by decide +kernel) rfl), (gw_t 7 (by decide +kernel) rfl), by decide +kernel, by decide +kernel, trivial⟩, (gw_t 871 (by decide +kernel) rfl), (gw_s 47 (by decide +kernel) rfl)⟩
theorem arX6_waysBy : (parseMethodDescriptor mdX6_waysBy.1.desc).map (fun d => d.parameters.length) = some 1 := by decide +kernel
theorem plX6_waysBy : plainName mdX6_waysBy.1.cls = true := by decide +kernel
abbrev mdX6_layCan : MD := (yX6_layCan, cX6_layCan, 4, none, 5)
theorem clX6_layCan : CLV mdX6_layCan := ⟨⟨(gw_t 868 (by decide +kernel) rfl), (gw_t 7 (by decide +kernel) rfl), by decide +kernel, by decide +kernel, trivial⟩, (gw_t 867 (by decide +kernel) rfl), (gw_s 46 (by decide +kernel) rfl)⟩
theorem arX6_layCan : (parseMethodDescriptor mdX6_layCan.1.desc).map (fun d => d.parameters.length) = some 0 := by decide +kernel
theorem plX6_layCan : plainName mdX6_layCan.1.cls = true := by decide +kernel
abbrev mdX6_ways : MD := (yX6_ways, cX6_ways, 9, (some .int), 6)
theorem clX6_ways : CLV mdX6_ways := ⟨⟨(gw_t 864 (by decide +kernel) rfl), (gw_t 7 (by decide +kernel) rfl), by decide +kernel, by decide +kernel, trivial⟩, (gw_t 862 (by decide +kernel) rfl), (gw_t 863 (by decide +kernel) rfl)⟩
theorem arX6_ways : (parseMethodDescriptor mdX6_ways.1.desc).map (fun d => d.parameters.length) = some 4 := by decide +kernel
theorem plX6_ways : plainName mdX6_ways.1.cls = true := by decide +kernel
abbrev mdX6_fair : MD := (yX6_fair, cX6_fair, 7, (some .int), 4)
theorem clX6_fair : CLV mdX6_fair := ⟨⟨(gw_t 882 (by decide +kernel) rfl), (gw_t 7 (by decide +kernel) rfl), by decide +kernel, by decide +kernel, trivial⟩, (gw_t 880 (by decide +kernel) rfl), (gw_t 881 (by decide +kernel) rfl)⟩
theorem arX6_fair : (parseMethodDescriptor mdX6_fair.1.desc).map (fun d => d.parameters.length) = some 0 := by decide +kernel
theorem plX6_fair : plainName mdX6_fair.1.cls = true := by decide +kernel
abbrev mdX6_noSheet : MD := (yX6_noSheet, cX6_noSheet, 1, (some .boolean), 2)
theorem clX6_noSheet : CLS mdX6_noSheet := ⟨⟨(gw_t 663 (by decide +kernel) rfl), (gw_t 7 (by decide +kernel) rfl), by decide +kernel, by decide +kernel, trivial⟩, (gw_t 662 (by decide +kernel) rfl)⟩
theorem arX6_noSheet : (parseMethodDescriptor mdX6_noSheet.1.desc).map (fun d => d.parameters.length) = some 1 := by decide +kernel
theorem plX6_noSheet : plainName mdX6_noSheet.1.cls = true := by decide +kernel
abbrev mdX6_sheet : MD := (yX6_sheet, cX6_sheet, 5, (some .int), 3)
theorem clX6_sheet : CLV mdX6_sheet := ⟨⟨(gw_t 886 (by decide +kernel) rfl), (gw_t 7 (by decide +kernel) rfl), by decide +kernel, by decide +kernel, trivial⟩, (gw_t 884 (by decide +kernel) rfl), (gw_t 885 (by decide +kernel) rfl)⟩
theorem arX6_sheet : (parseMethodDescriptor mdX6_sheet.1.desc).map (fun d => d.parameters.length) = some 3 := by decide +kernel
theorem plX6_sheet : plainName mdX6_sheet.1.cls = true := by decide +kernel
abbrev mdX6_lose : MD := (yX6_lose, cX6_lose, 3, (some .int), 3)
theorem clX6_lose : CLV mdX6_lose := ⟨⟨(gw_t 890 (by decide +kernel) rfl), (gw_t 7 (by decide +kernel) rfl), by decide +kernel, by decide +kernel, trivial⟩, (gw_t 888 (by decide +kernel) rfl), (gw_t 889 (by decide +kernel) rfl)⟩
theorem arX6_lose : (parseMethodDescriptor mdX6_lose.1.desc).map (fun d => d.parameters.length) = some 1 := by decide +kernel
theorem plX6_lose : plainName mdX6_lose.1.cls = true := by decide +kernel
abbrev mdX6_noCell_ : MD := (yX6_noCell_, cX6_noCell_, 3, (some .int), 2)
theorem clX6_noCell_ : CLV mdX6_noCell_ := ⟨⟨(gw_t 898 (by decide +kernel) rfl), (gw_t 7 (by decide +kernel) rfl), by decide +kernel, by decide +kernel, trivial⟩, (gw_t 897 (by decide +kernel) rfl), (gw_s 48 (by decide +kernel) rfl)⟩
theorem arX6_noCell_ : (parseMethodDescriptor mdX6_noCell_.1.desc).map (fun d => d.parameters.length) = some 2 := by decide +kernel
theorem plX6_noCell_ : plainName mdX6_noCell_.1.cls = true := by decide +kernel
abbrev mdX6_put : MD := (yX6_put, cX6_put, 4, (some .int), 3)
theorem clX6_put : CLV mdX6_put := ⟨⟨(gw_t 894 (by decide +kernel) rfl), (gw_t 7 (by decide +kernel) rfl), by decide +kernel, by decide +kernel, trivial⟩, (gw_t 892 (by decide +kernel) rfl), (gw_t 893 (by decide +kernel) rfl)⟩
theorem arX6_put : (parseMethodDescriptor mdX6_put.1.desc).map (fun d => d.parameters.length) = some 3 := by decide +kernel
theorem plX6_put : plainName mdX6_put.1.cls = true := by decide +kernel
abbrev mdX6_cell : MD := (yX6_cell, cX6_cell, 4, (some .long), 3)
theorem clX6_cell : CLV mdX6_cell := ⟨⟨(gw_t 902 (by decide +kernel) rfl), (gw_t 7 (by decide +kernel) rfl), by decide +kernel, by decide +kernel, trivial⟩, (gw_t 900 (by decide +kernel) rfl), (gw_t 901 (by decide +kernel) rfl)⟩
theorem arX6_cell : (parseMethodDescriptor mdX6_cell.1.desc).map (fun d => d.parameters.length) = some 3 := by decide +kernel
theorem plX6_cell : plainName mdX6_cell.1.cls = true := by decide +kernel
abbrev mdX6_isBeyond : MD := (yX6_isBeyond, cX6_isBeyond, 4, (some .boolean), 1)
theorem clX6_isBeyond : CLS mdX6_isBeyond := ⟨⟨(gw_t 683 (by decide +kernel) rfl), (gw_t 7 (by decide +kernel) rfl), by decide +kernel, by decide +kernel, trivial⟩, (gw_t 682 (by decide +kernel) rfl)⟩
theorem arX6_isBeyond : (parseMethodDescriptor mdX6_isBeyond.1.desc).map (fun d => d.parameters.length) = some 3 := by decide +kernel
theorem plX6_isBeyond : plainName mdX6_isBeyond.1.cls = true := by decide +kernel
abbrev mdX6_copy : MD := (yX6_copy, cX6_copy, 7, (some .int), 3)
theorem clX6_copy : CLV mdX6_copy := ⟨⟨(gw_t 910 (by decide +kernel) rfl), (gw_t 7 (by decide +kernel) rfl), by decide +kernel, by decide +kernel, trivial⟩, (gw_t 908 (by decide +kernel) rfl), (gw_t 909 (by decide +kernel) rfl)⟩
theorem arX6_copy : (parseMethodDescriptor mdX6_copy.1.desc).map (fun d => d.parameters.length) = some 5 := by decide +kernel
theorem plX6_copy : plainName mdX6_copy.1.cls = true := by decide +kernel
abbrev mdX6_traced : MD := (yX6_traced, cX6_traced, 2, none, 1)
theorem clX6_traced : CLV mdX6_traced := ⟨⟨(gw_t 918 (by decide +kernel) rfl), (gw_t 7 (by decide +kernel) rfl), by decide +kernel, by decide +kernel, trivial⟩, (gw_t 917 (by decide +kernel) rfl), (gw_s 50 (by decide +kernel) rfl)⟩
theorem arX6_traced : (parseMethodDescriptor mdX6_traced.1.desc).map (fun d => d.parameters.length) = some 1 := by decide +kernel
theorem plX6_traced : plainName mdX6_traced.1.cls = true := by decide +kernel
abbrev mdX6_tell : MD := (yX6_tell, cX6_tell, 4, (some .int), 3)
theorem clX6_tell : CLV mdX6_tell := ⟨⟨(gw_t 914 (by decide +kernel) rfl), (gw_t 7 (by decide +kernel) rfl), by decide +kernel, by decide +kernel, trivial⟩, (gw_t 912 (by decide +kernel) rfl), (gw_t 913 (by decide +kernel) rfl)⟩
theorem arX6_tell : (parseMethodDescriptor mdX6_tell.1.desc).map (fun d => d.parameters.length) = some 1 := by decide +kernel
theorem plX6_tell : plainName mdX6_tell.1.cls = true := by decide +kernel
abbrev mdX6_weigh : MD := (yX6_weigh, cX6_weigh, 2, (some .int), 3)
theorem clX6_weigh : CLV mdX6_weigh := ⟨⟨(gw_t 922 (by decide +kernel) rfl), (gw_t 7 (by decide +kernel) rfl), by decide +kernel, by decide +kernel, trivial⟩, (gw_t 920 (by decide +kernel) rfl), (gw_t 921 (by decide +kernel) rfl)⟩
theorem arX6_weigh : (parseMethodDescriptor mdX6_weigh.1.desc).map (fun d => d.parameters.length) = some 1 := by decide +kernel
theorem plX6_weigh : plainName mdX6_weigh.1.cls = true := by decide +kernel
abbrev mdX6_as : MD := (yX6_as, cX6_as, 3, (some .int), 3)
theorem clX6_as : CLV mdX6_as := ⟨⟨(gw_t 926 (by decide +kernel) rfl), (gw_t 7 (by decide +kernel) rfl), by decide +kernel, by decide +kernel, trivial⟩, (gw_t 924 (by decide +kernel) rfl), (gw_t 925 (by decide +kernel) rfl)⟩
theorem arX6_as : (parseMethodDescriptor mdX6_as.1.desc).map (fun d => d.parameters.length) = some 2 := by decide +kernel
theorem plX6_as : plainName mdX6_as.1.cls = true := by decide +kernel
abbrev mdX6_trace : MD := (yX6_trace, cX6_trace, 1, (some .int), 1)
theorem clX6_trace : CLV mdX6_trace := ⟨⟨(gw_t 930 (by decide +kernel) rfl), (gw_t 7 (by decide +kernel) rfl), by decide +kernel, by decide +kernel, trivial⟩, (gw_t 928 (by decide +kernel) rfl), (gw_t 929 (by decide +kernel) rfl)⟩
theorem arX6_trace : (parseMethodDescriptor mdX6_trace.1.desc).map (fun d => d.parameters.length) = some 0 := by decide +kernel
theorem plX6_trace : plainName mdX6_trace.1.cls = true := by decide +kernel
abbrev mdX6_fault : MD := (yX6_fault, cX6_fault, 1, (some .int), 1)
theorem clX6_fault : CLV mdX6_fault := ⟨⟨(gw_t 934 (by decide +kernel) rfl), (gw_t 7 (by decide +kernel) rfl), by decide +kernel, by decide +kernel, trivial⟩, (gw_t 932 (by decide +kernel) rfl), (gw_t 933 (by decide +kernel) rfl)⟩
theorem arX6_fault : (parseMethodDescriptor mdX6_fault.1.desc).map (fun d => d.parameters.length) = some 0 := by decide +kernel
theorem plX6_fault : plainName mdX6_fault.1.cls = true := by decide +kernel
abbrev mdX6_many : MD := (yX6_many, cX6_many, 2, (some .int), 2)
theorem clX6_many : CLV mdX6_many := ⟨⟨(gw_t 938 (by decide +kernel) rfl), (gw_t 7 (by decide +kernel) rfl), by decide +kernel, by decide +kernel, trivial⟩, (gw_t 936 (by decide +kernel) rfl), (gw_t 937 (by decide +kernel) rfl)⟩
theorem arX6_many : (parseMethodDescriptor mdX6_many.1.desc).map (fun d => d.parameters.length) = some 1 := by decide +kernel
theorem plX6_many : plainName mdX6_many.1.cls = true := by decide +kernel
abbrev mdJ7_fill_53178 : MD := (yJ7_fill_53178, cJ7_fill_53178, 4, none, 1)
theorem clJ7_fill_53178 : CLS mdJ7_fill_53178 := ⟨⟨(gw_t 315 (by decide +kernel) rfl), (gw_t 8 (by decide +kernel) rfl), by decide +kernel, by decide +kernel, trivial⟩, (gw_t 314 (by decide +kernel) rfl)⟩
theorem arJ7_fill_53178 : (parseMethodDescriptor mdJ7_fill_53178.1.desc).map (fun d => d.parameters.length) = some 2 := by decide +kernel
theorem plJ7_fill_53178 : plainName mdJ7_fill_53178.1.cls = true := by decide +kernel
theorem ml_X5_55 : Cond.methodLink RX5 55 yX5_isSheet ∈ gW := (gw_t 173 (by decide +kernel) rfl)
theorem ml_X5_59 : Cond.methodLink RX5 59 yX5_isLane ∈ gW := (gw_t 176 (by decide +kernel) rfl)
theorem ml_X5_62 : Cond.methodLink RX5 62 yX3_faultAs ∈ gW := (gw_t 179 (by decide +kernel) rfl)
theorem ml_X5_66 : Cond.methodLink RX5 66 yX3_spans ∈ gW := (gw_t 183 (by decide +kernel) rfl)
theorem ml_X5_70 : Cond.methodLink RX5 70 yX5_failed ∈ gW := (gw_t 187 (by decide +kernel) rfl)
theorem ml_X5_73 : Cond.methodLink RX5 73 yX2_firstFault ∈ gW := (gw_t 191 (by decide +kernel) rfl)
theorem ml_X2_33 : Cond.methodLink RX2 33 yX3_at ∈ gW := (gw_t 195 (by decide +kernel) rfl)
theorem ml_X3_32 : Cond.methodLink RX3 32 yX3_has ∈ gW := (gw_t 199 (by decide +kernel) rfl)
theorem ml_X2_39 : Cond.methodLink RX2 39 yX2_goesOn ∈ gW := (gw_t 203 (by decide +kernel) rfl)
theorem ml_X2_43 : Cond.methodLink RX2 43 yX2_lengthOfText ∈ gW := (gw_t 206 (by decide +kernel) rfl)
theorem ml_X2_47 : Cond.methodLink RX2 47 yX2_signOf ∈ gW := (gw_t 209 (by decide +kernel) rfl)
theorem ml_X5_77 : Cond.methodLink RX5 77 yX2_build ∈ gW := (gw_t 212 (by decide +kernel) rfl)
theorem ml_X5_83 : Cond.methodLink RX5 83 yX2_cells ∈ gW := (gw_t 216 (by decide +kernel) rfl)
theorem ml_X5_87 : Cond.methodLink RX5 87 yX2_hasCell ∈ gW := (gw_t 224 (by decide +kernel) rfl)
theorem ml_X2_29 : Cond.methodLink RX2 29 yX2_cells ∈ gW := (gw_t 228 (by decide +kernel) rfl)
theorem ml_X5_94 : Cond.methodLink RX5 94 yX2_hasColumn ∈ gW := (gw_t 237 (by decide +kernel) rfl)
theorem ml_X5_100 : Cond.methodLink RX5 100 yX2_stands ∈ gW := (gw_t 245 (by decide +kernel) rfl)
theorem ml_X5_108 : Cond.methodLink RX5 108 yX5_isKind ∈ gW := (gw_t 253 (by decide +kernel) rfl)
theorem ml_X5_111 : Cond.methodLink RX5 111 yX4_add ∈ gW := (gw_t 256 (by decide +kernel) rfl)
theorem ml_X5_115 : Cond.methodLink RX5 115 yX4_has ∈ gW := (gw_t 264 (by decide +kernel) rfl)
theorem ml_X5_124 : Cond.methodLink RX5 124 yX2_partsLeft ∈ gW := (gw_t 268 (by decide +kernel) rfl)
theorem ml_X5_127 : Cond.methodLink RX5 127 yX2_partsRight ∈ gW := (gw_t 272 (by decide +kernel) rfl)
theorem ml_X5_130 : Cond.methodLink RX5 130 yX5_rollBy ∈ gW := (gw_t 284 (by decide +kernel) rfl)
theorem ml_X5_137 : Cond.methodLink RX5 137 yX3_has ∈ gW := (gw_t 288 (by decide +kernel) rfl)
theorem ml_X5_138 : Cond.methodLink RX5 138 yX3_at ∈ gW := (gw_t 289 (by decide +kernel) rfl)
theorem ml_X5_141 : Cond.methodLink RX5 141 yX2_below ∈ gW := (gw_t 290 (by decide +kernel) rfl)
theorem ml_X2_50 : Cond.methodLink RX2 50 yX2_partsLeft ∈ gW := (gw_t 294 (by decide +kernel) rfl)
theorem ml_X2_53 : Cond.methodLink RX2 53 yX2_belowLeft ∈ gW := (gw_t 295 (by decide +kernel) rfl)
theorem ml_X2_56 : Cond.methodLink RX2 56 yX2_partsRight ∈ gW := (gw_t 299 (by decide +kernel) rfl)
theorem ml_X2_59 : Cond.methodLink RX2 59 yX2_belowRight ∈ gW := (gw_t 300 (by decide +kernel) rfl)
theorem ml_X5_147 : Cond.methodLink RX5 147 yX1_drop ∈ gW := (gw_t 309 (by decide +kernel) rfl)
theorem ml_X1_37 : Cond.methodLink RX1 37 yJ7_fill_53178 ∈ gW := (gw_t 313 (by decide +kernel) rfl)
theorem ml_X1_44 : Cond.methodLink RX1 44 yX1_runDown ∈ gW := (gw_t 317 (by decide +kernel) rfl)
theorem ml_X1_60 : Cond.methodLink RX1 60 yX2_cells ∈ gW := (gw_t 321 (by decide +kernel) rfl)
theorem ml_X1_69 : Cond.methodLink RX1 69 yX2_partsLeft ∈ gW := (gw_t 322 (by decide +kernel) rfl)
theorem ml_X1_73 : Cond.methodLink RX1 73 yX2_partsRight ∈ gW := (gw_t 323 (by decide +kernel) rfl)
theorem ml_X1_76 : Cond.methodLink RX1 76 yX2_belowLeft ∈ gW := (gw_t 324 (by decide +kernel) rfl)
theorem ml_X1_80 : Cond.methodLink RX1 80 yX2_belowRight ∈ gW := (gw_t 325 (by decide +kernel) rfl)
theorem ml_X5_151 : Cond.methodLink RX5 151 yX1_stuck ∈ gW := (gw_t 326 (by decide +kernel) rfl)
theorem ml_X1_86 : Cond.methodLink RX1 86 yX1_arrived ∈ gW := (gw_t 330 (by decide +kernel) rfl)
theorem ml_X5_154 : Cond.methodLink RX5 154 yX1_arrived ∈ gW := (gw_t 334 (by decide +kernel) rfl)
theorem ml_X5_157 : Cond.methodLink RX5 157 yX5_leastTerms ∈ gW := (gw_t 335 (by decide +kernel) rfl)
theorem ml_X5_160 : Cond.methodLink RX5 160 yX5_isParty ∈ gW := (gw_t 343 (by decide +kernel) rfl)
theorem ml_X5_163 : Cond.methodLink RX5 163 yX1_expected ∈ gW := (gw_t 346 (by decide +kernel) rfl)
theorem ml_X1_100 : Cond.methodLink RX1 100 yX1_appraiseAll ∈ gW := (gw_t 350 (by decide +kernel) rfl)
theorem ml_X1_89 : Cond.methodLink RX1 89 yX1_appraise ∈ gW := (gw_t 354 (by decide +kernel) rfl)
theorem ml_X1_96 : Cond.methodLink RX1 96 yX1_worthUnder ∈ gW := (gw_t 358 (by decide +kernel) rfl)
theorem ml_X5_167 : Cond.methodLink RX5 167 yX1_bestStart ∈ gW := (gw_t 366 (by decide +kernel) rfl)
theorem ml_X5_170 : Cond.methodLink RX5 170 yX1_bestMove ∈ gW := (gw_t 374 (by decide +kernel) rfl)
theorem ml_X1_104 : Cond.methodLink RX1 104 yX1_dropAll ∈ gW := (gw_t 378 (by decide +kernel) rfl)
theorem ml_X1_108 : Cond.methodLink RX1 108 yX1_gain ∈ gW := (gw_t 382 (by decide +kernel) rfl)
theorem ml_X5_173 : Cond.methodLink RX5 173 yX1_likeliestEnd ∈ gW := (gw_t 394 (by decide +kernel) rfl)
theorem ml_X1_112 : Cond.methodLink RX1 112 yX1_drop ∈ gW := (gw_t 398 (by decide +kernel) rfl)
theorem ml_X1_115 : Cond.methodLink RX1 115 yX1_stuck ∈ gW := (gw_t 399 (by decide +kernel) rfl)
theorem ml_X5_176 : Cond.methodLink RX5 176 yX1_tallyOf ∈ gW := (gw_t 404 (by decide +kernel) rfl)
theorem ml_X1_118 : Cond.methodLink RX1 118 yX1_findLeanings ∈ gW := (gw_t 408 (by decide +kernel) rfl)
theorem ml_X1_127 : Cond.methodLink RX1 127 yX1_likeliestEnd ∈ gW := (gw_t 412 (by decide +kernel) rfl)
theorem ml_X1_121 : Cond.methodLink RX1 121 yX1_tallyWithout ∈ gW := (gw_t 413 (by decide +kernel) rfl)
theorem ml_X5_179 : Cond.methodLink RX5 179 yX1_winnerOfAll ∈ gW := (gw_t 421 (by decide +kernel) rfl)
theorem ml_X1_124 : Cond.methodLink RX1 124 yX1_winnerWithout ∈ gW := (gw_t 425 (by decide +kernel) rfl)
theorem ml_X5_182 : Cond.methodLink RX5 182 yX1_votesItHangsOn ∈ gW := (gw_t 429 (by decide +kernel) rfl)
theorem ml_X5_185 : Cond.methodLink RX5 185 yX1_damsReached ∈ gW := (gw_t 437 (by decide +kernel) rfl)
theorem ml_X5_192 : Cond.methodLink RX5 192 yX0_take ∈ gW := (gw_t 445 (by decide +kernel) rfl)
theorem ml_X0_27 : Cond.methodLink RX0 27 yJ7_fill_53178 ∈ gW := (gw_t 449 (by decide +kernel) rfl)
theorem ml_X0_33 : Cond.methodLink RX0 33 yX3_at ∈ gW := (gw_t 450 (by decide +kernel) rfl)
theorem ml_X5_199 : Cond.methodLink RX5 199 yX1_endsOf ∈ gW := (gw_t 451 (by decide +kernel) rfl)
theorem ml_X5_202 : Cond.methodLink RX5 202 yX0_rows ∈ gW := (gw_t 455 (by decide +kernel) rfl)
theorem ml_X0_39 : Cond.methodLink RX0 39 yX0_layOut ∈ gW := (gw_t 459 (by decide +kernel) rfl)
theorem ml_X0_43 : Cond.methodLink RX0 43 yX0_placeNextVote ∈ gW := (gw_t 463 (by decide +kernel) rfl)
theorem ml_X0_47 : Cond.methodLink RX0 47 yX0_nextUsed ∈ gW := (gw_t 467 (by decide +kernel) rfl)
theorem ml_X5_205 : Cond.methodLink RX5 205 yX0_endsOfRows ∈ gW := (gw_t 471 (by decide +kernel) rfl)
theorem ml_X0_50 : Cond.methodLink RX0 50 yX0_rows ∈ gW := (gw_t 475 (by decide +kernel) rfl)
theorem ml_X5_208 : Cond.methodLink RX5 208 yX1_fairColumns ∈ gW := (gw_t 480 (by decide +kernel) rfl)
theorem ml_X1_130 : Cond.methodLink RX1 130 yX1_isFair ∈ gW := (gw_t 484 (by decide +kernel) rfl)
theorem ml_X1_134 : Cond.methodLink RX1 134 yX2_hasTroughOf ∈ gW := (gw_t 488 (by decide +kernel) rfl)
theorem ml_X5_211 : Cond.methodLink RX5 211 yX3_renew ∈ gW := (gw_t 496 (by decide +kernel) rfl)
theorem ml_X3_26 : Cond.methodLink RX3 26 yJ7_fill_53178 ∈ gW := (gw_t 500 (by decide +kernel) rfl)
theorem ml_X5_217 : Cond.methodLink RX5 217 yX3_write ∈ gW := (gw_t 509 (by decide +kernel) rfl)
theorem ml_X3_36 : Cond.methodLink RX3 36 yX3_cut ∈ gW := (gw_t 513 (by decide +kernel) rfl)
theorem ml_X5_232 : Cond.methodLink RX5 232 yX5_toldByLead ∈ gW := (gw_t 532 (by decide +kernel) rfl)
theorem ml_X5_241 : Cond.methodLink RX5 241 yX5_leaveTrace ∈ gW := (gw_t 536 (by decide +kernel) rfl)
theorem ml_X5_235 : Cond.methodLink RX5 235 yX5_toldByHeavy ∈ gW := (gw_t 540 (by decide +kernel) rfl)
theorem ml_X5_238 : Cond.methodLink RX5 238 yX5_toldByMarble ∈ gW := (gw_t 544 (by decide +kernel) rfl)
theorem ml_X6_117 : Cond.methodLink RX6 117 yX6_noSheet ∈ gW := (gw_t 661 (by decide +kernel) rfl)
theorem ml_X6_79 : Cond.methodLink RX6 79 yX6_in ∈ gW := (gw_t 665 (by decide +kernel) rfl)
theorem ml_X6_121 : Cond.methodLink RX6 121 yX6_refused ∈ gW := (gw_t 668 (by decide +kernel) rfl)
theorem ml_X6_126 : Cond.methodLink RX6 126 yX6_cellsBarred ∈ gW := (gw_t 673 (by decide +kernel) rfl)
theorem ml_X6_110 : Cond.methodLink RX6 110 yX6_failed ∈ gW := (gw_t 677 (by decide +kernel) rfl)
theorem ml_X6_113 : Cond.methodLink RX6 113 yX6_isBeyond ∈ gW := (gw_t 681 (by decide +kernel) rfl)
theorem ml_X6_130 : Cond.methodLink RX6 130 yX6_readsHill ∈ gW := (gw_t 684 (by decide +kernel) rfl)
theorem ml_X6_88 : Cond.methodLink RX6 88 yX6_codeAt ∈ gW := (gw_t 688 (by decide +kernel) rfl)
theorem ml_X6_96 : Cond.methodLink RX6 96 yX6_figure ∈ gW := (gw_t 692 (by decide +kernel) rfl)
theorem ml_X6_106 : Cond.methodLink RX6 106 yX6_readsCell ∈ gW := (gw_t 696 (by decide +kernel) rfl)
theorem ml_X6_92 : Cond.methodLink RX6 92 yX6_signBy ∈ gW := (gw_t 700 (by decide +kernel) rfl)
theorem ml_X6_75 : Cond.methodLink RX6 75 yX6_cells ∈ gW := (gw_t 703 (by decide +kernel) rfl)
theorem ml_X6_141 : Cond.methodLink RX6 141 yX6_noCell ∈ gW := (gw_t 711 (by decide +kernel) rfl)
theorem ml_X6_146 : Cond.methodLink RX6 146 yX6_noColumn ∈ gW := (gw_t 724 (by decide +kernel) rfl)
theorem ml_X6_149 : Cond.methodLink RX6 149 yX6_noVote ∈ gW := (gw_t 740 (by decide +kernel) rfl)
theorem ml_X6_152 : Cond.methodLink RX6 152 yX6_leftOf ∈ gW := (gw_t 744 (by decide +kernel) rfl)
theorem ml_X6_155 : Cond.methodLink RX6 155 yX6_rightOf ∈ gW := (gw_t 748 (by decide +kernel) rfl)
theorem ml_X6_158 : Cond.methodLink RX6 158 yX6_leftBy ∈ gW := (gw_t 761 (by decide +kernel) rfl)
theorem ml_X6_161 : Cond.methodLink RX6 161 yX6_rightBy ∈ gW := (gw_t 765 (by decide +kernel) rfl)
theorem ml_X6_166 : Cond.methodLink RX6 166 yX6_goesOn ∈ gW := (gw_t 769 (by decide +kernel) rfl)
theorem ml_X6_65 : Cond.methodLink RX6 65 yX6_lost ∈ gW := (gw_t 777 (by decide +kernel) rfl)
theorem ml_X6_183 : Cond.methodLink RX6 183 yX6_layVote ∈ gW := (gw_t 781 (by decide +kernel) rfl)
theorem ml_X6_179 : Cond.methodLink RX6 179 yX6_layChances ∈ gW := (gw_t 785 (by decide +kernel) rfl)
theorem ml_X6_187 : Cond.methodLink RX6 187 yX6_told ∈ gW := (gw_t 790 (by decide +kernel) rfl)
theorem ml_X6_195 : Cond.methodLink RX6 195 yX6_noParty ∈ gW := (gw_t 797 (by decide +kernel) rfl)
theorem ml_X6_198 : Cond.methodLink RX6 198 yX6_expectsNow ∈ gW := (gw_t 800 (by decide +kernel) rfl)
theorem ml_X6_191 : Cond.methodLink RX6 191 yX6_partsFor ∈ gW := (gw_t 804 (by decide +kernel) rfl)
theorem ml_X6_203 : Cond.methodLink RX6 203 yX6_moveOf ∈ gW := (gw_t 817 (by decide +kernel) rfl)
theorem ml_X6_206 : Cond.methodLink RX6 206 yX6_likeliestOf ∈ gW := (gw_t 829 (by decide +kernel) rfl)
theorem ml_X6_209 : Cond.methodLink RX6 209 yX6_tallyOf ∈ gW := (gw_t 837 (by decide +kernel) rfl)
theorem ml_X6_212 : Cond.methodLink RX6 212 yX6_winnerBut ∈ gW := (gw_t 845 (by decide +kernel) rfl)
theorem ml_X6_215 : Cond.methodLink RX6 215 yX6_holdsNow ∈ gW := (gw_t 853 (by decide +kernel) rfl)
theorem ml_X6_218 : Cond.methodLink RX6 218 yX6_setAll ∈ gW := (gw_t 857 (by decide +kernel) rfl)
theorem ml_X6_225 : Cond.methodLink RX6 225 yX6_layCan ∈ gW := (gw_t 865 (by decide +kernel) rfl)
theorem ml_X6_228 : Cond.methodLink RX6 228 yX6_waysBy ∈ gW := (gw_t 869 (by decide +kernel) rfl)
theorem ml_X6_222 : Cond.methodLink RX6 222 yX6_bits ∈ gW := (gw_t 873 (by decide +kernel) rfl)
theorem ml_X6_231 : Cond.methodLink RX6 231 yX6_isIn ∈ gW := (gw_t 876 (by decide +kernel) rfl)
theorem ml_X6_234 : Cond.methodLink RX6 234 yX6_noCell_ ∈ gW := (gw_t 895 (by decide +kernel) rfl)
theorem ml_X6_236 : Cond.methodLink RX6 236 yX6_failedLong ∈ gW := (gw_t 903 (by decide +kernel) rfl)
theorem ml_X6_242 : Cond.methodLink RX6 242 yX6_traced ∈ gW := (gw_t 915 (by decide +kernel) rfl)
theorem ml_X5_226 : Cond.methodLink RX5 226 arraycopyName ∈ gW := (gw_t 525 (by decide +kernel) rfl)
theorem ac_native : Cond.native arraycopyName ∈ gW := (gw_t 527 (by decide +kernel) rfl)
theorem ac_static : Cond.static arraycopyName ∈ gW := (gw_t 526 (by decide +kernel) rfl)
theorem ac_init : Cond.initialized "java/lang/System" ∈ gW := (gw_t 9 (by decide +kernel) rfl)
theorem fit0 {R : Room} : 0 ≤ R.cells ∧ 0 ≤ R.slots := ⟨Nat.zero_le _, Nat.zero_le _⟩
theorem cn_X1_43 : Cond.constant RX1 43 32768 ∈ gW := (gw_t 316 (by decide +kernel) rfl)
theorem cn_X5_166 : Cond.constant RX5 166 32768 ∈ gW := (gw_t 338 (by decide +kernel) rfl)
theorem cn_X5_145 : Cond.constantLong RX5 145 (-9223372036854775808) ∈ gW := (gw_t 308 (by decide +kernel) rfl)
theorem cn_X6_83 : Cond.constantLong RX6 83 3 ∈ gW := (gw_t 664 (by decide +kernel) rfl)
theorem cn_X6_124 : Cond.constantLong RX6 124 2 ∈ gW := (gw_t 672 (by decide +kernel) rfl)
theorem cn_X6_144 : Cond.constantLong RX6 144 4 ∈ gW := (gw_t 719 (by decide +kernel) rfl)
theorem cn_X6_164 : Cond.constantLong RX6 164 7 ∈ gW := (gw_t 760 (by decide +kernel) rfl)
theorem cn_X6_59 : Cond.constantLong RX6 59 (-9223372036854775808) ∈ gW := (gw_t 780 (by decide +kernel) rfl)
theorem cn_X6_177 : Cond.constantLong RX6 177 8 ∈ gW := (gw_t 789 (by decide +kernel) rfl)
theorem cn_X6_201 : Cond.constantLong RX6 201 (-1) ∈ gW := (gw_t 812 (by decide +kernel) rfl)
