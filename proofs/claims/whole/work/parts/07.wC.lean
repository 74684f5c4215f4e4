set_option maxRecDepth 100000 in
set_option maxHeartbeats 4000000 in
theorem eX6_in (y0 : Int64) (y2 : Int64) (y4 : Int64) (S : St) (Q : Int32 → St → Prop) (h : ((y0 < y2 → Q (0 : Int32) S) ∧ (¬ y0 < y2 → ((y4 < y0 → Q (0 : Int32) S) ∧ (¬ y4 < y0 → Q (1 : Int32) S))))) : CallV mdX6_in [.long y0, .long y2, .long y4] S (qI Q) := by
  refine CallV_of mdX6_in plX6_in 0 (Nat.le_of_ble_eq_true rfl) rfl ?_
  intro zp0 zl0 ze0 zs0 zm0 zargs0 zbelow0 zmeth0 zc0 zD0 zad0 zac0 C0 hr0 hk0
  refine mr_lload_n C0 dX6_in_0 rfl (i := 0) rfl ?_
  refine mr_lload_n C0 dX6_in_1 rfl (i := 2) rfl ?_
  refine mr_lcmp_lt C0 dX6_in_2 dX6_in_3 (tgt := 17) (by decide) (fun c1 => ?_) (fun c1 => ?_)
  · have h := h.1 c1
    refine mr_iconst (v := 0) C0 dX6_in_17 (by decide) ?_
    refine mr_zret C0 hr0 hk0 dX6_in_18 rfl (qI_mk ?_)
    exact h
  · have h := h.2 c1
    refine mr_lload_n C0 dX6_in_6 rfl (i := 0) rfl ?_
    refine mr_lload C0 dX6_in_7 rfl ?_
    refine mr_lcmp_gt C0 dX6_in_9 dX6_in_10 (tgt := 17) (by decide) (fun c2 => ?_) (fun c2 => ?_)
    · have h := h.1 c2
      refine mr_iconst (v := 0) C0 dX6_in_17 (by decide) ?_
      refine mr_zret C0 hr0 hk0 dX6_in_18 rfl (qI_mk ?_)
      exact h
    · have h := h.2 c2
      refine mr_iconst (v := 1) C0 dX6_in_13 (by decide) ?_
      refine mr_goto C0 dX6_in_14 (tgt := 18) (by decide) ?_
      refine mr_zret C0 hr0 hk0 dX6_in_18 rfl (qI_mk ?_)
      exact h
set_option maxRecDepth 100000 in
set_option maxHeartbeats 4000000 in
theorem eX6_lost (S : St) (Q : Int64 → St → Prop) (h : Q (-9223372036854775808 : Int64) S) : CallV mdX6_lost [] S (qJ Q) := by
  refine CallV_of mdX6_lost plX6_lost 0 (Nat.le_of_ble_eq_true rfl) rfl ?_
  intro zp0 zl0 ze0 zs0 zm0 zargs0 zbelow0 zmeth0 zc0 zD0 zad0 zac0 C0 hr0 hk0
  refine mr_ldc2 C0 dX6_lost_0 cn_X6_59 ?_
  refine mr_lret C0 hr0 hk0 dX6_lost_3 (qJ_mk ?_)
  exact h
set_option maxRecDepth 100000 in
set_option maxHeartbeats 4000000 in
theorem eX6_isIn (x0 : Int32) (x1 : Int32) (S : St) (Q : Int32 → St → Prop) (h : ((¬ ((x0 >>> (x1 &&& 31)) &&& (1 : Int32)) = (1 : Int32) → Q (0 : Int32) S) ∧ (((x0 >>> (x1 &&& 31)) &&& (1 : Int32)) = (1 : Int32) → Q (1 : Int32) S))) : CallV mdX6_isIn [.int x0, .int x1] S (qI Q) := by
  refine CallV_of mdX6_isIn plX6_isIn 0 (Nat.le_of_ble_eq_true rfl) rfl ?_
  intro zp0 zl0 ze0 zs0 zm0 zargs0 zbelow0 zmeth0 zc0 zD0 zad0 zac0 C0 hr0 hk0
  refine mr_iload_n C0 dX6_isIn_0 rfl (i := 0) rfl ?_
  refine mr_iload_n C0 dX6_isIn_1 rfl (i := 1) rfl ?_
  refine mr_ishr C0 dX6_isIn_2 ?_
  refine mr_iconst (v := 1) C0 dX6_isIn_3 (by decide) ?_
  refine mr_iand C0 dX6_isIn_4 ?_
  refine mr_iconst (v := 1) C0 dX6_isIn_5 (by decide) ?_
  refine mr_icmp_ne C0 dX6_isIn_6 (tgt := 13) (by decide) (fun c1 => ?_) (fun c1 => ?_)
  · have h := h.1 c1
    refine mr_iconst (v := 0) C0 dX6_isIn_13 (by decide) ?_
    refine mr_zret C0 hr0 hk0 dX6_isIn_14 rfl (qI_mk ?_)
    exact h
  · have h := h.2 c1
    refine mr_iconst (v := 1) C0 dX6_isIn_9 (by decide) ?_
    refine mr_goto C0 dX6_isIn_10 (tgt := 14) (by decide) ?_
    refine mr_zret C0 hr0 hk0 dX6_isIn_14 rfl (qI_mk ?_)
    exact h
set_option maxRecDepth 100000 in
set_option maxHeartbeats 4000000 in
theorem eX6_bits (x0 : Int32) (S : St) (Q : Int32 → St → Prop) (h : V mdX6_bits 4 [none, some (.int (0 : Int32)), some (.int x0)] [] S (qI Q)) : CallV mdX6_bits [.int x0] S (qI Q) := by
  refine CallV_of mdX6_bits plX6_bits 2 (Nat.le_of_ble_eq_true rfl) rfl ?_
  intro zp0 zl0 ze0 zs0 zm0 zargs0 zbelow0 zmeth0 zc0 zD0 zad0 zac0 C0 hr0 hk0
  refine mr_iconst (v := 0) C0 dX6_bits_0 (by decide) ?_
  refine mr_istore_n (L1 := [some (.int x0), some (.int (0 : Int32)), none]) C0 dX6_bits_1 rfl (Nat.le_of_ble_eq_true rfl) rfl ?_
  refine mr_iload_n C0 dX6_bits_2 rfl (i := 0) rfl ?_
  refine mr_istore_n (L1 := [some (.int x0), some (.int (0 : Int32)), some (.int x0)]) C0 dX6_bits_3 rfl (Nat.le_of_ble_eq_true rfl) rfl ?_
  refine mr_mask (L1 := [none, some (.int (0 : Int32)), some (.int x0)]) C0 [false, true, true] rfl ?_
  exact h zp0 zl0 ze0 zs0 zm0 zargs0 zbelow0 zmeth0 zc0 zD0 zad0 zac0 C0 hr0 hk0
set_option maxRecDepth 100000 in
set_option maxHeartbeats 4000000 in
theorem eX6_bits_4 (x1 : Int32) (x2 : Int32) (S : St) (Q : Int32 → St → Prop) (h : ((x2 ≤ 0 → Q x1 S) ∧ (¬ x2 ≤ 0 → V mdX6_bits 4 [none, some (.int (x1 + (x2 &&& (1 : Int32)))), some (.int (x2 >>> ((1 : Int32) &&& 31)))] [] S (qI Q)))) : V mdX6_bits 4 [none, some (.int x1), some (.int x2)] [] S (qI Q) := by
  intro zp0 zl0 ze0 zs0 zm0 zargs0 zbelow0 zmeth0 zc0 zD0 zad0 zac0 C0 hr0 hk0
  refine mr_iload_n C0 dX6_bits_4 rfl (i := 2) rfl ?_
  refine mr_if_le C0 dX6_bits_5 (tgt := 21) (by decide) (fun c1 => ?_) (fun c1 => ?_)
  · have h := h.1 c1
    refine mr_iload_n C0 dX6_bits_21 rfl (i := 1) rfl ?_
    refine mr_iret C0 hr0 hk0 dX6_bits_22 (qI_mk ?_)
    exact h
  · have h := h.2 c1
    refine mr_iload_n C0 dX6_bits_8 rfl (i := 1) rfl ?_
    refine mr_iload_n C0 dX6_bits_9 rfl (i := 2) rfl ?_
    refine mr_iconst (v := 1) C0 dX6_bits_10 (by decide) ?_
    refine mr_iand C0 dX6_bits_11 ?_
    refine mr_iadd C0 dX6_bits_12 ?_
    refine mr_istore_n (L1 := [none, some (.int (x1 + (x2 &&& (1 : Int32)))), some (.int x2)]) C0 dX6_bits_13 rfl (Nat.le_of_ble_eq_true rfl) rfl ?_
    refine mr_iload_n C0 dX6_bits_14 rfl (i := 2) rfl ?_
    refine mr_iconst (v := 1) C0 dX6_bits_15 (by decide) ?_
    refine mr_ishr C0 dX6_bits_16 ?_
    refine mr_istore_n (L1 := [none, some (.int (x1 + (x2 &&& (1 : Int32)))), some (.int (x2 >>> ((1 : Int32) &&& 31)))]) C0 dX6_bits_17 rfl (Nat.le_of_ble_eq_true rfl) rfl ?_
    refine mr_goto C0 dX6_bits_18 (tgt := 4) (by decide) ?_
    exact h zp0 zl0 ze0 zs0 zm0 zargs0 zbelow0 zmeth0 zc0 zD0 zad0 zac0 C0 hr0 hk0
set_option maxRecDepth 100000 in
set_option maxHeartbeats 4000000 in
theorem eX6_told (y0 : Int64) (y2 : Int64) (x4 : Int32) (S : St) (Q : Int64 → St → Prop) (h : V mdX6_told 6 [some (.long y0), none, some (.long y2), none, some (.int x4), some (.long y0), none, some (.long y2), none, none, none] [] S (qJ Q)) : CallV mdX6_told [.long y0, .long y2, .int x4] S (qJ Q) := by
  refine CallV_of mdX6_told plX6_told 6 (Nat.le_of_ble_eq_true rfl) rfl ?_
  intro zp0 zl0 ze0 zs0 zm0 zargs0 zbelow0 zmeth0 zc0 zD0 zad0 zac0 C0 hr0 hk0
  refine mr_lload_n C0 dX6_told_0 rfl (i := 0) rfl ?_
  refine mr_lstore (L1 := [some (.long y0), none, some (.long y2), none, some (.int x4), some (.long y0), none, none, none, none, none]) C0 dX6_told_1 (Nat.le_of_ble_eq_true rfl) rfl ?_
  refine mr_lload_n C0 dX6_told_3 rfl (i := 2) rfl ?_
  refine mr_lstore (L1 := [some (.long y0), none, some (.long y2), none, some (.int x4), some (.long y0), none, some (.long y2), none, none, none]) C0 dX6_told_4 (Nat.le_of_ble_eq_true rfl) rfl ?_
  exact h zp0 zl0 ze0 zs0 zm0 zargs0 zbelow0 zmeth0 zc0 zD0 zad0 zac0 C0 hr0 hk0
set_option maxRecDepth 100000 in
set_option maxHeartbeats 4000000 in
theorem eX6_told_6 (y0 : Int64) (y2 : Int64) (x4 : Int32) (y5 : Int64) (y7 : Int64) (S : St) (Q : Int64 → St → Prop) (h : ((y7 = (0 : Int64) → ((¬ x4 = 0 → (¬ y5 = 0) ∧ Q (y2 / y5) S) ∧ (x4 = 0 → (¬ y5 = 0) ∧ Q (y0 / y5) S))) ∧ (¬ y7 = (0 : Int64) → (¬ y7 = 0) ∧ V mdX6_told 6 [some (.long y0), none, some (.long y2), none, some (.int x4), some (.long y7), none, some (.long (y5 - y5 / y7 * y7)), none, none, none] [] S (qJ Q)))) : V mdX6_told 6 [some (.long y0), none, some (.long y2), none, some (.int x4), some (.long y5), none, some (.long y7), none, none, none] [] S (qJ Q) := by
  intro zp0 zl0 ze0 zs0 zm0 zargs0 zbelow0 zmeth0 zc0 zD0 zad0 zac0 C0 hr0 hk0
  refine mr_lload C0 dX6_told_6 rfl ?_
  refine mr_lconst (v := 0) C0 dX6_told_8 (by decide) ?_
  refine mr_lcmp_eq C0 dX6_told_9 dX6_told_10 (tgt := 31) (by decide) (fun c1 => ?_) (fun c1 => ?_)
  · have h := h.1 c1
    refine mr_iload C0 dX6_told_31 rfl ?_
    refine mr_if_ne C0 dX6_told_33 (tgt := 40) (by decide) (fun c2 => ?_) (fun c2 => ?_)
    · have h := h.1 c2
      refine mr_lload_n C0 dX6_told_40 rfl (i := 2) rfl ?_
      refine mr_lload C0 dX6_told_41 rfl ?_
      have g := h.1
      have h := h.2
      refine mr_ldiv C0 dX6_told_43 g ?_
      refine mr_lret C0 hr0 hk0 dX6_told_44 (qJ_mk ?_)
      exact h
    · have h := h.2 c2
      refine mr_lload_n C0 dX6_told_36 rfl (i := 0) rfl ?_
      refine mr_goto C0 dX6_told_37 (tgt := 41) (by decide) ?_
      refine mr_lload C0 dX6_told_41 rfl ?_
      have g := h.1
      have h := h.2
      refine mr_ldiv C0 dX6_told_43 g ?_
      refine mr_lret C0 hr0 hk0 dX6_told_44 (qJ_mk ?_)
      exact h
  · have h := h.2 c1
    refine mr_lload C0 dX6_told_13 rfl ?_
    refine mr_lload C0 dX6_told_15 rfl ?_
    have g := h.1
    have h := h.2
    refine mr_lrem C0 dX6_told_17 g ?_
    refine mr_lstore (L1 := [some (.long y0), none, some (.long y2), none, some (.int x4), some (.long y5), none, some (.long y7), none, some (.long (y5 - y5 / y7 * y7)), none]) C0 dX6_told_18 (Nat.le_of_ble_eq_true rfl) rfl ?_
    refine mr_lload C0 dX6_told_20 rfl ?_
    refine mr_lstore (L1 := [some (.long y0), none, some (.long y2), none, some (.int x4), some (.long y7), none, some (.long y7), none, some (.long (y5 - y5 / y7 * y7)), none]) C0 dX6_told_22 (Nat.le_of_ble_eq_true rfl) rfl ?_
    refine mr_lload C0 dX6_told_24 rfl ?_
    refine mr_lstore (L1 := [some (.long y0), none, some (.long y2), none, some (.int x4), some (.long y7), none, some (.long (y5 - y5 / y7 * y7)), none, some (.long (y5 - y5 / y7 * y7)), none]) C0 dX6_told_26 (Nat.le_of_ble_eq_true rfl) rfl ?_
    refine mr_goto C0 dX6_told_28 (tgt := 6) (by decide) ?_
    refine mr_mask (L1 := [some (.long y0), none, some (.long y2), none, some (.int x4), some (.long y7), none, some (.long (y5 - y5 / y7 * y7)), none, none, none]) C0 [true, false, true, false, true, true, false, true, false, false, false] rfl ?_
    exact h zp0 zl0 ze0 zs0 zm0 zargs0 zbelow0 zmeth0 zc0 zD0 zad0 zac0 C0 hr0 hk0
set_option maxRecDepth 100000 in
set_option maxHeartbeats 4000000 in
theorem eX6_refused (x1 : Int32) (S : St) (Q : Int32 → St → Prop) (h : Q x1 (sI S 34 0 (0 : Int32))) : CallV mdX6_refused [.ref 34, .int x1] S (qI Q) := by
  refine CallV_of mdX6_refused plX6_refused 0 (Nat.le_of_ble_eq_true rfl) rfl ?_
  intro zp0 zl0 ze0 zs0 zm0 zargs0 zbelow0 zmeth0 zc0 zD0 zad0 zac0 C0 hr0 hk0
  refine mr_aload_n C0 dX6_refused_0 rfl (i := 0) rfl ?_
  refine mr_iconst (v := 0) C0 dX6_refused_1 (by decide) ?_
  refine mr_putI C0 dX6_refused_2 fl_X6_61 (Nat.le_of_ble_eq_true rfl) rfl rfl rfl rfl ?_
  refine mr_iload_n C0 dX6_refused_5 rfl (i := 1) rfl ?_
  refine mr_iret C0 hr0 hk0 dX6_refused_6 (qI_mk ?_)
  exact h
set_option maxRecDepth 100000 in
set_option maxHeartbeats 4000000 in
theorem eX6_failed (x1 : Int32) (S : St) (Q : Int32 → St → Prop) (h : Q ((-10 : Int32) - x1) (sI S 34 0 x1)) : CallV mdX6_failed [.ref 34, .int x1] S (qI Q) := by
  refine CallV_of mdX6_failed plX6_failed 0 (Nat.le_of_ble_eq_true rfl) rfl ?_
  intro zp0 zl0 ze0 zs0 zm0 zargs0 zbelow0 zmeth0 zc0 zD0 zad0 zac0 C0 hr0 hk0
  refine mr_aload_n C0 dX6_failed_0 rfl (i := 0) rfl ?_
  refine mr_iload_n C0 dX6_failed_1 rfl (i := 1) rfl ?_
  refine mr_putI C0 dX6_failed_2 fl_X6_61 (Nat.le_of_ble_eq_true rfl) rfl rfl rfl rfl ?_
  refine mr_bipush (v := (-10)) C0 dX6_failed_5 (by decide) ?_
  refine mr_iload_n C0 dX6_failed_7 rfl (i := 1) rfl ?_
  refine mr_isub C0 dX6_failed_8 ?_
  refine mr_iret C0 hr0 hk0 dX6_failed_9 (qI_mk ?_)
  exact h
set_option maxRecDepth 100000 in
set_option maxHeartbeats 4000000 in
theorem eX6_failedLong (x1 : Int32) (S : St) (Q : Int64 → St → Prop) (h : Q (-9223372036854775808 : Int64) (sI S 34 0 x1)) : CallV mdX6_failedLong [.ref 34, .int x1] S (qJ Q) := by
  refine CallV_of mdX6_failedLong plX6_failedLong 0 (Nat.le_of_ble_eq_true rfl) rfl ?_
  intro zp0 zl0 ze0 zs0 zm0 zargs0 zbelow0 zmeth0 zc0 zD0 zad0 zac0 C0 hr0 hk0
  refine mr_aload_n C0 dX6_failedLong_0 rfl (i := 0) rfl ?_
  refine mr_iload_n C0 dX6_failedLong_1 rfl (i := 1) rfl ?_
  refine mr_putI C0 dX6_failedLong_2 fl_X6_61 (Nat.le_of_ble_eq_true rfl) rfl rfl rfl rfl ?_
  refine mr_callSJ C0 mdX6_lost dX6_failedLong_5 clX6_lost ml_X6_65 arX6_lost (as := []) rfl (Nat.le_of_ble_eq_true rfl) (Nat.le_of_ble_eq_true rfl) (Nat.le_of_ble_eq_true rfl) fit0 (CallV_of mdX6_lost plX6_lost 0 (Nat.le_of_ble_eq_true rfl) rfl ?_) (fun _ _ h => h)
  intro zp1 zl1 ze1 zs1 zm1 zargs1 zbelow1 zmeth1 zc1 zD1 zad1 zac1 C1 hr1 hk1
  refine mr_ldc2 C1 dX6_lost_0 cn_X6_59 ?_
  refine mr_lret C1 hr1 hk1 dX6_lost_3 (qJ_mk ?_)
  refine mr_lret C0 hr0 hk0 dX6_failedLong_8 (qJ_mk ?_)
  exact h
set_option maxRecDepth 100000 in
set_option maxHeartbeats 4000000 in
theorem eX6_cells (S : St) (Q : Int32 → St → Prop) (h : Q ((S.1 34 1) * (S.1 34 2)) S) : CallV mdX6_cells [.ref 34] S (qI Q) := by
  refine CallV_of mdX6_cells plX6_cells 0 (Nat.le_of_ble_eq_true rfl) rfl ?_
  intro zp0 zl0 ze0 zs0 zm0 zargs0 zbelow0 zmeth0 zc0 zD0 zad0 zac0 C0 hr0 hk0
  refine mr_aload_n C0 dX6_cells_0 rfl (i := 0) rfl ?_
  refine mr_getI C0 dX6_cells_1 fl_X6_69 (Nat.le_of_ble_eq_true rfl) rfl rfl ?_
  refine mr_aload_n C0 dX6_cells_4 rfl (i := 0) rfl ?_
  refine mr_getI C0 dX6_cells_5 fl_X6_72 (Nat.le_of_ble_eq_true rfl) rfl rfl ?_
  refine mr_imul C0 dX6_cells_8 ?_
  refine mr_iret C0 hr0 hk0 dX6_cells_9 (qI_mk ?_)
  exact h
set_option maxRecDepth 100000 in
set_option maxHeartbeats 4000000 in
theorem eX6_noCell (x1 : Int32) (S : St) (Q : Int32 → St → Prop) (h : ((x1.toInt64 < (0 : Int64) → Q (1 : Int32) S) ∧ (¬ x1.toInt64 < (0 : Int64) → (((((S.1 34 1) * (S.1 34 2)).toInt64 - (1 : Int64)) < x1.toInt64 → Q (1 : Int32) S) ∧ (¬ (((S.1 34 1) * (S.1 34 2)).toInt64 - (1 : Int64)) < x1.toInt64 → Q (0 : Int32) S))))) : CallV mdX6_noCell [.ref 34, .int x1] S (qI Q) := by
  refine CallV_of mdX6_noCell plX6_noCell 0 (Nat.le_of_ble_eq_true rfl) rfl ?_
  intro zp0 zl0 ze0 zs0 zm0 zargs0 zbelow0 zmeth0 zc0 zD0 zad0 zac0 C0 hr0 hk0
  refine mr_iload_n C0 dX6_noCell_0 rfl (i := 1) rfl ?_
  refine mr_i2l C0 dX6_noCell_1 ?_
  refine mr_lconst (v := 0) C0 dX6_noCell_2 (by decide) ?_
  refine mr_aload_n C0 dX6_noCell_3 rfl (i := 0) rfl ?_
  refine mr_callVI C0 mdX6_cells dX6_noCell_4 clX6_cells ml_X6_75 (Nat.le_of_ble_eq_true rfl) rfl rfl arX6_cells (as := []) rfl (Nat.le_of_ble_eq_true rfl) (Nat.le_of_ble_eq_true rfl) (Nat.le_of_ble_eq_true rfl) fit0 (CallV_of mdX6_cells plX6_cells 0 (Nat.le_of_ble_eq_true rfl) rfl ?_) (fun _ _ h => h)
  intro zp1 zl1 ze1 zs1 zm1 zargs1 zbelow1 zmeth1 zc1 zD1 zad1 zac1 C1 hr1 hk1
  refine mr_aload_n C1 dX6_cells_0 rfl (i := 0) rfl ?_
  refine mr_getI C1 dX6_cells_1 fl_X6_69 (Nat.le_of_ble_eq_true rfl) rfl rfl ?_
  refine mr_aload_n C1 dX6_cells_4 rfl (i := 0) rfl ?_
  refine mr_getI C1 dX6_cells_5 fl_X6_72 (Nat.le_of_ble_eq_true rfl) rfl rfl ?_
  refine mr_imul C1 dX6_cells_8 ?_
  refine mr_iret C1 hr1 hk1 dX6_cells_9 (qI_mk ?_)
  refine mr_i2l C0 dX6_noCell_7 ?_
  refine mr_lconst (v := 1) C0 dX6_noCell_8 (by decide) ?_
  refine mr_lsub C0 dX6_noCell_9 ?_
  refine mr_callSI C0 mdX6_in dX6_noCell_10 clX6_in ml_X6_79 arX6_in (as := [.long x1.toInt64, .long (0 : Int64), .long (((S.1 34 1) * (S.1 34 2)).toInt64 - (1 : Int64))]) rfl (Nat.le_of_ble_eq_true rfl) (Nat.le_of_ble_eq_true rfl) (Nat.le_of_ble_eq_true rfl) fit0 (CallV_of mdX6_in plX6_in 0 (Nat.le_of_ble_eq_true rfl) rfl ?_) (fun _ _ h => h)
  intro zp2 zl2 ze2 zs2 zm2 zargs2 zbelow2 zmeth2 zc2 zD2 zad2 zac2 C2 hr2 hk2
  refine mr_lload_n C2 dX6_in_0 rfl (i := 0) rfl ?_
  refine mr_lload_n C2 dX6_in_1 rfl (i := 2) rfl ?_
  refine mr_lcmp_lt C2 dX6_in_2 dX6_in_3 (tgt := 17) (by decide) (fun c1 => ?_) (fun c1 => ?_)
  · have h := h.1 c1
    refine mr_iconst (v := 0) C2 dX6_in_17 (by decide) ?_
    refine mr_zret C2 hr2 hk2 dX6_in_18 rfl (qI_mk ?_)
    refine mr_if_ne C0 dX6_noCell_13 (tgt := 20) (by decide) (fun q => absurd q (by decide)) (fun _ => ?_)
    refine mr_iconst (v := 1) C0 dX6_noCell_16 (by decide) ?_
    refine mr_goto C0 dX6_noCell_17 (tgt := 21) (by decide) ?_
    refine mr_zret C0 hr0 hk0 dX6_noCell_21 rfl (qI_mk ?_)
    exact h
  · have h := h.2 c1
    refine mr_lload_n C2 dX6_in_6 rfl (i := 0) rfl ?_
    refine mr_lload C2 dX6_in_7 rfl ?_
    refine mr_lcmp_gt C2 dX6_in_9 dX6_in_10 (tgt := 17) (by decide) (fun c2 => ?_) (fun c2 => ?_)
    · have h := h.1 c2
      refine mr_iconst (v := 0) C2 dX6_in_17 (by decide) ?_
      refine mr_zret C2 hr2 hk2 dX6_in_18 rfl (qI_mk ?_)
      refine mr_if_ne C0 dX6_noCell_13 (tgt := 20) (by decide) (fun q => absurd q (by decide)) (fun _ => ?_)
      refine mr_iconst (v := 1) C0 dX6_noCell_16 (by decide) ?_
      refine mr_goto C0 dX6_noCell_17 (tgt := 21) (by decide) ?_
      refine mr_zret C0 hr0 hk0 dX6_noCell_21 rfl (qI_mk ?_)
      exact h
    · have h := h.2 c2
      refine mr_iconst (v := 1) C2 dX6_in_13 (by decide) ?_
      refine mr_goto C2 dX6_in_14 (tgt := 18) (by decide) ?_
      refine mr_zret C2 hr2 hk2 dX6_in_18 rfl (qI_mk ?_)
      refine mr_if_ne C0 dX6_noCell_13 (tgt := 20) (by decide) (fun _ => ?_) (fun q => absurd q (by decide))
      refine mr_iconst (v := 0) C0 dX6_noCell_20 (by decide) ?_
      refine mr_zret C0 hr0 hk0 dX6_noCell_21 rfl (qI_mk ?_)
      exact h
set_option maxRecDepth 100000 in
set_option maxHeartbeats 4000000 in
theorem eX6_noColumn (x1 : Int32) (S : St) (Q : Int32 → St → Prop) (h : ((x1.toInt64 < (0 : Int64) → Q (1 : Int32) S) ∧ (¬ x1.toInt64 < (0 : Int64) → ((((S.1 34 2).toInt64 - (1 : Int64)) < x1.toInt64 → Q (1 : Int32) S) ∧ (¬ ((S.1 34 2).toInt64 - (1 : Int64)) < x1.toInt64 → Q (0 : Int32) S))))) : CallV mdX6_noColumn [.ref 34, .int x1] S (qI Q) := by
  refine CallV_of mdX6_noColumn plX6_noColumn 0 (Nat.le_of_ble_eq_true rfl) rfl ?_
  intro zp0 zl0 ze0 zs0 zm0 zargs0 zbelow0 zmeth0 zc0 zD0 zad0 zac0 C0 hr0 hk0
  refine mr_iload_n C0 dX6_noColumn_0 rfl (i := 1) rfl ?_
  refine mr_i2l C0 dX6_noColumn_1 ?_
  refine mr_lconst (v := 0) C0 dX6_noColumn_2 (by decide) ?_
  refine mr_aload_n C0 dX6_noColumn_3 rfl (i := 0) rfl ?_
  refine mr_getI C0 dX6_noColumn_4 fl_X6_72 (Nat.le_of_ble_eq_true rfl) rfl rfl ?_
  refine mr_i2l C0 dX6_noColumn_7 ?_
  refine mr_lconst (v := 1) C0 dX6_noColumn_8 (by decide) ?_
  refine mr_lsub C0 dX6_noColumn_9 ?_
  refine mr_callSI C0 mdX6_in dX6_noColumn_10 clX6_in ml_X6_79 arX6_in (as := [.long x1.toInt64, .long (0 : Int64), .long ((S.1 34 2).toInt64 - (1 : Int64))]) rfl (Nat.le_of_ble_eq_true rfl) (Nat.le_of_ble_eq_true rfl) (Nat.le_of_ble_eq_true rfl) fit0 (CallV_of mdX6_in plX6_in 0 (Nat.le_of_ble_eq_true rfl) rfl ?_) (fun _ _ h => h)
  intro zp1 zl1 ze1 zs1 zm1 zargs1 zbelow1 zmeth1 zc1 zD1 zad1 zac1 C1 hr1 hk1
  refine mr_lload_n C1 dX6_in_0 rfl (i := 0) rfl ?_
  refine mr_lload_n C1 dX6_in_1 rfl (i := 2) rfl ?_
  refine mr_lcmp_lt C1 dX6_in_2 dX6_in_3 (tgt := 17) (by decide) (fun c1 => ?_) (fun c1 => ?_)
  · have h := h.1 c1
    refine mr_iconst (v := 0) C1 dX6_in_17 (by decide) ?_
    refine mr_zret C1 hr1 hk1 dX6_in_18 rfl (qI_mk ?_)
    refine mr_if_ne C0 dX6_noColumn_13 (tgt := 20) (by decide) (fun q => absurd q (by decide)) (fun _ => ?_)
    refine mr_iconst (v := 1) C0 dX6_noColumn_16 (by decide) ?_
    refine mr_goto C0 dX6_noColumn_17 (tgt := 21) (by decide) ?_
    refine mr_zret C0 hr0 hk0 dX6_noColumn_21 rfl (qI_mk ?_)
    exact h
  · have h := h.2 c1
    refine mr_lload_n C1 dX6_in_6 rfl (i := 0) rfl ?_
    refine mr_lload C1 dX6_in_7 rfl ?_
    refine mr_lcmp_gt C1 dX6_in_9 dX6_in_10 (tgt := 17) (by decide) (fun c2 => ?_) (fun c2 => ?_)
    · have h := h.1 c2
      refine mr_iconst (v := 0) C1 dX6_in_17 (by decide) ?_
      refine mr_zret C1 hr1 hk1 dX6_in_18 rfl (qI_mk ?_)
      refine mr_if_ne C0 dX6_noColumn_13 (tgt := 20) (by decide) (fun q => absurd q (by decide)) (fun _ => ?_)
      refine mr_iconst (v := 1) C0 dX6_noColumn_16 (by decide) ?_
      refine mr_goto C0 dX6_noColumn_17 (tgt := 21) (by decide) ?_
      refine mr_zret C0 hr0 hk0 dX6_noColumn_21 rfl (qI_mk ?_)
      exact h
    · have h := h.2 c2
      refine mr_iconst (v := 1) C1 dX6_in_13 (by decide) ?_
      refine mr_goto C1 dX6_in_14 (tgt := 18) (by decide) ?_
      refine mr_zret C1 hr1 hk1 dX6_in_18 rfl (qI_mk ?_)
      refine mr_if_ne C0 dX6_noColumn_13 (tgt := 20) (by decide) (fun _ => ?_) (fun q => absurd q (by decide))
      refine mr_iconst (v := 0) C0 dX6_noColumn_20 (by decide) ?_
      refine mr_zret C0 hr0 hk0 dX6_noColumn_21 rfl (qI_mk ?_)
      exact h
set_option maxRecDepth 100000 in
set_option maxHeartbeats 4000000 in
theorem eX6_noParty (x0 : Int32) (S : St) (Q : Int32 → St → Prop) (h : ((x0.toInt64 < (0 : Int64) → Q (1 : Int32) S) ∧ (¬ x0.toInt64 < (0 : Int64) → (((3 : Int64) < x0.toInt64 → Q (1 : Int32) S) ∧ (¬ (3 : Int64) < x0.toInt64 → Q (0 : Int32) S))))) : CallV mdX6_noParty [.int x0] S (qI Q) := by
  refine CallV_of mdX6_noParty plX6_noParty 0 (Nat.le_of_ble_eq_true rfl) rfl ?_
  intro zp0 zl0 ze0 zs0 zm0 zargs0 zbelow0 zmeth0 zc0 zD0 zad0 zac0 C0 hr0 hk0
  refine mr_iload_n C0 dX6_noParty_0 rfl (i := 0) rfl ?_
  refine mr_i2l C0 dX6_noParty_1 ?_
  refine mr_lconst (v := 0) C0 dX6_noParty_2 (by decide) ?_
  refine mr_ldc2 C0 dX6_noParty_3 cn_X6_83 ?_
  refine mr_callSI C0 mdX6_in dX6_noParty_6 clX6_in ml_X6_79 arX6_in (as := [.long x0.toInt64, .long (0 : Int64), .long (3 : Int64)]) rfl (Nat.le_of_ble_eq_true rfl) (Nat.le_of_ble_eq_true rfl) (Nat.le_of_ble_eq_true rfl) fit0 (CallV_of mdX6_in plX6_in 0 (Nat.le_of_ble_eq_true rfl) rfl ?_) (fun _ _ h => h)
  intro zp1 zl1 ze1 zs1 zm1 zargs1 zbelow1 zmeth1 zc1 zD1 zad1 zac1 C1 hr1 hk1
  refine mr_lload_n C1 dX6_in_0 rfl (i := 0) rfl ?_
  refine mr_lload_n C1 dX6_in_1 rfl (i := 2) rfl ?_
  refine mr_lcmp_lt C1 dX6_in_2 dX6_in_3 (tgt := 17) (by decide) (fun c1 => ?_) (fun c1 => ?_)
  · have h := h.1 c1
    refine mr_iconst (v := 0) C1 dX6_in_17 (by decide) ?_
    refine mr_zret C1 hr1 hk1 dX6_in_18 rfl (qI_mk ?_)
    refine mr_if_ne C0 dX6_noParty_9 (tgt := 16) (by decide) (fun q => absurd q (by decide)) (fun _ => ?_)
    refine mr_iconst (v := 1) C0 dX6_noParty_12 (by decide) ?_
    refine mr_goto C0 dX6_noParty_13 (tgt := 17) (by decide) ?_
    refine mr_zret C0 hr0 hk0 dX6_noParty_17 rfl (qI_mk ?_)
    exact h
  · have h := h.2 c1
    refine mr_lload_n C1 dX6_in_6 rfl (i := 0) rfl ?_
    refine mr_lload C1 dX6_in_7 rfl ?_
    refine mr_lcmp_gt C1 dX6_in_9 dX6_in_10 (tgt := 17) (by decide) (fun c2 => ?_) (fun c2 => ?_)
    · have h := h.1 c2
      refine mr_iconst (v := 0) C1 dX6_in_17 (by decide) ?_
      refine mr_zret C1 hr1 hk1 dX6_in_18 rfl (qI_mk ?_)
      refine mr_if_ne C0 dX6_noParty_9 (tgt := 16) (by decide) (fun q => absurd q (by decide)) (fun _ => ?_)
      refine mr_iconst (v := 1) C0 dX6_noParty_12 (by decide) ?_
      refine mr_goto C0 dX6_noParty_13 (tgt := 17) (by decide) ?_
      refine mr_zret C0 hr0 hk0 dX6_noParty_17 rfl (qI_mk ?_)
      exact h
    · have h := h.2 c2
      refine mr_iconst (v := 1) C1 dX6_in_13 (by decide) ?_
      refine mr_goto C1 dX6_in_14 (tgt := 18) (by decide) ?_
      refine mr_zret C1 hr1 hk1 dX6_in_18 rfl (qI_mk ?_)
      refine mr_if_ne C0 dX6_noParty_9 (tgt := 16) (by decide) (fun _ => ?_) (fun q => absurd q (by decide))
      refine mr_iconst (v := 0) C0 dX6_noParty_16 (by decide) ?_
      refine mr_zret C0 hr0 hk0 dX6_noParty_17 rfl (qI_mk ?_)
      exact h
set_option maxRecDepth 100000 in
set_option maxHeartbeats 4000000 in
theorem eX6_codeAt (x1 : Int32) (x2 : Int32) (S : St) (Q : Int32 → St → Prop) (h : ((x2 ≤ (S.1 34 6) → Q (-9 : Int32) S) ∧ (¬ x2 ≤ (S.1 34 6) → (vp_in (x1 + (S.1 34 6)) 240) ∧ Q (S.1 49 ((x1 + (S.1 34 6)).toNatClampNeg)) S))) : CallV mdX6_codeAt [.ref 34, .int x1, .int x2] S (qI Q) := by
  refine CallV_of mdX6_codeAt plX6_codeAt 0 (Nat.le_of_ble_eq_true rfl) rfl ?_
  intro zp0 zl0 ze0 zs0 zm0 zargs0 zbelow0 zmeth0 zc0 zD0 zad0 zac0 C0 hr0 hk0
  refine mr_aload_n C0 dX6_codeAt_0 rfl (i := 0) rfl ?_
  refine mr_getI C0 dX6_codeAt_1 fl_X6_85 (Nat.le_of_ble_eq_true rfl) rfl rfl ?_
  refine mr_iload_n C0 dX6_codeAt_4 rfl (i := 2) rfl ?_
  refine mr_icmp_ge C0 dX6_codeAt_5 (tgt := 22) (by decide) (fun c1 => ?_) (fun c1 => ?_)
  · have h := h.1 c1
    refine mr_bipush (v := (-9)) C0 dX6_codeAt_22 (by decide) ?_
    refine mr_iret C0 hr0 hk0 dX6_codeAt_24 (qI_mk ?_)
    exact h
  · have h := h.2 c1
    refine mr_aload_n C0 dX6_codeAt_8 rfl (i := 0) rfl ?_
    refine mr_getR C0 dX6_codeAt_9 fl_X6_53 (Nat.le_of_ble_eq_true rfl) rfl rfl ?_
    refine mr_iload_n C0 dX6_codeAt_12 rfl (i := 1) rfl ?_
    refine mr_aload_n C0 dX6_codeAt_13 rfl (i := 0) rfl ?_
    refine mr_getI C0 dX6_codeAt_14 fl_X6_85 (Nat.le_of_ble_eq_true rfl) rfl rfl ?_
    refine mr_iadd C0 dX6_codeAt_17 ?_
    have g2 := h.1
    have h := h.2
    refine mr_iald C0 dX6_codeAt_18 (Nat.le_of_ble_eq_true rfl) rfl g2 ?_
    refine mr_goto C0 dX6_codeAt_19 (tgt := 24) (by decide) ?_
    refine mr_iret C0 hr0 hk0 dX6_codeAt_24 (qI_mk ?_)
    exact h
set_option maxRecDepth 100000 in
set_option maxHeartbeats 4000000 in
theorem eX6_figure (x1 : Int32) (x2 : Int32) (x3 : Int32) (x4 : Int32) (S : St) (Q : Int32 → St → Prop) (h : CallV mdX6_codeAt [.ref 34, .int x1, .int x2] S (qI fun r2 S1 => (((r2 - (48 : Int32)).toInt64 < x3.toInt64 → Q (-9 : Int32) (sI S1 34 6 ((S1.1 34 6) + (0 : Int32)))) ∧ (¬ (r2 - (48 : Int32)).toInt64 < x3.toInt64 → ((x4.toInt64 < (r2 - (48 : Int32)).toInt64 → Q (-9 : Int32) (sI S1 34 6 ((S1.1 34 6) + (0 : Int32)))) ∧ (¬ x4.toInt64 < (r2 - (48 : Int32)).toInt64 → Q (r2 - (48 : Int32)) (sI S1 34 6 ((S1.1 34 6) + (1 : Int32))))))))) : CallV mdX6_figure [.ref 34, .int x1, .int x2, .int x3, .int x4] S (qI Q) := by
  refine CallV_of mdX6_figure plX6_figure 2 (Nat.le_of_ble_eq_true rfl) rfl ?_
  intro zp0 zl0 ze0 zs0 zm0 zargs0 zbelow0 zmeth0 zc0 zD0 zad0 zac0 C0 hr0 hk0
  refine mr_aload_n C0 dX6_figure_0 rfl (i := 0) rfl ?_
  refine mr_iload_n C0 dX6_figure_1 rfl (i := 1) rfl ?_
  refine mr_iload_n C0 dX6_figure_2 rfl (i := 2) rfl ?_
  refine mr_callVI C0 mdX6_codeAt dX6_figure_3 clX6_codeAt ml_X6_88 (Nat.le_of_ble_eq_true rfl) rfl rfl arX6_codeAt (as := [.int x1, .int x2]) rfl (Nat.le_of_ble_eq_true rfl) (Nat.le_of_ble_eq_true rfl) (Nat.le_of_ble_eq_true rfl) fit0 h (fun r2 S1 h => ?_)
  refine mr_bipush (v := 48) C0 dX6_figure_6 (by decide) ?_
  refine mr_isub C0 dX6_figure_8 ?_
  refine mr_istore (L1 := [some (.ref 34), some (.int x1), some (.int x2), some (.int x3), some (.int x4), some (.int (r2 - (48 : Int32))), none]) C0 dX6_figure_9 (Nat.le_of_ble_eq_true rfl) rfl ?_
  refine mr_iload C0 dX6_figure_11 rfl ?_
  refine mr_i2l C0 dX6_figure_13 ?_
  refine mr_iload_n C0 dX6_figure_14 rfl (i := 3) rfl ?_
  refine mr_i2l C0 dX6_figure_15 ?_
  refine mr_iload C0 dX6_figure_16 rfl ?_
  refine mr_i2l C0 dX6_figure_18 ?_
  refine mr_callSI C0 mdX6_in dX6_figure_19 clX6_in ml_X6_79 arX6_in (as := [.long (r2 - (48 : Int32)).toInt64, .long x3.toInt64, .long x4.toInt64]) rfl (Nat.le_of_ble_eq_true rfl) (Nat.le_of_ble_eq_true rfl) (Nat.le_of_ble_eq_true rfl) fit0 (CallV_of mdX6_in plX6_in 0 (Nat.le_of_ble_eq_true rfl) rfl ?_) (fun _ _ h => h)
  intro zp1 zl1 ze1 zs1 zm1 zargs1 zbelow1 zmeth1 zc1 zD1 zad1 zac1 C1 hr1 hk1
  refine mr_lload_n C1 dX6_in_0 rfl (i := 0) rfl ?_
  refine mr_lload_n C1 dX6_in_1 rfl (i := 2) rfl ?_
  refine mr_lcmp_lt C1 dX6_in_2 dX6_in_3 (tgt := 17) (by decide) (fun c3 => ?_) (fun c3 => ?_)
  · have h := h.1 c3
    refine mr_iconst (v := 0) C1 dX6_in_17 (by decide) ?_
    refine mr_zret C1 hr1 hk1 dX6_in_18 rfl (qI_mk ?_)
    refine mr_istore (L1 := [some (.ref 34), some (.int x1), some (.int x2), some (.int x3), some (.int x4), some (.int (r2 - (48 : Int32))), some (.int (0 : Int32))]) C0 dX6_figure_22 (Nat.le_of_ble_eq_true rfl) rfl ?_
    refine mr_aload_n C0 dX6_figure_24 rfl (i := 0) rfl ?_
    refine mr_dup C0 dX6_figure_25 rfl ?_
    refine mr_getI C0 dX6_figure_26 fl_X6_85 (Nat.le_of_ble_eq_true rfl) rfl rfl ?_
    refine mr_iload C0 dX6_figure_29 rfl ?_
    refine mr_if_eq C0 dX6_figure_31 (tgt := 38) (by decide) (fun _ => ?_) (fun q => absurd q (by decide))
    refine mr_iconst (v := 0) C0 dX6_figure_38 (by decide) ?_
    refine mr_iadd C0 dX6_figure_39 ?_
    refine mr_putI C0 dX6_figure_40 fl_X6_85 (Nat.le_of_ble_eq_true rfl) rfl rfl rfl rfl ?_
    refine mr_iload C0 dX6_figure_43 rfl ?_
    refine mr_if_eq C0 dX6_figure_45 (tgt := 53) (by decide) (fun _ => ?_) (fun q => absurd q (by decide))
    refine mr_bipush (v := (-9)) C0 dX6_figure_53 (by decide) ?_
    refine mr_iret C0 hr0 hk0 dX6_figure_55 (qI_mk ?_)
    exact h
  · have h := h.2 c3
    refine mr_lload_n C1 dX6_in_6 rfl (i := 0) rfl ?_
    refine mr_lload C1 dX6_in_7 rfl ?_
    refine mr_lcmp_gt C1 dX6_in_9 dX6_in_10 (tgt := 17) (by decide) (fun c4 => ?_) (fun c4 => ?_)
    · have h := h.1 c4
      refine mr_iconst (v := 0) C1 dX6_in_17 (by decide) ?_
      refine mr_zret C1 hr1 hk1 dX6_in_18 rfl (qI_mk ?_)
      refine mr_istore (L1 := [some (.ref 34), some (.int x1), some (.int x2), some (.int x3), some (.int x4), some (.int (r2 - (48 : Int32))), some (.int (0 : Int32))]) C0 dX6_figure_22 (Nat.le_of_ble_eq_true rfl) rfl ?_
      refine mr_aload_n C0 dX6_figure_24 rfl (i := 0) rfl ?_
      refine mr_dup C0 dX6_figure_25 rfl ?_
      refine mr_getI C0 dX6_figure_26 fl_X6_85 (Nat.le_of_ble_eq_true rfl) rfl rfl ?_
      refine mr_iload C0 dX6_figure_29 rfl ?_
      refine mr_if_eq C0 dX6_figure_31 (tgt := 38) (by decide) (fun _ => ?_) (fun q => absurd q (by decide))
      refine mr_iconst (v := 0) C0 dX6_figure_38 (by decide) ?_
      refine mr_iadd C0 dX6_figure_39 ?_
      refine mr_putI C0 dX6_figure_40 fl_X6_85 (Nat.le_of_ble_eq_true rfl) rfl rfl rfl rfl ?_
      refine mr_iload C0 dX6_figure_43 rfl ?_
      refine mr_if_eq C0 dX6_figure_45 (tgt := 53) (by decide) (fun _ => ?_) (fun q => absurd q (by decide))
      refine mr_bipush (v := (-9)) C0 dX6_figure_53 (by decide) ?_
      refine mr_iret C0 hr0 hk0 dX6_figure_55 (qI_mk ?_)
      exact h
    · have h := h.2 c4
      refine mr_iconst (v := 1) C1 dX6_in_13 (by decide) ?_
      refine mr_goto C1 dX6_in_14 (tgt := 18) (by decide) ?_
      refine mr_zret C1 hr1 hk1 dX6_in_18 rfl (qI_mk ?_)
      refine mr_istore (L1 := [some (.ref 34), some (.int x1), some (.int x2), some (.int x3), some (.int x4), some (.int (r2 - (48 : Int32))), some (.int (1 : Int32))]) C0 dX6_figure_22 (Nat.le_of_ble_eq_true rfl) rfl ?_
      refine mr_aload_n C0 dX6_figure_24 rfl (i := 0) rfl ?_
      refine mr_dup C0 dX6_figure_25 rfl ?_
      refine mr_getI C0 dX6_figure_26 fl_X6_85 (Nat.le_of_ble_eq_true rfl) rfl rfl ?_
      refine mr_iload C0 dX6_figure_29 rfl ?_
      refine mr_if_eq C0 dX6_figure_31 (tgt := 38) (by decide) (fun q => absurd q (by decide)) (fun _ => ?_)
      refine mr_iconst (v := 1) C0 dX6_figure_34 (by decide) ?_
      refine mr_goto C0 dX6_figure_35 (tgt := 39) (by decide) ?_
      refine mr_iadd C0 dX6_figure_39 ?_
      refine mr_putI C0 dX6_figure_40 fl_X6_85 (Nat.le_of_ble_eq_true rfl) rfl rfl rfl rfl ?_
      refine mr_iload C0 dX6_figure_43 rfl ?_
      refine mr_if_eq C0 dX6_figure_45 (tgt := 53) (by decide) (fun q => absurd q (by decide)) (fun _ => ?_)
      refine mr_iload C0 dX6_figure_48 rfl ?_
      refine mr_goto C0 dX6_figure_50 (tgt := 55) (by decide) ?_
      refine mr_iret C0 hr0 hk0 dX6_figure_55 (qI_mk ?_)
      exact h
set_option maxRecDepth 100000 in
set_option maxHeartbeats 4000000 in
theorem eX6_signBy (x0 : Int32) (S : St) (Q : Int32 → St → Prop) (h : ((x0 = (35 : Int32) → Q (4 : Int32) S) ∧ (¬ x0 = (35 : Int32) → ((x0 = (46 : Int32) → Q (0 : Int32) S) ∧ (¬ x0 = (46 : Int32) → ((x0 = (108 : Int32) → Q (2 : Int32) S) ∧ (¬ x0 = (108 : Int32) → ((x0 = (112 : Int32) → Q (1 : Int32) S) ∧ (¬ x0 = (112 : Int32) → ((x0 = (114 : Int32) → Q (3 : Int32) S) ∧ (¬ x0 = (114 : Int32) → Q (-9 : Int32) S))))))))))) : CallV mdX6_signBy [.int x0] S (qI Q) := by
  refine CallV_of mdX6_signBy plX6_signBy 0 (Nat.le_of_ble_eq_true rfl) rfl ?_
  intro zp0 zl0 ze0 zs0 zm0 zargs0 zbelow0 zmeth0 zc0 zD0 zad0 zac0 C0 hr0 hk0
  refine mr_iload_n C0 dX6_signBy_0 rfl (i := 0) rfl ?_
  by_cases c1 : x0 = (35 : Int32)
  · have h := h.1 c1
    refine mr_ls C0 dX6_signBy_1 (by decide) (off := 59) (by rw [c1]; decide) (tgt := 60) (by decide) ?_
    refine mr_iconst (v := 4) C0 dX6_signBy_60 (by decide) ?_
    refine mr_iret C0 hr0 hk0 dX6_signBy_61 (qI_mk ?_)
    exact h
  · have h := h.2 c1
    by_cases c2 : x0 = (46 : Int32)
    · have h := h.1 c2
      refine mr_ls C0 dX6_signBy_1 (by decide) (off := 51) (by rw [c2]; decide) (tgt := 52) (by decide) ?_
      refine mr_iconst (v := 0) C0 dX6_signBy_52 (by decide) ?_
      refine mr_iret C0 hr0 hk0 dX6_signBy_53 (qI_mk ?_)
      exact h
    · have h := h.2 c2
      by_cases c3 : x0 = (108 : Int32)
      · have h := h.1 c3
        refine mr_ls C0 dX6_signBy_1 (by decide) (off := 55) (by rw [c3]; decide) (tgt := 56) (by decide) ?_
        refine mr_iconst (v := 2) C0 dX6_signBy_56 (by decide) ?_
        refine mr_iret C0 hr0 hk0 dX6_signBy_57 (qI_mk ?_)
        exact h
      · have h := h.2 c3
        by_cases c4 : x0 = (112 : Int32)
        · have h := h.1 c4
          refine mr_ls C0 dX6_signBy_1 (by decide) (off := 53) (by rw [c4]; decide) (tgt := 54) (by decide) ?_
          refine mr_iconst (v := 1) C0 dX6_signBy_54 (by decide) ?_
          refine mr_iret C0 hr0 hk0 dX6_signBy_55 (qI_mk ?_)
          exact h
        · have h := h.2 c4
          by_cases c5 : x0 = (114 : Int32)
          · have h := h.1 c5
            refine mr_ls C0 dX6_signBy_1 (by decide) (off := 57) (by rw [c5]; decide) (tgt := 58) (by decide) ?_
            refine mr_iconst (v := 3) C0 dX6_signBy_58 (by decide) ?_
            refine mr_iret C0 hr0 hk0 dX6_signBy_59 (qI_mk ?_)
            exact h
          · have h := h.2 c5
            refine mr_ls C0 dX6_signBy_1 (by decide) (off := 61) (by show Op.lookupswitch.offset [(35, 59), (46, 51), (108, 55), (112, 53), (114, 57)] 61 _ = _; rw [lv_osw c1 (show ((35 : Int32)).toInt = 35 by decide), lv_osw c2 (show ((46 : Int32)).toInt = 46 by decide), lv_osw c3 (show ((108 : Int32)).toInt = 108 by decide), lv_osw c4 (show ((112 : Int32)).toInt = 112 by decide), lv_osw c5 (show ((114 : Int32)).toInt = 114 by decide)]; rfl) (tgt := 62) (by decide) ?_
            refine mr_bipush (v := (-9)) C0 dX6_signBy_62 (by decide) ?_
            refine mr_iret C0 hr0 hk0 dX6_signBy_64 (qI_mk ?_)
            exact h
set_option maxRecDepth 100000 in
set_option maxHeartbeats 4000000 in
theorem eX6_readsCell (x1 : Int32) (x2 : Int32) (x3 : Int32) (S : St) (Q : Int32 → St → Prop) (h : CallV mdX6_codeAt [.ref 34, .int x1, .int x2] S (qI fun r2 S1 => CallV mdX6_signBy [.int r2] S1 (qI fun r4 S3 => (vp_in x3 30) ∧ (vp_in x3 30) ∧ ((r4 < 0 → Q (0 : Int32) (sI (sI S3 38 x3.toNatClampNeg r4) 34 6 ((S3.1 34 6) + (0 : Int32)))) ∧ (¬ r4 < 0 → Q (1 : Int32) (sI (sI S3 38 x3.toNatClampNeg r4) 34 6 ((S3.1 34 6) + (1 : Int32)))))))) : CallV mdX6_readsCell [.ref 34, .int x1, .int x2, .int x3] S (qI Q) := by
  refine CallV_of mdX6_readsCell plX6_readsCell 1 (Nat.le_of_ble_eq_true rfl) rfl ?_
  intro zp0 zl0 ze0 zs0 zm0 zargs0 zbelow0 zmeth0 zc0 zD0 zad0 zac0 C0 hr0 hk0
  refine mr_aload_n C0 dX6_readsCell_0 rfl (i := 0) rfl ?_
  refine mr_getR C0 dX6_readsCell_1 fl_X6_19 (Nat.le_of_ble_eq_true rfl) rfl rfl ?_
  refine mr_iload_n C0 dX6_readsCell_4 rfl (i := 3) rfl ?_
  refine mr_aload_n C0 dX6_readsCell_5 rfl (i := 0) rfl ?_
  refine mr_iload_n C0 dX6_readsCell_6 rfl (i := 1) rfl ?_
  refine mr_iload_n C0 dX6_readsCell_7 rfl (i := 2) rfl ?_
  refine mr_callVI C0 mdX6_codeAt dX6_readsCell_8 clX6_codeAt ml_X6_88 (Nat.le_of_ble_eq_true rfl) rfl rfl arX6_codeAt (as := [.int x1, .int x2]) rfl (Nat.le_of_ble_eq_true rfl) (Nat.le_of_ble_eq_true rfl) (Nat.le_of_ble_eq_true rfl) fit0 h (fun r2 S1 h => ?_)
  refine mr_callSI C0 mdX6_signBy dX6_readsCell_11 clX6_signBy ml_X6_92 arX6_signBy (as := [.int r2]) rfl (Nat.le_of_ble_eq_true rfl) (Nat.le_of_ble_eq_true rfl) (Nat.le_of_ble_eq_true rfl) fit0 h (fun r4 S3 h => ?_)
  have g5 := h.1
  have h := h.2
  refine mr_iast C0 dX6_readsCell_14 (Nat.le_of_ble_eq_true rfl) rfl g5 ?_
  refine mr_aload_n C0 dX6_readsCell_15 rfl (i := 0) rfl ?_
  refine mr_getR C0 dX6_readsCell_16 fl_X6_19 (Nat.le_of_ble_eq_true rfl) rfl rfl ?_
  refine mr_iload_n C0 dX6_readsCell_19 rfl (i := 3) rfl ?_
  have g6 := h.1
  have h := h.2
  refine mr_iald C0 dX6_readsCell_20 (Nat.le_of_ble_eq_true rfl) rfl g6 ?_
  refine mr_topI (y := r4) (by first | rfl | simp [sI, sJ, sF, upd, vp_updL]) ?_
  refine mr_if_lt C0 dX6_readsCell_21 (tgt := 28) (by decide) (fun c7 => ?_) (fun c7 => ?_)
  · have h := h.1 c7
    refine mr_iconst (v := 0) C0 dX6_readsCell_28 (by decide) ?_
    refine mr_istore (L1 := [some (.ref 34), some (.int x1), some (.int x2), some (.int x3), some (.int (0 : Int32))]) C0 dX6_readsCell_29 (Nat.le_of_ble_eq_true rfl) rfl ?_
    refine mr_aload_n C0 dX6_readsCell_31 rfl (i := 0) rfl ?_
    refine mr_dup C0 dX6_readsCell_32 rfl ?_
    refine mr_getI C0 dX6_readsCell_33 fl_X6_85 (Nat.le_of_ble_eq_true rfl) rfl rfl ?_
    refine mr_topI (y := (S3.1 34 6)) (by first | rfl | simp [sI, sJ, sF, upd, vp_updL]) ?_
    refine mr_iload C0 dX6_readsCell_36 rfl ?_
    refine mr_if_eq C0 dX6_readsCell_38 (tgt := 45) (by decide) (fun _ => ?_) (fun q => absurd q (by decide))
    refine mr_iconst (v := 0) C0 dX6_readsCell_45 (by decide) ?_
    refine mr_iadd C0 dX6_readsCell_46 ?_
    refine mr_putI C0 dX6_readsCell_47 fl_X6_85 (Nat.le_of_ble_eq_true rfl) rfl rfl rfl rfl ?_
    refine mr_iload C0 dX6_readsCell_50 rfl ?_
    refine mr_zret C0 hr0 hk0 dX6_readsCell_52 rfl (qI_mk ?_)
    exact h
  · have h := h.2 c7
    refine mr_iconst (v := 1) C0 dX6_readsCell_24 (by decide) ?_
    refine mr_goto C0 dX6_readsCell_25 (tgt := 29) (by decide) ?_
    refine mr_istore (L1 := [some (.ref 34), some (.int x1), some (.int x2), some (.int x3), some (.int (1 : Int32))]) C0 dX6_readsCell_29 (Nat.le_of_ble_eq_true rfl) rfl ?_
    refine mr_aload_n C0 dX6_readsCell_31 rfl (i := 0) rfl ?_
    refine mr_dup C0 dX6_readsCell_32 rfl ?_
    refine mr_getI C0 dX6_readsCell_33 fl_X6_85 (Nat.le_of_ble_eq_true rfl) rfl rfl ?_
    refine mr_topI (y := (S3.1 34 6)) (by first | rfl | simp [sI, sJ, sF, upd, vp_updL]) ?_
    refine mr_iload C0 dX6_readsCell_36 rfl ?_
    refine mr_if_eq C0 dX6_readsCell_38 (tgt := 45) (by decide) (fun q => absurd q (by decide)) (fun _ => ?_)
    refine mr_iconst (v := 1) C0 dX6_readsCell_41 (by decide) ?_
    refine mr_goto C0 dX6_readsCell_42 (tgt := 46) (by decide) ?_
    refine mr_iadd C0 dX6_readsCell_46 ?_
    refine mr_putI C0 dX6_readsCell_47 fl_X6_85 (Nat.le_of_ble_eq_true rfl) rfl rfl rfl rfl ?_
    refine mr_iload C0 dX6_readsCell_50 rfl ?_
    refine mr_zret C0 hr0 hk0 dX6_readsCell_52 rfl (qI_mk ?_)
    exact h
set_option maxRecDepth 100000 in
set_option maxHeartbeats 4000000 in
theorem eX6_readsHill (x1 : Int32) (x2 : Int32) (S : St) (Q : Int32 → St → Prop) (h : CallV mdX6_codeAt [.ref 34, .int x1, .int x2] (sI S 34 6 (0 : Int32)) (qI fun r2 S1 => ((¬ r2 = (109 : Int32) → V mdX6_readsHill 102 [some (.ref 34), some (.int x1), some (.int x2), some (.int (0 : Int32)), some (.int (0 : Int32))] [] (sI (sI (sI S1 34 6 ((S1.1 34 6) + (0 : Int32))) 34 7 (-9 : Int32)) 34 8 (-9 : Int32)) (qI Q)) ∧ (r2 = (109 : Int32) → CallV mdX6_figure [.ref 34, .int x1, .int x2, .int (1 : Int32), .int (5 : Int32)] (sI S1 34 6 ((S1.1 34 6) + (1 : Int32))) (qI fun r5 S4 => ((r5 ≤ 0 → V mdX6_readsHill 102 [some (.ref 34), some (.int x1), some (.int x2), some (.int (0 : Int32)), some (.int (0 : Int32))] [] (sI (sI S4 34 7 r5) 34 8 (-9 : Int32)) (qI Q)) ∧ (¬ r5 ≤ 0 → CallV mdX6_figure [.ref 34, .int x1, .int x2, .int (2 : Int32), .int (6 : Int32)] (sI S4 34 7 r5) (qI fun r8 S7 => ((r8 ≤ 0 → V mdX6_readsHill 102 [some (.ref 34), some (.int x1), some (.int x2), some (.int (0 : Int32)), some (.int (0 : Int32))] [] (sI S7 34 8 r8) (qI Q)) ∧ (¬ r8 ≤ 0 → V mdX6_readsHill 102 [some (.ref 34), some (.int x1), some (.int x2), some (.int (1 : Int32)), some (.int (0 : Int32))] [] (sI S7 34 8 r8) (qI Q))))))))))) : CallV mdX6_readsHill [.ref 34, .int x1, .int x2] S (qI Q) := by
  refine CallV_of mdX6_readsHill plX6_readsHill 2 (Nat.le_of_ble_eq_true rfl) rfl ?_
  intro zp0 zl0 ze0 zs0 zm0 zargs0 zbelow0 zmeth0 zc0 zD0 zad0 zac0 C0 hr0 hk0
  refine mr_aload_n C0 dX6_readsHill_0 rfl (i := 0) rfl ?_
  refine mr_iconst (v := 0) C0 dX6_readsHill_1 (by decide) ?_
  refine mr_putI C0 dX6_readsHill_2 fl_X6_85 (Nat.le_of_ble_eq_true rfl) rfl rfl rfl rfl ?_
  refine mr_aload_n C0 dX6_readsHill_5 rfl (i := 0) rfl ?_
  refine mr_iload_n C0 dX6_readsHill_6 rfl (i := 1) rfl ?_
  refine mr_iload_n C0 dX6_readsHill_7 rfl (i := 2) rfl ?_
  refine mr_callVI C0 mdX6_codeAt dX6_readsHill_8 clX6_codeAt ml_X6_88 (Nat.le_of_ble_eq_true rfl) rfl rfl arX6_codeAt (as := [.int x1, .int x2]) rfl (Nat.le_of_ble_eq_true rfl) (Nat.le_of_ble_eq_true rfl) (Nat.le_of_ble_eq_true rfl) fit0 h (fun r2 S1 h => ?_)
  refine mr_bipush (v := 109) C0 dX6_readsHill_11 (by decide) ?_
  refine mr_icmp_ne C0 dX6_readsHill_13 (tgt := 20) (by decide) (fun c3 => ?_) (fun c3 => ?_)
  · have h := h.1 c3
    refine mr_iconst (v := 0) C0 dX6_readsHill_20 (by decide) ?_
    refine mr_istore_n (L1 := [some (.ref 34), some (.int x1), some (.int x2), some (.int (0 : Int32)), none]) C0 dX6_readsHill_21 rfl (Nat.le_of_ble_eq_true rfl) rfl ?_
    refine mr_aload_n C0 dX6_readsHill_22 rfl (i := 0) rfl ?_
    refine mr_dup C0 dX6_readsHill_23 rfl ?_
    refine mr_getI C0 dX6_readsHill_24 fl_X6_85 (Nat.le_of_ble_eq_true rfl) rfl rfl ?_
    refine mr_iload_n C0 dX6_readsHill_27 rfl (i := 3) rfl ?_
    refine mr_if_eq C0 dX6_readsHill_28 (tgt := 35) (by decide) (fun _ => ?_) (fun q => absurd q (by decide))
    refine mr_iconst (v := 0) C0 dX6_readsHill_35 (by decide) ?_
    refine mr_iadd C0 dX6_readsHill_36 ?_
    refine mr_putI C0 dX6_readsHill_37 fl_X6_85 (Nat.le_of_ble_eq_true rfl) rfl rfl rfl rfl ?_
    refine mr_aload_n C0 dX6_readsHill_40 rfl (i := 0) rfl ?_
    refine mr_iload_n C0 dX6_readsHill_41 rfl (i := 3) rfl ?_
    refine mr_if_eq C0 dX6_readsHill_42 (tgt := 56) (by decide) (fun _ => ?_) (fun q => absurd q (by decide))
    refine mr_bipush (v := (-9)) C0 dX6_readsHill_56 (by decide) ?_
    refine mr_putI C0 dX6_readsHill_58 fl_X6_100 (Nat.le_of_ble_eq_true rfl) rfl rfl rfl rfl ?_
    refine mr_aload_n C0 dX6_readsHill_61 rfl (i := 0) rfl ?_
    refine mr_aload_n C0 dX6_readsHill_62 rfl (i := 0) rfl ?_
    refine mr_getI C0 dX6_readsHill_63 fl_X6_100 (Nat.le_of_ble_eq_true rfl) rfl rfl ?_
    refine mr_topI (y := (-9 : Int32)) (by first | rfl | simp [sI, sJ, sF, upd, vp_updL]) ?_
    refine mr_if_le C0 dX6_readsHill_66 (tgt := 81) (by decide) (fun _ => ?_) (fun q => absurd q (by decide))
    refine mr_bipush (v := (-9)) C0 dX6_readsHill_81 (by decide) ?_
    refine mr_putI C0 dX6_readsHill_83 fl_X6_103 (Nat.le_of_ble_eq_true rfl) rfl rfl rfl rfl ?_
    refine mr_aload_n C0 dX6_readsHill_86 rfl (i := 0) rfl ?_
    refine mr_getI C0 dX6_readsHill_87 fl_X6_103 (Nat.le_of_ble_eq_true rfl) rfl rfl ?_
    refine mr_topI (y := (-9 : Int32)) (by first | rfl | simp [sI, sJ, sF, upd, vp_updL]) ?_
    refine mr_if_le C0 dX6_readsHill_90 (tgt := 97) (by decide) (fun _ => ?_) (fun q => absurd q (by decide))
    refine mr_iconst (v := 0) C0 dX6_readsHill_97 (by decide) ?_
    refine mr_istore_n (L1 := [some (.ref 34), some (.int x1), some (.int x2), some (.int (0 : Int32)), none]) C0 dX6_readsHill_98 rfl (Nat.le_of_ble_eq_true rfl) rfl ?_
    refine mr_iconst (v := 0) C0 dX6_readsHill_99 (by decide) ?_
    refine mr_istore (L1 := [some (.ref 34), some (.int x1), some (.int x2), some (.int (0 : Int32)), some (.int (0 : Int32))]) C0 dX6_readsHill_100 (Nat.le_of_ble_eq_true rfl) rfl ?_
    exact h zp0 zl0 ze0 zs0 zm0 zargs0 zbelow0 zmeth0 zc0 zD0 zad0 zac0 C0 hr0 hk0
  · have h := h.2 c3
    refine mr_iconst (v := 1) C0 dX6_readsHill_16 (by decide) ?_
    refine mr_goto C0 dX6_readsHill_17 (tgt := 21) (by decide) ?_
    refine mr_istore_n (L1 := [some (.ref 34), some (.int x1), some (.int x2), some (.int (1 : Int32)), none]) C0 dX6_readsHill_21 rfl (Nat.le_of_ble_eq_true rfl) rfl ?_
    refine mr_aload_n C0 dX6_readsHill_22 rfl (i := 0) rfl ?_
    refine mr_dup C0 dX6_readsHill_23 rfl ?_
    refine mr_getI C0 dX6_readsHill_24 fl_X6_85 (Nat.le_of_ble_eq_true rfl) rfl rfl ?_
    refine mr_iload_n C0 dX6_readsHill_27 rfl (i := 3) rfl ?_
    refine mr_if_eq C0 dX6_readsHill_28 (tgt := 35) (by decide) (fun q => absurd q (by decide)) (fun _ => ?_)
    refine mr_iconst (v := 1) C0 dX6_readsHill_31 (by decide) ?_
    refine mr_goto C0 dX6_readsHill_32 (tgt := 36) (by decide) ?_
    refine mr_iadd C0 dX6_readsHill_36 ?_
    refine mr_putI C0 dX6_readsHill_37 fl_X6_85 (Nat.le_of_ble_eq_true rfl) rfl rfl rfl rfl ?_
    refine mr_aload_n C0 dX6_readsHill_40 rfl (i := 0) rfl ?_
    refine mr_iload_n C0 dX6_readsHill_41 rfl (i := 3) rfl ?_
    refine mr_if_eq C0 dX6_readsHill_42 (tgt := 56) (by decide) (fun q => absurd q (by decide)) (fun _ => ?_)
    refine mr_aload_n C0 dX6_readsHill_45 rfl (i := 0) rfl ?_
    refine mr_iload_n C0 dX6_readsHill_46 rfl (i := 1) rfl ?_
    refine mr_iload_n C0 dX6_readsHill_47 rfl (i := 2) rfl ?_
    refine mr_iconst (v := 1) C0 dX6_readsHill_48 (by decide) ?_
    refine mr_iconst (v := 5) C0 dX6_readsHill_49 (by decide) ?_
    refine mr_callVI C0 mdX6_figure dX6_readsHill_50 clX6_figure ml_X6_96 (Nat.le_of_ble_eq_true rfl) rfl rfl arX6_figure (as := [.int x1, .int x2, .int (1 : Int32), .int (5 : Int32)]) rfl (Nat.le_of_ble_eq_true rfl) (Nat.le_of_ble_eq_true rfl) (Nat.le_of_ble_eq_true rfl) fit0 h (fun r5 S4 h => ?_)
    refine mr_goto C0 dX6_readsHill_53 (tgt := 58) (by decide) ?_
    refine mr_putI C0 dX6_readsHill_58 fl_X6_100 (Nat.le_of_ble_eq_true rfl) rfl rfl rfl rfl ?_
    refine mr_aload_n C0 dX6_readsHill_61 rfl (i := 0) rfl ?_
    refine mr_aload_n C0 dX6_readsHill_62 rfl (i := 0) rfl ?_
    refine mr_getI C0 dX6_readsHill_63 fl_X6_100 (Nat.le_of_ble_eq_true rfl) rfl rfl ?_
    refine mr_topI (y := r5) (by first | rfl | simp [sI, sJ, sF, upd, vp_updL]) ?_
    refine mr_if_le C0 dX6_readsHill_66 (tgt := 81) (by decide) (fun c6 => ?_) (fun c6 => ?_)
    · have h := h.1 c6
      refine mr_bipush (v := (-9)) C0 dX6_readsHill_81 (by decide) ?_
      refine mr_putI C0 dX6_readsHill_83 fl_X6_103 (Nat.le_of_ble_eq_true rfl) rfl rfl rfl rfl ?_
      refine mr_aload_n C0 dX6_readsHill_86 rfl (i := 0) rfl ?_
      refine mr_getI C0 dX6_readsHill_87 fl_X6_103 (Nat.le_of_ble_eq_true rfl) rfl rfl ?_
      refine mr_topI (y := (-9 : Int32)) (by first | rfl | simp [sI, sJ, sF, upd, vp_updL]) ?_
      refine mr_if_le C0 dX6_readsHill_90 (tgt := 97) (by decide) (fun _ => ?_) (fun q => absurd q (by decide))
      refine mr_iconst (v := 0) C0 dX6_readsHill_97 (by decide) ?_
      refine mr_istore_n (L1 := [some (.ref 34), some (.int x1), some (.int x2), some (.int (0 : Int32)), none]) C0 dX6_readsHill_98 rfl (Nat.le_of_ble_eq_true rfl) rfl ?_
      refine mr_iconst (v := 0) C0 dX6_readsHill_99 (by decide) ?_
      refine mr_istore (L1 := [some (.ref 34), some (.int x1), some (.int x2), some (.int (0 : Int32)), some (.int (0 : Int32))]) C0 dX6_readsHill_100 (Nat.le_of_ble_eq_true rfl) rfl ?_
      exact h zp0 zl0 ze0 zs0 zm0 zargs0 zbelow0 zmeth0 zc0 zD0 zad0 zac0 C0 hr0 hk0
    · have h := h.2 c6
      refine mr_aload_n C0 dX6_readsHill_69 rfl (i := 0) rfl ?_
      refine mr_iload_n C0 dX6_readsHill_70 rfl (i := 1) rfl ?_
      refine mr_iload_n C0 dX6_readsHill_71 rfl (i := 2) rfl ?_
      refine mr_iconst (v := 2) C0 dX6_readsHill_72 (by decide) ?_
      refine mr_bipush (v := 6) C0 dX6_readsHill_73 (by decide) ?_
      refine mr_callVI C0 mdX6_figure dX6_readsHill_75 clX6_figure ml_X6_96 (Nat.le_of_ble_eq_true rfl) rfl rfl arX6_figure (as := [.int x1, .int x2, .int (2 : Int32), .int (6 : Int32)]) rfl (Nat.le_of_ble_eq_true rfl) (Nat.le_of_ble_eq_true rfl) (Nat.le_of_ble_eq_true rfl) fit0 h (fun r8 S7 h => ?_)
      refine mr_goto C0 dX6_readsHill_78 (tgt := 83) (by decide) ?_
      refine mr_putI C0 dX6_readsHill_83 fl_X6_103 (Nat.le_of_ble_eq_true rfl) rfl rfl rfl rfl ?_
      refine mr_aload_n C0 dX6_readsHill_86 rfl (i := 0) rfl ?_
      refine mr_getI C0 dX6_readsHill_87 fl_X6_103 (Nat.le_of_ble_eq_true rfl) rfl rfl ?_
      refine mr_topI (y := r8) (by first | rfl | simp [sI, sJ, sF, upd, vp_updL]) ?_
      refine mr_if_le C0 dX6_readsHill_90 (tgt := 97) (by decide) (fun c9 => ?_) (fun c9 => ?_)
      · have h := h.1 c9
        refine mr_iconst (v := 0) C0 dX6_readsHill_97 (by decide) ?_
        refine mr_istore_n (L1 := [some (.ref 34), some (.int x1), some (.int x2), some (.int (0 : Int32)), none]) C0 dX6_readsHill_98 rfl (Nat.le_of_ble_eq_true rfl) rfl ?_
        refine mr_iconst (v := 0) C0 dX6_readsHill_99 (by decide) ?_
        refine mr_istore (L1 := [some (.ref 34), some (.int x1), some (.int x2), some (.int (0 : Int32)), some (.int (0 : Int32))]) C0 dX6_readsHill_100 (Nat.le_of_ble_eq_true rfl) rfl ?_
        exact h zp0 zl0 ze0 zs0 zm0 zargs0 zbelow0 zmeth0 zc0 zD0 zad0 zac0 C0 hr0 hk0
      · have h := h.2 c9
        refine mr_iconst (v := 1) C0 dX6_readsHill_93 (by decide) ?_
        refine mr_goto C0 dX6_readsHill_94 (tgt := 98) (by decide) ?_
        refine mr_istore_n (L1 := [some (.ref 34), some (.int x1), some (.int x2), some (.int (1 : Int32)), none]) C0 dX6_readsHill_98 rfl (Nat.le_of_ble_eq_true rfl) rfl ?_
        refine mr_iconst (v := 0) C0 dX6_readsHill_99 (by decide) ?_
        refine mr_istore (L1 := [some (.ref 34), some (.int x1), some (.int x2), some (.int (1 : Int32)), some (.int (0 : Int32))]) C0 dX6_readsHill_100 (Nat.le_of_ble_eq_true rfl) rfl ?_
        exact h zp0 zl0 ze0 zs0 zm0 zargs0 zbelow0 zmeth0 zc0 zD0 zad0 zac0 C0 hr0 hk0
set_option maxRecDepth 100000 in
set_option maxHeartbeats 4000000 in
theorem eX6_readsHill_102 (x1 : Int32) (x2 : Int32) (x3 : Int32) (x4 : Int32) (S : St) (Q : Int32 → St → Prop) (h : ((x3 = 0 → V mdX6_readsHill 155 [some (.ref 34), some (.int x1), some (.int x2), some (.int x3), some (.int (0 : Int32))] [] S (qI Q)) ∧ (¬ x3 = 0 → (((S.1 34 8) ≤ x4 → V mdX6_readsHill 155 [some (.ref 34), some (.int x1), some (.int x2), some (.int x3), some (.int (0 : Int32))] [] S (qI Q)) ∧ (¬ (S.1 34 8) ≤ x4 → CallV mdX6_figure [.ref 34, .int x1, .int x2, .int (0 : Int32), .int (3 : Int32)] S (qI fun r4 S3 => (vp_in x4 6) ∧ (vp_in x4 6) ∧ ((r4 < 0 → V mdX6_readsHill 102 [some (.ref 34), some (.int x1), some (.int x2), some (.int (0 : Int32)), some (.int (x4 + 1))] [] (sI S3 37 x4.toNatClampNeg r4) (qI Q)) ∧ (¬ r4 < 0 → V mdX6_readsHill 102 [some (.ref 34), some (.int x1), some (.int x2), some (.int (1 : Int32)), some (.int (x4 + 1))] [] (sI S3 37 x4.toNatClampNeg r4) (qI Q))))))))) : V mdX6_readsHill 102 [some (.ref 34), some (.int x1), some (.int x2), some (.int x3), some (.int x4)] [] S (qI Q) := by
  intro zp0 zl0 ze0 zs0 zm0 zargs0 zbelow0 zmeth0 zc0 zD0 zad0 zac0 C0 hr0 hk0
  refine mr_iload_n C0 dX6_readsHill_102 rfl (i := 3) rfl ?_
  refine mr_if_eq C0 dX6_readsHill_103 (tgt := 152) (by decide) (fun c1 => ?_) (fun c1 => ?_)
  · have h := h.1 c1
    refine mr_iconst (v := 0) C0 dX6_readsHill_152 (by decide) ?_
    refine mr_istore (L1 := [some (.ref 34), some (.int x1), some (.int x2), some (.int x3), some (.int (0 : Int32))]) C0 dX6_readsHill_153 (Nat.le_of_ble_eq_true rfl) rfl ?_
    exact h zp0 zl0 ze0 zs0 zm0 zargs0 zbelow0 zmeth0 zc0 zD0 zad0 zac0 C0 hr0 hk0
  · have h := h.2 c1
    refine mr_iload C0 dX6_readsHill_106 rfl ?_
    refine mr_aload_n C0 dX6_readsHill_108 rfl (i := 0) rfl ?_
    refine mr_getI C0 dX6_readsHill_109 fl_X6_103 (Nat.le_of_ble_eq_true rfl) rfl rfl ?_
    refine mr_icmp_ge C0 dX6_readsHill_112 (tgt := 152) (by decide) (fun c2 => ?_) (fun c2 => ?_)
    · have h := h.1 c2
      refine mr_iconst (v := 0) C0 dX6_readsHill_152 (by decide) ?_
      refine mr_istore (L1 := [some (.ref 34), some (.int x1), some (.int x2), some (.int x3), some (.int (0 : Int32))]) C0 dX6_readsHill_153 (Nat.le_of_ble_eq_true rfl) rfl ?_
      exact h zp0 zl0 ze0 zs0 zm0 zargs0 zbelow0 zmeth0 zc0 zD0 zad0 zac0 C0 hr0 hk0
    · have h := h.2 c2
      refine mr_aload_n C0 dX6_readsHill_115 rfl (i := 0) rfl ?_
      refine mr_getR C0 dX6_readsHill_116 fl_X6_16 (Nat.le_of_ble_eq_true rfl) rfl rfl ?_
      refine mr_iload C0 dX6_readsHill_119 rfl ?_
      refine mr_aload_n C0 dX6_readsHill_121 rfl (i := 0) rfl ?_
      refine mr_iload_n C0 dX6_readsHill_122 rfl (i := 1) rfl ?_
      refine mr_iload_n C0 dX6_readsHill_123 rfl (i := 2) rfl ?_
      refine mr_iconst (v := 0) C0 dX6_readsHill_124 (by decide) ?_
      refine mr_iconst (v := 3) C0 dX6_readsHill_125 (by decide) ?_
      refine mr_callVI C0 mdX6_figure dX6_readsHill_126 clX6_figure ml_X6_96 (Nat.le_of_ble_eq_true rfl) rfl rfl arX6_figure (as := [.int x1, .int x2, .int (0 : Int32), .int (3 : Int32)]) rfl (Nat.le_of_ble_eq_true rfl) (Nat.le_of_ble_eq_true rfl) (Nat.le_of_ble_eq_true rfl) fit0 h (fun r4 S3 h => ?_)
      have g5 := h.1
      have h := h.2
      refine mr_iast C0 dX6_readsHill_129 (Nat.le_of_ble_eq_true rfl) rfl g5 ?_
      refine mr_aload_n C0 dX6_readsHill_130 rfl (i := 0) rfl ?_
      refine mr_getR C0 dX6_readsHill_131 fl_X6_16 (Nat.le_of_ble_eq_true rfl) rfl rfl ?_
      refine mr_iload C0 dX6_readsHill_134 rfl ?_
      have g6 := h.1
      have h := h.2
      refine mr_iald C0 dX6_readsHill_136 (Nat.le_of_ble_eq_true rfl) rfl g6 ?_
      refine mr_topI (y := r4) (by first | rfl | simp [sI, sJ, sF, upd, vp_updL]) ?_
      refine mr_if_lt C0 dX6_readsHill_137 (tgt := 144) (by decide) (fun c7 => ?_) (fun c7 => ?_)
      · have h := h.1 c7
        refine mr_iconst (v := 0) C0 dX6_readsHill_144 (by decide) ?_
        refine mr_istore_n (L1 := [some (.ref 34), some (.int x1), some (.int x2), some (.int (0 : Int32)), some (.int x4)]) C0 dX6_readsHill_145 rfl (Nat.le_of_ble_eq_true rfl) rfl ?_
        refine mr_iinc (v := (x4 + 1)) (L1 := [some (.ref 34), some (.int x1), some (.int x2), some (.int (0 : Int32)), some (.int (x4 + 1))]) C0 dX6_readsHill_146 rfl rfl (Nat.le_of_ble_eq_true rfl) rfl ?_
        refine mr_goto C0 dX6_readsHill_149 (tgt := 102) (by decide) ?_
        exact h zp0 zl0 ze0 zs0 zm0 zargs0 zbelow0 zmeth0 zc0 zD0 zad0 zac0 C0 hr0 hk0
      · have h := h.2 c7
        refine mr_iconst (v := 1) C0 dX6_readsHill_140 (by decide) ?_
        refine mr_goto C0 dX6_readsHill_141 (tgt := 145) (by decide) ?_
        refine mr_istore_n (L1 := [some (.ref 34), some (.int x1), some (.int x2), some (.int (1 : Int32)), some (.int x4)]) C0 dX6_readsHill_145 rfl (Nat.le_of_ble_eq_true rfl) rfl ?_
        refine mr_iinc (v := (x4 + 1)) (L1 := [some (.ref 34), some (.int x1), some (.int x2), some (.int (1 : Int32)), some (.int (x4 + 1))]) C0 dX6_readsHill_146 rfl rfl (Nat.le_of_ble_eq_true rfl) rfl ?_
        refine mr_goto C0 dX6_readsHill_149 (tgt := 102) (by decide) ?_
        exact h zp0 zl0 ze0 zs0 zm0 zargs0 zbelow0 zmeth0 zc0 zD0 zad0 zac0 C0 hr0 hk0
set_option maxRecDepth 100000 in
set_option maxHeartbeats 4000000 in
theorem eX6_readsHill_155 (x1 : Int32) (x2 : Int32) (x3 : Int32) (x4 : Int32) (S : St) (Q : Int32 → St → Prop) (h : ((x3 = 0 → ((x3 = 0 → Q (0 : Int32) S) ∧ (¬ x3 = 0 → ((¬ (S.1 34 6) = x2 → Q (0 : Int32) S) ∧ ((S.1 34 6) = x2 → Q (1 : Int32) S))))) ∧ (¬ x3 = 0 → ((((S.1 34 7) * (S.1 34 8)) ≤ x4 → ((x3 = 0 → Q (0 : Int32) S) ∧ (¬ x3 = 0 → ((¬ (S.1 34 6) = x2 → Q (0 : Int32) S) ∧ ((S.1 34 6) = x2 → Q (1 : Int32) S))))) ∧ (¬ ((S.1 34 7) * (S.1 34 8)) ≤ x4 → (¬ (S.1 34 8) = 0) ∧ ((¬ (x4 - x4 / (S.1 34 8) * (S.1 34 8)) = 0 → ((x3 = 0 → V mdX6_readsHill 155 [some (.ref 34), some (.int x1), some (.int x2), some (.int (0 : Int32)), some (.int (x4 + 1))] [] S (qI Q)) ∧ (¬ x3 = 0 → CallV mdX6_readsCell [.ref 34, .int x1, .int x2, .int x4] S (qI fun r10 S9 => ((r10 = 0 → V mdX6_readsHill 155 [some (.ref 34), some (.int x1), some (.int x2), some (.int (0 : Int32)), some (.int (x4 + 1))] [] S9 (qI Q)) ∧ (¬ r10 = 0 → V mdX6_readsHill 155 [some (.ref 34), some (.int x1), some (.int x2), some (.int (1 : Int32)), some (.int (x4 + 1))] [] S9 (qI Q))))))) ∧ ((x4 - x4 / (S.1 34 8) * (S.1 34 8)) = 0 → CallV mdX6_codeAt [.ref 34, .int x1, .int x2] S (qI fun r13 S12 => ((¬ r13 = (59 : Int32) → V mdX6_readsHill 155 [some (.ref 34), some (.int x1), some (.int x2), some (.int (0 : Int32)), some (.int (x4 + 1))] [] (sI S12 34 6 ((S12.1 34 6) + (0 : Int32))) (qI Q)) ∧ (r13 = (59 : Int32) → CallV mdX6_readsCell [.ref 34, .int x1, .int x2, .int x4] (sI S12 34 6 ((S12.1 34 6) + (1 : Int32))) (qI fun r16 S15 => ((r16 = 0 → V mdX6_readsHill 155 [some (.ref 34), some (.int x1), some (.int x2), some (.int (0 : Int32)), some (.int (x4 + 1))] [] S15 (qI Q)) ∧ (¬ r16 = 0 → V mdX6_readsHill 155 [some (.ref 34), some (.int x1), some (.int x2), some (.int (1 : Int32)), some (.int (x4 + 1))] [] S15 (qI Q)))))))))))))) : V mdX6_readsHill 155 [some (.ref 34), some (.int x1), some (.int x2), some (.int x3), some (.int x4)] [] S (qI Q) := by
  intro zp0 zl0 ze0 zs0 zm0 zargs0 zbelow0 zmeth0 zc0 zD0 zad0 zac0 C0 hr0 hk0
  refine mr_iload_n C0 dX6_readsHill_155 rfl (i := 3) rfl ?_
  refine mr_if_eq C0 dX6_readsHill_156 (tgt := 245) (by decide) (fun c1 => ?_) (fun c1 => ?_)
  · have h := h.1 c1
    refine mr_iload_n C0 dX6_readsHill_245 rfl (i := 3) rfl ?_
    refine mr_if_eq C0 dX6_readsHill_246 (tgt := 261) (by decide) (fun c2 => ?_) (fun c2 => ?_)
    · have h := h.1 c2
      refine mr_iconst (v := 0) C0 dX6_readsHill_261 (by decide) ?_
      refine mr_zret C0 hr0 hk0 dX6_readsHill_262 rfl (qI_mk ?_)
      exact h
    · have h := h.2 c2
      refine mr_aload_n C0 dX6_readsHill_249 rfl (i := 0) rfl ?_
      refine mr_getI C0 dX6_readsHill_250 fl_X6_85 (Nat.le_of_ble_eq_true rfl) rfl rfl ?_
      refine mr_iload_n C0 dX6_readsHill_253 rfl (i := 2) rfl ?_
      refine mr_icmp_ne C0 dX6_readsHill_254 (tgt := 261) (by decide) (fun c3 => ?_) (fun c3 => ?_)
      · have h := h.1 c3
        refine mr_iconst (v := 0) C0 dX6_readsHill_261 (by decide) ?_
        refine mr_zret C0 hr0 hk0 dX6_readsHill_262 rfl (qI_mk ?_)
        exact h
      · have h := h.2 c3
        refine mr_iconst (v := 1) C0 dX6_readsHill_257 (by decide) ?_
        refine mr_goto C0 dX6_readsHill_258 (tgt := 262) (by decide) ?_
        refine mr_zret C0 hr0 hk0 dX6_readsHill_262 rfl (qI_mk ?_)
        exact h
  · have h := h.2 c1
    refine mr_iload C0 dX6_readsHill_159 rfl ?_
    refine mr_aload_n C0 dX6_readsHill_161 rfl (i := 0) rfl ?_
    refine mr_getI C0 dX6_readsHill_162 fl_X6_100 (Nat.le_of_ble_eq_true rfl) rfl rfl ?_
    refine mr_aload_n C0 dX6_readsHill_165 rfl (i := 0) rfl ?_
    refine mr_getI C0 dX6_readsHill_166 fl_X6_103 (Nat.le_of_ble_eq_true rfl) rfl rfl ?_
    refine mr_imul C0 dX6_readsHill_169 ?_
    refine mr_icmp_ge C0 dX6_readsHill_170 (tgt := 245) (by decide) (fun c4 => ?_) (fun c4 => ?_)
    · have h := h.1 c4
      refine mr_iload_n C0 dX6_readsHill_245 rfl (i := 3) rfl ?_
      refine mr_if_eq C0 dX6_readsHill_246 (tgt := 261) (by decide) (fun c5 => ?_) (fun c5 => ?_)
      · have h := h.1 c5
        refine mr_iconst (v := 0) C0 dX6_readsHill_261 (by decide) ?_
        refine mr_zret C0 hr0 hk0 dX6_readsHill_262 rfl (qI_mk ?_)
        exact h
      · have h := h.2 c5
        refine mr_aload_n C0 dX6_readsHill_249 rfl (i := 0) rfl ?_
        refine mr_getI C0 dX6_readsHill_250 fl_X6_85 (Nat.le_of_ble_eq_true rfl) rfl rfl ?_
        refine mr_iload_n C0 dX6_readsHill_253 rfl (i := 2) rfl ?_
        refine mr_icmp_ne C0 dX6_readsHill_254 (tgt := 261) (by decide) (fun c6 => ?_) (fun c6 => ?_)
        · have h := h.1 c6
          refine mr_iconst (v := 0) C0 dX6_readsHill_261 (by decide) ?_
          refine mr_zret C0 hr0 hk0 dX6_readsHill_262 rfl (qI_mk ?_)
          exact h
        · have h := h.2 c6
          refine mr_iconst (v := 1) C0 dX6_readsHill_257 (by decide) ?_
          refine mr_goto C0 dX6_readsHill_258 (tgt := 262) (by decide) ?_
          refine mr_zret C0 hr0 hk0 dX6_readsHill_262 rfl (qI_mk ?_)
          exact h
    · have h := h.2 c4
      refine mr_iload C0 dX6_readsHill_173 rfl ?_
      refine mr_aload_n C0 dX6_readsHill_175 rfl (i := 0) rfl ?_
      refine mr_getI C0 dX6_readsHill_176 fl_X6_103 (Nat.le_of_ble_eq_true rfl) rfl rfl ?_
      have g := h.1
      have h := h.2
      refine mr_irem C0 dX6_readsHill_179 g ?_
      refine mr_if_ne C0 dX6_readsHill_180 (tgt := 218) (by decide) (fun c7 => ?_) (fun c7 => ?_)
      · have h := h.1 c7
        refine mr_iload_n C0 dX6_readsHill_218 rfl (i := 3) rfl ?_
        refine mr_if_eq C0 dX6_readsHill_219 (tgt := 237) (by decide) (fun c8 => ?_) (fun c8 => ?_)
        · have h := h.1 c8
          refine mr_iconst (v := 0) C0 dX6_readsHill_237 (by decide) ?_
          refine mr_istore_n (L1 := [some (.ref 34), some (.int x1), some (.int x2), some (.int (0 : Int32)), some (.int x4)]) C0 dX6_readsHill_238 rfl (Nat.le_of_ble_eq_true rfl) rfl ?_
          refine mr_iinc (v := (x4 + 1)) (L1 := [some (.ref 34), some (.int x1), some (.int x2), some (.int (0 : Int32)), some (.int (x4 + 1))]) C0 dX6_readsHill_239 rfl rfl (Nat.le_of_ble_eq_true rfl) rfl ?_
          refine mr_goto C0 dX6_readsHill_242 (tgt := 155) (by decide) ?_
          exact h zp0 zl0 ze0 zs0 zm0 zargs0 zbelow0 zmeth0 zc0 zD0 zad0 zac0 C0 hr0 hk0
        · have h := h.2 c8
          refine mr_aload_n C0 dX6_readsHill_222 rfl (i := 0) rfl ?_
          refine mr_iload_n C0 dX6_readsHill_223 rfl (i := 1) rfl ?_
          refine mr_iload_n C0 dX6_readsHill_224 rfl (i := 2) rfl ?_
          refine mr_iload C0 dX6_readsHill_225 rfl ?_
          refine mr_callVI C0 mdX6_readsCell dX6_readsHill_227 clX6_readsCell ml_X6_106 (Nat.le_of_ble_eq_true rfl) rfl rfl arX6_readsCell (as := [.int x1, .int x2, .int x4]) rfl (Nat.le_of_ble_eq_true rfl) (Nat.le_of_ble_eq_true rfl) (Nat.le_of_ble_eq_true rfl) fit0 h (fun r10 S9 h => ?_)
          refine mr_if_eq C0 dX6_readsHill_230 (tgt := 237) (by decide) (fun c11 => ?_) (fun c11 => ?_)
          · have h := h.1 c11
            refine mr_iconst (v := 0) C0 dX6_readsHill_237 (by decide) ?_
            refine mr_istore_n (L1 := [some (.ref 34), some (.int x1), some (.int x2), some (.int (0 : Int32)), some (.int x4)]) C0 dX6_readsHill_238 rfl (Nat.le_of_ble_eq_true rfl) rfl ?_
            refine mr_iinc (v := (x4 + 1)) (L1 := [some (.ref 34), some (.int x1), some (.int x2), some (.int (0 : Int32)), some (.int (x4 + 1))]) C0 dX6_readsHill_239 rfl rfl (Nat.le_of_ble_eq_true rfl) rfl ?_
            refine mr_goto C0 dX6_readsHill_242 (tgt := 155) (by decide) ?_
            exact h zp0 zl0 ze0 zs0 zm0 zargs0 zbelow0 zmeth0 zc0 zD0 zad0 zac0 C0 hr0 hk0
          · have h := h.2 c11
            refine mr_iconst (v := 1) C0 dX6_readsHill_233 (by decide) ?_
            refine mr_goto C0 dX6_readsHill_234 (tgt := 238) (by decide) ?_
            refine mr_istore_n (L1 := [some (.ref 34), some (.int x1), some (.int x2), some (.int (1 : Int32)), some (.int x4)]) C0 dX6_readsHill_238 rfl (Nat.le_of_ble_eq_true rfl) rfl ?_
            refine mr_iinc (v := (x4 + 1)) (L1 := [some (.ref 34), some (.int x1), some (.int x2), some (.int (1 : Int32)), some (.int (x4 + 1))]) C0 dX6_readsHill_239 rfl rfl (Nat.le_of_ble_eq_true rfl) rfl ?_
            refine mr_goto C0 dX6_readsHill_242 (tgt := 155) (by decide) ?_
            exact h zp0 zl0 ze0 zs0 zm0 zargs0 zbelow0 zmeth0 zc0 zD0 zad0 zac0 C0 hr0 hk0
      · have h := h.2 c7
        refine mr_aload_n C0 dX6_readsHill_183 rfl (i := 0) rfl ?_
        refine mr_iload_n C0 dX6_readsHill_184 rfl (i := 1) rfl ?_
        refine mr_iload_n C0 dX6_readsHill_185 rfl (i := 2) rfl ?_
        refine mr_callVI C0 mdX6_codeAt dX6_readsHill_186 clX6_codeAt ml_X6_88 (Nat.le_of_ble_eq_true rfl) rfl rfl arX6_codeAt (as := [.int x1, .int x2]) rfl (Nat.le_of_ble_eq_true rfl) (Nat.le_of_ble_eq_true rfl) (Nat.le_of_ble_eq_true rfl) fit0 h (fun r13 S12 h => ?_)
        refine mr_bipush (v := 59) C0 dX6_readsHill_189 (by decide) ?_
        refine mr_icmp_ne C0 dX6_readsHill_191 (tgt := 198) (by decide) (fun c14 => ?_) (fun c14 => ?_)
        · have h := h.1 c14
          refine mr_iconst (v := 0) C0 dX6_readsHill_198 (by decide) ?_
          refine mr_istore_n (L1 := [some (.ref 34), some (.int x1), some (.int x2), some (.int (0 : Int32)), some (.int x4)]) C0 dX6_readsHill_199 rfl (Nat.le_of_ble_eq_true rfl) rfl ?_
          refine mr_aload_n C0 dX6_readsHill_200 rfl (i := 0) rfl ?_
          refine mr_dup C0 dX6_readsHill_201 rfl ?_
          refine mr_getI C0 dX6_readsHill_202 fl_X6_85 (Nat.le_of_ble_eq_true rfl) rfl rfl ?_
          refine mr_iload_n C0 dX6_readsHill_205 rfl (i := 3) rfl ?_
          refine mr_if_eq C0 dX6_readsHill_206 (tgt := 213) (by decide) (fun _ => ?_) (fun q => absurd q (by decide))
          refine mr_iconst (v := 0) C0 dX6_readsHill_213 (by decide) ?_
          refine mr_iadd C0 dX6_readsHill_214 ?_
          refine mr_putI C0 dX6_readsHill_215 fl_X6_85 (Nat.le_of_ble_eq_true rfl) rfl rfl rfl rfl ?_
          refine mr_iload_n C0 dX6_readsHill_218 rfl (i := 3) rfl ?_
          refine mr_if_eq C0 dX6_readsHill_219 (tgt := 237) (by decide) (fun _ => ?_) (fun q => absurd q (by decide))
          refine mr_iconst (v := 0) C0 dX6_readsHill_237 (by decide) ?_
          refine mr_istore_n (L1 := [some (.ref 34), some (.int x1), some (.int x2), some (.int (0 : Int32)), some (.int x4)]) C0 dX6_readsHill_238 rfl (Nat.le_of_ble_eq_true rfl) rfl ?_
          refine mr_iinc (v := (x4 + 1)) (L1 := [some (.ref 34), some (.int x1), some (.int x2), some (.int (0 : Int32)), some (.int (x4 + 1))]) C0 dX6_readsHill_239 rfl rfl (Nat.le_of_ble_eq_true rfl) rfl ?_
          refine mr_goto C0 dX6_readsHill_242 (tgt := 155) (by decide) ?_
          exact h zp0 zl0 ze0 zs0 zm0 zargs0 zbelow0 zmeth0 zc0 zD0 zad0 zac0 C0 hr0 hk0
        · have h := h.2 c14
          refine mr_iconst (v := 1) C0 dX6_readsHill_194 (by decide) ?_
          refine mr_goto C0 dX6_readsHill_195 (tgt := 199) (by decide) ?_
          refine mr_istore_n (L1 := [some (.ref 34), some (.int x1), some (.int x2), some (.int (1 : Int32)), some (.int x4)]) C0 dX6_readsHill_199 rfl (Nat.le_of_ble_eq_true rfl) rfl ?_
          refine mr_aload_n C0 dX6_readsHill_200 rfl (i := 0) rfl ?_
          refine mr_dup C0 dX6_readsHill_201 rfl ?_
          refine mr_getI C0 dX6_readsHill_202 fl_X6_85 (Nat.le_of_ble_eq_true rfl) rfl rfl ?_
          refine mr_iload_n C0 dX6_readsHill_205 rfl (i := 3) rfl ?_
          refine mr_if_eq C0 dX6_readsHill_206 (tgt := 213) (by decide) (fun q => absurd q (by decide)) (fun _ => ?_)
          refine mr_iconst (v := 1) C0 dX6_readsHill_209 (by decide) ?_
          refine mr_goto C0 dX6_readsHill_210 (tgt := 214) (by decide) ?_
          refine mr_iadd C0 dX6_readsHill_214 ?_
          refine mr_putI C0 dX6_readsHill_215 fl_X6_85 (Nat.le_of_ble_eq_true rfl) rfl rfl rfl rfl ?_
          refine mr_iload_n C0 dX6_readsHill_218 rfl (i := 3) rfl ?_
          refine mr_if_eq C0 dX6_readsHill_219 (tgt := 237) (by decide) (fun q => absurd q (by decide)) (fun _ => ?_)
          refine mr_aload_n C0 dX6_readsHill_222 rfl (i := 0) rfl ?_
          refine mr_iload_n C0 dX6_readsHill_223 rfl (i := 1) rfl ?_
          refine mr_iload_n C0 dX6_readsHill_224 rfl (i := 2) rfl ?_
          refine mr_iload C0 dX6_readsHill_225 rfl ?_
          refine mr_callVI C0 mdX6_readsCell dX6_readsHill_227 clX6_readsCell ml_X6_106 (Nat.le_of_ble_eq_true rfl) rfl rfl arX6_readsCell (as := [.int x1, .int x2, .int x4]) rfl (Nat.le_of_ble_eq_true rfl) (Nat.le_of_ble_eq_true rfl) (Nat.le_of_ble_eq_true rfl) fit0 h (fun r16 S15 h => ?_)
          refine mr_if_eq C0 dX6_readsHill_230 (tgt := 237) (by decide) (fun c17 => ?_) (fun c17 => ?_)
          · have h := h.1 c17
            refine mr_iconst (v := 0) C0 dX6_readsHill_237 (by decide) ?_
            refine mr_istore_n (L1 := [some (.ref 34), some (.int x1), some (.int x2), some (.int (0 : Int32)), some (.int x4)]) C0 dX6_readsHill_238 rfl (Nat.le_of_ble_eq_true rfl) rfl ?_
            refine mr_iinc (v := (x4 + 1)) (L1 := [some (.ref 34), some (.int x1), some (.int x2), some (.int (0 : Int32)), some (.int (x4 + 1))]) C0 dX6_readsHill_239 rfl rfl (Nat.le_of_ble_eq_true rfl) rfl ?_
            refine mr_goto C0 dX6_readsHill_242 (tgt := 155) (by decide) ?_
            exact h zp0 zl0 ze0 zs0 zm0 zargs0 zbelow0 zmeth0 zc0 zD0 zad0 zac0 C0 hr0 hk0
          · have h := h.2 c17
            refine mr_iconst (v := 1) C0 dX6_readsHill_233 (by decide) ?_
            refine mr_goto C0 dX6_readsHill_234 (tgt := 238) (by decide) ?_
            refine mr_istore_n (L1 := [some (.ref 34), some (.int x1), some (.int x2), some (.int (1 : Int32)), some (.int x4)]) C0 dX6_readsHill_238 rfl (Nat.le_of_ble_eq_true rfl) rfl ?_
            refine mr_iinc (v := (x4 + 1)) (L1 := [some (.ref 34), some (.int x1), some (.int x2), some (.int (1 : Int32)), some (.int (x4 + 1))]) C0 dX6_readsHill_239 rfl rfl (Nat.le_of_ble_eq_true rfl) rfl ?_
            refine mr_goto C0 dX6_readsHill_242 (tgt := 155) (by decide) ?_
            exact h zp0 zl0 ze0 zs0 zm0 zargs0 zbelow0 zmeth0 zc0 zD0 zad0 zac0 C0 hr0 hk0
set_option maxRecDepth 100000 in
set_option maxHeartbeats 4000000 in
theorem eX6_cellsBarred (x1 : Int32) (x2 : Int32) (x3 : Int32) (y4 : Int64) (S : St) (Q : Int32 → St → Prop) (h : (vp_in x1 4) ∧ (((S.1 47 x1.toNatClampNeg) < 0 → (vp_in x1 4) ∧ ((0 ≤ (S.1 47 x1.toNatClampNeg) → (((0 : Int64) ≤ y4 → (vp_in x1 4) ∧ CallV mdX6_isBeyond [.int x3, .long y4, .int (S.1 47 x1.toNatClampNeg)] S (qI fun r8 S7 => ((r8 = 0 → Q (0 : Int32) S7) ∧ (¬ r8 = 0 → Q (-13 : Int32) (sI S7 34 0 (3 : Int32)))))) ∧ (¬ (0 : Int64) ≤ y4 → Q (-14 : Int32) (sI S 34 0 (4 : Int32))))) ∧ (¬ 0 ≤ (S.1 47 x1.toNatClampNeg) → Q (-11 : Int32) (sI S 34 0 (1 : Int32))))) ∧ (¬ (S.1 47 x1.toNatClampNeg) < 0 → (vp_in x1 4) ∧ (((S.1 48 x1.toNatClampNeg) = x2 → (vp_in x1 4) ∧ ((0 ≤ (S.1 47 x1.toNatClampNeg) → (((0 : Int64) ≤ y4 → (vp_in x1 4) ∧ CallV mdX6_isBeyond [.int x3, .long y4, .int (S.1 47 x1.toNatClampNeg)] S (qI fun r17 S16 => ((r17 = 0 → Q (0 : Int32) S16) ∧ (¬ r17 = 0 → Q (-13 : Int32) (sI S16 34 0 (3 : Int32)))))) ∧ (¬ (0 : Int64) ≤ y4 → Q (-14 : Int32) (sI S 34 0 (4 : Int32))))) ∧ (¬ 0 ≤ (S.1 47 x1.toNatClampNeg) → Q (-11 : Int32) (sI S 34 0 (1 : Int32))))) ∧ (¬ (S.1 48 x1.toNatClampNeg) = x2 → Q (-12 : Int32) (sI S 34 0 (2 : Int32))))))) : CallV mdX6_cellsBarred [.ref 34, .int x1, .int x2, .int x3, .long y4] S (qI Q) := by
  refine CallV_of mdX6_cellsBarred plX6_cellsBarred 0 (Nat.le_of_ble_eq_true rfl) rfl ?_
  intro zp0 zl0 ze0 zs0 zm0 zargs0 zbelow0 zmeth0 zc0 zD0 zad0 zac0 C0 hr0 hk0
  refine mr_aload_n C0 dX6_cellsBarred_0 rfl (i := 0) rfl ?_
  refine mr_getR C0 dX6_cellsBarred_1 fl_X6_47 (Nat.le_of_ble_eq_true rfl) rfl rfl ?_
  refine mr_iload_n C0 dX6_cellsBarred_4 rfl (i := 1) rfl ?_
  have g1 := h.1
  have h := h.2
  refine mr_iald C0 dX6_cellsBarred_5 (Nat.le_of_ble_eq_true rfl) rfl g1 ?_
  refine mr_if_lt C0 dX6_cellsBarred_6 (tgt := 25) (by decide) (fun c2 => ?_) (fun c2 => ?_)
  · have h := h.1 c2
    refine mr_aload_n C0 dX6_cellsBarred_25 rfl (i := 0) rfl ?_
    refine mr_getR C0 dX6_cellsBarred_26 fl_X6_47 (Nat.le_of_ble_eq_true rfl) rfl rfl ?_
    refine mr_iload_n C0 dX6_cellsBarred_29 rfl (i := 1) rfl ?_
    have g3 := h.1
    have h := h.2
    refine mr_iald C0 dX6_cellsBarred_30 (Nat.le_of_ble_eq_true rfl) rfl g3 ?_
    refine mr_if_ge C0 dX6_cellsBarred_31 (tgt := 40) (by decide) (fun c4 => ?_) (fun c4 => ?_)
    · have h := h.1 c4
      refine mr_lload C0 dX6_cellsBarred_40 rfl ?_
      refine mr_lconst (v := 0) C0 dX6_cellsBarred_42 (by decide) ?_
      refine mr_lcmp_ge C0 dX6_cellsBarred_43 dX6_cellsBarred_44 (tgt := 53) (by decide) (fun c5 => ?_) (fun c5 => ?_)
      · have h := h.1 c5
        refine mr_iload_n C0 dX6_cellsBarred_53 rfl (i := 3) rfl ?_
        refine mr_lload C0 dX6_cellsBarred_54 rfl ?_
        refine mr_aload_n C0 dX6_cellsBarred_56 rfl (i := 0) rfl ?_
        refine mr_getR C0 dX6_cellsBarred_57 fl_X6_47 (Nat.le_of_ble_eq_true rfl) rfl rfl ?_
        refine mr_iload_n C0 dX6_cellsBarred_60 rfl (i := 1) rfl ?_
        have g6 := h.1
        have h := h.2
        refine mr_iald C0 dX6_cellsBarred_61 (Nat.le_of_ble_eq_true rfl) rfl g6 ?_
        refine mr_callSI C0 mdX6_isBeyond dX6_cellsBarred_62 clX6_isBeyond ml_X6_113 arX6_isBeyond (as := [.int x3, .long y4, .int (S.1 47 x1.toNatClampNeg)]) rfl (Nat.le_of_ble_eq_true rfl) (Nat.le_of_ble_eq_true rfl) (Nat.le_of_ble_eq_true rfl) fit0 h (fun r8 S7 h => ?_)
        refine mr_if_eq C0 dX6_cellsBarred_65 (tgt := 76) (by decide) (fun c9 => ?_) (fun c9 => ?_)
        · have h := h.1 c9
          refine mr_iconst (v := 0) C0 dX6_cellsBarred_76 (by decide) ?_
          refine mr_iret C0 hr0 hk0 dX6_cellsBarred_77 (qI_mk ?_)
          exact h
        · have h := h.2 c9
          refine mr_aload_n C0 dX6_cellsBarred_68 rfl (i := 0) rfl ?_
          refine mr_iconst (v := 3) C0 dX6_cellsBarred_69 (by decide) ?_
          refine mr_callVI C0 mdX6_failed dX6_cellsBarred_70 clX6_failed ml_X6_110 (Nat.le_of_ble_eq_true rfl) rfl rfl arX6_failed (as := [.int (3 : Int32)]) rfl (Nat.le_of_ble_eq_true rfl) (Nat.le_of_ble_eq_true rfl) (Nat.le_of_ble_eq_true rfl) fit0 (CallV_of mdX6_failed plX6_failed 0 (Nat.le_of_ble_eq_true rfl) rfl ?_) (fun _ _ h => h)
          intro zp1 zl1 ze1 zs1 zm1 zargs1 zbelow1 zmeth1 zc1 zD1 zad1 zac1 C1 hr1 hk1
          refine mr_aload_n C1 dX6_failed_0 rfl (i := 0) rfl ?_
          refine mr_iload_n C1 dX6_failed_1 rfl (i := 1) rfl ?_
          refine mr_putI C1 dX6_failed_2 fl_X6_61 (Nat.le_of_ble_eq_true rfl) rfl rfl rfl rfl ?_
          refine mr_bipush (v := (-10)) C1 dX6_failed_5 (by decide) ?_
          refine mr_iload_n C1 dX6_failed_7 rfl (i := 1) rfl ?_
          refine mr_isub C1 dX6_failed_8 ?_
          refine mr_topI (y := (-13 : Int32)) (by decide) ?_
          refine mr_iret C1 hr1 hk1 dX6_failed_9 (qI_mk ?_)
          refine mr_goto C0 dX6_cellsBarred_73 (tgt := 77) (by decide) ?_
          refine mr_iret C0 hr0 hk0 dX6_cellsBarred_77 (qI_mk ?_)
          exact h
      · have h := h.2 c5
        refine mr_aload_n C0 dX6_cellsBarred_47 rfl (i := 0) rfl ?_
        refine mr_iconst (v := 4) C0 dX6_cellsBarred_48 (by decide) ?_
        refine mr_callVI C0 mdX6_failed dX6_cellsBarred_49 clX6_failed ml_X6_110 (Nat.le_of_ble_eq_true rfl) rfl rfl arX6_failed (as := [.int (4 : Int32)]) rfl (Nat.le_of_ble_eq_true rfl) (Nat.le_of_ble_eq_true rfl) (Nat.le_of_ble_eq_true rfl) fit0 (CallV_of mdX6_failed plX6_failed 0 (Nat.le_of_ble_eq_true rfl) rfl ?_) (fun _ _ h => h)
        intro zp2 zl2 ze2 zs2 zm2 zargs2 zbelow2 zmeth2 zc2 zD2 zad2 zac2 C2 hr2 hk2
        refine mr_aload_n C2 dX6_failed_0 rfl (i := 0) rfl ?_
        refine mr_iload_n C2 dX6_failed_1 rfl (i := 1) rfl ?_
        refine mr_putI C2 dX6_failed_2 fl_X6_61 (Nat.le_of_ble_eq_true rfl) rfl rfl rfl rfl ?_
        refine mr_bipush (v := (-10)) C2 dX6_failed_5 (by decide) ?_
        refine mr_iload_n C2 dX6_failed_7 rfl (i := 1) rfl ?_
        refine mr_isub C2 dX6_failed_8 ?_
        refine mr_topI (y := (-14 : Int32)) (by decide) ?_
        refine mr_iret C2 hr2 hk2 dX6_failed_9 (qI_mk ?_)
        refine mr_iret C0 hr0 hk0 dX6_cellsBarred_52 (qI_mk ?_)
        exact h
    · have h := h.2 c4
      refine mr_aload_n C0 dX6_cellsBarred_34 rfl (i := 0) rfl ?_
      refine mr_iconst (v := 1) C0 dX6_cellsBarred_35 (by decide) ?_
      refine mr_callVI C0 mdX6_failed dX6_cellsBarred_36 clX6_failed ml_X6_110 (Nat.le_of_ble_eq_true rfl) rfl rfl arX6_failed (as := [.int (1 : Int32)]) rfl (Nat.le_of_ble_eq_true rfl) (Nat.le_of_ble_eq_true rfl) (Nat.le_of_ble_eq_true rfl) fit0 (CallV_of mdX6_failed plX6_failed 0 (Nat.le_of_ble_eq_true rfl) rfl ?_) (fun _ _ h => h)
      intro zp3 zl3 ze3 zs3 zm3 zargs3 zbelow3 zmeth3 zc3 zD3 zad3 zac3 C3 hr3 hk3
      refine mr_aload_n C3 dX6_failed_0 rfl (i := 0) rfl ?_
      refine mr_iload_n C3 dX6_failed_1 rfl (i := 1) rfl ?_
      refine mr_putI C3 dX6_failed_2 fl_X6_61 (Nat.le_of_ble_eq_true rfl) rfl rfl rfl rfl ?_
      refine mr_bipush (v := (-10)) C3 dX6_failed_5 (by decide) ?_
      refine mr_iload_n C3 dX6_failed_7 rfl (i := 1) rfl ?_
      refine mr_isub C3 dX6_failed_8 ?_
      refine mr_topI (y := (-11 : Int32)) (by decide) ?_
      refine mr_iret C3 hr3 hk3 dX6_failed_9 (qI_mk ?_)
      refine mr_iret C0 hr0 hk0 dX6_cellsBarred_39 (qI_mk ?_)
      exact h
  · have h := h.2 c2
    refine mr_aload_n C0 dX6_cellsBarred_9 rfl (i := 0) rfl ?_
    refine mr_getR C0 dX6_cellsBarred_10 fl_X6_50 (Nat.le_of_ble_eq_true rfl) rfl rfl ?_
    refine mr_iload_n C0 dX6_cellsBarred_13 rfl (i := 1) rfl ?_
    have g10 := h.1
    have h := h.2
    refine mr_iald C0 dX6_cellsBarred_14 (Nat.le_of_ble_eq_true rfl) rfl g10 ?_
    refine mr_iload_n C0 dX6_cellsBarred_15 rfl (i := 2) rfl ?_
    refine mr_icmp_eq C0 dX6_cellsBarred_16 (tgt := 25) (by decide) (fun c11 => ?_) (fun c11 => ?_)
    · have h := h.1 c11
      refine mr_aload_n C0 dX6_cellsBarred_25 rfl (i := 0) rfl ?_
      refine mr_getR C0 dX6_cellsBarred_26 fl_X6_47 (Nat.le_of_ble_eq_true rfl) rfl rfl ?_
      refine mr_iload_n C0 dX6_cellsBarred_29 rfl (i := 1) rfl ?_
      have g12 := h.1
      have h := h.2
      refine mr_iald C0 dX6_cellsBarred_30 (Nat.le_of_ble_eq_true rfl) rfl g12 ?_
      refine mr_if_ge C0 dX6_cellsBarred_31 (tgt := 40) (by decide) (fun c13 => ?_) (fun c13 => ?_)
      · have h := h.1 c13
        refine mr_lload C0 dX6_cellsBarred_40 rfl ?_
        refine mr_lconst (v := 0) C0 dX6_cellsBarred_42 (by decide) ?_
        refine mr_lcmp_ge C0 dX6_cellsBarred_43 dX6_cellsBarred_44 (tgt := 53) (by decide) (fun c14 => ?_) (fun c14 => ?_)
        · have h := h.1 c14
          refine mr_iload_n C0 dX6_cellsBarred_53 rfl (i := 3) rfl ?_
          refine mr_lload C0 dX6_cellsBarred_54 rfl ?_
          refine mr_aload_n C0 dX6_cellsBarred_56 rfl (i := 0) rfl ?_
          refine mr_getR C0 dX6_cellsBarred_57 fl_X6_47 (Nat.le_of_ble_eq_true rfl) rfl rfl ?_
          refine mr_iload_n C0 dX6_cellsBarred_60 rfl (i := 1) rfl ?_
          have g15 := h.1
          have h := h.2
          refine mr_iald C0 dX6_cellsBarred_61 (Nat.le_of_ble_eq_true rfl) rfl g15 ?_
          refine mr_callSI C0 mdX6_isBeyond dX6_cellsBarred_62 clX6_isBeyond ml_X6_113 arX6_isBeyond (as := [.int x3, .long y4, .int (S.1 47 x1.toNatClampNeg)]) rfl (Nat.le_of_ble_eq_true rfl) (Nat.le_of_ble_eq_true rfl) (Nat.le_of_ble_eq_true rfl) fit0 h (fun r17 S16 h => ?_)
          refine mr_if_eq C0 dX6_cellsBarred_65 (tgt := 76) (by decide) (fun c18 => ?_) (fun c18 => ?_)
          · have h := h.1 c18
            refine mr_iconst (v := 0) C0 dX6_cellsBarred_76 (by decide) ?_
            refine mr_iret C0 hr0 hk0 dX6_cellsBarred_77 (qI_mk ?_)
            exact h
          · have h := h.2 c18
            refine mr_aload_n C0 dX6_cellsBarred_68 rfl (i := 0) rfl ?_
            refine mr_iconst (v := 3) C0 dX6_cellsBarred_69 (by decide) ?_
            refine mr_callVI C0 mdX6_failed dX6_cellsBarred_70 clX6_failed ml_X6_110 (Nat.le_of_ble_eq_true rfl) rfl rfl arX6_failed (as := [.int (3 : Int32)]) rfl (Nat.le_of_ble_eq_true rfl) (Nat.le_of_ble_eq_true rfl) (Nat.le_of_ble_eq_true rfl) fit0 (CallV_of mdX6_failed plX6_failed 0 (Nat.le_of_ble_eq_true rfl) rfl ?_) (fun _ _ h => h)
            intro zp4 zl4 ze4 zs4 zm4 zargs4 zbelow4 zmeth4 zc4 zD4 zad4 zac4 C4 hr4 hk4
            refine mr_aload_n C4 dX6_failed_0 rfl (i := 0) rfl ?_
            refine mr_iload_n C4 dX6_failed_1 rfl (i := 1) rfl ?_
            refine mr_putI C4 dX6_failed_2 fl_X6_61 (Nat.le_of_ble_eq_true rfl) rfl rfl rfl rfl ?_
            refine mr_bipush (v := (-10)) C4 dX6_failed_5 (by decide) ?_
            refine mr_iload_n C4 dX6_failed_7 rfl (i := 1) rfl ?_
            refine mr_isub C4 dX6_failed_8 ?_
            refine mr_topI (y := (-13 : Int32)) (by decide) ?_
            refine mr_iret C4 hr4 hk4 dX6_failed_9 (qI_mk ?_)
            refine mr_goto C0 dX6_cellsBarred_73 (tgt := 77) (by decide) ?_
            refine mr_iret C0 hr0 hk0 dX6_cellsBarred_77 (qI_mk ?_)
            exact h
        · have h := h.2 c14
          refine mr_aload_n C0 dX6_cellsBarred_47 rfl (i := 0) rfl ?_
          refine mr_iconst (v := 4) C0 dX6_cellsBarred_48 (by decide) ?_
          refine mr_callVI C0 mdX6_failed dX6_cellsBarred_49 clX6_failed ml_X6_110 (Nat.le_of_ble_eq_true rfl) rfl rfl arX6_failed (as := [.int (4 : Int32)]) rfl (Nat.le_of_ble_eq_true rfl) (Nat.le_of_ble_eq_true rfl) (Nat.le_of_ble_eq_true rfl) fit0 (CallV_of mdX6_failed plX6_failed 0 (Nat.le_of_ble_eq_true rfl) rfl ?_) (fun _ _ h => h)
          intro zp5 zl5 ze5 zs5 zm5 zargs5 zbelow5 zmeth5 zc5 zD5 zad5 zac5 C5 hr5 hk5
          refine mr_aload_n C5 dX6_failed_0 rfl (i := 0) rfl ?_
          refine mr_iload_n C5 dX6_failed_1 rfl (i := 1) rfl ?_
          refine mr_putI C5 dX6_failed_2 fl_X6_61 (Nat.le_of_ble_eq_true rfl) rfl rfl rfl rfl ?_
          refine mr_bipush (v := (-10)) C5 dX6_failed_5 (by decide) ?_
          refine mr_iload_n C5 dX6_failed_7 rfl (i := 1) rfl ?_
          refine mr_isub C5 dX6_failed_8 ?_
          refine mr_topI (y := (-14 : Int32)) (by decide) ?_
          refine mr_iret C5 hr5 hk5 dX6_failed_9 (qI_mk ?_)
          refine mr_iret C0 hr0 hk0 dX6_cellsBarred_52 (qI_mk ?_)
          exact h
      · have h := h.2 c13
        refine mr_aload_n C0 dX6_cellsBarred_34 rfl (i := 0) rfl ?_
        refine mr_iconst (v := 1) C0 dX6_cellsBarred_35 (by decide) ?_
        refine mr_callVI C0 mdX6_failed dX6_cellsBarred_36 clX6_failed ml_X6_110 (Nat.le_of_ble_eq_true rfl) rfl rfl arX6_failed (as := [.int (1 : Int32)]) rfl (Nat.le_of_ble_eq_true rfl) (Nat.le_of_ble_eq_true rfl) (Nat.le_of_ble_eq_true rfl) fit0 (CallV_of mdX6_failed plX6_failed 0 (Nat.le_of_ble_eq_true rfl) rfl ?_) (fun _ _ h => h)
        intro zp6 zl6 ze6 zs6 zm6 zargs6 zbelow6 zmeth6 zc6 zD6 zad6 zac6 C6 hr6 hk6
        refine mr_aload_n C6 dX6_failed_0 rfl (i := 0) rfl ?_
        refine mr_iload_n C6 dX6_failed_1 rfl (i := 1) rfl ?_
        refine mr_putI C6 dX6_failed_2 fl_X6_61 (Nat.le_of_ble_eq_true rfl) rfl rfl rfl rfl ?_
        refine mr_bipush (v := (-10)) C6 dX6_failed_5 (by decide) ?_
        refine mr_iload_n C6 dX6_failed_7 rfl (i := 1) rfl ?_
        refine mr_isub C6 dX6_failed_8 ?_
        refine mr_topI (y := (-11 : Int32)) (by decide) ?_
        refine mr_iret C6 hr6 hk6 dX6_failed_9 (qI_mk ?_)
        refine mr_iret C0 hr0 hk0 dX6_cellsBarred_39 (qI_mk ?_)
        exact h
    · have h := h.2 c11
      refine mr_aload_n C0 dX6_cellsBarred_19 rfl (i := 0) rfl ?_
      refine mr_iconst (v := 2) C0 dX6_cellsBarred_20 (by decide) ?_
      refine mr_callVI C0 mdX6_failed dX6_cellsBarred_21 clX6_failed ml_X6_110 (Nat.le_of_ble_eq_true rfl) rfl rfl arX6_failed (as := [.int (2 : Int32)]) rfl (Nat.le_of_ble_eq_true rfl) (Nat.le_of_ble_eq_true rfl) (Nat.le_of_ble_eq_true rfl) fit0 (CallV_of mdX6_failed plX6_failed 0 (Nat.le_of_ble_eq_true rfl) rfl ?_) (fun _ _ h => h)
      intro zp7 zl7 ze7 zs7 zm7 zargs7 zbelow7 zmeth7 zc7 zD7 zad7 zac7 C7 hr7 hk7
      refine mr_aload_n C7 dX6_failed_0 rfl (i := 0) rfl ?_
      refine mr_iload_n C7 dX6_failed_1 rfl (i := 1) rfl ?_
      refine mr_putI C7 dX6_failed_2 fl_X6_61 (Nat.le_of_ble_eq_true rfl) rfl rfl rfl rfl ?_
      refine mr_bipush (v := (-10)) C7 dX6_failed_5 (by decide) ?_
      refine mr_iload_n C7 dX6_failed_7 rfl (i := 1) rfl ?_
      refine mr_isub C7 dX6_failed_8 ?_
      refine mr_topI (y := (-12 : Int32)) (by decide) ?_
      refine mr_iret C7 hr7 hk7 dX6_failed_9 (qI_mk ?_)
      refine mr_iret C0 hr0 hk0 dX6_cellsBarred_24 (qI_mk ?_)
      exact h
set_option maxRecDepth 100000 in
set_option maxHeartbeats 4000000 in
theorem eX6_hill (x1 : Int32) (x2 : Int32) (x3 : Int32) (x4 : Int32) (S : St) (Q : Int32 → St → Prop) (h : ((x1.toInt64 < (0 : Int64) → Q (-1 : Int32) (sI S 34 0 (0 : Int32))) ∧ (¬ x1.toInt64 < (0 : Int64) → (((3 : Int64) < x1.toInt64 → Q (-1 : Int32) (sI S 34 0 (0 : Int32))) ∧ (¬ (3 : Int64) < x1.toInt64 → ((x2.toInt64 < (0 : Int64) → Q (-2 : Int32) (sI S 34 0 (0 : Int32))) ∧ (¬ x2.toInt64 < (0 : Int64) → (((2 : Int64) < x2.toInt64 → Q (-2 : Int32) (sI S 34 0 (0 : Int32))) ∧ (¬ (2 : Int64) < x2.toInt64 → CallV mdX6_cellsBarred [.ref 34, .int x1, .int x2, .int x3, .long x4.toInt64] S (qI fun r6 S5 => ((0 ≤ r6 → CallV mdX6_readsHill [.ref 34, .int (((60 : Int32) * x1) + x3), .int x4] S5 (qI fun r9 S8 => ((¬ r9 = 0 → V mdX6_hill 98 [some (.ref 34), none, none, none, none, none, some (.int (0 : Int32))] [] (sI (sI S8 34 1 (S8.1 34 7)) 34 2 (S8.1 34 8)) (qI Q)) ∧ (r9 = 0 → Q ((-100 : Int32) - (S8.1 34 6)) (sI S8 34 0 (0 : Int32)))))) ∧ (¬ 0 ≤ r6 → Q r6 S5)))))))))))) : CallV mdX6_hill [.ref 34, .int x1, .int x2, .int x3, .int x4] S (qI Q) := by
  refine CallV_of mdX6_hill plX6_hill 2 (Nat.le_of_ble_eq_true rfl) rfl ?_
  intro zp0 zl0 ze0 zs0 zm0 zargs0 zbelow0 zmeth0 zc0 zD0 zad0 zac0 C0 hr0 hk0
  refine mr_iload_n C0 dX6_hill_0 rfl (i := 1) rfl ?_
  refine mr_callSI C0 mdX6_noSheet dX6_hill_1 clX6_noSheet ml_X6_117 arX6_noSheet (as := [.int x1]) rfl (Nat.le_of_ble_eq_true rfl) (Nat.le_of_ble_eq_true rfl) (Nat.le_of_ble_eq_true rfl) fit0 (CallV_of mdX6_noSheet plX6_noSheet 0 (Nat.le_of_ble_eq_true rfl) rfl ?_) (fun _ _ h => h)
  intro zp1 zl1 ze1 zs1 zm1 zargs1 zbelow1 zmeth1 zc1 zD1 zad1 zac1 C1 hr1 hk1
  refine mr_iload_n C1 dX6_noSheet_0 rfl (i := 0) rfl ?_
  refine mr_i2l C1 dX6_noSheet_1 ?_
  refine mr_lconst (v := 0) C1 dX6_noSheet_2 (by decide) ?_
  refine mr_ldc2 C1 dX6_noSheet_3 cn_X6_83 ?_
  refine mr_callSI C1 mdX6_in dX6_noSheet_6 clX6_in ml_X6_79 arX6_in (as := [.long x1.toInt64, .long (0 : Int64), .long (3 : Int64)]) rfl (Nat.le_of_ble_eq_true rfl) (Nat.le_of_ble_eq_true rfl) (Nat.le_of_ble_eq_true rfl) fit0 (CallV_of mdX6_in plX6_in 0 (Nat.le_of_ble_eq_true rfl) rfl ?_) (fun _ _ h => h)
  intro zp2 zl2 ze2 zs2 zm2 zargs2 zbelow2 zmeth2 zc2 zD2 zad2 zac2 C2 hr2 hk2
  refine mr_lload_n C2 dX6_in_0 rfl (i := 0) rfl ?_
  refine mr_lload_n C2 dX6_in_1 rfl (i := 2) rfl ?_
  refine mr_lcmp_lt C2 dX6_in_2 dX6_in_3 (tgt := 17) (by decide) (fun c1 => ?_) (fun c1 => ?_)
  · have h := h.1 c1
    refine mr_iconst (v := 0) C2 dX6_in_17 (by decide) ?_
    refine mr_zret C2 hr2 hk2 dX6_in_18 rfl (qI_mk ?_)
    refine mr_if_ne C1 dX6_noSheet_9 (tgt := 16) (by decide) (fun q => absurd q (by decide)) (fun _ => ?_)
    refine mr_iconst (v := 1) C1 dX6_noSheet_12 (by decide) ?_
    refine mr_goto C1 dX6_noSheet_13 (tgt := 17) (by decide) ?_
    refine mr_zret C1 hr1 hk1 dX6_noSheet_17 rfl (qI_mk ?_)
    refine mr_if_eq C0 dX6_hill_4 (tgt := 13) (by decide) (fun q => absurd q (by decide)) (fun _ => ?_)
    refine mr_aload_n C0 dX6_hill_7 rfl (i := 0) rfl ?_
    refine mr_iconst (v := (-1)) C0 dX6_hill_8 (by decide) ?_
    refine mr_callVI C0 mdX6_refused dX6_hill_9 clX6_refused ml_X6_121 (Nat.le_of_ble_eq_true rfl) rfl rfl arX6_refused (as := [.int (-1 : Int32)]) rfl (Nat.le_of_ble_eq_true rfl) (Nat.le_of_ble_eq_true rfl) (Nat.le_of_ble_eq_true rfl) fit0 (CallV_of mdX6_refused plX6_refused 0 (Nat.le_of_ble_eq_true rfl) rfl ?_) (fun _ _ h => h)
    intro zp3 zl3 ze3 zs3 zm3 zargs3 zbelow3 zmeth3 zc3 zD3 zad3 zac3 C3 hr3 hk3
    refine mr_aload_n C3 dX6_refused_0 rfl (i := 0) rfl ?_
    refine mr_iconst (v := 0) C3 dX6_refused_1 (by decide) ?_
    refine mr_putI C3 dX6_refused_2 fl_X6_61 (Nat.le_of_ble_eq_true rfl) rfl rfl rfl rfl ?_
    refine mr_iload_n C3 dX6_refused_5 rfl (i := 1) rfl ?_
    refine mr_iret C3 hr3 hk3 dX6_refused_6 (qI_mk ?_)
    refine mr_iret C0 hr0 hk0 dX6_hill_12 (qI_mk ?_)
    exact h
  · have h := h.2 c1
    refine mr_lload_n C2 dX6_in_6 rfl (i := 0) rfl ?_
    refine mr_lload C2 dX6_in_7 rfl ?_
    refine mr_lcmp_gt C2 dX6_in_9 dX6_in_10 (tgt := 17) (by decide) (fun c2 => ?_) (fun c2 => ?_)
    · have h := h.1 c2
      refine mr_iconst (v := 0) C2 dX6_in_17 (by decide) ?_
      refine mr_zret C2 hr2 hk2 dX6_in_18 rfl (qI_mk ?_)
      refine mr_if_ne C1 dX6_noSheet_9 (tgt := 16) (by decide) (fun q => absurd q (by decide)) (fun _ => ?_)
      refine mr_iconst (v := 1) C1 dX6_noSheet_12 (by decide) ?_
      refine mr_goto C1 dX6_noSheet_13 (tgt := 17) (by decide) ?_
      refine mr_zret C1 hr1 hk1 dX6_noSheet_17 rfl (qI_mk ?_)
      refine mr_if_eq C0 dX6_hill_4 (tgt := 13) (by decide) (fun q => absurd q (by decide)) (fun _ => ?_)
      refine mr_aload_n C0 dX6_hill_7 rfl (i := 0) rfl ?_
      refine mr_iconst (v := (-1)) C0 dX6_hill_8 (by decide) ?_
      refine mr_callVI C0 mdX6_refused dX6_hill_9 clX6_refused ml_X6_121 (Nat.le_of_ble_eq_true rfl) rfl rfl arX6_refused (as := [.int (-1 : Int32)]) rfl (Nat.le_of_ble_eq_true rfl) (Nat.le_of_ble_eq_true rfl) (Nat.le_of_ble_eq_true rfl) fit0 (CallV_of mdX6_refused plX6_refused 0 (Nat.le_of_ble_eq_true rfl) rfl ?_) (fun _ _ h => h)
      intro zp4 zl4 ze4 zs4 zm4 zargs4 zbelow4 zmeth4 zc4 zD4 zad4 zac4 C4 hr4 hk4
      refine mr_aload_n C4 dX6_refused_0 rfl (i := 0) rfl ?_
      refine mr_iconst (v := 0) C4 dX6_refused_1 (by decide) ?_
      refine mr_putI C4 dX6_refused_2 fl_X6_61 (Nat.le_of_ble_eq_true rfl) rfl rfl rfl rfl ?_
      refine mr_iload_n C4 dX6_refused_5 rfl (i := 1) rfl ?_
      refine mr_iret C4 hr4 hk4 dX6_refused_6 (qI_mk ?_)
      refine mr_iret C0 hr0 hk0 dX6_hill_12 (qI_mk ?_)
      exact h
    · have h := h.2 c2
      refine mr_iconst (v := 1) C2 dX6_in_13 (by decide) ?_
      refine mr_goto C2 dX6_in_14 (tgt := 18) (by decide) ?_
      refine mr_zret C2 hr2 hk2 dX6_in_18 rfl (qI_mk ?_)
      refine mr_if_ne C1 dX6_noSheet_9 (tgt := 16) (by decide) (fun _ => ?_) (fun q => absurd q (by decide))
      refine mr_iconst (v := 0) C1 dX6_noSheet_16 (by decide) ?_
      refine mr_zret C1 hr1 hk1 dX6_noSheet_17 rfl (qI_mk ?_)
      refine mr_if_eq C0 dX6_hill_4 (tgt := 13) (by decide) (fun _ => ?_) (fun q => absurd q (by decide))
      refine mr_iload_n C0 dX6_hill_13 rfl (i := 2) rfl ?_
      refine mr_i2l C0 dX6_hill_14 ?_
      refine mr_lconst (v := 0) C0 dX6_hill_15 (by decide) ?_
      refine mr_ldc2 C0 dX6_hill_16 cn_X6_124 ?_
      refine mr_callSI C0 mdX6_in dX6_hill_19 clX6_in ml_X6_79 arX6_in (as := [.long x2.toInt64, .long (0 : Int64), .long (2 : Int64)]) rfl (Nat.le_of_ble_eq_true rfl) (Nat.le_of_ble_eq_true rfl) (Nat.le_of_ble_eq_true rfl) fit0 (CallV_of mdX6_in plX6_in 0 (Nat.le_of_ble_eq_true rfl) rfl ?_) (fun _ _ h => h)
      intro zp5 zl5 ze5 zs5 zm5 zargs5 zbelow5 zmeth5 zc5 zD5 zad5 zac5 C5 hr5 hk5
      refine mr_lload_n C5 dX6_in_0 rfl (i := 0) rfl ?_
      refine mr_lload_n C5 dX6_in_1 rfl (i := 2) rfl ?_
      refine mr_lcmp_lt C5 dX6_in_2 dX6_in_3 (tgt := 17) (by decide) (fun c3 => ?_) (fun c3 => ?_)
      · have h := h.1 c3
        refine mr_iconst (v := 0) C5 dX6_in_17 (by decide) ?_
        refine mr_zret C5 hr5 hk5 dX6_in_18 rfl (qI_mk ?_)
        refine mr_if_ne C0 dX6_hill_22 (tgt := 32) (by decide) (fun q => absurd q (by decide)) (fun _ => ?_)
        refine mr_aload_n C0 dX6_hill_25 rfl (i := 0) rfl ?_
        refine mr_bipush (v := (-2)) C0 dX6_hill_26 (by decide) ?_
        refine mr_callVI C0 mdX6_refused dX6_hill_28 clX6_refused ml_X6_121 (Nat.le_of_ble_eq_true rfl) rfl rfl arX6_refused (as := [.int (-2 : Int32)]) rfl (Nat.le_of_ble_eq_true rfl) (Nat.le_of_ble_eq_true rfl) (Nat.le_of_ble_eq_true rfl) fit0 (CallV_of mdX6_refused plX6_refused 0 (Nat.le_of_ble_eq_true rfl) rfl ?_) (fun _ _ h => h)
        intro zp6 zl6 ze6 zs6 zm6 zargs6 zbelow6 zmeth6 zc6 zD6 zad6 zac6 C6 hr6 hk6
        refine mr_aload_n C6 dX6_refused_0 rfl (i := 0) rfl ?_
        refine mr_iconst (v := 0) C6 dX6_refused_1 (by decide) ?_
        refine mr_putI C6 dX6_refused_2 fl_X6_61 (Nat.le_of_ble_eq_true rfl) rfl rfl rfl rfl ?_
        refine mr_iload_n C6 dX6_refused_5 rfl (i := 1) rfl ?_
        refine mr_iret C6 hr6 hk6 dX6_refused_6 (qI_mk ?_)
        refine mr_iret C0 hr0 hk0 dX6_hill_31 (qI_mk ?_)
        exact h
      · have h := h.2 c3
        refine mr_lload_n C5 dX6_in_6 rfl (i := 0) rfl ?_
        refine mr_lload C5 dX6_in_7 rfl ?_
        refine mr_lcmp_gt C5 dX6_in_9 dX6_in_10 (tgt := 17) (by decide) (fun c4 => ?_) (fun c4 => ?_)
        · have h := h.1 c4
          refine mr_iconst (v := 0) C5 dX6_in_17 (by decide) ?_
          refine mr_zret C5 hr5 hk5 dX6_in_18 rfl (qI_mk ?_)
          refine mr_if_ne C0 dX6_hill_22 (tgt := 32) (by decide) (fun q => absurd q (by decide)) (fun _ => ?_)
          refine mr_aload_n C0 dX6_hill_25 rfl (i := 0) rfl ?_
          refine mr_bipush (v := (-2)) C0 dX6_hill_26 (by decide) ?_
          refine mr_callVI C0 mdX6_refused dX6_hill_28 clX6_refused ml_X6_121 (Nat.le_of_ble_eq_true rfl) rfl rfl arX6_refused (as := [.int (-2 : Int32)]) rfl (Nat.le_of_ble_eq_true rfl) (Nat.le_of_ble_eq_true rfl) (Nat.le_of_ble_eq_true rfl) fit0 (CallV_of mdX6_refused plX6_refused 0 (Nat.le_of_ble_eq_true rfl) rfl ?_) (fun _ _ h => h)
          intro zp7 zl7 ze7 zs7 zm7 zargs7 zbelow7 zmeth7 zc7 zD7 zad7 zac7 C7 hr7 hk7
          refine mr_aload_n C7 dX6_refused_0 rfl (i := 0) rfl ?_
          refine mr_iconst (v := 0) C7 dX6_refused_1 (by decide) ?_
          refine mr_putI C7 dX6_refused_2 fl_X6_61 (Nat.le_of_ble_eq_true rfl) rfl rfl rfl rfl ?_
          refine mr_iload_n C7 dX6_refused_5 rfl (i := 1) rfl ?_
          refine mr_iret C7 hr7 hk7 dX6_refused_6 (qI_mk ?_)
          refine mr_iret C0 hr0 hk0 dX6_hill_31 (qI_mk ?_)
          exact h
        · have h := h.2 c4
          refine mr_iconst (v := 1) C5 dX6_in_13 (by decide) ?_
          refine mr_goto C5 dX6_in_14 (tgt := 18) (by decide) ?_
          refine mr_zret C5 hr5 hk5 dX6_in_18 rfl (qI_mk ?_)
          refine mr_if_ne C0 dX6_hill_22 (tgt := 32) (by decide) (fun _ => ?_) (fun q => absurd q (by decide))
          refine mr_aload_n C0 dX6_hill_32 rfl (i := 0) rfl ?_
          refine mr_iload_n C0 dX6_hill_33 rfl (i := 1) rfl ?_
          refine mr_iload_n C0 dX6_hill_34 rfl (i := 2) rfl ?_
          refine mr_iload_n C0 dX6_hill_35 rfl (i := 3) rfl ?_
          refine mr_iload C0 dX6_hill_36 rfl ?_
          refine mr_i2l C0 dX6_hill_38 ?_
          refine mr_callVI C0 mdX6_cellsBarred dX6_hill_39 clX6_cellsBarred ml_X6_126 (Nat.le_of_ble_eq_true rfl) rfl rfl arX6_cellsBarred (as := [.int x1, .int x2, .int x3, .long x4.toInt64]) rfl (Nat.le_of_ble_eq_true rfl) (Nat.le_of_ble_eq_true rfl) (Nat.le_of_ble_eq_true rfl) fit0 h (fun r6 S5 h => ?_)
          refine mr_istore (L1 := [some (.ref 34), some (.int x1), some (.int x2), some (.int x3), some (.int x4), some (.int r6), none]) C0 dX6_hill_42 (Nat.le_of_ble_eq_true rfl) rfl ?_
          refine mr_iload C0 dX6_hill_44 rfl ?_
          refine mr_if_ge C0 dX6_hill_46 (tgt := 52) (by decide) (fun c7 => ?_) (fun c7 => ?_)
          · have h := h.1 c7
            refine mr_aload_n C0 dX6_hill_52 rfl (i := 0) rfl ?_
            refine mr_bipush (v := 60) C0 dX6_hill_53 (by decide) ?_
            refine mr_iload_n C0 dX6_hill_55 rfl (i := 1) rfl ?_
            refine mr_imul C0 dX6_hill_56 ?_
            refine mr_iload_n C0 dX6_hill_57 rfl (i := 3) rfl ?_
            refine mr_iadd C0 dX6_hill_58 ?_
            refine mr_iload C0 dX6_hill_59 rfl ?_
            refine mr_callVI C0 mdX6_readsHill dX6_hill_61 clX6_readsHill ml_X6_130 (Nat.le_of_ble_eq_true rfl) rfl rfl arX6_readsHill (as := [.int (((60 : Int32) * x1) + x3), .int x4]) rfl (Nat.le_of_ble_eq_true rfl) (Nat.le_of_ble_eq_true rfl) (Nat.le_of_ble_eq_true rfl) fit0 h (fun r9 S8 h => ?_)
            refine mr_if_ne C0 dX6_hill_64 (tgt := 79) (by decide) (fun c10 => ?_) (fun c10 => ?_)
            · have h := h.1 c10
              refine mr_aload_n C0 dX6_hill_79 rfl (i := 0) rfl ?_
              refine mr_aload_n C0 dX6_hill_80 rfl (i := 0) rfl ?_
              refine mr_getI C0 dX6_hill_81 fl_X6_100 (Nat.le_of_ble_eq_true rfl) rfl rfl ?_
              refine mr_putI C0 dX6_hill_84 fl_X6_69 (Nat.le_of_ble_eq_true rfl) rfl rfl rfl rfl ?_
              refine mr_aload_n C0 dX6_hill_87 rfl (i := 0) rfl ?_
              refine mr_aload_n C0 dX6_hill_88 rfl (i := 0) rfl ?_
              refine mr_getI C0 dX6_hill_89 fl_X6_103 (Nat.le_of_ble_eq_true rfl) rfl rfl ?_
              refine mr_topI (y := (S8.1 34 8)) (by first | rfl | simp [sI, sJ, sF, upd, vp_updL]) ?_
              refine mr_putI C0 dX6_hill_92 fl_X6_72 (Nat.le_of_ble_eq_true rfl) rfl rfl rfl rfl ?_
              refine mr_iconst (v := 0) C0 dX6_hill_95 (by decide) ?_
              refine mr_istore (L1 := [some (.ref 34), some (.int x1), some (.int x2), some (.int x3), some (.int x4), some (.int r6), some (.int (0 : Int32))]) C0 dX6_hill_96 (Nat.le_of_ble_eq_true rfl) rfl ?_
              refine mr_mask (L1 := [some (.ref 34), none, none, none, none, none, some (.int (0 : Int32))]) C0 [true, false, false, false, false, false, true] rfl ?_
              exact h zp0 zl0 ze0 zs0 zm0 zargs0 zbelow0 zmeth0 zc0 zD0 zad0 zac0 C0 hr0 hk0
            · have h := h.2 c10
              refine mr_aload_n C0 dX6_hill_67 rfl (i := 0) rfl ?_
              refine mr_bipush (v := (-100)) C0 dX6_hill_68 (by decide) ?_
              refine mr_aload_n C0 dX6_hill_70 rfl (i := 0) rfl ?_
              refine mr_getI C0 dX6_hill_71 fl_X6_85 (Nat.le_of_ble_eq_true rfl) rfl rfl ?_
              refine mr_isub C0 dX6_hill_74 ?_
              refine mr_callVI C0 mdX6_refused dX6_hill_75 clX6_refused ml_X6_121 (Nat.le_of_ble_eq_true rfl) rfl rfl arX6_refused (as := [.int ((-100 : Int32) - (S8.1 34 6))]) rfl (Nat.le_of_ble_eq_true rfl) (Nat.le_of_ble_eq_true rfl) (Nat.le_of_ble_eq_true rfl) fit0 (CallV_of mdX6_refused plX6_refused 0 (Nat.le_of_ble_eq_true rfl) rfl ?_) (fun _ _ h => h)
              intro zp8 zl8 ze8 zs8 zm8 zargs8 zbelow8 zmeth8 zc8 zD8 zad8 zac8 C8 hr8 hk8
              refine mr_aload_n C8 dX6_refused_0 rfl (i := 0) rfl ?_
              refine mr_iconst (v := 0) C8 dX6_refused_1 (by decide) ?_
              refine mr_putI C8 dX6_refused_2 fl_X6_61 (Nat.le_of_ble_eq_true rfl) rfl rfl rfl rfl ?_
              refine mr_iload_n C8 dX6_refused_5 rfl (i := 1) rfl ?_
              refine mr_iret C8 hr8 hk8 dX6_refused_6 (qI_mk ?_)
              refine mr_iret C0 hr0 hk0 dX6_hill_78 (qI_mk ?_)
              exact h
          · have h := h.2 c7
            refine mr_iload C0 dX6_hill_49 rfl ?_
            refine mr_iret C0 hr0 hk0 dX6_hill_51 (qI_mk ?_)
            exact h
set_option maxRecDepth 100000 in
set_option maxHeartbeats 4000000 in
theorem eX6_hill_98 (x6 : Int32) (S : St) (Q : Int32 → St → Prop) (h : (((S.1 34 2) ≤ x6 → V mdX6_hill 130 [some (.ref 34), none, none, none, none, none, some (.int (0 : Int32))] [] S (qI Q)) ∧ (¬ (S.1 34 2) ≤ x6 → (vp_in x6 6) ∧ (vp_in x6 6) ∧ V mdX6_hill 98 [some (.ref 34), none, none, none, none, none, some (.int (x6 + 1))] [] (sI S 35 x6.toNatClampNeg (S.1 37 x6.toNatClampNeg)) (qI Q)))) : V mdX6_hill 98 [some (.ref 34), none, none, none, none, none, some (.int x6)] [] S (qI Q) := by
  intro zp0 zl0 ze0 zs0 zm0 zargs0 zbelow0 zmeth0 zc0 zD0 zad0 zac0 C0 hr0 hk0
  refine mr_iload C0 dX6_hill_98 rfl ?_
  refine mr_aload_n C0 dX6_hill_100 rfl (i := 0) rfl ?_
  refine mr_getI C0 dX6_hill_101 fl_X6_72 (Nat.le_of_ble_eq_true rfl) rfl rfl ?_
  refine mr_icmp_ge C0 dX6_hill_104 (tgt := 127) (by decide) (fun c1 => ?_) (fun c1 => ?_)
  · have h := h.1 c1
    refine mr_iconst (v := 0) C0 dX6_hill_127 (by decide) ?_
    refine mr_istore (L1 := [some (.ref 34), none, none, none, none, none, some (.int (0 : Int32))]) C0 dX6_hill_128 (Nat.le_of_ble_eq_true rfl) rfl ?_
    exact h zp0 zl0 ze0 zs0 zm0 zargs0 zbelow0 zmeth0 zc0 zD0 zad0 zac0 C0 hr0 hk0
  · have h := h.2 c1
    refine mr_aload_n C0 dX6_hill_107 rfl (i := 0) rfl ?_
    refine mr_getR C0 dX6_hill_108 fl_X6_7 (Nat.le_of_ble_eq_true rfl) rfl rfl ?_
    refine mr_iload C0 dX6_hill_111 rfl ?_
    refine mr_aload_n C0 dX6_hill_113 rfl (i := 0) rfl ?_
    refine mr_getR C0 dX6_hill_114 fl_X6_16 (Nat.le_of_ble_eq_true rfl) rfl rfl ?_
    refine mr_iload C0 dX6_hill_117 rfl ?_
    have g2 := h.1
    have h := h.2
    refine mr_iald C0 dX6_hill_119 (Nat.le_of_ble_eq_true rfl) rfl g2 ?_
    have g3 := h.1
    have h := h.2
    refine mr_iast C0 dX6_hill_120 (Nat.le_of_ble_eq_true rfl) rfl g3 ?_
    refine mr_iinc (v := (x6 + 1)) (L1 := [some (.ref 34), none, none, none, none, none, some (.int (x6 + 1))]) C0 dX6_hill_121 rfl rfl (Nat.le_of_ble_eq_true rfl) rfl ?_
    refine mr_goto C0 dX6_hill_124 (tgt := 98) (by decide) ?_
    exact h zp0 zl0 ze0 zs0 zm0 zargs0 zbelow0 zmeth0 zc0 zD0 zad0 zac0 C0 hr0 hk0
set_option maxRecDepth 100000 in
set_option maxHeartbeats 4000000 in
theorem eX6_hill_130 (x6 : Int32) (S : St) (Q : Int32 → St → Prop) (h : ((((S.1 34 1) * (S.1 34 2)) ≤ x6 → Q ((S.1 34 1) * (S.1 34 2)) (sI (sI (sI S 34 5 (0 : Int32)) 34 11 (0 : Int32)) 34 0 (0 : Int32))) ∧ (¬ ((S.1 34 1) * (S.1 34 2)) ≤ x6 → (vp_in x6 30) ∧ (vp_in x6 30) ∧ V mdX6_hill 130 [some (.ref 34), none, none, none, none, none, some (.int (x6 + 1))] [] (sI S 36 x6.toNatClampNeg (S.1 38 x6.toNatClampNeg)) (qI Q)))) : V mdX6_hill 130 [some (.ref 34), none, none, none, none, none, some (.int x6)] [] S (qI Q) := by
  intro zp0 zl0 ze0 zs0 zm0 zargs0 zbelow0 zmeth0 zc0 zD0 zad0 zac0 C0 hr0 hk0
  refine mr_iload C0 dX6_hill_130 rfl ?_
  refine mr_aload_n C0 dX6_hill_132 rfl (i := 0) rfl ?_
  refine mr_callVI C0 mdX6_cells dX6_hill_133 clX6_cells ml_X6_75 (Nat.le_of_ble_eq_true rfl) rfl rfl arX6_cells (as := []) rfl (Nat.le_of_ble_eq_true rfl) (Nat.le_of_ble_eq_true rfl) (Nat.le_of_ble_eq_true rfl) fit0 (CallV_of mdX6_cells plX6_cells 0 (Nat.le_of_ble_eq_true rfl) rfl ?_) (fun _ _ h => h)
  intro zp1 zl1 ze1 zs1 zm1 zargs1 zbelow1 zmeth1 zc1 zD1 zad1 zac1 C1 hr1 hk1
  refine mr_aload_n C1 dX6_cells_0 rfl (i := 0) rfl ?_
  refine mr_getI C1 dX6_cells_1 fl_X6_69 (Nat.le_of_ble_eq_true rfl) rfl rfl ?_
  refine mr_aload_n C1 dX6_cells_4 rfl (i := 0) rfl ?_
  refine mr_getI C1 dX6_cells_5 fl_X6_72 (Nat.le_of_ble_eq_true rfl) rfl rfl ?_
  refine mr_imul C1 dX6_cells_8 ?_
  refine mr_iret C1 hr1 hk1 dX6_cells_9 (qI_mk ?_)
  refine mr_icmp_ge C0 dX6_hill_136 (tgt := 159) (by decide) (fun c1 => ?_) (fun c1 => ?_)
  · have h := h.1 c1
    refine mr_aload_n C0 dX6_hill_159 rfl (i := 0) rfl ?_
    refine mr_iconst (v := 0) C0 dX6_hill_160 (by decide) ?_
    refine mr_putI C0 dX6_hill_161 fl_X6_134 (Nat.le_of_ble_eq_true rfl) rfl rfl rfl rfl ?_
    refine mr_aload_n C0 dX6_hill_164 rfl (i := 0) rfl ?_
    refine mr_iconst (v := 0) C0 dX6_hill_165 (by decide) ?_
    refine mr_putI C0 dX6_hill_166 fl_X6_138 (Nat.le_of_ble_eq_true rfl) rfl rfl rfl rfl ?_
    refine mr_aload_n C0 dX6_hill_169 rfl (i := 0) rfl ?_
    refine mr_aload_n C0 dX6_hill_170 rfl (i := 0) rfl ?_
    refine mr_callVI C0 mdX6_cells dX6_hill_171 clX6_cells ml_X6_75 (Nat.le_of_ble_eq_true rfl) rfl rfl arX6_cells (as := []) rfl (Nat.le_of_ble_eq_true rfl) (Nat.le_of_ble_eq_true rfl) (Nat.le_of_ble_eq_true rfl) fit0 (CallV_of mdX6_cells plX6_cells 0 (Nat.le_of_ble_eq_true rfl) rfl ?_) (fun _ _ h => h)
    intro zp2 zl2 ze2 zs2 zm2 zargs2 zbelow2 zmeth2 zc2 zD2 zad2 zac2 C2 hr2 hk2
    refine mr_aload_n C2 dX6_cells_0 rfl (i := 0) rfl ?_
    refine mr_getI C2 dX6_cells_1 fl_X6_69 (Nat.le_of_ble_eq_true rfl) rfl rfl ?_
    refine mr_topI (y := (S.1 34 1)) (by first | rfl | simp [sI, sJ, sF, upd, vp_updL]) ?_
    refine mr_aload_n C2 dX6_cells_4 rfl (i := 0) rfl ?_
    refine mr_getI C2 dX6_cells_5 fl_X6_72 (Nat.le_of_ble_eq_true rfl) rfl rfl ?_
    refine mr_topI (y := (S.1 34 2)) (by first | rfl | simp [sI, sJ, sF, upd, vp_updL]) ?_
    refine mr_imul C2 dX6_cells_8 ?_
    refine mr_iret C2 hr2 hk2 dX6_cells_9 (qI_mk ?_)
    refine mr_callVI C0 mdX6_refused dX6_hill_174 clX6_refused ml_X6_121 (Nat.le_of_ble_eq_true rfl) rfl rfl arX6_refused (as := [.int ((S.1 34 1) * (S.1 34 2))]) rfl (Nat.le_of_ble_eq_true rfl) (Nat.le_of_ble_eq_true rfl) (Nat.le_of_ble_eq_true rfl) fit0 (CallV_of mdX6_refused plX6_refused 0 (Nat.le_of_ble_eq_true rfl) rfl ?_) (fun _ _ h => h)
    intro zp3 zl3 ze3 zs3 zm3 zargs3 zbelow3 zmeth3 zc3 zD3 zad3 zac3 C3 hr3 hk3
    refine mr_aload_n C3 dX6_refused_0 rfl (i := 0) rfl ?_
    refine mr_iconst (v := 0) C3 dX6_refused_1 (by decide) ?_
    refine mr_putI C3 dX6_refused_2 fl_X6_61 (Nat.le_of_ble_eq_true rfl) rfl rfl rfl rfl ?_
    refine mr_iload_n C3 dX6_refused_5 rfl (i := 1) rfl ?_
    refine mr_iret C3 hr3 hk3 dX6_refused_6 (qI_mk ?_)
    refine mr_iret C0 hr0 hk0 dX6_hill_177 (qI_mk ?_)
    exact h
  · have h := h.2 c1
    refine mr_aload_n C0 dX6_hill_139 rfl (i := 0) rfl ?_
    refine mr_getR C0 dX6_hill_140 fl_X6_13 (Nat.le_of_ble_eq_true rfl) rfl rfl ?_
    refine mr_iload C0 dX6_hill_143 rfl ?_
    refine mr_aload_n C0 dX6_hill_145 rfl (i := 0) rfl ?_
    refine mr_getR C0 dX6_hill_146 fl_X6_19 (Nat.le_of_ble_eq_true rfl) rfl rfl ?_
    refine mr_iload C0 dX6_hill_149 rfl ?_
    have g2 := h.1
    have h := h.2
    refine mr_iald C0 dX6_hill_151 (Nat.le_of_ble_eq_true rfl) rfl g2 ?_
    have g3 := h.1
    have h := h.2
    refine mr_iast C0 dX6_hill_152 (Nat.le_of_ble_eq_true rfl) rfl g3 ?_
    refine mr_iinc (v := (x6 + 1)) (L1 := [some (.ref 34), none, none, none, none, none, some (.int (x6 + 1))]) C0 dX6_hill_153 rfl rfl (Nat.le_of_ble_eq_true rfl) rfl ?_
    refine mr_goto C0 dX6_hill_156 (tgt := 130) (by decide) ?_
    exact h zp0 zl0 ze0 zs0 zm0 zargs0 zbelow0 zmeth0 zc0 zD0 zad0 zac0 C0 hr0 hk0
set_option maxRecDepth 100000 in
set_option maxHeartbeats 4000000 in
theorem eX6_sign (x1 : Int32) (S : St) (Q : Int32 → St → Prop) (h : ((x1.toInt64 < (0 : Int64) → Q (-1 : Int32) S) ∧ (¬ x1.toInt64 < (0 : Int64) → (((((S.1 34 1) * (S.1 34 2)).toInt64 - (1 : Int64)) < x1.toInt64 → Q (-1 : Int32) S) ∧ (¬ (((S.1 34 1) * (S.1 34 2)).toInt64 - (1 : Int64)) < x1.toInt64 → (vp_in x1 30) ∧ Q (S.1 36 x1.toNatClampNeg) S))))) : CallV mdX6_sign [.ref 34, .int x1] S (qI Q) := by
  refine CallV_of mdX6_sign plX6_sign 0 (Nat.le_of_ble_eq_true rfl) rfl ?_
  intro zp0 zl0 ze0 zs0 zm0 zargs0 zbelow0 zmeth0 zc0 zD0 zad0 zac0 C0 hr0 hk0
  refine mr_aload_n C0 dX6_sign_0 rfl (i := 0) rfl ?_
  refine mr_iload_n C0 dX6_sign_1 rfl (i := 1) rfl ?_
  refine mr_callVI C0 mdX6_noCell dX6_sign_2 clX6_noCell ml_X6_141 (Nat.le_of_ble_eq_true rfl) rfl rfl arX6_noCell (as := [.int x1]) rfl (Nat.le_of_ble_eq_true rfl) (Nat.le_of_ble_eq_true rfl) (Nat.le_of_ble_eq_true rfl) fit0 (CallV_of mdX6_noCell plX6_noCell 0 (Nat.le_of_ble_eq_true rfl) rfl ?_) (fun _ _ h => h)
  intro zp1 zl1 ze1 zs1 zm1 zargs1 zbelow1 zmeth1 zc1 zD1 zad1 zac1 C1 hr1 hk1
  refine mr_iload_n C1 dX6_noCell_0 rfl (i := 1) rfl ?_
  refine mr_i2l C1 dX6_noCell_1 ?_
  refine mr_lconst (v := 0) C1 dX6_noCell_2 (by decide) ?_
  refine mr_aload_n C1 dX6_noCell_3 rfl (i := 0) rfl ?_
  refine mr_callVI C1 mdX6_cells dX6_noCell_4 clX6_cells ml_X6_75 (Nat.le_of_ble_eq_true rfl) rfl rfl arX6_cells (as := []) rfl (Nat.le_of_ble_eq_true rfl) (Nat.le_of_ble_eq_true rfl) (Nat.le_of_ble_eq_true rfl) fit0 (CallV_of mdX6_cells plX6_cells 0 (Nat.le_of_ble_eq_true rfl) rfl ?_) (fun _ _ h => h)
  intro zp2 zl2 ze2 zs2 zm2 zargs2 zbelow2 zmeth2 zc2 zD2 zad2 zac2 C2 hr2 hk2
  refine mr_aload_n C2 dX6_cells_0 rfl (i := 0) rfl ?_
  refine mr_getI C2 dX6_cells_1 fl_X6_69 (Nat.le_of_ble_eq_true rfl) rfl rfl ?_
  refine mr_aload_n C2 dX6_cells_4 rfl (i := 0) rfl ?_
  refine mr_getI C2 dX6_cells_5 fl_X6_72 (Nat.le_of_ble_eq_true rfl) rfl rfl ?_
  refine mr_imul C2 dX6_cells_8 ?_
  refine mr_iret C2 hr2 hk2 dX6_cells_9 (qI_mk ?_)
  refine mr_i2l C1 dX6_noCell_7 ?_
  refine mr_lconst (v := 1) C1 dX6_noCell_8 (by decide) ?_
  refine mr_lsub C1 dX6_noCell_9 ?_
  refine mr_callSI C1 mdX6_in dX6_noCell_10 clX6_in ml_X6_79 arX6_in (as := [.long x1.toInt64, .long (0 : Int64), .long (((S.1 34 1) * (S.1 34 2)).toInt64 - (1 : Int64))]) rfl (Nat.le_of_ble_eq_true rfl) (Nat.le_of_ble_eq_true rfl) (Nat.le_of_ble_eq_true rfl) fit0 (CallV_of mdX6_in plX6_in 0 (Nat.le_of_ble_eq_true rfl) rfl ?_) (fun _ _ h => h)
  intro zp3 zl3 ze3 zs3 zm3 zargs3 zbelow3 zmeth3 zc3 zD3 zad3 zac3 C3 hr3 hk3
  refine mr_lload_n C3 dX6_in_0 rfl (i := 0) rfl ?_
  refine mr_lload_n C3 dX6_in_1 rfl (i := 2) rfl ?_
  refine mr_lcmp_lt C3 dX6_in_2 dX6_in_3 (tgt := 17) (by decide) (fun c1 => ?_) (fun c1 => ?_)
  · have h := h.1 c1
    refine mr_iconst (v := 0) C3 dX6_in_17 (by decide) ?_
    refine mr_zret C3 hr3 hk3 dX6_in_18 rfl (qI_mk ?_)
    refine mr_if_ne C1 dX6_noCell_13 (tgt := 20) (by decide) (fun q => absurd q (by decide)) (fun _ => ?_)
    refine mr_iconst (v := 1) C1 dX6_noCell_16 (by decide) ?_
    refine mr_goto C1 dX6_noCell_17 (tgt := 21) (by decide) ?_
    refine mr_zret C1 hr1 hk1 dX6_noCell_21 rfl (qI_mk ?_)
    refine mr_if_eq C0 dX6_sign_5 (tgt := 12) (by decide) (fun q => absurd q (by decide)) (fun _ => ?_)
    refine mr_iconst (v := (-1)) C0 dX6_sign_8 (by decide) ?_
    refine mr_goto C0 dX6_sign_9 (tgt := 18) (by decide) ?_
    refine mr_iret C0 hr0 hk0 dX6_sign_18 (qI_mk ?_)
    exact h
  · have h := h.2 c1
    refine mr_lload_n C3 dX6_in_6 rfl (i := 0) rfl ?_
    refine mr_lload C3 dX6_in_7 rfl ?_
    refine mr_lcmp_gt C3 dX6_in_9 dX6_in_10 (tgt := 17) (by decide) (fun c2 => ?_) (fun c2 => ?_)
    · have h := h.1 c2
      refine mr_iconst (v := 0) C3 dX6_in_17 (by decide) ?_
      refine mr_zret C3 hr3 hk3 dX6_in_18 rfl (qI_mk ?_)
      refine mr_if_ne C1 dX6_noCell_13 (tgt := 20) (by decide) (fun q => absurd q (by decide)) (fun _ => ?_)
      refine mr_iconst (v := 1) C1 dX6_noCell_16 (by decide) ?_
      refine mr_goto C1 dX6_noCell_17 (tgt := 21) (by decide) ?_
      refine mr_zret C1 hr1 hk1 dX6_noCell_21 rfl (qI_mk ?_)
      refine mr_if_eq C0 dX6_sign_5 (tgt := 12) (by decide) (fun q => absurd q (by decide)) (fun _ => ?_)
      refine mr_iconst (v := (-1)) C0 dX6_sign_8 (by decide) ?_
      refine mr_goto C0 dX6_sign_9 (tgt := 18) (by decide) ?_
      refine mr_iret C0 hr0 hk0 dX6_sign_18 (qI_mk ?_)
      exact h
    · have h := h.2 c2
      refine mr_iconst (v := 1) C3 dX6_in_13 (by decide) ?_
      refine mr_goto C3 dX6_in_14 (tgt := 18) (by decide) ?_
      refine mr_zret C3 hr3 hk3 dX6_in_18 rfl (qI_mk ?_)
      refine mr_if_ne C1 dX6_noCell_13 (tgt := 20) (by decide) (fun _ => ?_) (fun q => absurd q (by decide))
      refine mr_iconst (v := 0) C1 dX6_noCell_20 (by decide) ?_
      refine mr_zret C1 hr1 hk1 dX6_noCell_21 rfl (qI_mk ?_)
      refine mr_if_eq C0 dX6_sign_5 (tgt := 12) (by decide) (fun _ => ?_) (fun q => absurd q (by decide))
      refine mr_aload_n C0 dX6_sign_12 rfl (i := 0) rfl ?_
      refine mr_getR C0 dX6_sign_13 fl_X6_13 (Nat.le_of_ble_eq_true rfl) rfl rfl ?_
      refine mr_iload_n C0 dX6_sign_16 rfl (i := 1) rfl ?_
      have g3 := h.1
      have h := h.2
      refine mr_iald C0 dX6_sign_17 (Nat.le_of_ble_eq_true rfl) rfl g3 ?_
      refine mr_iret C0 hr0 hk0 dX6_sign_18 (qI_mk ?_)
      exact h
set_option maxRecDepth 100000 in
set_option maxHeartbeats 4000000 in
theorem eX6_set (x1 : Int32) (x2 : Int32) (S : St) (Q : Int32 → St → Prop) (h : ((x1.toInt64 < (0 : Int64) → Q (-1 : Int32) S) ∧ (¬ x1.toInt64 < (0 : Int64) → (((((S.1 34 1) * (S.1 34 2)).toInt64 - (1 : Int64)) < x1.toInt64 → Q (-1 : Int32) S) ∧ (¬ (((S.1 34 1) * (S.1 34 2)).toInt64 - (1 : Int64)) < x1.toInt64 → ((x2.toInt64 < (0 : Int64) → Q (-2 : Int32) S) ∧ (¬ x2.toInt64 < (0 : Int64) → (((4 : Int64) < x2.toInt64 → Q (-2 : Int32) S) ∧ (¬ (4 : Int64) < x2.toInt64 → (vp_in x1 30) ∧ (vp_in x1 30) ∧ Q (S.1 36 x1.toNatClampNeg) (sI S 36 x1.toNatClampNeg x2)))))))))) : CallV mdX6_set [.ref 34, .int x1, .int x2] S (qI Q) := by
  refine CallV_of mdX6_set plX6_set 1 (Nat.le_of_ble_eq_true rfl) rfl ?_
  intro zp0 zl0 ze0 zs0 zm0 zargs0 zbelow0 zmeth0 zc0 zD0 zad0 zac0 C0 hr0 hk0
  refine mr_aload_n C0 dX6_set_0 rfl (i := 0) rfl ?_
  refine mr_iload_n C0 dX6_set_1 rfl (i := 1) rfl ?_
  refine mr_callVI C0 mdX6_noCell dX6_set_2 clX6_noCell ml_X6_141 (Nat.le_of_ble_eq_true rfl) rfl rfl arX6_noCell (as := [.int x1]) rfl (Nat.le_of_ble_eq_true rfl) (Nat.le_of_ble_eq_true rfl) (Nat.le_of_ble_eq_true rfl) fit0 (CallV_of mdX6_noCell plX6_noCell 0 (Nat.le_of_ble_eq_true rfl) rfl ?_) (fun _ _ h => h)
  intro zp1 zl1 ze1 zs1 zm1 zargs1 zbelow1 zmeth1 zc1 zD1 zad1 zac1 C1 hr1 hk1
  refine mr_iload_n C1 dX6_noCell_0 rfl (i := 1) rfl ?_
  refine mr_i2l C1 dX6_noCell_1 ?_
  refine mr_lconst (v := 0) C1 dX6_noCell_2 (by decide) ?_
  refine mr_aload_n C1 dX6_noCell_3 rfl (i := 0) rfl ?_
  refine mr_callVI C1 mdX6_cells dX6_noCell_4 clX6_cells ml_X6_75 (Nat.le_of_ble_eq_true rfl) rfl rfl arX6_cells (as := []) rfl (Nat.le_of_ble_eq_true rfl) (Nat.le_of_ble_eq_true rfl) (Nat.le_of_ble_eq_true rfl) fit0 (CallV_of mdX6_cells plX6_cells 0 (Nat.le_of_ble_eq_true rfl) rfl ?_) (fun _ _ h => h)
  intro zp2 zl2 ze2 zs2 zm2 zargs2 zbelow2 zmeth2 zc2 zD2 zad2 zac2 C2 hr2 hk2
  refine mr_aload_n C2 dX6_cells_0 rfl (i := 0) rfl ?_
  refine mr_getI C2 dX6_cells_1 fl_X6_69 (Nat.le_of_ble_eq_true rfl) rfl rfl ?_
  refine mr_aload_n C2 dX6_cells_4 rfl (i := 0) rfl ?_
  refine mr_getI C2 dX6_cells_5 fl_X6_72 (Nat.le_of_ble_eq_true rfl) rfl rfl ?_
  refine mr_imul C2 dX6_cells_8 ?_
  refine mr_iret C2 hr2 hk2 dX6_cells_9 (qI_mk ?_)
  refine mr_i2l C1 dX6_noCell_7 ?_
  refine mr_lconst (v := 1) C1 dX6_noCell_8 (by decide) ?_
  refine mr_lsub C1 dX6_noCell_9 ?_
  refine mr_callSI C1 mdX6_in dX6_noCell_10 clX6_in ml_X6_79 arX6_in (as := [.long x1.toInt64, .long (0 : Int64), .long (((S.1 34 1) * (S.1 34 2)).toInt64 - (1 : Int64))]) rfl (Nat.le_of_ble_eq_true rfl) (Nat.le_of_ble_eq_true rfl) (Nat.le_of_ble_eq_true rfl) fit0 (CallV_of mdX6_in plX6_in 0 (Nat.le_of_ble_eq_true rfl) rfl ?_) (fun _ _ h => h)
  intro zp3 zl3 ze3 zs3 zm3 zargs3 zbelow3 zmeth3 zc3 zD3 zad3 zac3 C3 hr3 hk3
  refine mr_lload_n C3 dX6_in_0 rfl (i := 0) rfl ?_
  refine mr_lload_n C3 dX6_in_1 rfl (i := 2) rfl ?_
  refine mr_lcmp_lt C3 dX6_in_2 dX6_in_3 (tgt := 17) (by decide) (fun c1 => ?_) (fun c1 => ?_)
  · have h := h.1 c1
    refine mr_iconst (v := 0) C3 dX6_in_17 (by decide) ?_
    refine mr_zret C3 hr3 hk3 dX6_in_18 rfl (qI_mk ?_)
    refine mr_if_ne C1 dX6_noCell_13 (tgt := 20) (by decide) (fun q => absurd q (by decide)) (fun _ => ?_)
    refine mr_iconst (v := 1) C1 dX6_noCell_16 (by decide) ?_
    refine mr_goto C1 dX6_noCell_17 (tgt := 21) (by decide) ?_
    refine mr_zret C1 hr1 hk1 dX6_noCell_21 rfl (qI_mk ?_)
    refine mr_if_eq C0 dX6_set_5 (tgt := 10) (by decide) (fun q => absurd q (by decide)) (fun _ => ?_)
    refine mr_iconst (v := (-1)) C0 dX6_set_8 (by decide) ?_
    refine mr_iret C0 hr0 hk0 dX6_set_9 (qI_mk ?_)
    exact h
  · have h := h.2 c1
    refine mr_lload_n C3 dX6_in_6 rfl (i := 0) rfl ?_
    refine mr_lload C3 dX6_in_7 rfl ?_
    refine mr_lcmp_gt C3 dX6_in_9 dX6_in_10 (tgt := 17) (by decide) (fun c2 => ?_) (fun c2 => ?_)
    · have h := h.1 c2
      refine mr_iconst (v := 0) C3 dX6_in_17 (by decide) ?_
      refine mr_zret C3 hr3 hk3 dX6_in_18 rfl (qI_mk ?_)
      refine mr_if_ne C1 dX6_noCell_13 (tgt := 20) (by decide) (fun q => absurd q (by decide)) (fun _ => ?_)
      refine mr_iconst (v := 1) C1 dX6_noCell_16 (by decide) ?_
      refine mr_goto C1 dX6_noCell_17 (tgt := 21) (by decide) ?_
      refine mr_zret C1 hr1 hk1 dX6_noCell_21 rfl (qI_mk ?_)
      refine mr_if_eq C0 dX6_set_5 (tgt := 10) (by decide) (fun q => absurd q (by decide)) (fun _ => ?_)
      refine mr_iconst (v := (-1)) C0 dX6_set_8 (by decide) ?_
      refine mr_iret C0 hr0 hk0 dX6_set_9 (qI_mk ?_)
      exact h
    · have h := h.2 c2
      refine mr_iconst (v := 1) C3 dX6_in_13 (by decide) ?_
      refine mr_goto C3 dX6_in_14 (tgt := 18) (by decide) ?_
      refine mr_zret C3 hr3 hk3 dX6_in_18 rfl (qI_mk ?_)
      refine mr_if_ne C1 dX6_noCell_13 (tgt := 20) (by decide) (fun _ => ?_) (fun q => absurd q (by decide))
      refine mr_iconst (v := 0) C1 dX6_noCell_20 (by decide) ?_
      refine mr_zret C1 hr1 hk1 dX6_noCell_21 rfl (qI_mk ?_)
      refine mr_if_eq C0 dX6_set_5 (tgt := 10) (by decide) (fun _ => ?_) (fun q => absurd q (by decide))
      refine mr_iload_n C0 dX6_set_10 rfl (i := 2) rfl ?_
      refine mr_i2l C0 dX6_set_11 ?_
      refine mr_lconst (v := 0) C0 dX6_set_12 (by decide) ?_
      refine mr_ldc2 C0 dX6_set_13 cn_X6_144 ?_
      refine mr_callSI C0 mdX6_in dX6_set_16 clX6_in ml_X6_79 arX6_in (as := [.long x2.toInt64, .long (0 : Int64), .long (4 : Int64)]) rfl (Nat.le_of_ble_eq_true rfl) (Nat.le_of_ble_eq_true rfl) (Nat.le_of_ble_eq_true rfl) fit0 (CallV_of mdX6_in plX6_in 0 (Nat.le_of_ble_eq_true rfl) rfl ?_) (fun _ _ h => h)
      intro zp4 zl4 ze4 zs4 zm4 zargs4 zbelow4 zmeth4 zc4 zD4 zad4 zac4 C4 hr4 hk4
      refine mr_lload_n C4 dX6_in_0 rfl (i := 0) rfl ?_
      refine mr_lload_n C4 dX6_in_1 rfl (i := 2) rfl ?_
      refine mr_lcmp_lt C4 dX6_in_2 dX6_in_3 (tgt := 17) (by decide) (fun c3 => ?_) (fun c3 => ?_)
      · have h := h.1 c3
        refine mr_iconst (v := 0) C4 dX6_in_17 (by decide) ?_
        refine mr_zret C4 hr4 hk4 dX6_in_18 rfl (qI_mk ?_)
        refine mr_if_ne C0 dX6_set_19 (tgt := 25) (by decide) (fun q => absurd q (by decide)) (fun _ => ?_)
        refine mr_bipush (v := (-2)) C0 dX6_set_22 (by decide) ?_
        refine mr_iret C0 hr0 hk0 dX6_set_24 (qI_mk ?_)
        exact h
      · have h := h.2 c3
        refine mr_lload_n C4 dX6_in_6 rfl (i := 0) rfl ?_
        refine mr_lload C4 dX6_in_7 rfl ?_
        refine mr_lcmp_gt C4 dX6_in_9 dX6_in_10 (tgt := 17) (by decide) (fun c4 => ?_) (fun c4 => ?_)
        · have h := h.1 c4
          refine mr_iconst (v := 0) C4 dX6_in_17 (by decide) ?_
          refine mr_zret C4 hr4 hk4 dX6_in_18 rfl (qI_mk ?_)
          refine mr_if_ne C0 dX6_set_19 (tgt := 25) (by decide) (fun q => absurd q (by decide)) (fun _ => ?_)
          refine mr_bipush (v := (-2)) C0 dX6_set_22 (by decide) ?_
          refine mr_iret C0 hr0 hk0 dX6_set_24 (qI_mk ?_)
          exact h
        · have h := h.2 c4
          refine mr_iconst (v := 1) C4 dX6_in_13 (by decide) ?_
          refine mr_goto C4 dX6_in_14 (tgt := 18) (by decide) ?_
          refine mr_zret C4 hr4 hk4 dX6_in_18 rfl (qI_mk ?_)
          refine mr_if_ne C0 dX6_set_19 (tgt := 25) (by decide) (fun _ => ?_) (fun q => absurd q (by decide))
          refine mr_aload_n C0 dX6_set_25 rfl (i := 0) rfl ?_
          refine mr_getR C0 dX6_set_26 fl_X6_13 (Nat.le_of_ble_eq_true rfl) rfl rfl ?_
          refine mr_iload_n C0 dX6_set_29 rfl (i := 1) rfl ?_
          have g5 := h.1
          have h := h.2
          refine mr_iald C0 dX6_set_30 (Nat.le_of_ble_eq_true rfl) rfl g5 ?_
          refine mr_istore_n (L1 := [some (.ref 34), some (.int x1), some (.int x2), some (.int (S.1 36 x1.toNatClampNeg))]) C0 dX6_set_31 rfl (Nat.le_of_ble_eq_true rfl) rfl ?_
          refine mr_aload_n C0 dX6_set_32 rfl (i := 0) rfl ?_
          refine mr_getR C0 dX6_set_33 fl_X6_13 (Nat.le_of_ble_eq_true rfl) rfl rfl ?_
          refine mr_iload_n C0 dX6_set_36 rfl (i := 1) rfl ?_
          refine mr_iload_n C0 dX6_set_37 rfl (i := 2) rfl ?_
          have g6 := h.1
          have h := h.2
          refine mr_iast C0 dX6_set_38 (Nat.le_of_ble_eq_true rfl) rfl g6 ?_
          refine mr_iload_n C0 dX6_set_39 rfl (i := 3) rfl ?_
          refine mr_iret C0 hr0 hk0 dX6_set_40 (qI_mk ?_)
          exact h
set_option maxRecDepth 100000 in
set_option maxHeartbeats 4000000 in
theorem eX6_party (x1 : Int32) (S : St) (Q : Int32 → St → Prop) (h : ((x1.toInt64 < (0 : Int64) → Q (-1 : Int32) S) ∧ (¬ x1.toInt64 < (0 : Int64) → ((((S.1 34 2).toInt64 - (1 : Int64)) < x1.toInt64 → Q (-1 : Int32) S) ∧ (¬ ((S.1 34 2).toInt64 - (1 : Int64)) < x1.toInt64 → (vp_in x1 6) ∧ Q (S.1 35 x1.toNatClampNeg) S))))) : CallV mdX6_party [.ref 34, .int x1] S (qI Q) := by
  refine CallV_of mdX6_party plX6_party 0 (Nat.le_of_ble_eq_true rfl) rfl ?_
  intro zp0 zl0 ze0 zs0 zm0 zargs0 zbelow0 zmeth0 zc0 zD0 zad0 zac0 C0 hr0 hk0
  refine mr_aload_n C0 dX6_party_0 rfl (i := 0) rfl ?_
  refine mr_iload_n C0 dX6_party_1 rfl (i := 1) rfl ?_
  refine mr_callVI C0 mdX6_noColumn dX6_party_2 clX6_noColumn ml_X6_146 (Nat.le_of_ble_eq_true rfl) rfl rfl arX6_noColumn (as := [.int x1]) rfl (Nat.le_of_ble_eq_true rfl) (Nat.le_of_ble_eq_true rfl) (Nat.le_of_ble_eq_true rfl) fit0 (CallV_of mdX6_noColumn plX6_noColumn 0 (Nat.le_of_ble_eq_true rfl) rfl ?_) (fun _ _ h => h)
  intro zp1 zl1 ze1 zs1 zm1 zargs1 zbelow1 zmeth1 zc1 zD1 zad1 zac1 C1 hr1 hk1
  refine mr_iload_n C1 dX6_noColumn_0 rfl (i := 1) rfl ?_
  refine mr_i2l C1 dX6_noColumn_1 ?_
  refine mr_lconst (v := 0) C1 dX6_noColumn_2 (by decide) ?_
  refine mr_aload_n C1 dX6_noColumn_3 rfl (i := 0) rfl ?_
  refine mr_getI C1 dX6_noColumn_4 fl_X6_72 (Nat.le_of_ble_eq_true rfl) rfl rfl ?_
  refine mr_i2l C1 dX6_noColumn_7 ?_
  refine mr_lconst (v := 1) C1 dX6_noColumn_8 (by decide) ?_
  refine mr_lsub C1 dX6_noColumn_9 ?_
  refine mr_callSI C1 mdX6_in dX6_noColumn_10 clX6_in ml_X6_79 arX6_in (as := [.long x1.toInt64, .long (0 : Int64), .long ((S.1 34 2).toInt64 - (1 : Int64))]) rfl (Nat.le_of_ble_eq_true rfl) (Nat.le_of_ble_eq_true rfl) (Nat.le_of_ble_eq_true rfl) fit0 (CallV_of mdX6_in plX6_in 0 (Nat.le_of_ble_eq_true rfl) rfl ?_) (fun _ _ h => h)
  intro zp2 zl2 ze2 zs2 zm2 zargs2 zbelow2 zmeth2 zc2 zD2 zad2 zac2 C2 hr2 hk2
  refine mr_lload_n C2 dX6_in_0 rfl (i := 0) rfl ?_
  refine mr_lload_n C2 dX6_in_1 rfl (i := 2) rfl ?_
  refine mr_lcmp_lt C2 dX6_in_2 dX6_in_3 (tgt := 17) (by decide) (fun c1 => ?_) (fun c1 => ?_)
  · have h := h.1 c1
    refine mr_iconst (v := 0) C2 dX6_in_17 (by decide) ?_
    refine mr_zret C2 hr2 hk2 dX6_in_18 rfl (qI_mk ?_)
    refine mr_if_ne C1 dX6_noColumn_13 (tgt := 20) (by decide) (fun q => absurd q (by decide)) (fun _ => ?_)
    refine mr_iconst (v := 1) C1 dX6_noColumn_16 (by decide) ?_
    refine mr_goto C1 dX6_noColumn_17 (tgt := 21) (by decide) ?_
    refine mr_zret C1 hr1 hk1 dX6_noColumn_21 rfl (qI_mk ?_)
    refine mr_if_eq C0 dX6_party_5 (tgt := 12) (by decide) (fun q => absurd q (by decide)) (fun _ => ?_)
    refine mr_iconst (v := (-1)) C0 dX6_party_8 (by decide) ?_
    refine mr_goto C0 dX6_party_9 (tgt := 18) (by decide) ?_
    refine mr_iret C0 hr0 hk0 dX6_party_18 (qI_mk ?_)
    exact h
  · have h := h.2 c1
    refine mr_lload_n C2 dX6_in_6 rfl (i := 0) rfl ?_
    refine mr_lload C2 dX6_in_7 rfl ?_
    refine mr_lcmp_gt C2 dX6_in_9 dX6_in_10 (tgt := 17) (by decide) (fun c2 => ?_) (fun c2 => ?_)
    · have h := h.1 c2
      refine mr_iconst (v := 0) C2 dX6_in_17 (by decide) ?_
      refine mr_zret C2 hr2 hk2 dX6_in_18 rfl (qI_mk ?_)
      refine mr_if_ne C1 dX6_noColumn_13 (tgt := 20) (by decide) (fun q => absurd q (by decide)) (fun _ => ?_)
      refine mr_iconst (v := 1) C1 dX6_noColumn_16 (by decide) ?_
      refine mr_goto C1 dX6_noColumn_17 (tgt := 21) (by decide) ?_
      refine mr_zret C1 hr1 hk1 dX6_noColumn_21 rfl (qI_mk ?_)
      refine mr_if_eq C0 dX6_party_5 (tgt := 12) (by decide) (fun q => absurd q (by decide)) (fun _ => ?_)
      refine mr_iconst (v := (-1)) C0 dX6_party_8 (by decide) ?_
      refine mr_goto C0 dX6_party_9 (tgt := 18) (by decide) ?_
      refine mr_iret C0 hr0 hk0 dX6_party_18 (qI_mk ?_)
      exact h
    · have h := h.2 c2
      refine mr_iconst (v := 1) C2 dX6_in_13 (by decide) ?_
      refine mr_goto C2 dX6_in_14 (tgt := 18) (by decide) ?_
      refine mr_zret C2 hr2 hk2 dX6_in_18 rfl (qI_mk ?_)
      refine mr_if_ne C1 dX6_noColumn_13 (tgt := 20) (by decide) (fun _ => ?_) (fun q => absurd q (by decide))
      refine mr_iconst (v := 0) C1 dX6_noColumn_20 (by decide) ?_
      refine mr_zret C1 hr1 hk1 dX6_noColumn_21 rfl (qI_mk ?_)
      refine mr_if_eq C0 dX6_party_5 (tgt := 12) (by decide) (fun _ => ?_) (fun q => absurd q (by decide))
      refine mr_aload_n C0 dX6_party_12 rfl (i := 0) rfl ?_
      refine mr_getR C0 dX6_party_13 fl_X6_7 (Nat.le_of_ble_eq_true rfl) rfl rfl ?_
      refine mr_iload_n C0 dX6_party_16 rfl (i := 1) rfl ?_
      have g3 := h.1
      have h := h.2
      refine mr_iald C0 dX6_party_17 (Nat.le_of_ble_eq_true rfl) rfl g3 ?_
      refine mr_iret C0 hr0 hk0 dX6_party_18 (qI_mk ?_)
      exact h
set_option maxRecDepth 100000 in
set_option maxHeartbeats 4000000 in
theorem eX6_wet (x1 : Int32) (S : St) (Q : Int32 → St → Prop) (h : ((¬ (S.1 34 1) = 0 → (isB x1) ∧ ((¬ (S.1 34 5) = x1 → Q (1 : Int32) (sI S 34 5 x1)) ∧ ((S.1 34 5) = x1 → Q (0 : Int32) (sI S 34 5 x1)))) ∧ ((S.1 34 1) = 0 → Q (-3 : Int32) S))) : CallV mdX6_wet [.ref 34, .int x1] S (qI Q) := by
  refine CallV_of mdX6_wet plX6_wet 1 (Nat.le_of_ble_eq_true rfl) rfl ?_
  intro zp0 zl0 ze0 zs0 zm0 zargs0 zbelow0 zmeth0 zc0 zD0 zad0 zac0 C0 hr0 hk0
  refine mr_aload_n C0 dX6_wet_0 rfl (i := 0) rfl ?_
  refine mr_getI C0 dX6_wet_1 fl_X6_69 (Nat.le_of_ble_eq_true rfl) rfl rfl ?_
  refine mr_if_ne C0 dX6_wet_4 (tgt := 10) (by decide) (fun c1 => ?_) (fun c1 => ?_)
  · have h := h.1 c1
    refine mr_aload_n C0 dX6_wet_10 rfl (i := 0) rfl ?_
    refine mr_getI C0 dX6_wet_11 fl_X6_134 (Nat.le_of_ble_eq_true rfl) rfl rfl ?_
    refine mr_istore_n (L1 := [some (.ref 34), some (.int x1), some (.int (S.1 34 5))]) C0 dX6_wet_14 rfl (Nat.le_of_ble_eq_true rfl) rfl ?_
    refine mr_aload_n C0 dX6_wet_15 rfl (i := 0) rfl ?_
    refine mr_iload_n C0 dX6_wet_16 rfl (i := 1) rfl ?_
    have g := h.1
    have h := h.2
    refine mr_putI C0 dX6_wet_17 fl_X6_134 (Nat.le_of_ble_eq_true rfl) rfl rfl (isB_n g) (isB_f g) ?_
    refine mr_iload_n C0 dX6_wet_20 rfl (i := 2) rfl ?_
    refine mr_iload_n C0 dX6_wet_21 rfl (i := 1) rfl ?_
    refine mr_icmp_ne C0 dX6_wet_22 (tgt := 29) (by decide) (fun c2 => ?_) (fun c2 => ?_)
    · have h := h.1 c2
      refine mr_iconst (v := 1) C0 dX6_wet_29 (by decide) ?_
      refine mr_iret C0 hr0 hk0 dX6_wet_30 (qI_mk ?_)
      exact h
    · have h := h.2 c2
      refine mr_iconst (v := 0) C0 dX6_wet_25 (by decide) ?_
      refine mr_goto C0 dX6_wet_26 (tgt := 30) (by decide) ?_
      refine mr_iret C0 hr0 hk0 dX6_wet_30 (qI_mk ?_)
      exact h
  · have h := h.2 c1
    refine mr_bipush (v := (-3)) C0 dX6_wet_7 (by decide) ?_
    refine mr_iret C0 hr0 hk0 dX6_wet_9 (qI_mk ?_)
    exact h
set_option maxRecDepth 100000 in
set_option maxHeartbeats 4000000 in
theorem eX6_noVote (x1 : Int32) (S : St) (Q : Int32 → St → Prop) (h : ((x1.toInt64 < (0 : Int64) → Q (1 : Int32) S) ∧ (¬ x1.toInt64 < (0 : Int64) → ((((S.1 34 11).toInt64 - (1 : Int64)) < x1.toInt64 → Q (1 : Int32) S) ∧ (¬ ((S.1 34 11).toInt64 - (1 : Int64)) < x1.toInt64 → Q (0 : Int32) S))))) : CallV mdX6_noVote [.ref 34, .int x1] S (qI Q) := by
  refine CallV_of mdX6_noVote plX6_noVote 0 (Nat.le_of_ble_eq_true rfl) rfl ?_
  intro zp0 zl0 ze0 zs0 zm0 zargs0 zbelow0 zmeth0 zc0 zD0 zad0 zac0 C0 hr0 hk0
  refine mr_iload_n C0 dX6_noVote_0 rfl (i := 1) rfl ?_
  refine mr_i2l C0 dX6_noVote_1 ?_
  refine mr_lconst (v := 0) C0 dX6_noVote_2 (by decide) ?_
  refine mr_aload_n C0 dX6_noVote_3 rfl (i := 0) rfl ?_
  refine mr_getI C0 dX6_noVote_4 fl_X6_138 (Nat.le_of_ble_eq_true rfl) rfl rfl ?_
  refine mr_i2l C0 dX6_noVote_7 ?_
  refine mr_lconst (v := 1) C0 dX6_noVote_8 (by decide) ?_
  refine mr_lsub C0 dX6_noVote_9 ?_
  refine mr_callSI C0 mdX6_in dX6_noVote_10 clX6_in ml_X6_79 arX6_in (as := [.long x1.toInt64, .long (0 : Int64), .long ((S.1 34 11).toInt64 - (1 : Int64))]) rfl (Nat.le_of_ble_eq_true rfl) (Nat.le_of_ble_eq_true rfl) (Nat.le_of_ble_eq_true rfl) fit0 (CallV_of mdX6_in plX6_in 0 (Nat.le_of_ble_eq_true rfl) rfl ?_) (fun _ _ h => h)
  intro zp1 zl1 ze1 zs1 zm1 zargs1 zbelow1 zmeth1 zc1 zD1 zad1 zac1 C1 hr1 hk1
  refine mr_lload_n C1 dX6_in_0 rfl (i := 0) rfl ?_
  refine mr_lload_n C1 dX6_in_1 rfl (i := 2) rfl ?_
  refine mr_lcmp_lt C1 dX6_in_2 dX6_in_3 (tgt := 17) (by decide) (fun c1 => ?_) (fun c1 => ?_)
  · have h := h.1 c1
    refine mr_iconst (v := 0) C1 dX6_in_17 (by decide) ?_
    refine mr_zret C1 hr1 hk1 dX6_in_18 rfl (qI_mk ?_)
    refine mr_if_ne C0 dX6_noVote_13 (tgt := 20) (by decide) (fun q => absurd q (by decide)) (fun _ => ?_)
    refine mr_iconst (v := 1) C0 dX6_noVote_16 (by decide) ?_
    refine mr_goto C0 dX6_noVote_17 (tgt := 21) (by decide) ?_
    refine mr_zret C0 hr0 hk0 dX6_noVote_21 rfl (qI_mk ?_)
    exact h
  · have h := h.2 c1
    refine mr_lload_n C1 dX6_in_6 rfl (i := 0) rfl ?_
    refine mr_lload C1 dX6_in_7 rfl ?_
    refine mr_lcmp_gt C1 dX6_in_9 dX6_in_10 (tgt := 17) (by decide) (fun c2 => ?_) (fun c2 => ?_)
    · have h := h.1 c2
      refine mr_iconst (v := 0) C1 dX6_in_17 (by decide) ?_
      refine mr_zret C1 hr1 hk1 dX6_in_18 rfl (qI_mk ?_)
      refine mr_if_ne C0 dX6_noVote_13 (tgt := 20) (by decide) (fun q => absurd q (by decide)) (fun _ => ?_)
      refine mr_iconst (v := 1) C0 dX6_noVote_16 (by decide) ?_
      refine mr_goto C0 dX6_noVote_17 (tgt := 21) (by decide) ?_
      refine mr_zret C0 hr0 hk0 dX6_noVote_21 rfl (qI_mk ?_)
      exact h
    · have h := h.2 c2
      refine mr_iconst (v := 1) C1 dX6_in_13 (by decide) ?_
      refine mr_goto C1 dX6_in_14 (tgt := 18) (by decide) ?_
      refine mr_zret C1 hr1 hk1 dX6_in_18 rfl (qI_mk ?_)
      refine mr_if_ne C0 dX6_noVote_13 (tgt := 20) (by decide) (fun _ => ?_) (fun q => absurd q (by decide))
      refine mr_iconst (v := 0) C0 dX6_noVote_20 (by decide) ?_
      refine mr_zret C0 hr0 hk0 dX6_noVote_21 rfl (qI_mk ?_)
      exact h
set_option maxRecDepth 100000 in
set_option maxHeartbeats 4000000 in
theorem eX6_vote (x1 : Int32) (x2 : Int32) (S : St) (Q : Int32 → St → Prop) (h : ((x2.toInt64 < (0 : Int64) → Q (-1 : Int32) S) ∧ (¬ x2.toInt64 < (0 : Int64) → ((((S.1 34 2).toInt64 - (1 : Int64)) < x2.toInt64 → Q (-1 : Int32) S) ∧ (¬ ((S.1 34 2).toInt64 - (1 : Int64)) < x2.toInt64 → ((x1.toInt64 < (0 : Int64) → Q (-2 : Int32) S) ∧ (¬ x1.toInt64 < (0 : Int64) → (((2 : Int64) < x1.toInt64 → Q (-2 : Int32) S) ∧ (¬ (2 : Int64) < x1.toInt64 → ((¬ (S.1 34 11) = (8 : Int32) → (vp_in (S.1 34 11) 8) ∧ (vp_in (S.1 34 11) 8) ∧ Q (((S.1 34 11) + (1 : Int32)) - (1 : Int32)) (sI (sI (sI S 39 ((S.1 34 11).toNatClampNeg) x1) 40 ((S.1 34 11).toNatClampNeg) x2) 34 11 ((S.1 34 11) + (1 : Int32)))) ∧ ((S.1 34 11) = (8 : Int32) → Q (-4 : Int32) S))))))))))) : CallV mdX6_vote [.ref 34, .int x1, .int x2] S (qI Q) := by
  refine CallV_of mdX6_vote plX6_vote 0 (Nat.le_of_ble_eq_true rfl) rfl ?_
  intro zp0 zl0 ze0 zs0 zm0 zargs0 zbelow0 zmeth0 zc0 zD0 zad0 zac0 C0 hr0 hk0
  refine mr_aload_n C0 dX6_vote_0 rfl (i := 0) rfl ?_
  refine mr_iload_n C0 dX6_vote_1 rfl (i := 2) rfl ?_
  refine mr_callVI C0 mdX6_noColumn dX6_vote_2 clX6_noColumn ml_X6_146 (Nat.le_of_ble_eq_true rfl) rfl rfl arX6_noColumn (as := [.int x2]) rfl (Nat.le_of_ble_eq_true rfl) (Nat.le_of_ble_eq_true rfl) (Nat.le_of_ble_eq_true rfl) fit0 (CallV_of mdX6_noColumn plX6_noColumn 0 (Nat.le_of_ble_eq_true rfl) rfl ?_) (fun _ _ h => h)
  intro zp1 zl1 ze1 zs1 zm1 zargs1 zbelow1 zmeth1 zc1 zD1 zad1 zac1 C1 hr1 hk1
  refine mr_iload_n C1 dX6_noColumn_0 rfl (i := 1) rfl ?_
  refine mr_i2l C1 dX6_noColumn_1 ?_
  refine mr_lconst (v := 0) C1 dX6_noColumn_2 (by decide) ?_
  refine mr_aload_n C1 dX6_noColumn_3 rfl (i := 0) rfl ?_
  refine mr_getI C1 dX6_noColumn_4 fl_X6_72 (Nat.le_of_ble_eq_true rfl) rfl rfl ?_
  refine mr_i2l C1 dX6_noColumn_7 ?_
  refine mr_lconst (v := 1) C1 dX6_noColumn_8 (by decide) ?_
  refine mr_lsub C1 dX6_noColumn_9 ?_
  refine mr_callSI C1 mdX6_in dX6_noColumn_10 clX6_in ml_X6_79 arX6_in (as := [.long x2.toInt64, .long (0 : Int64), .long ((S.1 34 2).toInt64 - (1 : Int64))]) rfl (Nat.le_of_ble_eq_true rfl) (Nat.le_of_ble_eq_true rfl) (Nat.le_of_ble_eq_true rfl) fit0 (CallV_of mdX6_in plX6_in 0 (Nat.le_of_ble_eq_true rfl) rfl ?_) (fun _ _ h => h)
  intro zp2 zl2 ze2 zs2 zm2 zargs2 zbelow2 zmeth2 zc2 zD2 zad2 zac2 C2 hr2 hk2
  refine mr_lload_n C2 dX6_in_0 rfl (i := 0) rfl ?_
  refine mr_lload_n C2 dX6_in_1 rfl (i := 2) rfl ?_
  refine mr_lcmp_lt C2 dX6_in_2 dX6_in_3 (tgt := 17) (by decide) (fun c1 => ?_) (fun c1 => ?_)
  · have h := h.1 c1
    refine mr_iconst (v := 0) C2 dX6_in_17 (by decide) ?_
    refine mr_zret C2 hr2 hk2 dX6_in_18 rfl (qI_mk ?_)
    refine mr_if_ne C1 dX6_noColumn_13 (tgt := 20) (by decide) (fun q => absurd q (by decide)) (fun _ => ?_)
    refine mr_iconst (v := 1) C1 dX6_noColumn_16 (by decide) ?_
    refine mr_goto C1 dX6_noColumn_17 (tgt := 21) (by decide) ?_
    refine mr_zret C1 hr1 hk1 dX6_noColumn_21 rfl (qI_mk ?_)
    refine mr_if_eq C0 dX6_vote_5 (tgt := 10) (by decide) (fun q => absurd q (by decide)) (fun _ => ?_)
    refine mr_iconst (v := (-1)) C0 dX6_vote_8 (by decide) ?_
    refine mr_iret C0 hr0 hk0 dX6_vote_9 (qI_mk ?_)
    exact h
  · have h := h.2 c1
    refine mr_lload_n C2 dX6_in_6 rfl (i := 0) rfl ?_
    refine mr_lload C2 dX6_in_7 rfl ?_
    refine mr_lcmp_gt C2 dX6_in_9 dX6_in_10 (tgt := 17) (by decide) (fun c2 => ?_) (fun c2 => ?_)
    · have h := h.1 c2
      refine mr_iconst (v := 0) C2 dX6_in_17 (by decide) ?_
      refine mr_zret C2 hr2 hk2 dX6_in_18 rfl (qI_mk ?_)
      refine mr_if_ne C1 dX6_noColumn_13 (tgt := 20) (by decide) (fun q => absurd q (by decide)) (fun _ => ?_)
      refine mr_iconst (v := 1) C1 dX6_noColumn_16 (by decide) ?_
      refine mr_goto C1 dX6_noColumn_17 (tgt := 21) (by decide) ?_
      refine mr_zret C1 hr1 hk1 dX6_noColumn_21 rfl (qI_mk ?_)
      refine mr_if_eq C0 dX6_vote_5 (tgt := 10) (by decide) (fun q => absurd q (by decide)) (fun _ => ?_)
      refine mr_iconst (v := (-1)) C0 dX6_vote_8 (by decide) ?_
      refine mr_iret C0 hr0 hk0 dX6_vote_9 (qI_mk ?_)
      exact h
    · have h := h.2 c2
      refine mr_iconst (v := 1) C2 dX6_in_13 (by decide) ?_
      refine mr_goto C2 dX6_in_14 (tgt := 18) (by decide) ?_
      refine mr_zret C2 hr2 hk2 dX6_in_18 rfl (qI_mk ?_)
      refine mr_if_ne C1 dX6_noColumn_13 (tgt := 20) (by decide) (fun _ => ?_) (fun q => absurd q (by decide))
      refine mr_iconst (v := 0) C1 dX6_noColumn_20 (by decide) ?_
      refine mr_zret C1 hr1 hk1 dX6_noColumn_21 rfl (qI_mk ?_)
      refine mr_if_eq C0 dX6_vote_5 (tgt := 10) (by decide) (fun _ => ?_) (fun q => absurd q (by decide))
      refine mr_iload_n C0 dX6_vote_10 rfl (i := 1) rfl ?_
      refine mr_i2l C0 dX6_vote_11 ?_
      refine mr_lconst (v := 0) C0 dX6_vote_12 (by decide) ?_
      refine mr_ldc2 C0 dX6_vote_13 cn_X6_124 ?_
      refine mr_callSI C0 mdX6_in dX6_vote_16 clX6_in ml_X6_79 arX6_in (as := [.long x1.toInt64, .long (0 : Int64), .long (2 : Int64)]) rfl (Nat.le_of_ble_eq_true rfl) (Nat.le_of_ble_eq_true rfl) (Nat.le_of_ble_eq_true rfl) fit0 (CallV_of mdX6_in plX6_in 0 (Nat.le_of_ble_eq_true rfl) rfl ?_) (fun _ _ h => h)
      intro zp3 zl3 ze3 zs3 zm3 zargs3 zbelow3 zmeth3 zc3 zD3 zad3 zac3 C3 hr3 hk3
      refine mr_lload_n C3 dX6_in_0 rfl (i := 0) rfl ?_
      refine mr_lload_n C3 dX6_in_1 rfl (i := 2) rfl ?_
      refine mr_lcmp_lt C3 dX6_in_2 dX6_in_3 (tgt := 17) (by decide) (fun c3 => ?_) (fun c3 => ?_)
      · have h := h.1 c3
        refine mr_iconst (v := 0) C3 dX6_in_17 (by decide) ?_
        refine mr_zret C3 hr3 hk3 dX6_in_18 rfl (qI_mk ?_)
        refine mr_if_ne C0 dX6_vote_19 (tgt := 25) (by decide) (fun q => absurd q (by decide)) (fun _ => ?_)
        refine mr_bipush (v := (-2)) C0 dX6_vote_22 (by decide) ?_
        refine mr_iret C0 hr0 hk0 dX6_vote_24 (qI_mk ?_)
        exact h
      · have h := h.2 c3
        refine mr_lload_n C3 dX6_in_6 rfl (i := 0) rfl ?_
        refine mr_lload C3 dX6_in_7 rfl ?_
        refine mr_lcmp_gt C3 dX6_in_9 dX6_in_10 (tgt := 17) (by decide) (fun c4 => ?_) (fun c4 => ?_)
        · have h := h.1 c4
          refine mr_iconst (v := 0) C3 dX6_in_17 (by decide) ?_
          refine mr_zret C3 hr3 hk3 dX6_in_18 rfl (qI_mk ?_)
          refine mr_if_ne C0 dX6_vote_19 (tgt := 25) (by decide) (fun q => absurd q (by decide)) (fun _ => ?_)
          refine mr_bipush (v := (-2)) C0 dX6_vote_22 (by decide) ?_
          refine mr_iret C0 hr0 hk0 dX6_vote_24 (qI_mk ?_)
          exact h
        · have h := h.2 c4
          refine mr_iconst (v := 1) C3 dX6_in_13 (by decide) ?_
          refine mr_goto C3 dX6_in_14 (tgt := 18) (by decide) ?_
          refine mr_zret C3 hr3 hk3 dX6_in_18 rfl (qI_mk ?_)
          refine mr_if_ne C0 dX6_vote_19 (tgt := 25) (by decide) (fun _ => ?_) (fun q => absurd q (by decide))
          refine mr_aload_n C0 dX6_vote_25 rfl (i := 0) rfl ?_
          refine mr_getI C0 dX6_vote_26 fl_X6_138 (Nat.le_of_ble_eq_true rfl) rfl rfl ?_
          refine mr_bipush (v := 8) C0 dX6_vote_29 (by decide) ?_
          refine mr_icmp_ne C0 dX6_vote_31 (tgt := 37) (by decide) (fun c5 => ?_) (fun c5 => ?_)
          · have h := h.1 c5
            refine mr_aload_n C0 dX6_vote_37 rfl (i := 0) rfl ?_
            refine mr_getR C0 dX6_vote_38 fl_X6_22 (Nat.le_of_ble_eq_true rfl) rfl rfl ?_
            refine mr_aload_n C0 dX6_vote_41 rfl (i := 0) rfl ?_
            refine mr_getI C0 dX6_vote_42 fl_X6_138 (Nat.le_of_ble_eq_true rfl) rfl rfl ?_
            refine mr_iload_n C0 dX6_vote_45 rfl (i := 1) rfl ?_
            have g6 := h.1
            have h := h.2
            refine mr_iast C0 dX6_vote_46 (Nat.le_of_ble_eq_true rfl) rfl g6 ?_
            refine mr_aload_n C0 dX6_vote_47 rfl (i := 0) rfl ?_
            refine mr_getR C0 dX6_vote_48 fl_X6_25 (Nat.le_of_ble_eq_true rfl) rfl rfl ?_
            refine mr_aload_n C0 dX6_vote_51 rfl (i := 0) rfl ?_
            refine mr_getI C0 dX6_vote_52 fl_X6_138 (Nat.le_of_ble_eq_true rfl) rfl rfl ?_
            refine mr_topI (y := (S.1 34 11)) (by first | rfl | simp [sI, sJ, sF, upd, vp_updL]) ?_
            refine mr_iload_n C0 dX6_vote_55 rfl (i := 2) rfl ?_
            have g7 := h.1
            have h := h.2
            refine mr_iast C0 dX6_vote_56 (Nat.le_of_ble_eq_true rfl) rfl g7 ?_
            refine mr_aload_n C0 dX6_vote_57 rfl (i := 0) rfl ?_
            refine mr_dup C0 dX6_vote_58 rfl ?_
            refine mr_getI C0 dX6_vote_59 fl_X6_138 (Nat.le_of_ble_eq_true rfl) rfl rfl ?_
            refine mr_topI (y := (S.1 34 11)) (by first | rfl | simp [sI, sJ, sF, upd, vp_updL]) ?_
            refine mr_iconst (v := 1) C0 dX6_vote_62 (by decide) ?_
            refine mr_iadd C0 dX6_vote_63 ?_
            refine mr_putI C0 dX6_vote_64 fl_X6_138 (Nat.le_of_ble_eq_true rfl) rfl rfl rfl rfl ?_
            refine mr_aload_n C0 dX6_vote_67 rfl (i := 0) rfl ?_
            refine mr_getI C0 dX6_vote_68 fl_X6_138 (Nat.le_of_ble_eq_true rfl) rfl rfl ?_
            refine mr_topI (y := ((S.1 34 11) + (1 : Int32))) (by first | rfl | simp [sI, sJ, sF, upd, vp_updL]) ?_
            refine mr_iconst (v := 1) C0 dX6_vote_71 (by decide) ?_
            refine mr_isub C0 dX6_vote_72 ?_
            refine mr_iret C0 hr0 hk0 dX6_vote_73 (qI_mk ?_)
            exact h
          · have h := h.2 c5
            refine mr_bipush (v := (-4)) C0 dX6_vote_34 (by decide) ?_
            refine mr_iret C0 hr0 hk0 dX6_vote_36 (qI_mk ?_)
            exact h
set_option maxRecDepth 100000 in
set_option maxHeartbeats 4000000 in
theorem eX6_leftOf (x1 : Int32) (S : St) (Q : Int32 → St → Prop) (h : ((¬ x1 = (2 : Int32) → ((¬ x1 = 0 → (((S.1 34 5) = 0 → Q (2 : Int32) S) ∧ (¬ (S.1 34 5) = 0 → Q (3 : Int32) S))) ∧ (x1 = 0 → (((S.1 34 5) = 0 → Q (4 : Int32) S) ∧ (¬ (S.1 34 5) = 0 → Q (5 : Int32) S))))) ∧ (x1 = (2 : Int32) → Q (0 : Int32) S))) : CallV mdX6_leftOf [.ref 34, .int x1] S (qI Q) := by
  refine CallV_of mdX6_leftOf plX6_leftOf 0 (Nat.le_of_ble_eq_true rfl) rfl ?_
  intro zp0 zl0 ze0 zs0 zm0 zargs0 zbelow0 zmeth0 zc0 zD0 zad0 zac0 C0 hr0 hk0
  refine mr_iload_n C0 dX6_leftOf_0 rfl (i := 1) rfl ?_
  refine mr_iconst (v := 2) C0 dX6_leftOf_1 (by decide) ?_
  refine mr_icmp_ne C0 dX6_leftOf_2 (tgt := 9) (by decide) (fun c1 => ?_) (fun c1 => ?_)
  · have h := h.1 c1
    refine mr_iload_n C0 dX6_leftOf_9 rfl (i := 1) rfl ?_
    refine mr_if_ne C0 dX6_leftOf_10 (tgt := 17) (by decide) (fun c2 => ?_) (fun c2 => ?_)
    · have h := h.1 c2
      refine mr_iconst (v := 2) C0 dX6_leftOf_17 (by decide) ?_
      refine mr_aload_n C0 dX6_leftOf_18 rfl (i := 0) rfl ?_
      refine mr_getI C0 dX6_leftOf_19 fl_X6_134 (Nat.le_of_ble_eq_true rfl) rfl rfl ?_
      refine mr_if_eq C0 dX6_leftOf_22 (tgt := 29) (by decide) (fun c3 => ?_) (fun c3 => ?_)
      · have h := h.1 c3
        refine mr_iconst (v := 0) C0 dX6_leftOf_29 (by decide) ?_
        refine mr_iadd C0 dX6_leftOf_30 ?_
        refine mr_topI (y := (2 : Int32)) (by decide) ?_
        refine mr_iret C0 hr0 hk0 dX6_leftOf_31 (qI_mk ?_)
        exact h
      · have h := h.2 c3
        refine mr_iconst (v := 1) C0 dX6_leftOf_25 (by decide) ?_
        refine mr_goto C0 dX6_leftOf_26 (tgt := 30) (by decide) ?_
        refine mr_iadd C0 dX6_leftOf_30 ?_
        refine mr_topI (y := (3 : Int32)) (by decide) ?_
        refine mr_iret C0 hr0 hk0 dX6_leftOf_31 (qI_mk ?_)
        exact h
    · have h := h.2 c2
      refine mr_iconst (v := 4) C0 dX6_leftOf_13 (by decide) ?_
      refine mr_goto C0 dX6_leftOf_14 (tgt := 18) (by decide) ?_
      refine mr_aload_n C0 dX6_leftOf_18 rfl (i := 0) rfl ?_
      refine mr_getI C0 dX6_leftOf_19 fl_X6_134 (Nat.le_of_ble_eq_true rfl) rfl rfl ?_
      refine mr_if_eq C0 dX6_leftOf_22 (tgt := 29) (by decide) (fun c4 => ?_) (fun c4 => ?_)
      · have h := h.1 c4
        refine mr_iconst (v := 0) C0 dX6_leftOf_29 (by decide) ?_
        refine mr_iadd C0 dX6_leftOf_30 ?_
        refine mr_topI (y := (4 : Int32)) (by decide) ?_
        refine mr_iret C0 hr0 hk0 dX6_leftOf_31 (qI_mk ?_)
        exact h
      · have h := h.2 c4
        refine mr_iconst (v := 1) C0 dX6_leftOf_25 (by decide) ?_
        refine mr_goto C0 dX6_leftOf_26 (tgt := 30) (by decide) ?_
        refine mr_iadd C0 dX6_leftOf_30 ?_
        refine mr_topI (y := (5 : Int32)) (by decide) ?_
        refine mr_iret C0 hr0 hk0 dX6_leftOf_31 (qI_mk ?_)
        exact h
  · have h := h.2 c1
    refine mr_iconst (v := 0) C0 dX6_leftOf_5 (by decide) ?_
    refine mr_goto C0 dX6_leftOf_6 (tgt := 31) (by decide) ?_
    refine mr_iret C0 hr0 hk0 dX6_leftOf_31 (qI_mk ?_)
    exact h
set_option maxRecDepth 100000 in
set_option maxHeartbeats 4000000 in
theorem eX6_rightOf (x1 : Int32) (S : St) (Q : Int32 → St → Prop) (h : ((¬ x1 = (2 : Int32) → ((¬ x1 = 0 → (((S.1 34 5) = 0 → Q (2 : Int32) S) ∧ (¬ (S.1 34 5) = 0 → Q (1 : Int32) S))) ∧ (x1 = 0 → (((S.1 34 5) = 0 → Q (4 : Int32) S) ∧ (¬ (S.1 34 5) = 0 → Q (3 : Int32) S))))) ∧ (x1 = (2 : Int32) → Q (0 : Int32) S))) : CallV mdX6_rightOf [.ref 34, .int x1] S (qI Q) := by
  refine CallV_of mdX6_rightOf plX6_rightOf 0 (Nat.le_of_ble_eq_true rfl) rfl ?_
  intro zp0 zl0 ze0 zs0 zm0 zargs0 zbelow0 zmeth0 zc0 zD0 zad0 zac0 C0 hr0 hk0
  refine mr_iload_n C0 dX6_rightOf_0 rfl (i := 1) rfl ?_
  refine mr_iconst (v := 2) C0 dX6_rightOf_1 (by decide) ?_
  refine mr_icmp_ne C0 dX6_rightOf_2 (tgt := 9) (by decide) (fun c1 => ?_) (fun c1 => ?_)
  · have h := h.1 c1
    refine mr_iload_n C0 dX6_rightOf_9 rfl (i := 1) rfl ?_
    refine mr_if_ne C0 dX6_rightOf_10 (tgt := 17) (by decide) (fun c2 => ?_) (fun c2 => ?_)
    · have h := h.1 c2
      refine mr_iconst (v := 2) C0 dX6_rightOf_17 (by decide) ?_
      refine mr_aload_n C0 dX6_rightOf_18 rfl (i := 0) rfl ?_
      refine mr_getI C0 dX6_rightOf_19 fl_X6_134 (Nat.le_of_ble_eq_true rfl) rfl rfl ?_
      refine mr_if_eq C0 dX6_rightOf_22 (tgt := 29) (by decide) (fun c3 => ?_) (fun c3 => ?_)
      · have h := h.1 c3
        refine mr_iconst (v := 0) C0 dX6_rightOf_29 (by decide) ?_
        refine mr_isub C0 dX6_rightOf_30 ?_
        refine mr_topI (y := (2 : Int32)) (by decide) ?_
        refine mr_iret C0 hr0 hk0 dX6_rightOf_31 (qI_mk ?_)
        exact h
      · have h := h.2 c3
        refine mr_iconst (v := 1) C0 dX6_rightOf_25 (by decide) ?_
        refine mr_goto C0 dX6_rightOf_26 (tgt := 30) (by decide) ?_
        refine mr_isub C0 dX6_rightOf_30 ?_
        refine mr_topI (y := (1 : Int32)) (by decide) ?_
        refine mr_iret C0 hr0 hk0 dX6_rightOf_31 (qI_mk ?_)
        exact h
    · have h := h.2 c2
      refine mr_iconst (v := 4) C0 dX6_rightOf_13 (by decide) ?_
      refine mr_goto C0 dX6_rightOf_14 (tgt := 18) (by decide) ?_
      refine mr_aload_n C0 dX6_rightOf_18 rfl (i := 0) rfl ?_
      refine mr_getI C0 dX6_rightOf_19 fl_X6_134 (Nat.le_of_ble_eq_true rfl) rfl rfl ?_
      refine mr_if_eq C0 dX6_rightOf_22 (tgt := 29) (by decide) (fun c4 => ?_) (fun c4 => ?_)
      · have h := h.1 c4
        refine mr_iconst (v := 0) C0 dX6_rightOf_29 (by decide) ?_
        refine mr_isub C0 dX6_rightOf_30 ?_
        refine mr_topI (y := (4 : Int32)) (by decide) ?_
        refine mr_iret C0 hr0 hk0 dX6_rightOf_31 (qI_mk ?_)
        exact h
      · have h := h.2 c4
        refine mr_iconst (v := 1) C0 dX6_rightOf_25 (by decide) ?_
        refine mr_goto C0 dX6_rightOf_26 (tgt := 30) (by decide) ?_
        refine mr_isub C0 dX6_rightOf_30 ?_
        refine mr_topI (y := (3 : Int32)) (by decide) ?_
        refine mr_iret C0 hr0 hk0 dX6_rightOf_31 (qI_mk ?_)
        exact h
  · have h := h.2 c1
    refine mr_iconst (v := 0) C0 dX6_rightOf_5 (by decide) ?_
    refine mr_goto C0 dX6_rightOf_6 (tgt := 31) (by decide) ?_
    refine mr_iret C0 hr0 hk0 dX6_rightOf_31 (qI_mk ?_)
    exact h
set_option maxRecDepth 100000 in
set_option maxHeartbeats 4000000 in
theorem eX6_ofVote (x1 : Int32) (x2 : Int32) (S : St) (Q : Int32 → St → Prop) (h : ((x1.toInt64 < (0 : Int64) → Q (-1 : Int32) S) ∧ (¬ x1.toInt64 < (0 : Int64) → ((((S.1 34 11).toInt64 - (1 : Int64)) < x1.toInt64 → Q (-1 : Int32) S) ∧ (¬ ((S.1 34 11).toInt64 - (1 : Int64)) < x1.toInt64 → ((x2 = (0 : Int32) → (vp_in x1 8) ∧ Q (S.1 39 x1.toNatClampNeg) S) ∧ (¬ x2 = (0 : Int32) → ((x2 = (1 : Int32) → (vp_in x1 8) ∧ Q (S.1 40 x1.toNatClampNeg) S) ∧ (¬ x2 = (1 : Int32) → ((x2 = (2 : Int32) → (vp_in x1 8) ∧ CallV mdX6_leftOf [.ref 34, .int (S.1 39 x1.toNatClampNeg)] S (qI fun r10 S9 => Q r10 S9)) ∧ (¬ x2 = (2 : Int32) → ((x2 = (3 : Int32) → (vp_in x1 8) ∧ CallV mdX6_rightOf [.ref 34, .int (S.1 39 x1.toNatClampNeg)] S (qI fun r14 S13 => Q r14 S13)) ∧ (¬ x2 = (3 : Int32) → Q (-2 : Int32) S))))))))))))) : CallV mdX6_ofVote [.ref 34, .int x1, .int x2] S (qI Q) := by
  refine CallV_of mdX6_ofVote plX6_ofVote 0 (Nat.le_of_ble_eq_true rfl) rfl ?_
  intro zp0 zl0 ze0 zs0 zm0 zargs0 zbelow0 zmeth0 zc0 zD0 zad0 zac0 C0 hr0 hk0
  refine mr_aload_n C0 dX6_ofVote_0 rfl (i := 0) rfl ?_
  refine mr_iload_n C0 dX6_ofVote_1 rfl (i := 1) rfl ?_
  refine mr_callVI C0 mdX6_noVote dX6_ofVote_2 clX6_noVote ml_X6_149 (Nat.le_of_ble_eq_true rfl) rfl rfl arX6_noVote (as := [.int x1]) rfl (Nat.le_of_ble_eq_true rfl) (Nat.le_of_ble_eq_true rfl) (Nat.le_of_ble_eq_true rfl) fit0 (CallV_of mdX6_noVote plX6_noVote 0 (Nat.le_of_ble_eq_true rfl) rfl ?_) (fun _ _ h => h)
  intro zp1 zl1 ze1 zs1 zm1 zargs1 zbelow1 zmeth1 zc1 zD1 zad1 zac1 C1 hr1 hk1
  refine mr_iload_n C1 dX6_noVote_0 rfl (i := 1) rfl ?_
  refine mr_i2l C1 dX6_noVote_1 ?_
  refine mr_lconst (v := 0) C1 dX6_noVote_2 (by decide) ?_
  refine mr_aload_n C1 dX6_noVote_3 rfl (i := 0) rfl ?_
  refine mr_getI C1 dX6_noVote_4 fl_X6_138 (Nat.le_of_ble_eq_true rfl) rfl rfl ?_
  refine mr_i2l C1 dX6_noVote_7 ?_
  refine mr_lconst (v := 1) C1 dX6_noVote_8 (by decide) ?_
  refine mr_lsub C1 dX6_noVote_9 ?_
  refine mr_callSI C1 mdX6_in dX6_noVote_10 clX6_in ml_X6_79 arX6_in (as := [.long x1.toInt64, .long (0 : Int64), .long ((S.1 34 11).toInt64 - (1 : Int64))]) rfl (Nat.le_of_ble_eq_true rfl) (Nat.le_of_ble_eq_true rfl) (Nat.le_of_ble_eq_true rfl) fit0 (CallV_of mdX6_in plX6_in 0 (Nat.le_of_ble_eq_true rfl) rfl ?_) (fun _ _ h => h)
  intro zp2 zl2 ze2 zs2 zm2 zargs2 zbelow2 zmeth2 zc2 zD2 zad2 zac2 C2 hr2 hk2
  refine mr_lload_n C2 dX6_in_0 rfl (i := 0) rfl ?_
  refine mr_lload_n C2 dX6_in_1 rfl (i := 2) rfl ?_
  refine mr_lcmp_lt C2 dX6_in_2 dX6_in_3 (tgt := 17) (by decide) (fun c1 => ?_) (fun c1 => ?_)
  · have h := h.1 c1
    refine mr_iconst (v := 0) C2 dX6_in_17 (by decide) ?_
    refine mr_zret C2 hr2 hk2 dX6_in_18 rfl (qI_mk ?_)
    refine mr_if_ne C1 dX6_noVote_13 (tgt := 20) (by decide) (fun q => absurd q (by decide)) (fun _ => ?_)
    refine mr_iconst (v := 1) C1 dX6_noVote_16 (by decide) ?_
    refine mr_goto C1 dX6_noVote_17 (tgt := 21) (by decide) ?_
    refine mr_zret C1 hr1 hk1 dX6_noVote_21 rfl (qI_mk ?_)
    refine mr_if_eq C0 dX6_ofVote_5 (tgt := 10) (by decide) (fun q => absurd q (by decide)) (fun _ => ?_)
    refine mr_iconst (v := (-1)) C0 dX6_ofVote_8 (by decide) ?_
    refine mr_iret C0 hr0 hk0 dX6_ofVote_9 (qI_mk ?_)
    exact h
  · have h := h.2 c1
    refine mr_lload_n C2 dX6_in_6 rfl (i := 0) rfl ?_
    refine mr_lload C2 dX6_in_7 rfl ?_
    refine mr_lcmp_gt C2 dX6_in_9 dX6_in_10 (tgt := 17) (by decide) (fun c2 => ?_) (fun c2 => ?_)
    · have h := h.1 c2
      refine mr_iconst (v := 0) C2 dX6_in_17 (by decide) ?_
      refine mr_zret C2 hr2 hk2 dX6_in_18 rfl (qI_mk ?_)
      refine mr_if_ne C1 dX6_noVote_13 (tgt := 20) (by decide) (fun q => absurd q (by decide)) (fun _ => ?_)
      refine mr_iconst (v := 1) C1 dX6_noVote_16 (by decide) ?_
      refine mr_goto C1 dX6_noVote_17 (tgt := 21) (by decide) ?_
      refine mr_zret C1 hr1 hk1 dX6_noVote_21 rfl (qI_mk ?_)
      refine mr_if_eq C0 dX6_ofVote_5 (tgt := 10) (by decide) (fun q => absurd q (by decide)) (fun _ => ?_)
      refine mr_iconst (v := (-1)) C0 dX6_ofVote_8 (by decide) ?_
      refine mr_iret C0 hr0 hk0 dX6_ofVote_9 (qI_mk ?_)
      exact h
    · have h := h.2 c2
      refine mr_iconst (v := 1) C2 dX6_in_13 (by decide) ?_
      refine mr_goto C2 dX6_in_14 (tgt := 18) (by decide) ?_
      refine mr_zret C2 hr2 hk2 dX6_in_18 rfl (qI_mk ?_)
      refine mr_if_ne C1 dX6_noVote_13 (tgt := 20) (by decide) (fun _ => ?_) (fun q => absurd q (by decide))
      refine mr_iconst (v := 0) C1 dX6_noVote_20 (by decide) ?_
      refine mr_zret C1 hr1 hk1 dX6_noVote_21 rfl (qI_mk ?_)
      refine mr_if_eq C0 dX6_ofVote_5 (tgt := 10) (by decide) (fun _ => ?_) (fun q => absurd q (by decide))
      refine mr_iload_n C0 dX6_ofVote_10 rfl (i := 2) rfl ?_
      by_cases c3 : x2 = (0 : Int32)
      · have h := h.1 c3
        refine mr_tsIn C0 dX6_ofVote_11 (0 : Int32) c3 (by decide) (by decide) rfl (tgt := 40) (by decide) ?_
        refine mr_aload_n C0 dX6_ofVote_40 rfl (i := 0) rfl ?_
        refine mr_getR C0 dX6_ofVote_41 fl_X6_22 (Nat.le_of_ble_eq_true rfl) rfl rfl ?_
        refine mr_iload_n C0 dX6_ofVote_44 rfl (i := 1) rfl ?_
        have g4 := h.1
        have h := h.2
        refine mr_iald C0 dX6_ofVote_45 (Nat.le_of_ble_eq_true rfl) rfl g4 ?_
        refine mr_iret C0 hr0 hk0 dX6_ofVote_46 (qI_mk ?_)
        exact h
      · have h := h.2 c3
        by_cases c5 : x2 = (1 : Int32)
        · have h := h.1 c5
          refine mr_tsIn C0 dX6_ofVote_11 (1 : Int32) c5 (by decide) (by decide) rfl (tgt := 47) (by decide) ?_
          refine mr_aload_n C0 dX6_ofVote_47 rfl (i := 0) rfl ?_
          refine mr_getR C0 dX6_ofVote_48 fl_X6_25 (Nat.le_of_ble_eq_true rfl) rfl rfl ?_
          refine mr_iload_n C0 dX6_ofVote_51 rfl (i := 1) rfl ?_
          have g6 := h.1
          have h := h.2
          refine mr_iald C0 dX6_ofVote_52 (Nat.le_of_ble_eq_true rfl) rfl g6 ?_
          refine mr_iret C0 hr0 hk0 dX6_ofVote_53 (qI_mk ?_)
          exact h
        · have h := h.2 c5
          by_cases c7 : x2 = (2 : Int32)
          · have h := h.1 c7
            refine mr_tsIn C0 dX6_ofVote_11 (2 : Int32) c7 (by decide) (by decide) rfl (tgt := 54) (by decide) ?_
            refine mr_aload_n C0 dX6_ofVote_54 rfl (i := 0) rfl ?_
            refine mr_aload_n C0 dX6_ofVote_55 rfl (i := 0) rfl ?_
            refine mr_getR C0 dX6_ofVote_56 fl_X6_22 (Nat.le_of_ble_eq_true rfl) rfl rfl ?_
            refine mr_iload_n C0 dX6_ofVote_59 rfl (i := 1) rfl ?_
            have g8 := h.1
            have h := h.2
            refine mr_iald C0 dX6_ofVote_60 (Nat.le_of_ble_eq_true rfl) rfl g8 ?_
            refine mr_callVI C0 mdX6_leftOf dX6_ofVote_61 clX6_leftOf ml_X6_152 (Nat.le_of_ble_eq_true rfl) rfl rfl arX6_leftOf (as := [.int (S.1 39 x1.toNatClampNeg)]) rfl (Nat.le_of_ble_eq_true rfl) (Nat.le_of_ble_eq_true rfl) (Nat.le_of_ble_eq_true rfl) fit0 h (fun r10 S9 h => ?_)
            refine mr_iret C0 hr0 hk0 dX6_ofVote_64 (qI_mk ?_)
            exact h
          · have h := h.2 c7
            by_cases c11 : x2 = (3 : Int32)
            · have h := h.1 c11
              refine mr_tsIn C0 dX6_ofVote_11 (3 : Int32) c11 (by decide) (by decide) rfl (tgt := 65) (by decide) ?_
              refine mr_aload_n C0 dX6_ofVote_65 rfl (i := 0) rfl ?_
              refine mr_aload_n C0 dX6_ofVote_66 rfl (i := 0) rfl ?_
              refine mr_getR C0 dX6_ofVote_67 fl_X6_22 (Nat.le_of_ble_eq_true rfl) rfl rfl ?_
              refine mr_iload_n C0 dX6_ofVote_70 rfl (i := 1) rfl ?_
              have g12 := h.1
              have h := h.2
              refine mr_iald C0 dX6_ofVote_71 (Nat.le_of_ble_eq_true rfl) rfl g12 ?_
              refine mr_callVI C0 mdX6_rightOf dX6_ofVote_72 clX6_rightOf ml_X6_155 (Nat.le_of_ble_eq_true rfl) rfl rfl arX6_rightOf (as := [.int (S.1 39 x1.toNatClampNeg)]) rfl (Nat.le_of_ble_eq_true rfl) (Nat.le_of_ble_eq_true rfl) (Nat.le_of_ble_eq_true rfl) fit0 h (fun r14 S13 h => ?_)
              refine mr_iret C0 hr0 hk0 dX6_ofVote_75 (qI_mk ?_)
              exact h
            · have h := h.2 c11
              refine mr_tsOut C0 dX6_ofVote_11 (by have c3q := lv_neT c3 (show ((0 : Int32)).toInt = 0 by decide); have c5q := lv_neT c5 (show ((1 : Int32)).toInt = 1 by decide); have c7q := lv_neT c7 (show ((2 : Int32)).toInt = 2 by decide); have c11q := lv_neT c11 (show ((3 : Int32)).toInt = 3 by decide); omega) (tgt := 76) (by decide) ?_
              refine mr_bipush (v := (-2)) C0 dX6_ofVote_76 (by decide) ?_
              refine mr_iret C0 hr0 hk0 dX6_ofVote_78 (qI_mk ?_)
              exact h
set_option maxRecDepth 100000 in
set_option maxHeartbeats 4000000 in
theorem eX6_back (x1 : Int32) (S : St) (Q : Int32 → St → Prop) (h : ((x1.toInt64 < (0 : Int64) → Q (-2 : Int32) S) ∧ (¬ x1.toInt64 < (0 : Int64) → (((S.1 34 11).toInt64 < x1.toInt64 → Q (-2 : Int32) S) ∧ (¬ (S.1 34 11).toInt64 < x1.toInt64 → Q ((S.1 34 11) - x1) (sI S 34 11 ((S.1 34 11) - x1))))))) : CallV mdX6_back [.ref 34, .int x1] S (qI Q) := by
  refine CallV_of mdX6_back plX6_back 0 (Nat.le_of_ble_eq_true rfl) rfl ?_
  intro zp0 zl0 ze0 zs0 zm0 zargs0 zbelow0 zmeth0 zc0 zD0 zad0 zac0 C0 hr0 hk0
  refine mr_iload_n C0 dX6_back_0 rfl (i := 1) rfl ?_
  refine mr_i2l C0 dX6_back_1 ?_
  refine mr_lconst (v := 0) C0 dX6_back_2 (by decide) ?_
  refine mr_aload_n C0 dX6_back_3 rfl (i := 0) rfl ?_
  refine mr_getI C0 dX6_back_4 fl_X6_138 (Nat.le_of_ble_eq_true rfl) rfl rfl ?_
  refine mr_i2l C0 dX6_back_7 ?_
  refine mr_callSI C0 mdX6_in dX6_back_8 clX6_in ml_X6_79 arX6_in (as := [.long x1.toInt64, .long (0 : Int64), .long (S.1 34 11).toInt64]) rfl (Nat.le_of_ble_eq_true rfl) (Nat.le_of_ble_eq_true rfl) (Nat.le_of_ble_eq_true rfl) fit0 (CallV_of mdX6_in plX6_in 0 (Nat.le_of_ble_eq_true rfl) rfl ?_) (fun _ _ h => h)
  intro zp1 zl1 ze1 zs1 zm1 zargs1 zbelow1 zmeth1 zc1 zD1 zad1 zac1 C1 hr1 hk1
  refine mr_lload_n C1 dX6_in_0 rfl (i := 0) rfl ?_
  refine mr_lload_n C1 dX6_in_1 rfl (i := 2) rfl ?_
  refine mr_lcmp_lt C1 dX6_in_2 dX6_in_3 (tgt := 17) (by decide) (fun c1 => ?_) (fun c1 => ?_)
  · have h := h.1 c1
    refine mr_iconst (v := 0) C1 dX6_in_17 (by decide) ?_
    refine mr_zret C1 hr1 hk1 dX6_in_18 rfl (qI_mk ?_)
    refine mr_if_ne C0 dX6_back_11 (tgt := 17) (by decide) (fun q => absurd q (by decide)) (fun _ => ?_)
    refine mr_bipush (v := (-2)) C0 dX6_back_14 (by decide) ?_
    refine mr_iret C0 hr0 hk0 dX6_back_16 (qI_mk ?_)
    exact h
  · have h := h.2 c1
    refine mr_lload_n C1 dX6_in_6 rfl (i := 0) rfl ?_
    refine mr_lload C1 dX6_in_7 rfl ?_
    refine mr_lcmp_gt C1 dX6_in_9 dX6_in_10 (tgt := 17) (by decide) (fun c2 => ?_) (fun c2 => ?_)
    · have h := h.1 c2
      refine mr_iconst (v := 0) C1 dX6_in_17 (by decide) ?_
      refine mr_zret C1 hr1 hk1 dX6_in_18 rfl (qI_mk ?_)
      refine mr_if_ne C0 dX6_back_11 (tgt := 17) (by decide) (fun q => absurd q (by decide)) (fun _ => ?_)
      refine mr_bipush (v := (-2)) C0 dX6_back_14 (by decide) ?_
      refine mr_iret C0 hr0 hk0 dX6_back_16 (qI_mk ?_)
      exact h
    · have h := h.2 c2
      refine mr_iconst (v := 1) C1 dX6_in_13 (by decide) ?_
      refine mr_goto C1 dX6_in_14 (tgt := 18) (by decide) ?_
      refine mr_zret C1 hr1 hk1 dX6_in_18 rfl (qI_mk ?_)
      refine mr_if_ne C0 dX6_back_11 (tgt := 17) (by decide) (fun _ => ?_) (fun q => absurd q (by decide))
      refine mr_aload_n C0 dX6_back_17 rfl (i := 0) rfl ?_
      refine mr_dup C0 dX6_back_18 rfl ?_
      refine mr_getI C0 dX6_back_19 fl_X6_138 (Nat.le_of_ble_eq_true rfl) rfl rfl ?_
      refine mr_iload_n C0 dX6_back_22 rfl (i := 1) rfl ?_
      refine mr_isub C0 dX6_back_23 ?_
      refine mr_putI C0 dX6_back_24 fl_X6_138 (Nat.le_of_ble_eq_true rfl) rfl rfl rfl rfl ?_
      refine mr_aload_n C0 dX6_back_27 rfl (i := 0) rfl ?_
      refine mr_getI C0 dX6_back_28 fl_X6_138 (Nat.le_of_ble_eq_true rfl) rfl rfl ?_
      refine mr_topI (y := ((S.1 34 11) - x1)) (by first | rfl | simp [sI, sJ, sF, upd, vp_updL]) ?_
      refine mr_iret C0 hr0 hk0 dX6_back_31 (qI_mk ?_)
      exact h
set_option maxRecDepth 100000 in
set_option maxHeartbeats 4000000 in
theorem eX6_leftBy (x1 : Int32) (S : St) (Q : Int32 → St → Prop) (h : ((x1 ≤ 0 → Q x1 S) ∧ (¬ x1 ≤ 0 → Q (x1 - (1 : Int32)) S))) : CallV mdX6_leftBy [.ref 34, .int x1] S (qI Q) := by
  refine CallV_of mdX6_leftBy plX6_leftBy 0 (Nat.le_of_ble_eq_true rfl) rfl ?_
  intro zp0 zl0 ze0 zs0 zm0 zargs0 zbelow0 zmeth0 zc0 zD0 zad0 zac0 C0 hr0 hk0
  refine mr_iload_n C0 dX6_leftBy_0 rfl (i := 1) rfl ?_
  refine mr_if_le C0 dX6_leftBy_1 (tgt := 10) (by decide) (fun c1 => ?_) (fun c1 => ?_)
  · have h := h.1 c1
    refine mr_iload_n C0 dX6_leftBy_10 rfl (i := 1) rfl ?_
    refine mr_iret C0 hr0 hk0 dX6_leftBy_11 (qI_mk ?_)
    exact h
  · have h := h.2 c1
    refine mr_iload_n C0 dX6_leftBy_4 rfl (i := 1) rfl ?_
    refine mr_iconst (v := 1) C0 dX6_leftBy_5 (by decide) ?_
    refine mr_isub C0 dX6_leftBy_6 ?_
    refine mr_goto C0 dX6_leftBy_7 (tgt := 11) (by decide) ?_
    refine mr_iret C0 hr0 hk0 dX6_leftBy_11 (qI_mk ?_)
    exact h
set_option maxRecDepth 100000 in
set_option maxHeartbeats 4000000 in
theorem eX6_rightBy (x1 : Int32) (S : St) (Q : Int32 → St → Prop) (h : (((S.1 34 2) ≤ (x1 + (1 : Int32)) → Q x1 S) ∧ (¬ (S.1 34 2) ≤ (x1 + (1 : Int32)) → Q (x1 + (1 : Int32)) S))) : CallV mdX6_rightBy [.ref 34, .int x1] S (qI Q) := by
  refine CallV_of mdX6_rightBy plX6_rightBy 0 (Nat.le_of_ble_eq_true rfl) rfl ?_
  intro zp0 zl0 ze0 zs0 zm0 zargs0 zbelow0 zmeth0 zc0 zD0 zad0 zac0 C0 hr0 hk0
  refine mr_iload_n C0 dX6_rightBy_0 rfl (i := 1) rfl ?_
  refine mr_iconst (v := 1) C0 dX6_rightBy_1 (by decide) ?_
  refine mr_iadd C0 dX6_rightBy_2 ?_
  refine mr_aload_n C0 dX6_rightBy_3 rfl (i := 0) rfl ?_
  refine mr_getI C0 dX6_rightBy_4 fl_X6_72 (Nat.le_of_ble_eq_true rfl) rfl rfl ?_
  refine mr_icmp_ge C0 dX6_rightBy_7 (tgt := 16) (by decide) (fun c1 => ?_) (fun c1 => ?_)
  · have h := h.1 c1
    refine mr_iload_n C0 dX6_rightBy_16 rfl (i := 1) rfl ?_
    refine mr_iret C0 hr0 hk0 dX6_rightBy_17 (qI_mk ?_)
    exact h
  · have h := h.2 c1
    refine mr_iload_n C0 dX6_rightBy_10 rfl (i := 1) rfl ?_
    refine mr_iconst (v := 1) C0 dX6_rightBy_11 (by decide) ?_
    refine mr_iadd C0 dX6_rightBy_12 ?_
    refine mr_goto C0 dX6_rightBy_13 (tgt := 17) (by decide) ?_
    refine mr_iret C0 hr0 hk0 dX6_rightBy_17 (qI_mk ?_)
    exact h
set_option maxRecDepth 100000 in
set_option maxHeartbeats 4000000 in
theorem eX6_goesOn (x1 : Int32) (x2 : Int32) (x3 : Int32) (S : St) (Q : Int32 → St → Prop) (h : ((x2 = (2 : Int32) → Q x3 S) ∧ (¬ x2 = (2 : Int32) → ((¬ x1 = 0 → ((¬ x1 = (2 : Int32) → CallV mdX6_rightBy [.ref 34, .int x3] S (qI fun r5 S4 => Q r5 S4)) ∧ (x1 = (2 : Int32) → CallV mdX6_leftBy [.ref 34, .int x3] S (qI fun r7 S6 => Q r7 S6)))) ∧ (x1 = 0 → Q x3 S))))) : CallV mdX6_goesOn [.ref 34, .int x1, .int x2, .int x3] S (qI Q) := by
  refine CallV_of mdX6_goesOn plX6_goesOn 0 (Nat.le_of_ble_eq_true rfl) rfl ?_
  intro zp0 zl0 ze0 zs0 zm0 zargs0 zbelow0 zmeth0 zc0 zD0 zad0 zac0 C0 hr0 hk0
  refine mr_iload_n C0 dX6_goesOn_0 rfl (i := 2) rfl ?_
  refine mr_iconst (v := 2) C0 dX6_goesOn_1 (by decide) ?_
  refine mr_icmp_eq C0 dX6_goesOn_2 (tgt := 9) (by decide) (fun c1 => ?_) (fun c1 => ?_)
  · have h := h.1 c1
    refine mr_iload_n C0 dX6_goesOn_9 rfl (i := 3) rfl ?_
    refine mr_iret C0 hr0 hk0 dX6_goesOn_10 (qI_mk ?_)
    exact h
  · have h := h.2 c1
    refine mr_iload_n C0 dX6_goesOn_5 rfl (i := 1) rfl ?_
    refine mr_if_ne C0 dX6_goesOn_6 (tgt := 11) (by decide) (fun c2 => ?_) (fun c2 => ?_)
    · have h := h.1 c2
      refine mr_iload_n C0 dX6_goesOn_11 rfl (i := 1) rfl ?_
      refine mr_iconst (v := 2) C0 dX6_goesOn_12 (by decide) ?_
      refine mr_icmp_ne C0 dX6_goesOn_13 (tgt := 24) (by decide) (fun c3 => ?_) (fun c3 => ?_)
      · have h := h.1 c3
        refine mr_aload_n C0 dX6_goesOn_24 rfl (i := 0) rfl ?_
        refine mr_iload_n C0 dX6_goesOn_25 rfl (i := 3) rfl ?_
        refine mr_callVI C0 mdX6_rightBy dX6_goesOn_26 clX6_rightBy ml_X6_161 (Nat.le_of_ble_eq_true rfl) rfl rfl arX6_rightBy (as := [.int x3]) rfl (Nat.le_of_ble_eq_true rfl) (Nat.le_of_ble_eq_true rfl) (Nat.le_of_ble_eq_true rfl) fit0 h (fun r5 S4 h => ?_)
        refine mr_iret C0 hr0 hk0 dX6_goesOn_29 (qI_mk ?_)
        exact h
      · have h := h.2 c3
        refine mr_aload_n C0 dX6_goesOn_16 rfl (i := 0) rfl ?_
        refine mr_iload_n C0 dX6_goesOn_17 rfl (i := 3) rfl ?_
        refine mr_callVI C0 mdX6_leftBy dX6_goesOn_18 clX6_leftBy ml_X6_158 (Nat.le_of_ble_eq_true rfl) rfl rfl arX6_leftBy (as := [.int x3]) rfl (Nat.le_of_ble_eq_true rfl) (Nat.le_of_ble_eq_true rfl) (Nat.le_of_ble_eq_true rfl) fit0 h (fun r7 S6 h => ?_)
        refine mr_goto C0 dX6_goesOn_21 (tgt := 29) (by decide) ?_
        refine mr_iret C0 hr0 hk0 dX6_goesOn_29 (qI_mk ?_)
        exact h
    · have h := h.2 c2
      refine mr_iload_n C0 dX6_goesOn_9 rfl (i := 3) rfl ?_
      refine mr_iret C0 hr0 hk0 dX6_goesOn_10 (qI_mk ?_)
      exact h
set_option maxRecDepth 100000 in
set_option maxHeartbeats 4000000 in
theorem eX6_roll (x1 : Int32) (x2 : Int32) (x3 : Int32) (x4 : Int32) (S : St) (Q : Int32 → St → Prop) (h : ((x1.toInt64 < (0 : Int64) → Q (-1 : Int32) (sI S 34 0 (0 : Int32))) ∧ (¬ x1.toInt64 < (0 : Int64) → ((((S.1 34 11).toInt64 - (1 : Int64)) < x1.toInt64 → Q (-1 : Int32) (sI S 34 0 (0 : Int32))) ∧ (¬ ((S.1 34 11).toInt64 - (1 : Int64)) < x1.toInt64 → ((x2.toInt64 < (0 : Int64) → Q (-1 : Int32) (sI S 34 0 (0 : Int32))) ∧ (¬ x2.toInt64 < (0 : Int64) → (((3 : Int64) < x2.toInt64 → Q (-1 : Int32) (sI S 34 0 (0 : Int32))) ∧ (¬ (3 : Int64) < x2.toInt64 → ((x3.toInt64 < (0 : Int64) → Q (-2 : Int32) (sI S 34 0 (0 : Int32))) ∧ (¬ x3.toInt64 < (0 : Int64) → (((2 : Int64) < x3.toInt64 → Q (-2 : Int32) (sI S 34 0 (0 : Int32))) ∧ (¬ (2 : Int64) < x3.toInt64 → CallV mdX6_cellsBarred [.ref 34, .int x2, .int x3, .int x4, .long (0 : Int64)] S (qI fun r8 S7 => ((0 ≤ r8 → (vp_in x1 8) ∧ (vp_in x1 8) ∧ V mdX6_roll 82 [some (.ref 34), none, some (.int x2), none, none, none, some (.int (S7.1 39 x1.toNatClampNeg)), some (.int (S7.1 40 x1.toNatClampNeg)), some (.int x4), some (.int (0 : Int32)), none, none] [] S7 (qI Q)) ∧ (¬ 0 ≤ r8 → Q r8 S7)))))))))))))))) : CallV mdX6_roll [.ref 34, .int x1, .int x2, .int x3, .int x4] S (qI Q) := by
  refine CallV_of mdX6_roll plX6_roll 7 (Nat.le_of_ble_eq_true rfl) rfl ?_
  intro zp0 zl0 ze0 zs0 zm0 zargs0 zbelow0 zmeth0 zc0 zD0 zad0 zac0 C0 hr0 hk0
  refine mr_aload_n C0 dX6_roll_0 rfl (i := 0) rfl ?_
  refine mr_iload_n C0 dX6_roll_1 rfl (i := 1) rfl ?_
  refine mr_callVI C0 mdX6_noVote dX6_roll_2 clX6_noVote ml_X6_149 (Nat.le_of_ble_eq_true rfl) rfl rfl arX6_noVote (as := [.int x1]) rfl (Nat.le_of_ble_eq_true rfl) (Nat.le_of_ble_eq_true rfl) (Nat.le_of_ble_eq_true rfl) fit0 (CallV_of mdX6_noVote plX6_noVote 0 (Nat.le_of_ble_eq_true rfl) rfl ?_) (fun _ _ h => h)
  intro zp1 zl1 ze1 zs1 zm1 zargs1 zbelow1 zmeth1 zc1 zD1 zad1 zac1 C1 hr1 hk1
  refine mr_iload_n C1 dX6_noVote_0 rfl (i := 1) rfl ?_
  refine mr_i2l C1 dX6_noVote_1 ?_
  refine mr_lconst (v := 0) C1 dX6_noVote_2 (by decide) ?_
  refine mr_aload_n C1 dX6_noVote_3 rfl (i := 0) rfl ?_
  refine mr_getI C1 dX6_noVote_4 fl_X6_138 (Nat.le_of_ble_eq_true rfl) rfl rfl ?_
  refine mr_i2l C1 dX6_noVote_7 ?_
  refine mr_lconst (v := 1) C1 dX6_noVote_8 (by decide) ?_
  refine mr_lsub C1 dX6_noVote_9 ?_
  refine mr_callSI C1 mdX6_in dX6_noVote_10 clX6_in ml_X6_79 arX6_in (as := [.long x1.toInt64, .long (0 : Int64), .long ((S.1 34 11).toInt64 - (1 : Int64))]) rfl (Nat.le_of_ble_eq_true rfl) (Nat.le_of_ble_eq_true rfl) (Nat.le_of_ble_eq_true rfl) fit0 (CallV_of mdX6_in plX6_in 0 (Nat.le_of_ble_eq_true rfl) rfl ?_) (fun _ _ h => h)
  intro zp2 zl2 ze2 zs2 zm2 zargs2 zbelow2 zmeth2 zc2 zD2 zad2 zac2 C2 hr2 hk2
  refine mr_lload_n C2 dX6_in_0 rfl (i := 0) rfl ?_
  refine mr_lload_n C2 dX6_in_1 rfl (i := 2) rfl ?_
  refine mr_lcmp_lt C2 dX6_in_2 dX6_in_3 (tgt := 17) (by decide) (fun c1 => ?_) (fun c1 => ?_)
  · have h := h.1 c1
    refine mr_iconst (v := 0) C2 dX6_in_17 (by decide) ?_
    refine mr_zret C2 hr2 hk2 dX6_in_18 rfl (qI_mk ?_)
    refine mr_if_ne C1 dX6_noVote_13 (tgt := 20) (by decide) (fun q => absurd q (by decide)) (fun _ => ?_)
    refine mr_iconst (v := 1) C1 dX6_noVote_16 (by decide) ?_
    refine mr_goto C1 dX6_noVote_17 (tgt := 21) (by decide) ?_
    refine mr_zret C1 hr1 hk1 dX6_noVote_21 rfl (qI_mk ?_)
    refine mr_if_ne C0 dX6_roll_5 (tgt := 15) (by decide) (fun _ => ?_) (fun q => absurd q (by decide))
    refine mr_aload_n C0 dX6_roll_15 rfl (i := 0) rfl ?_
    refine mr_iconst (v := (-1)) C0 dX6_roll_16 (by decide) ?_
    refine mr_callVI C0 mdX6_refused dX6_roll_17 clX6_refused ml_X6_121 (Nat.le_of_ble_eq_true rfl) rfl rfl arX6_refused (as := [.int (-1 : Int32)]) rfl (Nat.le_of_ble_eq_true rfl) (Nat.le_of_ble_eq_true rfl) (Nat.le_of_ble_eq_true rfl) fit0 (CallV_of mdX6_refused plX6_refused 0 (Nat.le_of_ble_eq_true rfl) rfl ?_) (fun _ _ h => h)
    intro zp3 zl3 ze3 zs3 zm3 zargs3 zbelow3 zmeth3 zc3 zD3 zad3 zac3 C3 hr3 hk3
    refine mr_aload_n C3 dX6_refused_0 rfl (i := 0) rfl ?_
    refine mr_iconst (v := 0) C3 dX6_refused_1 (by decide) ?_
    refine mr_putI C3 dX6_refused_2 fl_X6_61 (Nat.le_of_ble_eq_true rfl) rfl rfl rfl rfl ?_
    refine mr_iload_n C3 dX6_refused_5 rfl (i := 1) rfl ?_
    refine mr_iret C3 hr3 hk3 dX6_refused_6 (qI_mk ?_)
    refine mr_iret C0 hr0 hk0 dX6_roll_20 (qI_mk ?_)
    exact h
  · have h := h.2 c1
    refine mr_lload_n C2 dX6_in_6 rfl (i := 0) rfl ?_
    refine mr_lload C2 dX6_in_7 rfl ?_
    refine mr_lcmp_gt C2 dX6_in_9 dX6_in_10 (tgt := 17) (by decide) (fun c2 => ?_) (fun c2 => ?_)
    · have h := h.1 c2
      refine mr_iconst (v := 0) C2 dX6_in_17 (by decide) ?_
      refine mr_zret C2 hr2 hk2 dX6_in_18 rfl (qI_mk ?_)
      refine mr_if_ne C1 dX6_noVote_13 (tgt := 20) (by decide) (fun q => absurd q (by decide)) (fun _ => ?_)
      refine mr_iconst (v := 1) C1 dX6_noVote_16 (by decide) ?_
      refine mr_goto C1 dX6_noVote_17 (tgt := 21) (by decide) ?_
      refine mr_zret C1 hr1 hk1 dX6_noVote_21 rfl (qI_mk ?_)
      refine mr_if_ne C0 dX6_roll_5 (tgt := 15) (by decide) (fun _ => ?_) (fun q => absurd q (by decide))
      refine mr_aload_n C0 dX6_roll_15 rfl (i := 0) rfl ?_
      refine mr_iconst (v := (-1)) C0 dX6_roll_16 (by decide) ?_
      refine mr_callVI C0 mdX6_refused dX6_roll_17 clX6_refused ml_X6_121 (Nat.le_of_ble_eq_true rfl) rfl rfl arX6_refused (as := [.int (-1 : Int32)]) rfl (Nat.le_of_ble_eq_true rfl) (Nat.le_of_ble_eq_true rfl) (Nat.le_of_ble_eq_true rfl) fit0 (CallV_of mdX6_refused plX6_refused 0 (Nat.le_of_ble_eq_true rfl) rfl ?_) (fun _ _ h => h)
      intro zp4 zl4 ze4 zs4 zm4 zargs4 zbelow4 zmeth4 zc4 zD4 zad4 zac4 C4 hr4 hk4
      refine mr_aload_n C4 dX6_refused_0 rfl (i := 0) rfl ?_
      refine mr_iconst (v := 0) C4 dX6_refused_1 (by decide) ?_
      refine mr_putI C4 dX6_refused_2 fl_X6_61 (Nat.le_of_ble_eq_true rfl) rfl rfl rfl rfl ?_
      refine mr_iload_n C4 dX6_refused_5 rfl (i := 1) rfl ?_
      refine mr_iret C4 hr4 hk4 dX6_refused_6 (qI_mk ?_)
      refine mr_iret C0 hr0 hk0 dX6_roll_20 (qI_mk ?_)
      exact h
    · have h := h.2 c2
      refine mr_iconst (v := 1) C2 dX6_in_13 (by decide) ?_
      refine mr_goto C2 dX6_in_14 (tgt := 18) (by decide) ?_
      refine mr_zret C2 hr2 hk2 dX6_in_18 rfl (qI_mk ?_)
      refine mr_if_ne C1 dX6_noVote_13 (tgt := 20) (by decide) (fun _ => ?_) (fun q => absurd q (by decide))
      refine mr_iconst (v := 0) C1 dX6_noVote_20 (by decide) ?_
      refine mr_zret C1 hr1 hk1 dX6_noVote_21 rfl (qI_mk ?_)
      refine mr_if_ne C0 dX6_roll_5 (tgt := 15) (by decide) (fun q => absurd q (by decide)) (fun _ => ?_)
      refine mr_iload_n C0 dX6_roll_8 rfl (i := 2) rfl ?_
      refine mr_callSI C0 mdX6_noSheet dX6_roll_9 clX6_noSheet ml_X6_117 arX6_noSheet (as := [.int x2]) rfl (Nat.le_of_ble_eq_true rfl) (Nat.le_of_ble_eq_true rfl) (Nat.le_of_ble_eq_true rfl) fit0 (CallV_of mdX6_noSheet plX6_noSheet 0 (Nat.le_of_ble_eq_true rfl) rfl ?_) (fun _ _ h => h)
      intro zp5 zl5 ze5 zs5 zm5 zargs5 zbelow5 zmeth5 zc5 zD5 zad5 zac5 C5 hr5 hk5
      refine mr_iload_n C5 dX6_noSheet_0 rfl (i := 0) rfl ?_
      refine mr_i2l C5 dX6_noSheet_1 ?_
      refine mr_lconst (v := 0) C5 dX6_noSheet_2 (by decide) ?_
      refine mr_ldc2 C5 dX6_noSheet_3 cn_X6_83 ?_
      refine mr_callSI C5 mdX6_in dX6_noSheet_6 clX6_in ml_X6_79 arX6_in (as := [.long x2.toInt64, .long (0 : Int64), .long (3 : Int64)]) rfl (Nat.le_of_ble_eq_true rfl) (Nat.le_of_ble_eq_true rfl) (Nat.le_of_ble_eq_true rfl) fit0 (CallV_of mdX6_in plX6_in 0 (Nat.le_of_ble_eq_true rfl) rfl ?_) (fun _ _ h => h)
      intro zp6 zl6 ze6 zs6 zm6 zargs6 zbelow6 zmeth6 zc6 zD6 zad6 zac6 C6 hr6 hk6
      refine mr_lload_n C6 dX6_in_0 rfl (i := 0) rfl ?_
      refine mr_lload_n C6 dX6_in_1 rfl (i := 2) rfl ?_
      refine mr_lcmp_lt C6 dX6_in_2 dX6_in_3 (tgt := 17) (by decide) (fun c3 => ?_) (fun c3 => ?_)
      · have h := h.1 c3
        refine mr_iconst (v := 0) C6 dX6_in_17 (by decide) ?_
        refine mr_zret C6 hr6 hk6 dX6_in_18 rfl (qI_mk ?_)
        refine mr_if_ne C5 dX6_noSheet_9 (tgt := 16) (by decide) (fun q => absurd q (by decide)) (fun _ => ?_)
        refine mr_iconst (v := 1) C5 dX6_noSheet_12 (by decide) ?_
        refine mr_goto C5 dX6_noSheet_13 (tgt := 17) (by decide) ?_
        refine mr_zret C5 hr5 hk5 dX6_noSheet_17 rfl (qI_mk ?_)
        refine mr_if_eq C0 dX6_roll_12 (tgt := 21) (by decide) (fun q => absurd q (by decide)) (fun _ => ?_)
        refine mr_aload_n C0 dX6_roll_15 rfl (i := 0) rfl ?_
        refine mr_iconst (v := (-1)) C0 dX6_roll_16 (by decide) ?_
        refine mr_callVI C0 mdX6_refused dX6_roll_17 clX6_refused ml_X6_121 (Nat.le_of_ble_eq_true rfl) rfl rfl arX6_refused (as := [.int (-1 : Int32)]) rfl (Nat.le_of_ble_eq_true rfl) (Nat.le_of_ble_eq_true rfl) (Nat.le_of_ble_eq_true rfl) fit0 (CallV_of mdX6_refused plX6_refused 0 (Nat.le_of_ble_eq_true rfl) rfl ?_) (fun _ _ h => h)
        intro zp7 zl7 ze7 zs7 zm7 zargs7 zbelow7 zmeth7 zc7 zD7 zad7 zac7 C7 hr7 hk7
        refine mr_aload_n C7 dX6_refused_0 rfl (i := 0) rfl ?_
        refine mr_iconst (v := 0) C7 dX6_refused_1 (by decide) ?_
        refine mr_putI C7 dX6_refused_2 fl_X6_61 (Nat.le_of_ble_eq_true rfl) rfl rfl rfl rfl ?_
        refine mr_iload_n C7 dX6_refused_5 rfl (i := 1) rfl ?_
        refine mr_iret C7 hr7 hk7 dX6_refused_6 (qI_mk ?_)
        refine mr_iret C0 hr0 hk0 dX6_roll_20 (qI_mk ?_)
        exact h
      · have h := h.2 c3
        refine mr_lload_n C6 dX6_in_6 rfl (i := 0) rfl ?_
        refine mr_lload C6 dX6_in_7 rfl ?_
        refine mr_lcmp_gt C6 dX6_in_9 dX6_in_10 (tgt := 17) (by decide) (fun c4 => ?_) (fun c4 => ?_)
        · have h := h.1 c4
          refine mr_iconst (v := 0) C6 dX6_in_17 (by decide) ?_
          refine mr_zret C6 hr6 hk6 dX6_in_18 rfl (qI_mk ?_)
          refine mr_if_ne C5 dX6_noSheet_9 (tgt := 16) (by decide) (fun q => absurd q (by decide)) (fun _ => ?_)
          refine mr_iconst (v := 1) C5 dX6_noSheet_12 (by decide) ?_
          refine mr_goto C5 dX6_noSheet_13 (tgt := 17) (by decide) ?_
          refine mr_zret C5 hr5 hk5 dX6_noSheet_17 rfl (qI_mk ?_)
          refine mr_if_eq C0 dX6_roll_12 (tgt := 21) (by decide) (fun q => absurd q (by decide)) (fun _ => ?_)
          refine mr_aload_n C0 dX6_roll_15 rfl (i := 0) rfl ?_
          refine mr_iconst (v := (-1)) C0 dX6_roll_16 (by decide) ?_
          refine mr_callVI C0 mdX6_refused dX6_roll_17 clX6_refused ml_X6_121 (Nat.le_of_ble_eq_true rfl) rfl rfl arX6_refused (as := [.int (-1 : Int32)]) rfl (Nat.le_of_ble_eq_true rfl) (Nat.le_of_ble_eq_true rfl) (Nat.le_of_ble_eq_true rfl) fit0 (CallV_of mdX6_refused plX6_refused 0 (Nat.le_of_ble_eq_true rfl) rfl ?_) (fun _ _ h => h)
          intro zp8 zl8 ze8 zs8 zm8 zargs8 zbelow8 zmeth8 zc8 zD8 zad8 zac8 C8 hr8 hk8
          refine mr_aload_n C8 dX6_refused_0 rfl (i := 0) rfl ?_
          refine mr_iconst (v := 0) C8 dX6_refused_1 (by decide) ?_
          refine mr_putI C8 dX6_refused_2 fl_X6_61 (Nat.le_of_ble_eq_true rfl) rfl rfl rfl rfl ?_
          refine mr_iload_n C8 dX6_refused_5 rfl (i := 1) rfl ?_
          refine mr_iret C8 hr8 hk8 dX6_refused_6 (qI_mk ?_)
          refine mr_iret C0 hr0 hk0 dX6_roll_20 (qI_mk ?_)
          exact h
        · have h := h.2 c4
          refine mr_iconst (v := 1) C6 dX6_in_13 (by decide) ?_
          refine mr_goto C6 dX6_in_14 (tgt := 18) (by decide) ?_
          refine mr_zret C6 hr6 hk6 dX6_in_18 rfl (qI_mk ?_)
          refine mr_if_ne C5 dX6_noSheet_9 (tgt := 16) (by decide) (fun _ => ?_) (fun q => absurd q (by decide))
          refine mr_iconst (v := 0) C5 dX6_noSheet_16 (by decide) ?_
          refine mr_zret C5 hr5 hk5 dX6_noSheet_17 rfl (qI_mk ?_)
          refine mr_if_eq C0 dX6_roll_12 (tgt := 21) (by decide) (fun _ => ?_) (fun q => absurd q (by decide))
          refine mr_iload_n C0 dX6_roll_21 rfl (i := 3) rfl ?_
          refine mr_i2l C0 dX6_roll_22 ?_
          refine mr_lconst (v := 0) C0 dX6_roll_23 (by decide) ?_
          refine mr_ldc2 C0 dX6_roll_24 cn_X6_124 ?_
          refine mr_callSI C0 mdX6_in dX6_roll_27 clX6_in ml_X6_79 arX6_in (as := [.long x3.toInt64, .long (0 : Int64), .long (2 : Int64)]) rfl (Nat.le_of_ble_eq_true rfl) (Nat.le_of_ble_eq_true rfl) (Nat.le_of_ble_eq_true rfl) fit0 (CallV_of mdX6_in plX6_in 0 (Nat.le_of_ble_eq_true rfl) rfl ?_) (fun _ _ h => h)
          intro zp9 zl9 ze9 zs9 zm9 zargs9 zbelow9 zmeth9 zc9 zD9 zad9 zac9 C9 hr9 hk9
          refine mr_lload_n C9 dX6_in_0 rfl (i := 0) rfl ?_
          refine mr_lload_n C9 dX6_in_1 rfl (i := 2) rfl ?_
          refine mr_lcmp_lt C9 dX6_in_2 dX6_in_3 (tgt := 17) (by decide) (fun c5 => ?_) (fun c5 => ?_)
          · have h := h.1 c5
            refine mr_iconst (v := 0) C9 dX6_in_17 (by decide) ?_
            refine mr_zret C9 hr9 hk9 dX6_in_18 rfl (qI_mk ?_)
            refine mr_if_ne C0 dX6_roll_30 (tgt := 40) (by decide) (fun q => absurd q (by decide)) (fun _ => ?_)
            refine mr_aload_n C0 dX6_roll_33 rfl (i := 0) rfl ?_
            refine mr_bipush (v := (-2)) C0 dX6_roll_34 (by decide) ?_
            refine mr_callVI C0 mdX6_refused dX6_roll_36 clX6_refused ml_X6_121 (Nat.le_of_ble_eq_true rfl) rfl rfl arX6_refused (as := [.int (-2 : Int32)]) rfl (Nat.le_of_ble_eq_true rfl) (Nat.le_of_ble_eq_true rfl) (Nat.le_of_ble_eq_true rfl) fit0 (CallV_of mdX6_refused plX6_refused 0 (Nat.le_of_ble_eq_true rfl) rfl ?_) (fun _ _ h => h)
            intro zp10 zl10 ze10 zs10 zm10 zargs10 zbelow10 zmeth10 zc10 zD10 zad10 zac10 C10 hr10 hk10
            refine mr_aload_n C10 dX6_refused_0 rfl (i := 0) rfl ?_
            refine mr_iconst (v := 0) C10 dX6_refused_1 (by decide) ?_
            refine mr_putI C10 dX6_refused_2 fl_X6_61 (Nat.le_of_ble_eq_true rfl) rfl rfl rfl rfl ?_
            refine mr_iload_n C10 dX6_refused_5 rfl (i := 1) rfl ?_
            refine mr_iret C10 hr10 hk10 dX6_refused_6 (qI_mk ?_)
            refine mr_iret C0 hr0 hk0 dX6_roll_39 (qI_mk ?_)
            exact h
          · have h := h.2 c5
            refine mr_lload_n C9 dX6_in_6 rfl (i := 0) rfl ?_
            refine mr_lload C9 dX6_in_7 rfl ?_
            refine mr_lcmp_gt C9 dX6_in_9 dX6_in_10 (tgt := 17) (by decide) (fun c6 => ?_) (fun c6 => ?_)
            · have h := h.1 c6
              refine mr_iconst (v := 0) C9 dX6_in_17 (by decide) ?_
              refine mr_zret C9 hr9 hk9 dX6_in_18 rfl (qI_mk ?_)
              refine mr_if_ne C0 dX6_roll_30 (tgt := 40) (by decide) (fun q => absurd q (by decide)) (fun _ => ?_)
              refine mr_aload_n C0 dX6_roll_33 rfl (i := 0) rfl ?_
              refine mr_bipush (v := (-2)) C0 dX6_roll_34 (by decide) ?_
              refine mr_callVI C0 mdX6_refused dX6_roll_36 clX6_refused ml_X6_121 (Nat.le_of_ble_eq_true rfl) rfl rfl arX6_refused (as := [.int (-2 : Int32)]) rfl (Nat.le_of_ble_eq_true rfl) (Nat.le_of_ble_eq_true rfl) (Nat.le_of_ble_eq_true rfl) fit0 (CallV_of mdX6_refused plX6_refused 0 (Nat.le_of_ble_eq_true rfl) rfl ?_) (fun _ _ h => h)
              intro zp11 zl11 ze11 zs11 zm11 zargs11 zbelow11 zmeth11 zc11 zD11 zad11 zac11 C11 hr11 hk11
              refine mr_aload_n C11 dX6_refused_0 rfl (i := 0) rfl ?_
              refine mr_iconst (v := 0) C11 dX6_refused_1 (by decide) ?_
              refine mr_putI C11 dX6_refused_2 fl_X6_61 (Nat.le_of_ble_eq_true rfl) rfl rfl rfl rfl ?_
              refine mr_iload_n C11 dX6_refused_5 rfl (i := 1) rfl ?_
              refine mr_iret C11 hr11 hk11 dX6_refused_6 (qI_mk ?_)
              refine mr_iret C0 hr0 hk0 dX6_roll_39 (qI_mk ?_)
              exact h
            · have h := h.2 c6
              refine mr_iconst (v := 1) C9 dX6_in_13 (by decide) ?_
              refine mr_goto C9 dX6_in_14 (tgt := 18) (by decide) ?_
              refine mr_zret C9 hr9 hk9 dX6_in_18 rfl (qI_mk ?_)
              refine mr_if_ne C0 dX6_roll_30 (tgt := 40) (by decide) (fun _ => ?_) (fun q => absurd q (by decide))
              refine mr_aload_n C0 dX6_roll_40 rfl (i := 0) rfl ?_
              refine mr_iload_n C0 dX6_roll_41 rfl (i := 2) rfl ?_
              refine mr_iload_n C0 dX6_roll_42 rfl (i := 3) rfl ?_
              refine mr_iload C0 dX6_roll_43 rfl ?_
              refine mr_lconst (v := 0) C0 dX6_roll_45 (by decide) ?_
              refine mr_callVI C0 mdX6_cellsBarred dX6_roll_46 clX6_cellsBarred ml_X6_126 (Nat.le_of_ble_eq_true rfl) rfl rfl arX6_cellsBarred (as := [.int x2, .int x3, .int x4, .long (0 : Int64)]) rfl (Nat.le_of_ble_eq_true rfl) (Nat.le_of_ble_eq_true rfl) (Nat.le_of_ble_eq_true rfl) fit0 h (fun r8 S7 h => ?_)
              refine mr_istore (L1 := [some (.ref 34), some (.int x1), some (.int x2), some (.int x3), some (.int x4), some (.int r8), none, none, none, none, none, none]) C0 dX6_roll_49 (Nat.le_of_ble_eq_true rfl) rfl ?_
              refine mr_iload C0 dX6_roll_51 rfl ?_
              refine mr_if_ge C0 dX6_roll_53 (tgt := 59) (by decide) (fun c9 => ?_) (fun c9 => ?_)
              · have h := h.1 c9
                refine mr_aload_n C0 dX6_roll_59 rfl (i := 0) rfl ?_
                refine mr_getR C0 dX6_roll_60 fl_X6_22 (Nat.le_of_ble_eq_true rfl) rfl rfl ?_
                refine mr_iload_n C0 dX6_roll_63 rfl (i := 1) rfl ?_
                have g10 := h.1
                have h := h.2
                refine mr_iald C0 dX6_roll_64 (Nat.le_of_ble_eq_true rfl) rfl g10 ?_
                refine mr_istore (L1 := [some (.ref 34), some (.int x1), some (.int x2), some (.int x3), some (.int x4), some (.int r8), some (.int (S7.1 39 x1.toNatClampNeg)), none, none, none, none, none]) C0 dX6_roll_65 (Nat.le_of_ble_eq_true rfl) rfl ?_
                refine mr_aload_n C0 dX6_roll_67 rfl (i := 0) rfl ?_
                refine mr_getR C0 dX6_roll_68 fl_X6_25 (Nat.le_of_ble_eq_true rfl) rfl rfl ?_
                refine mr_iload_n C0 dX6_roll_71 rfl (i := 1) rfl ?_
                have g11 := h.1
                have h := h.2
                refine mr_iald C0 dX6_roll_72 (Nat.le_of_ble_eq_true rfl) rfl g11 ?_
                refine mr_istore (L1 := [some (.ref 34), some (.int x1), some (.int x2), some (.int x3), some (.int x4), some (.int r8), some (.int (S7.1 39 x1.toNatClampNeg)), some (.int (S7.1 40 x1.toNatClampNeg)), none, none, none, none]) C0 dX6_roll_73 (Nat.le_of_ble_eq_true rfl) rfl ?_
                refine mr_iload C0 dX6_roll_75 rfl ?_
                refine mr_istore (L1 := [some (.ref 34), some (.int x1), some (.int x2), some (.int x3), some (.int x4), some (.int r8), some (.int (S7.1 39 x1.toNatClampNeg)), some (.int (S7.1 40 x1.toNatClampNeg)), some (.int x4), none, none, none]) C0 dX6_roll_77 (Nat.le_of_ble_eq_true rfl) rfl ?_
                refine mr_iconst (v := 0) C0 dX6_roll_79 (by decide) ?_
                refine mr_istore (L1 := [some (.ref 34), some (.int x1), some (.int x2), some (.int x3), some (.int x4), some (.int r8), some (.int (S7.1 39 x1.toNatClampNeg)), some (.int (S7.1 40 x1.toNatClampNeg)), some (.int x4), some (.int (0 : Int32)), none, none]) C0 dX6_roll_80 (Nat.le_of_ble_eq_true rfl) rfl ?_
                refine mr_mask (L1 := [some (.ref 34), none, some (.int x2), none, none, none, some (.int (S7.1 39 x1.toNatClampNeg)), some (.int (S7.1 40 x1.toNatClampNeg)), some (.int x4), some (.int (0 : Int32)), none, none]) C0 [true, false, true, false, false, false, true, true, true, true, false, false] rfl ?_
                exact h zp0 zl0 ze0 zs0 zm0 zargs0 zbelow0 zmeth0 zc0 zD0 zad0 zac0 C0 hr0 hk0
              · have h := h.2 c9
                refine mr_iload C0 dX6_roll_56 rfl ?_
                refine mr_iret C0 hr0 hk0 dX6_roll_58 (qI_mk ?_)
                exact h
set_option maxRecDepth 100000 in
set_option maxHeartbeats 4000000 in
theorem eX6_roll_82 (x2 : Int32) (x6 : Int32) (x7 : Int32) (x8 : Int32) (x9 : Int32) (S : St) (Q : Int32 → St → Prop) (h : (((S.1 34 1) ≤ x9 → Q x7 (sI S 34 0 (0 : Int32))) ∧ (¬ (S.1 34 1) ≤ x9 → (vp_in ((x9 * (S.1 34 2)) + x7) 30) ∧ ((¬ (S.1 36 (((x9 * (S.1 34 2)) + x7).toNatClampNeg)) = (4 : Int32) → ((¬ (S.1 36 (((x9 * (S.1 34 2)) + x7).toNatClampNeg)) = (1 : Int32) → CallV mdX6_goesOn [.ref 34, .int (S.1 36 (((x9 * (S.1 34 2)) + x7).toNatClampNeg)), .int x6, .int x7] S (qI fun r6 S5 => V mdX6_roll 82 [some (.ref 34), none, some (.int x2), none, none, none, some (.int x6), some (.int r6), some (.int x8), some (.int (x9 + 1)), none, none] [] S5 (qI Q))) ∧ ((S.1 36 (((x9 * (S.1 34 2)) + x7).toNatClampNeg)) = (1 : Int32) → (vp_in x2 4) ∧ ((x8 < (S.1 47 x2.toNatClampNeg) → (vp_in (((60 : Int32) * x2) + x8) 240) ∧ (((S.1 49 ((((60 : Int32) * x2) + x8).toNatClampNeg)).toInt64 < (0 : Int64) → Q (-2 : Int32) (sI S 34 0 (0 : Int32))) ∧ (¬ (S.1 49 ((((60 : Int32) * x2) + x8).toNatClampNeg)).toInt64 < (0 : Int64) → (((7 : Int64) < (S.1 49 ((((60 : Int32) * x2) + x8).toNatClampNeg)).toInt64 → Q (-2 : Int32) (sI S 34 0 (0 : Int32))) ∧ (¬ (7 : Int64) < (S.1 49 ((((60 : Int32) * x2) + x8).toNatClampNeg)).toInt64 → CallV mdX6_leftOf [.ref 34, .int x6] S (qI fun r13 S12 => ((r13 ≤ (S.1 49 ((((60 : Int32) * x2) + x8).toNatClampNeg)) → CallV mdX6_rightOf [.ref 34, .int x6] S12 (qI fun r16 S15 => ((((8 : Int32) - r16) ≤ (S.1 49 ((((60 : Int32) * x2) + x8).toNatClampNeg)) → CallV mdX6_rightBy [.ref 34, .int x7] S15 (qI fun r19 S18 => V mdX6_roll 82 [some (.ref 34), none, some (.int x2), none, none, none, some (.int x6), some (.int r19), some (.int (x8 + 1)), some (.int (x9 + 1)), none, none] [] S18 (qI Q))) ∧ (¬ ((8 : Int32) - r16) ≤ (S.1 49 ((((60 : Int32) * x2) + x8).toNatClampNeg)) → V mdX6_roll 82 [some (.ref 34), none, some (.int x2), none, none, none, some (.int x6), some (.int x7), some (.int (x8 + 1)), some (.int (x9 + 1)), none, none] [] S15 (qI Q))))) ∧ (¬ r13 ≤ (S.1 49 ((((60 : Int32) * x2) + x8).toNatClampNeg)) → CallV mdX6_leftBy [.ref 34, .int x7] S12 (qI fun r21 S20 => V mdX6_roll 82 [some (.ref 34), none, some (.int x2), none, none, none, some (.int x6), some (.int r21), some (.int (x8 + 1)), some (.int (x9 + 1)), none, none] [] S20 (qI Q)))))))))) ∧ (¬ x8 < (S.1 47 x2.toNatClampNeg) → Q (-13 : Int32) (sI S 34 0 (3 : Int32))))))) ∧ ((S.1 36 (((x9 * (S.1 34 2)) + x7).toNatClampNeg)) = (4 : Int32) → Q (-9 : Int32) (sI S 34 0 (0 : Int32))))))) : V mdX6_roll 82 [some (.ref 34), none, some (.int x2), none, none, none, some (.int x6), some (.int x7), some (.int x8), some (.int x9), none, none] [] S (qI Q) := by
  intro zp0 zl0 ze0 zs0 zm0 zargs0 zbelow0 zmeth0 zc0 zD0 zad0 zac0 C0 hr0 hk0
  refine mr_iload C0 dX6_roll_82 rfl ?_
  refine mr_aload_n C0 dX6_roll_84 rfl (i := 0) rfl ?_
  refine mr_getI C0 dX6_roll_85 fl_X6_69 (Nat.le_of_ble_eq_true rfl) rfl rfl ?_
  refine mr_icmp_ge C0 dX6_roll_88 (tgt := 249) (by decide) (fun c1 => ?_) (fun c1 => ?_)
  · have h := h.1 c1
    refine mr_aload_n C0 dX6_roll_249 rfl (i := 0) rfl ?_
    refine mr_iload C0 dX6_roll_250 rfl ?_
    refine mr_callVI C0 mdX6_refused dX6_roll_252 clX6_refused ml_X6_121 (Nat.le_of_ble_eq_true rfl) rfl rfl arX6_refused (as := [.int x7]) rfl (Nat.le_of_ble_eq_true rfl) (Nat.le_of_ble_eq_true rfl) (Nat.le_of_ble_eq_true rfl) fit0 (CallV_of mdX6_refused plX6_refused 0 (Nat.le_of_ble_eq_true rfl) rfl ?_) (fun _ _ h => h)
    intro zp1 zl1 ze1 zs1 zm1 zargs1 zbelow1 zmeth1 zc1 zD1 zad1 zac1 C1 hr1 hk1
    refine mr_aload_n C1 dX6_refused_0 rfl (i := 0) rfl ?_
    refine mr_iconst (v := 0) C1 dX6_refused_1 (by decide) ?_
    refine mr_putI C1 dX6_refused_2 fl_X6_61 (Nat.le_of_ble_eq_true rfl) rfl rfl rfl rfl ?_
    refine mr_iload_n C1 dX6_refused_5 rfl (i := 1) rfl ?_
    refine mr_iret C1 hr1 hk1 dX6_refused_6 (qI_mk ?_)
    refine mr_iret C0 hr0 hk0 dX6_roll_255 (qI_mk ?_)
    exact h
  · have h := h.2 c1
    refine mr_aload_n C0 dX6_roll_91 rfl (i := 0) rfl ?_
    refine mr_getR C0 dX6_roll_92 fl_X6_13 (Nat.le_of_ble_eq_true rfl) rfl rfl ?_
    refine mr_iload C0 dX6_roll_95 rfl ?_
    refine mr_aload_n C0 dX6_roll_97 rfl (i := 0) rfl ?_
    refine mr_getI C0 dX6_roll_98 fl_X6_72 (Nat.le_of_ble_eq_true rfl) rfl rfl ?_
    refine mr_imul C0 dX6_roll_101 ?_
    refine mr_iload C0 dX6_roll_102 rfl ?_
    refine mr_iadd C0 dX6_roll_104 ?_
    have g2 := h.1
    have h := h.2
    refine mr_iald C0 dX6_roll_105 (Nat.le_of_ble_eq_true rfl) rfl g2 ?_
    refine mr_istore (L1 := [some (.ref 34), none, some (.int x2), none, none, none, some (.int x6), some (.int x7), some (.int x8), some (.int x9), some (.int (S.1 36 (((x9 * (S.1 34 2)) + x7).toNatClampNeg))), none]) C0 dX6_roll_106 (Nat.le_of_ble_eq_true rfl) rfl ?_
    refine mr_iload C0 dX6_roll_108 rfl ?_
    refine mr_iconst (v := 4) C0 dX6_roll_110 (by decide) ?_
    refine mr_icmp_ne C0 dX6_roll_111 (tgt := 121) (by decide) (fun c3 => ?_) (fun c3 => ?_)
    · have h := h.1 c3
      refine mr_iload C0 dX6_roll_121 rfl ?_
      refine mr_iconst (v := 1) C0 dX6_roll_123 (by decide) ?_
      refine mr_icmp_ne C0 dX6_roll_124 (tgt := 231) (by decide) (fun c4 => ?_) (fun c4 => ?_)
      · have h := h.1 c4
        refine mr_aload_n C0 dX6_roll_231 rfl (i := 0) rfl ?_
        refine mr_iload C0 dX6_roll_232 rfl ?_
        refine mr_iload C0 dX6_roll_234 rfl ?_
        refine mr_iload C0 dX6_roll_236 rfl ?_
        refine mr_callVI C0 mdX6_goesOn dX6_roll_238 clX6_goesOn ml_X6_166 (Nat.le_of_ble_eq_true rfl) rfl rfl arX6_goesOn (as := [.int (S.1 36 (((x9 * (S.1 34 2)) + x7).toNatClampNeg)), .int x6, .int x7]) rfl (Nat.le_of_ble_eq_true rfl) (Nat.le_of_ble_eq_true rfl) (Nat.le_of_ble_eq_true rfl) fit0 h (fun r6 S5 h => ?_)
        refine mr_istore (L1 := [some (.ref 34), none, some (.int x2), none, none, none, some (.int x6), some (.int r6), some (.int x8), some (.int x9), some (.int (S.1 36 (((x9 * (S.1 34 2)) + x7).toNatClampNeg))), none]) C0 dX6_roll_241 (Nat.le_of_ble_eq_true rfl) rfl ?_
        refine mr_iinc (v := (x9 + 1)) (L1 := [some (.ref 34), none, some (.int x2), none, none, none, some (.int x6), some (.int r6), some (.int x8), some (.int (x9 + 1)), some (.int (S.1 36 (((x9 * (S.1 34 2)) + x7).toNatClampNeg))), none]) C0 dX6_roll_243 rfl rfl (Nat.le_of_ble_eq_true rfl) rfl ?_
        refine mr_goto C0 dX6_roll_246 (tgt := 82) (by decide) ?_
        refine mr_mask (L1 := [some (.ref 34), none, some (.int x2), none, none, none, some (.int x6), some (.int r6), some (.int x8), some (.int (x9 + 1)), none, none]) C0 [true, false, true, false, false, false, true, true, true, true, false, false] rfl ?_
        exact h zp0 zl0 ze0 zs0 zm0 zargs0 zbelow0 zmeth0 zc0 zD0 zad0 zac0 C0 hr0 hk0
      · have h := h.2 c4
        refine mr_iload C0 dX6_roll_127 rfl ?_
        refine mr_aload_n C0 dX6_roll_129 rfl (i := 0) rfl ?_
        refine mr_getR C0 dX6_roll_130 fl_X6_47 (Nat.le_of_ble_eq_true rfl) rfl rfl ?_
        refine mr_iload_n C0 dX6_roll_133 rfl (i := 2) rfl ?_
        have g7 := h.1
        have h := h.2
        refine mr_iald C0 dX6_roll_134 (Nat.le_of_ble_eq_true rfl) rfl g7 ?_
        refine mr_icmp_lt C0 dX6_roll_135 (tgt := 144) (by decide) (fun c8 => ?_) (fun c8 => ?_)
        · have h := h.1 c8
          refine mr_aload_n C0 dX6_roll_144 rfl (i := 0) rfl ?_
          refine mr_getR C0 dX6_roll_145 fl_X6_53 (Nat.le_of_ble_eq_true rfl) rfl rfl ?_
          refine mr_bipush (v := 60) C0 dX6_roll_148 (by decide) ?_
          refine mr_iload_n C0 dX6_roll_150 rfl (i := 2) rfl ?_
          refine mr_imul C0 dX6_roll_151 ?_
          refine mr_iload C0 dX6_roll_152 rfl ?_
          refine mr_iadd C0 dX6_roll_154 ?_
          have g9 := h.1
          have h := h.2
          refine mr_iald C0 dX6_roll_155 (Nat.le_of_ble_eq_true rfl) rfl g9 ?_
          refine mr_istore (L1 := [some (.ref 34), none, some (.int x2), none, none, none, some (.int x6), some (.int x7), some (.int x8), some (.int x9), some (.int (S.1 36 (((x9 * (S.1 34 2)) + x7).toNatClampNeg))), some (.int (S.1 49 ((((60 : Int32) * x2) + x8).toNatClampNeg)))]) C0 dX6_roll_156 (Nat.le_of_ble_eq_true rfl) rfl ?_
          refine mr_iload C0 dX6_roll_158 rfl ?_
          refine mr_i2l C0 dX6_roll_160 ?_
          refine mr_lconst (v := 0) C0 dX6_roll_161 (by decide) ?_
          refine mr_ldc2 C0 dX6_roll_162 cn_X6_164 ?_
          refine mr_callSI C0 mdX6_in dX6_roll_165 clX6_in ml_X6_79 arX6_in (as := [.long (S.1 49 ((((60 : Int32) * x2) + x8).toNatClampNeg)).toInt64, .long (0 : Int64), .long (7 : Int64)]) rfl (Nat.le_of_ble_eq_true rfl) (Nat.le_of_ble_eq_true rfl) (Nat.le_of_ble_eq_true rfl) fit0 (CallV_of mdX6_in plX6_in 0 (Nat.le_of_ble_eq_true rfl) rfl ?_) (fun _ _ h => h)
          intro zp2 zl2 ze2 zs2 zm2 zargs2 zbelow2 zmeth2 zc2 zD2 zad2 zac2 C2 hr2 hk2
          refine mr_lload_n C2 dX6_in_0 rfl (i := 0) rfl ?_
          refine mr_lload_n C2 dX6_in_1 rfl (i := 2) rfl ?_
          refine mr_lcmp_lt C2 dX6_in_2 dX6_in_3 (tgt := 17) (by decide) (fun c10 => ?_) (fun c10 => ?_)
          · have h := h.1 c10
            refine mr_iconst (v := 0) C2 dX6_in_17 (by decide) ?_
            refine mr_zret C2 hr2 hk2 dX6_in_18 rfl (qI_mk ?_)
            refine mr_if_ne C0 dX6_roll_168 (tgt := 178) (by decide) (fun q => absurd q (by decide)) (fun _ => ?_)
            refine mr_aload_n C0 dX6_roll_171 rfl (i := 0) rfl ?_
            refine mr_bipush (v := (-2)) C0 dX6_roll_172 (by decide) ?_
            refine mr_callVI C0 mdX6_refused dX6_roll_174 clX6_refused ml_X6_121 (Nat.le_of_ble_eq_true rfl) rfl rfl arX6_refused (as := [.int (-2 : Int32)]) rfl (Nat.le_of_ble_eq_true rfl) (Nat.le_of_ble_eq_true rfl) (Nat.le_of_ble_eq_true rfl) fit0 (CallV_of mdX6_refused plX6_refused 0 (Nat.le_of_ble_eq_true rfl) rfl ?_) (fun _ _ h => h)
            intro zp3 zl3 ze3 zs3 zm3 zargs3 zbelow3 zmeth3 zc3 zD3 zad3 zac3 C3 hr3 hk3
            refine mr_aload_n C3 dX6_refused_0 rfl (i := 0) rfl ?_
            refine mr_iconst (v := 0) C3 dX6_refused_1 (by decide) ?_
            refine mr_putI C3 dX6_refused_2 fl_X6_61 (Nat.le_of_ble_eq_true rfl) rfl rfl rfl rfl ?_
            refine mr_iload_n C3 dX6_refused_5 rfl (i := 1) rfl ?_
            refine mr_iret C3 hr3 hk3 dX6_refused_6 (qI_mk ?_)
            refine mr_iret C0 hr0 hk0 dX6_roll_177 (qI_mk ?_)
            exact h
          · have h := h.2 c10
            refine mr_lload_n C2 dX6_in_6 rfl (i := 0) rfl ?_
            refine mr_lload C2 dX6_in_7 rfl ?_
            refine mr_lcmp_gt C2 dX6_in_9 dX6_in_10 (tgt := 17) (by decide) (fun c11 => ?_) (fun c11 => ?_)
            · have h := h.1 c11
              refine mr_iconst (v := 0) C2 dX6_in_17 (by decide) ?_
              refine mr_zret C2 hr2 hk2 dX6_in_18 rfl (qI_mk ?_)
              refine mr_if_ne C0 dX6_roll_168 (tgt := 178) (by decide) (fun q => absurd q (by decide)) (fun _ => ?_)
              refine mr_aload_n C0 dX6_roll_171 rfl (i := 0) rfl ?_
              refine mr_bipush (v := (-2)) C0 dX6_roll_172 (by decide) ?_
              refine mr_callVI C0 mdX6_refused dX6_roll_174 clX6_refused ml_X6_121 (Nat.le_of_ble_eq_true rfl) rfl rfl arX6_refused (as := [.int (-2 : Int32)]) rfl (Nat.le_of_ble_eq_true rfl) (Nat.le_of_ble_eq_true rfl) (Nat.le_of_ble_eq_true rfl) fit0 (CallV_of mdX6_refused plX6_refused 0 (Nat.le_of_ble_eq_true rfl) rfl ?_) (fun _ _ h => h)
              intro zp4 zl4 ze4 zs4 zm4 zargs4 zbelow4 zmeth4 zc4 zD4 zad4 zac4 C4 hr4 hk4
              refine mr_aload_n C4 dX6_refused_0 rfl (i := 0) rfl ?_
              refine mr_iconst (v := 0) C4 dX6_refused_1 (by decide) ?_
              refine mr_putI C4 dX6_refused_2 fl_X6_61 (Nat.le_of_ble_eq_true rfl) rfl rfl rfl rfl ?_
              refine mr_iload_n C4 dX6_refused_5 rfl (i := 1) rfl ?_
              refine mr_iret C4 hr4 hk4 dX6_refused_6 (qI_mk ?_)
              refine mr_iret C0 hr0 hk0 dX6_roll_177 (qI_mk ?_)
              exact h
            · have h := h.2 c11
              refine mr_iconst (v := 1) C2 dX6_in_13 (by decide) ?_
              refine mr_goto C2 dX6_in_14 (tgt := 18) (by decide) ?_
              refine mr_zret C2 hr2 hk2 dX6_in_18 rfl (qI_mk ?_)
              refine mr_if_ne C0 dX6_roll_168 (tgt := 178) (by decide) (fun _ => ?_) (fun q => absurd q (by decide))
              refine mr_iload C0 dX6_roll_178 rfl ?_
              refine mr_aload_n C0 dX6_roll_180 rfl (i := 0) rfl ?_
              refine mr_iload C0 dX6_roll_181 rfl ?_
              refine mr_callVI C0 mdX6_leftOf dX6_roll_183 clX6_leftOf ml_X6_152 (Nat.le_of_ble_eq_true rfl) rfl rfl arX6_leftOf (as := [.int x6]) rfl (Nat.le_of_ble_eq_true rfl) (Nat.le_of_ble_eq_true rfl) (Nat.le_of_ble_eq_true rfl) fit0 h (fun r13 S12 h => ?_)
              refine mr_icmp_ge C0 dX6_roll_186 (tgt := 198) (by decide) (fun c14 => ?_) (fun c14 => ?_)
              · have h := h.1 c14
                refine mr_iload C0 dX6_roll_198 rfl ?_
                refine mr_bipush (v := 8) C0 dX6_roll_200 (by decide) ?_
                refine mr_aload_n C0 dX6_roll_202 rfl (i := 0) rfl ?_
                refine mr_iload C0 dX6_roll_203 rfl ?_
                refine mr_callVI C0 mdX6_rightOf dX6_roll_205 clX6_rightOf ml_X6_155 (Nat.le_of_ble_eq_true rfl) rfl rfl arX6_rightOf (as := [.int x6]) rfl (Nat.le_of_ble_eq_true rfl) (Nat.le_of_ble_eq_true rfl) (Nat.le_of_ble_eq_true rfl) fit0 h (fun r16 S15 h => ?_)
                refine mr_isub C0 dX6_roll_208 ?_
                refine mr_icmp_ge C0 dX6_roll_209 (tgt := 217) (by decide) (fun c17 => ?_) (fun c17 => ?_)
                · have h := h.1 c17
                  refine mr_aload_n C0 dX6_roll_217 rfl (i := 0) rfl ?_
                  refine mr_iload C0 dX6_roll_218 rfl ?_
                  refine mr_callVI C0 mdX6_rightBy dX6_roll_220 clX6_rightBy ml_X6_161 (Nat.le_of_ble_eq_true rfl) rfl rfl arX6_rightBy (as := [.int x7]) rfl (Nat.le_of_ble_eq_true rfl) (Nat.le_of_ble_eq_true rfl) (Nat.le_of_ble_eq_true rfl) fit0 h (fun r19 S18 h => ?_)
                  refine mr_istore (L1 := [some (.ref 34), none, some (.int x2), none, none, none, some (.int x6), some (.int r19), some (.int x8), some (.int x9), some (.int (S.1 36 (((x9 * (S.1 34 2)) + x7).toNatClampNeg))), some (.int (S.1 49 ((((60 : Int32) * x2) + x8).toNatClampNeg)))]) C0 dX6_roll_223 (Nat.le_of_ble_eq_true rfl) rfl ?_
                  refine mr_iinc (v := (x8 + 1)) (L1 := [some (.ref 34), none, some (.int x2), none, none, none, some (.int x6), some (.int r19), some (.int (x8 + 1)), some (.int x9), some (.int (S.1 36 (((x9 * (S.1 34 2)) + x7).toNatClampNeg))), some (.int (S.1 49 ((((60 : Int32) * x2) + x8).toNatClampNeg)))]) C0 dX6_roll_225 rfl rfl (Nat.le_of_ble_eq_true rfl) rfl ?_
                  refine mr_goto C0 dX6_roll_228 (tgt := 243) (by decide) ?_
                  refine mr_iinc (v := (x9 + 1)) (L1 := [some (.ref 34), none, some (.int x2), none, none, none, some (.int x6), some (.int r19), some (.int (x8 + 1)), some (.int (x9 + 1)), some (.int (S.1 36 (((x9 * (S.1 34 2)) + x7).toNatClampNeg))), some (.int (S.1 49 ((((60 : Int32) * x2) + x8).toNatClampNeg)))]) C0 dX6_roll_243 rfl rfl (Nat.le_of_ble_eq_true rfl) rfl ?_
                  refine mr_goto C0 dX6_roll_246 (tgt := 82) (by decide) ?_
                  refine mr_mask (L1 := [some (.ref 34), none, some (.int x2), none, none, none, some (.int x6), some (.int r19), some (.int (x8 + 1)), some (.int (x9 + 1)), none, none]) C0 [true, false, true, false, false, false, true, true, true, true, false, false] rfl ?_
                  exact h zp0 zl0 ze0 zs0 zm0 zargs0 zbelow0 zmeth0 zc0 zD0 zad0 zac0 C0 hr0 hk0
                · have h := h.2 c17
                  refine mr_iload C0 dX6_roll_212 rfl ?_
                  refine mr_goto C0 dX6_roll_214 (tgt := 223) (by decide) ?_
                  refine mr_istore (L1 := [some (.ref 34), none, some (.int x2), none, none, none, some (.int x6), some (.int x7), some (.int x8), some (.int x9), some (.int (S.1 36 (((x9 * (S.1 34 2)) + x7).toNatClampNeg))), some (.int (S.1 49 ((((60 : Int32) * x2) + x8).toNatClampNeg)))]) C0 dX6_roll_223 (Nat.le_of_ble_eq_true rfl) rfl ?_
                  refine mr_iinc (v := (x8 + 1)) (L1 := [some (.ref 34), none, some (.int x2), none, none, none, some (.int x6), some (.int x7), some (.int (x8 + 1)), some (.int x9), some (.int (S.1 36 (((x9 * (S.1 34 2)) + x7).toNatClampNeg))), some (.int (S.1 49 ((((60 : Int32) * x2) + x8).toNatClampNeg)))]) C0 dX6_roll_225 rfl rfl (Nat.le_of_ble_eq_true rfl) rfl ?_
                  refine mr_goto C0 dX6_roll_228 (tgt := 243) (by decide) ?_
                  refine mr_iinc (v := (x9 + 1)) (L1 := [some (.ref 34), none, some (.int x2), none, none, none, some (.int x6), some (.int x7), some (.int (x8 + 1)), some (.int (x9 + 1)), some (.int (S.1 36 (((x9 * (S.1 34 2)) + x7).toNatClampNeg))), some (.int (S.1 49 ((((60 : Int32) * x2) + x8).toNatClampNeg)))]) C0 dX6_roll_243 rfl rfl (Nat.le_of_ble_eq_true rfl) rfl ?_
                  refine mr_goto C0 dX6_roll_246 (tgt := 82) (by decide) ?_
                  refine mr_mask (L1 := [some (.ref 34), none, some (.int x2), none, none, none, some (.int x6), some (.int x7), some (.int (x8 + 1)), some (.int (x9 + 1)), none, none]) C0 [true, false, true, false, false, false, true, true, true, true, false, false] rfl ?_
                  exact h zp0 zl0 ze0 zs0 zm0 zargs0 zbelow0 zmeth0 zc0 zD0 zad0 zac0 C0 hr0 hk0
              · have h := h.2 c14
                refine mr_aload_n C0 dX6_roll_189 rfl (i := 0) rfl ?_
                refine mr_iload C0 dX6_roll_190 rfl ?_
                refine mr_callVI C0 mdX6_leftBy dX6_roll_192 clX6_leftBy ml_X6_158 (Nat.le_of_ble_eq_true rfl) rfl rfl arX6_leftBy (as := [.int x7]) rfl (Nat.le_of_ble_eq_true rfl) (Nat.le_of_ble_eq_true rfl) (Nat.le_of_ble_eq_true rfl) fit0 h (fun r21 S20 h => ?_)
                refine mr_goto C0 dX6_roll_195 (tgt := 223) (by decide) ?_
                refine mr_istore (L1 := [some (.ref 34), none, some (.int x2), none, none, none, some (.int x6), some (.int r21), some (.int x8), some (.int x9), some (.int (S.1 36 (((x9 * (S.1 34 2)) + x7).toNatClampNeg))), some (.int (S.1 49 ((((60 : Int32) * x2) + x8).toNatClampNeg)))]) C0 dX6_roll_223 (Nat.le_of_ble_eq_true rfl) rfl ?_
                refine mr_iinc (v := (x8 + 1)) (L1 := [some (.ref 34), none, some (.int x2), none, none, none, some (.int x6), some (.int r21), some (.int (x8 + 1)), some (.int x9), some (.int (S.1 36 (((x9 * (S.1 34 2)) + x7).toNatClampNeg))), some (.int (S.1 49 ((((60 : Int32) * x2) + x8).toNatClampNeg)))]) C0 dX6_roll_225 rfl rfl (Nat.le_of_ble_eq_true rfl) rfl ?_
                refine mr_goto C0 dX6_roll_228 (tgt := 243) (by decide) ?_
                refine mr_iinc (v := (x9 + 1)) (L1 := [some (.ref 34), none, some (.int x2), none, none, none, some (.int x6), some (.int r21), some (.int (x8 + 1)), some (.int (x9 + 1)), some (.int (S.1 36 (((x9 * (S.1 34 2)) + x7).toNatClampNeg))), some (.int (S.1 49 ((((60 : Int32) * x2) + x8).toNatClampNeg)))]) C0 dX6_roll_243 rfl rfl (Nat.le_of_ble_eq_true rfl) rfl ?_
                refine mr_goto C0 dX6_roll_246 (tgt := 82) (by decide) ?_
                refine mr_mask (L1 := [some (.ref 34), none, some (.int x2), none, none, none, some (.int x6), some (.int r21), some (.int (x8 + 1)), some (.int (x9 + 1)), none, none]) C0 [true, false, true, false, false, false, true, true, true, true, false, false] rfl ?_
                exact h zp0 zl0 ze0 zs0 zm0 zargs0 zbelow0 zmeth0 zc0 zD0 zad0 zac0 C0 hr0 hk0
        · have h := h.2 c8
          refine mr_aload_n C0 dX6_roll_138 rfl (i := 0) rfl ?_
          refine mr_iconst (v := 3) C0 dX6_roll_139 (by decide) ?_
          refine mr_callVI C0 mdX6_failed dX6_roll_140 clX6_failed ml_X6_110 (Nat.le_of_ble_eq_true rfl) rfl rfl arX6_failed (as := [.int (3 : Int32)]) rfl (Nat.le_of_ble_eq_true rfl) (Nat.le_of_ble_eq_true rfl) (Nat.le_of_ble_eq_true rfl) fit0 (CallV_of mdX6_failed plX6_failed 0 (Nat.le_of_ble_eq_true rfl) rfl ?_) (fun _ _ h => h)
          intro zp5 zl5 ze5 zs5 zm5 zargs5 zbelow5 zmeth5 zc5 zD5 zad5 zac5 C5 hr5 hk5
          refine mr_aload_n C5 dX6_failed_0 rfl (i := 0) rfl ?_
          refine mr_iload_n C5 dX6_failed_1 rfl (i := 1) rfl ?_
          refine mr_putI C5 dX6_failed_2 fl_X6_61 (Nat.le_of_ble_eq_true rfl) rfl rfl rfl rfl ?_
          refine mr_bipush (v := (-10)) C5 dX6_failed_5 (by decide) ?_
          refine mr_iload_n C5 dX6_failed_7 rfl (i := 1) rfl ?_
          refine mr_isub C5 dX6_failed_8 ?_
          refine mr_topI (y := (-13 : Int32)) (by decide) ?_
          refine mr_iret C5 hr5 hk5 dX6_failed_9 (qI_mk ?_)
          refine mr_iret C0 hr0 hk0 dX6_roll_143 (qI_mk ?_)
          exact h
    · have h := h.2 c3
      refine mr_aload_n C0 dX6_roll_114 rfl (i := 0) rfl ?_
      refine mr_bipush (v := (-9)) C0 dX6_roll_115 (by decide) ?_
      refine mr_callVI C0 mdX6_refused dX6_roll_117 clX6_refused ml_X6_121 (Nat.le_of_ble_eq_true rfl) rfl rfl arX6_refused (as := [.int (-9 : Int32)]) rfl (Nat.le_of_ble_eq_true rfl) (Nat.le_of_ble_eq_true rfl) (Nat.le_of_ble_eq_true rfl) fit0 (CallV_of mdX6_refused plX6_refused 0 (Nat.le_of_ble_eq_true rfl) rfl ?_) (fun _ _ h => h)
      intro zp6 zl6 ze6 zs6 zm6 zargs6 zbelow6 zmeth6 zc6 zD6 zad6 zac6 C6 hr6 hk6
      refine mr_aload_n C6 dX6_refused_0 rfl (i := 0) rfl ?_
      refine mr_iconst (v := 0) C6 dX6_refused_1 (by decide) ?_
      refine mr_putI C6 dX6_refused_2 fl_X6_61 (Nat.le_of_ble_eq_true rfl) rfl rfl rfl rfl ?_
      refine mr_iload_n C6 dX6_refused_5 rfl (i := 1) rfl ?_
      refine mr_iret C6 hr6 hk6 dX6_refused_6 (qI_mk ?_)
      refine mr_iret C0 hr0 hk0 dX6_roll_120 (qI_mk ?_)
      exact h
set_option maxRecDepth 100000 in
set_option maxHeartbeats 4000000 in
theorem eX6_layChances (x1 : Int32) (x2 : Int32) (S : St) (Q : St → Prop) (h : V mdX6_layChances 2 [some (.ref 34), some (.int x1), some (.int x2), some (.int (0 : Int32)), none, none, none, none] [] S (qV Q)) : CallV mdX6_layChances [.ref 34, .int x1, .int x2] S (qV Q) := by
  refine CallV_of mdX6_layChances plX6_layChances 5 (Nat.le_of_ble_eq_true rfl) rfl ?_
  intro zp0 zl0 ze0 zs0 zm0 zargs0 zbelow0 zmeth0 zc0 zD0 zad0 zac0 C0 hr0 hk0
  refine mr_iconst (v := 0) C0 dX6_layChances_0 (by decide) ?_
  refine mr_istore_n (L1 := [some (.ref 34), some (.int x1), some (.int x2), some (.int (0 : Int32)), none, none, none, none]) C0 dX6_layChances_1 rfl (Nat.le_of_ble_eq_true rfl) rfl ?_
  exact h zp0 zl0 ze0 zs0 zm0 zargs0 zbelow0 zmeth0 zc0 zD0 zad0 zac0 C0 hr0 hk0
set_option maxRecDepth 100000 in
set_option maxHeartbeats 4000000 in
theorem eX6_layChances_2 (x1 : Int32) (x2 : Int32) (x3 : Int32) (S : St) (Q : St → Prop) (h : (((6 : Int32) ≤ x3 → V mdX6_layChances 50 [some (.ref 34), some (.int x1), none, some (.int (0 : Int32)), none, none, none, none] [] (sJ (sJ (sJ S 43 6 (0 : Int64)) 34 17 (1 : Int64)) 34 18 (0 : Int64)) (qV Q)) ∧ (¬ (6 : Int32) ≤ x3 → ((¬ x3 = x2 → (vp_in x3 6) ∧ V mdX6_layChances 2 [some (.ref 34), some (.int x1), some (.int x2), some (.int (x3 + 1)), none, none, none, none] [] (sJ S 41 x3.toNatClampNeg (0 : Int64)) (qV Q)) ∧ (x3 = x2 → (vp_in x3 6) ∧ V mdX6_layChances 2 [some (.ref 34), some (.int x1), some (.int x2), some (.int (x3 + 1)), none, none, none, none] [] (sJ S 41 x3.toNatClampNeg (1 : Int64)) (qV Q)))))) : V mdX6_layChances 2 [some (.ref 34), some (.int x1), some (.int x2), some (.int x3), none, none, none, none] [] S (qV Q) := by
  intro zp0 zl0 ze0 zs0 zm0 zargs0 zbelow0 zmeth0 zc0 zD0 zad0 zac0 C0 hr0 hk0
  refine mr_iload_n C0 dX6_layChances_2 rfl (i := 3) rfl ?_
  refine mr_bipush (v := 6) C0 dX6_layChances_3 (by decide) ?_
  refine mr_icmp_ge C0 dX6_layChances_5 (tgt := 30) (by decide) (fun c1 => ?_) (fun c1 => ?_)
  · have h := h.1 c1
    refine mr_aload_n C0 dX6_layChances_30 rfl (i := 0) rfl ?_
    refine mr_getR C0 dX6_layChances_31 fl_X6_35 (Nat.le_of_ble_eq_true rfl) rfl rfl ?_
    refine mr_bipush (v := 6) C0 dX6_layChances_34 (by decide) ?_
    refine mr_lconst (v := 0) C0 dX6_layChances_36 (by decide) ?_
    refine mr_last C0 dX6_layChances_37 (Nat.le_of_ble_eq_true rfl) rfl (by unfold vp_in; decide) ?_
    refine mr_st (S1 := (sJ S 43 6 (0 : Int64))) rfl ?_
    refine mr_aload_n C0 dX6_layChances_38 rfl (i := 0) rfl ?_
    refine mr_lconst (v := 1) C0 dX6_layChances_39 (by decide) ?_
    refine mr_putJ C0 dX6_layChances_40 fl_X6_170 (Nat.le_of_ble_eq_true rfl) rfl rfl ?_
    refine mr_aload_n C0 dX6_layChances_43 rfl (i := 0) rfl ?_
    refine mr_lconst (v := 0) C0 dX6_layChances_44 (by decide) ?_
    refine mr_putJ C0 dX6_layChances_45 fl_X6_174 (Nat.le_of_ble_eq_true rfl) rfl rfl ?_
    refine mr_iconst (v := 0) C0 dX6_layChances_48 (by decide) ?_
    refine mr_istore_n (L1 := [some (.ref 34), some (.int x1), some (.int x2), some (.int (0 : Int32)), none, none, none, none]) C0 dX6_layChances_49 rfl (Nat.le_of_ble_eq_true rfl) rfl ?_
    refine mr_mask (L1 := [some (.ref 34), some (.int x1), none, some (.int (0 : Int32)), none, none, none, none]) C0 [true, true, false, true, false, false, false, false] rfl ?_
    exact h zp0 zl0 ze0 zs0 zm0 zargs0 zbelow0 zmeth0 zc0 zD0 zad0 zac0 C0 hr0 hk0
  · have h := h.2 c1
    refine mr_aload_n C0 dX6_layChances_8 rfl (i := 0) rfl ?_
    refine mr_getR C0 dX6_layChances_9 fl_X6_28 (Nat.le_of_ble_eq_true rfl) rfl rfl ?_
    refine mr_iload_n C0 dX6_layChances_12 rfl (i := 3) rfl ?_
    refine mr_iload_n C0 dX6_layChances_13 rfl (i := 3) rfl ?_
    refine mr_iload_n C0 dX6_layChances_14 rfl (i := 2) rfl ?_
    refine mr_icmp_ne C0 dX6_layChances_15 (tgt := 22) (by decide) (fun c2 => ?_) (fun c2 => ?_)
    · have h := h.1 c2
      refine mr_lconst (v := 0) C0 dX6_layChances_22 (by decide) ?_
      have g3 := h.1
      have h := h.2
      refine mr_last C0 dX6_layChances_23 (Nat.le_of_ble_eq_true rfl) rfl g3 ?_
      refine mr_iinc (v := (x3 + 1)) (L1 := [some (.ref 34), some (.int x1), some (.int x2), some (.int (x3 + 1)), none, none, none, none]) C0 dX6_layChances_24 rfl rfl (Nat.le_of_ble_eq_true rfl) rfl ?_
      refine mr_goto C0 dX6_layChances_27 (tgt := 2) (by decide) ?_
      exact h zp0 zl0 ze0 zs0 zm0 zargs0 zbelow0 zmeth0 zc0 zD0 zad0 zac0 C0 hr0 hk0
    · have h := h.2 c2
      refine mr_lconst (v := 1) C0 dX6_layChances_18 (by decide) ?_
      refine mr_goto C0 dX6_layChances_19 (tgt := 23) (by decide) ?_
      have g4 := h.1
      have h := h.2
      refine mr_last C0 dX6_layChances_23 (Nat.le_of_ble_eq_true rfl) rfl g4 ?_
      refine mr_iinc (v := (x3 + 1)) (L1 := [some (.ref 34), some (.int x1), some (.int x2), some (.int (x3 + 1)), none, none, none, none]) C0 dX6_layChances_24 rfl rfl (Nat.le_of_ble_eq_true rfl) rfl ?_
      refine mr_goto C0 dX6_layChances_27 (tgt := 2) (by decide) ?_
      exact h zp0 zl0 ze0 zs0 zm0 zargs0 zbelow0 zmeth0 zc0 zD0 zad0 zac0 C0 hr0 hk0
set_option maxRecDepth 100000 in
set_option maxHeartbeats 4000000 in
theorem eX6_layChances_50 (x1 : Int32) (x3 : Int32) (S : St) (Q : St → Prop) (h : (((S.1 34 1) ≤ x3 → V mdX6_layChances 373 [some (.ref 34), none, none, some (.int (0 : Int32)), none, none, none, none] [] S (qV Q)) ∧ (¬ (S.1 34 1) ≤ x3 → V mdX6_layChances 86 [some (.ref 34), some (.int x1), none, some (.int x3), some (.int (0 : Int32)), none, none, none] [] (sJ (sJ S 34 17 ((S.2 34 17) * (8 : Int64))) 43 6 ((S.2 43 6) * (8 : Int64))) (qV Q)))) : V mdX6_layChances 50 [some (.ref 34), some (.int x1), none, some (.int x3), none, none, none, none] [] S (qV Q) := by
  intro zp0 zl0 ze0 zs0 zm0 zargs0 zbelow0 zmeth0 zc0 zD0 zad0 zac0 C0 hr0 hk0
  refine mr_iload_n C0 dX6_layChances_50 rfl (i := 3) rfl ?_
  refine mr_aload_n C0 dX6_layChances_51 rfl (i := 0) rfl ?_
  refine mr_getI C0 dX6_layChances_52 fl_X6_69 (Nat.le_of_ble_eq_true rfl) rfl rfl ?_
  refine mr_icmp_ge C0 dX6_layChances_55 (tgt := 371) (by decide) (fun c1 => ?_) (fun c1 => ?_)
  · have h := h.1 c1
    refine mr_iconst (v := 0) C0 dX6_layChances_371 (by decide) ?_
    refine mr_istore_n (L1 := [some (.ref 34), some (.int x1), none, some (.int (0 : Int32)), none, none, none, none]) C0 dX6_layChances_372 rfl (Nat.le_of_ble_eq_true rfl) rfl ?_
    refine mr_mask (L1 := [some (.ref 34), none, none, some (.int (0 : Int32)), none, none, none, none]) C0 [true, false, false, true, false, false, false, false] rfl ?_
    exact h zp0 zl0 ze0 zs0 zm0 zargs0 zbelow0 zmeth0 zc0 zD0 zad0 zac0 C0 hr0 hk0
  · have h := h.2 c1
    refine mr_aload_n C0 dX6_layChances_58 rfl (i := 0) rfl ?_
    refine mr_dup C0 dX6_layChances_59 rfl ?_
    refine mr_getJ C0 dX6_layChances_60 fl_X6_170 (Nat.le_of_ble_eq_true rfl) rfl rfl ?_
    refine mr_ldc2 C0 dX6_layChances_63 cn_X6_177 ?_
    refine mr_lmul C0 dX6_layChances_66 ?_
    refine mr_putJ C0 dX6_layChances_67 fl_X6_170 (Nat.le_of_ble_eq_true rfl) rfl rfl ?_
    refine mr_aload_n C0 dX6_layChances_70 rfl (i := 0) rfl ?_
    refine mr_getR C0 dX6_layChances_71 fl_X6_35 (Nat.le_of_ble_eq_true rfl) rfl rfl ?_
    refine mr_bipush (v := 6) C0 dX6_layChances_74 (by decide) ?_
    refine mr_dup2 C0 dX6_layChances_76 rfl rfl ?_
    refine mr_lald C0 dX6_layChances_77 (Nat.le_of_ble_eq_true rfl) rfl (by unfold vp_in; decide) ?_
    refine mr_topJ (y := (S.2 43 6)) (by first | rfl | simp [sI, sJ, sF, upd, vp_updL]) ?_
    refine mr_ldc2 C0 dX6_layChances_78 cn_X6_177 ?_
    refine mr_lmul C0 dX6_layChances_81 ?_
    refine mr_last C0 dX6_layChances_82 (Nat.le_of_ble_eq_true rfl) rfl (by unfold vp_in; decide) ?_
    refine mr_st (S1 := (sJ (sJ S 34 17 ((S.2 34 17) * (8 : Int64))) 43 6 ((S.2 43 6) * (8 : Int64)))) rfl ?_
    refine mr_iconst (v := 0) C0 dX6_layChances_83 (by decide) ?_
    refine mr_istore (L1 := [some (.ref 34), some (.int x1), none, some (.int x3), some (.int (0 : Int32)), none, none, none]) C0 dX6_layChances_84 (Nat.le_of_ble_eq_true rfl) rfl ?_
    exact h zp0 zl0 ze0 zs0 zm0 zargs0 zbelow0 zmeth0 zc0 zD0 zad0 zac0 C0 hr0 hk0
set_option maxRecDepth 100000 in
set_option maxHeartbeats 4000000 in
theorem eX6_layChances_86 (x1 : Int32) (x3 : Int32) (x4 : Int32) (S : St) (Q : St → Prop) (h : (((S.1 34 2) ≤ x4 → V mdX6_layChances 112 [some (.ref 34), some (.int x1), none, some (.int x3), some (.int (0 : Int32)), none, none, none] [] S (qV Q)) ∧ (¬ (S.1 34 2) ≤ x4 → (vp_in x4 6) ∧ V mdX6_layChances 86 [some (.ref 34), some (.int x1), none, some (.int x3), some (.int (x4 + 1)), none, none, none] [] (sJ S 42 x4.toNatClampNeg (0 : Int64)) (qV Q)))) : V mdX6_layChances 86 [some (.ref 34), some (.int x1), none, some (.int x3), some (.int x4), none, none, none] [] S (qV Q) := by
  intro zp0 zl0 ze0 zs0 zm0 zargs0 zbelow0 zmeth0 zc0 zD0 zad0 zac0 C0 hr0 hk0
  refine mr_iload C0 dX6_layChances_86 rfl ?_
  refine mr_aload_n C0 dX6_layChances_88 rfl (i := 0) rfl ?_
  refine mr_getI C0 dX6_layChances_89 fl_X6_72 (Nat.le_of_ble_eq_true rfl) rfl rfl ?_
  refine mr_icmp_ge C0 dX6_layChances_92 (tgt := 109) (by decide) (fun c1 => ?_) (fun c1 => ?_)
  · have h := h.1 c1
    refine mr_iconst (v := 0) C0 dX6_layChances_109 (by decide) ?_
    refine mr_istore (L1 := [some (.ref 34), some (.int x1), none, some (.int x3), some (.int (0 : Int32)), none, none, none]) C0 dX6_layChances_110 (Nat.le_of_ble_eq_true rfl) rfl ?_
    exact h zp0 zl0 ze0 zs0 zm0 zargs0 zbelow0 zmeth0 zc0 zD0 zad0 zac0 C0 hr0 hk0
  · have h := h.2 c1
    refine mr_aload_n C0 dX6_layChances_95 rfl (i := 0) rfl ?_
    refine mr_getR C0 dX6_layChances_96 fl_X6_32 (Nat.le_of_ble_eq_true rfl) rfl rfl ?_
    refine mr_iload C0 dX6_layChances_99 rfl ?_
    refine mr_lconst (v := 0) C0 dX6_layChances_101 (by decide) ?_
    have g2 := h.1
    have h := h.2
    refine mr_last C0 dX6_layChances_102 (Nat.le_of_ble_eq_true rfl) rfl g2 ?_
    refine mr_iinc (v := (x4 + 1)) (L1 := [some (.ref 34), some (.int x1), none, some (.int x3), some (.int (x4 + 1)), none, none, none]) C0 dX6_layChances_103 rfl rfl (Nat.le_of_ble_eq_true rfl) rfl ?_
    refine mr_goto C0 dX6_layChances_106 (tgt := 86) (by decide) ?_
    exact h zp0 zl0 ze0 zs0 zm0 zargs0 zbelow0 zmeth0 zc0 zD0 zad0 zac0 C0 hr0 hk0
set_option maxRecDepth 100000 in
set_option maxHeartbeats 4000000 in
theorem eX6_layChances_112 (x1 : Int32) (x3 : Int32) (x4 : Int32) (S : St) (Q : St → Prop) (h : (((S.1 34 2) ≤ x4 → V mdX6_layChances 336 [some (.ref 34), some (.int x1), none, some (.int x3), some (.int (0 : Int32)), none, none, none] [] S (qV Q)) ∧ (¬ (S.1 34 2) ≤ x4 → (vp_in x4 6) ∧ (((S.2 41 x4.toNatClampNeg) ≤ (0 : Int64) → V mdX6_layChances 112 [some (.ref 34), some (.int x1), none, some (.int x3), some (.int (x4 + 1)), none, none, none] [] S (qV Q)) ∧ (¬ (S.2 41 x4.toNatClampNeg) ≤ (0 : Int64) → (vp_in ((x3 * (S.1 34 2)) + x4) 30) ∧ ((¬ (S.1 36 (((x3 * (S.1 34 2)) + x4).toNatClampNeg)) = (4 : Int32) → ((¬ (S.1 36 (((x3 * (S.1 34 2)) + x4).toNatClampNeg)) = (1 : Int32) → CallV mdX6_goesOn [.ref 34, .int (S.1 36 (((x3 * (S.1 34 2)) + x4).toNatClampNeg)), .int x1, .int x4] (sJ S 34 18 ((S.2 34 18) ||| ((1 : Int64) <<< (((x3 * (S.1 34 2)) + x4).toInt64 &&& 63)))) (qI fun r8 S7 => (vp_in r8 6) ∧ (vp_in x4 6) ∧ (vp_in r8 6) ∧ V mdX6_layChances 112 [some (.ref 34), some (.int x1), none, some (.int x3), some (.int (x4 + 1)), none, none, none] [] (sJ S7 42 r8.toNatClampNeg ((S7.2 42 r8.toNatClampNeg) + ((8 : Int64) * (S7.2 41 x4.toNatClampNeg)))) (qV Q))) ∧ ((S.1 36 (((x3 * (S.1 34 2)) + x4).toNatClampNeg)) = (1 : Int32) → CallV mdX6_leftOf [.ref 34, .int x1] (sJ S 34 18 ((S.2 34 18) ||| ((1 : Int64) <<< (((x3 * (S.1 34 2)) + x4).toInt64 &&& 63)))) (qI fun r13 S12 => CallV mdX6_rightOf [.ref 34, .int x1] S12 (qI fun r15 S14 => CallV mdX6_leftBy [.ref 34, .int x4] S14 (qI fun r17 S16 => (vp_in r17 6) ∧ (vp_in x4 6) ∧ (vp_in r17 6) ∧ CallV mdX6_rightBy [.ref 34, .int x4] (sJ S16 42 r17.toNatClampNeg ((S16.2 42 r17.toNatClampNeg) + (r13.toInt64 * (S16.2 41 x4.toNatClampNeg)))) (qI fun r22 S21 => (vp_in r22 6) ∧ (vp_in x4 6) ∧ (vp_in r22 6) ∧ (vp_in x4 6) ∧ (vp_in x4 6) ∧ (vp_in x4 6) ∧ V mdX6_layChances 112 [some (.ref 34), some (.int x1), none, some (.int x3), some (.int (x4 + 1)), none, none, none] [] (sJ (sJ S21 42 r22.toNatClampNeg ((S21.2 42 r22.toNatClampNeg) + (r15.toInt64 * (S21.2 41 x4.toNatClampNeg)))) 42 x4.toNatClampNeg (((sJ S21 42 r22.toNatClampNeg ((S21.2 42 r22.toNatClampNeg) + (r15.toInt64 * (S21.2 41 x4.toNatClampNeg)))).2 42 x4.toNatClampNeg) + ((((8 : Int32) - r13) - r15).toInt64 * (S21.2 41 x4.toNatClampNeg)))) (qV Q)))))))) ∧ ((S.1 36 (((x3 * (S.1 34 2)) + x4).toNatClampNeg)) = (4 : Int32) → (vp_in x4 6) ∧ V mdX6_layChances 112 [some (.ref 34), some (.int x1), none, some (.int x3), some (.int (x4 + 1)), none, none, none] [] (sJ (sJ S 34 18 ((S.2 34 18) ||| ((1 : Int64) <<< (((x3 * (S.1 34 2)) + x4).toInt64 &&& 63)))) 43 6 ((S.2 43 6) + ((8 : Int64) * (S.2 41 x4.toNatClampNeg)))) (qV Q)))))))) : V mdX6_layChances 112 [some (.ref 34), some (.int x1), none, some (.int x3), some (.int x4), none, none, none] [] S (qV Q) := by
  intro zp0 zl0 ze0 zs0 zm0 zargs0 zbelow0 zmeth0 zc0 zD0 zad0 zac0 C0 hr0 hk0
  refine mr_iload C0 dX6_layChances_112 rfl ?_
  refine mr_aload_n C0 dX6_layChances_114 rfl (i := 0) rfl ?_
  refine mr_getI C0 dX6_layChances_115 fl_X6_72 (Nat.le_of_ble_eq_true rfl) rfl rfl ?_
  refine mr_icmp_ge C0 dX6_layChances_118 (tgt := 333) (by decide) (fun c1 => ?_) (fun c1 => ?_)
  · have h := h.1 c1
    refine mr_iconst (v := 0) C0 dX6_layChances_333 (by decide) ?_
    refine mr_istore (L1 := [some (.ref 34), some (.int x1), none, some (.int x3), some (.int (0 : Int32)), none, none, none]) C0 dX6_layChances_334 (Nat.le_of_ble_eq_true rfl) rfl ?_
    exact h zp0 zl0 ze0 zs0 zm0 zargs0 zbelow0 zmeth0 zc0 zD0 zad0 zac0 C0 hr0 hk0
  · have h := h.2 c1
    refine mr_aload_n C0 dX6_layChances_121 rfl (i := 0) rfl ?_
    refine mr_getR C0 dX6_layChances_122 fl_X6_28 (Nat.le_of_ble_eq_true rfl) rfl rfl ?_
    refine mr_iload C0 dX6_layChances_125 rfl ?_
    have g2 := h.1
    have h := h.2
    refine mr_lald C0 dX6_layChances_127 (Nat.le_of_ble_eq_true rfl) rfl g2 ?_
    refine mr_lconst (v := 0) C0 dX6_layChances_128 (by decide) ?_
    refine mr_lcmp_le C0 dX6_layChances_129 dX6_layChances_130 (tgt := 327) (by decide) (fun c3 => ?_) (fun c3 => ?_)
    · have h := h.1 c3
      refine mr_iinc (v := (x4 + 1)) (L1 := [some (.ref 34), some (.int x1), none, some (.int x3), some (.int (x4 + 1)), none, none, none]) C0 dX6_layChances_327 rfl rfl (Nat.le_of_ble_eq_true rfl) rfl ?_
      refine mr_goto C0 dX6_layChances_330 (tgt := 112) (by decide) ?_
      exact h zp0 zl0 ze0 zs0 zm0 zargs0 zbelow0 zmeth0 zc0 zD0 zad0 zac0 C0 hr0 hk0
    · have h := h.2 c3
      refine mr_aload_n C0 dX6_layChances_133 rfl (i := 0) rfl ?_
      refine mr_getR C0 dX6_layChances_134 fl_X6_13 (Nat.le_of_ble_eq_true rfl) rfl rfl ?_
      refine mr_iload_n C0 dX6_layChances_137 rfl (i := 3) rfl ?_
      refine mr_aload_n C0 dX6_layChances_138 rfl (i := 0) rfl ?_
      refine mr_getI C0 dX6_layChances_139 fl_X6_72 (Nat.le_of_ble_eq_true rfl) rfl rfl ?_
      refine mr_imul C0 dX6_layChances_142 ?_
      refine mr_iload C0 dX6_layChances_143 rfl ?_
      refine mr_iadd C0 dX6_layChances_145 ?_
      have g4 := h.1
      have h := h.2
      refine mr_iald C0 dX6_layChances_146 (Nat.le_of_ble_eq_true rfl) rfl g4 ?_
      refine mr_istore (L1 := [some (.ref 34), some (.int x1), none, some (.int x3), some (.int x4), some (.int (S.1 36 (((x3 * (S.1 34 2)) + x4).toNatClampNeg))), none, none]) C0 dX6_layChances_147 (Nat.le_of_ble_eq_true rfl) rfl ?_
      refine mr_aload_n C0 dX6_layChances_149 rfl (i := 0) rfl ?_
      refine mr_dup C0 dX6_layChances_150 rfl ?_
      refine mr_getJ C0 dX6_layChances_151 fl_X6_174 (Nat.le_of_ble_eq_true rfl) rfl rfl ?_
      refine mr_lconst (v := 1) C0 dX6_layChances_154 (by decide) ?_
      refine mr_iload_n C0 dX6_layChances_155 rfl (i := 3) rfl ?_
      refine mr_aload_n C0 dX6_layChances_156 rfl (i := 0) rfl ?_
      refine mr_getI C0 dX6_layChances_157 fl_X6_72 (Nat.le_of_ble_eq_true rfl) rfl rfl ?_
      refine mr_imul C0 dX6_layChances_160 ?_
      refine mr_iload C0 dX6_layChances_161 rfl ?_
      refine mr_iadd C0 dX6_layChances_163 ?_
      refine mr_lshl C0 dX6_layChances_164 ?_
      refine mr_lor C0 dX6_layChances_165 ?_
      refine mr_putJ C0 dX6_layChances_166 fl_X6_174 (Nat.le_of_ble_eq_true rfl) rfl rfl ?_
      refine mr_iload C0 dX6_layChances_169 rfl ?_
      refine mr_iconst (v := 4) C0 dX6_layChances_171 (by decide) ?_
      refine mr_icmp_ne C0 dX6_layChances_172 (tgt := 199) (by decide) (fun c5 => ?_) (fun c5 => ?_)
      · have h := h.1 c5
        refine mr_iload C0 dX6_layChances_199 rfl ?_
        refine mr_iconst (v := 1) C0 dX6_layChances_201 (by decide) ?_
        refine mr_icmp_ne C0 dX6_layChances_202 (tgt := 299) (by decide) (fun c6 => ?_) (fun c6 => ?_)
        · have h := h.1 c6
          refine mr_aload_n C0 dX6_layChances_299 rfl (i := 0) rfl ?_
          refine mr_getR C0 dX6_layChances_300 fl_X6_32 (Nat.le_of_ble_eq_true rfl) rfl rfl ?_
          refine mr_aload_n C0 dX6_layChances_303 rfl (i := 0) rfl ?_
          refine mr_iload C0 dX6_layChances_304 rfl ?_
          refine mr_iload_n C0 dX6_layChances_306 rfl (i := 1) rfl ?_
          refine mr_iload C0 dX6_layChances_307 rfl ?_
          refine mr_callVI C0 mdX6_goesOn dX6_layChances_309 clX6_goesOn ml_X6_166 (Nat.le_of_ble_eq_true rfl) rfl rfl arX6_goesOn (as := [.int (S.1 36 (((x3 * (S.1 34 2)) + x4).toNatClampNeg)), .int x1, .int x4]) rfl (Nat.le_of_ble_eq_true rfl) (Nat.le_of_ble_eq_true rfl) (Nat.le_of_ble_eq_true rfl) fit0 h (fun r8 S7 h => ?_)
          refine mr_dup2 C0 dX6_layChances_312 rfl rfl ?_
          have g9 := h.1
          have h := h.2
          refine mr_lald C0 dX6_layChances_313 (Nat.le_of_ble_eq_true rfl) rfl g9 ?_
          refine mr_ldc2 C0 dX6_layChances_314 cn_X6_177 ?_
          refine mr_aload_n C0 dX6_layChances_317 rfl (i := 0) rfl ?_
          refine mr_getR C0 dX6_layChances_318 fl_X6_28 (Nat.le_of_ble_eq_true rfl) rfl rfl ?_
          refine mr_iload C0 dX6_layChances_321 rfl ?_
          have g10 := h.1
          have h := h.2
          refine mr_lald C0 dX6_layChances_323 (Nat.le_of_ble_eq_true rfl) rfl g10 ?_
          refine mr_lmul C0 dX6_layChances_324 ?_
          refine mr_ladd C0 dX6_layChances_325 ?_
          have g11 := h.1
          have h := h.2
          refine mr_last C0 dX6_layChances_326 (Nat.le_of_ble_eq_true rfl) rfl g11 ?_
          refine mr_iinc (v := (x4 + 1)) (L1 := [some (.ref 34), some (.int x1), none, some (.int x3), some (.int (x4 + 1)), some (.int (S.1 36 (((x3 * (S.1 34 2)) + x4).toNatClampNeg))), none, none]) C0 dX6_layChances_327 rfl rfl (Nat.le_of_ble_eq_true rfl) rfl ?_
          refine mr_goto C0 dX6_layChances_330 (tgt := 112) (by decide) ?_
          refine mr_mask (L1 := [some (.ref 34), some (.int x1), none, some (.int x3), some (.int (x4 + 1)), none, none, none]) C0 [true, true, false, true, true, false, false, false] rfl ?_
          exact h zp0 zl0 ze0 zs0 zm0 zargs0 zbelow0 zmeth0 zc0 zD0 zad0 zac0 C0 hr0 hk0
        · have h := h.2 c6
          refine mr_aload_n C0 dX6_layChances_205 rfl (i := 0) rfl ?_
          refine mr_iload_n C0 dX6_layChances_206 rfl (i := 1) rfl ?_
          refine mr_callVI C0 mdX6_leftOf dX6_layChances_207 clX6_leftOf ml_X6_152 (Nat.le_of_ble_eq_true rfl) rfl rfl arX6_leftOf (as := [.int x1]) rfl (Nat.le_of_ble_eq_true rfl) (Nat.le_of_ble_eq_true rfl) (Nat.le_of_ble_eq_true rfl) fit0 h (fun r13 S12 h => ?_)
          refine mr_istore (L1 := [some (.ref 34), some (.int x1), none, some (.int x3), some (.int x4), some (.int (S.1 36 (((x3 * (S.1 34 2)) + x4).toNatClampNeg))), some (.int r13), none]) C0 dX6_layChances_210 (Nat.le_of_ble_eq_true rfl) rfl ?_
          refine mr_aload_n C0 dX6_layChances_212 rfl (i := 0) rfl ?_
          refine mr_iload_n C0 dX6_layChances_213 rfl (i := 1) rfl ?_
          refine mr_callVI C0 mdX6_rightOf dX6_layChances_214 clX6_rightOf ml_X6_155 (Nat.le_of_ble_eq_true rfl) rfl rfl arX6_rightOf (as := [.int x1]) rfl (Nat.le_of_ble_eq_true rfl) (Nat.le_of_ble_eq_true rfl) (Nat.le_of_ble_eq_true rfl) fit0 h (fun r15 S14 h => ?_)
          refine mr_istore (L1 := [some (.ref 34), some (.int x1), none, some (.int x3), some (.int x4), some (.int (S.1 36 (((x3 * (S.1 34 2)) + x4).toNatClampNeg))), some (.int r13), some (.int r15)]) C0 dX6_layChances_217 (Nat.le_of_ble_eq_true rfl) rfl ?_
          refine mr_aload_n C0 dX6_layChances_219 rfl (i := 0) rfl ?_
          refine mr_getR C0 dX6_layChances_220 fl_X6_32 (Nat.le_of_ble_eq_true rfl) rfl rfl ?_
          refine mr_aload_n C0 dX6_layChances_223 rfl (i := 0) rfl ?_
          refine mr_iload C0 dX6_layChances_224 rfl ?_
          refine mr_callVI C0 mdX6_leftBy dX6_layChances_226 clX6_leftBy ml_X6_158 (Nat.le_of_ble_eq_true rfl) rfl rfl arX6_leftBy (as := [.int x4]) rfl (Nat.le_of_ble_eq_true rfl) (Nat.le_of_ble_eq_true rfl) (Nat.le_of_ble_eq_true rfl) fit0 h (fun r17 S16 h => ?_)
          refine mr_dup2 C0 dX6_layChances_229 rfl rfl ?_
          have g18 := h.1
          have h := h.2
          refine mr_lald C0 dX6_layChances_230 (Nat.le_of_ble_eq_true rfl) rfl g18 ?_
          refine mr_iload C0 dX6_layChances_231 rfl ?_
          refine mr_i2l C0 dX6_layChances_233 ?_
          refine mr_aload_n C0 dX6_layChances_234 rfl (i := 0) rfl ?_
          refine mr_getR C0 dX6_layChances_235 fl_X6_28 (Nat.le_of_ble_eq_true rfl) rfl rfl ?_
          refine mr_iload C0 dX6_layChances_238 rfl ?_
          have g19 := h.1
          have h := h.2
          refine mr_lald C0 dX6_layChances_240 (Nat.le_of_ble_eq_true rfl) rfl g19 ?_
          refine mr_lmul C0 dX6_layChances_241 ?_
          refine mr_ladd C0 dX6_layChances_242 ?_
          have g20 := h.1
          have h := h.2
          refine mr_last C0 dX6_layChances_243 (Nat.le_of_ble_eq_true rfl) rfl g20 ?_
          refine mr_aload_n C0 dX6_layChances_244 rfl (i := 0) rfl ?_
          refine mr_getR C0 dX6_layChances_245 fl_X6_32 (Nat.le_of_ble_eq_true rfl) rfl rfl ?_
          refine mr_aload_n C0 dX6_layChances_248 rfl (i := 0) rfl ?_
          refine mr_iload C0 dX6_layChances_249 rfl ?_
          refine mr_callVI C0 mdX6_rightBy dX6_layChances_251 clX6_rightBy ml_X6_161 (Nat.le_of_ble_eq_true rfl) rfl rfl arX6_rightBy (as := [.int x4]) rfl (Nat.le_of_ble_eq_true rfl) (Nat.le_of_ble_eq_true rfl) (Nat.le_of_ble_eq_true rfl) fit0 h (fun r22 S21 h => ?_)
          refine mr_dup2 C0 dX6_layChances_254 rfl rfl ?_
          have g23 := h.1
          have h := h.2
          refine mr_lald C0 dX6_layChances_255 (Nat.le_of_ble_eq_true rfl) rfl g23 ?_
          refine mr_iload C0 dX6_layChances_256 rfl ?_
          refine mr_i2l C0 dX6_layChances_258 ?_
          refine mr_aload_n C0 dX6_layChances_259 rfl (i := 0) rfl ?_
          refine mr_getR C0 dX6_layChances_260 fl_X6_28 (Nat.le_of_ble_eq_true rfl) rfl rfl ?_
          refine mr_iload C0 dX6_layChances_263 rfl ?_
          have g24 := h.1
          have h := h.2
          refine mr_lald C0 dX6_layChances_265 (Nat.le_of_ble_eq_true rfl) rfl g24 ?_
          refine mr_lmul C0 dX6_layChances_266 ?_
          refine mr_ladd C0 dX6_layChances_267 ?_
          have g25 := h.1
          have h := h.2
          refine mr_last C0 dX6_layChances_268 (Nat.le_of_ble_eq_true rfl) rfl g25 ?_
          refine mr_aload_n C0 dX6_layChances_269 rfl (i := 0) rfl ?_
          refine mr_getR C0 dX6_layChances_270 fl_X6_32 (Nat.le_of_ble_eq_true rfl) rfl rfl ?_
          refine mr_iload C0 dX6_layChances_273 rfl ?_
          refine mr_dup2 C0 dX6_layChances_275 rfl rfl ?_
          have g26 := h.1
          have h := h.2
          refine mr_lald C0 dX6_layChances_276 (Nat.le_of_ble_eq_true rfl) rfl g26 ?_
          refine mr_bipush (v := 8) C0 dX6_layChances_277 (by decide) ?_
          refine mr_iload C0 dX6_layChances_279 rfl ?_
          refine mr_isub C0 dX6_layChances_281 ?_
          refine mr_iload C0 dX6_layChances_282 rfl ?_
          refine mr_isub C0 dX6_layChances_284 ?_
          refine mr_i2l C0 dX6_layChances_285 ?_
          refine mr_aload_n C0 dX6_layChances_286 rfl (i := 0) rfl ?_
          refine mr_getR C0 dX6_layChances_287 fl_X6_28 (Nat.le_of_ble_eq_true rfl) rfl rfl ?_
          refine mr_iload C0 dX6_layChances_290 rfl ?_
          have g27 := h.1
          have h := h.2
          refine mr_lald C0 dX6_layChances_292 (Nat.le_of_ble_eq_true rfl) rfl g27 ?_
          refine mr_topJ (y := (S21.2 41 x4.toNatClampNeg)) (by first | rfl | simp [sI, sJ, sF, upd, vp_updL]) ?_
          refine mr_lmul C0 dX6_layChances_293 ?_
          refine mr_ladd C0 dX6_layChances_294 ?_
          have g28 := h.1
          have h := h.2
          refine mr_last C0 dX6_layChances_295 (Nat.le_of_ble_eq_true rfl) rfl g28 ?_
          refine mr_goto C0 dX6_layChances_296 (tgt := 327) (by decide) ?_
          refine mr_iinc (v := (x4 + 1)) (L1 := [some (.ref 34), some (.int x1), none, some (.int x3), some (.int (x4 + 1)), some (.int (S.1 36 (((x3 * (S.1 34 2)) + x4).toNatClampNeg))), some (.int r13), some (.int r15)]) C0 dX6_layChances_327 rfl rfl (Nat.le_of_ble_eq_true rfl) rfl ?_
          refine mr_goto C0 dX6_layChances_330 (tgt := 112) (by decide) ?_
          refine mr_mask (L1 := [some (.ref 34), some (.int x1), none, some (.int x3), some (.int (x4 + 1)), none, none, none]) C0 [true, true, false, true, true, false, false, false] rfl ?_
          exact h zp0 zl0 ze0 zs0 zm0 zargs0 zbelow0 zmeth0 zc0 zD0 zad0 zac0 C0 hr0 hk0
      · have h := h.2 c5
        refine mr_aload_n C0 dX6_layChances_175 rfl (i := 0) rfl ?_
        refine mr_getR C0 dX6_layChances_176 fl_X6_35 (Nat.le_of_ble_eq_true rfl) rfl rfl ?_
        refine mr_bipush (v := 6) C0 dX6_layChances_179 (by decide) ?_
        refine mr_dup2 C0 dX6_layChances_181 rfl rfl ?_
        refine mr_lald C0 dX6_layChances_182 (Nat.le_of_ble_eq_true rfl) rfl (by unfold vp_in; decide) ?_
        refine mr_topJ (y := (S.2 43 6)) (by first | rfl | simp [sI, sJ, sF, upd, vp_updL]) ?_
        refine mr_ldc2 C0 dX6_layChances_183 cn_X6_177 ?_
        refine mr_aload_n C0 dX6_layChances_186 rfl (i := 0) rfl ?_
        refine mr_getR C0 dX6_layChances_187 fl_X6_28 (Nat.le_of_ble_eq_true rfl) rfl rfl ?_
        refine mr_iload C0 dX6_layChances_190 rfl ?_
        have g29 := h.1
        have h := h.2
        refine mr_lald C0 dX6_layChances_192 (Nat.le_of_ble_eq_true rfl) rfl g29 ?_
        refine mr_topJ (y := (S.2 41 x4.toNatClampNeg)) (by first | rfl | simp [sI, sJ, sF, upd, vp_updL]) ?_
        refine mr_lmul C0 dX6_layChances_193 ?_
        refine mr_ladd C0 dX6_layChances_194 ?_
        refine mr_last C0 dX6_layChances_195 (Nat.le_of_ble_eq_true rfl) rfl (by unfold vp_in; decide) ?_
        refine mr_st (S1 := (sJ (sJ S 34 18 ((S.2 34 18) ||| ((1 : Int64) <<< (((x3 * (S.1 34 2)) + x4).toInt64 &&& 63)))) 43 6 ((S.2 43 6) + ((8 : Int64) * (S.2 41 x4.toNatClampNeg))))) rfl ?_
        refine mr_goto C0 dX6_layChances_196 (tgt := 327) (by decide) ?_
        refine mr_iinc (v := (x4 + 1)) (L1 := [some (.ref 34), some (.int x1), none, some (.int x3), some (.int (x4 + 1)), some (.int (S.1 36 (((x3 * (S.1 34 2)) + x4).toNatClampNeg))), none, none]) C0 dX6_layChances_327 rfl rfl (Nat.le_of_ble_eq_true rfl) rfl ?_
        refine mr_goto C0 dX6_layChances_330 (tgt := 112) (by decide) ?_
        refine mr_mask (L1 := [some (.ref 34), some (.int x1), none, some (.int x3), some (.int (x4 + 1)), none, none, none]) C0 [true, true, false, true, true, false, false, false] rfl ?_
        exact h zp0 zl0 ze0 zs0 zm0 zargs0 zbelow0 zmeth0 zc0 zD0 zad0 zac0 C0 hr0 hk0
set_option maxRecDepth 100000 in
set_option maxHeartbeats 4000000 in
theorem eX6_layChances_336 (x1 : Int32) (x3 : Int32) (x4 : Int32) (S : St) (Q : St → Prop) (h : (((S.1 34 2) ≤ x4 → V mdX6_layChances 50 [some (.ref 34), some (.int x1), none, some (.int (x3 + 1)), none, none, none, none] [] S (qV Q)) ∧ (¬ (S.1 34 2) ≤ x4 → (vp_in x4 6) ∧ (vp_in x4 6) ∧ V mdX6_layChances 336 [some (.ref 34), some (.int x1), none, some (.int x3), some (.int (x4 + 1)), none, none, none] [] (sJ S 41 x4.toNatClampNeg (S.2 42 x4.toNatClampNeg)) (qV Q)))) : V mdX6_layChances 336 [some (.ref 34), some (.int x1), none, some (.int x3), some (.int x4), none, none, none] [] S (qV Q) := by
  intro zp0 zl0 ze0 zs0 zm0 zargs0 zbelow0 zmeth0 zc0 zD0 zad0 zac0 C0 hr0 hk0
  refine mr_iload C0 dX6_layChances_336 rfl ?_
  refine mr_aload_n C0 dX6_layChances_338 rfl (i := 0) rfl ?_
  refine mr_getI C0 dX6_layChances_339 fl_X6_72 (Nat.le_of_ble_eq_true rfl) rfl rfl ?_
  refine mr_icmp_ge C0 dX6_layChances_342 (tgt := 365) (by decide) (fun c1 => ?_) (fun c1 => ?_)
  · have h := h.1 c1
    refine mr_iinc (v := (x3 + 1)) (L1 := [some (.ref 34), some (.int x1), none, some (.int (x3 + 1)), some (.int x4), none, none, none]) C0 dX6_layChances_365 rfl rfl (Nat.le_of_ble_eq_true rfl) rfl ?_
    refine mr_goto C0 dX6_layChances_368 (tgt := 50) (by decide) ?_
    refine mr_mask (L1 := [some (.ref 34), some (.int x1), none, some (.int (x3 + 1)), none, none, none, none]) C0 [true, true, false, true, false, false, false, false] rfl ?_
    exact h zp0 zl0 ze0 zs0 zm0 zargs0 zbelow0 zmeth0 zc0 zD0 zad0 zac0 C0 hr0 hk0
  · have h := h.2 c1
    refine mr_aload_n C0 dX6_layChances_345 rfl (i := 0) rfl ?_
    refine mr_getR C0 dX6_layChances_346 fl_X6_28 (Nat.le_of_ble_eq_true rfl) rfl rfl ?_
    refine mr_iload C0 dX6_layChances_349 rfl ?_
    refine mr_aload_n C0 dX6_layChances_351 rfl (i := 0) rfl ?_
    refine mr_getR C0 dX6_layChances_352 fl_X6_32 (Nat.le_of_ble_eq_true rfl) rfl rfl ?_
    refine mr_iload C0 dX6_layChances_355 rfl ?_
    have g2 := h.1
    have h := h.2
    refine mr_lald C0 dX6_layChances_357 (Nat.le_of_ble_eq_true rfl) rfl g2 ?_
    have g3 := h.1
    have h := h.2
    refine mr_last C0 dX6_layChances_358 (Nat.le_of_ble_eq_true rfl) rfl g3 ?_
    refine mr_iinc (v := (x4 + 1)) (L1 := [some (.ref 34), some (.int x1), none, some (.int x3), some (.int (x4 + 1)), none, none, none]) C0 dX6_layChances_359 rfl rfl (Nat.le_of_ble_eq_true rfl) rfl ?_
    refine mr_goto C0 dX6_layChances_362 (tgt := 336) (by decide) ?_
    exact h zp0 zl0 ze0 zs0 zm0 zargs0 zbelow0 zmeth0 zc0 zD0 zad0 zac0 C0 hr0 hk0
set_option maxRecDepth 100000 in
set_option maxHeartbeats 4000000 in
theorem eX6_layChances_373 (x3 : Int32) (S : St) (Q : St → Prop) (h : (((S.1 34 2) ≤ x3 → Q S) ∧ (¬ (S.1 34 2) ≤ x3 → (vp_in x3 6) ∧ (vp_in x3 7) ∧ V mdX6_layChances 373 [some (.ref 34), none, none, some (.int (x3 + 1)), none, none, none, none] [] (sJ S 43 x3.toNatClampNeg (S.2 41 x3.toNatClampNeg)) (qV Q)))) : V mdX6_layChances 373 [some (.ref 34), none, none, some (.int x3), none, none, none, none] [] S (qV Q) := by
  intro zp0 zl0 ze0 zs0 zm0 zargs0 zbelow0 zmeth0 zc0 zD0 zad0 zac0 C0 hr0 hk0
  refine mr_iload_n C0 dX6_layChances_373 rfl (i := 3) rfl ?_
  refine mr_aload_n C0 dX6_layChances_374 rfl (i := 0) rfl ?_
  refine mr_getI C0 dX6_layChances_375 fl_X6_72 (Nat.le_of_ble_eq_true rfl) rfl rfl ?_
  refine mr_icmp_ge C0 dX6_layChances_378 (tgt := 399) (by decide) (fun c1 => ?_) (fun c1 => ?_)
  · have h := h.1 c1
    refine mr_vret C0 hr0 hk0 dX6_layChances_399 (qV_mk ?_)
    exact h
  · have h := h.2 c1
    refine mr_aload_n C0 dX6_layChances_381 rfl (i := 0) rfl ?_
    refine mr_getR C0 dX6_layChances_382 fl_X6_35 (Nat.le_of_ble_eq_true rfl) rfl rfl ?_
    refine mr_iload_n C0 dX6_layChances_385 rfl (i := 3) rfl ?_
    refine mr_aload_n C0 dX6_layChances_386 rfl (i := 0) rfl ?_
    refine mr_getR C0 dX6_layChances_387 fl_X6_28 (Nat.le_of_ble_eq_true rfl) rfl rfl ?_
    refine mr_iload_n C0 dX6_layChances_390 rfl (i := 3) rfl ?_
    have g2 := h.1
    have h := h.2
    refine mr_lald C0 dX6_layChances_391 (Nat.le_of_ble_eq_true rfl) rfl g2 ?_
    have g3 := h.1
    have h := h.2
    refine mr_last C0 dX6_layChances_392 (Nat.le_of_ble_eq_true rfl) rfl g3 ?_
    refine mr_iinc (v := (x3 + 1)) (L1 := [some (.ref 34), none, none, some (.int (x3 + 1)), none, none, none, none]) C0 dX6_layChances_393 rfl rfl (Nat.le_of_ble_eq_true rfl) rfl ?_
    refine mr_goto C0 dX6_layChances_396 (tgt := 373) (by decide) ?_
    exact h zp0 zl0 ze0 zs0 zm0 zargs0 zbelow0 zmeth0 zc0 zD0 zad0 zac0 C0 hr0 hk0
set_option maxRecDepth 100000 in
set_option maxHeartbeats 4000000 in
theorem eX6_layVote (x1 : Int32) (S : St) (Q : St → Prop) (h : (vp_in x1 8) ∧ (vp_in x1 8) ∧ CallV mdX6_layChances [.ref 34, .int (S.1 39 x1.toNatClampNeg), .int (S.1 40 x1.toNatClampNeg)] S (qV fun S3 => Q S3)) : CallV mdX6_layVote [.ref 34, .int x1] S (qV Q) := by
  refine CallV_of mdX6_layVote plX6_layVote 0 (Nat.le_of_ble_eq_true rfl) rfl ?_
  intro zp0 zl0 ze0 zs0 zm0 zargs0 zbelow0 zmeth0 zc0 zD0 zad0 zac0 C0 hr0 hk0
  refine mr_aload_n C0 dX6_layVote_0 rfl (i := 0) rfl ?_
  refine mr_aload_n C0 dX6_layVote_1 rfl (i := 0) rfl ?_
  refine mr_getR C0 dX6_layVote_2 fl_X6_22 (Nat.le_of_ble_eq_true rfl) rfl rfl ?_
  refine mr_iload_n C0 dX6_layVote_5 rfl (i := 1) rfl ?_
  have g1 := h.1
  have h := h.2
  refine mr_iald C0 dX6_layVote_6 (Nat.le_of_ble_eq_true rfl) rfl g1 ?_
  refine mr_aload_n C0 dX6_layVote_7 rfl (i := 0) rfl ?_
  refine mr_getR C0 dX6_layVote_8 fl_X6_25 (Nat.le_of_ble_eq_true rfl) rfl rfl ?_
  refine mr_iload_n C0 dX6_layVote_11 rfl (i := 1) rfl ?_
  have g2 := h.1
  have h := h.2
  refine mr_iald C0 dX6_layVote_12 (Nat.le_of_ble_eq_true rfl) rfl g2 ?_
  refine mr_callVV C0 mdX6_layChances dX6_layVote_13 clX6_layChances ml_X6_179 (Nat.le_of_ble_eq_true rfl) rfl rfl arX6_layChances (as := [.int (S.1 39 x1.toNatClampNeg), .int (S.1 40 x1.toNatClampNeg)]) rfl (Nat.le_of_ble_eq_true rfl) (Nat.le_of_ble_eq_true rfl) (Nat.le_of_ble_eq_true rfl) fit0 h (fun S3 h => ?_)
  refine mr_vret C0 hr0 hk0 dX6_layVote_16 (qV_mk ?_)
  exact h
set_option maxRecDepth 100000 in
set_option maxHeartbeats 4000000 in
theorem eX6_chance (x1 : Int32) (x2 : Int32) (x3 : Int32) (S : St) (Q : Int64 → St → Prop) (h : ((x1.toInt64 < (0 : Int64) → Q (-9223372036854775808 : Int64) S) ∧ (¬ x1.toInt64 < (0 : Int64) → ((((S.1 34 11).toInt64 - (1 : Int64)) < x1.toInt64 → Q (-9223372036854775808 : Int64) S) ∧ (¬ ((S.1 34 11).toInt64 - (1 : Int64)) < x1.toInt64 → ((x2 = (-1 : Int32) → ((x3.toInt64 < (0 : Int64) → Q (-9223372036854775808 : Int64) S) ∧ (¬ x3.toInt64 < (0 : Int64) → (((1 : Int64) < x3.toInt64 → Q (-9223372036854775808 : Int64) S) ∧ (¬ (1 : Int64) < x3.toInt64 → (vp_in x1 8) ∧ (vp_in x1 8) ∧ CallV mdX6_layChances [.ref 34, .int (S.1 39 x1.toNatClampNeg), .int (S.1 40 x1.toNatClampNeg)] S (qV fun S8 => ((0 ≤ x2 → (vp_in x2 7) ∧ CallV mdX6_told [.long (S8.2 43 x2.toNatClampNeg), .long (S8.2 34 17), .int x3] S8 (qJ fun r12 S11 => Q r12 S11)) ∧ (¬ 0 ≤ x2 → CallV mdX6_told [.long (S8.2 43 6), .long (S8.2 34 17), .int x3] S8 (qJ fun r14 S13 => Q r14 S13))))))))) ∧ (¬ x2 = (-1 : Int32) → ((x2.toInt64 < (0 : Int64) → Q (-9223372036854775808 : Int64) S) ∧ (¬ x2.toInt64 < (0 : Int64) → ((((S.1 34 2).toInt64 - (1 : Int64)) < x2.toInt64 → Q (-9223372036854775808 : Int64) S) ∧ (¬ ((S.1 34 2).toInt64 - (1 : Int64)) < x2.toInt64 → ((x3.toInt64 < (0 : Int64) → Q (-9223372036854775808 : Int64) S) ∧ (¬ x3.toInt64 < (0 : Int64) → (((1 : Int64) < x3.toInt64 → Q (-9223372036854775808 : Int64) S) ∧ (¬ (1 : Int64) < x3.toInt64 → (vp_in x1 8) ∧ (vp_in x1 8) ∧ CallV mdX6_layChances [.ref 34, .int (S.1 39 x1.toNatClampNeg), .int (S.1 40 x1.toNatClampNeg)] S (qV fun S21 => ((0 ≤ x2 → (vp_in x2 7) ∧ CallV mdX6_told [.long (S21.2 43 x2.toNatClampNeg), .long (S21.2 34 17), .int x3] S21 (qJ fun r25 S24 => Q r25 S24)) ∧ (¬ 0 ≤ x2 → CallV mdX6_told [.long (S21.2 43 6), .long (S21.2 34 17), .int x3] S21 (qJ fun r27 S26 => Q r27 S26))))))))))))))))))) : CallV mdX6_chance [.ref 34, .int x1, .int x2, .int x3] S (qJ Q) := by
  refine CallV_of mdX6_chance plX6_chance 0 (Nat.le_of_ble_eq_true rfl) rfl ?_
  intro zp0 zl0 ze0 zs0 zm0 zargs0 zbelow0 zmeth0 zc0 zD0 zad0 zac0 C0 hr0 hk0
  refine mr_aload_n C0 dX6_chance_0 rfl (i := 0) rfl ?_
  refine mr_iload_n C0 dX6_chance_1 rfl (i := 1) rfl ?_
  refine mr_callVI C0 mdX6_noVote dX6_chance_2 clX6_noVote ml_X6_149 (Nat.le_of_ble_eq_true rfl) rfl rfl arX6_noVote (as := [.int x1]) rfl (Nat.le_of_ble_eq_true rfl) (Nat.le_of_ble_eq_true rfl) (Nat.le_of_ble_eq_true rfl) fit0 (CallV_of mdX6_noVote plX6_noVote 0 (Nat.le_of_ble_eq_true rfl) rfl ?_) (fun _ _ h => h)
  intro zp1 zl1 ze1 zs1 zm1 zargs1 zbelow1 zmeth1 zc1 zD1 zad1 zac1 C1 hr1 hk1
  refine mr_iload_n C1 dX6_noVote_0 rfl (i := 1) rfl ?_
  refine mr_i2l C1 dX6_noVote_1 ?_
  refine mr_lconst (v := 0) C1 dX6_noVote_2 (by decide) ?_
  refine mr_aload_n C1 dX6_noVote_3 rfl (i := 0) rfl ?_
  refine mr_getI C1 dX6_noVote_4 fl_X6_138 (Nat.le_of_ble_eq_true rfl) rfl rfl ?_
  refine mr_i2l C1 dX6_noVote_7 ?_
  refine mr_lconst (v := 1) C1 dX6_noVote_8 (by decide) ?_
  refine mr_lsub C1 dX6_noVote_9 ?_
  refine mr_callSI C1 mdX6_in dX6_noVote_10 clX6_in ml_X6_79 arX6_in (as := [.long x1.toInt64, .long (0 : Int64), .long ((S.1 34 11).toInt64 - (1 : Int64))]) rfl (Nat.le_of_ble_eq_true rfl) (Nat.le_of_ble_eq_true rfl) (Nat.le_of_ble_eq_true rfl) fit0 (CallV_of mdX6_in plX6_in 0 (Nat.le_of_ble_eq_true rfl) rfl ?_) (fun _ _ h => h)
  intro zp2 zl2 ze2 zs2 zm2 zargs2 zbelow2 zmeth2 zc2 zD2 zad2 zac2 C2 hr2 hk2
  refine mr_lload_n C2 dX6_in_0 rfl (i := 0) rfl ?_
  refine mr_lload_n C2 dX6_in_1 rfl (i := 2) rfl ?_
  refine mr_lcmp_lt C2 dX6_in_2 dX6_in_3 (tgt := 17) (by decide) (fun c1 => ?_) (fun c1 => ?_)
  · have h := h.1 c1
    refine mr_iconst (v := 0) C2 dX6_in_17 (by decide) ?_
    refine mr_zret C2 hr2 hk2 dX6_in_18 rfl (qI_mk ?_)
    refine mr_if_ne C1 dX6_noVote_13 (tgt := 20) (by decide) (fun q => absurd q (by decide)) (fun _ => ?_)
    refine mr_iconst (v := 1) C1 dX6_noVote_16 (by decide) ?_
    refine mr_goto C1 dX6_noVote_17 (tgt := 21) (by decide) ?_
    refine mr_zret C1 hr1 hk1 dX6_noVote_21 rfl (qI_mk ?_)
    refine mr_if_ne C0 dX6_chance_5 (tgt := 31) (by decide) (fun _ => ?_) (fun q => absurd q (by decide))
    refine mr_callSJ C0 mdX6_lost dX6_chance_31 clX6_lost ml_X6_65 arX6_lost (as := []) rfl (Nat.le_of_ble_eq_true rfl) (Nat.le_of_ble_eq_true rfl) (Nat.le_of_ble_eq_true rfl) fit0 (CallV_of mdX6_lost plX6_lost 0 (Nat.le_of_ble_eq_true rfl) rfl ?_) (fun _ _ h => h)
    intro zp3 zl3 ze3 zs3 zm3 zargs3 zbelow3 zmeth3 zc3 zD3 zad3 zac3 C3 hr3 hk3
    refine mr_ldc2 C3 dX6_lost_0 cn_X6_59 ?_
    refine mr_lret C3 hr3 hk3 dX6_lost_3 (qJ_mk ?_)
    refine mr_lret C0 hr0 hk0 dX6_chance_34 (qJ_mk ?_)
    exact h
  · have h := h.2 c1
    refine mr_lload_n C2 dX6_in_6 rfl (i := 0) rfl ?_
    refine mr_lload C2 dX6_in_7 rfl ?_
    refine mr_lcmp_gt C2 dX6_in_9 dX6_in_10 (tgt := 17) (by decide) (fun c2 => ?_) (fun c2 => ?_)
    · have h := h.1 c2
      refine mr_iconst (v := 0) C2 dX6_in_17 (by decide) ?_
      refine mr_zret C2 hr2 hk2 dX6_in_18 rfl (qI_mk ?_)
      refine mr_if_ne C1 dX6_noVote_13 (tgt := 20) (by decide) (fun q => absurd q (by decide)) (fun _ => ?_)
      refine mr_iconst (v := 1) C1 dX6_noVote_16 (by decide) ?_
      refine mr_goto C1 dX6_noVote_17 (tgt := 21) (by decide) ?_
      refine mr_zret C1 hr1 hk1 dX6_noVote_21 rfl (qI_mk ?_)
      refine mr_if_ne C0 dX6_chance_5 (tgt := 31) (by decide) (fun _ => ?_) (fun q => absurd q (by decide))
      refine mr_callSJ C0 mdX6_lost dX6_chance_31 clX6_lost ml_X6_65 arX6_lost (as := []) rfl (Nat.le_of_ble_eq_true rfl) (Nat.le_of_ble_eq_true rfl) (Nat.le_of_ble_eq_true rfl) fit0 (CallV_of mdX6_lost plX6_lost 0 (Nat.le_of_ble_eq_true rfl) rfl ?_) (fun _ _ h => h)
      intro zp4 zl4 ze4 zs4 zm4 zargs4 zbelow4 zmeth4 zc4 zD4 zad4 zac4 C4 hr4 hk4
      refine mr_ldc2 C4 dX6_lost_0 cn_X6_59 ?_
      refine mr_lret C4 hr4 hk4 dX6_lost_3 (qJ_mk ?_)
      refine mr_lret C0 hr0 hk0 dX6_chance_34 (qJ_mk ?_)
      exact h
    · have h := h.2 c2
      refine mr_iconst (v := 1) C2 dX6_in_13 (by decide) ?_
      refine mr_goto C2 dX6_in_14 (tgt := 18) (by decide) ?_
      refine mr_zret C2 hr2 hk2 dX6_in_18 rfl (qI_mk ?_)
      refine mr_if_ne C1 dX6_noVote_13 (tgt := 20) (by decide) (fun _ => ?_) (fun q => absurd q (by decide))
      refine mr_iconst (v := 0) C1 dX6_noVote_20 (by decide) ?_
      refine mr_zret C1 hr1 hk1 dX6_noVote_21 rfl (qI_mk ?_)
      refine mr_if_ne C0 dX6_chance_5 (tgt := 31) (by decide) (fun q => absurd q (by decide)) (fun _ => ?_)
      refine mr_iload_n C0 dX6_chance_8 rfl (i := 2) rfl ?_
      refine mr_iconst (v := (-1)) C0 dX6_chance_9 (by decide) ?_
      refine mr_icmp_eq C0 dX6_chance_10 (tgt := 21) (by decide) (fun c3 => ?_) (fun c3 => ?_)
      · have h := h.1 c3
        refine mr_iload_n C0 dX6_chance_21 rfl (i := 3) rfl ?_
        refine mr_i2l C0 dX6_chance_22 ?_
        refine mr_lconst (v := 0) C0 dX6_chance_23 (by decide) ?_
        refine mr_lconst (v := 1) C0 dX6_chance_24 (by decide) ?_
        refine mr_callSI C0 mdX6_in dX6_chance_25 clX6_in ml_X6_79 arX6_in (as := [.long x3.toInt64, .long (0 : Int64), .long (1 : Int64)]) rfl (Nat.le_of_ble_eq_true rfl) (Nat.le_of_ble_eq_true rfl) (Nat.le_of_ble_eq_true rfl) fit0 (CallV_of mdX6_in plX6_in 0 (Nat.le_of_ble_eq_true rfl) rfl ?_) (fun _ _ h => h)
        intro zp5 zl5 ze5 zs5 zm5 zargs5 zbelow5 zmeth5 zc5 zD5 zad5 zac5 C5 hr5 hk5
        refine mr_lload_n C5 dX6_in_0 rfl (i := 0) rfl ?_
        refine mr_lload_n C5 dX6_in_1 rfl (i := 2) rfl ?_
        refine mr_lcmp_lt C5 dX6_in_2 dX6_in_3 (tgt := 17) (by decide) (fun c4 => ?_) (fun c4 => ?_)
        · have h := h.1 c4
          refine mr_iconst (v := 0) C5 dX6_in_17 (by decide) ?_
          refine mr_zret C5 hr5 hk5 dX6_in_18 rfl (qI_mk ?_)
          refine mr_if_ne C0 dX6_chance_28 (tgt := 35) (by decide) (fun q => absurd q (by decide)) (fun _ => ?_)
          refine mr_callSJ C0 mdX6_lost dX6_chance_31 clX6_lost ml_X6_65 arX6_lost (as := []) rfl (Nat.le_of_ble_eq_true rfl) (Nat.le_of_ble_eq_true rfl) (Nat.le_of_ble_eq_true rfl) fit0 (CallV_of mdX6_lost plX6_lost 0 (Nat.le_of_ble_eq_true rfl) rfl ?_) (fun _ _ h => h)
          intro zp6 zl6 ze6 zs6 zm6 zargs6 zbelow6 zmeth6 zc6 zD6 zad6 zac6 C6 hr6 hk6
          refine mr_ldc2 C6 dX6_lost_0 cn_X6_59 ?_
          refine mr_lret C6 hr6 hk6 dX6_lost_3 (qJ_mk ?_)
          refine mr_lret C0 hr0 hk0 dX6_chance_34 (qJ_mk ?_)
          exact h
        · have h := h.2 c4
          refine mr_lload_n C5 dX6_in_6 rfl (i := 0) rfl ?_
          refine mr_lload C5 dX6_in_7 rfl ?_
          refine mr_lcmp_gt C5 dX6_in_9 dX6_in_10 (tgt := 17) (by decide) (fun c5 => ?_) (fun c5 => ?_)
          · have h := h.1 c5
            refine mr_iconst (v := 0) C5 dX6_in_17 (by decide) ?_
            refine mr_zret C5 hr5 hk5 dX6_in_18 rfl (qI_mk ?_)
            refine mr_if_ne C0 dX6_chance_28 (tgt := 35) (by decide) (fun q => absurd q (by decide)) (fun _ => ?_)
            refine mr_callSJ C0 mdX6_lost dX6_chance_31 clX6_lost ml_X6_65 arX6_lost (as := []) rfl (Nat.le_of_ble_eq_true rfl) (Nat.le_of_ble_eq_true rfl) (Nat.le_of_ble_eq_true rfl) fit0 (CallV_of mdX6_lost plX6_lost 0 (Nat.le_of_ble_eq_true rfl) rfl ?_) (fun _ _ h => h)
            intro zp7 zl7 ze7 zs7 zm7 zargs7 zbelow7 zmeth7 zc7 zD7 zad7 zac7 C7 hr7 hk7
            refine mr_ldc2 C7 dX6_lost_0 cn_X6_59 ?_
            refine mr_lret C7 hr7 hk7 dX6_lost_3 (qJ_mk ?_)
            refine mr_lret C0 hr0 hk0 dX6_chance_34 (qJ_mk ?_)
            exact h
          · have h := h.2 c5
            refine mr_iconst (v := 1) C5 dX6_in_13 (by decide) ?_
            refine mr_goto C5 dX6_in_14 (tgt := 18) (by decide) ?_
            refine mr_zret C5 hr5 hk5 dX6_in_18 rfl (qI_mk ?_)
            refine mr_if_ne C0 dX6_chance_28 (tgt := 35) (by decide) (fun _ => ?_) (fun q => absurd q (by decide))
            refine mr_aload_n C0 dX6_chance_35 rfl (i := 0) rfl ?_
            refine mr_iload_n C0 dX6_chance_36 rfl (i := 1) rfl ?_
            refine mr_callVV C0 mdX6_layVote dX6_chance_37 clX6_layVote ml_X6_183 (Nat.le_of_ble_eq_true rfl) rfl rfl arX6_layVote (as := [.int x1]) rfl (Nat.le_of_ble_eq_true rfl) (Nat.le_of_ble_eq_true rfl) (Nat.le_of_ble_eq_true rfl) fit0 (CallV_of mdX6_layVote plX6_layVote 0 (Nat.le_of_ble_eq_true rfl) rfl ?_) (fun _ h => h)
            intro zp8 zl8 ze8 zs8 zm8 zargs8 zbelow8 zmeth8 zc8 zD8 zad8 zac8 C8 hr8 hk8
            refine mr_aload_n C8 dX6_layVote_0 rfl (i := 0) rfl ?_
            refine mr_aload_n C8 dX6_layVote_1 rfl (i := 0) rfl ?_
            refine mr_getR C8 dX6_layVote_2 fl_X6_22 (Nat.le_of_ble_eq_true rfl) rfl rfl ?_
            refine mr_iload_n C8 dX6_layVote_5 rfl (i := 1) rfl ?_
            have g6 := h.1
            have h := h.2
            refine mr_iald C8 dX6_layVote_6 (Nat.le_of_ble_eq_true rfl) rfl g6 ?_
            refine mr_aload_n C8 dX6_layVote_7 rfl (i := 0) rfl ?_
            refine mr_getR C8 dX6_layVote_8 fl_X6_25 (Nat.le_of_ble_eq_true rfl) rfl rfl ?_
            refine mr_iload_n C8 dX6_layVote_11 rfl (i := 1) rfl ?_
            have g7 := h.1
            have h := h.2
            refine mr_iald C8 dX6_layVote_12 (Nat.le_of_ble_eq_true rfl) rfl g7 ?_
            refine mr_callVV C8 mdX6_layChances dX6_layVote_13 clX6_layChances ml_X6_179 (Nat.le_of_ble_eq_true rfl) rfl rfl arX6_layChances (as := [.int (S.1 39 x1.toNatClampNeg), .int (S.1 40 x1.toNatClampNeg)]) rfl (Nat.le_of_ble_eq_true rfl) (Nat.le_of_ble_eq_true rfl) (Nat.le_of_ble_eq_true rfl) fit0 h (fun S8 h => ?_)
            refine mr_vret C8 hr8 hk8 dX6_layVote_16 (qV_mk ?_)
            refine mr_aload_n C0 dX6_chance_40 rfl (i := 0) rfl ?_
            refine mr_getR C0 dX6_chance_41 fl_X6_35 (Nat.le_of_ble_eq_true rfl) rfl rfl ?_
            refine mr_iload_n C0 dX6_chance_44 rfl (i := 2) rfl ?_
            refine mr_if_ge C0 dX6_chance_45 (tgt := 53) (by decide) (fun c9 => ?_) (fun c9 => ?_)
            · have h := h.1 c9
              refine mr_iload_n C0 dX6_chance_53 rfl (i := 2) rfl ?_
              have g10 := h.1
              have h := h.2
              refine mr_lald C0 dX6_chance_54 (Nat.le_of_ble_eq_true rfl) rfl g10 ?_
              refine mr_aload_n C0 dX6_chance_55 rfl (i := 0) rfl ?_
              refine mr_getJ C0 dX6_chance_56 fl_X6_170 (Nat.le_of_ble_eq_true rfl) rfl rfl ?_
              refine mr_iload_n C0 dX6_chance_59 rfl (i := 3) rfl ?_
              refine mr_callSJ C0 mdX6_told dX6_chance_60 clX6_told ml_X6_187 arX6_told (as := [.long (S8.2 43 x2.toNatClampNeg), .long (S8.2 34 17), .int x3]) rfl (Nat.le_of_ble_eq_true rfl) (Nat.le_of_ble_eq_true rfl) (Nat.le_of_ble_eq_true rfl) fit0 h (fun r12 S11 h => ?_)
              refine mr_lret C0 hr0 hk0 dX6_chance_63 (qJ_mk ?_)
              exact h
            · have h := h.2 c9
              refine mr_bipush (v := 6) C0 dX6_chance_48 (by decide) ?_
              refine mr_goto C0 dX6_chance_50 (tgt := 54) (by decide) ?_
              refine mr_lald C0 dX6_chance_54 (Nat.le_of_ble_eq_true rfl) rfl (by unfold vp_in; decide) ?_
              refine mr_topJ (y := (S8.2 43 6)) (by first | rfl | simp [sI, sJ, sF, upd, vp_updL]) ?_
              refine mr_aload_n C0 dX6_chance_55 rfl (i := 0) rfl ?_
              refine mr_getJ C0 dX6_chance_56 fl_X6_170 (Nat.le_of_ble_eq_true rfl) rfl rfl ?_
              refine mr_iload_n C0 dX6_chance_59 rfl (i := 3) rfl ?_
              refine mr_callSJ C0 mdX6_told dX6_chance_60 clX6_told ml_X6_187 arX6_told (as := [.long (S8.2 43 6), .long (S8.2 34 17), .int x3]) rfl (Nat.le_of_ble_eq_true rfl) (Nat.le_of_ble_eq_true rfl) (Nat.le_of_ble_eq_true rfl) fit0 h (fun r14 S13 h => ?_)
              refine mr_lret C0 hr0 hk0 dX6_chance_63 (qJ_mk ?_)
              exact h
      · have h := h.2 c3
        refine mr_aload_n C0 dX6_chance_13 rfl (i := 0) rfl ?_
        refine mr_iload_n C0 dX6_chance_14 rfl (i := 2) rfl ?_
        refine mr_callVI C0 mdX6_noColumn dX6_chance_15 clX6_noColumn ml_X6_146 (Nat.le_of_ble_eq_true rfl) rfl rfl arX6_noColumn (as := [.int x2]) rfl (Nat.le_of_ble_eq_true rfl) (Nat.le_of_ble_eq_true rfl) (Nat.le_of_ble_eq_true rfl) fit0 (CallV_of mdX6_noColumn plX6_noColumn 0 (Nat.le_of_ble_eq_true rfl) rfl ?_) (fun _ _ h => h)
        intro zp9 zl9 ze9 zs9 zm9 zargs9 zbelow9 zmeth9 zc9 zD9 zad9 zac9 C9 hr9 hk9
        refine mr_iload_n C9 dX6_noColumn_0 rfl (i := 1) rfl ?_
        refine mr_i2l C9 dX6_noColumn_1 ?_
        refine mr_lconst (v := 0) C9 dX6_noColumn_2 (by decide) ?_
        refine mr_aload_n C9 dX6_noColumn_3 rfl (i := 0) rfl ?_
        refine mr_getI C9 dX6_noColumn_4 fl_X6_72 (Nat.le_of_ble_eq_true rfl) rfl rfl ?_
        refine mr_i2l C9 dX6_noColumn_7 ?_
        refine mr_lconst (v := 1) C9 dX6_noColumn_8 (by decide) ?_
        refine mr_lsub C9 dX6_noColumn_9 ?_
        refine mr_callSI C9 mdX6_in dX6_noColumn_10 clX6_in ml_X6_79 arX6_in (as := [.long x2.toInt64, .long (0 : Int64), .long ((S.1 34 2).toInt64 - (1 : Int64))]) rfl (Nat.le_of_ble_eq_true rfl) (Nat.le_of_ble_eq_true rfl) (Nat.le_of_ble_eq_true rfl) fit0 (CallV_of mdX6_in plX6_in 0 (Nat.le_of_ble_eq_true rfl) rfl ?_) (fun _ _ h => h)
        intro zp10 zl10 ze10 zs10 zm10 zargs10 zbelow10 zmeth10 zc10 zD10 zad10 zac10 C10 hr10 hk10
        refine mr_lload_n C10 dX6_in_0 rfl (i := 0) rfl ?_
        refine mr_lload_n C10 dX6_in_1 rfl (i := 2) rfl ?_
        refine mr_lcmp_lt C10 dX6_in_2 dX6_in_3 (tgt := 17) (by decide) (fun c15 => ?_) (fun c15 => ?_)
        · have h := h.1 c15
          refine mr_iconst (v := 0) C10 dX6_in_17 (by decide) ?_
          refine mr_zret C10 hr10 hk10 dX6_in_18 rfl (qI_mk ?_)
          refine mr_if_ne C9 dX6_noColumn_13 (tgt := 20) (by decide) (fun q => absurd q (by decide)) (fun _ => ?_)
          refine mr_iconst (v := 1) C9 dX6_noColumn_16 (by decide) ?_
          refine mr_goto C9 dX6_noColumn_17 (tgt := 21) (by decide) ?_
          refine mr_zret C9 hr9 hk9 dX6_noColumn_21 rfl (qI_mk ?_)
          refine mr_if_ne C0 dX6_chance_18 (tgt := 31) (by decide) (fun _ => ?_) (fun q => absurd q (by decide))
          refine mr_callSJ C0 mdX6_lost dX6_chance_31 clX6_lost ml_X6_65 arX6_lost (as := []) rfl (Nat.le_of_ble_eq_true rfl) (Nat.le_of_ble_eq_true rfl) (Nat.le_of_ble_eq_true rfl) fit0 (CallV_of mdX6_lost plX6_lost 0 (Nat.le_of_ble_eq_true rfl) rfl ?_) (fun _ _ h => h)
          intro zp11 zl11 ze11 zs11 zm11 zargs11 zbelow11 zmeth11 zc11 zD11 zad11 zac11 C11 hr11 hk11
          refine mr_ldc2 C11 dX6_lost_0 cn_X6_59 ?_
          refine mr_lret C11 hr11 hk11 dX6_lost_3 (qJ_mk ?_)
          refine mr_lret C0 hr0 hk0 dX6_chance_34 (qJ_mk ?_)
          exact h
        · have h := h.2 c15
          refine mr_lload_n C10 dX6_in_6 rfl (i := 0) rfl ?_
          refine mr_lload C10 dX6_in_7 rfl ?_
          refine mr_lcmp_gt C10 dX6_in_9 dX6_in_10 (tgt := 17) (by decide) (fun c16 => ?_) (fun c16 => ?_)
          · have h := h.1 c16
            refine mr_iconst (v := 0) C10 dX6_in_17 (by decide) ?_
            refine mr_zret C10 hr10 hk10 dX6_in_18 rfl (qI_mk ?_)
            refine mr_if_ne C9 dX6_noColumn_13 (tgt := 20) (by decide) (fun q => absurd q (by decide)) (fun _ => ?_)
            refine mr_iconst (v := 1) C9 dX6_noColumn_16 (by decide) ?_
            refine mr_goto C9 dX6_noColumn_17 (tgt := 21) (by decide) ?_
            refine mr_zret C9 hr9 hk9 dX6_noColumn_21 rfl (qI_mk ?_)
            refine mr_if_ne C0 dX6_chance_18 (tgt := 31) (by decide) (fun _ => ?_) (fun q => absurd q (by decide))
            refine mr_callSJ C0 mdX6_lost dX6_chance_31 clX6_lost ml_X6_65 arX6_lost (as := []) rfl (Nat.le_of_ble_eq_true rfl) (Nat.le_of_ble_eq_true rfl) (Nat.le_of_ble_eq_true rfl) fit0 (CallV_of mdX6_lost plX6_lost 0 (Nat.le_of_ble_eq_true rfl) rfl ?_) (fun _ _ h => h)
            intro zp12 zl12 ze12 zs12 zm12 zargs12 zbelow12 zmeth12 zc12 zD12 zad12 zac12 C12 hr12 hk12
            refine mr_ldc2 C12 dX6_lost_0 cn_X6_59 ?_
            refine mr_lret C12 hr12 hk12 dX6_lost_3 (qJ_mk ?_)
            refine mr_lret C0 hr0 hk0 dX6_chance_34 (qJ_mk ?_)
            exact h
          · have h := h.2 c16
            refine mr_iconst (v := 1) C10 dX6_in_13 (by decide) ?_
            refine mr_goto C10 dX6_in_14 (tgt := 18) (by decide) ?_
            refine mr_zret C10 hr10 hk10 dX6_in_18 rfl (qI_mk ?_)
            refine mr_if_ne C9 dX6_noColumn_13 (tgt := 20) (by decide) (fun _ => ?_) (fun q => absurd q (by decide))
            refine mr_iconst (v := 0) C9 dX6_noColumn_20 (by decide) ?_
            refine mr_zret C9 hr9 hk9 dX6_noColumn_21 rfl (qI_mk ?_)
            refine mr_if_ne C0 dX6_chance_18 (tgt := 31) (by decide) (fun q => absurd q (by decide)) (fun _ => ?_)
            refine mr_iload_n C0 dX6_chance_21 rfl (i := 3) rfl ?_
            refine mr_i2l C0 dX6_chance_22 ?_
            refine mr_lconst (v := 0) C0 dX6_chance_23 (by decide) ?_
            refine mr_lconst (v := 1) C0 dX6_chance_24 (by decide) ?_
            refine mr_callSI C0 mdX6_in dX6_chance_25 clX6_in ml_X6_79 arX6_in (as := [.long x3.toInt64, .long (0 : Int64), .long (1 : Int64)]) rfl (Nat.le_of_ble_eq_true rfl) (Nat.le_of_ble_eq_true rfl) (Nat.le_of_ble_eq_true rfl) fit0 (CallV_of mdX6_in plX6_in 0 (Nat.le_of_ble_eq_true rfl) rfl ?_) (fun _ _ h => h)
            intro zp13 zl13 ze13 zs13 zm13 zargs13 zbelow13 zmeth13 zc13 zD13 zad13 zac13 C13 hr13 hk13
            refine mr_lload_n C13 dX6_in_0 rfl (i := 0) rfl ?_
            refine mr_lload_n C13 dX6_in_1 rfl (i := 2) rfl ?_
            refine mr_lcmp_lt C13 dX6_in_2 dX6_in_3 (tgt := 17) (by decide) (fun c17 => ?_) (fun c17 => ?_)
            · have h := h.1 c17
              refine mr_iconst (v := 0) C13 dX6_in_17 (by decide) ?_
              refine mr_zret C13 hr13 hk13 dX6_in_18 rfl (qI_mk ?_)
              refine mr_if_ne C0 dX6_chance_28 (tgt := 35) (by decide) (fun q => absurd q (by decide)) (fun _ => ?_)
              refine mr_callSJ C0 mdX6_lost dX6_chance_31 clX6_lost ml_X6_65 arX6_lost (as := []) rfl (Nat.le_of_ble_eq_true rfl) (Nat.le_of_ble_eq_true rfl) (Nat.le_of_ble_eq_true rfl) fit0 (CallV_of mdX6_lost plX6_lost 0 (Nat.le_of_ble_eq_true rfl) rfl ?_) (fun _ _ h => h)
              intro zp14 zl14 ze14 zs14 zm14 zargs14 zbelow14 zmeth14 zc14 zD14 zad14 zac14 C14 hr14 hk14
              refine mr_ldc2 C14 dX6_lost_0 cn_X6_59 ?_
              refine mr_lret C14 hr14 hk14 dX6_lost_3 (qJ_mk ?_)
              refine mr_lret C0 hr0 hk0 dX6_chance_34 (qJ_mk ?_)
              exact h
            · have h := h.2 c17
              refine mr_lload_n C13 dX6_in_6 rfl (i := 0) rfl ?_
              refine mr_lload C13 dX6_in_7 rfl ?_
              refine mr_lcmp_gt C13 dX6_in_9 dX6_in_10 (tgt := 17) (by decide) (fun c18 => ?_) (fun c18 => ?_)
              · have h := h.1 c18
                refine mr_iconst (v := 0) C13 dX6_in_17 (by decide) ?_
                refine mr_zret C13 hr13 hk13 dX6_in_18 rfl (qI_mk ?_)
                refine mr_if_ne C0 dX6_chance_28 (tgt := 35) (by decide) (fun q => absurd q (by decide)) (fun _ => ?_)
                refine mr_callSJ C0 mdX6_lost dX6_chance_31 clX6_lost ml_X6_65 arX6_lost (as := []) rfl (Nat.le_of_ble_eq_true rfl) (Nat.le_of_ble_eq_true rfl) (Nat.le_of_ble_eq_true rfl) fit0 (CallV_of mdX6_lost plX6_lost 0 (Nat.le_of_ble_eq_true rfl) rfl ?_) (fun _ _ h => h)
                intro zp15 zl15 ze15 zs15 zm15 zargs15 zbelow15 zmeth15 zc15 zD15 zad15 zac15 C15 hr15 hk15
                refine mr_ldc2 C15 dX6_lost_0 cn_X6_59 ?_
                refine mr_lret C15 hr15 hk15 dX6_lost_3 (qJ_mk ?_)
                refine mr_lret C0 hr0 hk0 dX6_chance_34 (qJ_mk ?_)
                exact h
              · have h := h.2 c18
                refine mr_iconst (v := 1) C13 dX6_in_13 (by decide) ?_
                refine mr_goto C13 dX6_in_14 (tgt := 18) (by decide) ?_
                refine mr_zret C13 hr13 hk13 dX6_in_18 rfl (qI_mk ?_)
                refine mr_if_ne C0 dX6_chance_28 (tgt := 35) (by decide) (fun _ => ?_) (fun q => absurd q (by decide))
                refine mr_aload_n C0 dX6_chance_35 rfl (i := 0) rfl ?_
                refine mr_iload_n C0 dX6_chance_36 rfl (i := 1) rfl ?_
                refine mr_callVV C0 mdX6_layVote dX6_chance_37 clX6_layVote ml_X6_183 (Nat.le_of_ble_eq_true rfl) rfl rfl arX6_layVote (as := [.int x1]) rfl (Nat.le_of_ble_eq_true rfl) (Nat.le_of_ble_eq_true rfl) (Nat.le_of_ble_eq_true rfl) fit0 (CallV_of mdX6_layVote plX6_layVote 0 (Nat.le_of_ble_eq_true rfl) rfl ?_) (fun _ h => h)
                intro zp16 zl16 ze16 zs16 zm16 zargs16 zbelow16 zmeth16 zc16 zD16 zad16 zac16 C16 hr16 hk16
                refine mr_aload_n C16 dX6_layVote_0 rfl (i := 0) rfl ?_
                refine mr_aload_n C16 dX6_layVote_1 rfl (i := 0) rfl ?_
                refine mr_getR C16 dX6_layVote_2 fl_X6_22 (Nat.le_of_ble_eq_true rfl) rfl rfl ?_
                refine mr_iload_n C16 dX6_layVote_5 rfl (i := 1) rfl ?_
                have g19 := h.1
                have h := h.2
                refine mr_iald C16 dX6_layVote_6 (Nat.le_of_ble_eq_true rfl) rfl g19 ?_
                refine mr_aload_n C16 dX6_layVote_7 rfl (i := 0) rfl ?_
                refine mr_getR C16 dX6_layVote_8 fl_X6_25 (Nat.le_of_ble_eq_true rfl) rfl rfl ?_
                refine mr_iload_n C16 dX6_layVote_11 rfl (i := 1) rfl ?_
                have g20 := h.1
                have h := h.2
                refine mr_iald C16 dX6_layVote_12 (Nat.le_of_ble_eq_true rfl) rfl g20 ?_
                refine mr_callVV C16 mdX6_layChances dX6_layVote_13 clX6_layChances ml_X6_179 (Nat.le_of_ble_eq_true rfl) rfl rfl arX6_layChances (as := [.int (S.1 39 x1.toNatClampNeg), .int (S.1 40 x1.toNatClampNeg)]) rfl (Nat.le_of_ble_eq_true rfl) (Nat.le_of_ble_eq_true rfl) (Nat.le_of_ble_eq_true rfl) fit0 h (fun S21 h => ?_)
                refine mr_vret C16 hr16 hk16 dX6_layVote_16 (qV_mk ?_)
                refine mr_aload_n C0 dX6_chance_40 rfl (i := 0) rfl ?_
                refine mr_getR C0 dX6_chance_41 fl_X6_35 (Nat.le_of_ble_eq_true rfl) rfl rfl ?_
                refine mr_iload_n C0 dX6_chance_44 rfl (i := 2) rfl ?_
                refine mr_if_ge C0 dX6_chance_45 (tgt := 53) (by decide) (fun c22 => ?_) (fun c22 => ?_)
                · have h := h.1 c22
                  refine mr_iload_n C0 dX6_chance_53 rfl (i := 2) rfl ?_
                  have g23 := h.1
                  have h := h.2
                  refine mr_lald C0 dX6_chance_54 (Nat.le_of_ble_eq_true rfl) rfl g23 ?_
                  refine mr_aload_n C0 dX6_chance_55 rfl (i := 0) rfl ?_
                  refine mr_getJ C0 dX6_chance_56 fl_X6_170 (Nat.le_of_ble_eq_true rfl) rfl rfl ?_
                  refine mr_iload_n C0 dX6_chance_59 rfl (i := 3) rfl ?_
                  refine mr_callSJ C0 mdX6_told dX6_chance_60 clX6_told ml_X6_187 arX6_told (as := [.long (S21.2 43 x2.toNatClampNeg), .long (S21.2 34 17), .int x3]) rfl (Nat.le_of_ble_eq_true rfl) (Nat.le_of_ble_eq_true rfl) (Nat.le_of_ble_eq_true rfl) fit0 h (fun r25 S24 h => ?_)
                  refine mr_lret C0 hr0 hk0 dX6_chance_63 (qJ_mk ?_)
                  exact h
                · have h := h.2 c22
                  refine mr_bipush (v := 6) C0 dX6_chance_48 (by decide) ?_
                  refine mr_goto C0 dX6_chance_50 (tgt := 54) (by decide) ?_
                  refine mr_lald C0 dX6_chance_54 (Nat.le_of_ble_eq_true rfl) rfl (by unfold vp_in; decide) ?_
                  refine mr_topJ (y := (S21.2 43 6)) (by first | rfl | simp [sI, sJ, sF, upd, vp_updL]) ?_
                  refine mr_aload_n C0 dX6_chance_55 rfl (i := 0) rfl ?_
                  refine mr_getJ C0 dX6_chance_56 fl_X6_170 (Nat.le_of_ble_eq_true rfl) rfl rfl ?_
                  refine mr_iload_n C0 dX6_chance_59 rfl (i := 3) rfl ?_
                  refine mr_callSJ C0 mdX6_told dX6_chance_60 clX6_told ml_X6_187 arX6_told (as := [.long (S21.2 43 6), .long (S21.2 34 17), .int x3]) rfl (Nat.le_of_ble_eq_true rfl) (Nat.le_of_ble_eq_true rfl) (Nat.le_of_ble_eq_true rfl) fit0 h (fun r27 S26 h => ?_)
                  refine mr_lret C0 hr0 hk0 dX6_chance_63 (qJ_mk ?_)
                  exact h
set_option maxRecDepth 100000 in
set_option maxHeartbeats 4000000 in
theorem eX6_partsFor (x1 : Int32) (S : St) (Q : Int64 → St → Prop) (h : V mdX6_partsFor 5 [some (.ref 34), some (.int x1), some (.long (0 : Int64)), none, some (.int (0 : Int32))] [] S (qJ Q)) : CallV mdX6_partsFor [.ref 34, .int x1] S (qJ Q) := by
  refine CallV_of mdX6_partsFor plX6_partsFor 3 (Nat.le_of_ble_eq_true rfl) rfl ?_
  intro zp0 zl0 ze0 zs0 zm0 zargs0 zbelow0 zmeth0 zc0 zD0 zad0 zac0 C0 hr0 hk0
  refine mr_lconst (v := 0) C0 dX6_partsFor_0 (by decide) ?_
  refine mr_lstore_n (L1 := [some (.ref 34), some (.int x1), some (.long (0 : Int64)), none, none]) C0 dX6_partsFor_1 rfl (Nat.le_of_ble_eq_true rfl) rfl ?_
  refine mr_iconst (v := 0) C0 dX6_partsFor_2 (by decide) ?_
  refine mr_istore (L1 := [some (.ref 34), some (.int x1), some (.long (0 : Int64)), none, some (.int (0 : Int32))]) C0 dX6_partsFor_3 (Nat.le_of_ble_eq_true rfl) rfl ?_
  exact h zp0 zl0 ze0 zs0 zm0 zargs0 zbelow0 zmeth0 zc0 zD0 zad0 zac0 C0 hr0 hk0
set_option maxRecDepth 100000 in
set_option maxHeartbeats 4000000 in
theorem eX6_partsFor_5 (x1 : Int32) (y2 : Int64) (x4 : Int32) (S : St) (Q : Int64 → St → Prop) (h : (((S.1 34 2) ≤ x4 → Q y2 S) ∧ (¬ (S.1 34 2) ≤ x4 → (vp_in x4 6) ∧ ((¬ (S.1 35 x4.toNatClampNeg) = x1 → V mdX6_partsFor 5 [some (.ref 34), some (.int x1), some (.long (y2 + (0 : Int64))), none, some (.int (x4 + 1))] [] S (qJ Q)) ∧ ((S.1 35 x4.toNatClampNeg) = x1 → (vp_in x4 7) ∧ V mdX6_partsFor 5 [some (.ref 34), some (.int x1), some (.long (y2 + (S.2 43 x4.toNatClampNeg))), none, some (.int (x4 + 1))] [] S (qJ Q)))))) : V mdX6_partsFor 5 [some (.ref 34), some (.int x1), some (.long y2), none, some (.int x4)] [] S (qJ Q) := by
  intro zp0 zl0 ze0 zs0 zm0 zargs0 zbelow0 zmeth0 zc0 zD0 zad0 zac0 C0 hr0 hk0
  refine mr_iload C0 dX6_partsFor_5 rfl ?_
  refine mr_aload_n C0 dX6_partsFor_7 rfl (i := 0) rfl ?_
  refine mr_getI C0 dX6_partsFor_8 fl_X6_72 (Nat.le_of_ble_eq_true rfl) rfl rfl ?_
  refine mr_icmp_ge C0 dX6_partsFor_11 (tgt := 45) (by decide) (fun c1 => ?_) (fun c1 => ?_)
  · have h := h.1 c1
    refine mr_lload_n C0 dX6_partsFor_45 rfl (i := 2) rfl ?_
    refine mr_lret C0 hr0 hk0 dX6_partsFor_46 (qJ_mk ?_)
    exact h
  · have h := h.2 c1
    refine mr_lload_n C0 dX6_partsFor_14 rfl (i := 2) rfl ?_
    refine mr_aload_n C0 dX6_partsFor_15 rfl (i := 0) rfl ?_
    refine mr_getR C0 dX6_partsFor_16 fl_X6_7 (Nat.le_of_ble_eq_true rfl) rfl rfl ?_
    refine mr_iload C0 dX6_partsFor_19 rfl ?_
    have g2 := h.1
    have h := h.2
    refine mr_iald C0 dX6_partsFor_21 (Nat.le_of_ble_eq_true rfl) rfl g2 ?_
    refine mr_iload_n C0 dX6_partsFor_22 rfl (i := 1) rfl ?_
    refine mr_icmp_ne C0 dX6_partsFor_23 (tgt := 36) (by decide) (fun c3 => ?_) (fun c3 => ?_)
    · have h := h.1 c3
      refine mr_lconst (v := 0) C0 dX6_partsFor_36 (by decide) ?_
      refine mr_ladd C0 dX6_partsFor_37 ?_
      refine mr_lstore_n (L1 := [some (.ref 34), some (.int x1), some (.long (y2 + (0 : Int64))), none, some (.int x4)]) C0 dX6_partsFor_38 rfl (Nat.le_of_ble_eq_true rfl) rfl ?_
      refine mr_iinc (v := (x4 + 1)) (L1 := [some (.ref 34), some (.int x1), some (.long (y2 + (0 : Int64))), none, some (.int (x4 + 1))]) C0 dX6_partsFor_39 rfl rfl (Nat.le_of_ble_eq_true rfl) rfl ?_
      refine mr_goto C0 dX6_partsFor_42 (tgt := 5) (by decide) ?_
      exact h zp0 zl0 ze0 zs0 zm0 zargs0 zbelow0 zmeth0 zc0 zD0 zad0 zac0 C0 hr0 hk0
    · have h := h.2 c3
      refine mr_aload_n C0 dX6_partsFor_26 rfl (i := 0) rfl ?_
      refine mr_getR C0 dX6_partsFor_27 fl_X6_35 (Nat.le_of_ble_eq_true rfl) rfl rfl ?_
      refine mr_iload C0 dX6_partsFor_30 rfl ?_
      have g4 := h.1
      have h := h.2
      refine mr_lald C0 dX6_partsFor_32 (Nat.le_of_ble_eq_true rfl) rfl g4 ?_
      refine mr_goto C0 dX6_partsFor_33 (tgt := 37) (by decide) ?_
      refine mr_ladd C0 dX6_partsFor_37 ?_
      refine mr_lstore_n (L1 := [some (.ref 34), some (.int x1), some (.long (y2 + (S.2 43 x4.toNatClampNeg))), none, some (.int x4)]) C0 dX6_partsFor_38 rfl (Nat.le_of_ble_eq_true rfl) rfl ?_
      refine mr_iinc (v := (x4 + 1)) (L1 := [some (.ref 34), some (.int x1), some (.long (y2 + (S.2 43 x4.toNatClampNeg))), none, some (.int (x4 + 1))]) C0 dX6_partsFor_39 rfl rfl (Nat.le_of_ble_eq_true rfl) rfl ?_
      refine mr_goto C0 dX6_partsFor_42 (tgt := 5) (by decide) ?_
      exact h zp0 zl0 ze0 zs0 zm0 zargs0 zbelow0 zmeth0 zc0 zD0 zad0 zac0 C0 hr0 hk0
set_option maxRecDepth 100000 in
set_option maxHeartbeats 4000000 in
theorem eX6_expectsNow (x1 : Int32) (S : St) (Q : Int64 → St → Prop) (h : V mdX6_expectsNow 5 [some (.ref 34), some (.int x1), some (.long (0 : Int64)), none, some (.int (0 : Int32))] [] S (qJ Q)) : CallV mdX6_expectsNow [.ref 34, .int x1] S (qJ Q) := by
  refine CallV_of mdX6_expectsNow plX6_expectsNow 3 (Nat.le_of_ble_eq_true rfl) rfl ?_
  intro zp0 zl0 ze0 zs0 zm0 zargs0 zbelow0 zmeth0 zc0 zD0 zad0 zac0 C0 hr0 hk0
  refine mr_lconst (v := 0) C0 dX6_expectsNow_0 (by decide) ?_
  refine mr_lstore_n (L1 := [some (.ref 34), some (.int x1), some (.long (0 : Int64)), none, none]) C0 dX6_expectsNow_1 rfl (Nat.le_of_ble_eq_true rfl) rfl ?_
  refine mr_iconst (v := 0) C0 dX6_expectsNow_2 (by decide) ?_
  refine mr_istore (L1 := [some (.ref 34), some (.int x1), some (.long (0 : Int64)), none, some (.int (0 : Int32))]) C0 dX6_expectsNow_3 (Nat.le_of_ble_eq_true rfl) rfl ?_
  exact h zp0 zl0 ze0 zs0 zm0 zargs0 zbelow0 zmeth0 zc0 zD0 zad0 zac0 C0 hr0 hk0
set_option maxRecDepth 100000 in
set_option maxHeartbeats 4000000 in
theorem eX6_expectsNow_5 (x1 : Int32) (y2 : Int64) (x4 : Int32) (S : St) (Q : Int64 → St → Prop) (h : (((S.1 34 11) ≤ x4 → Q y2 S) ∧ (¬ (S.1 34 11) ≤ x4 → (vp_in x4 8) ∧ (vp_in x4 8) ∧ CallV mdX6_layChances [.ref 34, .int (S.1 39 x4.toNatClampNeg), .int (S.1 40 x4.toNatClampNeg)] S (qV fun S4 => CallV mdX6_partsFor [.ref 34, .int x1] S4 (qJ fun r6 S5 => V mdX6_expectsNow 5 [some (.ref 34), some (.int x1), some (.long (y2 + r6)), none, some (.int (x4 + 1))] [] S5 (qJ Q)))))) : V mdX6_expectsNow 5 [some (.ref 34), some (.int x1), some (.long y2), none, some (.int x4)] [] S (qJ Q) := by
  intro zp0 zl0 ze0 zs0 zm0 zargs0 zbelow0 zmeth0 zc0 zD0 zad0 zac0 C0 hr0 hk0
  refine mr_iload C0 dX6_expectsNow_5 rfl ?_
  refine mr_aload_n C0 dX6_expectsNow_7 rfl (i := 0) rfl ?_
  refine mr_getI C0 dX6_expectsNow_8 fl_X6_138 (Nat.le_of_ble_eq_true rfl) rfl rfl ?_
  refine mr_icmp_ge C0 dX6_expectsNow_11 (tgt := 34) (by decide) (fun c1 => ?_) (fun c1 => ?_)
  · have h := h.1 c1
    refine mr_lload_n C0 dX6_expectsNow_34 rfl (i := 2) rfl ?_
    refine mr_lret C0 hr0 hk0 dX6_expectsNow_35 (qJ_mk ?_)
    exact h
  · have h := h.2 c1
    refine mr_aload_n C0 dX6_expectsNow_14 rfl (i := 0) rfl ?_
    refine mr_iload C0 dX6_expectsNow_15 rfl ?_
    refine mr_callVV C0 mdX6_layVote dX6_expectsNow_17 clX6_layVote ml_X6_183 (Nat.le_of_ble_eq_true rfl) rfl rfl arX6_layVote (as := [.int x4]) rfl (Nat.le_of_ble_eq_true rfl) (Nat.le_of_ble_eq_true rfl) (Nat.le_of_ble_eq_true rfl) fit0 (CallV_of mdX6_layVote plX6_layVote 0 (Nat.le_of_ble_eq_true rfl) rfl ?_) (fun _ h => h)
    intro zp1 zl1 ze1 zs1 zm1 zargs1 zbelow1 zmeth1 zc1 zD1 zad1 zac1 C1 hr1 hk1
    refine mr_aload_n C1 dX6_layVote_0 rfl (i := 0) rfl ?_
    refine mr_aload_n C1 dX6_layVote_1 rfl (i := 0) rfl ?_
    refine mr_getR C1 dX6_layVote_2 fl_X6_22 (Nat.le_of_ble_eq_true rfl) rfl rfl ?_
    refine mr_iload_n C1 dX6_layVote_5 rfl (i := 1) rfl ?_
    have g2 := h.1
    have h := h.2
    refine mr_iald C1 dX6_layVote_6 (Nat.le_of_ble_eq_true rfl) rfl g2 ?_
    refine mr_aload_n C1 dX6_layVote_7 rfl (i := 0) rfl ?_
    refine mr_getR C1 dX6_layVote_8 fl_X6_25 (Nat.le_of_ble_eq_true rfl) rfl rfl ?_
    refine mr_iload_n C1 dX6_layVote_11 rfl (i := 1) rfl ?_
    have g3 := h.1
    have h := h.2
    refine mr_iald C1 dX6_layVote_12 (Nat.le_of_ble_eq_true rfl) rfl g3 ?_
    refine mr_callVV C1 mdX6_layChances dX6_layVote_13 clX6_layChances ml_X6_179 (Nat.le_of_ble_eq_true rfl) rfl rfl arX6_layChances (as := [.int (S.1 39 x4.toNatClampNeg), .int (S.1 40 x4.toNatClampNeg)]) rfl (Nat.le_of_ble_eq_true rfl) (Nat.le_of_ble_eq_true rfl) (Nat.le_of_ble_eq_true rfl) fit0 h (fun S4 h => ?_)
    refine mr_vret C1 hr1 hk1 dX6_layVote_16 (qV_mk ?_)
    refine mr_lload_n C0 dX6_expectsNow_20 rfl (i := 2) rfl ?_
    refine mr_aload_n C0 dX6_expectsNow_21 rfl (i := 0) rfl ?_
    refine mr_iload_n C0 dX6_expectsNow_22 rfl (i := 1) rfl ?_
    refine mr_callVJ C0 mdX6_partsFor dX6_expectsNow_23 clX6_partsFor ml_X6_191 (Nat.le_of_ble_eq_true rfl) rfl rfl arX6_partsFor (as := [.int x1]) rfl (Nat.le_of_ble_eq_true rfl) (Nat.le_of_ble_eq_true rfl) (Nat.le_of_ble_eq_true rfl) fit0 h (fun r6 S5 h => ?_)
    refine mr_ladd C0 dX6_expectsNow_26 ?_
    refine mr_lstore_n (L1 := [some (.ref 34), some (.int x1), some (.long (y2 + r6)), none, some (.int x4)]) C0 dX6_expectsNow_27 rfl (Nat.le_of_ble_eq_true rfl) rfl ?_
    refine mr_iinc (v := (x4 + 1)) (L1 := [some (.ref 34), some (.int x1), some (.long (y2 + r6)), none, some (.int (x4 + 1))]) C0 dX6_expectsNow_28 rfl rfl (Nat.le_of_ble_eq_true rfl) rfl ?_
    refine mr_goto C0 dX6_expectsNow_31 (tgt := 5) (by decide) ?_
    exact h zp0 zl0 ze0 zs0 zm0 zargs0 zbelow0 zmeth0 zc0 zD0 zad0 zac0 C0 hr0 hk0
set_option maxRecDepth 100000 in
set_option maxHeartbeats 4000000 in
theorem eX6_expects (x1 : Int32) (x2 : Int32) (S : St) (Q : Int64 → St → Prop) (h : ((x1.toInt64 < (0 : Int64) → Q (-9223372036854775808 : Int64) S) ∧ (¬ x1.toInt64 < (0 : Int64) → (((3 : Int64) < x1.toInt64 → Q (-9223372036854775808 : Int64) S) ∧ (¬ (3 : Int64) < x1.toInt64 → ((x2.toInt64 < (0 : Int64) → Q (-9223372036854775808 : Int64) S) ∧ (¬ x2.toInt64 < (0 : Int64) → (((1 : Int64) < x2.toInt64 → Q (-9223372036854775808 : Int64) S) ∧ (¬ (1 : Int64) < x2.toInt64 → ((¬ (S.1 34 1) = 0 → CallV mdX6_expectsNow [.ref 34, .int x1] S (qJ fun r7 S6 => ((¬ (S6.1 34 11) = 0 → CallV mdX6_told [.long r7, .long (S6.2 34 17), .int x2] S6 (qJ fun r10 S9 => Q r10 S9)) ∧ ((S6.1 34 11) = 0 → Q x2.toInt64 S6)))) ∧ ((S.1 34 1) = 0 → Q (-9223372036854775808 : Int64) S))))))))))) : CallV mdX6_expects [.ref 34, .int x1, .int x2] S (qJ Q) := by
  refine CallV_of mdX6_expects plX6_expects 2 (Nat.le_of_ble_eq_true rfl) rfl ?_
  intro zp0 zl0 ze0 zs0 zm0 zargs0 zbelow0 zmeth0 zc0 zD0 zad0 zac0 C0 hr0 hk0
  refine mr_iload_n C0 dX6_expects_0 rfl (i := 1) rfl ?_
  refine mr_callSI C0 mdX6_noParty dX6_expects_1 clX6_noParty ml_X6_195 arX6_noParty (as := [.int x1]) rfl (Nat.le_of_ble_eq_true rfl) (Nat.le_of_ble_eq_true rfl) (Nat.le_of_ble_eq_true rfl) fit0 (CallV_of mdX6_noParty plX6_noParty 0 (Nat.le_of_ble_eq_true rfl) rfl ?_) (fun _ _ h => h)
  intro zp1 zl1 ze1 zs1 zm1 zargs1 zbelow1 zmeth1 zc1 zD1 zad1 zac1 C1 hr1 hk1
  refine mr_iload_n C1 dX6_noParty_0 rfl (i := 0) rfl ?_
  refine mr_i2l C1 dX6_noParty_1 ?_
  refine mr_lconst (v := 0) C1 dX6_noParty_2 (by decide) ?_
  refine mr_ldc2 C1 dX6_noParty_3 cn_X6_83 ?_
  refine mr_callSI C1 mdX6_in dX6_noParty_6 clX6_in ml_X6_79 arX6_in (as := [.long x1.toInt64, .long (0 : Int64), .long (3 : Int64)]) rfl (Nat.le_of_ble_eq_true rfl) (Nat.le_of_ble_eq_true rfl) (Nat.le_of_ble_eq_true rfl) fit0 (CallV_of mdX6_in plX6_in 0 (Nat.le_of_ble_eq_true rfl) rfl ?_) (fun _ _ h => h)
  intro zp2 zl2 ze2 zs2 zm2 zargs2 zbelow2 zmeth2 zc2 zD2 zad2 zac2 C2 hr2 hk2
  refine mr_lload_n C2 dX6_in_0 rfl (i := 0) rfl ?_
  refine mr_lload_n C2 dX6_in_1 rfl (i := 2) rfl ?_
  refine mr_lcmp_lt C2 dX6_in_2 dX6_in_3 (tgt := 17) (by decide) (fun c1 => ?_) (fun c1 => ?_)
  · have h := h.1 c1
    refine mr_iconst (v := 0) C2 dX6_in_17 (by decide) ?_
    refine mr_zret C2 hr2 hk2 dX6_in_18 rfl (qI_mk ?_)
    refine mr_if_ne C1 dX6_noParty_9 (tgt := 16) (by decide) (fun q => absurd q (by decide)) (fun _ => ?_)
    refine mr_iconst (v := 1) C1 dX6_noParty_12 (by decide) ?_
    refine mr_goto C1 dX6_noParty_13 (tgt := 17) (by decide) ?_
    refine mr_zret C1 hr1 hk1 dX6_noParty_17 rfl (qI_mk ?_)
    refine mr_if_ne C0 dX6_expects_4 (tgt := 24) (by decide) (fun _ => ?_) (fun q => absurd q (by decide))
    refine mr_callSJ C0 mdX6_lost dX6_expects_24 clX6_lost ml_X6_65 arX6_lost (as := []) rfl (Nat.le_of_ble_eq_true rfl) (Nat.le_of_ble_eq_true rfl) (Nat.le_of_ble_eq_true rfl) fit0 (CallV_of mdX6_lost plX6_lost 0 (Nat.le_of_ble_eq_true rfl) rfl ?_) (fun _ _ h => h)
    intro zp3 zl3 ze3 zs3 zm3 zargs3 zbelow3 zmeth3 zc3 zD3 zad3 zac3 C3 hr3 hk3
    refine mr_ldc2 C3 dX6_lost_0 cn_X6_59 ?_
    refine mr_lret C3 hr3 hk3 dX6_lost_3 (qJ_mk ?_)
    refine mr_lret C0 hr0 hk0 dX6_expects_27 (qJ_mk ?_)
    exact h
  · have h := h.2 c1
    refine mr_lload_n C2 dX6_in_6 rfl (i := 0) rfl ?_
    refine mr_lload C2 dX6_in_7 rfl ?_
    refine mr_lcmp_gt C2 dX6_in_9 dX6_in_10 (tgt := 17) (by decide) (fun c2 => ?_) (fun c2 => ?_)
    · have h := h.1 c2
      refine mr_iconst (v := 0) C2 dX6_in_17 (by decide) ?_
      refine mr_zret C2 hr2 hk2 dX6_in_18 rfl (qI_mk ?_)
      refine mr_if_ne C1 dX6_noParty_9 (tgt := 16) (by decide) (fun q => absurd q (by decide)) (fun _ => ?_)
      refine mr_iconst (v := 1) C1 dX6_noParty_12 (by decide) ?_
      refine mr_goto C1 dX6_noParty_13 (tgt := 17) (by decide) ?_
      refine mr_zret C1 hr1 hk1 dX6_noParty_17 rfl (qI_mk ?_)
      refine mr_if_ne C0 dX6_expects_4 (tgt := 24) (by decide) (fun _ => ?_) (fun q => absurd q (by decide))
      refine mr_callSJ C0 mdX6_lost dX6_expects_24 clX6_lost ml_X6_65 arX6_lost (as := []) rfl (Nat.le_of_ble_eq_true rfl) (Nat.le_of_ble_eq_true rfl) (Nat.le_of_ble_eq_true rfl) fit0 (CallV_of mdX6_lost plX6_lost 0 (Nat.le_of_ble_eq_true rfl) rfl ?_) (fun _ _ h => h)
      intro zp4 zl4 ze4 zs4 zm4 zargs4 zbelow4 zmeth4 zc4 zD4 zad4 zac4 C4 hr4 hk4
      refine mr_ldc2 C4 dX6_lost_0 cn_X6_59 ?_
      refine mr_lret C4 hr4 hk4 dX6_lost_3 (qJ_mk ?_)
      refine mr_lret C0 hr0 hk0 dX6_expects_27 (qJ_mk ?_)
      exact h
    · have h := h.2 c2
      refine mr_iconst (v := 1) C2 dX6_in_13 (by decide) ?_
      refine mr_goto C2 dX6_in_14 (tgt := 18) (by decide) ?_
      refine mr_zret C2 hr2 hk2 dX6_in_18 rfl (qI_mk ?_)
      refine mr_if_ne C1 dX6_noParty_9 (tgt := 16) (by decide) (fun _ => ?_) (fun q => absurd q (by decide))
      refine mr_iconst (v := 0) C1 dX6_noParty_16 (by decide) ?_
      refine mr_zret C1 hr1 hk1 dX6_noParty_17 rfl (qI_mk ?_)
      refine mr_if_ne C0 dX6_expects_4 (tgt := 24) (by decide) (fun q => absurd q (by decide)) (fun _ => ?_)
      refine mr_iload_n C0 dX6_expects_7 rfl (i := 2) rfl ?_
      refine mr_i2l C0 dX6_expects_8 ?_
      refine mr_lconst (v := 0) C0 dX6_expects_9 (by decide) ?_
      refine mr_lconst (v := 1) C0 dX6_expects_10 (by decide) ?_
      refine mr_callSI C0 mdX6_in dX6_expects_11 clX6_in ml_X6_79 arX6_in (as := [.long x2.toInt64, .long (0 : Int64), .long (1 : Int64)]) rfl (Nat.le_of_ble_eq_true rfl) (Nat.le_of_ble_eq_true rfl) (Nat.le_of_ble_eq_true rfl) fit0 (CallV_of mdX6_in plX6_in 0 (Nat.le_of_ble_eq_true rfl) rfl ?_) (fun _ _ h => h)
      intro zp5 zl5 ze5 zs5 zm5 zargs5 zbelow5 zmeth5 zc5 zD5 zad5 zac5 C5 hr5 hk5
      refine mr_lload_n C5 dX6_in_0 rfl (i := 0) rfl ?_
      refine mr_lload_n C5 dX6_in_1 rfl (i := 2) rfl ?_
      refine mr_lcmp_lt C5 dX6_in_2 dX6_in_3 (tgt := 17) (by decide) (fun c3 => ?_) (fun c3 => ?_)
      · have h := h.1 c3
        refine mr_iconst (v := 0) C5 dX6_in_17 (by decide) ?_
        refine mr_zret C5 hr5 hk5 dX6_in_18 rfl (qI_mk ?_)
        refine mr_if_eq C0 dX6_expects_14 (tgt := 24) (by decide) (fun _ => ?_) (fun q => absurd q (by decide))
        refine mr_callSJ C0 mdX6_lost dX6_expects_24 clX6_lost ml_X6_65 arX6_lost (as := []) rfl (Nat.le_of_ble_eq_true rfl) (Nat.le_of_ble_eq_true rfl) (Nat.le_of_ble_eq_true rfl) fit0 (CallV_of mdX6_lost plX6_lost 0 (Nat.le_of_ble_eq_true rfl) rfl ?_) (fun _ _ h => h)
        intro zp6 zl6 ze6 zs6 zm6 zargs6 zbelow6 zmeth6 zc6 zD6 zad6 zac6 C6 hr6 hk6
        refine mr_ldc2 C6 dX6_lost_0 cn_X6_59 ?_
        refine mr_lret C6 hr6 hk6 dX6_lost_3 (qJ_mk ?_)
        refine mr_lret C0 hr0 hk0 dX6_expects_27 (qJ_mk ?_)
        exact h
      · have h := h.2 c3
        refine mr_lload_n C5 dX6_in_6 rfl (i := 0) rfl ?_
        refine mr_lload C5 dX6_in_7 rfl ?_
        refine mr_lcmp_gt C5 dX6_in_9 dX6_in_10 (tgt := 17) (by decide) (fun c4 => ?_) (fun c4 => ?_)
        · have h := h.1 c4
          refine mr_iconst (v := 0) C5 dX6_in_17 (by decide) ?_
          refine mr_zret C5 hr5 hk5 dX6_in_18 rfl (qI_mk ?_)
          refine mr_if_eq C0 dX6_expects_14 (tgt := 24) (by decide) (fun _ => ?_) (fun q => absurd q (by decide))
          refine mr_callSJ C0 mdX6_lost dX6_expects_24 clX6_lost ml_X6_65 arX6_lost (as := []) rfl (Nat.le_of_ble_eq_true rfl) (Nat.le_of_ble_eq_true rfl) (Nat.le_of_ble_eq_true rfl) fit0 (CallV_of mdX6_lost plX6_lost 0 (Nat.le_of_ble_eq_true rfl) rfl ?_) (fun _ _ h => h)
          intro zp7 zl7 ze7 zs7 zm7 zargs7 zbelow7 zmeth7 zc7 zD7 zad7 zac7 C7 hr7 hk7
          refine mr_ldc2 C7 dX6_lost_0 cn_X6_59 ?_
          refine mr_lret C7 hr7 hk7 dX6_lost_3 (qJ_mk ?_)
          refine mr_lret C0 hr0 hk0 dX6_expects_27 (qJ_mk ?_)
          exact h
        · have h := h.2 c4
          refine mr_iconst (v := 1) C5 dX6_in_13 (by decide) ?_
          refine mr_goto C5 dX6_in_14 (tgt := 18) (by decide) ?_
          refine mr_zret C5 hr5 hk5 dX6_in_18 rfl (qI_mk ?_)
          refine mr_if_eq C0 dX6_expects_14 (tgt := 24) (by decide) (fun q => absurd q (by decide)) (fun _ => ?_)
          refine mr_aload_n C0 dX6_expects_17 rfl (i := 0) rfl ?_
          refine mr_getI C0 dX6_expects_18 fl_X6_69 (Nat.le_of_ble_eq_true rfl) rfl rfl ?_
          refine mr_if_ne C0 dX6_expects_21 (tgt := 28) (by decide) (fun c5 => ?_) (fun c5 => ?_)
          · have h := h.1 c5
            refine mr_aload_n C0 dX6_expects_28 rfl (i := 0) rfl ?_
            refine mr_iload_n C0 dX6_expects_29 rfl (i := 1) rfl ?_
            refine mr_callVJ C0 mdX6_expectsNow dX6_expects_30 clX6_expectsNow ml_X6_198 (Nat.le_of_ble_eq_true rfl) rfl rfl arX6_expectsNow (as := [.int x1]) rfl (Nat.le_of_ble_eq_true rfl) (Nat.le_of_ble_eq_true rfl) (Nat.le_of_ble_eq_true rfl) fit0 h (fun r7 S6 h => ?_)
            refine mr_lstore_n (L1 := [some (.ref 34), some (.int x1), some (.int x2), some (.long r7), none]) C0 dX6_expects_33 rfl (Nat.le_of_ble_eq_true rfl) rfl ?_
            refine mr_aload_n C0 dX6_expects_34 rfl (i := 0) rfl ?_
            refine mr_getI C0 dX6_expects_35 fl_X6_138 (Nat.le_of_ble_eq_true rfl) rfl rfl ?_
            refine mr_if_ne C0 dX6_expects_38 (tgt := 46) (by decide) (fun c8 => ?_) (fun c8 => ?_)
            · have h := h.1 c8
              refine mr_lload_n C0 dX6_expects_46 rfl (i := 3) rfl ?_
              refine mr_aload_n C0 dX6_expects_47 rfl (i := 0) rfl ?_
              refine mr_getJ C0 dX6_expects_48 fl_X6_170 (Nat.le_of_ble_eq_true rfl) rfl rfl ?_
              refine mr_iload_n C0 dX6_expects_51 rfl (i := 2) rfl ?_
              refine mr_callSJ C0 mdX6_told dX6_expects_52 clX6_told ml_X6_187 arX6_told (as := [.long r7, .long (S6.2 34 17), .int x2]) rfl (Nat.le_of_ble_eq_true rfl) (Nat.le_of_ble_eq_true rfl) (Nat.le_of_ble_eq_true rfl) fit0 h (fun r10 S9 h => ?_)
              refine mr_lret C0 hr0 hk0 dX6_expects_55 (qJ_mk ?_)
              exact h
            · have h := h.2 c8
              refine mr_iload_n C0 dX6_expects_41 rfl (i := 2) rfl ?_
              refine mr_i2l C0 dX6_expects_42 ?_
              refine mr_goto C0 dX6_expects_43 (tgt := 55) (by decide) ?_
              refine mr_lret C0 hr0 hk0 dX6_expects_55 (qJ_mk ?_)
              exact h
          · have h := h.2 c5
            refine mr_callSJ C0 mdX6_lost dX6_expects_24 clX6_lost ml_X6_65 arX6_lost (as := []) rfl (Nat.le_of_ble_eq_true rfl) (Nat.le_of_ble_eq_true rfl) (Nat.le_of_ble_eq_true rfl) fit0 (CallV_of mdX6_lost plX6_lost 0 (Nat.le_of_ble_eq_true rfl) rfl ?_) (fun _ _ h => h)
            intro zp8 zl8 ze8 zs8 zm8 zargs8 zbelow8 zmeth8 zc8 zD8 zad8 zac8 C8 hr8 hk8
            refine mr_ldc2 C8 dX6_lost_0 cn_X6_59 ?_
            refine mr_lret C8 hr8 hk8 dX6_lost_3 (qJ_mk ?_)
            refine mr_lret C0 hr0 hk0 dX6_expects_27 (qJ_mk ?_)
            exact h
set_option maxRecDepth 100000 in
set_option maxHeartbeats 4000000 in
theorem eX6_start (x1 : Int32) (x2 : Int32) (S : St) (Q : Int32 → St → Prop) (h : ((x1.toInt64 < (0 : Int64) → Q (-1 : Int32) S) ∧ (¬ x1.toInt64 < (0 : Int64) → ((((S.1 34 11).toInt64 - (1 : Int64)) < x1.toInt64 → Q (-1 : Int32) S) ∧ (¬ ((S.1 34 11).toInt64 - (1 : Int64)) < x1.toInt64 → ((x2.toInt64 < (0 : Int64) → Q (-1 : Int32) S) ∧ (¬ x2.toInt64 < (0 : Int64) → (((3 : Int64) < x2.toInt64 → Q (-1 : Int32) S) ∧ (¬ (3 : Int64) < x2.toInt64 → V mdX6_start 27 [some (.ref 34), some (.int x1), some (.int x2), some (.int (0 : Int32)), some (.long (-1 : Int64)), none, some (.int (0 : Int32)), none, none] [] S (qI Q)))))))))) : CallV mdX6_start [.ref 34, .int x1, .int x2] S (qI Q) := by
  refine CallV_of mdX6_start plX6_start 6 (Nat.le_of_ble_eq_true rfl) rfl ?_
  intro zp0 zl0 ze0 zs0 zm0 zargs0 zbelow0 zmeth0 zc0 zD0 zad0 zac0 C0 hr0 hk0
  refine mr_aload_n C0 dX6_start_0 rfl (i := 0) rfl ?_
  refine mr_iload_n C0 dX6_start_1 rfl (i := 1) rfl ?_
  refine mr_callVI C0 mdX6_noVote dX6_start_2 clX6_noVote ml_X6_149 (Nat.le_of_ble_eq_true rfl) rfl rfl arX6_noVote (as := [.int x1]) rfl (Nat.le_of_ble_eq_true rfl) (Nat.le_of_ble_eq_true rfl) (Nat.le_of_ble_eq_true rfl) fit0 (CallV_of mdX6_noVote plX6_noVote 0 (Nat.le_of_ble_eq_true rfl) rfl ?_) (fun _ _ h => h)
  intro zp1 zl1 ze1 zs1 zm1 zargs1 zbelow1 zmeth1 zc1 zD1 zad1 zac1 C1 hr1 hk1
  refine mr_iload_n C1 dX6_noVote_0 rfl (i := 1) rfl ?_
  refine mr_i2l C1 dX6_noVote_1 ?_
  refine mr_lconst (v := 0) C1 dX6_noVote_2 (by decide) ?_
  refine mr_aload_n C1 dX6_noVote_3 rfl (i := 0) rfl ?_
  refine mr_getI C1 dX6_noVote_4 fl_X6_138 (Nat.le_of_ble_eq_true rfl) rfl rfl ?_
  refine mr_i2l C1 dX6_noVote_7 ?_
  refine mr_lconst (v := 1) C1 dX6_noVote_8 (by decide) ?_
  refine mr_lsub C1 dX6_noVote_9 ?_
  refine mr_callSI C1 mdX6_in dX6_noVote_10 clX6_in ml_X6_79 arX6_in (as := [.long x1.toInt64, .long (0 : Int64), .long ((S.1 34 11).toInt64 - (1 : Int64))]) rfl (Nat.le_of_ble_eq_true rfl) (Nat.le_of_ble_eq_true rfl) (Nat.le_of_ble_eq_true rfl) fit0 (CallV_of mdX6_in plX6_in 0 (Nat.le_of_ble_eq_true rfl) rfl ?_) (fun _ _ h => h)
  intro zp2 zl2 ze2 zs2 zm2 zargs2 zbelow2 zmeth2 zc2 zD2 zad2 zac2 C2 hr2 hk2
  refine mr_lload_n C2 dX6_in_0 rfl (i := 0) rfl ?_
  refine mr_lload_n C2 dX6_in_1 rfl (i := 2) rfl ?_
  refine mr_lcmp_lt C2 dX6_in_2 dX6_in_3 (tgt := 17) (by decide) (fun c1 => ?_) (fun c1 => ?_)
  · have h := h.1 c1
    refine mr_iconst (v := 0) C2 dX6_in_17 (by decide) ?_
    refine mr_zret C2 hr2 hk2 dX6_in_18 rfl (qI_mk ?_)
    refine mr_if_ne C1 dX6_noVote_13 (tgt := 20) (by decide) (fun q => absurd q (by decide)) (fun _ => ?_)
    refine mr_iconst (v := 1) C1 dX6_noVote_16 (by decide) ?_
    refine mr_goto C1 dX6_noVote_17 (tgt := 21) (by decide) ?_
    refine mr_zret C1 hr1 hk1 dX6_noVote_21 rfl (qI_mk ?_)
    refine mr_if_ne C0 dX6_start_5 (tgt := 15) (by decide) (fun _ => ?_) (fun q => absurd q (by decide))
    refine mr_iconst (v := (-1)) C0 dX6_start_15 (by decide) ?_
    refine mr_iret C0 hr0 hk0 dX6_start_16 (qI_mk ?_)
    exact h
  · have h := h.2 c1
    refine mr_lload_n C2 dX6_in_6 rfl (i := 0) rfl ?_
    refine mr_lload C2 dX6_in_7 rfl ?_
    refine mr_lcmp_gt C2 dX6_in_9 dX6_in_10 (tgt := 17) (by decide) (fun c2 => ?_) (fun c2 => ?_)
    · have h := h.1 c2
      refine mr_iconst (v := 0) C2 dX6_in_17 (by decide) ?_
      refine mr_zret C2 hr2 hk2 dX6_in_18 rfl (qI_mk ?_)
      refine mr_if_ne C1 dX6_noVote_13 (tgt := 20) (by decide) (fun q => absurd q (by decide)) (fun _ => ?_)
      refine mr_iconst (v := 1) C1 dX6_noVote_16 (by decide) ?_
      refine mr_goto C1 dX6_noVote_17 (tgt := 21) (by decide) ?_
      refine mr_zret C1 hr1 hk1 dX6_noVote_21 rfl (qI_mk ?_)
      refine mr_if_ne C0 dX6_start_5 (tgt := 15) (by decide) (fun _ => ?_) (fun q => absurd q (by decide))
      refine mr_iconst (v := (-1)) C0 dX6_start_15 (by decide) ?_
      refine mr_iret C0 hr0 hk0 dX6_start_16 (qI_mk ?_)
      exact h
    · have h := h.2 c2
      refine mr_iconst (v := 1) C2 dX6_in_13 (by decide) ?_
      refine mr_goto C2 dX6_in_14 (tgt := 18) (by decide) ?_
      refine mr_zret C2 hr2 hk2 dX6_in_18 rfl (qI_mk ?_)
      refine mr_if_ne C1 dX6_noVote_13 (tgt := 20) (by decide) (fun _ => ?_) (fun q => absurd q (by decide))
      refine mr_iconst (v := 0) C1 dX6_noVote_20 (by decide) ?_
      refine mr_zret C1 hr1 hk1 dX6_noVote_21 rfl (qI_mk ?_)
      refine mr_if_ne C0 dX6_start_5 (tgt := 15) (by decide) (fun q => absurd q (by decide)) (fun _ => ?_)
      refine mr_iload_n C0 dX6_start_8 rfl (i := 2) rfl ?_
      refine mr_callSI C0 mdX6_noParty dX6_start_9 clX6_noParty ml_X6_195 arX6_noParty (as := [.int x2]) rfl (Nat.le_of_ble_eq_true rfl) (Nat.le_of_ble_eq_true rfl) (Nat.le_of_ble_eq_true rfl) fit0 (CallV_of mdX6_noParty plX6_noParty 0 (Nat.le_of_ble_eq_true rfl) rfl ?_) (fun _ _ h => h)
      intro zp3 zl3 ze3 zs3 zm3 zargs3 zbelow3 zmeth3 zc3 zD3 zad3 zac3 C3 hr3 hk3
      refine mr_iload_n C3 dX6_noParty_0 rfl (i := 0) rfl ?_
      refine mr_i2l C3 dX6_noParty_1 ?_
      refine mr_lconst (v := 0) C3 dX6_noParty_2 (by decide) ?_
      refine mr_ldc2 C3 dX6_noParty_3 cn_X6_83 ?_
      refine mr_callSI C3 mdX6_in dX6_noParty_6 clX6_in ml_X6_79 arX6_in (as := [.long x2.toInt64, .long (0 : Int64), .long (3 : Int64)]) rfl (Nat.le_of_ble_eq_true rfl) (Nat.le_of_ble_eq_true rfl) (Nat.le_of_ble_eq_true rfl) fit0 (CallV_of mdX6_in plX6_in 0 (Nat.le_of_ble_eq_true rfl) rfl ?_) (fun _ _ h => h)
      intro zp4 zl4 ze4 zs4 zm4 zargs4 zbelow4 zmeth4 zc4 zD4 zad4 zac4 C4 hr4 hk4
      refine mr_lload_n C4 dX6_in_0 rfl (i := 0) rfl ?_
      refine mr_lload_n C4 dX6_in_1 rfl (i := 2) rfl ?_
      refine mr_lcmp_lt C4 dX6_in_2 dX6_in_3 (tgt := 17) (by decide) (fun c3 => ?_) (fun c3 => ?_)
      · have h := h.1 c3
        refine mr_iconst (v := 0) C4 dX6_in_17 (by decide) ?_
        refine mr_zret C4 hr4 hk4 dX6_in_18 rfl (qI_mk ?_)
        refine mr_if_ne C3 dX6_noParty_9 (tgt := 16) (by decide) (fun q => absurd q (by decide)) (fun _ => ?_)
        refine mr_iconst (v := 1) C3 dX6_noParty_12 (by decide) ?_
        refine mr_goto C3 dX6_noParty_13 (tgt := 17) (by decide) ?_
        refine mr_zret C3 hr3 hk3 dX6_noParty_17 rfl (qI_mk ?_)
        refine mr_if_eq C0 dX6_start_12 (tgt := 17) (by decide) (fun q => absurd q (by decide)) (fun _ => ?_)
        refine mr_iconst (v := (-1)) C0 dX6_start_15 (by decide) ?_
        refine mr_iret C0 hr0 hk0 dX6_start_16 (qI_mk ?_)
        exact h
      · have h := h.2 c3
        refine mr_lload_n C4 dX6_in_6 rfl (i := 0) rfl ?_
        refine mr_lload C4 dX6_in_7 rfl ?_
        refine mr_lcmp_gt C4 dX6_in_9 dX6_in_10 (tgt := 17) (by decide) (fun c4 => ?_) (fun c4 => ?_)
        · have h := h.1 c4
          refine mr_iconst (v := 0) C4 dX6_in_17 (by decide) ?_
          refine mr_zret C4 hr4 hk4 dX6_in_18 rfl (qI_mk ?_)
          refine mr_if_ne C3 dX6_noParty_9 (tgt := 16) (by decide) (fun q => absurd q (by decide)) (fun _ => ?_)
          refine mr_iconst (v := 1) C3 dX6_noParty_12 (by decide) ?_
          refine mr_goto C3 dX6_noParty_13 (tgt := 17) (by decide) ?_
          refine mr_zret C3 hr3 hk3 dX6_noParty_17 rfl (qI_mk ?_)
          refine mr_if_eq C0 dX6_start_12 (tgt := 17) (by decide) (fun q => absurd q (by decide)) (fun _ => ?_)
          refine mr_iconst (v := (-1)) C0 dX6_start_15 (by decide) ?_
          refine mr_iret C0 hr0 hk0 dX6_start_16 (qI_mk ?_)
          exact h
        · have h := h.2 c4
          refine mr_iconst (v := 1) C4 dX6_in_13 (by decide) ?_
          refine mr_goto C4 dX6_in_14 (tgt := 18) (by decide) ?_
          refine mr_zret C4 hr4 hk4 dX6_in_18 rfl (qI_mk ?_)
          refine mr_if_ne C3 dX6_noParty_9 (tgt := 16) (by decide) (fun _ => ?_) (fun q => absurd q (by decide))
          refine mr_iconst (v := 0) C3 dX6_noParty_16 (by decide) ?_
          refine mr_zret C3 hr3 hk3 dX6_noParty_17 rfl (qI_mk ?_)
          refine mr_if_eq C0 dX6_start_12 (tgt := 17) (by decide) (fun _ => ?_) (fun q => absurd q (by decide))
          refine mr_iconst (v := 0) C0 dX6_start_17 (by decide) ?_
          refine mr_istore_n (L1 := [some (.ref 34), some (.int x1), some (.int x2), some (.int (0 : Int32)), none, none, none, none, none]) C0 dX6_start_18 rfl (Nat.le_of_ble_eq_true rfl) rfl ?_
          refine mr_ldc2 C0 dX6_start_19 cn_X6_201 ?_
          refine mr_lstore (L1 := [some (.ref 34), some (.int x1), some (.int x2), some (.int (0 : Int32)), some (.long (-1 : Int64)), none, none, none, none]) C0 dX6_start_22 (Nat.le_of_ble_eq_true rfl) rfl ?_
          refine mr_iconst (v := 0) C0 dX6_start_24 (by decide) ?_
          refine mr_istore (L1 := [some (.ref 34), some (.int x1), some (.int x2), some (.int (0 : Int32)), some (.long (-1 : Int64)), none, some (.int (0 : Int32)), none, none]) C0 dX6_start_25 (Nat.le_of_ble_eq_true rfl) rfl ?_
          exact h zp0 zl0 ze0 zs0 zm0 zargs0 zbelow0 zmeth0 zc0 zD0 zad0 zac0 C0 hr0 hk0
set_option maxRecDepth 100000 in
set_option maxHeartbeats 4000000 in
theorem eX6_start_27 (x1 : Int32) (x2 : Int32) (x3 : Int32) (y4 : Int64) (x6 : Int32) (S : St) (Q : Int32 → St → Prop) (h : (((S.1 34 2) ≤ x6 → Q x3 S) ∧ (¬ (S.1 34 2) ≤ x6 → (vp_in x1 8) ∧ CallV mdX6_layChances [.ref 34, .int (S.1 39 x1.toNatClampNeg), .int x6] S (qV fun S3 => CallV mdX6_partsFor [.ref 34, .int x2] S3 (qJ fun r5 S4 => ((r5 ≤ y4 → ((r5 ≤ y4 → V mdX6_start 27 [some (.ref 34), some (.int x1), some (.int x2), some (.int x3), some (.long y4), none, some (.int (x6 + 1)), none, none] [] S4 (qI Q)) ∧ (¬ r5 ≤ y4 → V mdX6_start 27 [some (.ref 34), some (.int x1), some (.int x2), some (.int x3), some (.long r5), none, some (.int (x6 + 1)), none, none] [] S4 (qI Q)))) ∧ (¬ r5 ≤ y4 → ((r5 ≤ y4 → V mdX6_start 27 [some (.ref 34), some (.int x1), some (.int x2), some (.int x6), some (.long y4), none, some (.int (x6 + 1)), none, none] [] S4 (qI Q)) ∧ (¬ r5 ≤ y4 → V mdX6_start 27 [some (.ref 34), some (.int x1), some (.int x2), some (.int x6), some (.long r5), none, some (.int (x6 + 1)), none, none] [] S4 (qI Q)))))))))) : V mdX6_start 27 [some (.ref 34), some (.int x1), some (.int x2), some (.int x3), some (.long y4), none, some (.int x6), none, none] [] S (qI Q) := by
  intro zp0 zl0 ze0 zs0 zm0 zargs0 zbelow0 zmeth0 zc0 zD0 zad0 zac0 C0 hr0 hk0
  refine mr_iload C0 dX6_start_27 rfl ?_
  refine mr_aload_n C0 dX6_start_29 rfl (i := 0) rfl ?_
  refine mr_getI C0 dX6_start_30 fl_X6_72 (Nat.le_of_ble_eq_true rfl) rfl rfl ?_
  refine mr_icmp_ge C0 dX6_start_33 (tgt := 93) (by decide) (fun c1 => ?_) (fun c1 => ?_)
  · have h := h.1 c1
    refine mr_iload_n C0 dX6_start_93 rfl (i := 3) rfl ?_
    refine mr_iret C0 hr0 hk0 dX6_start_94 (qI_mk ?_)
    exact h
  · have h := h.2 c1
    refine mr_aload_n C0 dX6_start_36 rfl (i := 0) rfl ?_
    refine mr_aload_n C0 dX6_start_37 rfl (i := 0) rfl ?_
    refine mr_getR C0 dX6_start_38 fl_X6_22 (Nat.le_of_ble_eq_true rfl) rfl rfl ?_
    refine mr_iload_n C0 dX6_start_41 rfl (i := 1) rfl ?_
    have g2 := h.1
    have h := h.2
    refine mr_iald C0 dX6_start_42 (Nat.le_of_ble_eq_true rfl) rfl g2 ?_
    refine mr_iload C0 dX6_start_43 rfl ?_
    refine mr_callVV C0 mdX6_layChances dX6_start_45 clX6_layChances ml_X6_179 (Nat.le_of_ble_eq_true rfl) rfl rfl arX6_layChances (as := [.int (S.1 39 x1.toNatClampNeg), .int x6]) rfl (Nat.le_of_ble_eq_true rfl) (Nat.le_of_ble_eq_true rfl) (Nat.le_of_ble_eq_true rfl) fit0 h (fun S3 h => ?_)
    refine mr_aload_n C0 dX6_start_48 rfl (i := 0) rfl ?_
    refine mr_iload_n C0 dX6_start_49 rfl (i := 2) rfl ?_
    refine mr_callVJ C0 mdX6_partsFor dX6_start_50 clX6_partsFor ml_X6_191 (Nat.le_of_ble_eq_true rfl) rfl rfl arX6_partsFor (as := [.int x2]) rfl (Nat.le_of_ble_eq_true rfl) (Nat.le_of_ble_eq_true rfl) (Nat.le_of_ble_eq_true rfl) fit0 h (fun r5 S4 h => ?_)
    refine mr_lstore (L1 := [some (.ref 34), some (.int x1), some (.int x2), some (.int x3), some (.long y4), none, some (.int x6), some (.long r5), none]) C0 dX6_start_53 (Nat.le_of_ble_eq_true rfl) rfl ?_
    refine mr_lload C0 dX6_start_55 rfl ?_
    refine mr_lload C0 dX6_start_57 rfl ?_
    refine mr_lcmp_le C0 dX6_start_59 dX6_start_60 (tgt := 68) (by decide) (fun c6 => ?_) (fun c6 => ?_)
    · have h := h.1 c6
      refine mr_iload_n C0 dX6_start_68 rfl (i := 3) rfl ?_
      refine mr_istore_n (L1 := [some (.ref 34), some (.int x1), some (.int x2), some (.int x3), some (.long y4), none, some (.int x6), some (.long r5), none]) C0 dX6_start_69 rfl (Nat.le_of_ble_eq_true rfl) rfl ?_
      refine mr_lload C0 dX6_start_70 rfl ?_
      refine mr_lload C0 dX6_start_72 rfl ?_
      refine mr_lcmp_le C0 dX6_start_74 dX6_start_75 (tgt := 83) (by decide) (fun c7 => ?_) (fun c7 => ?_)
      · have h := h.1 c7
        refine mr_lload C0 dX6_start_83 rfl ?_
        refine mr_lstore (L1 := [some (.ref 34), some (.int x1), some (.int x2), some (.int x3), some (.long y4), none, some (.int x6), some (.long r5), none]) C0 dX6_start_85 (Nat.le_of_ble_eq_true rfl) rfl ?_
        refine mr_iinc (v := (x6 + 1)) (L1 := [some (.ref 34), some (.int x1), some (.int x2), some (.int x3), some (.long y4), none, some (.int (x6 + 1)), some (.long r5), none]) C0 dX6_start_87 rfl rfl (Nat.le_of_ble_eq_true rfl) rfl ?_
        refine mr_goto C0 dX6_start_90 (tgt := 27) (by decide) ?_
        refine mr_mask (L1 := [some (.ref 34), some (.int x1), some (.int x2), some (.int x3), some (.long y4), none, some (.int (x6 + 1)), none, none]) C0 [true, true, true, true, true, false, true, false, false] rfl ?_
        exact h zp0 zl0 ze0 zs0 zm0 zargs0 zbelow0 zmeth0 zc0 zD0 zad0 zac0 C0 hr0 hk0
      · have h := h.2 c7
        refine mr_lload C0 dX6_start_78 rfl ?_
        refine mr_goto C0 dX6_start_80 (tgt := 85) (by decide) ?_
        refine mr_lstore (L1 := [some (.ref 34), some (.int x1), some (.int x2), some (.int x3), some (.long r5), none, some (.int x6), some (.long r5), none]) C0 dX6_start_85 (Nat.le_of_ble_eq_true rfl) rfl ?_
        refine mr_iinc (v := (x6 + 1)) (L1 := [some (.ref 34), some (.int x1), some (.int x2), some (.int x3), some (.long r5), none, some (.int (x6 + 1)), some (.long r5), none]) C0 dX6_start_87 rfl rfl (Nat.le_of_ble_eq_true rfl) rfl ?_
        refine mr_goto C0 dX6_start_90 (tgt := 27) (by decide) ?_
        refine mr_mask (L1 := [some (.ref 34), some (.int x1), some (.int x2), some (.int x3), some (.long r5), none, some (.int (x6 + 1)), none, none]) C0 [true, true, true, true, true, false, true, false, false] rfl ?_
        exact h zp0 zl0 ze0 zs0 zm0 zargs0 zbelow0 zmeth0 zc0 zD0 zad0 zac0 C0 hr0 hk0
    · have h := h.2 c6
      refine mr_iload C0 dX6_start_63 rfl ?_
      refine mr_goto C0 dX6_start_65 (tgt := 69) (by decide) ?_
      refine mr_istore_n (L1 := [some (.ref 34), some (.int x1), some (.int x2), some (.int x6), some (.long y4), none, some (.int x6), some (.long r5), none]) C0 dX6_start_69 rfl (Nat.le_of_ble_eq_true rfl) rfl ?_
      refine mr_lload C0 dX6_start_70 rfl ?_
      refine mr_lload C0 dX6_start_72 rfl ?_
      refine mr_lcmp_le C0 dX6_start_74 dX6_start_75 (tgt := 83) (by decide) (fun c8 => ?_) (fun c8 => ?_)
      · have h := h.1 c8
        refine mr_lload C0 dX6_start_83 rfl ?_
        refine mr_lstore (L1 := [some (.ref 34), some (.int x1), some (.int x2), some (.int x6), some (.long y4), none, some (.int x6), some (.long r5), none]) C0 dX6_start_85 (Nat.le_of_ble_eq_true rfl) rfl ?_
        refine mr_iinc (v := (x6 + 1)) (L1 := [some (.ref 34), some (.int x1), some (.int x2), some (.int x6), some (.long y4), none, some (.int (x6 + 1)), some (.long r5), none]) C0 dX6_start_87 rfl rfl (Nat.le_of_ble_eq_true rfl) rfl ?_
        refine mr_goto C0 dX6_start_90 (tgt := 27) (by decide) ?_
        refine mr_mask (L1 := [some (.ref 34), some (.int x1), some (.int x2), some (.int x6), some (.long y4), none, some (.int (x6 + 1)), none, none]) C0 [true, true, true, true, true, false, true, false, false] rfl ?_
        exact h zp0 zl0 ze0 zs0 zm0 zargs0 zbelow0 zmeth0 zc0 zD0 zad0 zac0 C0 hr0 hk0
      · have h := h.2 c8
        refine mr_lload C0 dX6_start_78 rfl ?_
        refine mr_goto C0 dX6_start_80 (tgt := 85) (by decide) ?_
        refine mr_lstore (L1 := [some (.ref 34), some (.int x1), some (.int x2), some (.int x6), some (.long r5), none, some (.int x6), some (.long r5), none]) C0 dX6_start_85 (Nat.le_of_ble_eq_true rfl) rfl ?_
        refine mr_iinc (v := (x6 + 1)) (L1 := [some (.ref 34), some (.int x1), some (.int x2), some (.int x6), some (.long r5), none, some (.int (x6 + 1)), some (.long r5), none]) C0 dX6_start_87 rfl rfl (Nat.le_of_ble_eq_true rfl) rfl ?_
        refine mr_goto C0 dX6_start_90 (tgt := 27) (by decide) ?_
        refine mr_mask (L1 := [some (.ref 34), some (.int x1), some (.int x2), some (.int x6), some (.long r5), none, some (.int (x6 + 1)), none, none]) C0 [true, true, true, true, true, false, true, false, false] rfl ?_
        exact h zp0 zl0 ze0 zs0 zm0 zargs0 zbelow0 zmeth0 zc0 zD0 zad0 zac0 C0 hr0 hk0
set_option maxRecDepth 100000 in
set_option maxHeartbeats 4000000 in
theorem eX6_moveOf (x1 : Int32) (S : St) (Q : Int32 → St → Prop) (h : CallV mdX6_expectsNow [.ref 34, .int x1] S (qJ fun r2 S1 => V mdX6_moveOf 13 [some (.ref 34), some (.int x1), some (.long r2), none, some (.int (-9 : Int32)), some (.int (0 : Int32)), none, none, none, none] [] S1 (qI Q))) : CallV mdX6_moveOf [.ref 34, .int x1] S (qI Q) := by
  refine CallV_of mdX6_moveOf plX6_moveOf 8 (Nat.le_of_ble_eq_true rfl) rfl ?_
  intro zp0 zl0 ze0 zs0 zm0 zargs0 zbelow0 zmeth0 zc0 zD0 zad0 zac0 C0 hr0 hk0
  refine mr_aload_n C0 dX6_moveOf_0 rfl (i := 0) rfl ?_
  refine mr_iload_n C0 dX6_moveOf_1 rfl (i := 1) rfl ?_
  refine mr_callVJ C0 mdX6_expectsNow dX6_moveOf_2 clX6_expectsNow ml_X6_198 (Nat.le_of_ble_eq_true rfl) rfl rfl arX6_expectsNow (as := [.int x1]) rfl (Nat.le_of_ble_eq_true rfl) (Nat.le_of_ble_eq_true rfl) (Nat.le_of_ble_eq_true rfl) fit0 h (fun r2 S1 h => ?_)
  refine mr_lstore_n (L1 := [some (.ref 34), some (.int x1), some (.long r2), none, none, none, none, none, none, none]) C0 dX6_moveOf_5 rfl (Nat.le_of_ble_eq_true rfl) rfl ?_
  refine mr_bipush (v := (-9)) C0 dX6_moveOf_6 (by decide) ?_
  refine mr_istore (L1 := [some (.ref 34), some (.int x1), some (.long r2), none, some (.int (-9 : Int32)), none, none, none, none, none]) C0 dX6_moveOf_8 (Nat.le_of_ble_eq_true rfl) rfl ?_
  refine mr_iconst (v := 0) C0 dX6_moveOf_10 (by decide) ?_
  refine mr_istore (L1 := [some (.ref 34), some (.int x1), some (.long r2), none, some (.int (-9 : Int32)), some (.int (0 : Int32)), none, none, none, none]) C0 dX6_moveOf_11 (Nat.le_of_ble_eq_true rfl) rfl ?_
  exact h zp0 zl0 ze0 zs0 zm0 zargs0 zbelow0 zmeth0 zc0 zD0 zad0 zac0 C0 hr0 hk0
set_option maxRecDepth 100000 in
set_option maxHeartbeats 4000000 in
theorem eX6_moveOf_13 (x1 : Int32) (y2 : Int64) (x4 : Int32) (x5 : Int32) (S : St) (Q : Int32 → St → Prop) (h : ((((S.1 34 1) * (S.1 34 2)) ≤ x5 → Q x4 S) ∧ (¬ ((S.1 34 1) * (S.1 34 2)) ≤ x5 → (vp_in x5 30) ∧ V mdX6_moveOf 34 [some (.ref 34), some (.int x1), some (.long y2), none, some (.int x4), some (.int x5), some (.int (S.1 36 x5.toNatClampNeg)), some (.int (0 : Int32)), none, none] [] S (qI Q)))) : V mdX6_moveOf 13 [some (.ref 34), some (.int x1), some (.long y2), none, some (.int x4), some (.int x5), none, none, none, none] [] S (qI Q) := by
  intro zp0 zl0 ze0 zs0 zm0 zargs0 zbelow0 zmeth0 zc0 zD0 zad0 zac0 C0 hr0 hk0
  refine mr_iload C0 dX6_moveOf_13 rfl ?_
  refine mr_aload_n C0 dX6_moveOf_15 rfl (i := 0) rfl ?_
  refine mr_callVI C0 mdX6_cells dX6_moveOf_16 clX6_cells ml_X6_75 (Nat.le_of_ble_eq_true rfl) rfl rfl arX6_cells (as := []) rfl (Nat.le_of_ble_eq_true rfl) (Nat.le_of_ble_eq_true rfl) (Nat.le_of_ble_eq_true rfl) fit0 (CallV_of mdX6_cells plX6_cells 0 (Nat.le_of_ble_eq_true rfl) rfl ?_) (fun _ _ h => h)
  intro zp1 zl1 ze1 zs1 zm1 zargs1 zbelow1 zmeth1 zc1 zD1 zad1 zac1 C1 hr1 hk1
  refine mr_aload_n C1 dX6_cells_0 rfl (i := 0) rfl ?_
  refine mr_getI C1 dX6_cells_1 fl_X6_69 (Nat.le_of_ble_eq_true rfl) rfl rfl ?_
  refine mr_aload_n C1 dX6_cells_4 rfl (i := 0) rfl ?_
  refine mr_getI C1 dX6_cells_5 fl_X6_72 (Nat.le_of_ble_eq_true rfl) rfl rfl ?_
  refine mr_imul C1 dX6_cells_8 ?_
  refine mr_iret C1 hr1 hk1 dX6_cells_9 (qI_mk ?_)
  refine mr_icmp_ge C0 dX6_moveOf_19 (tgt := 113) (by decide) (fun c1 => ?_) (fun c1 => ?_)
  · have h := h.1 c1
    refine mr_iload C0 dX6_moveOf_113 rfl ?_
    refine mr_iret C0 hr0 hk0 dX6_moveOf_115 (qI_mk ?_)
    exact h
  · have h := h.2 c1
    refine mr_aload_n C0 dX6_moveOf_22 rfl (i := 0) rfl ?_
    refine mr_getR C0 dX6_moveOf_23 fl_X6_13 (Nat.le_of_ble_eq_true rfl) rfl rfl ?_
    refine mr_iload C0 dX6_moveOf_26 rfl ?_
    have g2 := h.1
    have h := h.2
    refine mr_iald C0 dX6_moveOf_28 (Nat.le_of_ble_eq_true rfl) rfl g2 ?_
    refine mr_istore (L1 := [some (.ref 34), some (.int x1), some (.long y2), none, some (.int x4), some (.int x5), some (.int (S.1 36 x5.toNatClampNeg)), none, none, none]) C0 dX6_moveOf_29 (Nat.le_of_ble_eq_true rfl) rfl ?_
    refine mr_iconst (v := 0) C0 dX6_moveOf_31 (by decide) ?_
    refine mr_istore (L1 := [some (.ref 34), some (.int x1), some (.long y2), none, some (.int x4), some (.int x5), some (.int (S.1 36 x5.toNatClampNeg)), some (.int (0 : Int32)), none, none]) C0 dX6_moveOf_32 (Nat.le_of_ble_eq_true rfl) rfl ?_
    exact h zp0 zl0 ze0 zs0 zm0 zargs0 zbelow0 zmeth0 zc0 zD0 zad0 zac0 C0 hr0 hk0
set_option maxRecDepth 100000 in
set_option maxHeartbeats 4000000 in
theorem eX6_moveOf_34 (x1 : Int32) (y2 : Int64) (x4 : Int32) (x5 : Int32) (x6 : Int32) (x7 : Int32) (S : St) (Q : Int32 → St → Prop) (h : (((4 : Int32) < x7 → (vp_in x5 30) ∧ V mdX6_moveOf 13 [some (.ref 34), some (.int x1), some (.long y2), none, some (.int x4), some (.int (x5 + 1)), none, none, none, none] [] (sI S 36 x5.toNatClampNeg x6) (qI Q)) ∧ (¬ (4 : Int32) < x7 → (vp_in x5 30) ∧ CallV mdX6_expectsNow [.ref 34, .int x1] (sI S 36 x5.toNatClampNeg x7) (qJ fun r5 S4 => ((r5 ≤ y2 → ((r5 ≤ y2 → V mdX6_moveOf 34 [some (.ref 34), some (.int x1), some (.long y2), none, some (.int x4), some (.int x5), some (.int x6), some (.int (x7 + 1)), none, none] [] S4 (qI Q)) ∧ (¬ r5 ≤ y2 → V mdX6_moveOf 34 [some (.ref 34), some (.int x1), some (.long r5), none, some (.int x4), some (.int x5), some (.int x6), some (.int (x7 + 1)), none, none] [] S4 (qI Q)))) ∧ (¬ r5 ≤ y2 → ((r5 ≤ y2 → V mdX6_moveOf 34 [some (.ref 34), some (.int x1), some (.long y2), none, some (.int (((10 : Int32) * x5) + x7)), some (.int x5), some (.int x6), some (.int (x7 + 1)), none, none] [] S4 (qI Q)) ∧ (¬ r5 ≤ y2 → V mdX6_moveOf 34 [some (.ref 34), some (.int x1), some (.long r5), none, some (.int (((10 : Int32) * x5) + x7)), some (.int x5), some (.int x6), some (.int (x7 + 1)), none, none] [] S4 (qI Q))))))))) : V mdX6_moveOf 34 [some (.ref 34), some (.int x1), some (.long y2), none, some (.int x4), some (.int x5), some (.int x6), some (.int x7), none, none] [] S (qI Q) := by
  intro zp0 zl0 ze0 zs0 zm0 zargs0 zbelow0 zmeth0 zc0 zD0 zad0 zac0 C0 hr0 hk0
  refine mr_iload C0 dX6_moveOf_34 rfl ?_
  refine mr_iconst (v := 4) C0 dX6_moveOf_36 (by decide) ?_
  refine mr_icmp_gt C0 dX6_moveOf_37 (tgt := 98) (by decide) (fun c1 => ?_) (fun c1 => ?_)
  · have h := h.1 c1
    refine mr_aload_n C0 dX6_moveOf_98 rfl (i := 0) rfl ?_
    refine mr_getR C0 dX6_moveOf_99 fl_X6_13 (Nat.le_of_ble_eq_true rfl) rfl rfl ?_
    refine mr_iload C0 dX6_moveOf_102 rfl ?_
    refine mr_iload C0 dX6_moveOf_104 rfl ?_
    have g2 := h.1
    have h := h.2
    refine mr_iast C0 dX6_moveOf_106 (Nat.le_of_ble_eq_true rfl) rfl g2 ?_
    refine mr_iinc (v := (x5 + 1)) (L1 := [some (.ref 34), some (.int x1), some (.long y2), none, some (.int x4), some (.int (x5 + 1)), some (.int x6), some (.int x7), none, none]) C0 dX6_moveOf_107 rfl rfl (Nat.le_of_ble_eq_true rfl) rfl ?_
    refine mr_goto C0 dX6_moveOf_110 (tgt := 13) (by decide) ?_
    refine mr_mask (L1 := [some (.ref 34), some (.int x1), some (.long y2), none, some (.int x4), some (.int (x5 + 1)), none, none, none, none]) C0 [true, true, true, false, true, true, false, false, false, false] rfl ?_
    exact h zp0 zl0 ze0 zs0 zm0 zargs0 zbelow0 zmeth0 zc0 zD0 zad0 zac0 C0 hr0 hk0
  · have h := h.2 c1
    refine mr_aload_n C0 dX6_moveOf_40 rfl (i := 0) rfl ?_
    refine mr_getR C0 dX6_moveOf_41 fl_X6_13 (Nat.le_of_ble_eq_true rfl) rfl rfl ?_
    refine mr_iload C0 dX6_moveOf_44 rfl ?_
    refine mr_iload C0 dX6_moveOf_46 rfl ?_
    have g3 := h.1
    have h := h.2
    refine mr_iast C0 dX6_moveOf_48 (Nat.le_of_ble_eq_true rfl) rfl g3 ?_
    refine mr_aload_n C0 dX6_moveOf_49 rfl (i := 0) rfl ?_
    refine mr_iload_n C0 dX6_moveOf_50 rfl (i := 1) rfl ?_
    refine mr_callVJ C0 mdX6_expectsNow dX6_moveOf_51 clX6_expectsNow ml_X6_198 (Nat.le_of_ble_eq_true rfl) rfl rfl arX6_expectsNow (as := [.int x1]) rfl (Nat.le_of_ble_eq_true rfl) (Nat.le_of_ble_eq_true rfl) (Nat.le_of_ble_eq_true rfl) fit0 h (fun r5 S4 h => ?_)
    refine mr_lstore (L1 := [some (.ref 34), some (.int x1), some (.long y2), none, some (.int x4), some (.int x5), some (.int x6), some (.int x7), some (.long r5), none]) C0 dX6_moveOf_54 (Nat.le_of_ble_eq_true rfl) rfl ?_
    refine mr_lload C0 dX6_moveOf_56 rfl ?_
    refine mr_lload_n C0 dX6_moveOf_58 rfl (i := 2) rfl ?_
    refine mr_lcmp_le C0 dX6_moveOf_59 dX6_moveOf_60 (tgt := 74) (by decide) (fun c6 => ?_) (fun c6 => ?_)
    · have h := h.1 c6
      refine mr_iload C0 dX6_moveOf_74 rfl ?_
      refine mr_istore (L1 := [some (.ref 34), some (.int x1), some (.long y2), none, some (.int x4), some (.int x5), some (.int x6), some (.int x7), some (.long r5), none]) C0 dX6_moveOf_76 (Nat.le_of_ble_eq_true rfl) rfl ?_
      refine mr_lload C0 dX6_moveOf_78 rfl ?_
      refine mr_lload_n C0 dX6_moveOf_80 rfl (i := 2) rfl ?_
      refine mr_lcmp_le C0 dX6_moveOf_81 dX6_moveOf_82 (tgt := 90) (by decide) (fun c7 => ?_) (fun c7 => ?_)
      · have h := h.1 c7
        refine mr_lload_n C0 dX6_moveOf_90 rfl (i := 2) rfl ?_
        refine mr_lstore_n (L1 := [some (.ref 34), some (.int x1), some (.long y2), none, some (.int x4), some (.int x5), some (.int x6), some (.int x7), some (.long r5), none]) C0 dX6_moveOf_91 rfl (Nat.le_of_ble_eq_true rfl) rfl ?_
        refine mr_iinc (v := (x7 + 1)) (L1 := [some (.ref 34), some (.int x1), some (.long y2), none, some (.int x4), some (.int x5), some (.int x6), some (.int (x7 + 1)), some (.long r5), none]) C0 dX6_moveOf_92 rfl rfl (Nat.le_of_ble_eq_true rfl) rfl ?_
        refine mr_goto C0 dX6_moveOf_95 (tgt := 34) (by decide) ?_
        refine mr_mask (L1 := [some (.ref 34), some (.int x1), some (.long y2), none, some (.int x4), some (.int x5), some (.int x6), some (.int (x7 + 1)), none, none]) C0 [true, true, true, false, true, true, true, true, false, false] rfl ?_
        exact h zp0 zl0 ze0 zs0 zm0 zargs0 zbelow0 zmeth0 zc0 zD0 zad0 zac0 C0 hr0 hk0
      · have h := h.2 c7
        refine mr_lload C0 dX6_moveOf_85 rfl ?_
        refine mr_goto C0 dX6_moveOf_87 (tgt := 91) (by decide) ?_
        refine mr_lstore_n (L1 := [some (.ref 34), some (.int x1), some (.long r5), none, some (.int x4), some (.int x5), some (.int x6), some (.int x7), some (.long r5), none]) C0 dX6_moveOf_91 rfl (Nat.le_of_ble_eq_true rfl) rfl ?_
        refine mr_iinc (v := (x7 + 1)) (L1 := [some (.ref 34), some (.int x1), some (.long r5), none, some (.int x4), some (.int x5), some (.int x6), some (.int (x7 + 1)), some (.long r5), none]) C0 dX6_moveOf_92 rfl rfl (Nat.le_of_ble_eq_true rfl) rfl ?_
        refine mr_goto C0 dX6_moveOf_95 (tgt := 34) (by decide) ?_
        refine mr_mask (L1 := [some (.ref 34), some (.int x1), some (.long r5), none, some (.int x4), some (.int x5), some (.int x6), some (.int (x7 + 1)), none, none]) C0 [true, true, true, false, true, true, true, true, false, false] rfl ?_
        exact h zp0 zl0 ze0 zs0 zm0 zargs0 zbelow0 zmeth0 zc0 zD0 zad0 zac0 C0 hr0 hk0
    · have h := h.2 c6
      refine mr_bipush (v := 10) C0 dX6_moveOf_63 (by decide) ?_
      refine mr_iload C0 dX6_moveOf_65 rfl ?_
      refine mr_imul C0 dX6_moveOf_67 ?_
      refine mr_iload C0 dX6_moveOf_68 rfl ?_
      refine mr_iadd C0 dX6_moveOf_70 ?_
      refine mr_goto C0 dX6_moveOf_71 (tgt := 76) (by decide) ?_
      refine mr_istore (L1 := [some (.ref 34), some (.int x1), some (.long y2), none, some (.int (((10 : Int32) * x5) + x7)), some (.int x5), some (.int x6), some (.int x7), some (.long r5), none]) C0 dX6_moveOf_76 (Nat.le_of_ble_eq_true rfl) rfl ?_
      refine mr_lload C0 dX6_moveOf_78 rfl ?_
      refine mr_lload_n C0 dX6_moveOf_80 rfl (i := 2) rfl ?_
      refine mr_lcmp_le C0 dX6_moveOf_81 dX6_moveOf_82 (tgt := 90) (by decide) (fun c8 => ?_) (fun c8 => ?_)
      · have h := h.1 c8
        refine mr_lload_n C0 dX6_moveOf_90 rfl (i := 2) rfl ?_
        refine mr_lstore_n (L1 := [some (.ref 34), some (.int x1), some (.long y2), none, some (.int (((10 : Int32) * x5) + x7)), some (.int x5), some (.int x6), some (.int x7), some (.long r5), none]) C0 dX6_moveOf_91 rfl (Nat.le_of_ble_eq_true rfl) rfl ?_
        refine mr_iinc (v := (x7 + 1)) (L1 := [some (.ref 34), some (.int x1), some (.long y2), none, some (.int (((10 : Int32) * x5) + x7)), some (.int x5), some (.int x6), some (.int (x7 + 1)), some (.long r5), none]) C0 dX6_moveOf_92 rfl rfl (Nat.le_of_ble_eq_true rfl) rfl ?_
        refine mr_goto C0 dX6_moveOf_95 (tgt := 34) (by decide) ?_
        refine mr_mask (L1 := [some (.ref 34), some (.int x1), some (.long y2), none, some (.int (((10 : Int32) * x5) + x7)), some (.int x5), some (.int x6), some (.int (x7 + 1)), none, none]) C0 [true, true, true, false, true, true, true, true, false, false] rfl ?_
        exact h zp0 zl0 ze0 zs0 zm0 zargs0 zbelow0 zmeth0 zc0 zD0 zad0 zac0 C0 hr0 hk0
      · have h := h.2 c8
        refine mr_lload C0 dX6_moveOf_85 rfl ?_
        refine mr_goto C0 dX6_moveOf_87 (tgt := 91) (by decide) ?_
        refine mr_lstore_n (L1 := [some (.ref 34), some (.int x1), some (.long r5), none, some (.int (((10 : Int32) * x5) + x7)), some (.int x5), some (.int x6), some (.int x7), some (.long r5), none]) C0 dX6_moveOf_91 rfl (Nat.le_of_ble_eq_true rfl) rfl ?_
        refine mr_iinc (v := (x7 + 1)) (L1 := [some (.ref 34), some (.int x1), some (.long r5), none, some (.int (((10 : Int32) * x5) + x7)), some (.int x5), some (.int x6), some (.int (x7 + 1)), some (.long r5), none]) C0 dX6_moveOf_92 rfl rfl (Nat.le_of_ble_eq_true rfl) rfl ?_
        refine mr_goto C0 dX6_moveOf_95 (tgt := 34) (by decide) ?_
        refine mr_mask (L1 := [some (.ref 34), some (.int x1), some (.long r5), none, some (.int (((10 : Int32) * x5) + x7)), some (.int x5), some (.int x6), some (.int (x7 + 1)), none, none]) C0 [true, true, true, false, true, true, true, true, false, false] rfl ?_
        exact h zp0 zl0 ze0 zs0 zm0 zargs0 zbelow0 zmeth0 zc0 zD0 zad0 zac0 C0 hr0 hk0
set_option maxRecDepth 100000 in
set_option maxHeartbeats 4000000 in
theorem eX6_move (x1 : Int32) (S : St) (Q : Int32 → St → Prop) (h : ((x1.toInt64 < (0 : Int64) → Q (-1 : Int32) S) ∧ (¬ x1.toInt64 < (0 : Int64) → (((3 : Int64) < x1.toInt64 → Q (-1 : Int32) S) ∧ (¬ (3 : Int64) < x1.toInt64 → ((¬ (S.1 34 1) = 0 → CallV mdX6_moveOf [.ref 34, .int x1] S (qI fun r5 S4 => Q r5 S4)) ∧ ((S.1 34 1) = 0 → Q (-3 : Int32) S))))))) : CallV mdX6_move [.ref 34, .int x1] S (qI Q) := by
  refine CallV_of mdX6_move plX6_move 0 (Nat.le_of_ble_eq_true rfl) rfl ?_
  intro zp0 zl0 ze0 zs0 zm0 zargs0 zbelow0 zmeth0 zc0 zD0 zad0 zac0 C0 hr0 hk0
  refine mr_iload_n C0 dX6_move_0 rfl (i := 1) rfl ?_
  refine mr_callSI C0 mdX6_noParty dX6_move_1 clX6_noParty ml_X6_195 arX6_noParty (as := [.int x1]) rfl (Nat.le_of_ble_eq_true rfl) (Nat.le_of_ble_eq_true rfl) (Nat.le_of_ble_eq_true rfl) fit0 (CallV_of mdX6_noParty plX6_noParty 0 (Nat.le_of_ble_eq_true rfl) rfl ?_) (fun _ _ h => h)
  intro zp1 zl1 ze1 zs1 zm1 zargs1 zbelow1 zmeth1 zc1 zD1 zad1 zac1 C1 hr1 hk1
  refine mr_iload_n C1 dX6_noParty_0 rfl (i := 0) rfl ?_
  refine mr_i2l C1 dX6_noParty_1 ?_
  refine mr_lconst (v := 0) C1 dX6_noParty_2 (by decide) ?_
  refine mr_ldc2 C1 dX6_noParty_3 cn_X6_83 ?_
  refine mr_callSI C1 mdX6_in dX6_noParty_6 clX6_in ml_X6_79 arX6_in (as := [.long x1.toInt64, .long (0 : Int64), .long (3 : Int64)]) rfl (Nat.le_of_ble_eq_true rfl) (Nat.le_of_ble_eq_true rfl) (Nat.le_of_ble_eq_true rfl) fit0 (CallV_of mdX6_in plX6_in 0 (Nat.le_of_ble_eq_true rfl) rfl ?_) (fun _ _ h => h)
  intro zp2 zl2 ze2 zs2 zm2 zargs2 zbelow2 zmeth2 zc2 zD2 zad2 zac2 C2 hr2 hk2
  refine mr_lload_n C2 dX6_in_0 rfl (i := 0) rfl ?_
  refine mr_lload_n C2 dX6_in_1 rfl (i := 2) rfl ?_
  refine mr_lcmp_lt C2 dX6_in_2 dX6_in_3 (tgt := 17) (by decide) (fun c1 => ?_) (fun c1 => ?_)
  · have h := h.1 c1
    refine mr_iconst (v := 0) C2 dX6_in_17 (by decide) ?_
    refine mr_zret C2 hr2 hk2 dX6_in_18 rfl (qI_mk ?_)
    refine mr_if_ne C1 dX6_noParty_9 (tgt := 16) (by decide) (fun q => absurd q (by decide)) (fun _ => ?_)
    refine mr_iconst (v := 1) C1 dX6_noParty_12 (by decide) ?_
    refine mr_goto C1 dX6_noParty_13 (tgt := 17) (by decide) ?_
    refine mr_zret C1 hr1 hk1 dX6_noParty_17 rfl (qI_mk ?_)
    refine mr_if_eq C0 dX6_move_4 (tgt := 9) (by decide) (fun q => absurd q (by decide)) (fun _ => ?_)
    refine mr_iconst (v := (-1)) C0 dX6_move_7 (by decide) ?_
    refine mr_iret C0 hr0 hk0 dX6_move_8 (qI_mk ?_)
    exact h
  · have h := h.2 c1
    refine mr_lload_n C2 dX6_in_6 rfl (i := 0) rfl ?_
    refine mr_lload C2 dX6_in_7 rfl ?_
    refine mr_lcmp_gt C2 dX6_in_9 dX6_in_10 (tgt := 17) (by decide) (fun c2 => ?_) (fun c2 => ?_)
    · have h := h.1 c2
      refine mr_iconst (v := 0) C2 dX6_in_17 (by decide) ?_
      refine mr_zret C2 hr2 hk2 dX6_in_18 rfl (qI_mk ?_)
      refine mr_if_ne C1 dX6_noParty_9 (tgt := 16) (by decide) (fun q => absurd q (by decide)) (fun _ => ?_)
      refine mr_iconst (v := 1) C1 dX6_noParty_12 (by decide) ?_
      refine mr_goto C1 dX6_noParty_13 (tgt := 17) (by decide) ?_
      refine mr_zret C1 hr1 hk1 dX6_noParty_17 rfl (qI_mk ?_)
      refine mr_if_eq C0 dX6_move_4 (tgt := 9) (by decide) (fun q => absurd q (by decide)) (fun _ => ?_)
      refine mr_iconst (v := (-1)) C0 dX6_move_7 (by decide) ?_
      refine mr_iret C0 hr0 hk0 dX6_move_8 (qI_mk ?_)
      exact h
    · have h := h.2 c2
      refine mr_iconst (v := 1) C2 dX6_in_13 (by decide) ?_
      refine mr_goto C2 dX6_in_14 (tgt := 18) (by decide) ?_
      refine mr_zret C2 hr2 hk2 dX6_in_18 rfl (qI_mk ?_)
      refine mr_if_ne C1 dX6_noParty_9 (tgt := 16) (by decide) (fun _ => ?_) (fun q => absurd q (by decide))
      refine mr_iconst (v := 0) C1 dX6_noParty_16 (by decide) ?_
      refine mr_zret C1 hr1 hk1 dX6_noParty_17 rfl (qI_mk ?_)
      refine mr_if_eq C0 dX6_move_4 (tgt := 9) (by decide) (fun _ => ?_) (fun q => absurd q (by decide))
      refine mr_aload_n C0 dX6_move_9 rfl (i := 0) rfl ?_
      refine mr_getI C0 dX6_move_10 fl_X6_69 (Nat.le_of_ble_eq_true rfl) rfl rfl ?_
      refine mr_if_ne C0 dX6_move_13 (tgt := 21) (by decide) (fun c3 => ?_) (fun c3 => ?_)
      · have h := h.1 c3
        refine mr_aload_n C0 dX6_move_21 rfl (i := 0) rfl ?_
        refine mr_iload_n C0 dX6_move_22 rfl (i := 1) rfl ?_
        refine mr_callVI C0 mdX6_moveOf dX6_move_23 clX6_moveOf ml_X6_203 (Nat.le_of_ble_eq_true rfl) rfl rfl arX6_moveOf (as := [.int x1]) rfl (Nat.le_of_ble_eq_true rfl) (Nat.le_of_ble_eq_true rfl) (Nat.le_of_ble_eq_true rfl) fit0 h (fun r5 S4 h => ?_)
        refine mr_iret C0 hr0 hk0 dX6_move_26 (qI_mk ?_)
        exact h
      · have h := h.2 c3
        refine mr_bipush (v := (-3)) C0 dX6_move_16 (by decide) ?_
        refine mr_goto C0 dX6_move_18 (tgt := 26) (by decide) ?_
        refine mr_iret C0 hr0 hk0 dX6_move_26 (qI_mk ?_)
        exact h
set_option maxRecDepth 100000 in
set_option maxHeartbeats 4000000 in
theorem eX6_answer (x1 : Int32) (x2 : Int32) (S : St) (Q : Int32 → St → Prop) (h : ((x1.toInt64 < (0 : Int64) → Q (-1 : Int32) S) ∧ (¬ x1.toInt64 < (0 : Int64) → (((3 : Int64) < x1.toInt64 → Q (-1 : Int32) S) ∧ (¬ (3 : Int64) < x1.toInt64 → ((x2.toInt64 < (0 : Int64) → Q (-1 : Int32) S) ∧ (¬ x2.toInt64 < (0 : Int64) → (((3 : Int64) < x2.toInt64 → Q (-1 : Int32) S) ∧ (¬ (3 : Int64) < x2.toInt64 → ((¬ x1 = x2 → ((¬ (S.1 34 1) = 0 → CallV mdX6_moveOf [.ref 34, .int x1] S (qI fun r8 S7 => ((0 ≤ r8 → (vp_in (r8 / (10 : Int32)) 30) ∧ (vp_in (r8 / (10 : Int32)) 30) ∧ CallV mdX6_moveOf [.ref 34, .int x2] (sI S7 36 ((r8 / (10 : Int32)).toNatClampNeg) (r8 - r8 / (10 : Int32) * (10 : Int32))) (qI fun r13 S12 => (vp_in (r8 / (10 : Int32)) 30) ∧ Q r13 (sI S12 36 ((r8 / (10 : Int32)).toNatClampNeg) (S7.1 36 ((r8 / (10 : Int32)).toNatClampNeg))))) ∧ (¬ 0 ≤ r8 → CallV mdX6_moveOf [.ref 34, .int x2] S7 (qI fun r16 S15 => Q r16 S15))))) ∧ ((S.1 34 1) = 0 → Q (-3 : Int32) S))) ∧ (x1 = x2 → Q (-2 : Int32) S))))))))))) : CallV mdX6_answer [.ref 34, .int x1, .int x2] S (qI Q) := by
  refine CallV_of mdX6_answer plX6_answer 3 (Nat.le_of_ble_eq_true rfl) rfl ?_
  intro zp0 zl0 ze0 zs0 zm0 zargs0 zbelow0 zmeth0 zc0 zD0 zad0 zac0 C0 hr0 hk0
  refine mr_iload_n C0 dX6_answer_0 rfl (i := 1) rfl ?_
  refine mr_callSI C0 mdX6_noParty dX6_answer_1 clX6_noParty ml_X6_195 arX6_noParty (as := [.int x1]) rfl (Nat.le_of_ble_eq_true rfl) (Nat.le_of_ble_eq_true rfl) (Nat.le_of_ble_eq_true rfl) fit0 (CallV_of mdX6_noParty plX6_noParty 0 (Nat.le_of_ble_eq_true rfl) rfl ?_) (fun _ _ h => h)
  intro zp1 zl1 ze1 zs1 zm1 zargs1 zbelow1 zmeth1 zc1 zD1 zad1 zac1 C1 hr1 hk1
  refine mr_iload_n C1 dX6_noParty_0 rfl (i := 0) rfl ?_
  refine mr_i2l C1 dX6_noParty_1 ?_
  refine mr_lconst (v := 0) C1 dX6_noParty_2 (by decide) ?_
  refine mr_ldc2 C1 dX6_noParty_3 cn_X6_83 ?_
  refine mr_callSI C1 mdX6_in dX6_noParty_6 clX6_in ml_X6_79 arX6_in (as := [.long x1.toInt64, .long (0 : Int64), .long (3 : Int64)]) rfl (Nat.le_of_ble_eq_true rfl) (Nat.le_of_ble_eq_true rfl) (Nat.le_of_ble_eq_true rfl) fit0 (CallV_of mdX6_in plX6_in 0 (Nat.le_of_ble_eq_true rfl) rfl ?_) (fun _ _ h => h)
  intro zp2 zl2 ze2 zs2 zm2 zargs2 zbelow2 zmeth2 zc2 zD2 zad2 zac2 C2 hr2 hk2
  refine mr_lload_n C2 dX6_in_0 rfl (i := 0) rfl ?_
  refine mr_lload_n C2 dX6_in_1 rfl (i := 2) rfl ?_
  refine mr_lcmp_lt C2 dX6_in_2 dX6_in_3 (tgt := 17) (by decide) (fun c1 => ?_) (fun c1 => ?_)
  · have h := h.1 c1
    refine mr_iconst (v := 0) C2 dX6_in_17 (by decide) ?_
    refine mr_zret C2 hr2 hk2 dX6_in_18 rfl (qI_mk ?_)
    refine mr_if_ne C1 dX6_noParty_9 (tgt := 16) (by decide) (fun q => absurd q (by decide)) (fun _ => ?_)
    refine mr_iconst (v := 1) C1 dX6_noParty_12 (by decide) ?_
    refine mr_goto C1 dX6_noParty_13 (tgt := 17) (by decide) ?_
    refine mr_zret C1 hr1 hk1 dX6_noParty_17 rfl (qI_mk ?_)
    refine mr_if_ne C0 dX6_answer_4 (tgt := 14) (by decide) (fun _ => ?_) (fun q => absurd q (by decide))
    refine mr_iconst (v := (-1)) C0 dX6_answer_14 (by decide) ?_
    refine mr_iret C0 hr0 hk0 dX6_answer_15 (qI_mk ?_)
    exact h
  · have h := h.2 c1
    refine mr_lload_n C2 dX6_in_6 rfl (i := 0) rfl ?_
    refine mr_lload C2 dX6_in_7 rfl ?_
    refine mr_lcmp_gt C2 dX6_in_9 dX6_in_10 (tgt := 17) (by decide) (fun c2 => ?_) (fun c2 => ?_)
    · have h := h.1 c2
      refine mr_iconst (v := 0) C2 dX6_in_17 (by decide) ?_
      refine mr_zret C2 hr2 hk2 dX6_in_18 rfl (qI_mk ?_)
      refine mr_if_ne C1 dX6_noParty_9 (tgt := 16) (by decide) (fun q => absurd q (by decide)) (fun _ => ?_)
      refine mr_iconst (v := 1) C1 dX6_noParty_12 (by decide) ?_
      refine mr_goto C1 dX6_noParty_13 (tgt := 17) (by decide) ?_
      refine mr_zret C1 hr1 hk1 dX6_noParty_17 rfl (qI_mk ?_)
      refine mr_if_ne C0 dX6_answer_4 (tgt := 14) (by decide) (fun _ => ?_) (fun q => absurd q (by decide))
      refine mr_iconst (v := (-1)) C0 dX6_answer_14 (by decide) ?_
      refine mr_iret C0 hr0 hk0 dX6_answer_15 (qI_mk ?_)
      exact h
    · have h := h.2 c2
      refine mr_iconst (v := 1) C2 dX6_in_13 (by decide) ?_
      refine mr_goto C2 dX6_in_14 (tgt := 18) (by decide) ?_
      refine mr_zret C2 hr2 hk2 dX6_in_18 rfl (qI_mk ?_)
      refine mr_if_ne C1 dX6_noParty_9 (tgt := 16) (by decide) (fun _ => ?_) (fun q => absurd q (by decide))
      refine mr_iconst (v := 0) C1 dX6_noParty_16 (by decide) ?_
      refine mr_zret C1 hr1 hk1 dX6_noParty_17 rfl (qI_mk ?_)
      refine mr_if_ne C0 dX6_answer_4 (tgt := 14) (by decide) (fun q => absurd q (by decide)) (fun _ => ?_)
      refine mr_iload_n C0 dX6_answer_7 rfl (i := 2) rfl ?_
      refine mr_callSI C0 mdX6_noParty dX6_answer_8 clX6_noParty ml_X6_195 arX6_noParty (as := [.int x2]) rfl (Nat.le_of_ble_eq_true rfl) (Nat.le_of_ble_eq_true rfl) (Nat.le_of_ble_eq_true rfl) fit0 (CallV_of mdX6_noParty plX6_noParty 0 (Nat.le_of_ble_eq_true rfl) rfl ?_) (fun _ _ h => h)
      intro zp3 zl3 ze3 zs3 zm3 zargs3 zbelow3 zmeth3 zc3 zD3 zad3 zac3 C3 hr3 hk3
      refine mr_iload_n C3 dX6_noParty_0 rfl (i := 0) rfl ?_
      refine mr_i2l C3 dX6_noParty_1 ?_
      refine mr_lconst (v := 0) C3 dX6_noParty_2 (by decide) ?_
      refine mr_ldc2 C3 dX6_noParty_3 cn_X6_83 ?_
      refine mr_callSI C3 mdX6_in dX6_noParty_6 clX6_in ml_X6_79 arX6_in (as := [.long x2.toInt64, .long (0 : Int64), .long (3 : Int64)]) rfl (Nat.le_of_ble_eq_true rfl) (Nat.le_of_ble_eq_true rfl) (Nat.le_of_ble_eq_true rfl) fit0 (CallV_of mdX6_in plX6_in 0 (Nat.le_of_ble_eq_true rfl) rfl ?_) (fun _ _ h => h)
      intro zp4 zl4 ze4 zs4 zm4 zargs4 zbelow4 zmeth4 zc4 zD4 zad4 zac4 C4 hr4 hk4
      refine mr_lload_n C4 dX6_in_0 rfl (i := 0) rfl ?_
      refine mr_lload_n C4 dX6_in_1 rfl (i := 2) rfl ?_
      refine mr_lcmp_lt C4 dX6_in_2 dX6_in_3 (tgt := 17) (by decide) (fun c3 => ?_) (fun c3 => ?_)
      · have h := h.1 c3
        refine mr_iconst (v := 0) C4 dX6_in_17 (by decide) ?_
        refine mr_zret C4 hr4 hk4 dX6_in_18 rfl (qI_mk ?_)
        refine mr_if_ne C3 dX6_noParty_9 (tgt := 16) (by decide) (fun q => absurd q (by decide)) (fun _ => ?_)
        refine mr_iconst (v := 1) C3 dX6_noParty_12 (by decide) ?_
        refine mr_goto C3 dX6_noParty_13 (tgt := 17) (by decide) ?_
        refine mr_zret C3 hr3 hk3 dX6_noParty_17 rfl (qI_mk ?_)
        refine mr_if_eq C0 dX6_answer_11 (tgt := 16) (by decide) (fun q => absurd q (by decide)) (fun _ => ?_)
        refine mr_iconst (v := (-1)) C0 dX6_answer_14 (by decide) ?_
        refine mr_iret C0 hr0 hk0 dX6_answer_15 (qI_mk ?_)
        exact h
      · have h := h.2 c3
        refine mr_lload_n C4 dX6_in_6 rfl (i := 0) rfl ?_
        refine mr_lload C4 dX6_in_7 rfl ?_
        refine mr_lcmp_gt C4 dX6_in_9 dX6_in_10 (tgt := 17) (by decide) (fun c4 => ?_) (fun c4 => ?_)
        · have h := h.1 c4
          refine mr_iconst (v := 0) C4 dX6_in_17 (by decide) ?_
          refine mr_zret C4 hr4 hk4 dX6_in_18 rfl (qI_mk ?_)
          refine mr_if_ne C3 dX6_noParty_9 (tgt := 16) (by decide) (fun q => absurd q (by decide)) (fun _ => ?_)
          refine mr_iconst (v := 1) C3 dX6_noParty_12 (by decide) ?_
          refine mr_goto C3 dX6_noParty_13 (tgt := 17) (by decide) ?_
          refine mr_zret C3 hr3 hk3 dX6_noParty_17 rfl (qI_mk ?_)
          refine mr_if_eq C0 dX6_answer_11 (tgt := 16) (by decide) (fun q => absurd q (by decide)) (fun _ => ?_)
          refine mr_iconst (v := (-1)) C0 dX6_answer_14 (by decide) ?_
          refine mr_iret C0 hr0 hk0 dX6_answer_15 (qI_mk ?_)
          exact h
        · have h := h.2 c4
          refine mr_iconst (v := 1) C4 dX6_in_13 (by decide) ?_
          refine mr_goto C4 dX6_in_14 (tgt := 18) (by decide) ?_
          refine mr_zret C4 hr4 hk4 dX6_in_18 rfl (qI_mk ?_)
          refine mr_if_ne C3 dX6_noParty_9 (tgt := 16) (by decide) (fun _ => ?_) (fun q => absurd q (by decide))
          refine mr_iconst (v := 0) C3 dX6_noParty_16 (by decide) ?_
          refine mr_zret C3 hr3 hk3 dX6_noParty_17 rfl (qI_mk ?_)
          refine mr_if_eq C0 dX6_answer_11 (tgt := 16) (by decide) (fun _ => ?_) (fun q => absurd q (by decide))
          refine mr_iload_n C0 dX6_answer_16 rfl (i := 1) rfl ?_
          refine mr_iload_n C0 dX6_answer_17 rfl (i := 2) rfl ?_
          refine mr_icmp_ne C0 dX6_answer_18 (tgt := 24) (by decide) (fun c5 => ?_) (fun c5 => ?_)
          · have h := h.1 c5
            refine mr_aload_n C0 dX6_answer_24 rfl (i := 0) rfl ?_
            refine mr_getI C0 dX6_answer_25 fl_X6_69 (Nat.le_of_ble_eq_true rfl) rfl rfl ?_
            refine mr_if_ne C0 dX6_answer_28 (tgt := 34) (by decide) (fun c6 => ?_) (fun c6 => ?_)
            · have h := h.1 c6
              refine mr_aload_n C0 dX6_answer_34 rfl (i := 0) rfl ?_
              refine mr_iload_n C0 dX6_answer_35 rfl (i := 1) rfl ?_
              refine mr_callVI C0 mdX6_moveOf dX6_answer_36 clX6_moveOf ml_X6_203 (Nat.le_of_ble_eq_true rfl) rfl rfl arX6_moveOf (as := [.int x1]) rfl (Nat.le_of_ble_eq_true rfl) (Nat.le_of_ble_eq_true rfl) (Nat.le_of_ble_eq_true rfl) fit0 h (fun r8 S7 h => ?_)
              refine mr_istore_n (L1 := [some (.ref 34), some (.int x1), some (.int x2), some (.int r8), none, none]) C0 dX6_answer_39 rfl (Nat.le_of_ble_eq_true rfl) rfl ?_
              refine mr_iload_n C0 dX6_answer_40 rfl (i := 3) rfl ?_
              refine mr_if_ge C0 dX6_answer_41 (tgt := 50) (by decide) (fun c9 => ?_) (fun c9 => ?_)
              · have h := h.1 c9
                refine mr_aload_n C0 dX6_answer_50 rfl (i := 0) rfl ?_
                refine mr_getR C0 dX6_answer_51 fl_X6_13 (Nat.le_of_ble_eq_true rfl) rfl rfl ?_
                refine mr_iload_n C0 dX6_answer_54 rfl (i := 3) rfl ?_
                refine mr_bipush (v := 10) C0 dX6_answer_55 (by decide) ?_
                refine mr_idiv C0 dX6_answer_57 (by decide) ?_
                have g10 := h.1
                have h := h.2
                refine mr_iald C0 dX6_answer_58 (Nat.le_of_ble_eq_true rfl) rfl g10 ?_
                refine mr_istore (L1 := [some (.ref 34), some (.int x1), some (.int x2), some (.int r8), some (.int (S7.1 36 ((r8 / (10 : Int32)).toNatClampNeg))), none]) C0 dX6_answer_59 (Nat.le_of_ble_eq_true rfl) rfl ?_
                refine mr_aload_n C0 dX6_answer_61 rfl (i := 0) rfl ?_
                refine mr_getR C0 dX6_answer_62 fl_X6_13 (Nat.le_of_ble_eq_true rfl) rfl rfl ?_
                refine mr_iload_n C0 dX6_answer_65 rfl (i := 3) rfl ?_
                refine mr_bipush (v := 10) C0 dX6_answer_66 (by decide) ?_
                refine mr_idiv C0 dX6_answer_68 (by decide) ?_
                refine mr_iload_n C0 dX6_answer_69 rfl (i := 3) rfl ?_
                refine mr_bipush (v := 10) C0 dX6_answer_70 (by decide) ?_
                refine mr_irem C0 dX6_answer_72 (by decide) ?_
                have g11 := h.1
                have h := h.2
                refine mr_iast C0 dX6_answer_73 (Nat.le_of_ble_eq_true rfl) rfl g11 ?_
                refine mr_aload_n C0 dX6_answer_74 rfl (i := 0) rfl ?_
                refine mr_iload_n C0 dX6_answer_75 rfl (i := 2) rfl ?_
                refine mr_callVI C0 mdX6_moveOf dX6_answer_76 clX6_moveOf ml_X6_203 (Nat.le_of_ble_eq_true rfl) rfl rfl arX6_moveOf (as := [.int x2]) rfl (Nat.le_of_ble_eq_true rfl) (Nat.le_of_ble_eq_true rfl) (Nat.le_of_ble_eq_true rfl) fit0 h (fun r13 S12 h => ?_)
                refine mr_istore (L1 := [some (.ref 34), some (.int x1), some (.int x2), some (.int r8), some (.int (S7.1 36 ((r8 / (10 : Int32)).toNatClampNeg))), some (.int r13)]) C0 dX6_answer_79 (Nat.le_of_ble_eq_true rfl) rfl ?_
                refine mr_aload_n C0 dX6_answer_81 rfl (i := 0) rfl ?_
                refine mr_getR C0 dX6_answer_82 fl_X6_13 (Nat.le_of_ble_eq_true rfl) rfl rfl ?_
                refine mr_iload_n C0 dX6_answer_85 rfl (i := 3) rfl ?_
                refine mr_bipush (v := 10) C0 dX6_answer_86 (by decide) ?_
                refine mr_idiv C0 dX6_answer_88 (by decide) ?_
                refine mr_iload C0 dX6_answer_89 rfl ?_
                have g14 := h.1
                have h := h.2
                refine mr_iast C0 dX6_answer_91 (Nat.le_of_ble_eq_true rfl) rfl g14 ?_
                refine mr_iload C0 dX6_answer_92 rfl ?_
                refine mr_iret C0 hr0 hk0 dX6_answer_94 (qI_mk ?_)
                exact h
              · have h := h.2 c9
                refine mr_aload_n C0 dX6_answer_44 rfl (i := 0) rfl ?_
                refine mr_iload_n C0 dX6_answer_45 rfl (i := 2) rfl ?_
                refine mr_callVI C0 mdX6_moveOf dX6_answer_46 clX6_moveOf ml_X6_203 (Nat.le_of_ble_eq_true rfl) rfl rfl arX6_moveOf (as := [.int x2]) rfl (Nat.le_of_ble_eq_true rfl) (Nat.le_of_ble_eq_true rfl) (Nat.le_of_ble_eq_true rfl) fit0 h (fun r16 S15 h => ?_)
                refine mr_iret C0 hr0 hk0 dX6_answer_49 (qI_mk ?_)
                exact h
            · have h := h.2 c6
              refine mr_bipush (v := (-3)) C0 dX6_answer_31 (by decide) ?_
              refine mr_iret C0 hr0 hk0 dX6_answer_33 (qI_mk ?_)
              exact h
          · have h := h.2 c5
            refine mr_bipush (v := (-2)) C0 dX6_answer_21 (by decide) ?_
            refine mr_iret C0 hr0 hk0 dX6_answer_23 (qI_mk ?_)
            exact h
set_option maxRecDepth 100000 in
set_option maxHeartbeats 4000000 in
theorem eX6_likeliestOf (x1 : Int32) (S : St) (Q : Int32 → St → Prop) (h : (vp_in x1 8) ∧ (vp_in x1 8) ∧ CallV mdX6_layChances [.ref 34, .int (S.1 39 x1.toNatClampNeg), .int (S.1 40 x1.toNatClampNeg)] S (qV fun S3 => V mdX6_likeliestOf 9 [some (.ref 34), none, some (.int (0 : Int32)), some (.int (1 : Int32))] [] S3 (qI Q))) : CallV mdX6_likeliestOf [.ref 34, .int x1] S (qI Q) := by
  refine CallV_of mdX6_likeliestOf plX6_likeliestOf 2 (Nat.le_of_ble_eq_true rfl) rfl ?_
  intro zp0 zl0 ze0 zs0 zm0 zargs0 zbelow0 zmeth0 zc0 zD0 zad0 zac0 C0 hr0 hk0
  refine mr_aload_n C0 dX6_likeliestOf_0 rfl (i := 0) rfl ?_
  refine mr_iload_n C0 dX6_likeliestOf_1 rfl (i := 1) rfl ?_
  refine mr_callVV C0 mdX6_layVote dX6_likeliestOf_2 clX6_layVote ml_X6_183 (Nat.le_of_ble_eq_true rfl) rfl rfl arX6_layVote (as := [.int x1]) rfl (Nat.le_of_ble_eq_true rfl) (Nat.le_of_ble_eq_true rfl) (Nat.le_of_ble_eq_true rfl) fit0 (CallV_of mdX6_layVote plX6_layVote 0 (Nat.le_of_ble_eq_true rfl) rfl ?_) (fun _ h => h)
  intro zp1 zl1 ze1 zs1 zm1 zargs1 zbelow1 zmeth1 zc1 zD1 zad1 zac1 C1 hr1 hk1
  refine mr_aload_n C1 dX6_layVote_0 rfl (i := 0) rfl ?_
  refine mr_aload_n C1 dX6_layVote_1 rfl (i := 0) rfl ?_
  refine mr_getR C1 dX6_layVote_2 fl_X6_22 (Nat.le_of_ble_eq_true rfl) rfl rfl ?_
  refine mr_iload_n C1 dX6_layVote_5 rfl (i := 1) rfl ?_
  have g1 := h.1
  have h := h.2
  refine mr_iald C1 dX6_layVote_6 (Nat.le_of_ble_eq_true rfl) rfl g1 ?_
  refine mr_aload_n C1 dX6_layVote_7 rfl (i := 0) rfl ?_
  refine mr_getR C1 dX6_layVote_8 fl_X6_25 (Nat.le_of_ble_eq_true rfl) rfl rfl ?_
  refine mr_iload_n C1 dX6_layVote_11 rfl (i := 1) rfl ?_
  have g2 := h.1
  have h := h.2
  refine mr_iald C1 dX6_layVote_12 (Nat.le_of_ble_eq_true rfl) rfl g2 ?_
  refine mr_callVV C1 mdX6_layChances dX6_layVote_13 clX6_layChances ml_X6_179 (Nat.le_of_ble_eq_true rfl) rfl rfl arX6_layChances (as := [.int (S.1 39 x1.toNatClampNeg), .int (S.1 40 x1.toNatClampNeg)]) rfl (Nat.le_of_ble_eq_true rfl) (Nat.le_of_ble_eq_true rfl) (Nat.le_of_ble_eq_true rfl) fit0 h (fun S3 h => ?_)
  refine mr_vret C1 hr1 hk1 dX6_layVote_16 (qV_mk ?_)
  refine mr_iconst (v := 0) C0 dX6_likeliestOf_5 (by decide) ?_
  refine mr_istore_n (L1 := [some (.ref 34), some (.int x1), some (.int (0 : Int32)), none]) C0 dX6_likeliestOf_6 rfl (Nat.le_of_ble_eq_true rfl) rfl ?_
  refine mr_iconst (v := 1) C0 dX6_likeliestOf_7 (by decide) ?_
  refine mr_istore_n (L1 := [some (.ref 34), some (.int x1), some (.int (0 : Int32)), some (.int (1 : Int32))]) C0 dX6_likeliestOf_8 rfl (Nat.le_of_ble_eq_true rfl) rfl ?_
  refine mr_mask (L1 := [some (.ref 34), none, some (.int (0 : Int32)), some (.int (1 : Int32))]) C0 [true, false, true, true] rfl ?_
  exact h zp0 zl0 ze0 zs0 zm0 zargs0 zbelow0 zmeth0 zc0 zD0 zad0 zac0 C0 hr0 hk0
set_option maxRecDepth 100000 in
set_option maxHeartbeats 4000000 in
theorem eX6_likeliestOf_9 (x2 : Int32) (x3 : Int32) (S : St) (Q : Int32 → St → Prop) (h : (((S.1 34 2) ≤ x3 → (vp_in x2 7) ∧ (((S.2 43 6) ≤ (S.2 43 x2.toNatClampNeg) → Q x2 S) ∧ (¬ (S.2 43 6) ≤ (S.2 43 x2.toNatClampNeg) → Q (-9 : Int32) S))) ∧ (¬ (S.1 34 2) ≤ x3 → (vp_in x3 7) ∧ (vp_in x2 7) ∧ (((S.2 43 x3.toNatClampNeg) ≤ (S.2 43 x2.toNatClampNeg) → V mdX6_likeliestOf 9 [some (.ref 34), none, some (.int x2), some (.int (x3 + 1))] [] S (qI Q)) ∧ (¬ (S.2 43 x3.toNatClampNeg) ≤ (S.2 43 x2.toNatClampNeg) → V mdX6_likeliestOf 9 [some (.ref 34), none, some (.int x3), some (.int (x3 + 1))] [] S (qI Q)))))) : V mdX6_likeliestOf 9 [some (.ref 34), none, some (.int x2), some (.int x3)] [] S (qI Q) := by
  intro zp0 zl0 ze0 zs0 zm0 zargs0 zbelow0 zmeth0 zc0 zD0 zad0 zac0 C0 hr0 hk0
  refine mr_iload_n C0 dX6_likeliestOf_9 rfl (i := 3) rfl ?_
  refine mr_aload_n C0 dX6_likeliestOf_10 rfl (i := 0) rfl ?_
  refine mr_getI C0 dX6_likeliestOf_11 fl_X6_72 (Nat.le_of_ble_eq_true rfl) rfl rfl ?_
  refine mr_icmp_ge C0 dX6_likeliestOf_14 (tgt := 45) (by decide) (fun c1 => ?_) (fun c1 => ?_)
  · have h := h.1 c1
    refine mr_aload_n C0 dX6_likeliestOf_45 rfl (i := 0) rfl ?_
    refine mr_getR C0 dX6_likeliestOf_46 fl_X6_35 (Nat.le_of_ble_eq_true rfl) rfl rfl ?_
    refine mr_bipush (v := 6) C0 dX6_likeliestOf_49 (by decide) ?_
    refine mr_lald C0 dX6_likeliestOf_51 (Nat.le_of_ble_eq_true rfl) rfl (by unfold vp_in; decide) ?_
    refine mr_topJ (y := (S.2 43 6)) (by first | rfl | simp [sI, sJ, sF, upd, vp_updL]) ?_
    refine mr_aload_n C0 dX6_likeliestOf_52 rfl (i := 0) rfl ?_
    refine mr_getR C0 dX6_likeliestOf_53 fl_X6_35 (Nat.le_of_ble_eq_true rfl) rfl rfl ?_
    refine mr_iload_n C0 dX6_likeliestOf_56 rfl (i := 2) rfl ?_
    have g2 := h.1
    have h := h.2
    refine mr_lald C0 dX6_likeliestOf_57 (Nat.le_of_ble_eq_true rfl) rfl g2 ?_
    refine mr_lcmp_le C0 dX6_likeliestOf_58 dX6_likeliestOf_59 (tgt := 67) (by decide) (fun c3 => ?_) (fun c3 => ?_)
    · have h := h.1 c3
      refine mr_iload_n C0 dX6_likeliestOf_67 rfl (i := 2) rfl ?_
      refine mr_iret C0 hr0 hk0 dX6_likeliestOf_68 (qI_mk ?_)
      exact h
    · have h := h.2 c3
      refine mr_bipush (v := (-9)) C0 dX6_likeliestOf_62 (by decide) ?_
      refine mr_goto C0 dX6_likeliestOf_64 (tgt := 68) (by decide) ?_
      refine mr_iret C0 hr0 hk0 dX6_likeliestOf_68 (qI_mk ?_)
      exact h
  · have h := h.2 c1
    refine mr_aload_n C0 dX6_likeliestOf_17 rfl (i := 0) rfl ?_
    refine mr_getR C0 dX6_likeliestOf_18 fl_X6_35 (Nat.le_of_ble_eq_true rfl) rfl rfl ?_
    refine mr_iload_n C0 dX6_likeliestOf_21 rfl (i := 3) rfl ?_
    have g4 := h.1
    have h := h.2
    refine mr_lald C0 dX6_likeliestOf_22 (Nat.le_of_ble_eq_true rfl) rfl g4 ?_
    refine mr_aload_n C0 dX6_likeliestOf_23 rfl (i := 0) rfl ?_
    refine mr_getR C0 dX6_likeliestOf_24 fl_X6_35 (Nat.le_of_ble_eq_true rfl) rfl rfl ?_
    refine mr_iload_n C0 dX6_likeliestOf_27 rfl (i := 2) rfl ?_
    have g5 := h.1
    have h := h.2
    refine mr_lald C0 dX6_likeliestOf_28 (Nat.le_of_ble_eq_true rfl) rfl g5 ?_
    refine mr_lcmp_le C0 dX6_likeliestOf_29 dX6_likeliestOf_30 (tgt := 37) (by decide) (fun c6 => ?_) (fun c6 => ?_)
    · have h := h.1 c6
      refine mr_iload_n C0 dX6_likeliestOf_37 rfl (i := 2) rfl ?_
      refine mr_istore_n (L1 := [some (.ref 34), none, some (.int x2), some (.int x3)]) C0 dX6_likeliestOf_38 rfl (Nat.le_of_ble_eq_true rfl) rfl ?_
      refine mr_iinc (v := (x3 + 1)) (L1 := [some (.ref 34), none, some (.int x2), some (.int (x3 + 1))]) C0 dX6_likeliestOf_39 rfl rfl (Nat.le_of_ble_eq_true rfl) rfl ?_
      refine mr_goto C0 dX6_likeliestOf_42 (tgt := 9) (by decide) ?_
      exact h zp0 zl0 ze0 zs0 zm0 zargs0 zbelow0 zmeth0 zc0 zD0 zad0 zac0 C0 hr0 hk0
    · have h := h.2 c6
      refine mr_iload_n C0 dX6_likeliestOf_33 rfl (i := 3) rfl ?_
      refine mr_goto C0 dX6_likeliestOf_34 (tgt := 38) (by decide) ?_
      refine mr_istore_n (L1 := [some (.ref 34), none, some (.int x3), some (.int x3)]) C0 dX6_likeliestOf_38 rfl (Nat.le_of_ble_eq_true rfl) rfl ?_
      refine mr_iinc (v := (x3 + 1)) (L1 := [some (.ref 34), none, some (.int x3), some (.int (x3 + 1))]) C0 dX6_likeliestOf_39 rfl rfl (Nat.le_of_ble_eq_true rfl) rfl ?_
      refine mr_goto C0 dX6_likeliestOf_42 (tgt := 9) (by decide) ?_
      exact h zp0 zl0 ze0 zs0 zm0 zargs0 zbelow0 zmeth0 zc0 zD0 zad0 zac0 C0 hr0 hk0
set_option maxRecDepth 100000 in
set_option maxHeartbeats 4000000 in
theorem eX6_likeliest (x1 : Int32) (S : St) (Q : Int32 → St → Prop) (h : ((x1.toInt64 < (0 : Int64) → Q (-1 : Int32) S) ∧ (¬ x1.toInt64 < (0 : Int64) → ((((S.1 34 11).toInt64 - (1 : Int64)) < x1.toInt64 → Q (-1 : Int32) S) ∧ (¬ ((S.1 34 11).toInt64 - (1 : Int64)) < x1.toInt64 → CallV mdX6_likeliestOf [.ref 34, .int x1] S (qI fun r4 S3 => Q r4 S3)))))) : CallV mdX6_likeliest [.ref 34, .int x1] S (qI Q) := by
  refine CallV_of mdX6_likeliest plX6_likeliest 0 (Nat.le_of_ble_eq_true rfl) rfl ?_
  intro zp0 zl0 ze0 zs0 zm0 zargs0 zbelow0 zmeth0 zc0 zD0 zad0 zac0 C0 hr0 hk0
  refine mr_aload_n C0 dX6_likeliest_0 rfl (i := 0) rfl ?_
  refine mr_iload_n C0 dX6_likeliest_1 rfl (i := 1) rfl ?_
  refine mr_callVI C0 mdX6_noVote dX6_likeliest_2 clX6_noVote ml_X6_149 (Nat.le_of_ble_eq_true rfl) rfl rfl arX6_noVote (as := [.int x1]) rfl (Nat.le_of_ble_eq_true rfl) (Nat.le_of_ble_eq_true rfl) (Nat.le_of_ble_eq_true rfl) fit0 (CallV_of mdX6_noVote plX6_noVote 0 (Nat.le_of_ble_eq_true rfl) rfl ?_) (fun _ _ h => h)
  intro zp1 zl1 ze1 zs1 zm1 zargs1 zbelow1 zmeth1 zc1 zD1 zad1 zac1 C1 hr1 hk1
  refine mr_iload_n C1 dX6_noVote_0 rfl (i := 1) rfl ?_
  refine mr_i2l C1 dX6_noVote_1 ?_
  refine mr_lconst (v := 0) C1 dX6_noVote_2 (by decide) ?_
  refine mr_aload_n C1 dX6_noVote_3 rfl (i := 0) rfl ?_
  refine mr_getI C1 dX6_noVote_4 fl_X6_138 (Nat.le_of_ble_eq_true rfl) rfl rfl ?_
  refine mr_i2l C1 dX6_noVote_7 ?_
  refine mr_lconst (v := 1) C1 dX6_noVote_8 (by decide) ?_
  refine mr_lsub C1 dX6_noVote_9 ?_
  refine mr_callSI C1 mdX6_in dX6_noVote_10 clX6_in ml_X6_79 arX6_in (as := [.long x1.toInt64, .long (0 : Int64), .long ((S.1 34 11).toInt64 - (1 : Int64))]) rfl (Nat.le_of_ble_eq_true rfl) (Nat.le_of_ble_eq_true rfl) (Nat.le_of_ble_eq_true rfl) fit0 (CallV_of mdX6_in plX6_in 0 (Nat.le_of_ble_eq_true rfl) rfl ?_) (fun _ _ h => h)
  intro zp2 zl2 ze2 zs2 zm2 zargs2 zbelow2 zmeth2 zc2 zD2 zad2 zac2 C2 hr2 hk2
  refine mr_lload_n C2 dX6_in_0 rfl (i := 0) rfl ?_
  refine mr_lload_n C2 dX6_in_1 rfl (i := 2) rfl ?_
  refine mr_lcmp_lt C2 dX6_in_2 dX6_in_3 (tgt := 17) (by decide) (fun c1 => ?_) (fun c1 => ?_)
  · have h := h.1 c1
    refine mr_iconst (v := 0) C2 dX6_in_17 (by decide) ?_
    refine mr_zret C2 hr2 hk2 dX6_in_18 rfl (qI_mk ?_)
    refine mr_if_ne C1 dX6_noVote_13 (tgt := 20) (by decide) (fun q => absurd q (by decide)) (fun _ => ?_)
    refine mr_iconst (v := 1) C1 dX6_noVote_16 (by decide) ?_
    refine mr_goto C1 dX6_noVote_17 (tgt := 21) (by decide) ?_
    refine mr_zret C1 hr1 hk1 dX6_noVote_21 rfl (qI_mk ?_)
    refine mr_if_eq C0 dX6_likeliest_5 (tgt := 12) (by decide) (fun q => absurd q (by decide)) (fun _ => ?_)
    refine mr_iconst (v := (-1)) C0 dX6_likeliest_8 (by decide) ?_
    refine mr_goto C0 dX6_likeliest_9 (tgt := 17) (by decide) ?_
    refine mr_iret C0 hr0 hk0 dX6_likeliest_17 (qI_mk ?_)
    exact h
  · have h := h.2 c1
    refine mr_lload_n C2 dX6_in_6 rfl (i := 0) rfl ?_
    refine mr_lload C2 dX6_in_7 rfl ?_
    refine mr_lcmp_gt C2 dX6_in_9 dX6_in_10 (tgt := 17) (by decide) (fun c2 => ?_) (fun c2 => ?_)
    · have h := h.1 c2
      refine mr_iconst (v := 0) C2 dX6_in_17 (by decide) ?_
      refine mr_zret C2 hr2 hk2 dX6_in_18 rfl (qI_mk ?_)
      refine mr_if_ne C1 dX6_noVote_13 (tgt := 20) (by decide) (fun q => absurd q (by decide)) (fun _ => ?_)
      refine mr_iconst (v := 1) C1 dX6_noVote_16 (by decide) ?_
      refine mr_goto C1 dX6_noVote_17 (tgt := 21) (by decide) ?_
      refine mr_zret C1 hr1 hk1 dX6_noVote_21 rfl (qI_mk ?_)
      refine mr_if_eq C0 dX6_likeliest_5 (tgt := 12) (by decide) (fun q => absurd q (by decide)) (fun _ => ?_)
      refine mr_iconst (v := (-1)) C0 dX6_likeliest_8 (by decide) ?_
      refine mr_goto C0 dX6_likeliest_9 (tgt := 17) (by decide) ?_
      refine mr_iret C0 hr0 hk0 dX6_likeliest_17 (qI_mk ?_)
      exact h
    · have h := h.2 c2
      refine mr_iconst (v := 1) C2 dX6_in_13 (by decide) ?_
      refine mr_goto C2 dX6_in_14 (tgt := 18) (by decide) ?_
      refine mr_zret C2 hr2 hk2 dX6_in_18 rfl (qI_mk ?_)
      refine mr_if_ne C1 dX6_noVote_13 (tgt := 20) (by decide) (fun _ => ?_) (fun q => absurd q (by decide))
      refine mr_iconst (v := 0) C1 dX6_noVote_20 (by decide) ?_
      refine mr_zret C1 hr1 hk1 dX6_noVote_21 rfl (qI_mk ?_)
      refine mr_if_eq C0 dX6_likeliest_5 (tgt := 12) (by decide) (fun _ => ?_) (fun q => absurd q (by decide))
      refine mr_aload_n C0 dX6_likeliest_12 rfl (i := 0) rfl ?_
      refine mr_iload_n C0 dX6_likeliest_13 rfl (i := 1) rfl ?_
      refine mr_callVI C0 mdX6_likeliestOf dX6_likeliest_14 clX6_likeliestOf ml_X6_206 (Nat.le_of_ble_eq_true rfl) rfl rfl arX6_likeliestOf (as := [.int x1]) rfl (Nat.le_of_ble_eq_true rfl) (Nat.le_of_ble_eq_true rfl) (Nat.le_of_ble_eq_true rfl) fit0 h (fun r4 S3 h => ?_)
      refine mr_iret C0 hr0 hk0 dX6_likeliest_17 (qI_mk ?_)
      exact h
set_option maxRecDepth 100000 in
set_option maxHeartbeats 4000000 in
theorem eX6_tallyOf (x1 : Int32) (x2 : Int32) (S : St) (Q : Int32 → St → Prop) (h : V mdX6_tallyOf 5 [some (.ref 34), some (.int x1), some (.int x2), some (.int (0 : Int32)), some (.int (0 : Int32)), none] [] S (qI Q)) : CallV mdX6_tallyOf [.ref 34, .int x1, .int x2] S (qI Q) := by
  refine CallV_of mdX6_tallyOf plX6_tallyOf 3 (Nat.le_of_ble_eq_true rfl) rfl ?_
  intro zp0 zl0 ze0 zs0 zm0 zargs0 zbelow0 zmeth0 zc0 zD0 zad0 zac0 C0 hr0 hk0
  refine mr_iconst (v := 0) C0 dX6_tallyOf_0 (by decide) ?_
  refine mr_istore_n (L1 := [some (.ref 34), some (.int x1), some (.int x2), some (.int (0 : Int32)), none, none]) C0 dX6_tallyOf_1 rfl (Nat.le_of_ble_eq_true rfl) rfl ?_
  refine mr_iconst (v := 0) C0 dX6_tallyOf_2 (by decide) ?_
  refine mr_istore (L1 := [some (.ref 34), some (.int x1), some (.int x2), some (.int (0 : Int32)), some (.int (0 : Int32)), none]) C0 dX6_tallyOf_3 (Nat.le_of_ble_eq_true rfl) rfl ?_
  exact h zp0 zl0 ze0 zs0 zm0 zargs0 zbelow0 zmeth0 zc0 zD0 zad0 zac0 C0 hr0 hk0
set_option maxRecDepth 100000 in
set_option maxHeartbeats 4000000 in
theorem eX6_tallyOf_5 (x1 : Int32) (x2 : Int32) (x3 : Int32) (x4 : Int32) (S : St) (Q : Int32 → St → Prop) (h : (((S.1 34 11) ≤ x4 → Q x3 S) ∧ (¬ (S.1 34 11) ≤ x4 → ((¬ x4 = x2 → CallV mdX6_likeliestOf [.ref 34, .int x4] S (qI fun r4 S3 => ((r4 < 0 → V mdX6_tallyOf 5 [some (.ref 34), some (.int x1), some (.int x2), some (.int (x3 + (0 : Int32))), some (.int (x4 + 1)), none] [] S3 (qI Q)) ∧ (¬ r4 < 0 → (vp_in r4 6) ∧ ((¬ (S3.1 35 r4.toNatClampNeg) = x1 → V mdX6_tallyOf 5 [some (.ref 34), some (.int x1), some (.int x2), some (.int (x3 + (0 : Int32))), some (.int (x4 + 1)), none] [] S3 (qI Q)) ∧ ((S3.1 35 r4.toNatClampNeg) = x1 → V mdX6_tallyOf 5 [some (.ref 34), some (.int x1), some (.int x2), some (.int (x3 + (1 : Int32))), some (.int (x4 + 1)), none] [] S3 (qI Q))))))) ∧ (x4 = x2 → V mdX6_tallyOf 5 [some (.ref 34), some (.int x1), some (.int x2), some (.int (x3 + (0 : Int32))), some (.int (x4 + 1)), none] [] S (qI Q)))))) : V mdX6_tallyOf 5 [some (.ref 34), some (.int x1), some (.int x2), some (.int x3), some (.int x4), none] [] S (qI Q) := by
  intro zp0 zl0 ze0 zs0 zm0 zargs0 zbelow0 zmeth0 zc0 zD0 zad0 zac0 C0 hr0 hk0
  refine mr_iload C0 dX6_tallyOf_5 rfl ?_
  refine mr_aload_n C0 dX6_tallyOf_7 rfl (i := 0) rfl ?_
  refine mr_getI C0 dX6_tallyOf_8 fl_X6_138 (Nat.le_of_ble_eq_true rfl) rfl rfl ?_
  refine mr_icmp_ge C0 dX6_tallyOf_11 (tgt := 63) (by decide) (fun c1 => ?_) (fun c1 => ?_)
  · have h := h.1 c1
    refine mr_iload_n C0 dX6_tallyOf_63 rfl (i := 3) rfl ?_
    refine mr_iret C0 hr0 hk0 dX6_tallyOf_64 (qI_mk ?_)
    exact h
  · have h := h.2 c1
    refine mr_iload C0 dX6_tallyOf_14 rfl ?_
    refine mr_iload_n C0 dX6_tallyOf_16 rfl (i := 2) rfl ?_
    refine mr_icmp_ne C0 dX6_tallyOf_17 (tgt := 25) (by decide) (fun c2 => ?_) (fun c2 => ?_)
    · have h := h.1 c2
      refine mr_aload_n C0 dX6_tallyOf_25 rfl (i := 0) rfl ?_
      refine mr_iload C0 dX6_tallyOf_26 rfl ?_
      refine mr_callVI C0 mdX6_likeliestOf dX6_tallyOf_28 clX6_likeliestOf ml_X6_206 (Nat.le_of_ble_eq_true rfl) rfl rfl arX6_likeliestOf (as := [.int x4]) rfl (Nat.le_of_ble_eq_true rfl) (Nat.le_of_ble_eq_true rfl) (Nat.le_of_ble_eq_true rfl) fit0 h (fun r4 S3 h => ?_)
      refine mr_istore (L1 := [some (.ref 34), some (.int x1), some (.int x2), some (.int x3), some (.int x4), some (.int r4)]) C0 dX6_tallyOf_31 (Nat.le_of_ble_eq_true rfl) rfl ?_
      refine mr_iload_n C0 dX6_tallyOf_33 rfl (i := 3) rfl ?_
      refine mr_iload C0 dX6_tallyOf_34 rfl ?_
      refine mr_if_lt C0 dX6_tallyOf_36 (tgt := 54) (by decide) (fun c5 => ?_) (fun c5 => ?_)
      · have h := h.1 c5
        refine mr_iconst (v := 0) C0 dX6_tallyOf_54 (by decide) ?_
        refine mr_iadd C0 dX6_tallyOf_55 ?_
        refine mr_istore_n (L1 := [some (.ref 34), some (.int x1), some (.int x2), some (.int (x3 + (0 : Int32))), some (.int x4), some (.int r4)]) C0 dX6_tallyOf_56 rfl (Nat.le_of_ble_eq_true rfl) rfl ?_
        refine mr_iinc (v := (x4 + 1)) (L1 := [some (.ref 34), some (.int x1), some (.int x2), some (.int (x3 + (0 : Int32))), some (.int (x4 + 1)), some (.int r4)]) C0 dX6_tallyOf_57 rfl rfl (Nat.le_of_ble_eq_true rfl) rfl ?_
        refine mr_goto C0 dX6_tallyOf_60 (tgt := 5) (by decide) ?_
        refine mr_mask (L1 := [some (.ref 34), some (.int x1), some (.int x2), some (.int (x3 + (0 : Int32))), some (.int (x4 + 1)), none]) C0 [true, true, true, true, true, false] rfl ?_
        exact h zp0 zl0 ze0 zs0 zm0 zargs0 zbelow0 zmeth0 zc0 zD0 zad0 zac0 C0 hr0 hk0
      · have h := h.2 c5
        refine mr_aload_n C0 dX6_tallyOf_39 rfl (i := 0) rfl ?_
        refine mr_getR C0 dX6_tallyOf_40 fl_X6_7 (Nat.le_of_ble_eq_true rfl) rfl rfl ?_
        refine mr_iload C0 dX6_tallyOf_43 rfl ?_
        have g6 := h.1
        have h := h.2
        refine mr_iald C0 dX6_tallyOf_45 (Nat.le_of_ble_eq_true rfl) rfl g6 ?_
        refine mr_iload_n C0 dX6_tallyOf_46 rfl (i := 1) rfl ?_
        refine mr_icmp_ne C0 dX6_tallyOf_47 (tgt := 54) (by decide) (fun c7 => ?_) (fun c7 => ?_)
        · have h := h.1 c7
          refine mr_iconst (v := 0) C0 dX6_tallyOf_54 (by decide) ?_
          refine mr_iadd C0 dX6_tallyOf_55 ?_
          refine mr_istore_n (L1 := [some (.ref 34), some (.int x1), some (.int x2), some (.int (x3 + (0 : Int32))), some (.int x4), some (.int r4)]) C0 dX6_tallyOf_56 rfl (Nat.le_of_ble_eq_true rfl) rfl ?_
          refine mr_iinc (v := (x4 + 1)) (L1 := [some (.ref 34), some (.int x1), some (.int x2), some (.int (x3 + (0 : Int32))), some (.int (x4 + 1)), some (.int r4)]) C0 dX6_tallyOf_57 rfl rfl (Nat.le_of_ble_eq_true rfl) rfl ?_
          refine mr_goto C0 dX6_tallyOf_60 (tgt := 5) (by decide) ?_
          refine mr_mask (L1 := [some (.ref 34), some (.int x1), some (.int x2), some (.int (x3 + (0 : Int32))), some (.int (x4 + 1)), none]) C0 [true, true, true, true, true, false] rfl ?_
          exact h zp0 zl0 ze0 zs0 zm0 zargs0 zbelow0 zmeth0 zc0 zD0 zad0 zac0 C0 hr0 hk0
        · have h := h.2 c7
          refine mr_iconst (v := 1) C0 dX6_tallyOf_50 (by decide) ?_
          refine mr_goto C0 dX6_tallyOf_51 (tgt := 55) (by decide) ?_
          refine mr_iadd C0 dX6_tallyOf_55 ?_
          refine mr_istore_n (L1 := [some (.ref 34), some (.int x1), some (.int x2), some (.int (x3 + (1 : Int32))), some (.int x4), some (.int r4)]) C0 dX6_tallyOf_56 rfl (Nat.le_of_ble_eq_true rfl) rfl ?_
          refine mr_iinc (v := (x4 + 1)) (L1 := [some (.ref 34), some (.int x1), some (.int x2), some (.int (x3 + (1 : Int32))), some (.int (x4 + 1)), some (.int r4)]) C0 dX6_tallyOf_57 rfl rfl (Nat.le_of_ble_eq_true rfl) rfl ?_
          refine mr_goto C0 dX6_tallyOf_60 (tgt := 5) (by decide) ?_
          refine mr_mask (L1 := [some (.ref 34), some (.int x1), some (.int x2), some (.int (x3 + (1 : Int32))), some (.int (x4 + 1)), none]) C0 [true, true, true, true, true, false] rfl ?_
          exact h zp0 zl0 ze0 zs0 zm0 zargs0 zbelow0 zmeth0 zc0 zD0 zad0 zac0 C0 hr0 hk0
    · have h := h.2 c2
      refine mr_bipush (v := (-9)) C0 dX6_tallyOf_20 (by decide) ?_
      refine mr_goto C0 dX6_tallyOf_22 (tgt := 31) (by decide) ?_
      refine mr_istore (L1 := [some (.ref 34), some (.int x1), some (.int x2), some (.int x3), some (.int x4), some (.int (-9 : Int32))]) C0 dX6_tallyOf_31 (Nat.le_of_ble_eq_true rfl) rfl ?_
      refine mr_iload_n C0 dX6_tallyOf_33 rfl (i := 3) rfl ?_
      refine mr_iload C0 dX6_tallyOf_34 rfl ?_
      refine mr_if_lt C0 dX6_tallyOf_36 (tgt := 54) (by decide) (fun _ => ?_) (fun q => absurd q (by decide))
      refine mr_iconst (v := 0) C0 dX6_tallyOf_54 (by decide) ?_
      refine mr_iadd C0 dX6_tallyOf_55 ?_
      refine mr_istore_n (L1 := [some (.ref 34), some (.int x1), some (.int x2), some (.int (x3 + (0 : Int32))), some (.int x4), some (.int (-9 : Int32))]) C0 dX6_tallyOf_56 rfl (Nat.le_of_ble_eq_true rfl) rfl ?_
      refine mr_iinc (v := (x4 + 1)) (L1 := [some (.ref 34), some (.int x1), some (.int x2), some (.int (x3 + (0 : Int32))), some (.int (x4 + 1)), some (.int (-9 : Int32))]) C0 dX6_tallyOf_57 rfl rfl (Nat.le_of_ble_eq_true rfl) rfl ?_
      refine mr_goto C0 dX6_tallyOf_60 (tgt := 5) (by decide) ?_
      refine mr_mask (L1 := [some (.ref 34), some (.int x1), some (.int x2), some (.int (x3 + (0 : Int32))), some (.int (x4 + 1)), none]) C0 [true, true, true, true, true, false] rfl ?_
      exact h zp0 zl0 ze0 zs0 zm0 zargs0 zbelow0 zmeth0 zc0 zD0 zad0 zac0 C0 hr0 hk0
set_option maxRecDepth 100000 in
set_option maxHeartbeats 4000000 in
theorem eX6_tally (x1 : Int32) (S : St) (Q : Int32 → St → Prop) (h : ((x1.toInt64 < (0 : Int64) → Q (-1 : Int32) S) ∧ (¬ x1.toInt64 < (0 : Int64) → (((3 : Int64) < x1.toInt64 → Q (-1 : Int32) S) ∧ (¬ (3 : Int64) < x1.toInt64 → ((¬ (S.1 34 1) = 0 → CallV mdX6_tallyOf [.ref 34, .int x1, .int (-9 : Int32)] S (qI fun r5 S4 => Q r5 S4)) ∧ ((S.1 34 1) = 0 → Q (-3 : Int32) S))))))) : CallV mdX6_tally [.ref 34, .int x1] S (qI Q) := by
  refine CallV_of mdX6_tally plX6_tally 0 (Nat.le_of_ble_eq_true rfl) rfl ?_
  intro zp0 zl0 ze0 zs0 zm0 zargs0 zbelow0 zmeth0 zc0 zD0 zad0 zac0 C0 hr0 hk0
  refine mr_iload_n C0 dX6_tally_0 rfl (i := 1) rfl ?_
  refine mr_callSI C0 mdX6_noParty dX6_tally_1 clX6_noParty ml_X6_195 arX6_noParty (as := [.int x1]) rfl (Nat.le_of_ble_eq_true rfl) (Nat.le_of_ble_eq_true rfl) (Nat.le_of_ble_eq_true rfl) fit0 (CallV_of mdX6_noParty plX6_noParty 0 (Nat.le_of_ble_eq_true rfl) rfl ?_) (fun _ _ h => h)
  intro zp1 zl1 ze1 zs1 zm1 zargs1 zbelow1 zmeth1 zc1 zD1 zad1 zac1 C1 hr1 hk1
  refine mr_iload_n C1 dX6_noParty_0 rfl (i := 0) rfl ?_
  refine mr_i2l C1 dX6_noParty_1 ?_
  refine mr_lconst (v := 0) C1 dX6_noParty_2 (by decide) ?_
  refine mr_ldc2 C1 dX6_noParty_3 cn_X6_83 ?_
  refine mr_callSI C1 mdX6_in dX6_noParty_6 clX6_in ml_X6_79 arX6_in (as := [.long x1.toInt64, .long (0 : Int64), .long (3 : Int64)]) rfl (Nat.le_of_ble_eq_true rfl) (Nat.le_of_ble_eq_true rfl) (Nat.le_of_ble_eq_true rfl) fit0 (CallV_of mdX6_in plX6_in 0 (Nat.le_of_ble_eq_true rfl) rfl ?_) (fun _ _ h => h)
  intro zp2 zl2 ze2 zs2 zm2 zargs2 zbelow2 zmeth2 zc2 zD2 zad2 zac2 C2 hr2 hk2
  refine mr_lload_n C2 dX6_in_0 rfl (i := 0) rfl ?_
  refine mr_lload_n C2 dX6_in_1 rfl (i := 2) rfl ?_
  refine mr_lcmp_lt C2 dX6_in_2 dX6_in_3 (tgt := 17) (by decide) (fun c1 => ?_) (fun c1 => ?_)
  · have h := h.1 c1
    refine mr_iconst (v := 0) C2 dX6_in_17 (by decide) ?_
    refine mr_zret C2 hr2 hk2 dX6_in_18 rfl (qI_mk ?_)
    refine mr_if_ne C1 dX6_noParty_9 (tgt := 16) (by decide) (fun q => absurd q (by decide)) (fun _ => ?_)
    refine mr_iconst (v := 1) C1 dX6_noParty_12 (by decide) ?_
    refine mr_goto C1 dX6_noParty_13 (tgt := 17) (by decide) ?_
    refine mr_zret C1 hr1 hk1 dX6_noParty_17 rfl (qI_mk ?_)
    refine mr_if_eq C0 dX6_tally_4 (tgt := 9) (by decide) (fun q => absurd q (by decide)) (fun _ => ?_)
    refine mr_iconst (v := (-1)) C0 dX6_tally_7 (by decide) ?_
    refine mr_iret C0 hr0 hk0 dX6_tally_8 (qI_mk ?_)
    exact h
  · have h := h.2 c1
    refine mr_lload_n C2 dX6_in_6 rfl (i := 0) rfl ?_
    refine mr_lload C2 dX6_in_7 rfl ?_
    refine mr_lcmp_gt C2 dX6_in_9 dX6_in_10 (tgt := 17) (by decide) (fun c2 => ?_) (fun c2 => ?_)
    · have h := h.1 c2
      refine mr_iconst (v := 0) C2 dX6_in_17 (by decide) ?_
      refine mr_zret C2 hr2 hk2 dX6_in_18 rfl (qI_mk ?_)
      refine mr_if_ne C1 dX6_noParty_9 (tgt := 16) (by decide) (fun q => absurd q (by decide)) (fun _ => ?_)
      refine mr_iconst (v := 1) C1 dX6_noParty_12 (by decide) ?_
      refine mr_goto C1 dX6_noParty_13 (tgt := 17) (by decide) ?_
      refine mr_zret C1 hr1 hk1 dX6_noParty_17 rfl (qI_mk ?_)
      refine mr_if_eq C0 dX6_tally_4 (tgt := 9) (by decide) (fun q => absurd q (by decide)) (fun _ => ?_)
      refine mr_iconst (v := (-1)) C0 dX6_tally_7 (by decide) ?_
      refine mr_iret C0 hr0 hk0 dX6_tally_8 (qI_mk ?_)
      exact h
    · have h := h.2 c2
      refine mr_iconst (v := 1) C2 dX6_in_13 (by decide) ?_
      refine mr_goto C2 dX6_in_14 (tgt := 18) (by decide) ?_
      refine mr_zret C2 hr2 hk2 dX6_in_18 rfl (qI_mk ?_)
      refine mr_if_ne C1 dX6_noParty_9 (tgt := 16) (by decide) (fun _ => ?_) (fun q => absurd q (by decide))
      refine mr_iconst (v := 0) C1 dX6_noParty_16 (by decide) ?_
      refine mr_zret C1 hr1 hk1 dX6_noParty_17 rfl (qI_mk ?_)
      refine mr_if_eq C0 dX6_tally_4 (tgt := 9) (by decide) (fun _ => ?_) (fun q => absurd q (by decide))
      refine mr_aload_n C0 dX6_tally_9 rfl (i := 0) rfl ?_
      refine mr_getI C0 dX6_tally_10 fl_X6_69 (Nat.le_of_ble_eq_true rfl) rfl rfl ?_
      refine mr_if_ne C0 dX6_tally_13 (tgt := 21) (by decide) (fun c3 => ?_) (fun c3 => ?_)
      · have h := h.1 c3
        refine mr_aload_n C0 dX6_tally_21 rfl (i := 0) rfl ?_
        refine mr_iload_n C0 dX6_tally_22 rfl (i := 1) rfl ?_
        refine mr_bipush (v := (-9)) C0 dX6_tally_23 (by decide) ?_
        refine mr_callVI C0 mdX6_tallyOf dX6_tally_25 clX6_tallyOf ml_X6_209 (Nat.le_of_ble_eq_true rfl) rfl rfl arX6_tallyOf (as := [.int x1, .int (-9 : Int32)]) rfl (Nat.le_of_ble_eq_true rfl) (Nat.le_of_ble_eq_true rfl) (Nat.le_of_ble_eq_true rfl) fit0 h (fun r5 S4 h => ?_)
        refine mr_iret C0 hr0 hk0 dX6_tally_28 (qI_mk ?_)
        exact h
      · have h := h.2 c3
        refine mr_bipush (v := (-3)) C0 dX6_tally_16 (by decide) ?_
        refine mr_goto C0 dX6_tally_18 (tgt := 28) (by decide) ?_
        refine mr_iret C0 hr0 hk0 dX6_tally_28 (qI_mk ?_)
        exact h
set_option maxRecDepth 100000 in
set_option maxHeartbeats 4000000 in
theorem eX6_winnerBut (x1 : Int32) (S : St) (Q : Int32 → St → Prop) (h : V mdX6_winnerBut 7 [some (.ref 34), some (.int x1), some (.int (0 : Int32)), some (.int (-1 : Int32)), some (.int (0 : Int32)), none] [] S (qI Q)) : CallV mdX6_winnerBut [.ref 34, .int x1] S (qI Q) := by
  refine CallV_of mdX6_winnerBut plX6_winnerBut 4 (Nat.le_of_ble_eq_true rfl) rfl ?_
  intro zp0 zl0 ze0 zs0 zm0 zargs0 zbelow0 zmeth0 zc0 zD0 zad0 zac0 C0 hr0 hk0
  refine mr_iconst (v := 0) C0 dX6_winnerBut_0 (by decide) ?_
  refine mr_istore_n (L1 := [some (.ref 34), some (.int x1), some (.int (0 : Int32)), none, none, none]) C0 dX6_winnerBut_1 rfl (Nat.le_of_ble_eq_true rfl) rfl ?_
  refine mr_iconst (v := (-1)) C0 dX6_winnerBut_2 (by decide) ?_
  refine mr_istore_n (L1 := [some (.ref 34), some (.int x1), some (.int (0 : Int32)), some (.int (-1 : Int32)), none, none]) C0 dX6_winnerBut_3 rfl (Nat.le_of_ble_eq_true rfl) rfl ?_
  refine mr_iconst (v := 0) C0 dX6_winnerBut_4 (by decide) ?_
  refine mr_istore (L1 := [some (.ref 34), some (.int x1), some (.int (0 : Int32)), some (.int (-1 : Int32)), some (.int (0 : Int32)), none]) C0 dX6_winnerBut_5 (Nat.le_of_ble_eq_true rfl) rfl ?_
  exact h zp0 zl0 ze0 zs0 zm0 zargs0 zbelow0 zmeth0 zc0 zD0 zad0 zac0 C0 hr0 hk0
set_option maxRecDepth 100000 in
set_option maxHeartbeats 4000000 in
theorem eX6_winnerBut_7 (x1 : Int32) (x2 : Int32) (x3 : Int32) (x4 : Int32) (S : St) (Q : Int32 → St → Prop) (h : (((4 : Int32) ≤ x4 → Q x2 S) ∧ (¬ (4 : Int32) ≤ x4 → CallV mdX6_tallyOf [.ref 34, .int x4, .int x1] S (qI fun r3 S2 => ((r3 ≤ x3 → ((r3 ≤ x3 → V mdX6_winnerBut 7 [some (.ref 34), some (.int x1), some (.int x2), some (.int x3), some (.int (x4 + 1)), none] [] S2 (qI Q)) ∧ (¬ r3 ≤ x3 → V mdX6_winnerBut 7 [some (.ref 34), some (.int x1), some (.int x2), some (.int r3), some (.int (x4 + 1)), none] [] S2 (qI Q)))) ∧ (¬ r3 ≤ x3 → ((r3 ≤ x3 → V mdX6_winnerBut 7 [some (.ref 34), some (.int x1), some (.int x4), some (.int x3), some (.int (x4 + 1)), none] [] S2 (qI Q)) ∧ (¬ r3 ≤ x3 → V mdX6_winnerBut 7 [some (.ref 34), some (.int x1), some (.int x4), some (.int r3), some (.int (x4 + 1)), none] [] S2 (qI Q))))))))) : V mdX6_winnerBut 7 [some (.ref 34), some (.int x1), some (.int x2), some (.int x3), some (.int x4), none] [] S (qI Q) := by
  intro zp0 zl0 ze0 zs0 zm0 zargs0 zbelow0 zmeth0 zc0 zD0 zad0 zac0 C0 hr0 hk0
  refine mr_iload C0 dX6_winnerBut_7 rfl ?_
  refine mr_iconst (v := 4) C0 dX6_winnerBut_9 (by decide) ?_
  refine mr_icmp_ge C0 dX6_winnerBut_10 (tgt := 54) (by decide) (fun c1 => ?_) (fun c1 => ?_)
  · have h := h.1 c1
    refine mr_iload_n C0 dX6_winnerBut_54 rfl (i := 2) rfl ?_
    refine mr_iret C0 hr0 hk0 dX6_winnerBut_55 (qI_mk ?_)
    exact h
  · have h := h.2 c1
    refine mr_aload_n C0 dX6_winnerBut_13 rfl (i := 0) rfl ?_
    refine mr_iload C0 dX6_winnerBut_14 rfl ?_
    refine mr_iload_n C0 dX6_winnerBut_16 rfl (i := 1) rfl ?_
    refine mr_callVI C0 mdX6_tallyOf dX6_winnerBut_17 clX6_tallyOf ml_X6_209 (Nat.le_of_ble_eq_true rfl) rfl rfl arX6_tallyOf (as := [.int x4, .int x1]) rfl (Nat.le_of_ble_eq_true rfl) (Nat.le_of_ble_eq_true rfl) (Nat.le_of_ble_eq_true rfl) fit0 h (fun r3 S2 h => ?_)
    refine mr_istore (L1 := [some (.ref 34), some (.int x1), some (.int x2), some (.int x3), some (.int x4), some (.int r3)]) C0 dX6_winnerBut_20 (Nat.le_of_ble_eq_true rfl) rfl ?_
    refine mr_iload C0 dX6_winnerBut_22 rfl ?_
    refine mr_iload_n C0 dX6_winnerBut_24 rfl (i := 3) rfl ?_
    refine mr_icmp_le C0 dX6_winnerBut_25 (tgt := 33) (by decide) (fun c4 => ?_) (fun c4 => ?_)
    · have h := h.1 c4
      refine mr_iload_n C0 dX6_winnerBut_33 rfl (i := 2) rfl ?_
      refine mr_istore_n (L1 := [some (.ref 34), some (.int x1), some (.int x2), some (.int x3), some (.int x4), some (.int r3)]) C0 dX6_winnerBut_34 rfl (Nat.le_of_ble_eq_true rfl) rfl ?_
      refine mr_iload C0 dX6_winnerBut_35 rfl ?_
      refine mr_iload_n C0 dX6_winnerBut_37 rfl (i := 3) rfl ?_
      refine mr_icmp_le C0 dX6_winnerBut_38 (tgt := 46) (by decide) (fun c5 => ?_) (fun c5 => ?_)
      · have h := h.1 c5
        refine mr_iload_n C0 dX6_winnerBut_46 rfl (i := 3) rfl ?_
        refine mr_istore_n (L1 := [some (.ref 34), some (.int x1), some (.int x2), some (.int x3), some (.int x4), some (.int r3)]) C0 dX6_winnerBut_47 rfl (Nat.le_of_ble_eq_true rfl) rfl ?_
        refine mr_iinc (v := (x4 + 1)) (L1 := [some (.ref 34), some (.int x1), some (.int x2), some (.int x3), some (.int (x4 + 1)), some (.int r3)]) C0 dX6_winnerBut_48 rfl rfl (Nat.le_of_ble_eq_true rfl) rfl ?_
        refine mr_goto C0 dX6_winnerBut_51 (tgt := 7) (by decide) ?_
        refine mr_mask (L1 := [some (.ref 34), some (.int x1), some (.int x2), some (.int x3), some (.int (x4 + 1)), none]) C0 [true, true, true, true, true, false] rfl ?_
        exact h zp0 zl0 ze0 zs0 zm0 zargs0 zbelow0 zmeth0 zc0 zD0 zad0 zac0 C0 hr0 hk0
      · have h := h.2 c5
        refine mr_iload C0 dX6_winnerBut_41 rfl ?_
        refine mr_goto C0 dX6_winnerBut_43 (tgt := 47) (by decide) ?_
        refine mr_istore_n (L1 := [some (.ref 34), some (.int x1), some (.int x2), some (.int r3), some (.int x4), some (.int r3)]) C0 dX6_winnerBut_47 rfl (Nat.le_of_ble_eq_true rfl) rfl ?_
        refine mr_iinc (v := (x4 + 1)) (L1 := [some (.ref 34), some (.int x1), some (.int x2), some (.int r3), some (.int (x4 + 1)), some (.int r3)]) C0 dX6_winnerBut_48 rfl rfl (Nat.le_of_ble_eq_true rfl) rfl ?_
        refine mr_goto C0 dX6_winnerBut_51 (tgt := 7) (by decide) ?_
        refine mr_mask (L1 := [some (.ref 34), some (.int x1), some (.int x2), some (.int r3), some (.int (x4 + 1)), none]) C0 [true, true, true, true, true, false] rfl ?_
        exact h zp0 zl0 ze0 zs0 zm0 zargs0 zbelow0 zmeth0 zc0 zD0 zad0 zac0 C0 hr0 hk0
    · have h := h.2 c4
      refine mr_iload C0 dX6_winnerBut_28 rfl ?_
      refine mr_goto C0 dX6_winnerBut_30 (tgt := 34) (by decide) ?_
      refine mr_istore_n (L1 := [some (.ref 34), some (.int x1), some (.int x4), some (.int x3), some (.int x4), some (.int r3)]) C0 dX6_winnerBut_34 rfl (Nat.le_of_ble_eq_true rfl) rfl ?_
      refine mr_iload C0 dX6_winnerBut_35 rfl ?_
      refine mr_iload_n C0 dX6_winnerBut_37 rfl (i := 3) rfl ?_
      refine mr_icmp_le C0 dX6_winnerBut_38 (tgt := 46) (by decide) (fun c6 => ?_) (fun c6 => ?_)
      · have h := h.1 c6
        refine mr_iload_n C0 dX6_winnerBut_46 rfl (i := 3) rfl ?_
        refine mr_istore_n (L1 := [some (.ref 34), some (.int x1), some (.int x4), some (.int x3), some (.int x4), some (.int r3)]) C0 dX6_winnerBut_47 rfl (Nat.le_of_ble_eq_true rfl) rfl ?_
        refine mr_iinc (v := (x4 + 1)) (L1 := [some (.ref 34), some (.int x1), some (.int x4), some (.int x3), some (.int (x4 + 1)), some (.int r3)]) C0 dX6_winnerBut_48 rfl rfl (Nat.le_of_ble_eq_true rfl) rfl ?_
        refine mr_goto C0 dX6_winnerBut_51 (tgt := 7) (by decide) ?_
        refine mr_mask (L1 := [some (.ref 34), some (.int x1), some (.int x4), some (.int x3), some (.int (x4 + 1)), none]) C0 [true, true, true, true, true, false] rfl ?_
        exact h zp0 zl0 ze0 zs0 zm0 zargs0 zbelow0 zmeth0 zc0 zD0 zad0 zac0 C0 hr0 hk0
      · have h := h.2 c6
        refine mr_iload C0 dX6_winnerBut_41 rfl ?_
        refine mr_goto C0 dX6_winnerBut_43 (tgt := 47) (by decide) ?_
        refine mr_istore_n (L1 := [some (.ref 34), some (.int x1), some (.int x4), some (.int r3), some (.int x4), some (.int r3)]) C0 dX6_winnerBut_47 rfl (Nat.le_of_ble_eq_true rfl) rfl ?_
        refine mr_iinc (v := (x4 + 1)) (L1 := [some (.ref 34), some (.int x1), some (.int x4), some (.int r3), some (.int (x4 + 1)), some (.int r3)]) C0 dX6_winnerBut_48 rfl rfl (Nat.le_of_ble_eq_true rfl) rfl ?_
        refine mr_goto C0 dX6_winnerBut_51 (tgt := 7) (by decide) ?_
        refine mr_mask (L1 := [some (.ref 34), some (.int x1), some (.int x4), some (.int r3), some (.int (x4 + 1)), none]) C0 [true, true, true, true, true, false] rfl ?_
        exact h zp0 zl0 ze0 zs0 zm0 zargs0 zbelow0 zmeth0 zc0 zD0 zad0 zac0 C0 hr0 hk0
set_option maxRecDepth 100000 in
set_option maxHeartbeats 4000000 in
theorem eX6_winner (x1 : Int32) (S : St) (Q : Int32 → St → Prop) (h : ((x1.toInt64 < (0 : Int64) → Q (-2 : Int32) S) ∧ (¬ x1.toInt64 < (0 : Int64) → (((1 : Int64) < x1.toInt64 → Q (-2 : Int32) S) ∧ (¬ (1 : Int64) < x1.toInt64 → ((¬ (S.1 34 1) = 0 → CallV mdX6_winnerBut [.ref 34, .int (-9 : Int32)] S (qI fun r5 S4 => ((¬ x1 = 0 → V mdX6_winner 41 [some (.ref 34), none, some (.int r5), some (.int (0 : Int32)), some (.int (0 : Int32))] [] S4 (qI Q)) ∧ (x1 = 0 → Q r5 S4)))) ∧ ((S.1 34 1) = 0 → Q (-3 : Int32) S))))))) : CallV mdX6_winner [.ref 34, .int x1] S (qI Q) := by
  refine CallV_of mdX6_winner plX6_winner 3 (Nat.le_of_ble_eq_true rfl) rfl ?_
  intro zp0 zl0 ze0 zs0 zm0 zargs0 zbelow0 zmeth0 zc0 zD0 zad0 zac0 C0 hr0 hk0
  refine mr_iload_n C0 dX6_winner_0 rfl (i := 1) rfl ?_
  refine mr_i2l C0 dX6_winner_1 ?_
  refine mr_lconst (v := 0) C0 dX6_winner_2 (by decide) ?_
  refine mr_lconst (v := 1) C0 dX6_winner_3 (by decide) ?_
  refine mr_callSI C0 mdX6_in dX6_winner_4 clX6_in ml_X6_79 arX6_in (as := [.long x1.toInt64, .long (0 : Int64), .long (1 : Int64)]) rfl (Nat.le_of_ble_eq_true rfl) (Nat.le_of_ble_eq_true rfl) (Nat.le_of_ble_eq_true rfl) fit0 (CallV_of mdX6_in plX6_in 0 (Nat.le_of_ble_eq_true rfl) rfl ?_) (fun _ _ h => h)
  intro zp1 zl1 ze1 zs1 zm1 zargs1 zbelow1 zmeth1 zc1 zD1 zad1 zac1 C1 hr1 hk1
  refine mr_lload_n C1 dX6_in_0 rfl (i := 0) rfl ?_
  refine mr_lload_n C1 dX6_in_1 rfl (i := 2) rfl ?_
  refine mr_lcmp_lt C1 dX6_in_2 dX6_in_3 (tgt := 17) (by decide) (fun c1 => ?_) (fun c1 => ?_)
  · have h := h.1 c1
    refine mr_iconst (v := 0) C1 dX6_in_17 (by decide) ?_
    refine mr_zret C1 hr1 hk1 dX6_in_18 rfl (qI_mk ?_)
    refine mr_if_ne C0 dX6_winner_7 (tgt := 13) (by decide) (fun q => absurd q (by decide)) (fun _ => ?_)
    refine mr_bipush (v := (-2)) C0 dX6_winner_10 (by decide) ?_
    refine mr_iret C0 hr0 hk0 dX6_winner_12 (qI_mk ?_)
    exact h
  · have h := h.2 c1
    refine mr_lload_n C1 dX6_in_6 rfl (i := 0) rfl ?_
    refine mr_lload C1 dX6_in_7 rfl ?_
    refine mr_lcmp_gt C1 dX6_in_9 dX6_in_10 (tgt := 17) (by decide) (fun c2 => ?_) (fun c2 => ?_)
    · have h := h.1 c2
      refine mr_iconst (v := 0) C1 dX6_in_17 (by decide) ?_
      refine mr_zret C1 hr1 hk1 dX6_in_18 rfl (qI_mk ?_)
      refine mr_if_ne C0 dX6_winner_7 (tgt := 13) (by decide) (fun q => absurd q (by decide)) (fun _ => ?_)
      refine mr_bipush (v := (-2)) C0 dX6_winner_10 (by decide) ?_
      refine mr_iret C0 hr0 hk0 dX6_winner_12 (qI_mk ?_)
      exact h
    · have h := h.2 c2
      refine mr_iconst (v := 1) C1 dX6_in_13 (by decide) ?_
      refine mr_goto C1 dX6_in_14 (tgt := 18) (by decide) ?_
      refine mr_zret C1 hr1 hk1 dX6_in_18 rfl (qI_mk ?_)
      refine mr_if_ne C0 dX6_winner_7 (tgt := 13) (by decide) (fun _ => ?_) (fun q => absurd q (by decide))
      refine mr_aload_n C0 dX6_winner_13 rfl (i := 0) rfl ?_
      refine mr_getI C0 dX6_winner_14 fl_X6_69 (Nat.le_of_ble_eq_true rfl) rfl rfl ?_
      refine mr_if_ne C0 dX6_winner_17 (tgt := 23) (by decide) (fun c3 => ?_) (fun c3 => ?_)
      · have h := h.1 c3
        refine mr_aload_n C0 dX6_winner_23 rfl (i := 0) rfl ?_
        refine mr_bipush (v := (-9)) C0 dX6_winner_24 (by decide) ?_
        refine mr_callVI C0 mdX6_winnerBut dX6_winner_26 clX6_winnerBut ml_X6_212 (Nat.le_of_ble_eq_true rfl) rfl rfl arX6_winnerBut (as := [.int (-9 : Int32)]) rfl (Nat.le_of_ble_eq_true rfl) (Nat.le_of_ble_eq_true rfl) (Nat.le_of_ble_eq_true rfl) fit0 h (fun r5 S4 h => ?_)
        refine mr_istore_n (L1 := [some (.ref 34), some (.int x1), some (.int r5), none, none]) C0 dX6_winner_29 rfl (Nat.le_of_ble_eq_true rfl) rfl ?_
        refine mr_iload_n C0 dX6_winner_30 rfl (i := 1) rfl ?_
        refine mr_if_ne C0 dX6_winner_31 (tgt := 36) (by decide) (fun c6 => ?_) (fun c6 => ?_)
        · have h := h.1 c6
          refine mr_iconst (v := 0) C0 dX6_winner_36 (by decide) ?_
          refine mr_istore_n (L1 := [some (.ref 34), some (.int x1), some (.int r5), some (.int (0 : Int32)), none]) C0 dX6_winner_37 rfl (Nat.le_of_ble_eq_true rfl) rfl ?_
          refine mr_iconst (v := 0) C0 dX6_winner_38 (by decide) ?_
          refine mr_istore (L1 := [some (.ref 34), some (.int x1), some (.int r5), some (.int (0 : Int32)), some (.int (0 : Int32))]) C0 dX6_winner_39 (Nat.le_of_ble_eq_true rfl) rfl ?_
          refine mr_mask (L1 := [some (.ref 34), none, some (.int r5), some (.int (0 : Int32)), some (.int (0 : Int32))]) C0 [true, false, true, true, true] rfl ?_
          exact h zp0 zl0 ze0 zs0 zm0 zargs0 zbelow0 zmeth0 zc0 zD0 zad0 zac0 C0 hr0 hk0
        · have h := h.2 c6
          refine mr_iload_n C0 dX6_winner_34 rfl (i := 2) rfl ?_
          refine mr_iret C0 hr0 hk0 dX6_winner_35 (qI_mk ?_)
          exact h
      · have h := h.2 c3
        refine mr_bipush (v := (-3)) C0 dX6_winner_20 (by decide) ?_
        refine mr_iret C0 hr0 hk0 dX6_winner_22 (qI_mk ?_)
        exact h
set_option maxRecDepth 100000 in
set_option maxHeartbeats 4000000 in
theorem eX6_winner_41 (x2 : Int32) (x3 : Int32) (x4 : Int32) (S : St) (Q : Int32 → St → Prop) (h : (((S.1 34 11) ≤ x4 → Q x3 S) ∧ (¬ (S.1 34 11) ≤ x4 → CallV mdX6_winnerBut [.ref 34, .int x4] S (qI fun r3 S2 => ((¬ r3 = x2 → V mdX6_winner 41 [some (.ref 34), none, some (.int x2), some (.int (x3 ||| ((1 : Int32) <<< (x4 &&& 31)))), some (.int (x4 + 1))] [] S2 (qI Q)) ∧ (r3 = x2 → V mdX6_winner 41 [some (.ref 34), none, some (.int x2), some (.int (x3 ||| (0 : Int32))), some (.int (x4 + 1))] [] S2 (qI Q))))))) : V mdX6_winner 41 [some (.ref 34), none, some (.int x2), some (.int x3), some (.int x4)] [] S (qI Q) := by
  intro zp0 zl0 ze0 zs0 zm0 zargs0 zbelow0 zmeth0 zc0 zD0 zad0 zac0 C0 hr0 hk0
  refine mr_iload C0 dX6_winner_41 rfl ?_
  refine mr_aload_n C0 dX6_winner_43 rfl (i := 0) rfl ?_
  refine mr_getI C0 dX6_winner_44 fl_X6_138 (Nat.le_of_ble_eq_true rfl) rfl rfl ?_
  refine mr_icmp_ge C0 dX6_winner_47 (tgt := 77) (by decide) (fun c1 => ?_) (fun c1 => ?_)
  · have h := h.1 c1
    refine mr_iload_n C0 dX6_winner_77 rfl (i := 3) rfl ?_
    refine mr_iret C0 hr0 hk0 dX6_winner_78 (qI_mk ?_)
    exact h
  · have h := h.2 c1
    refine mr_iload_n C0 dX6_winner_50 rfl (i := 3) rfl ?_
    refine mr_aload_n C0 dX6_winner_51 rfl (i := 0) rfl ?_
    refine mr_iload C0 dX6_winner_52 rfl ?_
    refine mr_callVI C0 mdX6_winnerBut dX6_winner_54 clX6_winnerBut ml_X6_212 (Nat.le_of_ble_eq_true rfl) rfl rfl arX6_winnerBut (as := [.int x4]) rfl (Nat.le_of_ble_eq_true rfl) (Nat.le_of_ble_eq_true rfl) (Nat.le_of_ble_eq_true rfl) fit0 h (fun r3 S2 h => ?_)
    refine mr_iload_n C0 dX6_winner_57 rfl (i := 2) rfl ?_
    refine mr_icmp_ne C0 dX6_winner_58 (tgt := 65) (by decide) (fun c4 => ?_) (fun c4 => ?_)
    · have h := h.1 c4
      refine mr_iconst (v := 1) C0 dX6_winner_65 (by decide) ?_
      refine mr_iload C0 dX6_winner_66 rfl ?_
      refine mr_ishl C0 dX6_winner_68 ?_
      refine mr_ior C0 dX6_winner_69 ?_
      refine mr_istore_n (L1 := [some (.ref 34), none, some (.int x2), some (.int (x3 ||| ((1 : Int32) <<< (x4 &&& 31)))), some (.int x4)]) C0 dX6_winner_70 rfl (Nat.le_of_ble_eq_true rfl) rfl ?_
      refine mr_iinc (v := (x4 + 1)) (L1 := [some (.ref 34), none, some (.int x2), some (.int (x3 ||| ((1 : Int32) <<< (x4 &&& 31)))), some (.int (x4 + 1))]) C0 dX6_winner_71 rfl rfl (Nat.le_of_ble_eq_true rfl) rfl ?_
      refine mr_goto C0 dX6_winner_74 (tgt := 41) (by decide) ?_
      exact h zp0 zl0 ze0 zs0 zm0 zargs0 zbelow0 zmeth0 zc0 zD0 zad0 zac0 C0 hr0 hk0
    · have h := h.2 c4
      refine mr_iconst (v := 0) C0 dX6_winner_61 (by decide) ?_
      refine mr_goto C0 dX6_winner_62 (tgt := 69) (by decide) ?_
      refine mr_ior C0 dX6_winner_69 ?_
      refine mr_istore_n (L1 := [some (.ref 34), none, some (.int x2), some (.int (x3 ||| (0 : Int32))), some (.int x4)]) C0 dX6_winner_70 rfl (Nat.le_of_ble_eq_true rfl) rfl ?_
      refine mr_iinc (v := (x4 + 1)) (L1 := [some (.ref 34), none, some (.int x2), some (.int (x3 ||| (0 : Int32))), some (.int (x4 + 1))]) C0 dX6_winner_71 rfl rfl (Nat.le_of_ble_eq_true rfl) rfl ?_
      refine mr_goto C0 dX6_winner_74 (tgt := 41) (by decide) ?_
      exact h zp0 zl0 ze0 zs0 zm0 zargs0 zbelow0 zmeth0 zc0 zD0 zad0 zac0 C0 hr0 hk0
set_option maxRecDepth 100000 in
set_option maxHeartbeats 4000000 in
theorem eX6_holdsNow (S : St) (Q : Int64 → St → Prop) (h : V mdX6_holdsNow 7 [some (.ref 34), some (.long (0 : Int64)), none, some (.long (0 : Int64)), none, some (.int (0 : Int32))] [] S (qJ Q)) : CallV mdX6_holdsNow [.ref 34] S (qJ Q) := by
  refine CallV_of mdX6_holdsNow plX6_holdsNow 5 (Nat.le_of_ble_eq_true rfl) rfl ?_
  intro zp0 zl0 ze0 zs0 zm0 zargs0 zbelow0 zmeth0 zc0 zD0 zad0 zac0 C0 hr0 hk0
  refine mr_lconst (v := 0) C0 dX6_holdsNow_0 (by decide) ?_
  refine mr_lstore_n (L1 := [some (.ref 34), some (.long (0 : Int64)), none, none, none, none]) C0 dX6_holdsNow_1 rfl (Nat.le_of_ble_eq_true rfl) rfl ?_
  refine mr_lconst (v := 0) C0 dX6_holdsNow_2 (by decide) ?_
  refine mr_lstore_n (L1 := [some (.ref 34), some (.long (0 : Int64)), none, some (.long (0 : Int64)), none, none]) C0 dX6_holdsNow_3 rfl (Nat.le_of_ble_eq_true rfl) rfl ?_
  refine mr_iconst (v := 0) C0 dX6_holdsNow_4 (by decide) ?_
  refine mr_istore (L1 := [some (.ref 34), some (.long (0 : Int64)), none, some (.long (0 : Int64)), none, some (.int (0 : Int32))]) C0 dX6_holdsNow_5 (Nat.le_of_ble_eq_true rfl) rfl ?_
  exact h zp0 zl0 ze0 zs0 zm0 zargs0 zbelow0 zmeth0 zc0 zD0 zad0 zac0 C0 hr0 hk0
set_option maxRecDepth 100000 in
set_option maxHeartbeats 4000000 in
theorem eX6_holdsNow_7 (y1 : Int64) (y3 : Int64) (x5 : Int32) (S : St) (Q : Int64 → St → Prop) (h : ((((S.1 34 1) * (S.1 34 2)) ≤ x5 → V mdX6_holdsNow 47 [some (.ref 34), some (.long y1), none, some (.long y3), none, some (.int (0 : Int32))] [] S (qJ Q)) ∧ (¬ ((S.1 34 1) * (S.1 34 2)) ≤ x5 → (vp_in x5 30) ∧ ((¬ (S.1 36 x5.toNatClampNeg) = (4 : Int32) → V mdX6_holdsNow 7 [some (.ref 34), some (.long (y1 ||| (0 : Int64))), none, some (.long y3), none, some (.int (x5 + 1))] [] S (qJ Q)) ∧ ((S.1 36 x5.toNatClampNeg) = (4 : Int32) → V mdX6_holdsNow 7 [some (.ref 34), some (.long (y1 ||| ((1 : Int64) <<< (x5.toInt64 &&& 63)))), none, some (.long y3), none, some (.int (x5 + 1))] [] S (qJ Q)))))) : V mdX6_holdsNow 7 [some (.ref 34), some (.long y1), none, some (.long y3), none, some (.int x5)] [] S (qJ Q) := by
  intro zp0 zl0 ze0 zs0 zm0 zargs0 zbelow0 zmeth0 zc0 zD0 zad0 zac0 C0 hr0 hk0
  refine mr_iload C0 dX6_holdsNow_7 rfl ?_
  refine mr_aload_n C0 dX6_holdsNow_9 rfl (i := 0) rfl ?_
  refine mr_callVI C0 mdX6_cells dX6_holdsNow_10 clX6_cells ml_X6_75 (Nat.le_of_ble_eq_true rfl) rfl rfl arX6_cells (as := []) rfl (Nat.le_of_ble_eq_true rfl) (Nat.le_of_ble_eq_true rfl) (Nat.le_of_ble_eq_true rfl) fit0 (CallV_of mdX6_cells plX6_cells 0 (Nat.le_of_ble_eq_true rfl) rfl ?_) (fun _ _ h => h)
  intro zp1 zl1 ze1 zs1 zm1 zargs1 zbelow1 zmeth1 zc1 zD1 zad1 zac1 C1 hr1 hk1
  refine mr_aload_n C1 dX6_cells_0 rfl (i := 0) rfl ?_
  refine mr_getI C1 dX6_cells_1 fl_X6_69 (Nat.le_of_ble_eq_true rfl) rfl rfl ?_
  refine mr_aload_n C1 dX6_cells_4 rfl (i := 0) rfl ?_
  refine mr_getI C1 dX6_cells_5 fl_X6_72 (Nat.le_of_ble_eq_true rfl) rfl rfl ?_
  refine mr_imul C1 dX6_cells_8 ?_
  refine mr_iret C1 hr1 hk1 dX6_cells_9 (qI_mk ?_)
  refine mr_icmp_ge C0 dX6_holdsNow_13 (tgt := 44) (by decide) (fun c1 => ?_) (fun c1 => ?_)
  · have h := h.1 c1
    refine mr_iconst (v := 0) C0 dX6_holdsNow_44 (by decide) ?_
    refine mr_istore (L1 := [some (.ref 34), some (.long y1), none, some (.long y3), none, some (.int (0 : Int32))]) C0 dX6_holdsNow_45 (Nat.le_of_ble_eq_true rfl) rfl ?_
    exact h zp0 zl0 ze0 zs0 zm0 zargs0 zbelow0 zmeth0 zc0 zD0 zad0 zac0 C0 hr0 hk0
  · have h := h.2 c1
    refine mr_lload_n C0 dX6_holdsNow_16 rfl (i := 1) rfl ?_
    refine mr_aload_n C0 dX6_holdsNow_17 rfl (i := 0) rfl ?_
    refine mr_getR C0 dX6_holdsNow_18 fl_X6_13 (Nat.le_of_ble_eq_true rfl) rfl rfl ?_
    refine mr_iload C0 dX6_holdsNow_21 rfl ?_
    have g2 := h.1
    have h := h.2
    refine mr_iald C0 dX6_holdsNow_23 (Nat.le_of_ble_eq_true rfl) rfl g2 ?_
    refine mr_iconst (v := 4) C0 dX6_holdsNow_24 (by decide) ?_
    refine mr_icmp_ne C0 dX6_holdsNow_25 (tgt := 35) (by decide) (fun c3 => ?_) (fun c3 => ?_)
    · have h := h.1 c3
      refine mr_lconst (v := 0) C0 dX6_holdsNow_35 (by decide) ?_
      refine mr_lor C0 dX6_holdsNow_36 ?_
      refine mr_lstore_n (L1 := [some (.ref 34), some (.long (y1 ||| (0 : Int64))), none, some (.long y3), none, some (.int x5)]) C0 dX6_holdsNow_37 rfl (Nat.le_of_ble_eq_true rfl) rfl ?_
      refine mr_iinc (v := (x5 + 1)) (L1 := [some (.ref 34), some (.long (y1 ||| (0 : Int64))), none, some (.long y3), none, some (.int (x5 + 1))]) C0 dX6_holdsNow_38 rfl rfl (Nat.le_of_ble_eq_true rfl) rfl ?_
      refine mr_goto C0 dX6_holdsNow_41 (tgt := 7) (by decide) ?_
      exact h zp0 zl0 ze0 zs0 zm0 zargs0 zbelow0 zmeth0 zc0 zD0 zad0 zac0 C0 hr0 hk0
    · have h := h.2 c3
      refine mr_lconst (v := 1) C0 dX6_holdsNow_28 (by decide) ?_
      refine mr_iload C0 dX6_holdsNow_29 rfl ?_
      refine mr_lshl C0 dX6_holdsNow_31 ?_
      refine mr_goto C0 dX6_holdsNow_32 (tgt := 36) (by decide) ?_
      refine mr_lor C0 dX6_holdsNow_36 ?_
      refine mr_lstore_n (L1 := [some (.ref 34), some (.long (y1 ||| ((1 : Int64) <<< (x5.toInt64 &&& 63)))), none, some (.long y3), none, some (.int x5)]) C0 dX6_holdsNow_37 rfl (Nat.le_of_ble_eq_true rfl) rfl ?_
      refine mr_iinc (v := (x5 + 1)) (L1 := [some (.ref 34), some (.long (y1 ||| ((1 : Int64) <<< (x5.toInt64 &&& 63)))), none, some (.long y3), none, some (.int (x5 + 1))]) C0 dX6_holdsNow_38 rfl rfl (Nat.le_of_ble_eq_true rfl) rfl ?_
      refine mr_goto C0 dX6_holdsNow_41 (tgt := 7) (by decide) ?_
      exact h zp0 zl0 ze0 zs0 zm0 zargs0 zbelow0 zmeth0 zc0 zD0 zad0 zac0 C0 hr0 hk0
set_option maxRecDepth 100000 in
set_option maxHeartbeats 4000000 in
theorem eX6_holdsNow_47 (y1 : Int64) (y3 : Int64) (x5 : Int32) (S : St) (Q : Int64 → St → Prop) (h : (((S.1 34 11) ≤ x5 → Q y3 S) ∧ (¬ (S.1 34 11) ≤ x5 → (vp_in x5 8) ∧ (vp_in x5 8) ∧ CallV mdX6_layChances [.ref 34, .int (S.1 39 x5.toNatClampNeg), .int (S.1 40 x5.toNatClampNeg)] S (qV fun S4 => V mdX6_holdsNow 47 [some (.ref 34), some (.long y1), none, some (.long (y3 ||| ((S4.2 34 18) &&& y1))), none, some (.int (x5 + 1))] [] S4 (qJ Q))))) : V mdX6_holdsNow 47 [some (.ref 34), some (.long y1), none, some (.long y3), none, some (.int x5)] [] S (qJ Q) := by
  intro zp0 zl0 ze0 zs0 zm0 zargs0 zbelow0 zmeth0 zc0 zD0 zad0 zac0 C0 hr0 hk0
  refine mr_iload C0 dX6_holdsNow_47 rfl ?_
  refine mr_aload_n C0 dX6_holdsNow_49 rfl (i := 0) rfl ?_
  refine mr_getI C0 dX6_holdsNow_50 fl_X6_138 (Nat.le_of_ble_eq_true rfl) rfl rfl ?_
  refine mr_icmp_ge C0 dX6_holdsNow_53 (tgt := 77) (by decide) (fun c1 => ?_) (fun c1 => ?_)
  · have h := h.1 c1
    refine mr_lload_n C0 dX6_holdsNow_77 rfl (i := 3) rfl ?_
    refine mr_lret C0 hr0 hk0 dX6_holdsNow_78 (qJ_mk ?_)
    exact h
  · have h := h.2 c1
    refine mr_aload_n C0 dX6_holdsNow_56 rfl (i := 0) rfl ?_
    refine mr_iload C0 dX6_holdsNow_57 rfl ?_
    refine mr_callVV C0 mdX6_layVote dX6_holdsNow_59 clX6_layVote ml_X6_183 (Nat.le_of_ble_eq_true rfl) rfl rfl arX6_layVote (as := [.int x5]) rfl (Nat.le_of_ble_eq_true rfl) (Nat.le_of_ble_eq_true rfl) (Nat.le_of_ble_eq_true rfl) fit0 (CallV_of mdX6_layVote plX6_layVote 0 (Nat.le_of_ble_eq_true rfl) rfl ?_) (fun _ h => h)
    intro zp1 zl1 ze1 zs1 zm1 zargs1 zbelow1 zmeth1 zc1 zD1 zad1 zac1 C1 hr1 hk1
    refine mr_aload_n C1 dX6_layVote_0 rfl (i := 0) rfl ?_
    refine mr_aload_n C1 dX6_layVote_1 rfl (i := 0) rfl ?_
    refine mr_getR C1 dX6_layVote_2 fl_X6_22 (Nat.le_of_ble_eq_true rfl) rfl rfl ?_
    refine mr_iload_n C1 dX6_layVote_5 rfl (i := 1) rfl ?_
    have g2 := h.1
    have h := h.2
    refine mr_iald C1 dX6_layVote_6 (Nat.le_of_ble_eq_true rfl) rfl g2 ?_
    refine mr_aload_n C1 dX6_layVote_7 rfl (i := 0) rfl ?_
    refine mr_getR C1 dX6_layVote_8 fl_X6_25 (Nat.le_of_ble_eq_true rfl) rfl rfl ?_
    refine mr_iload_n C1 dX6_layVote_11 rfl (i := 1) rfl ?_
    have g3 := h.1
    have h := h.2
    refine mr_iald C1 dX6_layVote_12 (Nat.le_of_ble_eq_true rfl) rfl g3 ?_
    refine mr_callVV C1 mdX6_layChances dX6_layVote_13 clX6_layChances ml_X6_179 (Nat.le_of_ble_eq_true rfl) rfl rfl arX6_layChances (as := [.int (S.1 39 x5.toNatClampNeg), .int (S.1 40 x5.toNatClampNeg)]) rfl (Nat.le_of_ble_eq_true rfl) (Nat.le_of_ble_eq_true rfl) (Nat.le_of_ble_eq_true rfl) fit0 h (fun S4 h => ?_)
    refine mr_vret C1 hr1 hk1 dX6_layVote_16 (qV_mk ?_)
    refine mr_lload_n C0 dX6_holdsNow_62 rfl (i := 3) rfl ?_
    refine mr_aload_n C0 dX6_holdsNow_63 rfl (i := 0) rfl ?_
    refine mr_getJ C0 dX6_holdsNow_64 fl_X6_174 (Nat.le_of_ble_eq_true rfl) rfl rfl ?_
    refine mr_lload_n C0 dX6_holdsNow_67 rfl (i := 1) rfl ?_
    refine mr_land C0 dX6_holdsNow_68 ?_
    refine mr_lor C0 dX6_holdsNow_69 ?_
    refine mr_lstore_n (L1 := [some (.ref 34), some (.long y1), none, some (.long (y3 ||| ((S4.2 34 18) &&& y1))), none, some (.int x5)]) C0 dX6_holdsNow_70 rfl (Nat.le_of_ble_eq_true rfl) rfl ?_
    refine mr_iinc (v := (x5 + 1)) (L1 := [some (.ref 34), some (.long y1), none, some (.long (y3 ||| ((S4.2 34 18) &&& y1))), none, some (.int (x5 + 1))]) C0 dX6_holdsNow_71 rfl rfl (Nat.le_of_ble_eq_true rfl) rfl ?_
    refine mr_goto C0 dX6_holdsNow_74 (tgt := 47) (by decide) ?_
    exact h zp0 zl0 ze0 zs0 zm0 zargs0 zbelow0 zmeth0 zc0 zD0 zad0 zac0 C0 hr0 hk0
set_option maxRecDepth 100000 in
set_option maxHeartbeats 4000000 in
theorem eX6_setAll (y1 : Int64) (x3 : Int32) (S : St) (Q : St → Prop) (h : V mdX6_setAll 3 [some (.ref 34), some (.long y1), none, some (.int x3), some (.int (0 : Int32))] [] S (qV Q)) : CallV mdX6_setAll [.ref 34, .long y1, .int x3] S (qV Q) := by
  refine CallV_of mdX6_setAll plX6_setAll 1 (Nat.le_of_ble_eq_true rfl) rfl ?_
  intro zp0 zl0 ze0 zs0 zm0 zargs0 zbelow0 zmeth0 zc0 zD0 zad0 zac0 C0 hr0 hk0
  refine mr_iconst (v := 0) C0 dX6_setAll_0 (by decide) ?_
  refine mr_istore (L1 := [some (.ref 34), some (.long y1), none, some (.int x3), some (.int (0 : Int32))]) C0 dX6_setAll_1 (Nat.le_of_ble_eq_true rfl) rfl ?_
  exact h zp0 zl0 ze0 zs0 zm0 zargs0 zbelow0 zmeth0 zc0 zD0 zad0 zac0 C0 hr0 hk0
set_option maxRecDepth 100000 in
set_option maxHeartbeats 4000000 in
theorem eX6_setAll_3 (y1 : Int64) (x3 : Int32) (x4 : Int32) (S : St) (Q : St → Prop) (h : (((30 : Int32) ≤ x4 → Q S) ∧ (¬ (30 : Int32) ≤ x4 → ((¬ ((y1 >>> (x4.toInt64 &&& 63)) &&& (1 : Int64)) = (1 : Int64) → (vp_in x4 30) ∧ (vp_in x4 30) ∧ V mdX6_setAll 3 [some (.ref 34), some (.long y1), none, some (.int x3), some (.int (x4 + 1))] [] (sI S 36 x4.toNatClampNeg (S.1 36 x4.toNatClampNeg)) (qV Q)) ∧ (((y1 >>> (x4.toInt64 &&& 63)) &&& (1 : Int64)) = (1 : Int64) → (vp_in x4 30) ∧ V mdX6_setAll 3 [some (.ref 34), some (.long y1), none, some (.int x3), some (.int (x4 + 1))] [] (sI S 36 x4.toNatClampNeg x3) (qV Q)))))) : V mdX6_setAll 3 [some (.ref 34), some (.long y1), none, some (.int x3), some (.int x4)] [] S (qV Q) := by
  intro zp0 zl0 ze0 zs0 zm0 zargs0 zbelow0 zmeth0 zc0 zD0 zad0 zac0 C0 hr0 hk0
  refine mr_iload C0 dX6_setAll_3 rfl ?_
  refine mr_bipush (v := 30) C0 dX6_setAll_5 (by decide) ?_
  refine mr_icmp_ge C0 dX6_setAll_7 (tgt := 45) (by decide) (fun c1 => ?_) (fun c1 => ?_)
  · have h := h.1 c1
    refine mr_vret C0 hr0 hk0 dX6_setAll_45 (qV_mk ?_)
    exact h
  · have h := h.2 c1
    refine mr_aload_n C0 dX6_setAll_10 rfl (i := 0) rfl ?_
    refine mr_getR C0 dX6_setAll_11 fl_X6_13 (Nat.le_of_ble_eq_true rfl) rfl rfl ?_
    refine mr_iload C0 dX6_setAll_14 rfl ?_
    refine mr_lload_n C0 dX6_setAll_16 rfl (i := 1) rfl ?_
    refine mr_iload C0 dX6_setAll_17 rfl ?_
    refine mr_lshr C0 dX6_setAll_19 ?_
    refine mr_lconst (v := 1) C0 dX6_setAll_20 (by decide) ?_
    refine mr_land C0 dX6_setAll_21 ?_
    refine mr_lconst (v := 1) C0 dX6_setAll_22 (by decide) ?_
    refine mr_lcmp_ne C0 dX6_setAll_23 dX6_setAll_24 (tgt := 31) (by decide) (fun c2 => ?_) (fun c2 => ?_)
    · have h := h.1 c2
      refine mr_aload_n C0 dX6_setAll_31 rfl (i := 0) rfl ?_
      refine mr_getR C0 dX6_setAll_32 fl_X6_13 (Nat.le_of_ble_eq_true rfl) rfl rfl ?_
      refine mr_iload C0 dX6_setAll_35 rfl ?_
      have g3 := h.1
      have h := h.2
      refine mr_iald C0 dX6_setAll_37 (Nat.le_of_ble_eq_true rfl) rfl g3 ?_
      have g4 := h.1
      have h := h.2
      refine mr_iast C0 dX6_setAll_38 (Nat.le_of_ble_eq_true rfl) rfl g4 ?_
      refine mr_iinc (v := (x4 + 1)) (L1 := [some (.ref 34), some (.long y1), none, some (.int x3), some (.int (x4 + 1))]) C0 dX6_setAll_39 rfl rfl (Nat.le_of_ble_eq_true rfl) rfl ?_
      refine mr_goto C0 dX6_setAll_42 (tgt := 3) (by decide) ?_
      exact h zp0 zl0 ze0 zs0 zm0 zargs0 zbelow0 zmeth0 zc0 zD0 zad0 zac0 C0 hr0 hk0
    · have h := h.2 c2
      refine mr_iload_n C0 dX6_setAll_27 rfl (i := 3) rfl ?_
      refine mr_goto C0 dX6_setAll_28 (tgt := 38) (by decide) ?_
      have g5 := h.1
      have h := h.2
      refine mr_iast C0 dX6_setAll_38 (Nat.le_of_ble_eq_true rfl) rfl g5 ?_
      refine mr_iinc (v := (x4 + 1)) (L1 := [some (.ref 34), some (.long y1), none, some (.int x3), some (.int (x4 + 1))]) C0 dX6_setAll_39 rfl rfl (Nat.le_of_ble_eq_true rfl) rfl ?_
      refine mr_goto C0 dX6_setAll_42 (tgt := 3) (by decide) ?_
      exact h zp0 zl0 ze0 zs0 zm0 zargs0 zbelow0 zmeth0 zc0 zD0 zad0 zac0 C0 hr0 hk0
set_option maxRecDepth 100000 in
set_option maxHeartbeats 4000000 in
theorem eX6_dams (x1 : Int32) (S : St) (Q : Int64 → St → Prop) (h : ((x1.toInt64 < (0 : Int64) → Q (-9223372036854775808 : Int64) S) ∧ (¬ x1.toInt64 < (0 : Int64) → (((1 : Int64) < x1.toInt64 → Q (-9223372036854775808 : Int64) S) ∧ (¬ (1 : Int64) < x1.toInt64 → ((¬ (S.1 34 1) = 0 → CallV mdX6_holdsNow [.ref 34] S (qJ fun r5 S4 => ((¬ x1 = 0 → V mdX6_dams 38 [some (.ref 34), none, none, none, some (.long (0 : Int64)), none, some (.long r5), none] [] S4 (qJ Q)) ∧ (x1 = 0 → Q r5 S4)))) ∧ ((S.1 34 1) = 0 → Q (-9223372036854775808 : Int64) S))))))) : CallV mdX6_dams [.ref 34, .int x1] S (qJ Q) := by
  refine CallV_of mdX6_dams plX6_dams 6 (Nat.le_of_ble_eq_true rfl) rfl ?_
  intro zp0 zl0 ze0 zs0 zm0 zargs0 zbelow0 zmeth0 zc0 zD0 zad0 zac0 C0 hr0 hk0
  refine mr_iload_n C0 dX6_dams_0 rfl (i := 1) rfl ?_
  refine mr_i2l C0 dX6_dams_1 ?_
  refine mr_lconst (v := 0) C0 dX6_dams_2 (by decide) ?_
  refine mr_lconst (v := 1) C0 dX6_dams_3 (by decide) ?_
  refine mr_callSI C0 mdX6_in dX6_dams_4 clX6_in ml_X6_79 arX6_in (as := [.long x1.toInt64, .long (0 : Int64), .long (1 : Int64)]) rfl (Nat.le_of_ble_eq_true rfl) (Nat.le_of_ble_eq_true rfl) (Nat.le_of_ble_eq_true rfl) fit0 (CallV_of mdX6_in plX6_in 0 (Nat.le_of_ble_eq_true rfl) rfl ?_) (fun _ _ h => h)
  intro zp1 zl1 ze1 zs1 zm1 zargs1 zbelow1 zmeth1 zc1 zD1 zad1 zac1 C1 hr1 hk1
  refine mr_lload_n C1 dX6_in_0 rfl (i := 0) rfl ?_
  refine mr_lload_n C1 dX6_in_1 rfl (i := 2) rfl ?_
  refine mr_lcmp_lt C1 dX6_in_2 dX6_in_3 (tgt := 17) (by decide) (fun c1 => ?_) (fun c1 => ?_)
  · have h := h.1 c1
    refine mr_iconst (v := 0) C1 dX6_in_17 (by decide) ?_
    refine mr_zret C1 hr1 hk1 dX6_in_18 rfl (qI_mk ?_)
    refine mr_if_eq C0 dX6_dams_7 (tgt := 17) (by decide) (fun _ => ?_) (fun q => absurd q (by decide))
    refine mr_callSJ C0 mdX6_lost dX6_dams_17 clX6_lost ml_X6_65 arX6_lost (as := []) rfl (Nat.le_of_ble_eq_true rfl) (Nat.le_of_ble_eq_true rfl) (Nat.le_of_ble_eq_true rfl) fit0 (CallV_of mdX6_lost plX6_lost 0 (Nat.le_of_ble_eq_true rfl) rfl ?_) (fun _ _ h => h)
    intro zp2 zl2 ze2 zs2 zm2 zargs2 zbelow2 zmeth2 zc2 zD2 zad2 zac2 C2 hr2 hk2
    refine mr_ldc2 C2 dX6_lost_0 cn_X6_59 ?_
    refine mr_lret C2 hr2 hk2 dX6_lost_3 (qJ_mk ?_)
    refine mr_lret C0 hr0 hk0 dX6_dams_20 (qJ_mk ?_)
    exact h
  · have h := h.2 c1
    refine mr_lload_n C1 dX6_in_6 rfl (i := 0) rfl ?_
    refine mr_lload C1 dX6_in_7 rfl ?_
    refine mr_lcmp_gt C1 dX6_in_9 dX6_in_10 (tgt := 17) (by decide) (fun c2 => ?_) (fun c2 => ?_)
    · have h := h.1 c2
      refine mr_iconst (v := 0) C1 dX6_in_17 (by decide) ?_
      refine mr_zret C1 hr1 hk1 dX6_in_18 rfl (qI_mk ?_)
      refine mr_if_eq C0 dX6_dams_7 (tgt := 17) (by decide) (fun _ => ?_) (fun q => absurd q (by decide))
      refine mr_callSJ C0 mdX6_lost dX6_dams_17 clX6_lost ml_X6_65 arX6_lost (as := []) rfl (Nat.le_of_ble_eq_true rfl) (Nat.le_of_ble_eq_true rfl) (Nat.le_of_ble_eq_true rfl) fit0 (CallV_of mdX6_lost plX6_lost 0 (Nat.le_of_ble_eq_true rfl) rfl ?_) (fun _ _ h => h)
      intro zp3 zl3 ze3 zs3 zm3 zargs3 zbelow3 zmeth3 zc3 zD3 zad3 zac3 C3 hr3 hk3
      refine mr_ldc2 C3 dX6_lost_0 cn_X6_59 ?_
      refine mr_lret C3 hr3 hk3 dX6_lost_3 (qJ_mk ?_)
      refine mr_lret C0 hr0 hk0 dX6_dams_20 (qJ_mk ?_)
      exact h
    · have h := h.2 c2
      refine mr_iconst (v := 1) C1 dX6_in_13 (by decide) ?_
      refine mr_goto C1 dX6_in_14 (tgt := 18) (by decide) ?_
      refine mr_zret C1 hr1 hk1 dX6_in_18 rfl (qI_mk ?_)
      refine mr_if_eq C0 dX6_dams_7 (tgt := 17) (by decide) (fun q => absurd q (by decide)) (fun _ => ?_)
      refine mr_aload_n C0 dX6_dams_10 rfl (i := 0) rfl ?_
      refine mr_getI C0 dX6_dams_11 fl_X6_69 (Nat.le_of_ble_eq_true rfl) rfl rfl ?_
      refine mr_if_ne C0 dX6_dams_14 (tgt := 21) (by decide) (fun c3 => ?_) (fun c3 => ?_)
      · have h := h.1 c3
        refine mr_aload_n C0 dX6_dams_21 rfl (i := 0) rfl ?_
        refine mr_callVJ C0 mdX6_holdsNow dX6_dams_22 clX6_holdsNow ml_X6_215 (Nat.le_of_ble_eq_true rfl) rfl rfl arX6_holdsNow (as := []) rfl (Nat.le_of_ble_eq_true rfl) (Nat.le_of_ble_eq_true rfl) (Nat.le_of_ble_eq_true rfl) fit0 h (fun r5 S4 h => ?_)
        refine mr_lstore_n (L1 := [some (.ref 34), some (.int x1), some (.long r5), none, none, none, none, none]) C0 dX6_dams_25 rfl (Nat.le_of_ble_eq_true rfl) rfl ?_
        refine mr_iload_n C0 dX6_dams_26 rfl (i := 1) rfl ?_
        refine mr_if_ne C0 dX6_dams_27 (tgt := 32) (by decide) (fun c6 => ?_) (fun c6 => ?_)
        · have h := h.1 c6
          refine mr_lconst (v := 0) C0 dX6_dams_32 (by decide) ?_
          refine mr_lstore (L1 := [some (.ref 34), some (.int x1), some (.long r5), none, some (.long (0 : Int64)), none, none, none]) C0 dX6_dams_33 (Nat.le_of_ble_eq_true rfl) rfl ?_
          refine mr_lload_n C0 dX6_dams_35 rfl (i := 2) rfl ?_
          refine mr_lstore (L1 := [some (.ref 34), some (.int x1), some (.long r5), none, some (.long (0 : Int64)), none, some (.long r5), none]) C0 dX6_dams_36 (Nat.le_of_ble_eq_true rfl) rfl ?_
          refine mr_mask (L1 := [some (.ref 34), none, none, none, some (.long (0 : Int64)), none, some (.long r5), none]) C0 [true, false, false, false, true, false, true, false] rfl ?_
          exact h zp0 zl0 ze0 zs0 zm0 zargs0 zbelow0 zmeth0 zc0 zD0 zad0 zac0 C0 hr0 hk0
        · have h := h.2 c6
          refine mr_lload_n C0 dX6_dams_30 rfl (i := 2) rfl ?_
          refine mr_lret C0 hr0 hk0 dX6_dams_31 (qJ_mk ?_)
          exact h
      · have h := h.2 c3
        refine mr_callSJ C0 mdX6_lost dX6_dams_17 clX6_lost ml_X6_65 arX6_lost (as := []) rfl (Nat.le_of_ble_eq_true rfl) (Nat.le_of_ble_eq_true rfl) (Nat.le_of_ble_eq_true rfl) fit0 (CallV_of mdX6_lost plX6_lost 0 (Nat.le_of_ble_eq_true rfl) rfl ?_) (fun _ _ h => h)
        intro zp4 zl4 ze4 zs4 zm4 zargs4 zbelow4 zmeth4 zc4 zD4 zad4 zac4 C4 hr4 hk4
        refine mr_ldc2 C4 dX6_lost_0 cn_X6_59 ?_
        refine mr_lret C4 hr4 hk4 dX6_lost_3 (qJ_mk ?_)
        refine mr_lret C0 hr0 hk0 dX6_dams_20 (qJ_mk ?_)
        exact h
set_option maxRecDepth 100000 in
set_option maxHeartbeats 4000000 in
theorem eX6_dams_38 (y4 : Int64) (y6 : Int64) (S : St) (Q : Int64 → St → Prop) (h : ((y6 = (0 : Int64) → CallV mdX6_setAll [.ref 34, .long y4, .int (4 : Int32)] S (qV fun S2 => Q y4 S2)) ∧ (¬ y6 = (0 : Int64) → CallV mdX6_setAll [.ref 34, .long (y4 ||| y6), .int (0 : Int32)] S (qV fun S3 => CallV mdX6_holdsNow [.ref 34] S3 (qJ fun r5 S4 => V mdX6_dams 38 [some (.ref 34), none, none, none, some (.long (y4 ||| y6)), none, some (.long r5), none] [] S4 (qJ Q)))))) : V mdX6_dams 38 [some (.ref 34), none, none, none, some (.long y4), none, some (.long y6), none] [] S (qJ Q) := by
  intro zp0 zl0 ze0 zs0 zm0 zargs0 zbelow0 zmeth0 zc0 zD0 zad0 zac0 C0 hr0 hk0
  refine mr_lload C0 dX6_dams_38 rfl ?_
  refine mr_lconst (v := 0) C0 dX6_dams_40 (by decide) ?_
  refine mr_lcmp_eq C0 dX6_dams_41 dX6_dams_42 (tgt := 68) (by decide) (fun c1 => ?_) (fun c1 => ?_)
  · have h := h.1 c1
    refine mr_aload_n C0 dX6_dams_68 rfl (i := 0) rfl ?_
    refine mr_lload C0 dX6_dams_69 rfl ?_
    refine mr_iconst (v := 4) C0 dX6_dams_71 (by decide) ?_
    refine mr_callVV C0 mdX6_setAll dX6_dams_72 clX6_setAll ml_X6_218 (Nat.le_of_ble_eq_true rfl) rfl rfl arX6_setAll (as := [.long y4, .int (4 : Int32)]) rfl (Nat.le_of_ble_eq_true rfl) (Nat.le_of_ble_eq_true rfl) (Nat.le_of_ble_eq_true rfl) fit0 h (fun S2 h => ?_)
    refine mr_lload C0 dX6_dams_75 rfl ?_
    refine mr_lret C0 hr0 hk0 dX6_dams_77 (qJ_mk ?_)
    exact h
  · have h := h.2 c1
    refine mr_lload C0 dX6_dams_45 rfl ?_
    refine mr_lload C0 dX6_dams_47 rfl ?_
    refine mr_lor C0 dX6_dams_49 ?_
    refine mr_lstore (L1 := [some (.ref 34), none, none, none, some (.long (y4 ||| y6)), none, some (.long y6), none]) C0 dX6_dams_50 (Nat.le_of_ble_eq_true rfl) rfl ?_
    refine mr_aload_n C0 dX6_dams_52 rfl (i := 0) rfl ?_
    refine mr_lload C0 dX6_dams_53 rfl ?_
    refine mr_iconst (v := 0) C0 dX6_dams_55 (by decide) ?_
    refine mr_callVV C0 mdX6_setAll dX6_dams_56 clX6_setAll ml_X6_218 (Nat.le_of_ble_eq_true rfl) rfl rfl arX6_setAll (as := [.long (y4 ||| y6), .int (0 : Int32)]) rfl (Nat.le_of_ble_eq_true rfl) (Nat.le_of_ble_eq_true rfl) (Nat.le_of_ble_eq_true rfl) fit0 h (fun S3 h => ?_)
    refine mr_aload_n C0 dX6_dams_59 rfl (i := 0) rfl ?_
    refine mr_callVJ C0 mdX6_holdsNow dX6_dams_60 clX6_holdsNow ml_X6_215 (Nat.le_of_ble_eq_true rfl) rfl rfl arX6_holdsNow (as := []) rfl (Nat.le_of_ble_eq_true rfl) (Nat.le_of_ble_eq_true rfl) (Nat.le_of_ble_eq_true rfl) fit0 h (fun r5 S4 h => ?_)
    refine mr_lstore (L1 := [some (.ref 34), none, none, none, some (.long (y4 ||| y6)), none, some (.long r5), none]) C0 dX6_dams_63 (Nat.le_of_ble_eq_true rfl) rfl ?_
    refine mr_goto C0 dX6_dams_65 (tgt := 38) (by decide) ?_
    exact h zp0 zl0 ze0 zs0 zm0 zargs0 zbelow0 zmeth0 zc0 zD0 zad0 zac0 C0 hr0 hk0
set_option maxRecDepth 100000 in
set_option maxHeartbeats 4000000 in
theorem eX6_waysBy (x1 : Int32) (S : St) (Q : Int32 → St → Prop) (h : V mdX6_waysBy 11 [some (.ref 34), some (.int x1), some (.int (((1 : Int32) <<< ((S.1 34 11) &&& 31)) - (1 : Int32))), some (.int (0 : Int32)), none, none, none, none, none, none] [] S (qI Q)) : CallV mdX6_waysBy [.ref 34, .int x1] S (qI Q) := by
  refine CallV_of mdX6_waysBy plX6_waysBy 8 (Nat.le_of_ble_eq_true rfl) rfl ?_
  intro zp0 zl0 ze0 zs0 zm0 zargs0 zbelow0 zmeth0 zc0 zD0 zad0 zac0 C0 hr0 hk0
  refine mr_iconst (v := 1) C0 dX6_waysBy_0 (by decide) ?_
  refine mr_aload_n C0 dX6_waysBy_1 rfl (i := 0) rfl ?_
  refine mr_getI C0 dX6_waysBy_2 fl_X6_138 (Nat.le_of_ble_eq_true rfl) rfl rfl ?_
  refine mr_ishl C0 dX6_waysBy_5 ?_
  refine mr_iconst (v := 1) C0 dX6_waysBy_6 (by decide) ?_
  refine mr_isub C0 dX6_waysBy_7 ?_
  refine mr_istore_n (L1 := [some (.ref 34), some (.int x1), some (.int (((1 : Int32) <<< ((S.1 34 11) &&& 31)) - (1 : Int32))), none, none, none, none, none, none, none]) C0 dX6_waysBy_8 rfl (Nat.le_of_ble_eq_true rfl) rfl ?_
  refine mr_iconst (v := 0) C0 dX6_waysBy_9 (by decide) ?_
  refine mr_istore_n (L1 := [some (.ref 34), some (.int x1), some (.int (((1 : Int32) <<< ((S.1 34 11) &&& 31)) - (1 : Int32))), some (.int (0 : Int32)), none, none, none, none, none, none]) C0 dX6_waysBy_10 rfl (Nat.le_of_ble_eq_true rfl) rfl ?_
  exact h zp0 zl0 ze0 zs0 zm0 zargs0 zbelow0 zmeth0 zc0 zD0 zad0 zac0 C0 hr0 hk0
set_option maxRecDepth 100000 in
set_option maxHeartbeats 4000000 in
theorem eX6_waysBy_11 (x1 : Int32) (x2 : Int32) (x3 : Int32) (S : St) (Q : Int32 → St → Prop) (h : ((x2 < x3 → V mdX6_waysBy 39 [some (.ref 34), some (.int x1), some (.int x2), some (.int (0 : Int32)), none, none, none, none, none, none] [] S (qI Q)) ∧ (¬ x2 < x3 → ((¬ x3 = 0 → (vp_in x3 256) ∧ V mdX6_waysBy 11 [some (.ref 34), some (.int x1), some (.int x2), some (.int (x3 + 1)), none, none, none, none, none, none] [] (sI S 45 x3.toNatClampNeg (0 : Int32)) (qI Q)) ∧ (x3 = 0 → (vp_in x3 256) ∧ V mdX6_waysBy 11 [some (.ref 34), some (.int x1), some (.int x2), some (.int (x3 + 1)), none, none, none, none, none, none] [] (sI S 45 x3.toNatClampNeg (1 : Int32)) (qI Q)))))) : V mdX6_waysBy 11 [some (.ref 34), some (.int x1), some (.int x2), some (.int x3), none, none, none, none, none, none] [] S (qI Q) := by
  intro zp0 zl0 ze0 zs0 zm0 zargs0 zbelow0 zmeth0 zc0 zD0 zad0 zac0 C0 hr0 hk0
  refine mr_iload_n C0 dX6_waysBy_11 rfl (i := 3) rfl ?_
  refine mr_iload_n C0 dX6_waysBy_12 rfl (i := 2) rfl ?_
  refine mr_icmp_gt C0 dX6_waysBy_13 (tgt := 37) (by decide) (fun c1 => ?_) (fun c1 => ?_)
  · have h := h.1 c1
    refine mr_iconst (v := 0) C0 dX6_waysBy_37 (by decide) ?_
    refine mr_istore_n (L1 := [some (.ref 34), some (.int x1), some (.int x2), some (.int (0 : Int32)), none, none, none, none, none, none]) C0 dX6_waysBy_38 rfl (Nat.le_of_ble_eq_true rfl) rfl ?_
    exact h zp0 zl0 ze0 zs0 zm0 zargs0 zbelow0 zmeth0 zc0 zD0 zad0 zac0 C0 hr0 hk0
  · have h := h.2 c1
    refine mr_aload_n C0 dX6_waysBy_16 rfl (i := 0) rfl ?_
    refine mr_getR C0 dX6_waysBy_17 fl_X6_41 (Nat.le_of_ble_eq_true rfl) rfl rfl ?_
    refine mr_iload_n C0 dX6_waysBy_20 rfl (i := 3) rfl ?_
    refine mr_iload_n C0 dX6_waysBy_21 rfl (i := 3) rfl ?_
    refine mr_if_ne C0 dX6_waysBy_22 (tgt := 29) (by decide) (fun c2 => ?_) (fun c2 => ?_)
    · have h := h.1 c2
      refine mr_iconst (v := 0) C0 dX6_waysBy_29 (by decide) ?_
      have g3 := h.1
      have h := h.2
      refine mr_iast C0 dX6_waysBy_30 (Nat.le_of_ble_eq_true rfl) rfl g3 ?_
      refine mr_iinc (v := (x3 + 1)) (L1 := [some (.ref 34), some (.int x1), some (.int x2), some (.int (x3 + 1)), none, none, none, none, none, none]) C0 dX6_waysBy_31 rfl rfl (Nat.le_of_ble_eq_true rfl) rfl ?_
      refine mr_goto C0 dX6_waysBy_34 (tgt := 11) (by decide) ?_
      exact h zp0 zl0 ze0 zs0 zm0 zargs0 zbelow0 zmeth0 zc0 zD0 zad0 zac0 C0 hr0 hk0
    · have h := h.2 c2
      refine mr_iconst (v := 1) C0 dX6_waysBy_25 (by decide) ?_
      refine mr_goto C0 dX6_waysBy_26 (tgt := 30) (by decide) ?_
      have g4 := h.1
      have h := h.2
      refine mr_iast C0 dX6_waysBy_30 (Nat.le_of_ble_eq_true rfl) rfl g4 ?_
      refine mr_iinc (v := (x3 + 1)) (L1 := [some (.ref 34), some (.int x1), some (.int x2), some (.int (x3 + 1)), none, none, none, none, none, none]) C0 dX6_waysBy_31 rfl rfl (Nat.le_of_ble_eq_true rfl) rfl ?_
      refine mr_goto C0 dX6_waysBy_34 (tgt := 11) (by decide) ?_
      exact h zp0 zl0 ze0 zs0 zm0 zargs0 zbelow0 zmeth0 zc0 zD0 zad0 zac0 C0 hr0 hk0
set_option maxRecDepth 100000 in
set_option maxHeartbeats 4000000 in
theorem eX6_waysBy_39 (x1 : Int32) (x2 : Int32) (x3 : Int32) (S : St) (Q : Int32 → St → Prop) (h : (((S.1 34 2) < x3 → (vp_in x2 256) ∧ Q (S.1 45 x2.toNatClampNeg) S) ∧ (¬ (S.1 34 2) < x3 → ((¬ x3 = (S.1 34 2) → (vp_in x3 7) ∧ (vp_in (x1 + x3) 240) ∧ V mdX6_waysBy 81 [some (.ref 34), some (.int x1), some (.int x2), some (.int x3), some (.int (S.1 44 x3.toNatClampNeg)), some (.int (S.1 49 ((x1 + x3).toNatClampNeg))), some (.int (0 : Int32)), none, none, none] [] S (qI Q)) ∧ (x3 = (S.1 34 2) → (vp_in (x1 + x3) 240) ∧ V mdX6_waysBy 81 [some (.ref 34), some (.int x1), some (.int x2), some (.int x3), some (.int (S.1 44 6)), some (.int (S.1 49 ((x1 + x3).toNatClampNeg))), some (.int (0 : Int32)), none, none, none] [] S (qI Q)))))) : V mdX6_waysBy 39 [some (.ref 34), some (.int x1), some (.int x2), some (.int x3), none, none, none, none, none, none] [] S (qI Q) := by
  intro zp0 zl0 ze0 zs0 zm0 zargs0 zbelow0 zmeth0 zc0 zD0 zad0 zac0 C0 hr0 hk0
  refine mr_iload_n C0 dX6_waysBy_39 rfl (i := 3) rfl ?_
  refine mr_aload_n C0 dX6_waysBy_40 rfl (i := 0) rfl ?_
  refine mr_getI C0 dX6_waysBy_41 fl_X6_72 (Nat.le_of_ble_eq_true rfl) rfl rfl ?_
  refine mr_icmp_gt C0 dX6_waysBy_44 (tgt := 219) (by decide) (fun c1 => ?_) (fun c1 => ?_)
  · have h := h.1 c1
    refine mr_aload_n C0 dX6_waysBy_219 rfl (i := 0) rfl ?_
    refine mr_getR C0 dX6_waysBy_220 fl_X6_41 (Nat.le_of_ble_eq_true rfl) rfl rfl ?_
    refine mr_iload_n C0 dX6_waysBy_223 rfl (i := 2) rfl ?_
    have g2 := h.1
    have h := h.2
    refine mr_iald C0 dX6_waysBy_224 (Nat.le_of_ble_eq_true rfl) rfl g2 ?_
    refine mr_iret C0 hr0 hk0 dX6_waysBy_225 (qI_mk ?_)
    exact h
  · have h := h.2 c1
    refine mr_aload_n C0 dX6_waysBy_47 rfl (i := 0) rfl ?_
    refine mr_getR C0 dX6_waysBy_48 fl_X6_38 (Nat.le_of_ble_eq_true rfl) rfl rfl ?_
    refine mr_iload_n C0 dX6_waysBy_51 rfl (i := 3) rfl ?_
    refine mr_aload_n C0 dX6_waysBy_52 rfl (i := 0) rfl ?_
    refine mr_getI C0 dX6_waysBy_53 fl_X6_72 (Nat.le_of_ble_eq_true rfl) rfl rfl ?_
    refine mr_icmp_ne C0 dX6_waysBy_56 (tgt := 64) (by decide) (fun c3 => ?_) (fun c3 => ?_)
    · have h := h.1 c3
      refine mr_iload_n C0 dX6_waysBy_64 rfl (i := 3) rfl ?_
      have g4 := h.1
      have h := h.2
      refine mr_iald C0 dX6_waysBy_65 (Nat.le_of_ble_eq_true rfl) rfl g4 ?_
      refine mr_istore (L1 := [some (.ref 34), some (.int x1), some (.int x2), some (.int x3), some (.int (S.1 44 x3.toNatClampNeg)), none, none, none, none, none]) C0 dX6_waysBy_66 (Nat.le_of_ble_eq_true rfl) rfl ?_
      refine mr_aload_n C0 dX6_waysBy_68 rfl (i := 0) rfl ?_
      refine mr_getR C0 dX6_waysBy_69 fl_X6_53 (Nat.le_of_ble_eq_true rfl) rfl rfl ?_
      refine mr_iload_n C0 dX6_waysBy_72 rfl (i := 1) rfl ?_
      refine mr_iload_n C0 dX6_waysBy_73 rfl (i := 3) rfl ?_
      refine mr_iadd C0 dX6_waysBy_74 ?_
      have g5 := h.1
      have h := h.2
      refine mr_iald C0 dX6_waysBy_75 (Nat.le_of_ble_eq_true rfl) rfl g5 ?_
      refine mr_istore (L1 := [some (.ref 34), some (.int x1), some (.int x2), some (.int x3), some (.int (S.1 44 x3.toNatClampNeg)), some (.int (S.1 49 ((x1 + x3).toNatClampNeg))), none, none, none, none]) C0 dX6_waysBy_76 (Nat.le_of_ble_eq_true rfl) rfl ?_
      refine mr_iconst (v := 0) C0 dX6_waysBy_78 (by decide) ?_
      refine mr_istore (L1 := [some (.ref 34), some (.int x1), some (.int x2), some (.int x3), some (.int (S.1 44 x3.toNatClampNeg)), some (.int (S.1 49 ((x1 + x3).toNatClampNeg))), some (.int (0 : Int32)), none, none, none]) C0 dX6_waysBy_79 (Nat.le_of_ble_eq_true rfl) rfl ?_
      exact h zp0 zl0 ze0 zs0 zm0 zargs0 zbelow0 zmeth0 zc0 zD0 zad0 zac0 C0 hr0 hk0
    · have h := h.2 c3
      refine mr_bipush (v := 6) C0 dX6_waysBy_59 (by decide) ?_
      refine mr_goto C0 dX6_waysBy_61 (tgt := 65) (by decide) ?_
      refine mr_iald C0 dX6_waysBy_65 (Nat.le_of_ble_eq_true rfl) rfl (by unfold vp_in; decide) ?_
      refine mr_topI (y := (S.1 44 6)) (by first | rfl | simp [sI, sJ, sF, upd, vp_updL]) ?_
      refine mr_istore (L1 := [some (.ref 34), some (.int x1), some (.int x2), some (.int x3), some (.int (S.1 44 6)), none, none, none, none, none]) C0 dX6_waysBy_66 (Nat.le_of_ble_eq_true rfl) rfl ?_
      refine mr_aload_n C0 dX6_waysBy_68 rfl (i := 0) rfl ?_
      refine mr_getR C0 dX6_waysBy_69 fl_X6_53 (Nat.le_of_ble_eq_true rfl) rfl rfl ?_
      refine mr_iload_n C0 dX6_waysBy_72 rfl (i := 1) rfl ?_
      refine mr_iload_n C0 dX6_waysBy_73 rfl (i := 3) rfl ?_
      refine mr_iadd C0 dX6_waysBy_74 ?_
      have g6 := h.1
      have h := h.2
      refine mr_iald C0 dX6_waysBy_75 (Nat.le_of_ble_eq_true rfl) rfl g6 ?_
      refine mr_istore (L1 := [some (.ref 34), some (.int x1), some (.int x2), some (.int x3), some (.int (S.1 44 6)), some (.int (S.1 49 ((x1 + x3).toNatClampNeg))), none, none, none, none]) C0 dX6_waysBy_76 (Nat.le_of_ble_eq_true rfl) rfl ?_
      refine mr_iconst (v := 0) C0 dX6_waysBy_78 (by decide) ?_
      refine mr_istore (L1 := [some (.ref 34), some (.int x1), some (.int x2), some (.int x3), some (.int (S.1 44 6)), some (.int (S.1 49 ((x1 + x3).toNatClampNeg))), some (.int (0 : Int32)), none, none, none]) C0 dX6_waysBy_79 (Nat.le_of_ble_eq_true rfl) rfl ?_
      exact h zp0 zl0 ze0 zs0 zm0 zargs0 zbelow0 zmeth0 zc0 zD0 zad0 zac0 C0 hr0 hk0
set_option maxRecDepth 100000 in
set_option maxHeartbeats 4000000 in
theorem eX6_waysBy_81 (x1 : Int32) (x2 : Int32) (x3 : Int32) (x4 : Int32) (x5 : Int32) (x6 : Int32) (S : St) (Q : Int32 → St → Prop) (h : ((x2 < x6 → V mdX6_waysBy 187 [some (.ref 34), some (.int x1), some (.int x2), some (.int x3), none, none, some (.int (0 : Int32)), none, none, none] [] S (qI Q)) ∧ (¬ x2 < x6 → V mdX6_waysBy 93 [some (.ref 34), some (.int x1), some (.int x2), some (.int x3), some (.int x4), some (.int x5), some (.int x6), some (.int (0 : Int32)), some (.int (0 : Int32)), none] [] S (qI Q)))) : V mdX6_waysBy 81 [some (.ref 34), some (.int x1), some (.int x2), some (.int x3), some (.int x4), some (.int x5), some (.int x6), none, none, none] [] S (qI Q) := by
  intro zp0 zl0 ze0 zs0 zm0 zargs0 zbelow0 zmeth0 zc0 zD0 zad0 zac0 C0 hr0 hk0
  refine mr_iload C0 dX6_waysBy_81 rfl ?_
  refine mr_iload_n C0 dX6_waysBy_83 rfl (i := 2) rfl ?_
  refine mr_icmp_gt C0 dX6_waysBy_84 (tgt := 184) (by decide) (fun c1 => ?_) (fun c1 => ?_)
  · have h := h.1 c1
    refine mr_iconst (v := 0) C0 dX6_waysBy_184 (by decide) ?_
    refine mr_istore (L1 := [some (.ref 34), some (.int x1), some (.int x2), some (.int x3), some (.int x4), some (.int x5), some (.int (0 : Int32)), none, none, none]) C0 dX6_waysBy_185 (Nat.le_of_ble_eq_true rfl) rfl ?_
    refine mr_mask (L1 := [some (.ref 34), some (.int x1), some (.int x2), some (.int x3), none, none, some (.int (0 : Int32)), none, none, none]) C0 [true, true, true, true, false, false, true, false, false, false] rfl ?_
    exact h zp0 zl0 ze0 zs0 zm0 zargs0 zbelow0 zmeth0 zc0 zD0 zad0 zac0 C0 hr0 hk0
  · have h := h.2 c1
    refine mr_iconst (v := 0) C0 dX6_waysBy_87 (by decide) ?_
    refine mr_istore (L1 := [some (.ref 34), some (.int x1), some (.int x2), some (.int x3), some (.int x4), some (.int x5), some (.int x6), some (.int (0 : Int32)), none, none]) C0 dX6_waysBy_88 (Nat.le_of_ble_eq_true rfl) rfl ?_
    refine mr_iconst (v := 0) C0 dX6_waysBy_90 (by decide) ?_
    refine mr_istore (L1 := [some (.ref 34), some (.int x1), some (.int x2), some (.int x3), some (.int x4), some (.int x5), some (.int x6), some (.int (0 : Int32)), some (.int (0 : Int32)), none]) C0 dX6_waysBy_91 (Nat.le_of_ble_eq_true rfl) rfl ?_
    exact h zp0 zl0 ze0 zs0 zm0 zargs0 zbelow0 zmeth0 zc0 zD0 zad0 zac0 C0 hr0 hk0
set_option maxRecDepth 100000 in
set_option maxHeartbeats 4000000 in
theorem eX6_waysBy_93 (x1 : Int32) (x2 : Int32) (x3 : Int32) (x4 : Int32) (x5 : Int32) (x6 : Int32) (x7 : Int32) (x8 : Int32) (S : St) (Q : Int32 → St → Prop) (h : ((x6 < x8 → (vp_in x6 256) ∧ V mdX6_waysBy 81 [some (.ref 34), some (.int x1), some (.int x2), some (.int x3), some (.int x4), some (.int x5), some (.int (x6 + 1)), none, none, none] [] (sI S 46 x6.toNatClampNeg x7) (qI Q)) ∧ (¬ x6 < x8 → ((¬ (x8 &&& (x6 ^^^ (-1 : Int32))) = 0 → V mdX6_waysBy 93 [some (.ref 34), some (.int x1), some (.int x2), some (.int x3), some (.int x4), some (.int x5), some (.int x6), some (.int (x7 + (0 : Int32))), some (.int (x8 + 1)), none] [] S (qI Q)) ∧ ((x8 &&& (x6 ^^^ (-1 : Int32))) = 0 → ((¬ (x8 &&& (x4 ^^^ (-1 : Int32))) = 0 → V mdX6_waysBy 93 [some (.ref 34), some (.int x1), some (.int x2), some (.int x3), some (.int x4), some (.int x5), some (.int x6), some (.int (x7 + (0 : Int32))), some (.int (x8 + 1)), none] [] S (qI Q)) ∧ ((x8 &&& (x4 ^^^ (-1 : Int32))) = 0 → CallV mdX6_bits [.int x8] S (qI fun r6 S5 => ((¬ r6 = x5 → V mdX6_waysBy 93 [some (.ref 34), some (.int x1), some (.int x2), some (.int x3), some (.int x4), some (.int x5), some (.int x6), some (.int (x7 + (0 : Int32))), some (.int (x8 + 1)), none] [] S5 (qI Q)) ∧ (r6 = x5 → (vp_in (x6 &&& (x8 ^^^ (-1 : Int32))) 256) ∧ V mdX6_waysBy 93 [some (.ref 34), some (.int x1), some (.int x2), some (.int x3), some (.int x4), some (.int x5), some (.int x6), some (.int (x7 + (S5.1 45 ((x6 &&& (x8 ^^^ (-1 : Int32))).toNatClampNeg)))), some (.int (x8 + 1)), none] [] S5 (qI Q))))))))))) : V mdX6_waysBy 93 [some (.ref 34), some (.int x1), some (.int x2), some (.int x3), some (.int x4), some (.int x5), some (.int x6), some (.int x7), some (.int x8), none] [] S (qI Q) := by
  intro zp0 zl0 ze0 zs0 zm0 zargs0 zbelow0 zmeth0 zc0 zD0 zad0 zac0 C0 hr0 hk0
  refine mr_iload C0 dX6_waysBy_93 rfl ?_
  refine mr_iload C0 dX6_waysBy_95 rfl ?_
  refine mr_icmp_gt C0 dX6_waysBy_97 (tgt := 169) (by decide) (fun c1 => ?_) (fun c1 => ?_)
  · have h := h.1 c1
    refine mr_aload_n C0 dX6_waysBy_169 rfl (i := 0) rfl ?_
    refine mr_getR C0 dX6_waysBy_170 fl_X6_44 (Nat.le_of_ble_eq_true rfl) rfl rfl ?_
    refine mr_iload C0 dX6_waysBy_173 rfl ?_
    refine mr_iload C0 dX6_waysBy_175 rfl ?_
    have g2 := h.1
    have h := h.2
    refine mr_iast C0 dX6_waysBy_177 (Nat.le_of_ble_eq_true rfl) rfl g2 ?_
    refine mr_iinc (v := (x6 + 1)) (L1 := [some (.ref 34), some (.int x1), some (.int x2), some (.int x3), some (.int x4), some (.int x5), some (.int (x6 + 1)), some (.int x7), some (.int x8), none]) C0 dX6_waysBy_178 rfl rfl (Nat.le_of_ble_eq_true rfl) rfl ?_
    refine mr_goto C0 dX6_waysBy_181 (tgt := 81) (by decide) ?_
    refine mr_mask (L1 := [some (.ref 34), some (.int x1), some (.int x2), some (.int x3), some (.int x4), some (.int x5), some (.int (x6 + 1)), none, none, none]) C0 [true, true, true, true, true, true, true, false, false, false] rfl ?_
    exact h zp0 zl0 ze0 zs0 zm0 zargs0 zbelow0 zmeth0 zc0 zD0 zad0 zac0 C0 hr0 hk0
  · have h := h.2 c1
    refine mr_iload C0 dX6_waysBy_100 rfl ?_
    refine mr_iload C0 dX6_waysBy_102 rfl ?_
    refine mr_iconst (v := (-1)) C0 dX6_waysBy_104 (by decide) ?_
    refine mr_ixor C0 dX6_waysBy_105 ?_
    refine mr_iand C0 dX6_waysBy_106 ?_
    refine mr_if_ne C0 dX6_waysBy_107 (tgt := 134) (by decide) (fun c3 => ?_) (fun c3 => ?_)
    · have h := h.1 c3
      refine mr_iconst (v := 0) C0 dX6_waysBy_134 (by decide) ?_
      refine mr_istore (L1 := [some (.ref 34), some (.int x1), some (.int x2), some (.int x3), some (.int x4), some (.int x5), some (.int x6), some (.int x7), some (.int x8), some (.int (0 : Int32))]) C0 dX6_waysBy_135 (Nat.le_of_ble_eq_true rfl) rfl ?_
      refine mr_iload C0 dX6_waysBy_137 rfl ?_
      refine mr_iload C0 dX6_waysBy_139 rfl ?_
      refine mr_if_eq C0 dX6_waysBy_141 (tgt := 159) (by decide) (fun _ => ?_) (fun q => absurd q (by decide))
      refine mr_iconst (v := 0) C0 dX6_waysBy_159 (by decide) ?_
      refine mr_iadd C0 dX6_waysBy_160 ?_
      refine mr_istore (L1 := [some (.ref 34), some (.int x1), some (.int x2), some (.int x3), some (.int x4), some (.int x5), some (.int x6), some (.int (x7 + (0 : Int32))), some (.int x8), some (.int (0 : Int32))]) C0 dX6_waysBy_161 (Nat.le_of_ble_eq_true rfl) rfl ?_
      refine mr_iinc (v := (x8 + 1)) (L1 := [some (.ref 34), some (.int x1), some (.int x2), some (.int x3), some (.int x4), some (.int x5), some (.int x6), some (.int (x7 + (0 : Int32))), some (.int (x8 + 1)), some (.int (0 : Int32))]) C0 dX6_waysBy_163 rfl rfl (Nat.le_of_ble_eq_true rfl) rfl ?_
      refine mr_goto C0 dX6_waysBy_166 (tgt := 93) (by decide) ?_
      refine mr_mask (L1 := [some (.ref 34), some (.int x1), some (.int x2), some (.int x3), some (.int x4), some (.int x5), some (.int x6), some (.int (x7 + (0 : Int32))), some (.int (x8 + 1)), none]) C0 [true, true, true, true, true, true, true, true, true, false] rfl ?_
      exact h zp0 zl0 ze0 zs0 zm0 zargs0 zbelow0 zmeth0 zc0 zD0 zad0 zac0 C0 hr0 hk0
    · have h := h.2 c3
      refine mr_iload C0 dX6_waysBy_110 rfl ?_
      refine mr_iload C0 dX6_waysBy_112 rfl ?_
      refine mr_iconst (v := (-1)) C0 dX6_waysBy_114 (by decide) ?_
      refine mr_ixor C0 dX6_waysBy_115 ?_
      refine mr_iand C0 dX6_waysBy_116 ?_
      refine mr_if_ne C0 dX6_waysBy_117 (tgt := 134) (by decide) (fun c4 => ?_) (fun c4 => ?_)
      · have h := h.1 c4
        refine mr_iconst (v := 0) C0 dX6_waysBy_134 (by decide) ?_
        refine mr_istore (L1 := [some (.ref 34), some (.int x1), some (.int x2), some (.int x3), some (.int x4), some (.int x5), some (.int x6), some (.int x7), some (.int x8), some (.int (0 : Int32))]) C0 dX6_waysBy_135 (Nat.le_of_ble_eq_true rfl) rfl ?_
        refine mr_iload C0 dX6_waysBy_137 rfl ?_
        refine mr_iload C0 dX6_waysBy_139 rfl ?_
        refine mr_if_eq C0 dX6_waysBy_141 (tgt := 159) (by decide) (fun _ => ?_) (fun q => absurd q (by decide))
        refine mr_iconst (v := 0) C0 dX6_waysBy_159 (by decide) ?_
        refine mr_iadd C0 dX6_waysBy_160 ?_
        refine mr_istore (L1 := [some (.ref 34), some (.int x1), some (.int x2), some (.int x3), some (.int x4), some (.int x5), some (.int x6), some (.int (x7 + (0 : Int32))), some (.int x8), some (.int (0 : Int32))]) C0 dX6_waysBy_161 (Nat.le_of_ble_eq_true rfl) rfl ?_
        refine mr_iinc (v := (x8 + 1)) (L1 := [some (.ref 34), some (.int x1), some (.int x2), some (.int x3), some (.int x4), some (.int x5), some (.int x6), some (.int (x7 + (0 : Int32))), some (.int (x8 + 1)), some (.int (0 : Int32))]) C0 dX6_waysBy_163 rfl rfl (Nat.le_of_ble_eq_true rfl) rfl ?_
        refine mr_goto C0 dX6_waysBy_166 (tgt := 93) (by decide) ?_
        refine mr_mask (L1 := [some (.ref 34), some (.int x1), some (.int x2), some (.int x3), some (.int x4), some (.int x5), some (.int x6), some (.int (x7 + (0 : Int32))), some (.int (x8 + 1)), none]) C0 [true, true, true, true, true, true, true, true, true, false] rfl ?_
        exact h zp0 zl0 ze0 zs0 zm0 zargs0 zbelow0 zmeth0 zc0 zD0 zad0 zac0 C0 hr0 hk0
      · have h := h.2 c4
        refine mr_iload C0 dX6_waysBy_120 rfl ?_
        refine mr_callSI C0 mdX6_bits dX6_waysBy_122 clX6_bits ml_X6_222 arX6_bits (as := [.int x8]) rfl (Nat.le_of_ble_eq_true rfl) (Nat.le_of_ble_eq_true rfl) (Nat.le_of_ble_eq_true rfl) fit0 h (fun r6 S5 h => ?_)
        refine mr_iload C0 dX6_waysBy_125 rfl ?_
        refine mr_icmp_ne C0 dX6_waysBy_127 (tgt := 134) (by decide) (fun c7 => ?_) (fun c7 => ?_)
        · have h := h.1 c7
          refine mr_iconst (v := 0) C0 dX6_waysBy_134 (by decide) ?_
          refine mr_istore (L1 := [some (.ref 34), some (.int x1), some (.int x2), some (.int x3), some (.int x4), some (.int x5), some (.int x6), some (.int x7), some (.int x8), some (.int (0 : Int32))]) C0 dX6_waysBy_135 (Nat.le_of_ble_eq_true rfl) rfl ?_
          refine mr_iload C0 dX6_waysBy_137 rfl ?_
          refine mr_iload C0 dX6_waysBy_139 rfl ?_
          refine mr_if_eq C0 dX6_waysBy_141 (tgt := 159) (by decide) (fun _ => ?_) (fun q => absurd q (by decide))
          refine mr_iconst (v := 0) C0 dX6_waysBy_159 (by decide) ?_
          refine mr_iadd C0 dX6_waysBy_160 ?_
          refine mr_istore (L1 := [some (.ref 34), some (.int x1), some (.int x2), some (.int x3), some (.int x4), some (.int x5), some (.int x6), some (.int (x7 + (0 : Int32))), some (.int x8), some (.int (0 : Int32))]) C0 dX6_waysBy_161 (Nat.le_of_ble_eq_true rfl) rfl ?_
          refine mr_iinc (v := (x8 + 1)) (L1 := [some (.ref 34), some (.int x1), some (.int x2), some (.int x3), some (.int x4), some (.int x5), some (.int x6), some (.int (x7 + (0 : Int32))), some (.int (x8 + 1)), some (.int (0 : Int32))]) C0 dX6_waysBy_163 rfl rfl (Nat.le_of_ble_eq_true rfl) rfl ?_
          refine mr_goto C0 dX6_waysBy_166 (tgt := 93) (by decide) ?_
          refine mr_mask (L1 := [some (.ref 34), some (.int x1), some (.int x2), some (.int x3), some (.int x4), some (.int x5), some (.int x6), some (.int (x7 + (0 : Int32))), some (.int (x8 + 1)), none]) C0 [true, true, true, true, true, true, true, true, true, false] rfl ?_
          exact h zp0 zl0 ze0 zs0 zm0 zargs0 zbelow0 zmeth0 zc0 zD0 zad0 zac0 C0 hr0 hk0
        · have h := h.2 c7
          refine mr_iconst (v := 1) C0 dX6_waysBy_130 (by decide) ?_
          refine mr_goto C0 dX6_waysBy_131 (tgt := 135) (by decide) ?_
          refine mr_istore (L1 := [some (.ref 34), some (.int x1), some (.int x2), some (.int x3), some (.int x4), some (.int x5), some (.int x6), some (.int x7), some (.int x8), some (.int (1 : Int32))]) C0 dX6_waysBy_135 (Nat.le_of_ble_eq_true rfl) rfl ?_
          refine mr_iload C0 dX6_waysBy_137 rfl ?_
          refine mr_iload C0 dX6_waysBy_139 rfl ?_
          refine mr_if_eq C0 dX6_waysBy_141 (tgt := 159) (by decide) (fun q => absurd q (by decide)) (fun _ => ?_)
          refine mr_aload_n C0 dX6_waysBy_144 rfl (i := 0) rfl ?_
          refine mr_getR C0 dX6_waysBy_145 fl_X6_41 (Nat.le_of_ble_eq_true rfl) rfl rfl ?_
          refine mr_iload C0 dX6_waysBy_148 rfl ?_
          refine mr_iload C0 dX6_waysBy_150 rfl ?_
          refine mr_iconst (v := (-1)) C0 dX6_waysBy_152 (by decide) ?_
          refine mr_ixor C0 dX6_waysBy_153 ?_
          refine mr_iand C0 dX6_waysBy_154 ?_
          have g8 := h.1
          have h := h.2
          refine mr_iald C0 dX6_waysBy_155 (Nat.le_of_ble_eq_true rfl) rfl g8 ?_
          refine mr_goto C0 dX6_waysBy_156 (tgt := 160) (by decide) ?_
          refine mr_iadd C0 dX6_waysBy_160 ?_
          refine mr_istore (L1 := [some (.ref 34), some (.int x1), some (.int x2), some (.int x3), some (.int x4), some (.int x5), some (.int x6), some (.int (x7 + (S5.1 45 ((x6 &&& (x8 ^^^ (-1 : Int32))).toNatClampNeg)))), some (.int x8), some (.int (1 : Int32))]) C0 dX6_waysBy_161 (Nat.le_of_ble_eq_true rfl) rfl ?_
          refine mr_iinc (v := (x8 + 1)) (L1 := [some (.ref 34), some (.int x1), some (.int x2), some (.int x3), some (.int x4), some (.int x5), some (.int x6), some (.int (x7 + (S5.1 45 ((x6 &&& (x8 ^^^ (-1 : Int32))).toNatClampNeg)))), some (.int (x8 + 1)), some (.int (1 : Int32))]) C0 dX6_waysBy_163 rfl rfl (Nat.le_of_ble_eq_true rfl) rfl ?_
          refine mr_goto C0 dX6_waysBy_166 (tgt := 93) (by decide) ?_
          refine mr_mask (L1 := [some (.ref 34), some (.int x1), some (.int x2), some (.int x3), some (.int x4), some (.int x5), some (.int x6), some (.int (x7 + (S5.1 45 ((x6 &&& (x8 ^^^ (-1 : Int32))).toNatClampNeg)))), some (.int (x8 + 1)), none]) C0 [true, true, true, true, true, true, true, true, true, false] rfl ?_
          exact h zp0 zl0 ze0 zs0 zm0 zargs0 zbelow0 zmeth0 zc0 zD0 zad0 zac0 C0 hr0 hk0
set_option maxRecDepth 100000 in
set_option maxHeartbeats 4000000 in
theorem eX6_waysBy_187 (x1 : Int32) (x2 : Int32) (x3 : Int32) (x6 : Int32) (S : St) (Q : Int32 → St → Prop) (h : ((x2 < x6 → V mdX6_waysBy 39 [some (.ref 34), some (.int x1), some (.int x2), some (.int (x3 + 1)), none, none, none, none, none, none] [] S (qI Q)) ∧ (¬ x2 < x6 → (vp_in x6 256) ∧ (vp_in x6 256) ∧ V mdX6_waysBy 187 [some (.ref 34), some (.int x1), some (.int x2), some (.int x3), none, none, some (.int (x6 + 1)), none, none, none] [] (sI S 45 x6.toNatClampNeg (S.1 46 x6.toNatClampNeg)) (qI Q)))) : V mdX6_waysBy 187 [some (.ref 34), some (.int x1), some (.int x2), some (.int x3), none, none, some (.int x6), none, none, none] [] S (qI Q) := by
  intro zp0 zl0 ze0 zs0 zm0 zargs0 zbelow0 zmeth0 zc0 zD0 zad0 zac0 C0 hr0 hk0
  refine mr_iload C0 dX6_waysBy_187 rfl ?_
  refine mr_iload_n C0 dX6_waysBy_189 rfl (i := 2) rfl ?_
  refine mr_icmp_gt C0 dX6_waysBy_190 (tgt := 213) (by decide) (fun c1 => ?_) (fun c1 => ?_)
  · have h := h.1 c1
    refine mr_iinc (v := (x3 + 1)) (L1 := [some (.ref 34), some (.int x1), some (.int x2), some (.int (x3 + 1)), none, none, some (.int x6), none, none, none]) C0 dX6_waysBy_213 rfl rfl (Nat.le_of_ble_eq_true rfl) rfl ?_
    refine mr_goto C0 dX6_waysBy_216 (tgt := 39) (by decide) ?_
    refine mr_mask (L1 := [some (.ref 34), some (.int x1), some (.int x2), some (.int (x3 + 1)), none, none, none, none, none, none]) C0 [true, true, true, true, false, false, false, false, false, false] rfl ?_
    exact h zp0 zl0 ze0 zs0 zm0 zargs0 zbelow0 zmeth0 zc0 zD0 zad0 zac0 C0 hr0 hk0
  · have h := h.2 c1
    refine mr_aload_n C0 dX6_waysBy_193 rfl (i := 0) rfl ?_
    refine mr_getR C0 dX6_waysBy_194 fl_X6_41 (Nat.le_of_ble_eq_true rfl) rfl rfl ?_
    refine mr_iload C0 dX6_waysBy_197 rfl ?_
    refine mr_aload_n C0 dX6_waysBy_199 rfl (i := 0) rfl ?_
    refine mr_getR C0 dX6_waysBy_200 fl_X6_44 (Nat.le_of_ble_eq_true rfl) rfl rfl ?_
    refine mr_iload C0 dX6_waysBy_203 rfl ?_
    have g2 := h.1
    have h := h.2
    refine mr_iald C0 dX6_waysBy_205 (Nat.le_of_ble_eq_true rfl) rfl g2 ?_
    have g3 := h.1
    have h := h.2
    refine mr_iast C0 dX6_waysBy_206 (Nat.le_of_ble_eq_true rfl) rfl g3 ?_
    refine mr_iinc (v := (x6 + 1)) (L1 := [some (.ref 34), some (.int x1), some (.int x2), some (.int x3), none, none, some (.int (x6 + 1)), none, none, none]) C0 dX6_waysBy_207 rfl rfl (Nat.le_of_ble_eq_true rfl) rfl ?_
    refine mr_goto C0 dX6_waysBy_210 (tgt := 187) (by decide) ?_
    exact h zp0 zl0 ze0 zs0 zm0 zargs0 zbelow0 zmeth0 zc0 zD0 zad0 zac0 C0 hr0 hk0
set_option maxRecDepth 100000 in
set_option maxHeartbeats 4000000 in
theorem eX6_layCan (S : St) (Q : St → Prop) (h : V mdX6_layCan 2 [some (.ref 34), some (.int (0 : Int32)), none, none] [] S (qV Q)) : CallV mdX6_layCan [.ref 34] S (qV Q) := by
  refine CallV_of mdX6_layCan plX6_layCan 3 (Nat.le_of_ble_eq_true rfl) rfl ?_
  intro zp0 zl0 ze0 zs0 zm0 zargs0 zbelow0 zmeth0 zc0 zD0 zad0 zac0 C0 hr0 hk0
  refine mr_iconst (v := 0) C0 dX6_layCan_0 (by decide) ?_
  refine mr_istore_n (L1 := [some (.ref 34), some (.int (0 : Int32)), none, none]) C0 dX6_layCan_1 rfl (Nat.le_of_ble_eq_true rfl) rfl ?_
  exact h zp0 zl0 ze0 zs0 zm0 zargs0 zbelow0 zmeth0 zc0 zD0 zad0 zac0 C0 hr0 hk0
set_option maxRecDepth 100000 in
set_option maxHeartbeats 4000000 in
theorem eX6_layCan_2 (x1 : Int32) (S : St) (Q : St → Prop) (h : (((7 : Int32) ≤ x1 → V mdX6_layCan 23 [some (.ref 34), some (.int (0 : Int32)), none, none] [] S (qV Q)) ∧ (¬ (7 : Int32) ≤ x1 → (vp_in x1 7) ∧ V mdX6_layCan 2 [some (.ref 34), some (.int (x1 + 1)), none, none] [] (sI S 44 x1.toNatClampNeg (0 : Int32)) (qV Q)))) : V mdX6_layCan 2 [some (.ref 34), some (.int x1), none, none] [] S (qV Q) := by
  intro zp0 zl0 ze0 zs0 zm0 zargs0 zbelow0 zmeth0 zc0 zD0 zad0 zac0 C0 hr0 hk0
  refine mr_iload_n C0 dX6_layCan_2 rfl (i := 1) rfl ?_
  refine mr_bipush (v := 7) C0 dX6_layCan_3 (by decide) ?_
  refine mr_icmp_ge C0 dX6_layCan_5 (tgt := 21) (by decide) (fun c1 => ?_) (fun c1 => ?_)
  · have h := h.1 c1
    refine mr_iconst (v := 0) C0 dX6_layCan_21 (by decide) ?_
    refine mr_istore_n (L1 := [some (.ref 34), some (.int (0 : Int32)), none, none]) C0 dX6_layCan_22 rfl (Nat.le_of_ble_eq_true rfl) rfl ?_
    exact h zp0 zl0 ze0 zs0 zm0 zargs0 zbelow0 zmeth0 zc0 zD0 zad0 zac0 C0 hr0 hk0
  · have h := h.2 c1
    refine mr_aload_n C0 dX6_layCan_8 rfl (i := 0) rfl ?_
    refine mr_getR C0 dX6_layCan_9 fl_X6_38 (Nat.le_of_ble_eq_true rfl) rfl rfl ?_
    refine mr_iload_n C0 dX6_layCan_12 rfl (i := 1) rfl ?_
    refine mr_iconst (v := 0) C0 dX6_layCan_13 (by decide) ?_
    have g2 := h.1
    have h := h.2
    refine mr_iast C0 dX6_layCan_14 (Nat.le_of_ble_eq_true rfl) rfl g2 ?_
    refine mr_iinc (v := (x1 + 1)) (L1 := [some (.ref 34), some (.int (x1 + 1)), none, none]) C0 dX6_layCan_15 rfl rfl (Nat.le_of_ble_eq_true rfl) rfl ?_
    refine mr_goto C0 dX6_layCan_18 (tgt := 2) (by decide) ?_
    exact h zp0 zl0 ze0 zs0 zm0 zargs0 zbelow0 zmeth0 zc0 zD0 zad0 zac0 C0 hr0 hk0
set_option maxRecDepth 100000 in
set_option maxHeartbeats 4000000 in
theorem eX6_layCan_23 (x1 : Int32) (S : St) (Q : St → Prop) (h : (((S.1 34 11) ≤ x1 → Q S) ∧ (¬ (S.1 34 11) ≤ x1 → (vp_in x1 8) ∧ (vp_in x1 8) ∧ CallV mdX6_layChances [.ref 34, .int (S.1 39 x1.toNatClampNeg), .int (S.1 40 x1.toNatClampNeg)] S (qV fun S4 => V mdX6_layCan 38 [some (.ref 34), some (.int x1), some (.int (0 : Int32)), none] [] S4 (qV Q))))) : V mdX6_layCan 23 [some (.ref 34), some (.int x1), none, none] [] S (qV Q) := by
  intro zp0 zl0 ze0 zs0 zm0 zargs0 zbelow0 zmeth0 zc0 zD0 zad0 zac0 C0 hr0 hk0
  refine mr_iload_n C0 dX6_layCan_23 rfl (i := 1) rfl ?_
  refine mr_aload_n C0 dX6_layCan_24 rfl (i := 0) rfl ?_
  refine mr_getI C0 dX6_layCan_25 fl_X6_138 (Nat.le_of_ble_eq_true rfl) rfl rfl ?_
  refine mr_icmp_ge C0 dX6_layCan_28 (tgt := 107) (by decide) (fun c1 => ?_) (fun c1 => ?_)
  · have h := h.1 c1
    refine mr_vret C0 hr0 hk0 dX6_layCan_107 (qV_mk ?_)
    exact h
  · have h := h.2 c1
    refine mr_aload_n C0 dX6_layCan_31 rfl (i := 0) rfl ?_
    refine mr_iload_n C0 dX6_layCan_32 rfl (i := 1) rfl ?_
    refine mr_callVV C0 mdX6_layVote dX6_layCan_33 clX6_layVote ml_X6_183 (Nat.le_of_ble_eq_true rfl) rfl rfl arX6_layVote (as := [.int x1]) rfl (Nat.le_of_ble_eq_true rfl) (Nat.le_of_ble_eq_true rfl) (Nat.le_of_ble_eq_true rfl) fit0 (CallV_of mdX6_layVote plX6_layVote 0 (Nat.le_of_ble_eq_true rfl) rfl ?_) (fun _ h => h)
    intro zp1 zl1 ze1 zs1 zm1 zargs1 zbelow1 zmeth1 zc1 zD1 zad1 zac1 C1 hr1 hk1
    refine mr_aload_n C1 dX6_layVote_0 rfl (i := 0) rfl ?_
    refine mr_aload_n C1 dX6_layVote_1 rfl (i := 0) rfl ?_
    refine mr_getR C1 dX6_layVote_2 fl_X6_22 (Nat.le_of_ble_eq_true rfl) rfl rfl ?_
    refine mr_iload_n C1 dX6_layVote_5 rfl (i := 1) rfl ?_
    have g2 := h.1
    have h := h.2
    refine mr_iald C1 dX6_layVote_6 (Nat.le_of_ble_eq_true rfl) rfl g2 ?_
    refine mr_aload_n C1 dX6_layVote_7 rfl (i := 0) rfl ?_
    refine mr_getR C1 dX6_layVote_8 fl_X6_25 (Nat.le_of_ble_eq_true rfl) rfl rfl ?_
    refine mr_iload_n C1 dX6_layVote_11 rfl (i := 1) rfl ?_
    have g3 := h.1
    have h := h.2
    refine mr_iald C1 dX6_layVote_12 (Nat.le_of_ble_eq_true rfl) rfl g3 ?_
    refine mr_callVV C1 mdX6_layChances dX6_layVote_13 clX6_layChances ml_X6_179 (Nat.le_of_ble_eq_true rfl) rfl rfl arX6_layChances (as := [.int (S.1 39 x1.toNatClampNeg), .int (S.1 40 x1.toNatClampNeg)]) rfl (Nat.le_of_ble_eq_true rfl) (Nat.le_of_ble_eq_true rfl) (Nat.le_of_ble_eq_true rfl) fit0 h (fun S4 h => ?_)
    refine mr_vret C1 hr1 hk1 dX6_layVote_16 (qV_mk ?_)
    refine mr_iconst (v := 0) C0 dX6_layCan_36 (by decide) ?_
    refine mr_istore_n (L1 := [some (.ref 34), some (.int x1), some (.int (0 : Int32)), none]) C0 dX6_layCan_37 rfl (Nat.le_of_ble_eq_true rfl) rfl ?_
    exact h zp0 zl0 ze0 zs0 zm0 zargs0 zbelow0 zmeth0 zc0 zD0 zad0 zac0 C0 hr0 hk0
set_option maxRecDepth 100000 in
set_option maxHeartbeats 4000000 in
theorem eX6_layCan_38 (x1 : Int32) (x2 : Int32) (S : St) (Q : St → Prop) (h : (((7 : Int32) ≤ x2 → V mdX6_layCan 23 [some (.ref 34), some (.int (x1 + 1)), none, none] [] S (qV Q)) ∧ (¬ (7 : Int32) ≤ x2 → ((x2 < (S.1 34 2) → (vp_in x2 7) ∧ (((S.2 43 x2.toNatClampNeg) ≤ (0 : Int64) → (vp_in x2 7) ∧ (vp_in x2 7) ∧ V mdX6_layCan 38 [some (.ref 34), some (.int x1), some (.int (x2 + 1)), none] [] (sI S 44 x2.toNatClampNeg ((S.1 44 x2.toNatClampNeg) ||| (0 : Int32))) (qV Q)) ∧ (¬ (S.2 43 x2.toNatClampNeg) ≤ (0 : Int64) → (vp_in x2 7) ∧ (vp_in x2 7) ∧ V mdX6_layCan 38 [some (.ref 34), some (.int x1), some (.int (x2 + 1)), none] [] (sI S 44 x2.toNatClampNeg ((S.1 44 x2.toNatClampNeg) ||| ((1 : Int32) <<< (x1 &&& 31)))) (qV Q)))) ∧ (¬ x2 < (S.1 34 2) → ((¬ x2 = (6 : Int32) → (vp_in x2 7) ∧ (vp_in x2 7) ∧ V mdX6_layCan 38 [some (.ref 34), some (.int x1), some (.int (x2 + 1)), none] [] (sI S 44 x2.toNatClampNeg ((S.1 44 x2.toNatClampNeg) ||| (0 : Int32))) (qV Q)) ∧ (x2 = (6 : Int32) → (vp_in x2 7) ∧ (((S.2 43 x2.toNatClampNeg) ≤ (0 : Int64) → (vp_in x2 7) ∧ (vp_in x2 7) ∧ V mdX6_layCan 38 [some (.ref 34), some (.int x1), some (.int (x2 + 1)), none] [] (sI S 44 x2.toNatClampNeg ((S.1 44 x2.toNatClampNeg) ||| (0 : Int32))) (qV Q)) ∧ (¬ (S.2 43 x2.toNatClampNeg) ≤ (0 : Int64) → (vp_in x2 7) ∧ (vp_in x2 7) ∧ V mdX6_layCan 38 [some (.ref 34), some (.int x1), some (.int (x2 + 1)), none] [] (sI S 44 x2.toNatClampNeg ((S.1 44 x2.toNatClampNeg) ||| ((1 : Int32) <<< (x1 &&& 31)))) (qV Q)))))))))) : V mdX6_layCan 38 [some (.ref 34), some (.int x1), some (.int x2), none] [] S (qV Q) := by
  intro zp0 zl0 ze0 zs0 zm0 zargs0 zbelow0 zmeth0 zc0 zD0 zad0 zac0 C0 hr0 hk0
  refine mr_iload_n C0 dX6_layCan_38 rfl (i := 2) rfl ?_
  refine mr_bipush (v := 7) C0 dX6_layCan_39 (by decide) ?_
  refine mr_icmp_ge C0 dX6_layCan_41 (tgt := 101) (by decide) (fun c1 => ?_) (fun c1 => ?_)
  · have h := h.1 c1
    refine mr_iinc (v := (x1 + 1)) (L1 := [some (.ref 34), some (.int (x1 + 1)), some (.int x2), none]) C0 dX6_layCan_101 rfl rfl (Nat.le_of_ble_eq_true rfl) rfl ?_
    refine mr_goto C0 dX6_layCan_104 (tgt := 23) (by decide) ?_
    refine mr_mask (L1 := [some (.ref 34), some (.int (x1 + 1)), none, none]) C0 [true, true, false, false] rfl ?_
    exact h zp0 zl0 ze0 zs0 zm0 zargs0 zbelow0 zmeth0 zc0 zD0 zad0 zac0 C0 hr0 hk0
  · have h := h.2 c1
    refine mr_iload_n C0 dX6_layCan_44 rfl (i := 2) rfl ?_
    refine mr_aload_n C0 dX6_layCan_45 rfl (i := 0) rfl ?_
    refine mr_getI C0 dX6_layCan_46 fl_X6_72 (Nat.le_of_ble_eq_true rfl) rfl rfl ?_
    refine mr_icmp_lt C0 dX6_layCan_49 (tgt := 58) (by decide) (fun c2 => ?_) (fun c2 => ?_)
    · have h := h.1 c2
      refine mr_aload_n C0 dX6_layCan_58 rfl (i := 0) rfl ?_
      refine mr_getR C0 dX6_layCan_59 fl_X6_35 (Nat.le_of_ble_eq_true rfl) rfl rfl ?_
      refine mr_iload_n C0 dX6_layCan_62 rfl (i := 2) rfl ?_
      have g3 := h.1
      have h := h.2
      refine mr_lald C0 dX6_layCan_63 (Nat.le_of_ble_eq_true rfl) rfl g3 ?_
      refine mr_lconst (v := 0) C0 dX6_layCan_64 (by decide) ?_
      refine mr_lcmp_le C0 dX6_layCan_65 dX6_layCan_66 (tgt := 73) (by decide) (fun c4 => ?_) (fun c4 => ?_)
      · have h := h.1 c4
        refine mr_iconst (v := 0) C0 dX6_layCan_73 (by decide) ?_
        refine mr_istore_n (L1 := [some (.ref 34), some (.int x1), some (.int x2), some (.int (0 : Int32))]) C0 dX6_layCan_74 rfl (Nat.le_of_ble_eq_true rfl) rfl ?_
        refine mr_aload_n C0 dX6_layCan_75 rfl (i := 0) rfl ?_
        refine mr_getR C0 dX6_layCan_76 fl_X6_38 (Nat.le_of_ble_eq_true rfl) rfl rfl ?_
        refine mr_iload_n C0 dX6_layCan_79 rfl (i := 2) rfl ?_
        refine mr_dup2 C0 dX6_layCan_80 rfl rfl ?_
        have g5 := h.1
        have h := h.2
        refine mr_iald C0 dX6_layCan_81 (Nat.le_of_ble_eq_true rfl) rfl g5 ?_
        refine mr_iload_n C0 dX6_layCan_82 rfl (i := 3) rfl ?_
        refine mr_if_eq C0 dX6_layCan_83 (tgt := 92) (by decide) (fun _ => ?_) (fun q => absurd q (by decide))
        refine mr_iconst (v := 0) C0 dX6_layCan_92 (by decide) ?_
        refine mr_ior C0 dX6_layCan_93 ?_
        have g6 := h.1
        have h := h.2
        refine mr_iast C0 dX6_layCan_94 (Nat.le_of_ble_eq_true rfl) rfl g6 ?_
        refine mr_iinc (v := (x2 + 1)) (L1 := [some (.ref 34), some (.int x1), some (.int (x2 + 1)), some (.int (0 : Int32))]) C0 dX6_layCan_95 rfl rfl (Nat.le_of_ble_eq_true rfl) rfl ?_
        refine mr_goto C0 dX6_layCan_98 (tgt := 38) (by decide) ?_
        refine mr_mask (L1 := [some (.ref 34), some (.int x1), some (.int (x2 + 1)), none]) C0 [true, true, true, false] rfl ?_
        exact h zp0 zl0 ze0 zs0 zm0 zargs0 zbelow0 zmeth0 zc0 zD0 zad0 zac0 C0 hr0 hk0
      · have h := h.2 c4
        refine mr_iconst (v := 1) C0 dX6_layCan_69 (by decide) ?_
        refine mr_goto C0 dX6_layCan_70 (tgt := 74) (by decide) ?_
        refine mr_istore_n (L1 := [some (.ref 34), some (.int x1), some (.int x2), some (.int (1 : Int32))]) C0 dX6_layCan_74 rfl (Nat.le_of_ble_eq_true rfl) rfl ?_
        refine mr_aload_n C0 dX6_layCan_75 rfl (i := 0) rfl ?_
        refine mr_getR C0 dX6_layCan_76 fl_X6_38 (Nat.le_of_ble_eq_true rfl) rfl rfl ?_
        refine mr_iload_n C0 dX6_layCan_79 rfl (i := 2) rfl ?_
        refine mr_dup2 C0 dX6_layCan_80 rfl rfl ?_
        have g7 := h.1
        have h := h.2
        refine mr_iald C0 dX6_layCan_81 (Nat.le_of_ble_eq_true rfl) rfl g7 ?_
        refine mr_iload_n C0 dX6_layCan_82 rfl (i := 3) rfl ?_
        refine mr_if_eq C0 dX6_layCan_83 (tgt := 92) (by decide) (fun q => absurd q (by decide)) (fun _ => ?_)
        refine mr_iconst (v := 1) C0 dX6_layCan_86 (by decide) ?_
        refine mr_iload_n C0 dX6_layCan_87 rfl (i := 1) rfl ?_
        refine mr_ishl C0 dX6_layCan_88 ?_
        refine mr_goto C0 dX6_layCan_89 (tgt := 93) (by decide) ?_
        refine mr_ior C0 dX6_layCan_93 ?_
        have g8 := h.1
        have h := h.2
        refine mr_iast C0 dX6_layCan_94 (Nat.le_of_ble_eq_true rfl) rfl g8 ?_
        refine mr_iinc (v := (x2 + 1)) (L1 := [some (.ref 34), some (.int x1), some (.int (x2 + 1)), some (.int (1 : Int32))]) C0 dX6_layCan_95 rfl rfl (Nat.le_of_ble_eq_true rfl) rfl ?_
        refine mr_goto C0 dX6_layCan_98 (tgt := 38) (by decide) ?_
        refine mr_mask (L1 := [some (.ref 34), some (.int x1), some (.int (x2 + 1)), none]) C0 [true, true, true, false] rfl ?_
        exact h zp0 zl0 ze0 zs0 zm0 zargs0 zbelow0 zmeth0 zc0 zD0 zad0 zac0 C0 hr0 hk0
    · have h := h.2 c2
      refine mr_iload_n C0 dX6_layCan_52 rfl (i := 2) rfl ?_
      refine mr_bipush (v := 6) C0 dX6_layCan_53 (by decide) ?_
      refine mr_icmp_ne C0 dX6_layCan_55 (tgt := 73) (by decide) (fun c9 => ?_) (fun c9 => ?_)
      · have h := h.1 c9
        refine mr_iconst (v := 0) C0 dX6_layCan_73 (by decide) ?_
        refine mr_istore_n (L1 := [some (.ref 34), some (.int x1), some (.int x2), some (.int (0 : Int32))]) C0 dX6_layCan_74 rfl (Nat.le_of_ble_eq_true rfl) rfl ?_
        refine mr_aload_n C0 dX6_layCan_75 rfl (i := 0) rfl ?_
        refine mr_getR C0 dX6_layCan_76 fl_X6_38 (Nat.le_of_ble_eq_true rfl) rfl rfl ?_
        refine mr_iload_n C0 dX6_layCan_79 rfl (i := 2) rfl ?_
        refine mr_dup2 C0 dX6_layCan_80 rfl rfl ?_
        have g10 := h.1
        have h := h.2
        refine mr_iald C0 dX6_layCan_81 (Nat.le_of_ble_eq_true rfl) rfl g10 ?_
        refine mr_iload_n C0 dX6_layCan_82 rfl (i := 3) rfl ?_
        refine mr_if_eq C0 dX6_layCan_83 (tgt := 92) (by decide) (fun _ => ?_) (fun q => absurd q (by decide))
        refine mr_iconst (v := 0) C0 dX6_layCan_92 (by decide) ?_
        refine mr_ior C0 dX6_layCan_93 ?_
        have g11 := h.1
        have h := h.2
        refine mr_iast C0 dX6_layCan_94 (Nat.le_of_ble_eq_true rfl) rfl g11 ?_
        refine mr_iinc (v := (x2 + 1)) (L1 := [some (.ref 34), some (.int x1), some (.int (x2 + 1)), some (.int (0 : Int32))]) C0 dX6_layCan_95 rfl rfl (Nat.le_of_ble_eq_true rfl) rfl ?_
        refine mr_goto C0 dX6_layCan_98 (tgt := 38) (by decide) ?_
        refine mr_mask (L1 := [some (.ref 34), some (.int x1), some (.int (x2 + 1)), none]) C0 [true, true, true, false] rfl ?_
        exact h zp0 zl0 ze0 zs0 zm0 zargs0 zbelow0 zmeth0 zc0 zD0 zad0 zac0 C0 hr0 hk0
      · have h := h.2 c9
        refine mr_aload_n C0 dX6_layCan_58 rfl (i := 0) rfl ?_
        refine mr_getR C0 dX6_layCan_59 fl_X6_35 (Nat.le_of_ble_eq_true rfl) rfl rfl ?_
        refine mr_iload_n C0 dX6_layCan_62 rfl (i := 2) rfl ?_
        have g12 := h.1
        have h := h.2
        refine mr_lald C0 dX6_layCan_63 (Nat.le_of_ble_eq_true rfl) rfl g12 ?_
        refine mr_lconst (v := 0) C0 dX6_layCan_64 (by decide) ?_
        refine mr_lcmp_le C0 dX6_layCan_65 dX6_layCan_66 (tgt := 73) (by decide) (fun c13 => ?_) (fun c13 => ?_)
        · have h := h.1 c13
          refine mr_iconst (v := 0) C0 dX6_layCan_73 (by decide) ?_
          refine mr_istore_n (L1 := [some (.ref 34), some (.int x1), some (.int x2), some (.int (0 : Int32))]) C0 dX6_layCan_74 rfl (Nat.le_of_ble_eq_true rfl) rfl ?_
          refine mr_aload_n C0 dX6_layCan_75 rfl (i := 0) rfl ?_
          refine mr_getR C0 dX6_layCan_76 fl_X6_38 (Nat.le_of_ble_eq_true rfl) rfl rfl ?_
          refine mr_iload_n C0 dX6_layCan_79 rfl (i := 2) rfl ?_
          refine mr_dup2 C0 dX6_layCan_80 rfl rfl ?_
          have g14 := h.1
          have h := h.2
          refine mr_iald C0 dX6_layCan_81 (Nat.le_of_ble_eq_true rfl) rfl g14 ?_
          refine mr_iload_n C0 dX6_layCan_82 rfl (i := 3) rfl ?_
          refine mr_if_eq C0 dX6_layCan_83 (tgt := 92) (by decide) (fun _ => ?_) (fun q => absurd q (by decide))
          refine mr_iconst (v := 0) C0 dX6_layCan_92 (by decide) ?_
          refine mr_ior C0 dX6_layCan_93 ?_
          have g15 := h.1
          have h := h.2
          refine mr_iast C0 dX6_layCan_94 (Nat.le_of_ble_eq_true rfl) rfl g15 ?_
          refine mr_iinc (v := (x2 + 1)) (L1 := [some (.ref 34), some (.int x1), some (.int (x2 + 1)), some (.int (0 : Int32))]) C0 dX6_layCan_95 rfl rfl (Nat.le_of_ble_eq_true rfl) rfl ?_
          refine mr_goto C0 dX6_layCan_98 (tgt := 38) (by decide) ?_
          refine mr_mask (L1 := [some (.ref 34), some (.int x1), some (.int (x2 + 1)), none]) C0 [true, true, true, false] rfl ?_
          exact h zp0 zl0 ze0 zs0 zm0 zargs0 zbelow0 zmeth0 zc0 zD0 zad0 zac0 C0 hr0 hk0
        · have h := h.2 c13
          refine mr_iconst (v := 1) C0 dX6_layCan_69 (by decide) ?_
          refine mr_goto C0 dX6_layCan_70 (tgt := 74) (by decide) ?_
          refine mr_istore_n (L1 := [some (.ref 34), some (.int x1), some (.int x2), some (.int (1 : Int32))]) C0 dX6_layCan_74 rfl (Nat.le_of_ble_eq_true rfl) rfl ?_
          refine mr_aload_n C0 dX6_layCan_75 rfl (i := 0) rfl ?_
          refine mr_getR C0 dX6_layCan_76 fl_X6_38 (Nat.le_of_ble_eq_true rfl) rfl rfl ?_
          refine mr_iload_n C0 dX6_layCan_79 rfl (i := 2) rfl ?_
          refine mr_dup2 C0 dX6_layCan_80 rfl rfl ?_
          have g16 := h.1
          have h := h.2
          refine mr_iald C0 dX6_layCan_81 (Nat.le_of_ble_eq_true rfl) rfl g16 ?_
          refine mr_iload_n C0 dX6_layCan_82 rfl (i := 3) rfl ?_
          refine mr_if_eq C0 dX6_layCan_83 (tgt := 92) (by decide) (fun q => absurd q (by decide)) (fun _ => ?_)
          refine mr_iconst (v := 1) C0 dX6_layCan_86 (by decide) ?_
          refine mr_iload_n C0 dX6_layCan_87 rfl (i := 1) rfl ?_
          refine mr_ishl C0 dX6_layCan_88 ?_
          refine mr_goto C0 dX6_layCan_89 (tgt := 93) (by decide) ?_
          refine mr_ior C0 dX6_layCan_93 ?_
          have g17 := h.1
          have h := h.2
          refine mr_iast C0 dX6_layCan_94 (Nat.le_of_ble_eq_true rfl) rfl g17 ?_
          refine mr_iinc (v := (x2 + 1)) (L1 := [some (.ref 34), some (.int x1), some (.int (x2 + 1)), some (.int (1 : Int32))]) C0 dX6_layCan_95 rfl rfl (Nat.le_of_ble_eq_true rfl) rfl ?_
          refine mr_goto C0 dX6_layCan_98 (tgt := 38) (by decide) ?_
          refine mr_mask (L1 := [some (.ref 34), some (.int x1), some (.int (x2 + 1)), none]) C0 [true, true, true, false] rfl ?_
          exact h zp0 zl0 ze0 zs0 zm0 zargs0 zbelow0 zmeth0 zc0 zD0 zad0 zac0 C0 hr0 hk0
set_option maxRecDepth 100000 in
set_option maxHeartbeats 4000000 in
theorem eX6_ways (x1 : Int32) (x2 : Int32) (x3 : Int32) (x4 : Int32) (S : St) (Q : Int32 → St → Prop) (h : ((x1 = (-1 : Int32) → ((x2.toInt64 < (0 : Int64) → Q (-1 : Int32) (sI S 34 0 (0 : Int32))) ∧ (¬ x2.toInt64 < (0 : Int64) → (((3 : Int64) < x2.toInt64 → Q (-1 : Int32) (sI S 34 0 (0 : Int32))) ∧ (¬ (3 : Int64) < x2.toInt64 → ((x3.toInt64 < (0 : Int64) → Q (-2 : Int32) (sI S 34 0 (0 : Int32))) ∧ (¬ x3.toInt64 < (0 : Int64) → (((2 : Int64) < x3.toInt64 → Q (-2 : Int32) (sI S 34 0 (0 : Int32))) ∧ (¬ (2 : Int64) < x3.toInt64 → ((¬ (S.1 34 1) = 0 → CallV mdX6_cellsBarred [.ref 34, .int x2, .int x3, .int x4, .long ((S.1 34 2).toInt64 + (1 : Int64))] S (qI fun r8 S7 => ((0 ≤ r8 → CallV mdX6_layCan [.ref 34] S7 (qV fun S10 => ((0 ≤ x1 → V mdX6_ways 114 [some (.ref 34), some (.int x1), some (.int x2), none, some (.int x4), none, some (.int (0 : Int32)), some (.int (0 : Int32)), none] [] S10 (qI Q)) ∧ (¬ 0 ≤ x1 → CallV mdX6_waysBy [.ref 34, .int (((60 : Int32) * x2) + x4)] S10 (qI fun r13 S12 => Q r13 (sI S12 34 0 (0 : Int32))))))) ∧ (¬ 0 ≤ r8 → Q r8 S7)))) ∧ ((S.1 34 1) = 0 → Q (-3 : Int32) (sI S 34 0 (0 : Int32))))))))))))) ∧ (¬ x1 = (-1 : Int32) → ((x1.toInt64 < (0 : Int64) → Q (-1 : Int32) (sI S 34 0 (0 : Int32))) ∧ (¬ x1.toInt64 < (0 : Int64) → ((((S.1 34 11).toInt64 - (1 : Int64)) < x1.toInt64 → Q (-1 : Int32) (sI S 34 0 (0 : Int32))) ∧ (¬ ((S.1 34 11).toInt64 - (1 : Int64)) < x1.toInt64 → ((x2.toInt64 < (0 : Int64) → Q (-1 : Int32) (sI S 34 0 (0 : Int32))) ∧ (¬ x2.toInt64 < (0 : Int64) → (((3 : Int64) < x2.toInt64 → Q (-1 : Int32) (sI S 34 0 (0 : Int32))) ∧ (¬ (3 : Int64) < x2.toInt64 → ((x3.toInt64 < (0 : Int64) → Q (-2 : Int32) (sI S 34 0 (0 : Int32))) ∧ (¬ x3.toInt64 < (0 : Int64) → (((2 : Int64) < x3.toInt64 → Q (-2 : Int32) (sI S 34 0 (0 : Int32))) ∧ (¬ (2 : Int64) < x3.toInt64 → ((¬ (S.1 34 1) = 0 → CallV mdX6_cellsBarred [.ref 34, .int x2, .int x3, .int x4, .long ((S.1 34 2).toInt64 + (1 : Int64))] S (qI fun r22 S21 => ((0 ≤ r22 → CallV mdX6_layCan [.ref 34] S21 (qV fun S24 => ((0 ≤ x1 → V mdX6_ways 114 [some (.ref 34), some (.int x1), some (.int x2), none, some (.int x4), none, some (.int (0 : Int32)), some (.int (0 : Int32)), none] [] S24 (qI Q)) ∧ (¬ 0 ≤ x1 → CallV mdX6_waysBy [.ref 34, .int (((60 : Int32) * x2) + x4)] S24 (qI fun r27 S26 => Q r27 (sI S26 34 0 (0 : Int32))))))) ∧ (¬ 0 ≤ r22 → Q r22 S21)))) ∧ ((S.1 34 1) = 0 → Q (-3 : Int32) (sI S 34 0 (0 : Int32))))))))))))))))))) : CallV mdX6_ways [.ref 34, .int x1, .int x2, .int x3, .int x4] S (qI Q) := by
  refine CallV_of mdX6_ways plX6_ways 4 (Nat.le_of_ble_eq_true rfl) rfl ?_
  intro zp0 zl0 ze0 zs0 zm0 zargs0 zbelow0 zmeth0 zc0 zD0 zad0 zac0 C0 hr0 hk0
  refine mr_iload_n C0 dX6_ways_0 rfl (i := 1) rfl ?_
  refine mr_iconst (v := (-1)) C0 dX6_ways_1 (by decide) ?_
  refine mr_icmp_eq C0 dX6_ways_2 (tgt := 13) (by decide) (fun c1 => ?_) (fun c1 => ?_)
  · have h := h.1 c1
    refine mr_iload_n C0 dX6_ways_13 rfl (i := 2) rfl ?_
    refine mr_callSI C0 mdX6_noSheet dX6_ways_14 clX6_noSheet ml_X6_117 arX6_noSheet (as := [.int x2]) rfl (Nat.le_of_ble_eq_true rfl) (Nat.le_of_ble_eq_true rfl) (Nat.le_of_ble_eq_true rfl) fit0 (CallV_of mdX6_noSheet plX6_noSheet 0 (Nat.le_of_ble_eq_true rfl) rfl ?_) (fun _ _ h => h)
    intro zp1 zl1 ze1 zs1 zm1 zargs1 zbelow1 zmeth1 zc1 zD1 zad1 zac1 C1 hr1 hk1
    refine mr_iload_n C1 dX6_noSheet_0 rfl (i := 0) rfl ?_
    refine mr_i2l C1 dX6_noSheet_1 ?_
    refine mr_lconst (v := 0) C1 dX6_noSheet_2 (by decide) ?_
    refine mr_ldc2 C1 dX6_noSheet_3 cn_X6_83 ?_
    refine mr_callSI C1 mdX6_in dX6_noSheet_6 clX6_in ml_X6_79 arX6_in (as := [.long x2.toInt64, .long (0 : Int64), .long (3 : Int64)]) rfl (Nat.le_of_ble_eq_true rfl) (Nat.le_of_ble_eq_true rfl) (Nat.le_of_ble_eq_true rfl) fit0 (CallV_of mdX6_in plX6_in 0 (Nat.le_of_ble_eq_true rfl) rfl ?_) (fun _ _ h => h)
    intro zp2 zl2 ze2 zs2 zm2 zargs2 zbelow2 zmeth2 zc2 zD2 zad2 zac2 C2 hr2 hk2
    refine mr_lload_n C2 dX6_in_0 rfl (i := 0) rfl ?_
    refine mr_lload_n C2 dX6_in_1 rfl (i := 2) rfl ?_
    refine mr_lcmp_lt C2 dX6_in_2 dX6_in_3 (tgt := 17) (by decide) (fun c2 => ?_) (fun c2 => ?_)
    · have h := h.1 c2
      refine mr_iconst (v := 0) C2 dX6_in_17 (by decide) ?_
      refine mr_zret C2 hr2 hk2 dX6_in_18 rfl (qI_mk ?_)
      refine mr_if_ne C1 dX6_noSheet_9 (tgt := 16) (by decide) (fun q => absurd q (by decide)) (fun _ => ?_)
      refine mr_iconst (v := 1) C1 dX6_noSheet_12 (by decide) ?_
      refine mr_goto C1 dX6_noSheet_13 (tgt := 17) (by decide) ?_
      refine mr_zret C1 hr1 hk1 dX6_noSheet_17 rfl (qI_mk ?_)
      refine mr_if_eq C0 dX6_ways_17 (tgt := 26) (by decide) (fun q => absurd q (by decide)) (fun _ => ?_)
      refine mr_aload_n C0 dX6_ways_20 rfl (i := 0) rfl ?_
      refine mr_iconst (v := (-1)) C0 dX6_ways_21 (by decide) ?_
      refine mr_callVI C0 mdX6_refused dX6_ways_22 clX6_refused ml_X6_121 (Nat.le_of_ble_eq_true rfl) rfl rfl arX6_refused (as := [.int (-1 : Int32)]) rfl (Nat.le_of_ble_eq_true rfl) (Nat.le_of_ble_eq_true rfl) (Nat.le_of_ble_eq_true rfl) fit0 (CallV_of mdX6_refused plX6_refused 0 (Nat.le_of_ble_eq_true rfl) rfl ?_) (fun _ _ h => h)
      intro zp3 zl3 ze3 zs3 zm3 zargs3 zbelow3 zmeth3 zc3 zD3 zad3 zac3 C3 hr3 hk3
      refine mr_aload_n C3 dX6_refused_0 rfl (i := 0) rfl ?_
      refine mr_iconst (v := 0) C3 dX6_refused_1 (by decide) ?_
      refine mr_putI C3 dX6_refused_2 fl_X6_61 (Nat.le_of_ble_eq_true rfl) rfl rfl rfl rfl ?_
      refine mr_iload_n C3 dX6_refused_5 rfl (i := 1) rfl ?_
      refine mr_iret C3 hr3 hk3 dX6_refused_6 (qI_mk ?_)
      refine mr_iret C0 hr0 hk0 dX6_ways_25 (qI_mk ?_)
      exact h
    · have h := h.2 c2
      refine mr_lload_n C2 dX6_in_6 rfl (i := 0) rfl ?_
      refine mr_lload C2 dX6_in_7 rfl ?_
      refine mr_lcmp_gt C2 dX6_in_9 dX6_in_10 (tgt := 17) (by decide) (fun c3 => ?_) (fun c3 => ?_)
      · have h := h.1 c3
        refine mr_iconst (v := 0) C2 dX6_in_17 (by decide) ?_
        refine mr_zret C2 hr2 hk2 dX6_in_18 rfl (qI_mk ?_)
        refine mr_if_ne C1 dX6_noSheet_9 (tgt := 16) (by decide) (fun q => absurd q (by decide)) (fun _ => ?_)
        refine mr_iconst (v := 1) C1 dX6_noSheet_12 (by decide) ?_
        refine mr_goto C1 dX6_noSheet_13 (tgt := 17) (by decide) ?_
        refine mr_zret C1 hr1 hk1 dX6_noSheet_17 rfl (qI_mk ?_)
        refine mr_if_eq C0 dX6_ways_17 (tgt := 26) (by decide) (fun q => absurd q (by decide)) (fun _ => ?_)
        refine mr_aload_n C0 dX6_ways_20 rfl (i := 0) rfl ?_
        refine mr_iconst (v := (-1)) C0 dX6_ways_21 (by decide) ?_
        refine mr_callVI C0 mdX6_refused dX6_ways_22 clX6_refused ml_X6_121 (Nat.le_of_ble_eq_true rfl) rfl rfl arX6_refused (as := [.int (-1 : Int32)]) rfl (Nat.le_of_ble_eq_true rfl) (Nat.le_of_ble_eq_true rfl) (Nat.le_of_ble_eq_true rfl) fit0 (CallV_of mdX6_refused plX6_refused 0 (Nat.le_of_ble_eq_true rfl) rfl ?_) (fun _ _ h => h)
        intro zp4 zl4 ze4 zs4 zm4 zargs4 zbelow4 zmeth4 zc4 zD4 zad4 zac4 C4 hr4 hk4
        refine mr_aload_n C4 dX6_refused_0 rfl (i := 0) rfl ?_
        refine mr_iconst (v := 0) C4 dX6_refused_1 (by decide) ?_
        refine mr_putI C4 dX6_refused_2 fl_X6_61 (Nat.le_of_ble_eq_true rfl) rfl rfl rfl rfl ?_
        refine mr_iload_n C4 dX6_refused_5 rfl (i := 1) rfl ?_
        refine mr_iret C4 hr4 hk4 dX6_refused_6 (qI_mk ?_)
        refine mr_iret C0 hr0 hk0 dX6_ways_25 (qI_mk ?_)
        exact h
      · have h := h.2 c3
        refine mr_iconst (v := 1) C2 dX6_in_13 (by decide) ?_
        refine mr_goto C2 dX6_in_14 (tgt := 18) (by decide) ?_
        refine mr_zret C2 hr2 hk2 dX6_in_18 rfl (qI_mk ?_)
        refine mr_if_ne C1 dX6_noSheet_9 (tgt := 16) (by decide) (fun _ => ?_) (fun q => absurd q (by decide))
        refine mr_iconst (v := 0) C1 dX6_noSheet_16 (by decide) ?_
        refine mr_zret C1 hr1 hk1 dX6_noSheet_17 rfl (qI_mk ?_)
        refine mr_if_eq C0 dX6_ways_17 (tgt := 26) (by decide) (fun _ => ?_) (fun q => absurd q (by decide))
        refine mr_iload_n C0 dX6_ways_26 rfl (i := 3) rfl ?_
        refine mr_i2l C0 dX6_ways_27 ?_
        refine mr_lconst (v := 0) C0 dX6_ways_28 (by decide) ?_
        refine mr_ldc2 C0 dX6_ways_29 cn_X6_124 ?_
        refine mr_callSI C0 mdX6_in dX6_ways_32 clX6_in ml_X6_79 arX6_in (as := [.long x3.toInt64, .long (0 : Int64), .long (2 : Int64)]) rfl (Nat.le_of_ble_eq_true rfl) (Nat.le_of_ble_eq_true rfl) (Nat.le_of_ble_eq_true rfl) fit0 (CallV_of mdX6_in plX6_in 0 (Nat.le_of_ble_eq_true rfl) rfl ?_) (fun _ _ h => h)
        intro zp5 zl5 ze5 zs5 zm5 zargs5 zbelow5 zmeth5 zc5 zD5 zad5 zac5 C5 hr5 hk5
        refine mr_lload_n C5 dX6_in_0 rfl (i := 0) rfl ?_
        refine mr_lload_n C5 dX6_in_1 rfl (i := 2) rfl ?_
        refine mr_lcmp_lt C5 dX6_in_2 dX6_in_3 (tgt := 17) (by decide) (fun c4 => ?_) (fun c4 => ?_)
        · have h := h.1 c4
          refine mr_iconst (v := 0) C5 dX6_in_17 (by decide) ?_
          refine mr_zret C5 hr5 hk5 dX6_in_18 rfl (qI_mk ?_)
          refine mr_if_ne C0 dX6_ways_35 (tgt := 45) (by decide) (fun q => absurd q (by decide)) (fun _ => ?_)
          refine mr_aload_n C0 dX6_ways_38 rfl (i := 0) rfl ?_
          refine mr_bipush (v := (-2)) C0 dX6_ways_39 (by decide) ?_
          refine mr_callVI C0 mdX6_refused dX6_ways_41 clX6_refused ml_X6_121 (Nat.le_of_ble_eq_true rfl) rfl rfl arX6_refused (as := [.int (-2 : Int32)]) rfl (Nat.le_of_ble_eq_true rfl) (Nat.le_of_ble_eq_true rfl) (Nat.le_of_ble_eq_true rfl) fit0 (CallV_of mdX6_refused plX6_refused 0 (Nat.le_of_ble_eq_true rfl) rfl ?_) (fun _ _ h => h)
          intro zp6 zl6 ze6 zs6 zm6 zargs6 zbelow6 zmeth6 zc6 zD6 zad6 zac6 C6 hr6 hk6
          refine mr_aload_n C6 dX6_refused_0 rfl (i := 0) rfl ?_
          refine mr_iconst (v := 0) C6 dX6_refused_1 (by decide) ?_
          refine mr_putI C6 dX6_refused_2 fl_X6_61 (Nat.le_of_ble_eq_true rfl) rfl rfl rfl rfl ?_
          refine mr_iload_n C6 dX6_refused_5 rfl (i := 1) rfl ?_
          refine mr_iret C6 hr6 hk6 dX6_refused_6 (qI_mk ?_)
          refine mr_iret C0 hr0 hk0 dX6_ways_44 (qI_mk ?_)
          exact h
        · have h := h.2 c4
          refine mr_lload_n C5 dX6_in_6 rfl (i := 0) rfl ?_
          refine mr_lload C5 dX6_in_7 rfl ?_
          refine mr_lcmp_gt C5 dX6_in_9 dX6_in_10 (tgt := 17) (by decide) (fun c5 => ?_) (fun c5 => ?_)
          · have h := h.1 c5
            refine mr_iconst (v := 0) C5 dX6_in_17 (by decide) ?_
            refine mr_zret C5 hr5 hk5 dX6_in_18 rfl (qI_mk ?_)
            refine mr_if_ne C0 dX6_ways_35 (tgt := 45) (by decide) (fun q => absurd q (by decide)) (fun _ => ?_)
            refine mr_aload_n C0 dX6_ways_38 rfl (i := 0) rfl ?_
            refine mr_bipush (v := (-2)) C0 dX6_ways_39 (by decide) ?_
            refine mr_callVI C0 mdX6_refused dX6_ways_41 clX6_refused ml_X6_121 (Nat.le_of_ble_eq_true rfl) rfl rfl arX6_refused (as := [.int (-2 : Int32)]) rfl (Nat.le_of_ble_eq_true rfl) (Nat.le_of_ble_eq_true rfl) (Nat.le_of_ble_eq_true rfl) fit0 (CallV_of mdX6_refused plX6_refused 0 (Nat.le_of_ble_eq_true rfl) rfl ?_) (fun _ _ h => h)
            intro zp7 zl7 ze7 zs7 zm7 zargs7 zbelow7 zmeth7 zc7 zD7 zad7 zac7 C7 hr7 hk7
            refine mr_aload_n C7 dX6_refused_0 rfl (i := 0) rfl ?_
            refine mr_iconst (v := 0) C7 dX6_refused_1 (by decide) ?_
            refine mr_putI C7 dX6_refused_2 fl_X6_61 (Nat.le_of_ble_eq_true rfl) rfl rfl rfl rfl ?_
            refine mr_iload_n C7 dX6_refused_5 rfl (i := 1) rfl ?_
            refine mr_iret C7 hr7 hk7 dX6_refused_6 (qI_mk ?_)
            refine mr_iret C0 hr0 hk0 dX6_ways_44 (qI_mk ?_)
            exact h
          · have h := h.2 c5
            refine mr_iconst (v := 1) C5 dX6_in_13 (by decide) ?_
            refine mr_goto C5 dX6_in_14 (tgt := 18) (by decide) ?_
            refine mr_zret C5 hr5 hk5 dX6_in_18 rfl (qI_mk ?_)
            refine mr_if_ne C0 dX6_ways_35 (tgt := 45) (by decide) (fun _ => ?_) (fun q => absurd q (by decide))
            refine mr_aload_n C0 dX6_ways_45 rfl (i := 0) rfl ?_
            refine mr_getI C0 dX6_ways_46 fl_X6_69 (Nat.le_of_ble_eq_true rfl) rfl rfl ?_
            refine mr_if_ne C0 dX6_ways_49 (tgt := 59) (by decide) (fun c6 => ?_) (fun c6 => ?_)
            · have h := h.1 c6
              refine mr_aload_n C0 dX6_ways_59 rfl (i := 0) rfl ?_
              refine mr_iload_n C0 dX6_ways_60 rfl (i := 2) rfl ?_
              refine mr_iload_n C0 dX6_ways_61 rfl (i := 3) rfl ?_
              refine mr_iload C0 dX6_ways_62 rfl ?_
              refine mr_aload_n C0 dX6_ways_64 rfl (i := 0) rfl ?_
              refine mr_getI C0 dX6_ways_65 fl_X6_72 (Nat.le_of_ble_eq_true rfl) rfl rfl ?_
              refine mr_i2l C0 dX6_ways_68 ?_
              refine mr_lconst (v := 1) C0 dX6_ways_69 (by decide) ?_
              refine mr_ladd C0 dX6_ways_70 ?_
              refine mr_callVI C0 mdX6_cellsBarred dX6_ways_71 clX6_cellsBarred ml_X6_126 (Nat.le_of_ble_eq_true rfl) rfl rfl arX6_cellsBarred (as := [.int x2, .int x3, .int x4, .long ((S.1 34 2).toInt64 + (1 : Int64))]) rfl (Nat.le_of_ble_eq_true rfl) (Nat.le_of_ble_eq_true rfl) (Nat.le_of_ble_eq_true rfl) fit0 h (fun r8 S7 h => ?_)
              refine mr_istore (L1 := [some (.ref 34), some (.int x1), some (.int x2), some (.int x3), some (.int x4), some (.int r8), none, none, none]) C0 dX6_ways_74 (Nat.le_of_ble_eq_true rfl) rfl ?_
              refine mr_iload C0 dX6_ways_76 rfl ?_
              refine mr_if_ge C0 dX6_ways_78 (tgt := 84) (by decide) (fun c9 => ?_) (fun c9 => ?_)
              · have h := h.1 c9
                refine mr_aload_n C0 dX6_ways_84 rfl (i := 0) rfl ?_
                refine mr_callVV C0 mdX6_layCan dX6_ways_85 clX6_layCan ml_X6_225 (Nat.le_of_ble_eq_true rfl) rfl rfl arX6_layCan (as := []) rfl (Nat.le_of_ble_eq_true rfl) (Nat.le_of_ble_eq_true rfl) (Nat.le_of_ble_eq_true rfl) fit0 h (fun S10 h => ?_)
                refine mr_iload_n C0 dX6_ways_88 rfl (i := 1) rfl ?_
                refine mr_if_ge C0 dX6_ways_89 (tgt := 108) (by decide) (fun c11 => ?_) (fun c11 => ?_)
                · have h := h.1 c11
                  refine mr_iconst (v := 0) C0 dX6_ways_108 (by decide) ?_
                  refine mr_istore (L1 := [some (.ref 34), some (.int x1), some (.int x2), some (.int x3), some (.int x4), some (.int r8), some (.int (0 : Int32)), none, none]) C0 dX6_ways_109 (Nat.le_of_ble_eq_true rfl) rfl ?_
                  refine mr_iconst (v := 0) C0 dX6_ways_111 (by decide) ?_
                  refine mr_istore (L1 := [some (.ref 34), some (.int x1), some (.int x2), some (.int x3), some (.int x4), some (.int r8), some (.int (0 : Int32)), some (.int (0 : Int32)), none]) C0 dX6_ways_112 (Nat.le_of_ble_eq_true rfl) rfl ?_
                  refine mr_mask (L1 := [some (.ref 34), some (.int x1), some (.int x2), none, some (.int x4), none, some (.int (0 : Int32)), some (.int (0 : Int32)), none]) C0 [true, true, true, false, true, false, true, true, false] rfl ?_
                  exact h zp0 zl0 ze0 zs0 zm0 zargs0 zbelow0 zmeth0 zc0 zD0 zad0 zac0 C0 hr0 hk0
                · have h := h.2 c11
                  refine mr_aload_n C0 dX6_ways_92 rfl (i := 0) rfl ?_
                  refine mr_aload_n C0 dX6_ways_93 rfl (i := 0) rfl ?_
                  refine mr_bipush (v := 60) C0 dX6_ways_94 (by decide) ?_
                  refine mr_iload_n C0 dX6_ways_96 rfl (i := 2) rfl ?_
                  refine mr_imul C0 dX6_ways_97 ?_
                  refine mr_iload C0 dX6_ways_98 rfl ?_
                  refine mr_iadd C0 dX6_ways_100 ?_
                  refine mr_callVI C0 mdX6_waysBy dX6_ways_101 clX6_waysBy ml_X6_228 (Nat.le_of_ble_eq_true rfl) rfl rfl arX6_waysBy (as := [.int (((60 : Int32) * x2) + x4)]) rfl (Nat.le_of_ble_eq_true rfl) (Nat.le_of_ble_eq_true rfl) (Nat.le_of_ble_eq_true rfl) fit0 h (fun r13 S12 h => ?_)
                  refine mr_callVI C0 mdX6_refused dX6_ways_104 clX6_refused ml_X6_121 (Nat.le_of_ble_eq_true rfl) rfl rfl arX6_refused (as := [.int r13]) rfl (Nat.le_of_ble_eq_true rfl) (Nat.le_of_ble_eq_true rfl) (Nat.le_of_ble_eq_true rfl) fit0 (CallV_of mdX6_refused plX6_refused 0 (Nat.le_of_ble_eq_true rfl) rfl ?_) (fun _ _ h => h)
                  intro zp8 zl8 ze8 zs8 zm8 zargs8 zbelow8 zmeth8 zc8 zD8 zad8 zac8 C8 hr8 hk8
                  refine mr_aload_n C8 dX6_refused_0 rfl (i := 0) rfl ?_
                  refine mr_iconst (v := 0) C8 dX6_refused_1 (by decide) ?_
                  refine mr_putI C8 dX6_refused_2 fl_X6_61 (Nat.le_of_ble_eq_true rfl) rfl rfl rfl rfl ?_
                  refine mr_iload_n C8 dX6_refused_5 rfl (i := 1) rfl ?_
                  refine mr_iret C8 hr8 hk8 dX6_refused_6 (qI_mk ?_)
                  refine mr_iret C0 hr0 hk0 dX6_ways_107 (qI_mk ?_)
                  exact h
              · have h := h.2 c9
                refine mr_iload C0 dX6_ways_81 rfl ?_
                refine mr_iret C0 hr0 hk0 dX6_ways_83 (qI_mk ?_)
                exact h
            · have h := h.2 c6
              refine mr_aload_n C0 dX6_ways_52 rfl (i := 0) rfl ?_
              refine mr_bipush (v := (-3)) C0 dX6_ways_53 (by decide) ?_
              refine mr_callVI C0 mdX6_refused dX6_ways_55 clX6_refused ml_X6_121 (Nat.le_of_ble_eq_true rfl) rfl rfl arX6_refused (as := [.int (-3 : Int32)]) rfl (Nat.le_of_ble_eq_true rfl) (Nat.le_of_ble_eq_true rfl) (Nat.le_of_ble_eq_true rfl) fit0 (CallV_of mdX6_refused plX6_refused 0 (Nat.le_of_ble_eq_true rfl) rfl ?_) (fun _ _ h => h)
              intro zp9 zl9 ze9 zs9 zm9 zargs9 zbelow9 zmeth9 zc9 zD9 zad9 zac9 C9 hr9 hk9
              refine mr_aload_n C9 dX6_refused_0 rfl (i := 0) rfl ?_
              refine mr_iconst (v := 0) C9 dX6_refused_1 (by decide) ?_
              refine mr_putI C9 dX6_refused_2 fl_X6_61 (Nat.le_of_ble_eq_true rfl) rfl rfl rfl rfl ?_
              refine mr_iload_n C9 dX6_refused_5 rfl (i := 1) rfl ?_
              refine mr_iret C9 hr9 hk9 dX6_refused_6 (qI_mk ?_)
              refine mr_iret C0 hr0 hk0 dX6_ways_58 (qI_mk ?_)
              exact h
  · have h := h.2 c1
    refine mr_aload_n C0 dX6_ways_5 rfl (i := 0) rfl ?_
    refine mr_iload_n C0 dX6_ways_6 rfl (i := 1) rfl ?_
    refine mr_callVI C0 mdX6_noVote dX6_ways_7 clX6_noVote ml_X6_149 (Nat.le_of_ble_eq_true rfl) rfl rfl arX6_noVote (as := [.int x1]) rfl (Nat.le_of_ble_eq_true rfl) (Nat.le_of_ble_eq_true rfl) (Nat.le_of_ble_eq_true rfl) fit0 (CallV_of mdX6_noVote plX6_noVote 0 (Nat.le_of_ble_eq_true rfl) rfl ?_) (fun _ _ h => h)
    intro zp10 zl10 ze10 zs10 zm10 zargs10 zbelow10 zmeth10 zc10 zD10 zad10 zac10 C10 hr10 hk10
    refine mr_iload_n C10 dX6_noVote_0 rfl (i := 1) rfl ?_
    refine mr_i2l C10 dX6_noVote_1 ?_
    refine mr_lconst (v := 0) C10 dX6_noVote_2 (by decide) ?_
    refine mr_aload_n C10 dX6_noVote_3 rfl (i := 0) rfl ?_
    refine mr_getI C10 dX6_noVote_4 fl_X6_138 (Nat.le_of_ble_eq_true rfl) rfl rfl ?_
    refine mr_i2l C10 dX6_noVote_7 ?_
    refine mr_lconst (v := 1) C10 dX6_noVote_8 (by decide) ?_
    refine mr_lsub C10 dX6_noVote_9 ?_
    refine mr_callSI C10 mdX6_in dX6_noVote_10 clX6_in ml_X6_79 arX6_in (as := [.long x1.toInt64, .long (0 : Int64), .long ((S.1 34 11).toInt64 - (1 : Int64))]) rfl (Nat.le_of_ble_eq_true rfl) (Nat.le_of_ble_eq_true rfl) (Nat.le_of_ble_eq_true rfl) fit0 (CallV_of mdX6_in plX6_in 0 (Nat.le_of_ble_eq_true rfl) rfl ?_) (fun _ _ h => h)
    intro zp11 zl11 ze11 zs11 zm11 zargs11 zbelow11 zmeth11 zc11 zD11 zad11 zac11 C11 hr11 hk11
    refine mr_lload_n C11 dX6_in_0 rfl (i := 0) rfl ?_
    refine mr_lload_n C11 dX6_in_1 rfl (i := 2) rfl ?_
    refine mr_lcmp_lt C11 dX6_in_2 dX6_in_3 (tgt := 17) (by decide) (fun c14 => ?_) (fun c14 => ?_)
    · have h := h.1 c14
      refine mr_iconst (v := 0) C11 dX6_in_17 (by decide) ?_
      refine mr_zret C11 hr11 hk11 dX6_in_18 rfl (qI_mk ?_)
      refine mr_if_ne C10 dX6_noVote_13 (tgt := 20) (by decide) (fun q => absurd q (by decide)) (fun _ => ?_)
      refine mr_iconst (v := 1) C10 dX6_noVote_16 (by decide) ?_
      refine mr_goto C10 dX6_noVote_17 (tgt := 21) (by decide) ?_
      refine mr_zret C10 hr10 hk10 dX6_noVote_21 rfl (qI_mk ?_)
      refine mr_if_ne C0 dX6_ways_10 (tgt := 20) (by decide) (fun _ => ?_) (fun q => absurd q (by decide))
      refine mr_aload_n C0 dX6_ways_20 rfl (i := 0) rfl ?_
      refine mr_iconst (v := (-1)) C0 dX6_ways_21 (by decide) ?_
      refine mr_callVI C0 mdX6_refused dX6_ways_22 clX6_refused ml_X6_121 (Nat.le_of_ble_eq_true rfl) rfl rfl arX6_refused (as := [.int (-1 : Int32)]) rfl (Nat.le_of_ble_eq_true rfl) (Nat.le_of_ble_eq_true rfl) (Nat.le_of_ble_eq_true rfl) fit0 (CallV_of mdX6_refused plX6_refused 0 (Nat.le_of_ble_eq_true rfl) rfl ?_) (fun _ _ h => h)
      intro zp12 zl12 ze12 zs12 zm12 zargs12 zbelow12 zmeth12 zc12 zD12 zad12 zac12 C12 hr12 hk12
      refine mr_aload_n C12 dX6_refused_0 rfl (i := 0) rfl ?_
      refine mr_iconst (v := 0) C12 dX6_refused_1 (by decide) ?_
      refine mr_putI C12 dX6_refused_2 fl_X6_61 (Nat.le_of_ble_eq_true rfl) rfl rfl rfl rfl ?_
      refine mr_iload_n C12 dX6_refused_5 rfl (i := 1) rfl ?_
      refine mr_iret C12 hr12 hk12 dX6_refused_6 (qI_mk ?_)
      refine mr_iret C0 hr0 hk0 dX6_ways_25 (qI_mk ?_)
      exact h
    · have h := h.2 c14
      refine mr_lload_n C11 dX6_in_6 rfl (i := 0) rfl ?_
      refine mr_lload C11 dX6_in_7 rfl ?_
      refine mr_lcmp_gt C11 dX6_in_9 dX6_in_10 (tgt := 17) (by decide) (fun c15 => ?_) (fun c15 => ?_)
      · have h := h.1 c15
        refine mr_iconst (v := 0) C11 dX6_in_17 (by decide) ?_
        refine mr_zret C11 hr11 hk11 dX6_in_18 rfl (qI_mk ?_)
        refine mr_if_ne C10 dX6_noVote_13 (tgt := 20) (by decide) (fun q => absurd q (by decide)) (fun _ => ?_)
        refine mr_iconst (v := 1) C10 dX6_noVote_16 (by decide) ?_
        refine mr_goto C10 dX6_noVote_17 (tgt := 21) (by decide) ?_
        refine mr_zret C10 hr10 hk10 dX6_noVote_21 rfl (qI_mk ?_)
        refine mr_if_ne C0 dX6_ways_10 (tgt := 20) (by decide) (fun _ => ?_) (fun q => absurd q (by decide))
        refine mr_aload_n C0 dX6_ways_20 rfl (i := 0) rfl ?_
        refine mr_iconst (v := (-1)) C0 dX6_ways_21 (by decide) ?_
        refine mr_callVI C0 mdX6_refused dX6_ways_22 clX6_refused ml_X6_121 (Nat.le_of_ble_eq_true rfl) rfl rfl arX6_refused (as := [.int (-1 : Int32)]) rfl (Nat.le_of_ble_eq_true rfl) (Nat.le_of_ble_eq_true rfl) (Nat.le_of_ble_eq_true rfl) fit0 (CallV_of mdX6_refused plX6_refused 0 (Nat.le_of_ble_eq_true rfl) rfl ?_) (fun _ _ h => h)
        intro zp13 zl13 ze13 zs13 zm13 zargs13 zbelow13 zmeth13 zc13 zD13 zad13 zac13 C13 hr13 hk13
        refine mr_aload_n C13 dX6_refused_0 rfl (i := 0) rfl ?_
        refine mr_iconst (v := 0) C13 dX6_refused_1 (by decide) ?_
        refine mr_putI C13 dX6_refused_2 fl_X6_61 (Nat.le_of_ble_eq_true rfl) rfl rfl rfl rfl ?_
        refine mr_iload_n C13 dX6_refused_5 rfl (i := 1) rfl ?_
        refine mr_iret C13 hr13 hk13 dX6_refused_6 (qI_mk ?_)
        refine mr_iret C0 hr0 hk0 dX6_ways_25 (qI_mk ?_)
        exact h
      · have h := h.2 c15
        refine mr_iconst (v := 1) C11 dX6_in_13 (by decide) ?_
        refine mr_goto C11 dX6_in_14 (tgt := 18) (by decide) ?_
        refine mr_zret C11 hr11 hk11 dX6_in_18 rfl (qI_mk ?_)
        refine mr_if_ne C10 dX6_noVote_13 (tgt := 20) (by decide) (fun _ => ?_) (fun q => absurd q (by decide))
        refine mr_iconst (v := 0) C10 dX6_noVote_20 (by decide) ?_
        refine mr_zret C10 hr10 hk10 dX6_noVote_21 rfl (qI_mk ?_)
        refine mr_if_ne C0 dX6_ways_10 (tgt := 20) (by decide) (fun q => absurd q (by decide)) (fun _ => ?_)
        refine mr_iload_n C0 dX6_ways_13 rfl (i := 2) rfl ?_
        refine mr_callSI C0 mdX6_noSheet dX6_ways_14 clX6_noSheet ml_X6_117 arX6_noSheet (as := [.int x2]) rfl (Nat.le_of_ble_eq_true rfl) (Nat.le_of_ble_eq_true rfl) (Nat.le_of_ble_eq_true rfl) fit0 (CallV_of mdX6_noSheet plX6_noSheet 0 (Nat.le_of_ble_eq_true rfl) rfl ?_) (fun _ _ h => h)
        intro zp14 zl14 ze14 zs14 zm14 zargs14 zbelow14 zmeth14 zc14 zD14 zad14 zac14 C14 hr14 hk14
        refine mr_iload_n C14 dX6_noSheet_0 rfl (i := 0) rfl ?_
        refine mr_i2l C14 dX6_noSheet_1 ?_
        refine mr_lconst (v := 0) C14 dX6_noSheet_2 (by decide) ?_
        refine mr_ldc2 C14 dX6_noSheet_3 cn_X6_83 ?_
        refine mr_callSI C14 mdX6_in dX6_noSheet_6 clX6_in ml_X6_79 arX6_in (as := [.long x2.toInt64, .long (0 : Int64), .long (3 : Int64)]) rfl (Nat.le_of_ble_eq_true rfl) (Nat.le_of_ble_eq_true rfl) (Nat.le_of_ble_eq_true rfl) fit0 (CallV_of mdX6_in plX6_in 0 (Nat.le_of_ble_eq_true rfl) rfl ?_) (fun _ _ h => h)
        intro zp15 zl15 ze15 zs15 zm15 zargs15 zbelow15 zmeth15 zc15 zD15 zad15 zac15 C15 hr15 hk15
        refine mr_lload_n C15 dX6_in_0 rfl (i := 0) rfl ?_
        refine mr_lload_n C15 dX6_in_1 rfl (i := 2) rfl ?_
        refine mr_lcmp_lt C15 dX6_in_2 dX6_in_3 (tgt := 17) (by decide) (fun c16 => ?_) (fun c16 => ?_)
        · have h := h.1 c16
          refine mr_iconst (v := 0) C15 dX6_in_17 (by decide) ?_
          refine mr_zret C15 hr15 hk15 dX6_in_18 rfl (qI_mk ?_)
          refine mr_if_ne C14 dX6_noSheet_9 (tgt := 16) (by decide) (fun q => absurd q (by decide)) (fun _ => ?_)
          refine mr_iconst (v := 1) C14 dX6_noSheet_12 (by decide) ?_
          refine mr_goto C14 dX6_noSheet_13 (tgt := 17) (by decide) ?_
          refine mr_zret C14 hr14 hk14 dX6_noSheet_17 rfl (qI_mk ?_)
          refine mr_if_eq C0 dX6_ways_17 (tgt := 26) (by decide) (fun q => absurd q (by decide)) (fun _ => ?_)
          refine mr_aload_n C0 dX6_ways_20 rfl (i := 0) rfl ?_
          refine mr_iconst (v := (-1)) C0 dX6_ways_21 (by decide) ?_
          refine mr_callVI C0 mdX6_refused dX6_ways_22 clX6_refused ml_X6_121 (Nat.le_of_ble_eq_true rfl) rfl rfl arX6_refused (as := [.int (-1 : Int32)]) rfl (Nat.le_of_ble_eq_true rfl) (Nat.le_of_ble_eq_true rfl) (Nat.le_of_ble_eq_true rfl) fit0 (CallV_of mdX6_refused plX6_refused 0 (Nat.le_of_ble_eq_true rfl) rfl ?_) (fun _ _ h => h)
          intro zp16 zl16 ze16 zs16 zm16 zargs16 zbelow16 zmeth16 zc16 zD16 zad16 zac16 C16 hr16 hk16
          refine mr_aload_n C16 dX6_refused_0 rfl (i := 0) rfl ?_
          refine mr_iconst (v := 0) C16 dX6_refused_1 (by decide) ?_
          refine mr_putI C16 dX6_refused_2 fl_X6_61 (Nat.le_of_ble_eq_true rfl) rfl rfl rfl rfl ?_
          refine mr_iload_n C16 dX6_refused_5 rfl (i := 1) rfl ?_
          refine mr_iret C16 hr16 hk16 dX6_refused_6 (qI_mk ?_)
          refine mr_iret C0 hr0 hk0 dX6_ways_25 (qI_mk ?_)
          exact h
        · have h := h.2 c16
          refine mr_lload_n C15 dX6_in_6 rfl (i := 0) rfl ?_
          refine mr_lload C15 dX6_in_7 rfl ?_
          refine mr_lcmp_gt C15 dX6_in_9 dX6_in_10 (tgt := 17) (by decide) (fun c17 => ?_) (fun c17 => ?_)
          · have h := h.1 c17
            refine mr_iconst (v := 0) C15 dX6_in_17 (by decide) ?_
            refine mr_zret C15 hr15 hk15 dX6_in_18 rfl (qI_mk ?_)
            refine mr_if_ne C14 dX6_noSheet_9 (tgt := 16) (by decide) (fun q => absurd q (by decide)) (fun _ => ?_)
            refine mr_iconst (v := 1) C14 dX6_noSheet_12 (by decide) ?_
            refine mr_goto C14 dX6_noSheet_13 (tgt := 17) (by decide) ?_
            refine mr_zret C14 hr14 hk14 dX6_noSheet_17 rfl (qI_mk ?_)
            refine mr_if_eq C0 dX6_ways_17 (tgt := 26) (by decide) (fun q => absurd q (by decide)) (fun _ => ?_)
            refine mr_aload_n C0 dX6_ways_20 rfl (i := 0) rfl ?_
            refine mr_iconst (v := (-1)) C0 dX6_ways_21 (by decide) ?_
            refine mr_callVI C0 mdX6_refused dX6_ways_22 clX6_refused ml_X6_121 (Nat.le_of_ble_eq_true rfl) rfl rfl arX6_refused (as := [.int (-1 : Int32)]) rfl (Nat.le_of_ble_eq_true rfl) (Nat.le_of_ble_eq_true rfl) (Nat.le_of_ble_eq_true rfl) fit0 (CallV_of mdX6_refused plX6_refused 0 (Nat.le_of_ble_eq_true rfl) rfl ?_) (fun _ _ h => h)
            intro zp17 zl17 ze17 zs17 zm17 zargs17 zbelow17 zmeth17 zc17 zD17 zad17 zac17 C17 hr17 hk17
            refine mr_aload_n C17 dX6_refused_0 rfl (i := 0) rfl ?_
            refine mr_iconst (v := 0) C17 dX6_refused_1 (by decide) ?_
            refine mr_putI C17 dX6_refused_2 fl_X6_61 (Nat.le_of_ble_eq_true rfl) rfl rfl rfl rfl ?_
            refine mr_iload_n C17 dX6_refused_5 rfl (i := 1) rfl ?_
            refine mr_iret C17 hr17 hk17 dX6_refused_6 (qI_mk ?_)
            refine mr_iret C0 hr0 hk0 dX6_ways_25 (qI_mk ?_)
            exact h
          · have h := h.2 c17
            refine mr_iconst (v := 1) C15 dX6_in_13 (by decide) ?_
            refine mr_goto C15 dX6_in_14 (tgt := 18) (by decide) ?_
            refine mr_zret C15 hr15 hk15 dX6_in_18 rfl (qI_mk ?_)
            refine mr_if_ne C14 dX6_noSheet_9 (tgt := 16) (by decide) (fun _ => ?_) (fun q => absurd q (by decide))
            refine mr_iconst (v := 0) C14 dX6_noSheet_16 (by decide) ?_
            refine mr_zret C14 hr14 hk14 dX6_noSheet_17 rfl (qI_mk ?_)
            refine mr_if_eq C0 dX6_ways_17 (tgt := 26) (by decide) (fun _ => ?_) (fun q => absurd q (by decide))
            refine mr_iload_n C0 dX6_ways_26 rfl (i := 3) rfl ?_
            refine mr_i2l C0 dX6_ways_27 ?_
            refine mr_lconst (v := 0) C0 dX6_ways_28 (by decide) ?_
            refine mr_ldc2 C0 dX6_ways_29 cn_X6_124 ?_
            refine mr_callSI C0 mdX6_in dX6_ways_32 clX6_in ml_X6_79 arX6_in (as := [.long x3.toInt64, .long (0 : Int64), .long (2 : Int64)]) rfl (Nat.le_of_ble_eq_true rfl) (Nat.le_of_ble_eq_true rfl) (Nat.le_of_ble_eq_true rfl) fit0 (CallV_of mdX6_in plX6_in 0 (Nat.le_of_ble_eq_true rfl) rfl ?_) (fun _ _ h => h)
            intro zp18 zl18 ze18 zs18 zm18 zargs18 zbelow18 zmeth18 zc18 zD18 zad18 zac18 C18 hr18 hk18
            refine mr_lload_n C18 dX6_in_0 rfl (i := 0) rfl ?_
            refine mr_lload_n C18 dX6_in_1 rfl (i := 2) rfl ?_
            refine mr_lcmp_lt C18 dX6_in_2 dX6_in_3 (tgt := 17) (by decide) (fun c18 => ?_) (fun c18 => ?_)
            · have h := h.1 c18
              refine mr_iconst (v := 0) C18 dX6_in_17 (by decide) ?_
              refine mr_zret C18 hr18 hk18 dX6_in_18 rfl (qI_mk ?_)
              refine mr_if_ne C0 dX6_ways_35 (tgt := 45) (by decide) (fun q => absurd q (by decide)) (fun _ => ?_)
              refine mr_aload_n C0 dX6_ways_38 rfl (i := 0) rfl ?_
              refine mr_bipush (v := (-2)) C0 dX6_ways_39 (by decide) ?_
              refine mr_callVI C0 mdX6_refused dX6_ways_41 clX6_refused ml_X6_121 (Nat.le_of_ble_eq_true rfl) rfl rfl arX6_refused (as := [.int (-2 : Int32)]) rfl (Nat.le_of_ble_eq_true rfl) (Nat.le_of_ble_eq_true rfl) (Nat.le_of_ble_eq_true rfl) fit0 (CallV_of mdX6_refused plX6_refused 0 (Nat.le_of_ble_eq_true rfl) rfl ?_) (fun _ _ h => h)
              intro zp19 zl19 ze19 zs19 zm19 zargs19 zbelow19 zmeth19 zc19 zD19 zad19 zac19 C19 hr19 hk19
              refine mr_aload_n C19 dX6_refused_0 rfl (i := 0) rfl ?_
              refine mr_iconst (v := 0) C19 dX6_refused_1 (by decide) ?_
              refine mr_putI C19 dX6_refused_2 fl_X6_61 (Nat.le_of_ble_eq_true rfl) rfl rfl rfl rfl ?_
              refine mr_iload_n C19 dX6_refused_5 rfl (i := 1) rfl ?_
              refine mr_iret C19 hr19 hk19 dX6_refused_6 (qI_mk ?_)
              refine mr_iret C0 hr0 hk0 dX6_ways_44 (qI_mk ?_)
              exact h
            · have h := h.2 c18
              refine mr_lload_n C18 dX6_in_6 rfl (i := 0) rfl ?_
              refine mr_lload C18 dX6_in_7 rfl ?_
              refine mr_lcmp_gt C18 dX6_in_9 dX6_in_10 (tgt := 17) (by decide) (fun c19 => ?_) (fun c19 => ?_)
              · have h := h.1 c19
                refine mr_iconst (v := 0) C18 dX6_in_17 (by decide) ?_
                refine mr_zret C18 hr18 hk18 dX6_in_18 rfl (qI_mk ?_)
                refine mr_if_ne C0 dX6_ways_35 (tgt := 45) (by decide) (fun q => absurd q (by decide)) (fun _ => ?_)
                refine mr_aload_n C0 dX6_ways_38 rfl (i := 0) rfl ?_
                refine mr_bipush (v := (-2)) C0 dX6_ways_39 (by decide) ?_
                refine mr_callVI C0 mdX6_refused dX6_ways_41 clX6_refused ml_X6_121 (Nat.le_of_ble_eq_true rfl) rfl rfl arX6_refused (as := [.int (-2 : Int32)]) rfl (Nat.le_of_ble_eq_true rfl) (Nat.le_of_ble_eq_true rfl) (Nat.le_of_ble_eq_true rfl) fit0 (CallV_of mdX6_refused plX6_refused 0 (Nat.le_of_ble_eq_true rfl) rfl ?_) (fun _ _ h => h)
                intro zp20 zl20 ze20 zs20 zm20 zargs20 zbelow20 zmeth20 zc20 zD20 zad20 zac20 C20 hr20 hk20
                refine mr_aload_n C20 dX6_refused_0 rfl (i := 0) rfl ?_
                refine mr_iconst (v := 0) C20 dX6_refused_1 (by decide) ?_
                refine mr_putI C20 dX6_refused_2 fl_X6_61 (Nat.le_of_ble_eq_true rfl) rfl rfl rfl rfl ?_
                refine mr_iload_n C20 dX6_refused_5 rfl (i := 1) rfl ?_
                refine mr_iret C20 hr20 hk20 dX6_refused_6 (qI_mk ?_)
                refine mr_iret C0 hr0 hk0 dX6_ways_44 (qI_mk ?_)
                exact h
              · have h := h.2 c19
                refine mr_iconst (v := 1) C18 dX6_in_13 (by decide) ?_
                refine mr_goto C18 dX6_in_14 (tgt := 18) (by decide) ?_
                refine mr_zret C18 hr18 hk18 dX6_in_18 rfl (qI_mk ?_)
                refine mr_if_ne C0 dX6_ways_35 (tgt := 45) (by decide) (fun _ => ?_) (fun q => absurd q (by decide))
                refine mr_aload_n C0 dX6_ways_45 rfl (i := 0) rfl ?_
                refine mr_getI C0 dX6_ways_46 fl_X6_69 (Nat.le_of_ble_eq_true rfl) rfl rfl ?_
                refine mr_if_ne C0 dX6_ways_49 (tgt := 59) (by decide) (fun c20 => ?_) (fun c20 => ?_)
                · have h := h.1 c20
                  refine mr_aload_n C0 dX6_ways_59 rfl (i := 0) rfl ?_
                  refine mr_iload_n C0 dX6_ways_60 rfl (i := 2) rfl ?_
                  refine mr_iload_n C0 dX6_ways_61 rfl (i := 3) rfl ?_
                  refine mr_iload C0 dX6_ways_62 rfl ?_
                  refine mr_aload_n C0 dX6_ways_64 rfl (i := 0) rfl ?_
                  refine mr_getI C0 dX6_ways_65 fl_X6_72 (Nat.le_of_ble_eq_true rfl) rfl rfl ?_
                  refine mr_i2l C0 dX6_ways_68 ?_
                  refine mr_lconst (v := 1) C0 dX6_ways_69 (by decide) ?_
                  refine mr_ladd C0 dX6_ways_70 ?_
                  refine mr_callVI C0 mdX6_cellsBarred dX6_ways_71 clX6_cellsBarred ml_X6_126 (Nat.le_of_ble_eq_true rfl) rfl rfl arX6_cellsBarred (as := [.int x2, .int x3, .int x4, .long ((S.1 34 2).toInt64 + (1 : Int64))]) rfl (Nat.le_of_ble_eq_true rfl) (Nat.le_of_ble_eq_true rfl) (Nat.le_of_ble_eq_true rfl) fit0 h (fun r22 S21 h => ?_)
                  refine mr_istore (L1 := [some (.ref 34), some (.int x1), some (.int x2), some (.int x3), some (.int x4), some (.int r22), none, none, none]) C0 dX6_ways_74 (Nat.le_of_ble_eq_true rfl) rfl ?_
                  refine mr_iload C0 dX6_ways_76 rfl ?_
                  refine mr_if_ge C0 dX6_ways_78 (tgt := 84) (by decide) (fun c23 => ?_) (fun c23 => ?_)
                  · have h := h.1 c23
                    refine mr_aload_n C0 dX6_ways_84 rfl (i := 0) rfl ?_
                    refine mr_callVV C0 mdX6_layCan dX6_ways_85 clX6_layCan ml_X6_225 (Nat.le_of_ble_eq_true rfl) rfl rfl arX6_layCan (as := []) rfl (Nat.le_of_ble_eq_true rfl) (Nat.le_of_ble_eq_true rfl) (Nat.le_of_ble_eq_true rfl) fit0 h (fun S24 h => ?_)
                    refine mr_iload_n C0 dX6_ways_88 rfl (i := 1) rfl ?_
                    refine mr_if_ge C0 dX6_ways_89 (tgt := 108) (by decide) (fun c25 => ?_) (fun c25 => ?_)
                    · have h := h.1 c25
                      refine mr_iconst (v := 0) C0 dX6_ways_108 (by decide) ?_
                      refine mr_istore (L1 := [some (.ref 34), some (.int x1), some (.int x2), some (.int x3), some (.int x4), some (.int r22), some (.int (0 : Int32)), none, none]) C0 dX6_ways_109 (Nat.le_of_ble_eq_true rfl) rfl ?_
                      refine mr_iconst (v := 0) C0 dX6_ways_111 (by decide) ?_
                      refine mr_istore (L1 := [some (.ref 34), some (.int x1), some (.int x2), some (.int x3), some (.int x4), some (.int r22), some (.int (0 : Int32)), some (.int (0 : Int32)), none]) C0 dX6_ways_112 (Nat.le_of_ble_eq_true rfl) rfl ?_
                      refine mr_mask (L1 := [some (.ref 34), some (.int x1), some (.int x2), none, some (.int x4), none, some (.int (0 : Int32)), some (.int (0 : Int32)), none]) C0 [true, true, true, false, true, false, true, true, false] rfl ?_
                      exact h zp0 zl0 ze0 zs0 zm0 zargs0 zbelow0 zmeth0 zc0 zD0 zad0 zac0 C0 hr0 hk0
                    · have h := h.2 c25
                      refine mr_aload_n C0 dX6_ways_92 rfl (i := 0) rfl ?_
                      refine mr_aload_n C0 dX6_ways_93 rfl (i := 0) rfl ?_
                      refine mr_bipush (v := 60) C0 dX6_ways_94 (by decide) ?_
                      refine mr_iload_n C0 dX6_ways_96 rfl (i := 2) rfl ?_
                      refine mr_imul C0 dX6_ways_97 ?_
                      refine mr_iload C0 dX6_ways_98 rfl ?_
                      refine mr_iadd C0 dX6_ways_100 ?_
                      refine mr_callVI C0 mdX6_waysBy dX6_ways_101 clX6_waysBy ml_X6_228 (Nat.le_of_ble_eq_true rfl) rfl rfl arX6_waysBy (as := [.int (((60 : Int32) * x2) + x4)]) rfl (Nat.le_of_ble_eq_true rfl) (Nat.le_of_ble_eq_true rfl) (Nat.le_of_ble_eq_true rfl) fit0 h (fun r27 S26 h => ?_)
                      refine mr_callVI C0 mdX6_refused dX6_ways_104 clX6_refused ml_X6_121 (Nat.le_of_ble_eq_true rfl) rfl rfl arX6_refused (as := [.int r27]) rfl (Nat.le_of_ble_eq_true rfl) (Nat.le_of_ble_eq_true rfl) (Nat.le_of_ble_eq_true rfl) fit0 (CallV_of mdX6_refused plX6_refused 0 (Nat.le_of_ble_eq_true rfl) rfl ?_) (fun _ _ h => h)
                      intro zp21 zl21 ze21 zs21 zm21 zargs21 zbelow21 zmeth21 zc21 zD21 zad21 zac21 C21 hr21 hk21
                      refine mr_aload_n C21 dX6_refused_0 rfl (i := 0) rfl ?_
                      refine mr_iconst (v := 0) C21 dX6_refused_1 (by decide) ?_
                      refine mr_putI C21 dX6_refused_2 fl_X6_61 (Nat.le_of_ble_eq_true rfl) rfl rfl rfl rfl ?_
                      refine mr_iload_n C21 dX6_refused_5 rfl (i := 1) rfl ?_
                      refine mr_iret C21 hr21 hk21 dX6_refused_6 (qI_mk ?_)
                      refine mr_iret C0 hr0 hk0 dX6_ways_107 (qI_mk ?_)
                      exact h
                  · have h := h.2 c23
                    refine mr_iload C0 dX6_ways_81 rfl ?_
                    refine mr_iret C0 hr0 hk0 dX6_ways_83 (qI_mk ?_)
                    exact h
                · have h := h.2 c20
                  refine mr_aload_n C0 dX6_ways_52 rfl (i := 0) rfl ?_
                  refine mr_bipush (v := (-3)) C0 dX6_ways_53 (by decide) ?_
                  refine mr_callVI C0 mdX6_refused dX6_ways_55 clX6_refused ml_X6_121 (Nat.le_of_ble_eq_true rfl) rfl rfl arX6_refused (as := [.int (-3 : Int32)]) rfl (Nat.le_of_ble_eq_true rfl) (Nat.le_of_ble_eq_true rfl) (Nat.le_of_ble_eq_true rfl) fit0 (CallV_of mdX6_refused plX6_refused 0 (Nat.le_of_ble_eq_true rfl) rfl ?_) (fun _ _ h => h)
                  intro zp22 zl22 ze22 zs22 zm22 zargs22 zbelow22 zmeth22 zc22 zD22 zad22 zac22 C22 hr22 hk22
                  refine mr_aload_n C22 dX6_refused_0 rfl (i := 0) rfl ?_
                  refine mr_iconst (v := 0) C22 dX6_refused_1 (by decide) ?_
                  refine mr_putI C22 dX6_refused_2 fl_X6_61 (Nat.le_of_ble_eq_true rfl) rfl rfl rfl rfl ?_
                  refine mr_iload_n C22 dX6_refused_5 rfl (i := 1) rfl ?_
                  refine mr_iret C22 hr22 hk22 dX6_refused_6 (qI_mk ?_)
                  refine mr_iret C0 hr0 hk0 dX6_ways_58 (qI_mk ?_)
                  exact h
set_option maxRecDepth 100000 in
set_option maxHeartbeats 4000000 in
theorem eX6_ways_114 (x1 : Int32) (x2 : Int32) (x4 : Int32) (x6 : Int32) (x7 : Int32) (S : St) (Q : Int32 → St → Prop) (h : (((7 : Int32) ≤ x7 → Q x6 (sI S 34 0 (0 : Int32))) ∧ (¬ (7 : Int32) ≤ x7 → (vp_in x7 7) ∧ ((¬ (((S.1 44 x7.toNatClampNeg) >>> (x1 &&& 31)) &&& (1 : Int32)) = (1 : Int32) → V mdX6_ways 114 [some (.ref 34), some (.int x1), some (.int x2), none, some (.int x4), none, some (.int x6), some (.int (x7 + 1)), none] [] S (qI Q)) ∧ ((((S.1 44 x7.toNatClampNeg) >>> (x1 &&& 31)) &&& (1 : Int32)) = (1 : Int32) → V mdX6_ways 138 [some (.ref 34), some (.int x1), some (.int x2), none, some (.int x4), none, some (.int x6), some (.int x7), some (.int (0 : Int32))] [] S (qI Q)))))) : V mdX6_ways 114 [some (.ref 34), some (.int x1), some (.int x2), none, some (.int x4), none, some (.int x6), some (.int x7), none] [] S (qI Q) := by
  intro zp0 zl0 ze0 zs0 zm0 zargs0 zbelow0 zmeth0 zc0 zD0 zad0 zac0 C0 hr0 hk0
  refine mr_iload C0 dX6_ways_114 rfl ?_
  refine mr_bipush (v := 7) C0 dX6_ways_116 (by decide) ?_
  refine mr_icmp_ge C0 dX6_ways_118 (tgt := 216) (by decide) (fun c1 => ?_) (fun c1 => ?_)
  · have h := h.1 c1
    refine mr_aload_n C0 dX6_ways_216 rfl (i := 0) rfl ?_
    refine mr_iload C0 dX6_ways_217 rfl ?_
    refine mr_callVI C0 mdX6_refused dX6_ways_219 clX6_refused ml_X6_121 (Nat.le_of_ble_eq_true rfl) rfl rfl arX6_refused (as := [.int x6]) rfl (Nat.le_of_ble_eq_true rfl) (Nat.le_of_ble_eq_true rfl) (Nat.le_of_ble_eq_true rfl) fit0 (CallV_of mdX6_refused plX6_refused 0 (Nat.le_of_ble_eq_true rfl) rfl ?_) (fun _ _ h => h)
    intro zp1 zl1 ze1 zs1 zm1 zargs1 zbelow1 zmeth1 zc1 zD1 zad1 zac1 C1 hr1 hk1
    refine mr_aload_n C1 dX6_refused_0 rfl (i := 0) rfl ?_
    refine mr_iconst (v := 0) C1 dX6_refused_1 (by decide) ?_
    refine mr_putI C1 dX6_refused_2 fl_X6_61 (Nat.le_of_ble_eq_true rfl) rfl rfl rfl rfl ?_
    refine mr_iload_n C1 dX6_refused_5 rfl (i := 1) rfl ?_
    refine mr_iret C1 hr1 hk1 dX6_refused_6 (qI_mk ?_)
    refine mr_iret C0 hr0 hk0 dX6_ways_222 (qI_mk ?_)
    exact h
  · have h := h.2 c1
    refine mr_aload_n C0 dX6_ways_121 rfl (i := 0) rfl ?_
    refine mr_getR C0 dX6_ways_122 fl_X6_38 (Nat.le_of_ble_eq_true rfl) rfl rfl ?_
    refine mr_iload C0 dX6_ways_125 rfl ?_
    have g2 := h.1
    have h := h.2
    refine mr_iald C0 dX6_ways_127 (Nat.le_of_ble_eq_true rfl) rfl g2 ?_
    refine mr_iload_n C0 dX6_ways_128 rfl (i := 1) rfl ?_
    refine mr_callSI C0 mdX6_isIn dX6_ways_129 clX6_isIn ml_X6_231 arX6_isIn (as := [.int (S.1 44 x7.toNatClampNeg), .int x1]) rfl (Nat.le_of_ble_eq_true rfl) (Nat.le_of_ble_eq_true rfl) (Nat.le_of_ble_eq_true rfl) fit0 (CallV_of mdX6_isIn plX6_isIn 0 (Nat.le_of_ble_eq_true rfl) rfl ?_) (fun _ _ h => h)
    intro zp2 zl2 ze2 zs2 zm2 zargs2 zbelow2 zmeth2 zc2 zD2 zad2 zac2 C2 hr2 hk2
    refine mr_iload_n C2 dX6_isIn_0 rfl (i := 0) rfl ?_
    refine mr_iload_n C2 dX6_isIn_1 rfl (i := 1) rfl ?_
    refine mr_ishr C2 dX6_isIn_2 ?_
    refine mr_iconst (v := 1) C2 dX6_isIn_3 (by decide) ?_
    refine mr_iand C2 dX6_isIn_4 ?_
    refine mr_iconst (v := 1) C2 dX6_isIn_5 (by decide) ?_
    refine mr_icmp_ne C2 dX6_isIn_6 (tgt := 13) (by decide) (fun c3 => ?_) (fun c3 => ?_)
    · have h := h.1 c3
      refine mr_iconst (v := 0) C2 dX6_isIn_13 (by decide) ?_
      refine mr_zret C2 hr2 hk2 dX6_isIn_14 rfl (qI_mk ?_)
      refine mr_if_eq C0 dX6_ways_132 (tgt := 210) (by decide) (fun _ => ?_) (fun q => absurd q (by decide))
      refine mr_iinc (v := (x7 + 1)) (L1 := [some (.ref 34), some (.int x1), some (.int x2), none, some (.int x4), none, some (.int x6), some (.int (x7 + 1)), none]) C0 dX6_ways_210 rfl rfl (Nat.le_of_ble_eq_true rfl) rfl ?_
      refine mr_goto C0 dX6_ways_213 (tgt := 114) (by decide) ?_
      exact h zp0 zl0 ze0 zs0 zm0 zargs0 zbelow0 zmeth0 zc0 zD0 zad0 zac0 C0 hr0 hk0
    · have h := h.2 c3
      refine mr_iconst (v := 1) C2 dX6_isIn_9 (by decide) ?_
      refine mr_goto C2 dX6_isIn_10 (tgt := 14) (by decide) ?_
      refine mr_zret C2 hr2 hk2 dX6_isIn_14 rfl (qI_mk ?_)
      refine mr_if_eq C0 dX6_ways_132 (tgt := 210) (by decide) (fun q => absurd q (by decide)) (fun _ => ?_)
      refine mr_iconst (v := 0) C0 dX6_ways_135 (by decide) ?_
      refine mr_istore (L1 := [some (.ref 34), some (.int x1), some (.int x2), none, some (.int x4), none, some (.int x6), some (.int x7), some (.int (0 : Int32))]) C0 dX6_ways_136 (Nat.le_of_ble_eq_true rfl) rfl ?_
      exact h zp0 zl0 ze0 zs0 zm0 zargs0 zbelow0 zmeth0 zc0 zD0 zad0 zac0 C0 hr0 hk0
set_option maxRecDepth 100000 in
set_option maxHeartbeats 4000000 in
theorem eX6_ways_138 (x1 : Int32) (x2 : Int32) (x4 : Int32) (x6 : Int32) (x7 : Int32) (x8 : Int32) (S : St) (Q : Int32 → St → Prop) (h : (((7 : Int32) ≤ x8 → CallV mdX6_waysBy [.ref 34, .int (((60 : Int32) * x2) + x4)] S (qI fun r3 S2 => ((r3 ≤ 0 → CallV mdX6_layCan [.ref 34] S2 (qV fun S5 => V mdX6_ways 114 [some (.ref 34), some (.int x1), some (.int x2), none, some (.int x4), none, some (.int (x6 ||| (0 : Int32))), some (.int (x7 + 1)), none] [] S5 (qI Q))) ∧ (¬ r3 ≤ 0 → CallV mdX6_layCan [.ref 34] S2 (qV fun S6 => V mdX6_ways 114 [some (.ref 34), some (.int x1), some (.int x2), none, some (.int x4), none, some (.int (x6 ||| ((1 : Int32) <<< (x7 &&& 31)))), some (.int (x7 + 1)), none] [] S6 (qI Q)))))) ∧ (¬ (7 : Int32) ≤ x8 → (vp_in x8 7) ∧ ((¬ x8 = x7 → (vp_in x8 7) ∧ V mdX6_ways 138 [some (.ref 34), some (.int x1), some (.int x2), none, some (.int x4), none, some (.int x6), some (.int x7), some (.int (x8 + 1))] [] (sI S 44 x8.toNatClampNeg ((S.1 44 x8.toNatClampNeg) &&& (((1 : Int32) <<< (x1 &&& 31)) ^^^ (-1 : Int32)))) (qI Q)) ∧ (x8 = x7 → (vp_in x8 7) ∧ V mdX6_ways 138 [some (.ref 34), some (.int x1), some (.int x2), none, some (.int x4), none, some (.int x6), some (.int x7), some (.int (x8 + 1))] [] (sI S 44 x8.toNatClampNeg ((S.1 44 x8.toNatClampNeg) &&& (255 : Int32))) (qI Q)))))) : V mdX6_ways 138 [some (.ref 34), some (.int x1), some (.int x2), none, some (.int x4), none, some (.int x6), some (.int x7), some (.int x8)] [] S (qI Q) := by
  intro zp0 zl0 ze0 zs0 zm0 zargs0 zbelow0 zmeth0 zc0 zD0 zad0 zac0 C0 hr0 hk0
  refine mr_iload C0 dX6_ways_138 rfl ?_
  refine mr_bipush (v := 7) C0 dX6_ways_140 (by decide) ?_
  refine mr_icmp_ge C0 dX6_ways_142 (tgt := 179) (by decide) (fun c1 => ?_) (fun c1 => ?_)
  · have h := h.1 c1
    refine mr_iload C0 dX6_ways_179 rfl ?_
    refine mr_aload_n C0 dX6_ways_181 rfl (i := 0) rfl ?_
    refine mr_bipush (v := 60) C0 dX6_ways_182 (by decide) ?_
    refine mr_iload_n C0 dX6_ways_184 rfl (i := 2) rfl ?_
    refine mr_imul C0 dX6_ways_185 ?_
    refine mr_iload C0 dX6_ways_186 rfl ?_
    refine mr_iadd C0 dX6_ways_188 ?_
    refine mr_callVI C0 mdX6_waysBy dX6_ways_189 clX6_waysBy ml_X6_228 (Nat.le_of_ble_eq_true rfl) rfl rfl arX6_waysBy (as := [.int (((60 : Int32) * x2) + x4)]) rfl (Nat.le_of_ble_eq_true rfl) (Nat.le_of_ble_eq_true rfl) (Nat.le_of_ble_eq_true rfl) fit0 h (fun r3 S2 h => ?_)
    refine mr_if_le C0 dX6_ways_192 (tgt := 202) (by decide) (fun c4 => ?_) (fun c4 => ?_)
    · have h := h.1 c4
      refine mr_iconst (v := 0) C0 dX6_ways_202 (by decide) ?_
      refine mr_ior C0 dX6_ways_203 ?_
      refine mr_istore (L1 := [some (.ref 34), some (.int x1), some (.int x2), none, some (.int x4), none, some (.int (x6 ||| (0 : Int32))), some (.int x7), some (.int x8)]) C0 dX6_ways_204 (Nat.le_of_ble_eq_true rfl) rfl ?_
      refine mr_aload_n C0 dX6_ways_206 rfl (i := 0) rfl ?_
      refine mr_callVV C0 mdX6_layCan dX6_ways_207 clX6_layCan ml_X6_225 (Nat.le_of_ble_eq_true rfl) rfl rfl arX6_layCan (as := []) rfl (Nat.le_of_ble_eq_true rfl) (Nat.le_of_ble_eq_true rfl) (Nat.le_of_ble_eq_true rfl) fit0 h (fun S5 h => ?_)
      refine mr_iinc (v := (x7 + 1)) (L1 := [some (.ref 34), some (.int x1), some (.int x2), none, some (.int x4), none, some (.int (x6 ||| (0 : Int32))), some (.int (x7 + 1)), some (.int x8)]) C0 dX6_ways_210 rfl rfl (Nat.le_of_ble_eq_true rfl) rfl ?_
      refine mr_goto C0 dX6_ways_213 (tgt := 114) (by decide) ?_
      refine mr_mask (L1 := [some (.ref 34), some (.int x1), some (.int x2), none, some (.int x4), none, some (.int (x6 ||| (0 : Int32))), some (.int (x7 + 1)), none]) C0 [true, true, true, false, true, false, true, true, false] rfl ?_
      exact h zp0 zl0 ze0 zs0 zm0 zargs0 zbelow0 zmeth0 zc0 zD0 zad0 zac0 C0 hr0 hk0
    · have h := h.2 c4
      refine mr_iconst (v := 1) C0 dX6_ways_195 (by decide) ?_
      refine mr_iload C0 dX6_ways_196 rfl ?_
      refine mr_ishl C0 dX6_ways_198 ?_
      refine mr_goto C0 dX6_ways_199 (tgt := 203) (by decide) ?_
      refine mr_ior C0 dX6_ways_203 ?_
      refine mr_istore (L1 := [some (.ref 34), some (.int x1), some (.int x2), none, some (.int x4), none, some (.int (x6 ||| ((1 : Int32) <<< (x7 &&& 31)))), some (.int x7), some (.int x8)]) C0 dX6_ways_204 (Nat.le_of_ble_eq_true rfl) rfl ?_
      refine mr_aload_n C0 dX6_ways_206 rfl (i := 0) rfl ?_
      refine mr_callVV C0 mdX6_layCan dX6_ways_207 clX6_layCan ml_X6_225 (Nat.le_of_ble_eq_true rfl) rfl rfl arX6_layCan (as := []) rfl (Nat.le_of_ble_eq_true rfl) (Nat.le_of_ble_eq_true rfl) (Nat.le_of_ble_eq_true rfl) fit0 h (fun S6 h => ?_)
      refine mr_iinc (v := (x7 + 1)) (L1 := [some (.ref 34), some (.int x1), some (.int x2), none, some (.int x4), none, some (.int (x6 ||| ((1 : Int32) <<< (x7 &&& 31)))), some (.int (x7 + 1)), some (.int x8)]) C0 dX6_ways_210 rfl rfl (Nat.le_of_ble_eq_true rfl) rfl ?_
      refine mr_goto C0 dX6_ways_213 (tgt := 114) (by decide) ?_
      refine mr_mask (L1 := [some (.ref 34), some (.int x1), some (.int x2), none, some (.int x4), none, some (.int (x6 ||| ((1 : Int32) <<< (x7 &&& 31)))), some (.int (x7 + 1)), none]) C0 [true, true, true, false, true, false, true, true, false] rfl ?_
      exact h zp0 zl0 ze0 zs0 zm0 zargs0 zbelow0 zmeth0 zc0 zD0 zad0 zac0 C0 hr0 hk0
  · have h := h.2 c1
    refine mr_aload_n C0 dX6_ways_145 rfl (i := 0) rfl ?_
    refine mr_getR C0 dX6_ways_146 fl_X6_38 (Nat.le_of_ble_eq_true rfl) rfl rfl ?_
    refine mr_iload C0 dX6_ways_149 rfl ?_
    refine mr_dup2 C0 dX6_ways_151 rfl rfl ?_
    have g7 := h.1
    have h := h.2
    refine mr_iald C0 dX6_ways_152 (Nat.le_of_ble_eq_true rfl) rfl g7 ?_
    refine mr_iload C0 dX6_ways_153 rfl ?_
    refine mr_iload C0 dX6_ways_155 rfl ?_
    refine mr_icmp_ne C0 dX6_ways_157 (tgt := 166) (by decide) (fun c8 => ?_) (fun c8 => ?_)
    · have h := h.1 c8
      refine mr_iconst (v := 1) C0 dX6_ways_166 (by decide) ?_
      refine mr_iload_n C0 dX6_ways_167 rfl (i := 1) rfl ?_
      refine mr_ishl C0 dX6_ways_168 ?_
      refine mr_iconst (v := (-1)) C0 dX6_ways_169 (by decide) ?_
      refine mr_ixor C0 dX6_ways_170 ?_
      refine mr_iand C0 dX6_ways_171 ?_
      have g9 := h.1
      have h := h.2
      refine mr_iast C0 dX6_ways_172 (Nat.le_of_ble_eq_true rfl) rfl g9 ?_
      refine mr_iinc (v := (x8 + 1)) (L1 := [some (.ref 34), some (.int x1), some (.int x2), none, some (.int x4), none, some (.int x6), some (.int x7), some (.int (x8 + 1))]) C0 dX6_ways_173 rfl rfl (Nat.le_of_ble_eq_true rfl) rfl ?_
      refine mr_goto C0 dX6_ways_176 (tgt := 138) (by decide) ?_
      exact h zp0 zl0 ze0 zs0 zm0 zargs0 zbelow0 zmeth0 zc0 zD0 zad0 zac0 C0 hr0 hk0
    · have h := h.2 c8
      refine mr_sipush (v := 255) C0 dX6_ways_160 (by decide) ?_
      refine mr_goto C0 dX6_ways_163 (tgt := 171) (by decide) ?_
      refine mr_iand C0 dX6_ways_171 ?_
      have g10 := h.1
      have h := h.2
      refine mr_iast C0 dX6_ways_172 (Nat.le_of_ble_eq_true rfl) rfl g10 ?_
      refine mr_iinc (v := (x8 + 1)) (L1 := [some (.ref 34), some (.int x1), some (.int x2), none, some (.int x4), none, some (.int x6), some (.int x7), some (.int (x8 + 1))]) C0 dX6_ways_173 rfl rfl (Nat.le_of_ble_eq_true rfl) rfl ?_
      refine mr_goto C0 dX6_ways_176 (tgt := 138) (by decide) ?_
      exact h zp0 zl0 ze0 zs0 zm0 zargs0 zbelow0 zmeth0 zc0 zD0 zad0 zac0 C0 hr0 hk0
set_option maxRecDepth 100000 in
set_option maxHeartbeats 4000000 in
theorem eX6_fair (S : St) (Q : Int32 → St → Prop) (h : ((¬ (S.1 34 1) = 0 → V mdX6_fair 14 [some (.ref 34), some (.int (0 : Int32)), some (.int (0 : Int32)), none, none, none, none] [] S (qI Q)) ∧ ((S.1 34 1) = 0 → Q (-3 : Int32) S))) : CallV mdX6_fair [.ref 34] S (qI Q) := by
  refine CallV_of mdX6_fair plX6_fair 6 (Nat.le_of_ble_eq_true rfl) rfl ?_
  intro zp0 zl0 ze0 zs0 zm0 zargs0 zbelow0 zmeth0 zc0 zD0 zad0 zac0 C0 hr0 hk0
  refine mr_aload_n C0 dX6_fair_0 rfl (i := 0) rfl ?_
  refine mr_getI C0 dX6_fair_1 fl_X6_69 (Nat.le_of_ble_eq_true rfl) rfl rfl ?_
  refine mr_if_ne C0 dX6_fair_4 (tgt := 10) (by decide) (fun c1 => ?_) (fun c1 => ?_)
  · have h := h.1 c1
    refine mr_iconst (v := 0) C0 dX6_fair_10 (by decide) ?_
    refine mr_istore_n (L1 := [some (.ref 34), some (.int (0 : Int32)), none, none, none, none, none]) C0 dX6_fair_11 rfl (Nat.le_of_ble_eq_true rfl) rfl ?_
    refine mr_iconst (v := 0) C0 dX6_fair_12 (by decide) ?_
    refine mr_istore_n (L1 := [some (.ref 34), some (.int (0 : Int32)), some (.int (0 : Int32)), none, none, none, none]) C0 dX6_fair_13 rfl (Nat.le_of_ble_eq_true rfl) rfl ?_
    exact h zp0 zl0 ze0 zs0 zm0 zargs0 zbelow0 zmeth0 zc0 zD0 zad0 zac0 C0 hr0 hk0
  · have h := h.2 c1
    refine mr_bipush (v := (-3)) C0 dX6_fair_7 (by decide) ?_
    refine mr_iret C0 hr0 hk0 dX6_fair_9 (qI_mk ?_)
    exact h
set_option maxRecDepth 100000 in
set_option maxHeartbeats 4000000 in
theorem eX6_fair_14 (x1 : Int32) (x2 : Int32) (S : St) (Q : Int32 → St → Prop) (h : (((S.1 34 2) ≤ x2 → Q x1 S) ∧ (¬ (S.1 34 2) ≤ x2 → CallV mdX6_layChances [.ref 34, .int (0 : Int32), .int x2] S (qV fun S2 => CallV mdX6_partsFor [.ref 34, .int (S2.1 35 0)] S2 (qJ fun r4 S3 => V mdX6_fair 45 [some (.ref 34), some (.int x1), some (.int x2), some (.long r4), none, some (.int (1 : Int32)), some (.int (1 : Int32))] [] S3 (qI Q)))))) : V mdX6_fair 14 [some (.ref 34), some (.int x1), some (.int x2), none, none, none, none] [] S (qI Q) := by
  intro zp0 zl0 ze0 zs0 zm0 zargs0 zbelow0 zmeth0 zc0 zD0 zad0 zac0 C0 hr0 hk0
  refine mr_iload_n C0 dX6_fair_14 rfl (i := 2) rfl ?_
  refine mr_aload_n C0 dX6_fair_15 rfl (i := 0) rfl ?_
  refine mr_getI C0 dX6_fair_16 fl_X6_72 (Nat.le_of_ble_eq_true rfl) rfl rfl ?_
  refine mr_icmp_ge C0 dX6_fair_19 (tgt := 109) (by decide) (fun c1 => ?_) (fun c1 => ?_)
  · have h := h.1 c1
    refine mr_iload_n C0 dX6_fair_109 rfl (i := 1) rfl ?_
    refine mr_iret C0 hr0 hk0 dX6_fair_110 (qI_mk ?_)
    exact h
  · have h := h.2 c1
    refine mr_aload_n C0 dX6_fair_22 rfl (i := 0) rfl ?_
    refine mr_iconst (v := 0) C0 dX6_fair_23 (by decide) ?_
    refine mr_iload_n C0 dX6_fair_24 rfl (i := 2) rfl ?_
    refine mr_callVV C0 mdX6_layChances dX6_fair_25 clX6_layChances ml_X6_179 (Nat.le_of_ble_eq_true rfl) rfl rfl arX6_layChances (as := [.int (0 : Int32), .int x2]) rfl (Nat.le_of_ble_eq_true rfl) (Nat.le_of_ble_eq_true rfl) (Nat.le_of_ble_eq_true rfl) fit0 h (fun S2 h => ?_)
    refine mr_aload_n C0 dX6_fair_28 rfl (i := 0) rfl ?_
    refine mr_aload_n C0 dX6_fair_29 rfl (i := 0) rfl ?_
    refine mr_getR C0 dX6_fair_30 fl_X6_7 (Nat.le_of_ble_eq_true rfl) rfl rfl ?_
    refine mr_iconst (v := 0) C0 dX6_fair_33 (by decide) ?_
    refine mr_iald C0 dX6_fair_34 (Nat.le_of_ble_eq_true rfl) rfl (by unfold vp_in; decide) ?_
    refine mr_topI (y := (S2.1 35 0)) (by first | rfl | simp [sI, sJ, sF, upd, vp_updL]) ?_
    refine mr_callVJ C0 mdX6_partsFor dX6_fair_35 clX6_partsFor ml_X6_191 (Nat.le_of_ble_eq_true rfl) rfl rfl arX6_partsFor (as := [.int (S2.1 35 0)]) rfl (Nat.le_of_ble_eq_true rfl) (Nat.le_of_ble_eq_true rfl) (Nat.le_of_ble_eq_true rfl) fit0 h (fun r4 S3 h => ?_)
    refine mr_lstore_n (L1 := [some (.ref 34), some (.int x1), some (.int x2), some (.long r4), none, none, none]) C0 dX6_fair_38 rfl (Nat.le_of_ble_eq_true rfl) rfl ?_
    refine mr_iconst (v := 1) C0 dX6_fair_39 (by decide) ?_
    refine mr_istore (L1 := [some (.ref 34), some (.int x1), some (.int x2), some (.long r4), none, some (.int (1 : Int32)), none]) C0 dX6_fair_40 (Nat.le_of_ble_eq_true rfl) rfl ?_
    refine mr_iconst (v := 1) C0 dX6_fair_42 (by decide) ?_
    refine mr_istore (L1 := [some (.ref 34), some (.int x1), some (.int x2), some (.long r4), none, some (.int (1 : Int32)), some (.int (1 : Int32))]) C0 dX6_fair_43 (Nat.le_of_ble_eq_true rfl) rfl ?_
    exact h zp0 zl0 ze0 zs0 zm0 zargs0 zbelow0 zmeth0 zc0 zD0 zad0 zac0 C0 hr0 hk0
set_option maxRecDepth 100000 in
set_option maxHeartbeats 4000000 in
theorem eX6_fair_45 (x1 : Int32) (x2 : Int32) (y3 : Int64) (x5 : Int32) (x6 : Int32) (S : St) (Q : Int32 → St → Prop) (h : (((S.1 34 2) ≤ x6 → ((x5 = 0 → V mdX6_fair 14 [some (.ref 34), some (.int (x1 ||| (0 : Int32))), some (.int (x2 + 1)), none, none, none, none] [] S (qI Q)) ∧ (¬ x5 = 0 → V mdX6_fair 14 [some (.ref 34), some (.int (x1 ||| ((1 : Int32) <<< (x2 &&& 31)))), some (.int (x2 + 1)), none, none, none, none] [] S (qI Q)))) ∧ (¬ (S.1 34 2) ≤ x6 → ((x5 = 0 → V mdX6_fair 45 [some (.ref 34), some (.int x1), some (.int x2), some (.long y3), none, some (.int (0 : Int32)), some (.int (x6 + 1))] [] S (qI Q)) ∧ (¬ x5 = 0 → (vp_in x6 6) ∧ CallV mdX6_partsFor [.ref 34, .int (S.1 35 x6.toNatClampNeg)] S (qJ fun r6 S5 => ((¬ r6 = y3 → V mdX6_fair 45 [some (.ref 34), some (.int x1), some (.int x2), some (.long y3), none, some (.int (0 : Int32)), some (.int (x6 + 1))] [] S5 (qI Q)) ∧ (r6 = y3 → V mdX6_fair 45 [some (.ref 34), some (.int x1), some (.int x2), some (.long y3), none, some (.int (1 : Int32)), some (.int (x6 + 1))] [] S5 (qI Q))))))))) : V mdX6_fair 45 [some (.ref 34), some (.int x1), some (.int x2), some (.long y3), none, some (.int x5), some (.int x6)] [] S (qI Q) := by
  intro zp0 zl0 ze0 zs0 zm0 zargs0 zbelow0 zmeth0 zc0 zD0 zad0 zac0 C0 hr0 hk0
  refine mr_iload C0 dX6_fair_45 rfl ?_
  refine mr_aload_n C0 dX6_fair_47 rfl (i := 0) rfl ?_
  refine mr_getI C0 dX6_fair_48 fl_X6_72 (Nat.le_of_ble_eq_true rfl) rfl rfl ?_
  refine mr_icmp_ge C0 dX6_fair_51 (tgt := 88) (by decide) (fun c1 => ?_) (fun c1 => ?_)
  · have h := h.1 c1
    refine mr_iload_n C0 dX6_fair_88 rfl (i := 1) rfl ?_
    refine mr_iload C0 dX6_fair_89 rfl ?_
    refine mr_if_eq C0 dX6_fair_91 (tgt := 100) (by decide) (fun c2 => ?_) (fun c2 => ?_)
    · have h := h.1 c2
      refine mr_iconst (v := 0) C0 dX6_fair_100 (by decide) ?_
      refine mr_ior C0 dX6_fair_101 ?_
      refine mr_istore_n (L1 := [some (.ref 34), some (.int (x1 ||| (0 : Int32))), some (.int x2), some (.long y3), none, some (.int x5), some (.int x6)]) C0 dX6_fair_102 rfl (Nat.le_of_ble_eq_true rfl) rfl ?_
      refine mr_iinc (v := (x2 + 1)) (L1 := [some (.ref 34), some (.int (x1 ||| (0 : Int32))), some (.int (x2 + 1)), some (.long y3), none, some (.int x5), some (.int x6)]) C0 dX6_fair_103 rfl rfl (Nat.le_of_ble_eq_true rfl) rfl ?_
      refine mr_goto C0 dX6_fair_106 (tgt := 14) (by decide) ?_
      refine mr_mask (L1 := [some (.ref 34), some (.int (x1 ||| (0 : Int32))), some (.int (x2 + 1)), none, none, none, none]) C0 [true, true, true, false, false, false, false] rfl ?_
      exact h zp0 zl0 ze0 zs0 zm0 zargs0 zbelow0 zmeth0 zc0 zD0 zad0 zac0 C0 hr0 hk0
    · have h := h.2 c2
      refine mr_iconst (v := 1) C0 dX6_fair_94 (by decide) ?_
      refine mr_iload_n C0 dX6_fair_95 rfl (i := 2) rfl ?_
      refine mr_ishl C0 dX6_fair_96 ?_
      refine mr_goto C0 dX6_fair_97 (tgt := 101) (by decide) ?_
      refine mr_ior C0 dX6_fair_101 ?_
      refine mr_istore_n (L1 := [some (.ref 34), some (.int (x1 ||| ((1 : Int32) <<< (x2 &&& 31)))), some (.int x2), some (.long y3), none, some (.int x5), some (.int x6)]) C0 dX6_fair_102 rfl (Nat.le_of_ble_eq_true rfl) rfl ?_
      refine mr_iinc (v := (x2 + 1)) (L1 := [some (.ref 34), some (.int (x1 ||| ((1 : Int32) <<< (x2 &&& 31)))), some (.int (x2 + 1)), some (.long y3), none, some (.int x5), some (.int x6)]) C0 dX6_fair_103 rfl rfl (Nat.le_of_ble_eq_true rfl) rfl ?_
      refine mr_goto C0 dX6_fair_106 (tgt := 14) (by decide) ?_
      refine mr_mask (L1 := [some (.ref 34), some (.int (x1 ||| ((1 : Int32) <<< (x2 &&& 31)))), some (.int (x2 + 1)), none, none, none, none]) C0 [true, true, true, false, false, false, false] rfl ?_
      exact h zp0 zl0 ze0 zs0 zm0 zargs0 zbelow0 zmeth0 zc0 zD0 zad0 zac0 C0 hr0 hk0
  · have h := h.2 c1
    refine mr_iload C0 dX6_fair_54 rfl ?_
    refine mr_if_eq C0 dX6_fair_56 (tgt := 79) (by decide) (fun c3 => ?_) (fun c3 => ?_)
    · have h := h.1 c3
      refine mr_iconst (v := 0) C0 dX6_fair_79 (by decide) ?_
      refine mr_istore (L1 := [some (.ref 34), some (.int x1), some (.int x2), some (.long y3), none, some (.int (0 : Int32)), some (.int x6)]) C0 dX6_fair_80 (Nat.le_of_ble_eq_true rfl) rfl ?_
      refine mr_iinc (v := (x6 + 1)) (L1 := [some (.ref 34), some (.int x1), some (.int x2), some (.long y3), none, some (.int (0 : Int32)), some (.int (x6 + 1))]) C0 dX6_fair_82 rfl rfl (Nat.le_of_ble_eq_true rfl) rfl ?_
      refine mr_goto C0 dX6_fair_85 (tgt := 45) (by decide) ?_
      exact h zp0 zl0 ze0 zs0 zm0 zargs0 zbelow0 zmeth0 zc0 zD0 zad0 zac0 C0 hr0 hk0
    · have h := h.2 c3
      refine mr_aload_n C0 dX6_fair_59 rfl (i := 0) rfl ?_
      refine mr_aload_n C0 dX6_fair_60 rfl (i := 0) rfl ?_
      refine mr_getR C0 dX6_fair_61 fl_X6_7 (Nat.le_of_ble_eq_true rfl) rfl rfl ?_
      refine mr_iload C0 dX6_fair_64 rfl ?_
      have g4 := h.1
      have h := h.2
      refine mr_iald C0 dX6_fair_66 (Nat.le_of_ble_eq_true rfl) rfl g4 ?_
      refine mr_callVJ C0 mdX6_partsFor dX6_fair_67 clX6_partsFor ml_X6_191 (Nat.le_of_ble_eq_true rfl) rfl rfl arX6_partsFor (as := [.int (S.1 35 x6.toNatClampNeg)]) rfl (Nat.le_of_ble_eq_true rfl) (Nat.le_of_ble_eq_true rfl) (Nat.le_of_ble_eq_true rfl) fit0 h (fun r6 S5 h => ?_)
      refine mr_lload_n C0 dX6_fair_70 rfl (i := 3) rfl ?_
      refine mr_lcmp_ne C0 dX6_fair_71 dX6_fair_72 (tgt := 79) (by decide) (fun c7 => ?_) (fun c7 => ?_)
      · have h := h.1 c7
        refine mr_iconst (v := 0) C0 dX6_fair_79 (by decide) ?_
        refine mr_istore (L1 := [some (.ref 34), some (.int x1), some (.int x2), some (.long y3), none, some (.int (0 : Int32)), some (.int x6)]) C0 dX6_fair_80 (Nat.le_of_ble_eq_true rfl) rfl ?_
        refine mr_iinc (v := (x6 + 1)) (L1 := [some (.ref 34), some (.int x1), some (.int x2), some (.long y3), none, some (.int (0 : Int32)), some (.int (x6 + 1))]) C0 dX6_fair_82 rfl rfl (Nat.le_of_ble_eq_true rfl) rfl ?_
        refine mr_goto C0 dX6_fair_85 (tgt := 45) (by decide) ?_
        exact h zp0 zl0 ze0 zs0 zm0 zargs0 zbelow0 zmeth0 zc0 zD0 zad0 zac0 C0 hr0 hk0
      · have h := h.2 c7
        refine mr_iconst (v := 1) C0 dX6_fair_75 (by decide) ?_
        refine mr_goto C0 dX6_fair_76 (tgt := 80) (by decide) ?_
        refine mr_istore (L1 := [some (.ref 34), some (.int x1), some (.int x2), some (.long y3), none, some (.int (1 : Int32)), some (.int x6)]) C0 dX6_fair_80 (Nat.le_of_ble_eq_true rfl) rfl ?_
        refine mr_iinc (v := (x6 + 1)) (L1 := [some (.ref 34), some (.int x1), some (.int x2), some (.long y3), none, some (.int (1 : Int32)), some (.int (x6 + 1))]) C0 dX6_fair_82 rfl rfl (Nat.le_of_ble_eq_true rfl) rfl ?_
        refine mr_goto C0 dX6_fair_85 (tgt := 45) (by decide) ?_
        exact h zp0 zl0 ze0 zs0 zm0 zargs0 zbelow0 zmeth0 zc0 zD0 zad0 zac0 C0 hr0 hk0
set_option maxRecDepth 100000 in
set_option maxHeartbeats 4000000 in
theorem eX6_noSheet (x0 : Int32) (S : St) (Q : Int32 → St → Prop) (h : ((x0.toInt64 < (0 : Int64) → Q (1 : Int32) S) ∧ (¬ x0.toInt64 < (0 : Int64) → (((3 : Int64) < x0.toInt64 → Q (1 : Int32) S) ∧ (¬ (3 : Int64) < x0.toInt64 → Q (0 : Int32) S))))) : CallV mdX6_noSheet [.int x0] S (qI Q) := by
  refine CallV_of mdX6_noSheet plX6_noSheet 0 (Nat.le_of_ble_eq_true rfl) rfl ?_
  intro zp0 zl0 ze0 zs0 zm0 zargs0 zbelow0 zmeth0 zc0 zD0 zad0 zac0 C0 hr0 hk0
  refine mr_iload_n C0 dX6_noSheet_0 rfl (i := 0) rfl ?_
  refine mr_i2l C0 dX6_noSheet_1 ?_
  refine mr_lconst (v := 0) C0 dX6_noSheet_2 (by decide) ?_
  refine mr_ldc2 C0 dX6_noSheet_3 cn_X6_83 ?_
  refine mr_callSI C0 mdX6_in dX6_noSheet_6 clX6_in ml_X6_79 arX6_in (as := [.long x0.toInt64, .long (0 : Int64), .long (3 : Int64)]) rfl (Nat.le_of_ble_eq_true rfl) (Nat.le_of_ble_eq_true rfl) (Nat.le_of_ble_eq_true rfl) fit0 (CallV_of mdX6_in plX6_in 0 (Nat.le_of_ble_eq_true rfl) rfl ?_) (fun _ _ h => h)
  intro zp1 zl1 ze1 zs1 zm1 zargs1 zbelow1 zmeth1 zc1 zD1 zad1 zac1 C1 hr1 hk1
  refine mr_lload_n C1 dX6_in_0 rfl (i := 0) rfl ?_
  refine mr_lload_n C1 dX6_in_1 rfl (i := 2) rfl ?_
  refine mr_lcmp_lt C1 dX6_in_2 dX6_in_3 (tgt := 17) (by decide) (fun c1 => ?_) (fun c1 => ?_)
  · have h := h.1 c1
    refine mr_iconst (v := 0) C1 dX6_in_17 (by decide) ?_
    refine mr_zret C1 hr1 hk1 dX6_in_18 rfl (qI_mk ?_)
    refine mr_if_ne C0 dX6_noSheet_9 (tgt := 16) (by decide) (fun q => absurd q (by decide)) (fun _ => ?_)
    refine mr_iconst (v := 1) C0 dX6_noSheet_12 (by decide) ?_
    refine mr_goto C0 dX6_noSheet_13 (tgt := 17) (by decide) ?_
    refine mr_zret C0 hr0 hk0 dX6_noSheet_17 rfl (qI_mk ?_)
    exact h
  · have h := h.2 c1
    refine mr_lload_n C1 dX6_in_6 rfl (i := 0) rfl ?_
    refine mr_lload C1 dX6_in_7 rfl ?_
    refine mr_lcmp_gt C1 dX6_in_9 dX6_in_10 (tgt := 17) (by decide) (fun c2 => ?_) (fun c2 => ?_)
    · have h := h.1 c2
      refine mr_iconst (v := 0) C1 dX6_in_17 (by decide) ?_
      refine mr_zret C1 hr1 hk1 dX6_in_18 rfl (qI_mk ?_)
      refine mr_if_ne C0 dX6_noSheet_9 (tgt := 16) (by decide) (fun q => absurd q (by decide)) (fun _ => ?_)
      refine mr_iconst (v := 1) C0 dX6_noSheet_12 (by decide) ?_
      refine mr_goto C0 dX6_noSheet_13 (tgt := 17) (by decide) ?_
      refine mr_zret C0 hr0 hk0 dX6_noSheet_17 rfl (qI_mk ?_)
      exact h
    · have h := h.2 c2
      refine mr_iconst (v := 1) C1 dX6_in_13 (by decide) ?_
      refine mr_goto C1 dX6_in_14 (tgt := 18) (by decide) ?_
      refine mr_zret C1 hr1 hk1 dX6_in_18 rfl (qI_mk ?_)
      refine mr_if_ne C0 dX6_noSheet_9 (tgt := 16) (by decide) (fun _ => ?_) (fun q => absurd q (by decide))
      refine mr_iconst (v := 0) C0 dX6_noSheet_16 (by decide) ?_
      refine mr_zret C0 hr0 hk0 dX6_noSheet_17 rfl (qI_mk ?_)
      exact h
set_option maxRecDepth 100000 in
set_option maxHeartbeats 4000000 in
theorem eX6_sheet (x1 : Int32) (x2 : Int32) (x3 : Int32) (S : St) (Q : Int32 → St → Prop) (h : ((x1.toInt64 < (0 : Int64) → Q (-1 : Int32) (sI S 34 0 (0 : Int32))) ∧ (¬ x1.toInt64 < (0 : Int64) → (((3 : Int64) < x1.toInt64 → Q (-1 : Int32) (sI S 34 0 (0 : Int32))) ∧ (¬ (3 : Int64) < x1.toInt64 → ((x2.toInt64 < (0 : Int64) → Q (-2 : Int32) (sI S 34 0 (0 : Int32))) ∧ (¬ x2.toInt64 < (0 : Int64) → (((2 : Int64) < x2.toInt64 → Q (-2 : Int32) (sI S 34 0 (0 : Int32))) ∧ (¬ (2 : Int64) < x2.toInt64 → ((x3 ≤ (60 : Int32) → ((0 ≤ x3 → (vp_in x1 4) ∧ (vp_in x1 4) ∧ V mdX6_sheet 65 [some (.ref 34), some (.int x1), none, some (.int x3), some (.int (0 : Int32))] [] (sI (sI S 47 x1.toNatClampNeg x3) 48 x1.toNatClampNeg x2) (qI Q)) ∧ (¬ 0 ≤ x3 → Q (-14 : Int32) (sI S 34 0 (4 : Int32))))) ∧ (¬ x3 ≤ (60 : Int32) → Q (-2 : Int32) (sI S 34 0 (0 : Int32))))))))))))) : CallV mdX6_sheet [.ref 34, .int x1, .int x2, .int x3] S (qI Q) := by
  refine CallV_of mdX6_sheet plX6_sheet 1 (Nat.le_of_ble_eq_true rfl) rfl ?_
  intro zp0 zl0 ze0 zs0 zm0 zargs0 zbelow0 zmeth0 zc0 zD0 zad0 zac0 C0 hr0 hk0
  refine mr_iload_n C0 dX6_sheet_0 rfl (i := 1) rfl ?_
  refine mr_callSI C0 mdX6_noSheet dX6_sheet_1 clX6_noSheet ml_X6_117 arX6_noSheet (as := [.int x1]) rfl (Nat.le_of_ble_eq_true rfl) (Nat.le_of_ble_eq_true rfl) (Nat.le_of_ble_eq_true rfl) fit0 (CallV_of mdX6_noSheet plX6_noSheet 0 (Nat.le_of_ble_eq_true rfl) rfl ?_) (fun _ _ h => h)
  intro zp1 zl1 ze1 zs1 zm1 zargs1 zbelow1 zmeth1 zc1 zD1 zad1 zac1 C1 hr1 hk1
  refine mr_iload_n C1 dX6_noSheet_0 rfl (i := 0) rfl ?_
  refine mr_i2l C1 dX6_noSheet_1 ?_
  refine mr_lconst (v := 0) C1 dX6_noSheet_2 (by decide) ?_
  refine mr_ldc2 C1 dX6_noSheet_3 cn_X6_83 ?_
  refine mr_callSI C1 mdX6_in dX6_noSheet_6 clX6_in ml_X6_79 arX6_in (as := [.long x1.toInt64, .long (0 : Int64), .long (3 : Int64)]) rfl (Nat.le_of_ble_eq_true rfl) (Nat.le_of_ble_eq_true rfl) (Nat.le_of_ble_eq_true rfl) fit0 (CallV_of mdX6_in plX6_in 0 (Nat.le_of_ble_eq_true rfl) rfl ?_) (fun _ _ h => h)
  intro zp2 zl2 ze2 zs2 zm2 zargs2 zbelow2 zmeth2 zc2 zD2 zad2 zac2 C2 hr2 hk2
  refine mr_lload_n C2 dX6_in_0 rfl (i := 0) rfl ?_
  refine mr_lload_n C2 dX6_in_1 rfl (i := 2) rfl ?_
  refine mr_lcmp_lt C2 dX6_in_2 dX6_in_3 (tgt := 17) (by decide) (fun c1 => ?_) (fun c1 => ?_)
  · have h := h.1 c1
    refine mr_iconst (v := 0) C2 dX6_in_17 (by decide) ?_
    refine mr_zret C2 hr2 hk2 dX6_in_18 rfl (qI_mk ?_)
    refine mr_if_ne C1 dX6_noSheet_9 (tgt := 16) (by decide) (fun q => absurd q (by decide)) (fun _ => ?_)
    refine mr_iconst (v := 1) C1 dX6_noSheet_12 (by decide) ?_
    refine mr_goto C1 dX6_noSheet_13 (tgt := 17) (by decide) ?_
    refine mr_zret C1 hr1 hk1 dX6_noSheet_17 rfl (qI_mk ?_)
    refine mr_if_eq C0 dX6_sheet_4 (tgt := 13) (by decide) (fun q => absurd q (by decide)) (fun _ => ?_)
    refine mr_aload_n C0 dX6_sheet_7 rfl (i := 0) rfl ?_
    refine mr_iconst (v := (-1)) C0 dX6_sheet_8 (by decide) ?_
    refine mr_callVI C0 mdX6_refused dX6_sheet_9 clX6_refused ml_X6_121 (Nat.le_of_ble_eq_true rfl) rfl rfl arX6_refused (as := [.int (-1 : Int32)]) rfl (Nat.le_of_ble_eq_true rfl) (Nat.le_of_ble_eq_true rfl) (Nat.le_of_ble_eq_true rfl) fit0 (CallV_of mdX6_refused plX6_refused 0 (Nat.le_of_ble_eq_true rfl) rfl ?_) (fun _ _ h => h)
    intro zp3 zl3 ze3 zs3 zm3 zargs3 zbelow3 zmeth3 zc3 zD3 zad3 zac3 C3 hr3 hk3
    refine mr_aload_n C3 dX6_refused_0 rfl (i := 0) rfl ?_
    refine mr_iconst (v := 0) C3 dX6_refused_1 (by decide) ?_
    refine mr_putI C3 dX6_refused_2 fl_X6_61 (Nat.le_of_ble_eq_true rfl) rfl rfl rfl rfl ?_
    refine mr_iload_n C3 dX6_refused_5 rfl (i := 1) rfl ?_
    refine mr_iret C3 hr3 hk3 dX6_refused_6 (qI_mk ?_)
    refine mr_iret C0 hr0 hk0 dX6_sheet_12 (qI_mk ?_)
    exact h
  · have h := h.2 c1
    refine mr_lload_n C2 dX6_in_6 rfl (i := 0) rfl ?_
    refine mr_lload C2 dX6_in_7 rfl ?_
    refine mr_lcmp_gt C2 dX6_in_9 dX6_in_10 (tgt := 17) (by decide) (fun c2 => ?_) (fun c2 => ?_)
    · have h := h.1 c2
      refine mr_iconst (v := 0) C2 dX6_in_17 (by decide) ?_
      refine mr_zret C2 hr2 hk2 dX6_in_18 rfl (qI_mk ?_)
      refine mr_if_ne C1 dX6_noSheet_9 (tgt := 16) (by decide) (fun q => absurd q (by decide)) (fun _ => ?_)
      refine mr_iconst (v := 1) C1 dX6_noSheet_12 (by decide) ?_
      refine mr_goto C1 dX6_noSheet_13 (tgt := 17) (by decide) ?_
      refine mr_zret C1 hr1 hk1 dX6_noSheet_17 rfl (qI_mk ?_)
      refine mr_if_eq C0 dX6_sheet_4 (tgt := 13) (by decide) (fun q => absurd q (by decide)) (fun _ => ?_)
      refine mr_aload_n C0 dX6_sheet_7 rfl (i := 0) rfl ?_
      refine mr_iconst (v := (-1)) C0 dX6_sheet_8 (by decide) ?_
      refine mr_callVI C0 mdX6_refused dX6_sheet_9 clX6_refused ml_X6_121 (Nat.le_of_ble_eq_true rfl) rfl rfl arX6_refused (as := [.int (-1 : Int32)]) rfl (Nat.le_of_ble_eq_true rfl) (Nat.le_of_ble_eq_true rfl) (Nat.le_of_ble_eq_true rfl) fit0 (CallV_of mdX6_refused plX6_refused 0 (Nat.le_of_ble_eq_true rfl) rfl ?_) (fun _ _ h => h)
      intro zp4 zl4 ze4 zs4 zm4 zargs4 zbelow4 zmeth4 zc4 zD4 zad4 zac4 C4 hr4 hk4
      refine mr_aload_n C4 dX6_refused_0 rfl (i := 0) rfl ?_
      refine mr_iconst (v := 0) C4 dX6_refused_1 (by decide) ?_
      refine mr_putI C4 dX6_refused_2 fl_X6_61 (Nat.le_of_ble_eq_true rfl) rfl rfl rfl rfl ?_
      refine mr_iload_n C4 dX6_refused_5 rfl (i := 1) rfl ?_
      refine mr_iret C4 hr4 hk4 dX6_refused_6 (qI_mk ?_)
      refine mr_iret C0 hr0 hk0 dX6_sheet_12 (qI_mk ?_)
      exact h
    · have h := h.2 c2
      refine mr_iconst (v := 1) C2 dX6_in_13 (by decide) ?_
      refine mr_goto C2 dX6_in_14 (tgt := 18) (by decide) ?_
      refine mr_zret C2 hr2 hk2 dX6_in_18 rfl (qI_mk ?_)
      refine mr_if_ne C1 dX6_noSheet_9 (tgt := 16) (by decide) (fun _ => ?_) (fun q => absurd q (by decide))
      refine mr_iconst (v := 0) C1 dX6_noSheet_16 (by decide) ?_
      refine mr_zret C1 hr1 hk1 dX6_noSheet_17 rfl (qI_mk ?_)
      refine mr_if_eq C0 dX6_sheet_4 (tgt := 13) (by decide) (fun _ => ?_) (fun q => absurd q (by decide))
      refine mr_iload_n C0 dX6_sheet_13 rfl (i := 2) rfl ?_
      refine mr_i2l C0 dX6_sheet_14 ?_
      refine mr_lconst (v := 0) C0 dX6_sheet_15 (by decide) ?_
      refine mr_ldc2 C0 dX6_sheet_16 cn_X6_124 ?_
      refine mr_callSI C0 mdX6_in dX6_sheet_19 clX6_in ml_X6_79 arX6_in (as := [.long x2.toInt64, .long (0 : Int64), .long (2 : Int64)]) rfl (Nat.le_of_ble_eq_true rfl) (Nat.le_of_ble_eq_true rfl) (Nat.le_of_ble_eq_true rfl) fit0 (CallV_of mdX6_in plX6_in 0 (Nat.le_of_ble_eq_true rfl) rfl ?_) (fun _ _ h => h)
      intro zp5 zl5 ze5 zs5 zm5 zargs5 zbelow5 zmeth5 zc5 zD5 zad5 zac5 C5 hr5 hk5
      refine mr_lload_n C5 dX6_in_0 rfl (i := 0) rfl ?_
      refine mr_lload_n C5 dX6_in_1 rfl (i := 2) rfl ?_
      refine mr_lcmp_lt C5 dX6_in_2 dX6_in_3 (tgt := 17) (by decide) (fun c3 => ?_) (fun c3 => ?_)
      · have h := h.1 c3
        refine mr_iconst (v := 0) C5 dX6_in_17 (by decide) ?_
        refine mr_zret C5 hr5 hk5 dX6_in_18 rfl (qI_mk ?_)
        refine mr_if_eq C0 dX6_sheet_22 (tgt := 31) (by decide) (fun _ => ?_) (fun q => absurd q (by decide))
        refine mr_aload_n C0 dX6_sheet_31 rfl (i := 0) rfl ?_
        refine mr_bipush (v := (-2)) C0 dX6_sheet_32 (by decide) ?_
        refine mr_callVI C0 mdX6_refused dX6_sheet_34 clX6_refused ml_X6_121 (Nat.le_of_ble_eq_true rfl) rfl rfl arX6_refused (as := [.int (-2 : Int32)]) rfl (Nat.le_of_ble_eq_true rfl) (Nat.le_of_ble_eq_true rfl) (Nat.le_of_ble_eq_true rfl) fit0 (CallV_of mdX6_refused plX6_refused 0 (Nat.le_of_ble_eq_true rfl) rfl ?_) (fun _ _ h => h)
        intro zp6 zl6 ze6 zs6 zm6 zargs6 zbelow6 zmeth6 zc6 zD6 zad6 zac6 C6 hr6 hk6
        refine mr_aload_n C6 dX6_refused_0 rfl (i := 0) rfl ?_
        refine mr_iconst (v := 0) C6 dX6_refused_1 (by decide) ?_
        refine mr_putI C6 dX6_refused_2 fl_X6_61 (Nat.le_of_ble_eq_true rfl) rfl rfl rfl rfl ?_
        refine mr_iload_n C6 dX6_refused_5 rfl (i := 1) rfl ?_
        refine mr_iret C6 hr6 hk6 dX6_refused_6 (qI_mk ?_)
        refine mr_iret C0 hr0 hk0 dX6_sheet_37 (qI_mk ?_)
        exact h
      · have h := h.2 c3
        refine mr_lload_n C5 dX6_in_6 rfl (i := 0) rfl ?_
        refine mr_lload C5 dX6_in_7 rfl ?_
        refine mr_lcmp_gt C5 dX6_in_9 dX6_in_10 (tgt := 17) (by decide) (fun c4 => ?_) (fun c4 => ?_)
        · have h := h.1 c4
          refine mr_iconst (v := 0) C5 dX6_in_17 (by decide) ?_
          refine mr_zret C5 hr5 hk5 dX6_in_18 rfl (qI_mk ?_)
          refine mr_if_eq C0 dX6_sheet_22 (tgt := 31) (by decide) (fun _ => ?_) (fun q => absurd q (by decide))
          refine mr_aload_n C0 dX6_sheet_31 rfl (i := 0) rfl ?_
          refine mr_bipush (v := (-2)) C0 dX6_sheet_32 (by decide) ?_
          refine mr_callVI C0 mdX6_refused dX6_sheet_34 clX6_refused ml_X6_121 (Nat.le_of_ble_eq_true rfl) rfl rfl arX6_refused (as := [.int (-2 : Int32)]) rfl (Nat.le_of_ble_eq_true rfl) (Nat.le_of_ble_eq_true rfl) (Nat.le_of_ble_eq_true rfl) fit0 (CallV_of mdX6_refused plX6_refused 0 (Nat.le_of_ble_eq_true rfl) rfl ?_) (fun _ _ h => h)
          intro zp7 zl7 ze7 zs7 zm7 zargs7 zbelow7 zmeth7 zc7 zD7 zad7 zac7 C7 hr7 hk7
          refine mr_aload_n C7 dX6_refused_0 rfl (i := 0) rfl ?_
          refine mr_iconst (v := 0) C7 dX6_refused_1 (by decide) ?_
          refine mr_putI C7 dX6_refused_2 fl_X6_61 (Nat.le_of_ble_eq_true rfl) rfl rfl rfl rfl ?_
          refine mr_iload_n C7 dX6_refused_5 rfl (i := 1) rfl ?_
          refine mr_iret C7 hr7 hk7 dX6_refused_6 (qI_mk ?_)
          refine mr_iret C0 hr0 hk0 dX6_sheet_37 (qI_mk ?_)
          exact h
        · have h := h.2 c4
          refine mr_iconst (v := 1) C5 dX6_in_13 (by decide) ?_
          refine mr_goto C5 dX6_in_14 (tgt := 18) (by decide) ?_
          refine mr_zret C5 hr5 hk5 dX6_in_18 rfl (qI_mk ?_)
          refine mr_if_eq C0 dX6_sheet_22 (tgt := 31) (by decide) (fun q => absurd q (by decide)) (fun _ => ?_)
          refine mr_iload_n C0 dX6_sheet_25 rfl (i := 3) rfl ?_
          refine mr_bipush (v := 60) C0 dX6_sheet_26 (by decide) ?_
          refine mr_icmp_le C0 dX6_sheet_28 (tgt := 38) (by decide) (fun c5 => ?_) (fun c5 => ?_)
          · have h := h.1 c5
            refine mr_iload_n C0 dX6_sheet_38 rfl (i := 3) rfl ?_
            refine mr_if_ge C0 dX6_sheet_39 (tgt := 48) (by decide) (fun c6 => ?_) (fun c6 => ?_)
            · have h := h.1 c6
              refine mr_aload_n C0 dX6_sheet_48 rfl (i := 0) rfl ?_
              refine mr_getR C0 dX6_sheet_49 fl_X6_47 (Nat.le_of_ble_eq_true rfl) rfl rfl ?_
              refine mr_iload_n C0 dX6_sheet_52 rfl (i := 1) rfl ?_
              refine mr_iload_n C0 dX6_sheet_53 rfl (i := 3) rfl ?_
              have g7 := h.1
              have h := h.2
              refine mr_iast C0 dX6_sheet_54 (Nat.le_of_ble_eq_true rfl) rfl g7 ?_
              refine mr_aload_n C0 dX6_sheet_55 rfl (i := 0) rfl ?_
              refine mr_getR C0 dX6_sheet_56 fl_X6_50 (Nat.le_of_ble_eq_true rfl) rfl rfl ?_
              refine mr_iload_n C0 dX6_sheet_59 rfl (i := 1) rfl ?_
              refine mr_iload_n C0 dX6_sheet_60 rfl (i := 2) rfl ?_
              have g8 := h.1
              have h := h.2
              refine mr_iast C0 dX6_sheet_61 (Nat.le_of_ble_eq_true rfl) rfl g8 ?_
              refine mr_iconst (v := 0) C0 dX6_sheet_62 (by decide) ?_
              refine mr_istore (L1 := [some (.ref 34), some (.int x1), some (.int x2), some (.int x3), some (.int (0 : Int32))]) C0 dX6_sheet_63 (Nat.le_of_ble_eq_true rfl) rfl ?_
              refine mr_mask (L1 := [some (.ref 34), some (.int x1), none, some (.int x3), some (.int (0 : Int32))]) C0 [true, true, false, true, true] rfl ?_
              exact h zp0 zl0 ze0 zs0 zm0 zargs0 zbelow0 zmeth0 zc0 zD0 zad0 zac0 C0 hr0 hk0
            · have h := h.2 c6
              refine mr_aload_n C0 dX6_sheet_42 rfl (i := 0) rfl ?_
              refine mr_iconst (v := 4) C0 dX6_sheet_43 (by decide) ?_
              refine mr_callVI C0 mdX6_failed dX6_sheet_44 clX6_failed ml_X6_110 (Nat.le_of_ble_eq_true rfl) rfl rfl arX6_failed (as := [.int (4 : Int32)]) rfl (Nat.le_of_ble_eq_true rfl) (Nat.le_of_ble_eq_true rfl) (Nat.le_of_ble_eq_true rfl) fit0 (CallV_of mdX6_failed plX6_failed 0 (Nat.le_of_ble_eq_true rfl) rfl ?_) (fun _ _ h => h)
              intro zp8 zl8 ze8 zs8 zm8 zargs8 zbelow8 zmeth8 zc8 zD8 zad8 zac8 C8 hr8 hk8
              refine mr_aload_n C8 dX6_failed_0 rfl (i := 0) rfl ?_
              refine mr_iload_n C8 dX6_failed_1 rfl (i := 1) rfl ?_
              refine mr_putI C8 dX6_failed_2 fl_X6_61 (Nat.le_of_ble_eq_true rfl) rfl rfl rfl rfl ?_
              refine mr_bipush (v := (-10)) C8 dX6_failed_5 (by decide) ?_
              refine mr_iload_n C8 dX6_failed_7 rfl (i := 1) rfl ?_
              refine mr_isub C8 dX6_failed_8 ?_
              refine mr_topI (y := (-14 : Int32)) (by decide) ?_
              refine mr_iret C8 hr8 hk8 dX6_failed_9 (qI_mk ?_)
              refine mr_iret C0 hr0 hk0 dX6_sheet_47 (qI_mk ?_)
              exact h
          · have h := h.2 c5
            refine mr_aload_n C0 dX6_sheet_31 rfl (i := 0) rfl ?_
            refine mr_bipush (v := (-2)) C0 dX6_sheet_32 (by decide) ?_
            refine mr_callVI C0 mdX6_refused dX6_sheet_34 clX6_refused ml_X6_121 (Nat.le_of_ble_eq_true rfl) rfl rfl arX6_refused (as := [.int (-2 : Int32)]) rfl (Nat.le_of_ble_eq_true rfl) (Nat.le_of_ble_eq_true rfl) (Nat.le_of_ble_eq_true rfl) fit0 (CallV_of mdX6_refused plX6_refused 0 (Nat.le_of_ble_eq_true rfl) rfl ?_) (fun _ _ h => h)
            intro zp9 zl9 ze9 zs9 zm9 zargs9 zbelow9 zmeth9 zc9 zD9 zad9 zac9 C9 hr9 hk9
            refine mr_aload_n C9 dX6_refused_0 rfl (i := 0) rfl ?_
            refine mr_iconst (v := 0) C9 dX6_refused_1 (by decide) ?_
            refine mr_putI C9 dX6_refused_2 fl_X6_61 (Nat.le_of_ble_eq_true rfl) rfl rfl rfl rfl ?_
            refine mr_iload_n C9 dX6_refused_5 rfl (i := 1) rfl ?_
            refine mr_iret C9 hr9 hk9 dX6_refused_6 (qI_mk ?_)
            refine mr_iret C0 hr0 hk0 dX6_sheet_37 (qI_mk ?_)
            exact h
set_option maxRecDepth 100000 in
set_option maxHeartbeats 4000000 in
theorem eX6_sheet_65 (x1 : Int32) (x3 : Int32) (x4 : Int32) (S : St) (Q : Int32 → St → Prop) (h : ((x3 ≤ x4 → Q (1 : Int32) (sI S 34 0 (0 : Int32))) ∧ (¬ x3 ≤ x4 → (vp_in (((60 : Int32) * x1) + x4) 240) ∧ V mdX6_sheet 65 [some (.ref 34), some (.int x1), none, some (.int x3), some (.int (x4 + 1))] [] (sI S 49 ((((60 : Int32) * x1) + x4).toNatClampNeg) (0 : Int32)) (qI Q)))) : V mdX6_sheet 65 [some (.ref 34), some (.int x1), none, some (.int x3), some (.int x4)] [] S (qI Q) := by
  intro zp0 zl0 ze0 zs0 zm0 zargs0 zbelow0 zmeth0 zc0 zD0 zad0 zac0 C0 hr0 hk0
  refine mr_iload C0 dX6_sheet_65 rfl ?_
  refine mr_iload_n C0 dX6_sheet_67 rfl (i := 3) rfl ?_
  refine mr_icmp_ge C0 dX6_sheet_68 (tgt := 90) (by decide) (fun c1 => ?_) (fun c1 => ?_)
  · have h := h.1 c1
    refine mr_aload_n C0 dX6_sheet_90 rfl (i := 0) rfl ?_
    refine mr_iconst (v := 1) C0 dX6_sheet_91 (by decide) ?_
    refine mr_callVI C0 mdX6_refused dX6_sheet_92 clX6_refused ml_X6_121 (Nat.le_of_ble_eq_true rfl) rfl rfl arX6_refused (as := [.int (1 : Int32)]) rfl (Nat.le_of_ble_eq_true rfl) (Nat.le_of_ble_eq_true rfl) (Nat.le_of_ble_eq_true rfl) fit0 (CallV_of mdX6_refused plX6_refused 0 (Nat.le_of_ble_eq_true rfl) rfl ?_) (fun _ _ h => h)
    intro zp1 zl1 ze1 zs1 zm1 zargs1 zbelow1 zmeth1 zc1 zD1 zad1 zac1 C1 hr1 hk1
    refine mr_aload_n C1 dX6_refused_0 rfl (i := 0) rfl ?_
    refine mr_iconst (v := 0) C1 dX6_refused_1 (by decide) ?_
    refine mr_putI C1 dX6_refused_2 fl_X6_61 (Nat.le_of_ble_eq_true rfl) rfl rfl rfl rfl ?_
    refine mr_iload_n C1 dX6_refused_5 rfl (i := 1) rfl ?_
    refine mr_iret C1 hr1 hk1 dX6_refused_6 (qI_mk ?_)
    refine mr_iret C0 hr0 hk0 dX6_sheet_95 (qI_mk ?_)
    exact h
  · have h := h.2 c1
    refine mr_aload_n C0 dX6_sheet_71 rfl (i := 0) rfl ?_
    refine mr_getR C0 dX6_sheet_72 fl_X6_53 (Nat.le_of_ble_eq_true rfl) rfl rfl ?_
    refine mr_bipush (v := 60) C0 dX6_sheet_75 (by decide) ?_
    refine mr_iload_n C0 dX6_sheet_77 rfl (i := 1) rfl ?_
    refine mr_imul C0 dX6_sheet_78 ?_
    refine mr_iload C0 dX6_sheet_79 rfl ?_
    refine mr_iadd C0 dX6_sheet_81 ?_
    refine mr_iconst (v := 0) C0 dX6_sheet_82 (by decide) ?_
    have g2 := h.1
    have h := h.2
    refine mr_iast C0 dX6_sheet_83 (Nat.le_of_ble_eq_true rfl) rfl g2 ?_
    refine mr_iinc (v := (x4 + 1)) (L1 := [some (.ref 34), some (.int x1), none, some (.int x3), some (.int (x4 + 1))]) C0 dX6_sheet_84 rfl rfl (Nat.le_of_ble_eq_true rfl) rfl ?_
    refine mr_goto C0 dX6_sheet_87 (tgt := 65) (by decide) ?_
    exact h zp0 zl0 ze0 zs0 zm0 zargs0 zbelow0 zmeth0 zc0 zD0 zad0 zac0 C0 hr0 hk0
set_option maxRecDepth 100000 in
set_option maxHeartbeats 4000000 in
theorem eX6_lose (x1 : Int32) (S : St) (Q : Int32 → St → Prop) (h : ((x1.toInt64 < (0 : Int64) → Q (-1 : Int32) S) ∧ (¬ x1.toInt64 < (0 : Int64) → (((3 : Int64) < x1.toInt64 → Q (-1 : Int32) S) ∧ (¬ (3 : Int64) < x1.toInt64 → (vp_in x1 4) ∧ ((0 ≤ (S.1 47 x1.toNatClampNeg) → (vp_in x1 4) ∧ Q (1 : Int32) (sI S 47 x1.toNatClampNeg (-1 : Int32))) ∧ (¬ 0 ≤ (S.1 47 x1.toNatClampNeg) → (vp_in x1 4) ∧ Q (0 : Int32) (sI S 47 x1.toNatClampNeg (-1 : Int32))))))))) : CallV mdX6_lose [.ref 34, .int x1] S (qI Q) := by
  refine CallV_of mdX6_lose plX6_lose 1 (Nat.le_of_ble_eq_true rfl) rfl ?_
  intro zp0 zl0 ze0 zs0 zm0 zargs0 zbelow0 zmeth0 zc0 zD0 zad0 zac0 C0 hr0 hk0
  refine mr_iload_n C0 dX6_lose_0 rfl (i := 1) rfl ?_
  refine mr_callSI C0 mdX6_noSheet dX6_lose_1 clX6_noSheet ml_X6_117 arX6_noSheet (as := [.int x1]) rfl (Nat.le_of_ble_eq_true rfl) (Nat.le_of_ble_eq_true rfl) (Nat.le_of_ble_eq_true rfl) fit0 (CallV_of mdX6_noSheet plX6_noSheet 0 (Nat.le_of_ble_eq_true rfl) rfl ?_) (fun _ _ h => h)
  intro zp1 zl1 ze1 zs1 zm1 zargs1 zbelow1 zmeth1 zc1 zD1 zad1 zac1 C1 hr1 hk1
  refine mr_iload_n C1 dX6_noSheet_0 rfl (i := 0) rfl ?_
  refine mr_i2l C1 dX6_noSheet_1 ?_
  refine mr_lconst (v := 0) C1 dX6_noSheet_2 (by decide) ?_
  refine mr_ldc2 C1 dX6_noSheet_3 cn_X6_83 ?_
  refine mr_callSI C1 mdX6_in dX6_noSheet_6 clX6_in ml_X6_79 arX6_in (as := [.long x1.toInt64, .long (0 : Int64), .long (3 : Int64)]) rfl (Nat.le_of_ble_eq_true rfl) (Nat.le_of_ble_eq_true rfl) (Nat.le_of_ble_eq_true rfl) fit0 (CallV_of mdX6_in plX6_in 0 (Nat.le_of_ble_eq_true rfl) rfl ?_) (fun _ _ h => h)
  intro zp2 zl2 ze2 zs2 zm2 zargs2 zbelow2 zmeth2 zc2 zD2 zad2 zac2 C2 hr2 hk2
  refine mr_lload_n C2 dX6_in_0 rfl (i := 0) rfl ?_
  refine mr_lload_n C2 dX6_in_1 rfl (i := 2) rfl ?_
  refine mr_lcmp_lt C2 dX6_in_2 dX6_in_3 (tgt := 17) (by decide) (fun c1 => ?_) (fun c1 => ?_)
  · have h := h.1 c1
    refine mr_iconst (v := 0) C2 dX6_in_17 (by decide) ?_
    refine mr_zret C2 hr2 hk2 dX6_in_18 rfl (qI_mk ?_)
    refine mr_if_ne C1 dX6_noSheet_9 (tgt := 16) (by decide) (fun q => absurd q (by decide)) (fun _ => ?_)
    refine mr_iconst (v := 1) C1 dX6_noSheet_12 (by decide) ?_
    refine mr_goto C1 dX6_noSheet_13 (tgt := 17) (by decide) ?_
    refine mr_zret C1 hr1 hk1 dX6_noSheet_17 rfl (qI_mk ?_)
    refine mr_if_eq C0 dX6_lose_4 (tgt := 9) (by decide) (fun q => absurd q (by decide)) (fun _ => ?_)
    refine mr_iconst (v := (-1)) C0 dX6_lose_7 (by decide) ?_
    refine mr_iret C0 hr0 hk0 dX6_lose_8 (qI_mk ?_)
    exact h
  · have h := h.2 c1
    refine mr_lload_n C2 dX6_in_6 rfl (i := 0) rfl ?_
    refine mr_lload C2 dX6_in_7 rfl ?_
    refine mr_lcmp_gt C2 dX6_in_9 dX6_in_10 (tgt := 17) (by decide) (fun c2 => ?_) (fun c2 => ?_)
    · have h := h.1 c2
      refine mr_iconst (v := 0) C2 dX6_in_17 (by decide) ?_
      refine mr_zret C2 hr2 hk2 dX6_in_18 rfl (qI_mk ?_)
      refine mr_if_ne C1 dX6_noSheet_9 (tgt := 16) (by decide) (fun q => absurd q (by decide)) (fun _ => ?_)
      refine mr_iconst (v := 1) C1 dX6_noSheet_12 (by decide) ?_
      refine mr_goto C1 dX6_noSheet_13 (tgt := 17) (by decide) ?_
      refine mr_zret C1 hr1 hk1 dX6_noSheet_17 rfl (qI_mk ?_)
      refine mr_if_eq C0 dX6_lose_4 (tgt := 9) (by decide) (fun q => absurd q (by decide)) (fun _ => ?_)
      refine mr_iconst (v := (-1)) C0 dX6_lose_7 (by decide) ?_
      refine mr_iret C0 hr0 hk0 dX6_lose_8 (qI_mk ?_)
      exact h
    · have h := h.2 c2
      refine mr_iconst (v := 1) C2 dX6_in_13 (by decide) ?_
      refine mr_goto C2 dX6_in_14 (tgt := 18) (by decide) ?_
      refine mr_zret C2 hr2 hk2 dX6_in_18 rfl (qI_mk ?_)
      refine mr_if_ne C1 dX6_noSheet_9 (tgt := 16) (by decide) (fun _ => ?_) (fun q => absurd q (by decide))
      refine mr_iconst (v := 0) C1 dX6_noSheet_16 (by decide) ?_
      refine mr_zret C1 hr1 hk1 dX6_noSheet_17 rfl (qI_mk ?_)
      refine mr_if_eq C0 dX6_lose_4 (tgt := 9) (by decide) (fun _ => ?_) (fun q => absurd q (by decide))
      refine mr_aload_n C0 dX6_lose_9 rfl (i := 0) rfl ?_
      refine mr_getR C0 dX6_lose_10 fl_X6_47 (Nat.le_of_ble_eq_true rfl) rfl rfl ?_
      refine mr_iload_n C0 dX6_lose_13 rfl (i := 1) rfl ?_
      have g3 := h.1
      have h := h.2
      refine mr_iald C0 dX6_lose_14 (Nat.le_of_ble_eq_true rfl) rfl g3 ?_
      refine mr_if_ge C0 dX6_lose_15 (tgt := 22) (by decide) (fun c4 => ?_) (fun c4 => ?_)
      · have h := h.1 c4
        refine mr_iconst (v := 1) C0 dX6_lose_22 (by decide) ?_
        refine mr_istore_n (L1 := [some (.ref 34), some (.int x1), some (.int (1 : Int32))]) C0 dX6_lose_23 rfl (Nat.le_of_ble_eq_true rfl) rfl ?_
        refine mr_aload_n C0 dX6_lose_24 rfl (i := 0) rfl ?_
        refine mr_getR C0 dX6_lose_25 fl_X6_47 (Nat.le_of_ble_eq_true rfl) rfl rfl ?_
        refine mr_iload_n C0 dX6_lose_28 rfl (i := 1) rfl ?_
        refine mr_iconst (v := (-1)) C0 dX6_lose_29 (by decide) ?_
        have g5 := h.1
        have h := h.2
        refine mr_iast C0 dX6_lose_30 (Nat.le_of_ble_eq_true rfl) rfl g5 ?_
        refine mr_iload_n C0 dX6_lose_31 rfl (i := 2) rfl ?_
        refine mr_iret C0 hr0 hk0 dX6_lose_32 (qI_mk ?_)
        exact h
      · have h := h.2 c4
        refine mr_iconst (v := 0) C0 dX6_lose_18 (by decide) ?_
        refine mr_goto C0 dX6_lose_19 (tgt := 23) (by decide) ?_
        refine mr_istore_n (L1 := [some (.ref 34), some (.int x1), some (.int (0 : Int32))]) C0 dX6_lose_23 rfl (Nat.le_of_ble_eq_true rfl) rfl ?_
        refine mr_aload_n C0 dX6_lose_24 rfl (i := 0) rfl ?_
        refine mr_getR C0 dX6_lose_25 fl_X6_47 (Nat.le_of_ble_eq_true rfl) rfl rfl ?_
        refine mr_iload_n C0 dX6_lose_28 rfl (i := 1) rfl ?_
        refine mr_iconst (v := (-1)) C0 dX6_lose_29 (by decide) ?_
        have g6 := h.1
        have h := h.2
        refine mr_iast C0 dX6_lose_30 (Nat.le_of_ble_eq_true rfl) rfl g6 ?_
        refine mr_iload_n C0 dX6_lose_31 rfl (i := 2) rfl ?_
        refine mr_iret C0 hr0 hk0 dX6_lose_32 (qI_mk ?_)
        exact h
set_option maxRecDepth 100000 in
set_option maxHeartbeats 4000000 in
theorem eX6_noCell_ (x1 : Int32) (x2 : Int32) (S : St) (Q : Int32 → St → Prop) (h : (vp_in x1 4) ∧ ((0 ≤ (S.1 47 x1.toNatClampNeg) → (vp_in x1 4) ∧ ((x2.toInt64 < (0 : Int64) → Q (3 : Int32) S) ∧ (¬ x2.toInt64 < (0 : Int64) → ((((S.1 47 x1.toNatClampNeg).toInt64 - (1 : Int64)) < x2.toInt64 → Q (3 : Int32) S) ∧ (¬ ((S.1 47 x1.toNatClampNeg).toInt64 - (1 : Int64)) < x2.toInt64 → Q (0 : Int32) S))))) ∧ (¬ 0 ≤ (S.1 47 x1.toNatClampNeg) → Q (1 : Int32) S))) : CallV mdX6_noCell_ [.ref 34, .int x1, .int x2] S (qI Q) := by
  refine CallV_of mdX6_noCell_ plX6_noCell_ 0 (Nat.le_of_ble_eq_true rfl) rfl ?_
  intro zp0 zl0 ze0 zs0 zm0 zargs0 zbelow0 zmeth0 zc0 zD0 zad0 zac0 C0 hr0 hk0
  refine mr_aload_n C0 dX6_noCell__0 rfl (i := 0) rfl ?_
  refine mr_getR C0 dX6_noCell__1 fl_X6_47 (Nat.le_of_ble_eq_true rfl) rfl rfl ?_
  refine mr_iload_n C0 dX6_noCell__4 rfl (i := 1) rfl ?_
  have g1 := h.1
  have h := h.2
  refine mr_iald C0 dX6_noCell__5 (Nat.le_of_ble_eq_true rfl) rfl g1 ?_
  refine mr_if_ge C0 dX6_noCell__6 (tgt := 13) (by decide) (fun c2 => ?_) (fun c2 => ?_)
  · have h := h.1 c2
    refine mr_iload_n C0 dX6_noCell__13 rfl (i := 2) rfl ?_
    refine mr_i2l C0 dX6_noCell__14 ?_
    refine mr_lconst (v := 0) C0 dX6_noCell__15 (by decide) ?_
    refine mr_aload_n C0 dX6_noCell__16 rfl (i := 0) rfl ?_
    refine mr_getR C0 dX6_noCell__17 fl_X6_47 (Nat.le_of_ble_eq_true rfl) rfl rfl ?_
    refine mr_iload_n C0 dX6_noCell__20 rfl (i := 1) rfl ?_
    have g3 := h.1
    have h := h.2
    refine mr_iald C0 dX6_noCell__21 (Nat.le_of_ble_eq_true rfl) rfl g3 ?_
    refine mr_i2l C0 dX6_noCell__22 ?_
    refine mr_lconst (v := 1) C0 dX6_noCell__23 (by decide) ?_
    refine mr_lsub C0 dX6_noCell__24 ?_
    refine mr_callSI C0 mdX6_in dX6_noCell__25 clX6_in ml_X6_79 arX6_in (as := [.long x2.toInt64, .long (0 : Int64), .long ((S.1 47 x1.toNatClampNeg).toInt64 - (1 : Int64))]) rfl (Nat.le_of_ble_eq_true rfl) (Nat.le_of_ble_eq_true rfl) (Nat.le_of_ble_eq_true rfl) fit0 (CallV_of mdX6_in plX6_in 0 (Nat.le_of_ble_eq_true rfl) rfl ?_) (fun _ _ h => h)
    intro zp1 zl1 ze1 zs1 zm1 zargs1 zbelow1 zmeth1 zc1 zD1 zad1 zac1 C1 hr1 hk1
    refine mr_lload_n C1 dX6_in_0 rfl (i := 0) rfl ?_
    refine mr_lload_n C1 dX6_in_1 rfl (i := 2) rfl ?_
    refine mr_lcmp_lt C1 dX6_in_2 dX6_in_3 (tgt := 17) (by decide) (fun c4 => ?_) (fun c4 => ?_)
    · have h := h.1 c4
      refine mr_iconst (v := 0) C1 dX6_in_17 (by decide) ?_
      refine mr_zret C1 hr1 hk1 dX6_in_18 rfl (qI_mk ?_)
      refine mr_if_eq C0 dX6_noCell__28 (tgt := 35) (by decide) (fun _ => ?_) (fun q => absurd q (by decide))
      refine mr_iconst (v := 3) C0 dX6_noCell__35 (by decide) ?_
      refine mr_iret C0 hr0 hk0 dX6_noCell__36 (qI_mk ?_)
      exact h
    · have h := h.2 c4
      refine mr_lload_n C1 dX6_in_6 rfl (i := 0) rfl ?_
      refine mr_lload C1 dX6_in_7 rfl ?_
      refine mr_lcmp_gt C1 dX6_in_9 dX6_in_10 (tgt := 17) (by decide) (fun c5 => ?_) (fun c5 => ?_)
      · have h := h.1 c5
        refine mr_iconst (v := 0) C1 dX6_in_17 (by decide) ?_
        refine mr_zret C1 hr1 hk1 dX6_in_18 rfl (qI_mk ?_)
        refine mr_if_eq C0 dX6_noCell__28 (tgt := 35) (by decide) (fun _ => ?_) (fun q => absurd q (by decide))
        refine mr_iconst (v := 3) C0 dX6_noCell__35 (by decide) ?_
        refine mr_iret C0 hr0 hk0 dX6_noCell__36 (qI_mk ?_)
        exact h
      · have h := h.2 c5
        refine mr_iconst (v := 1) C1 dX6_in_13 (by decide) ?_
        refine mr_goto C1 dX6_in_14 (tgt := 18) (by decide) ?_
        refine mr_zret C1 hr1 hk1 dX6_in_18 rfl (qI_mk ?_)
        refine mr_if_eq C0 dX6_noCell__28 (tgt := 35) (by decide) (fun q => absurd q (by decide)) (fun _ => ?_)
        refine mr_iconst (v := 0) C0 dX6_noCell__31 (by decide) ?_
        refine mr_goto C0 dX6_noCell__32 (tgt := 36) (by decide) ?_
        refine mr_iret C0 hr0 hk0 dX6_noCell__36 (qI_mk ?_)
        exact h
  · have h := h.2 c2
    refine mr_iconst (v := 1) C0 dX6_noCell__9 (by decide) ?_
    refine mr_goto C0 dX6_noCell__10 (tgt := 36) (by decide) ?_
    refine mr_iret C0 hr0 hk0 dX6_noCell__36 (qI_mk ?_)
    exact h
set_option maxRecDepth 100000 in
set_option maxHeartbeats 4000000 in
theorem eX6_put (x1 : Int32) (x2 : Int32) (x3 : Int32) (S : St) (Q : Int32 → St → Prop) (h : ((x1.toInt64 < (0 : Int64) → Q (-1 : Int32) (sI S 34 0 (0 : Int32))) ∧ (¬ x1.toInt64 < (0 : Int64) → (((3 : Int64) < x1.toInt64 → Q (-1 : Int32) (sI S 34 0 (0 : Int32))) ∧ (¬ (3 : Int64) < x1.toInt64 → CallV mdX6_noCell_ [.ref 34, .int x1, .int x2] S (qI fun r4 S3 => ((r4 ≤ 0 → (vp_in x1 4) ∧ ((¬ (S3.1 48 x1.toNatClampNeg) = 0 → (vp_in x1 4) ∧ ((¬ (S3.1 48 x1.toNatClampNeg) = (1 : Int32) → (vp_in (((60 : Int32) * x1) + x2) 240) ∧ Q (1 : Int32) (sI (sI S3 49 ((((60 : Int32) * x1) + x2).toNatClampNeg) x3) 34 0 (0 : Int32))) ∧ ((S3.1 48 x1.toNatClampNeg) = (1 : Int32) → (vp_in (((60 : Int32) * x1) + x2) 240) ∧ Q (1 : Int32) (sI (sI S3 49 ((((60 : Int32) * x1) + x2).toNatClampNeg) x3.toInt16.toInt32) 34 0 (0 : Int32))))) ∧ ((S3.1 48 x1.toNatClampNeg) = 0 → (vp_in (((60 : Int32) * x1) + x2) 240) ∧ Q (1 : Int32) (sI (sI S3 49 ((((60 : Int32) * x1) + x2).toNatClampNeg) x3.toInt8.toInt32) 34 0 (0 : Int32))))) ∧ (¬ r4 ≤ 0 → CallV mdX6_noCell_ [.ref 34, .int x1, .int x2] S3 (qI fun r14 S13 => Q ((-10 : Int32) - r14) (sI S13 34 0 r14)))))))))) : CallV mdX6_put [.ref 34, .int x1, .int x2, .int x3] S (qI Q) := by
  refine CallV_of mdX6_put plX6_put 0 (Nat.le_of_ble_eq_true rfl) rfl ?_
  intro zp0 zl0 ze0 zs0 zm0 zargs0 zbelow0 zmeth0 zc0 zD0 zad0 zac0 C0 hr0 hk0
  refine mr_iload_n C0 dX6_put_0 rfl (i := 1) rfl ?_
  refine mr_callSI C0 mdX6_noSheet dX6_put_1 clX6_noSheet ml_X6_117 arX6_noSheet (as := [.int x1]) rfl (Nat.le_of_ble_eq_true rfl) (Nat.le_of_ble_eq_true rfl) (Nat.le_of_ble_eq_true rfl) fit0 (CallV_of mdX6_noSheet plX6_noSheet 0 (Nat.le_of_ble_eq_true rfl) rfl ?_) (fun _ _ h => h)
  intro zp1 zl1 ze1 zs1 zm1 zargs1 zbelow1 zmeth1 zc1 zD1 zad1 zac1 C1 hr1 hk1
  refine mr_iload_n C1 dX6_noSheet_0 rfl (i := 0) rfl ?_
  refine mr_i2l C1 dX6_noSheet_1 ?_
  refine mr_lconst (v := 0) C1 dX6_noSheet_2 (by decide) ?_
  refine mr_ldc2 C1 dX6_noSheet_3 cn_X6_83 ?_
  refine mr_callSI C1 mdX6_in dX6_noSheet_6 clX6_in ml_X6_79 arX6_in (as := [.long x1.toInt64, .long (0 : Int64), .long (3 : Int64)]) rfl (Nat.le_of_ble_eq_true rfl) (Nat.le_of_ble_eq_true rfl) (Nat.le_of_ble_eq_true rfl) fit0 (CallV_of mdX6_in plX6_in 0 (Nat.le_of_ble_eq_true rfl) rfl ?_) (fun _ _ h => h)
  intro zp2 zl2 ze2 zs2 zm2 zargs2 zbelow2 zmeth2 zc2 zD2 zad2 zac2 C2 hr2 hk2
  refine mr_lload_n C2 dX6_in_0 rfl (i := 0) rfl ?_
  refine mr_lload_n C2 dX6_in_1 rfl (i := 2) rfl ?_
  refine mr_lcmp_lt C2 dX6_in_2 dX6_in_3 (tgt := 17) (by decide) (fun c1 => ?_) (fun c1 => ?_)
  · have h := h.1 c1
    refine mr_iconst (v := 0) C2 dX6_in_17 (by decide) ?_
    refine mr_zret C2 hr2 hk2 dX6_in_18 rfl (qI_mk ?_)
    refine mr_if_ne C1 dX6_noSheet_9 (tgt := 16) (by decide) (fun q => absurd q (by decide)) (fun _ => ?_)
    refine mr_iconst (v := 1) C1 dX6_noSheet_12 (by decide) ?_
    refine mr_goto C1 dX6_noSheet_13 (tgt := 17) (by decide) ?_
    refine mr_zret C1 hr1 hk1 dX6_noSheet_17 rfl (qI_mk ?_)
    refine mr_if_eq C0 dX6_put_4 (tgt := 13) (by decide) (fun q => absurd q (by decide)) (fun _ => ?_)
    refine mr_aload_n C0 dX6_put_7 rfl (i := 0) rfl ?_
    refine mr_iconst (v := (-1)) C0 dX6_put_8 (by decide) ?_
    refine mr_callVI C0 mdX6_refused dX6_put_9 clX6_refused ml_X6_121 (Nat.le_of_ble_eq_true rfl) rfl rfl arX6_refused (as := [.int (-1 : Int32)]) rfl (Nat.le_of_ble_eq_true rfl) (Nat.le_of_ble_eq_true rfl) (Nat.le_of_ble_eq_true rfl) fit0 (CallV_of mdX6_refused plX6_refused 0 (Nat.le_of_ble_eq_true rfl) rfl ?_) (fun _ _ h => h)
    intro zp3 zl3 ze3 zs3 zm3 zargs3 zbelow3 zmeth3 zc3 zD3 zad3 zac3 C3 hr3 hk3
    refine mr_aload_n C3 dX6_refused_0 rfl (i := 0) rfl ?_
    refine mr_iconst (v := 0) C3 dX6_refused_1 (by decide) ?_
    refine mr_putI C3 dX6_refused_2 fl_X6_61 (Nat.le_of_ble_eq_true rfl) rfl rfl rfl rfl ?_
    refine mr_iload_n C3 dX6_refused_5 rfl (i := 1) rfl ?_
    refine mr_iret C3 hr3 hk3 dX6_refused_6 (qI_mk ?_)
    refine mr_iret C0 hr0 hk0 dX6_put_12 (qI_mk ?_)
    exact h
  · have h := h.2 c1
    refine mr_lload_n C2 dX6_in_6 rfl (i := 0) rfl ?_
    refine mr_lload C2 dX6_in_7 rfl ?_
    refine mr_lcmp_gt C2 dX6_in_9 dX6_in_10 (tgt := 17) (by decide) (fun c2 => ?_) (fun c2 => ?_)
    · have h := h.1 c2
      refine mr_iconst (v := 0) C2 dX6_in_17 (by decide) ?_
      refine mr_zret C2 hr2 hk2 dX6_in_18 rfl (qI_mk ?_)
      refine mr_if_ne C1 dX6_noSheet_9 (tgt := 16) (by decide) (fun q => absurd q (by decide)) (fun _ => ?_)
      refine mr_iconst (v := 1) C1 dX6_noSheet_12 (by decide) ?_
      refine mr_goto C1 dX6_noSheet_13 (tgt := 17) (by decide) ?_
      refine mr_zret C1 hr1 hk1 dX6_noSheet_17 rfl (qI_mk ?_)
      refine mr_if_eq C0 dX6_put_4 (tgt := 13) (by decide) (fun q => absurd q (by decide)) (fun _ => ?_)
      refine mr_aload_n C0 dX6_put_7 rfl (i := 0) rfl ?_
      refine mr_iconst (v := (-1)) C0 dX6_put_8 (by decide) ?_
      refine mr_callVI C0 mdX6_refused dX6_put_9 clX6_refused ml_X6_121 (Nat.le_of_ble_eq_true rfl) rfl rfl arX6_refused (as := [.int (-1 : Int32)]) rfl (Nat.le_of_ble_eq_true rfl) (Nat.le_of_ble_eq_true rfl) (Nat.le_of_ble_eq_true rfl) fit0 (CallV_of mdX6_refused plX6_refused 0 (Nat.le_of_ble_eq_true rfl) rfl ?_) (fun _ _ h => h)
      intro zp4 zl4 ze4 zs4 zm4 zargs4 zbelow4 zmeth4 zc4 zD4 zad4 zac4 C4 hr4 hk4
      refine mr_aload_n C4 dX6_refused_0 rfl (i := 0) rfl ?_
      refine mr_iconst (v := 0) C4 dX6_refused_1 (by decide) ?_
      refine mr_putI C4 dX6_refused_2 fl_X6_61 (Nat.le_of_ble_eq_true rfl) rfl rfl rfl rfl ?_
      refine mr_iload_n C4 dX6_refused_5 rfl (i := 1) rfl ?_
      refine mr_iret C4 hr4 hk4 dX6_refused_6 (qI_mk ?_)
      refine mr_iret C0 hr0 hk0 dX6_put_12 (qI_mk ?_)
      exact h
    · have h := h.2 c2
      refine mr_iconst (v := 1) C2 dX6_in_13 (by decide) ?_
      refine mr_goto C2 dX6_in_14 (tgt := 18) (by decide) ?_
      refine mr_zret C2 hr2 hk2 dX6_in_18 rfl (qI_mk ?_)
      refine mr_if_ne C1 dX6_noSheet_9 (tgt := 16) (by decide) (fun _ => ?_) (fun q => absurd q (by decide))
      refine mr_iconst (v := 0) C1 dX6_noSheet_16 (by decide) ?_
      refine mr_zret C1 hr1 hk1 dX6_noSheet_17 rfl (qI_mk ?_)
      refine mr_if_eq C0 dX6_put_4 (tgt := 13) (by decide) (fun _ => ?_) (fun q => absurd q (by decide))
      refine mr_aload_n C0 dX6_put_13 rfl (i := 0) rfl ?_
      refine mr_iload_n C0 dX6_put_14 rfl (i := 1) rfl ?_
      refine mr_iload_n C0 dX6_put_15 rfl (i := 2) rfl ?_
      refine mr_callVI C0 mdX6_noCell_ dX6_put_16 clX6_noCell_ ml_X6_234 (Nat.le_of_ble_eq_true rfl) rfl rfl arX6_noCell_ (as := [.int x1, .int x2]) rfl (Nat.le_of_ble_eq_true rfl) (Nat.le_of_ble_eq_true rfl) (Nat.le_of_ble_eq_true rfl) fit0 h (fun r4 S3 h => ?_)
      refine mr_if_le C0 dX6_put_19 (tgt := 33) (by decide) (fun c5 => ?_) (fun c5 => ?_)
      · have h := h.1 c5
        refine mr_aload_n C0 dX6_put_33 rfl (i := 0) rfl ?_
        refine mr_getR C0 dX6_put_34 fl_X6_53 (Nat.le_of_ble_eq_true rfl) rfl rfl ?_
        refine mr_bipush (v := 60) C0 dX6_put_37 (by decide) ?_
        refine mr_iload_n C0 dX6_put_39 rfl (i := 1) rfl ?_
        refine mr_imul C0 dX6_put_40 ?_
        refine mr_iload_n C0 dX6_put_41 rfl (i := 2) rfl ?_
        refine mr_iadd C0 dX6_put_42 ?_
        refine mr_aload_n C0 dX6_put_43 rfl (i := 0) rfl ?_
        refine mr_getR C0 dX6_put_44 fl_X6_50 (Nat.le_of_ble_eq_true rfl) rfl rfl ?_
        refine mr_iload_n C0 dX6_put_47 rfl (i := 1) rfl ?_
        have g6 := h.1
        have h := h.2
        refine mr_iald C0 dX6_put_48 (Nat.le_of_ble_eq_true rfl) rfl g6 ?_
        refine mr_if_ne C0 dX6_put_49 (tgt := 57) (by decide) (fun c7 => ?_) (fun c7 => ?_)
        · have h := h.1 c7
          refine mr_aload_n C0 dX6_put_57 rfl (i := 0) rfl ?_
          refine mr_getR C0 dX6_put_58 fl_X6_50 (Nat.le_of_ble_eq_true rfl) rfl rfl ?_
          refine mr_iload_n C0 dX6_put_61 rfl (i := 1) rfl ?_
          have g8 := h.1
          have h := h.2
          refine mr_iald C0 dX6_put_62 (Nat.le_of_ble_eq_true rfl) rfl g8 ?_
          refine mr_iconst (v := 1) C0 dX6_put_63 (by decide) ?_
          refine mr_icmp_ne C0 dX6_put_64 (tgt := 72) (by decide) (fun c9 => ?_) (fun c9 => ?_)
          · have h := h.1 c9
            refine mr_iload_n C0 dX6_put_72 rfl (i := 3) rfl ?_
            have g10 := h.1
            have h := h.2
            refine mr_iast C0 dX6_put_73 (Nat.le_of_ble_eq_true rfl) rfl g10 ?_
            refine mr_aload_n C0 dX6_put_74 rfl (i := 0) rfl ?_
            refine mr_iconst (v := 1) C0 dX6_put_75 (by decide) ?_
            refine mr_callVI C0 mdX6_refused dX6_put_76 clX6_refused ml_X6_121 (Nat.le_of_ble_eq_true rfl) rfl rfl arX6_refused (as := [.int (1 : Int32)]) rfl (Nat.le_of_ble_eq_true rfl) (Nat.le_of_ble_eq_true rfl) (Nat.le_of_ble_eq_true rfl) fit0 (CallV_of mdX6_refused plX6_refused 0 (Nat.le_of_ble_eq_true rfl) rfl ?_) (fun _ _ h => h)
            intro zp5 zl5 ze5 zs5 zm5 zargs5 zbelow5 zmeth5 zc5 zD5 zad5 zac5 C5 hr5 hk5
            refine mr_aload_n C5 dX6_refused_0 rfl (i := 0) rfl ?_
            refine mr_iconst (v := 0) C5 dX6_refused_1 (by decide) ?_
            refine mr_putI C5 dX6_refused_2 fl_X6_61 (Nat.le_of_ble_eq_true rfl) rfl rfl rfl rfl ?_
            refine mr_iload_n C5 dX6_refused_5 rfl (i := 1) rfl ?_
            refine mr_iret C5 hr5 hk5 dX6_refused_6 (qI_mk ?_)
            refine mr_iret C0 hr0 hk0 dX6_put_79 (qI_mk ?_)
            exact h
          · have h := h.2 c9
            refine mr_iload_n C0 dX6_put_67 rfl (i := 3) rfl ?_
            refine mr_i2s C0 dX6_put_68 ?_
            refine mr_goto C0 dX6_put_69 (tgt := 73) (by decide) ?_
            have g11 := h.1
            have h := h.2
            refine mr_iast C0 dX6_put_73 (Nat.le_of_ble_eq_true rfl) rfl g11 ?_
            refine mr_aload_n C0 dX6_put_74 rfl (i := 0) rfl ?_
            refine mr_iconst (v := 1) C0 dX6_put_75 (by decide) ?_
            refine mr_callVI C0 mdX6_refused dX6_put_76 clX6_refused ml_X6_121 (Nat.le_of_ble_eq_true rfl) rfl rfl arX6_refused (as := [.int (1 : Int32)]) rfl (Nat.le_of_ble_eq_true rfl) (Nat.le_of_ble_eq_true rfl) (Nat.le_of_ble_eq_true rfl) fit0 (CallV_of mdX6_refused plX6_refused 0 (Nat.le_of_ble_eq_true rfl) rfl ?_) (fun _ _ h => h)
            intro zp6 zl6 ze6 zs6 zm6 zargs6 zbelow6 zmeth6 zc6 zD6 zad6 zac6 C6 hr6 hk6
            refine mr_aload_n C6 dX6_refused_0 rfl (i := 0) rfl ?_
            refine mr_iconst (v := 0) C6 dX6_refused_1 (by decide) ?_
            refine mr_putI C6 dX6_refused_2 fl_X6_61 (Nat.le_of_ble_eq_true rfl) rfl rfl rfl rfl ?_
            refine mr_iload_n C6 dX6_refused_5 rfl (i := 1) rfl ?_
            refine mr_iret C6 hr6 hk6 dX6_refused_6 (qI_mk ?_)
            refine mr_iret C0 hr0 hk0 dX6_put_79 (qI_mk ?_)
            exact h
        · have h := h.2 c7
          refine mr_iload_n C0 dX6_put_52 rfl (i := 3) rfl ?_
          refine mr_i2b C0 dX6_put_53 ?_
          refine mr_goto C0 dX6_put_54 (tgt := 73) (by decide) ?_
          have g12 := h.1
          have h := h.2
          refine mr_iast C0 dX6_put_73 (Nat.le_of_ble_eq_true rfl) rfl g12 ?_
          refine mr_aload_n C0 dX6_put_74 rfl (i := 0) rfl ?_
          refine mr_iconst (v := 1) C0 dX6_put_75 (by decide) ?_
          refine mr_callVI C0 mdX6_refused dX6_put_76 clX6_refused ml_X6_121 (Nat.le_of_ble_eq_true rfl) rfl rfl arX6_refused (as := [.int (1 : Int32)]) rfl (Nat.le_of_ble_eq_true rfl) (Nat.le_of_ble_eq_true rfl) (Nat.le_of_ble_eq_true rfl) fit0 (CallV_of mdX6_refused plX6_refused 0 (Nat.le_of_ble_eq_true rfl) rfl ?_) (fun _ _ h => h)
          intro zp7 zl7 ze7 zs7 zm7 zargs7 zbelow7 zmeth7 zc7 zD7 zad7 zac7 C7 hr7 hk7
          refine mr_aload_n C7 dX6_refused_0 rfl (i := 0) rfl ?_
          refine mr_iconst (v := 0) C7 dX6_refused_1 (by decide) ?_
          refine mr_putI C7 dX6_refused_2 fl_X6_61 (Nat.le_of_ble_eq_true rfl) rfl rfl rfl rfl ?_
          refine mr_iload_n C7 dX6_refused_5 rfl (i := 1) rfl ?_
          refine mr_iret C7 hr7 hk7 dX6_refused_6 (qI_mk ?_)
          refine mr_iret C0 hr0 hk0 dX6_put_79 (qI_mk ?_)
          exact h
      · have h := h.2 c5
        refine mr_aload_n C0 dX6_put_22 rfl (i := 0) rfl ?_
        refine mr_aload_n C0 dX6_put_23 rfl (i := 0) rfl ?_
        refine mr_iload_n C0 dX6_put_24 rfl (i := 1) rfl ?_
        refine mr_iload_n C0 dX6_put_25 rfl (i := 2) rfl ?_
        refine mr_callVI C0 mdX6_noCell_ dX6_put_26 clX6_noCell_ ml_X6_234 (Nat.le_of_ble_eq_true rfl) rfl rfl arX6_noCell_ (as := [.int x1, .int x2]) rfl (Nat.le_of_ble_eq_true rfl) (Nat.le_of_ble_eq_true rfl) (Nat.le_of_ble_eq_true rfl) fit0 h (fun r14 S13 h => ?_)
        refine mr_callVI C0 mdX6_failed dX6_put_29 clX6_failed ml_X6_110 (Nat.le_of_ble_eq_true rfl) rfl rfl arX6_failed (as := [.int r14]) rfl (Nat.le_of_ble_eq_true rfl) (Nat.le_of_ble_eq_true rfl) (Nat.le_of_ble_eq_true rfl) fit0 (CallV_of mdX6_failed plX6_failed 0 (Nat.le_of_ble_eq_true rfl) rfl ?_) (fun _ _ h => h)
        intro zp8 zl8 ze8 zs8 zm8 zargs8 zbelow8 zmeth8 zc8 zD8 zad8 zac8 C8 hr8 hk8
        refine mr_aload_n C8 dX6_failed_0 rfl (i := 0) rfl ?_
        refine mr_iload_n C8 dX6_failed_1 rfl (i := 1) rfl ?_
        refine mr_putI C8 dX6_failed_2 fl_X6_61 (Nat.le_of_ble_eq_true rfl) rfl rfl rfl rfl ?_
        refine mr_bipush (v := (-10)) C8 dX6_failed_5 (by decide) ?_
        refine mr_iload_n C8 dX6_failed_7 rfl (i := 1) rfl ?_
        refine mr_isub C8 dX6_failed_8 ?_
        refine mr_iret C8 hr8 hk8 dX6_failed_9 (qI_mk ?_)
        refine mr_iret C0 hr0 hk0 dX6_put_32 (qI_mk ?_)
        exact h
set_option maxRecDepth 100000 in
set_option maxHeartbeats 4000000 in
theorem eX6_cell (x1 : Int32) (x2 : Int32) (x3 : Int32) (S : St) (Q : Int64 → St → Prop) (h : ((x1.toInt64 < (0 : Int64) → Q (-9223372036854775808 : Int64) (sI S 34 0 (0 : Int32))) ∧ (¬ x1.toInt64 < (0 : Int64) → (((3 : Int64) < x1.toInt64 → Q (-9223372036854775808 : Int64) (sI S 34 0 (0 : Int32))) ∧ (¬ (3 : Int64) < x1.toInt64 → ((x3.toInt64 < (0 : Int64) → Q (-9223372036854775808 : Int64) (sI S 34 0 (0 : Int32))) ∧ (¬ x3.toInt64 < (0 : Int64) → (((2 : Int64) < x3.toInt64 → Q (-9223372036854775808 : Int64) (sI S 34 0 (0 : Int32))) ∧ (¬ (2 : Int64) < x3.toInt64 → (vp_in x1 4) ∧ (((S.1 47 x1.toNatClampNeg) < 0 → CallV mdX6_noCell_ [.ref 34, .int x1, .int x2] (sI S 34 0 (0 : Int32)) (qI fun r8 S7 => ((r8 ≤ 0 → (vp_in (((60 : Int32) * x1) + x2) 240) ∧ Q ((S7.1 49 ((((60 : Int32) * x1) + x2).toNatClampNeg)).toInt64) S7) ∧ (¬ r8 ≤ 0 → CallV mdX6_noCell_ [.ref 34, .int x1, .int x2] S7 (qI fun r12 S11 => Q (-9223372036854775808 : Int64) (sI S11 34 0 r12)))))) ∧ (¬ (S.1 47 x1.toNatClampNeg) < 0 → (vp_in x1 4) ∧ (((S.1 48 x1.toNatClampNeg) = x3 → CallV mdX6_noCell_ [.ref 34, .int x1, .int x2] (sI S 34 0 (0 : Int32)) (qI fun r16 S15 => ((r16 ≤ 0 → (vp_in (((60 : Int32) * x1) + x2) 240) ∧ Q ((S15.1 49 ((((60 : Int32) * x1) + x2).toNatClampNeg)).toInt64) S15) ∧ (¬ r16 ≤ 0 → CallV mdX6_noCell_ [.ref 34, .int x1, .int x2] S15 (qI fun r20 S19 => Q (-9223372036854775808 : Int64) (sI S19 34 0 r20)))))) ∧ (¬ (S.1 48 x1.toNatClampNeg) = x3 → Q (-9223372036854775808 : Int64) (sI (sI S 34 0 (0 : Int32)) 34 0 (2 : Int32))))))))))))))) : CallV mdX6_cell [.ref 34, .int x1, .int x2, .int x3] S (qJ Q) := by
  refine CallV_of mdX6_cell plX6_cell 0 (Nat.le_of_ble_eq_true rfl) rfl ?_
  intro zp0 zl0 ze0 zs0 zm0 zargs0 zbelow0 zmeth0 zc0 zD0 zad0 zac0 C0 hr0 hk0
  refine mr_aload_n C0 dX6_cell_0 rfl (i := 0) rfl ?_
  refine mr_iconst (v := 0) C0 dX6_cell_1 (by decide) ?_
  refine mr_putI C0 dX6_cell_2 fl_X6_61 (Nat.le_of_ble_eq_true rfl) rfl rfl rfl rfl ?_
  refine mr_iload_n C0 dX6_cell_5 rfl (i := 1) rfl ?_
  refine mr_callSI C0 mdX6_noSheet dX6_cell_6 clX6_noSheet ml_X6_117 arX6_noSheet (as := [.int x1]) rfl (Nat.le_of_ble_eq_true rfl) (Nat.le_of_ble_eq_true rfl) (Nat.le_of_ble_eq_true rfl) fit0 (CallV_of mdX6_noSheet plX6_noSheet 0 (Nat.le_of_ble_eq_true rfl) rfl ?_) (fun _ _ h => h)
  intro zp1 zl1 ze1 zs1 zm1 zargs1 zbelow1 zmeth1 zc1 zD1 zad1 zac1 C1 hr1 hk1
  refine mr_iload_n C1 dX6_noSheet_0 rfl (i := 0) rfl ?_
  refine mr_i2l C1 dX6_noSheet_1 ?_
  refine mr_lconst (v := 0) C1 dX6_noSheet_2 (by decide) ?_
  refine mr_ldc2 C1 dX6_noSheet_3 cn_X6_83 ?_
  refine mr_callSI C1 mdX6_in dX6_noSheet_6 clX6_in ml_X6_79 arX6_in (as := [.long x1.toInt64, .long (0 : Int64), .long (3 : Int64)]) rfl (Nat.le_of_ble_eq_true rfl) (Nat.le_of_ble_eq_true rfl) (Nat.le_of_ble_eq_true rfl) fit0 (CallV_of mdX6_in plX6_in 0 (Nat.le_of_ble_eq_true rfl) rfl ?_) (fun _ _ h => h)
  intro zp2 zl2 ze2 zs2 zm2 zargs2 zbelow2 zmeth2 zc2 zD2 zad2 zac2 C2 hr2 hk2
  refine mr_lload_n C2 dX6_in_0 rfl (i := 0) rfl ?_
  refine mr_lload_n C2 dX6_in_1 rfl (i := 2) rfl ?_
  refine mr_lcmp_lt C2 dX6_in_2 dX6_in_3 (tgt := 17) (by decide) (fun c1 => ?_) (fun c1 => ?_)
  · have h := h.1 c1
    refine mr_iconst (v := 0) C2 dX6_in_17 (by decide) ?_
    refine mr_zret C2 hr2 hk2 dX6_in_18 rfl (qI_mk ?_)
    refine mr_if_ne C1 dX6_noSheet_9 (tgt := 16) (by decide) (fun q => absurd q (by decide)) (fun _ => ?_)
    refine mr_iconst (v := 1) C1 dX6_noSheet_12 (by decide) ?_
    refine mr_goto C1 dX6_noSheet_13 (tgt := 17) (by decide) ?_
    refine mr_zret C1 hr1 hk1 dX6_noSheet_17 rfl (qI_mk ?_)
    refine mr_if_ne C0 dX6_cell_9 (tgt := 24) (by decide) (fun _ => ?_) (fun q => absurd q (by decide))
    refine mr_callSJ C0 mdX6_lost dX6_cell_24 clX6_lost ml_X6_65 arX6_lost (as := []) rfl (Nat.le_of_ble_eq_true rfl) (Nat.le_of_ble_eq_true rfl) (Nat.le_of_ble_eq_true rfl) fit0 (CallV_of mdX6_lost plX6_lost 0 (Nat.le_of_ble_eq_true rfl) rfl ?_) (fun _ _ h => h)
    intro zp3 zl3 ze3 zs3 zm3 zargs3 zbelow3 zmeth3 zc3 zD3 zad3 zac3 C3 hr3 hk3
    refine mr_ldc2 C3 dX6_lost_0 cn_X6_59 ?_
    refine mr_lret C3 hr3 hk3 dX6_lost_3 (qJ_mk ?_)
    refine mr_lret C0 hr0 hk0 dX6_cell_27 (qJ_mk ?_)
    exact h
  · have h := h.2 c1
    refine mr_lload_n C2 dX6_in_6 rfl (i := 0) rfl ?_
    refine mr_lload C2 dX6_in_7 rfl ?_
    refine mr_lcmp_gt C2 dX6_in_9 dX6_in_10 (tgt := 17) (by decide) (fun c2 => ?_) (fun c2 => ?_)
    · have h := h.1 c2
      refine mr_iconst (v := 0) C2 dX6_in_17 (by decide) ?_
      refine mr_zret C2 hr2 hk2 dX6_in_18 rfl (qI_mk ?_)
      refine mr_if_ne C1 dX6_noSheet_9 (tgt := 16) (by decide) (fun q => absurd q (by decide)) (fun _ => ?_)
      refine mr_iconst (v := 1) C1 dX6_noSheet_12 (by decide) ?_
      refine mr_goto C1 dX6_noSheet_13 (tgt := 17) (by decide) ?_
      refine mr_zret C1 hr1 hk1 dX6_noSheet_17 rfl (qI_mk ?_)
      refine mr_if_ne C0 dX6_cell_9 (tgt := 24) (by decide) (fun _ => ?_) (fun q => absurd q (by decide))
      refine mr_callSJ C0 mdX6_lost dX6_cell_24 clX6_lost ml_X6_65 arX6_lost (as := []) rfl (Nat.le_of_ble_eq_true rfl) (Nat.le_of_ble_eq_true rfl) (Nat.le_of_ble_eq_true rfl) fit0 (CallV_of mdX6_lost plX6_lost 0 (Nat.le_of_ble_eq_true rfl) rfl ?_) (fun _ _ h => h)
      intro zp4 zl4 ze4 zs4 zm4 zargs4 zbelow4 zmeth4 zc4 zD4 zad4 zac4 C4 hr4 hk4
      refine mr_ldc2 C4 dX6_lost_0 cn_X6_59 ?_
      refine mr_lret C4 hr4 hk4 dX6_lost_3 (qJ_mk ?_)
      refine mr_lret C0 hr0 hk0 dX6_cell_27 (qJ_mk ?_)
      exact h
    · have h := h.2 c2
      refine mr_iconst (v := 1) C2 dX6_in_13 (by decide) ?_
      refine mr_goto C2 dX6_in_14 (tgt := 18) (by decide) ?_
      refine mr_zret C2 hr2 hk2 dX6_in_18 rfl (qI_mk ?_)
      refine mr_if_ne C1 dX6_noSheet_9 (tgt := 16) (by decide) (fun _ => ?_) (fun q => absurd q (by decide))
      refine mr_iconst (v := 0) C1 dX6_noSheet_16 (by decide) ?_
      refine mr_zret C1 hr1 hk1 dX6_noSheet_17 rfl (qI_mk ?_)
      refine mr_if_ne C0 dX6_cell_9 (tgt := 24) (by decide) (fun q => absurd q (by decide)) (fun _ => ?_)
      refine mr_iload_n C0 dX6_cell_12 rfl (i := 3) rfl ?_
      refine mr_i2l C0 dX6_cell_13 ?_
      refine mr_lconst (v := 0) C0 dX6_cell_14 (by decide) ?_
      refine mr_ldc2 C0 dX6_cell_15 cn_X6_124 ?_
      refine mr_callSI C0 mdX6_in dX6_cell_18 clX6_in ml_X6_79 arX6_in (as := [.long x3.toInt64, .long (0 : Int64), .long (2 : Int64)]) rfl (Nat.le_of_ble_eq_true rfl) (Nat.le_of_ble_eq_true rfl) (Nat.le_of_ble_eq_true rfl) fit0 (CallV_of mdX6_in plX6_in 0 (Nat.le_of_ble_eq_true rfl) rfl ?_) (fun _ _ h => h)
      intro zp5 zl5 ze5 zs5 zm5 zargs5 zbelow5 zmeth5 zc5 zD5 zad5 zac5 C5 hr5 hk5
      refine mr_lload_n C5 dX6_in_0 rfl (i := 0) rfl ?_
      refine mr_lload_n C5 dX6_in_1 rfl (i := 2) rfl ?_
      refine mr_lcmp_lt C5 dX6_in_2 dX6_in_3 (tgt := 17) (by decide) (fun c3 => ?_) (fun c3 => ?_)
      · have h := h.1 c3
        refine mr_iconst (v := 0) C5 dX6_in_17 (by decide) ?_
        refine mr_zret C5 hr5 hk5 dX6_in_18 rfl (qI_mk ?_)
        refine mr_if_ne C0 dX6_cell_21 (tgt := 28) (by decide) (fun q => absurd q (by decide)) (fun _ => ?_)
        refine mr_callSJ C0 mdX6_lost dX6_cell_24 clX6_lost ml_X6_65 arX6_lost (as := []) rfl (Nat.le_of_ble_eq_true rfl) (Nat.le_of_ble_eq_true rfl) (Nat.le_of_ble_eq_true rfl) fit0 (CallV_of mdX6_lost plX6_lost 0 (Nat.le_of_ble_eq_true rfl) rfl ?_) (fun _ _ h => h)
        intro zp6 zl6 ze6 zs6 zm6 zargs6 zbelow6 zmeth6 zc6 zD6 zad6 zac6 C6 hr6 hk6
        refine mr_ldc2 C6 dX6_lost_0 cn_X6_59 ?_
        refine mr_lret C6 hr6 hk6 dX6_lost_3 (qJ_mk ?_)
        refine mr_lret C0 hr0 hk0 dX6_cell_27 (qJ_mk ?_)
        exact h
      · have h := h.2 c3
        refine mr_lload_n C5 dX6_in_6 rfl (i := 0) rfl ?_
        refine mr_lload C5 dX6_in_7 rfl ?_
        refine mr_lcmp_gt C5 dX6_in_9 dX6_in_10 (tgt := 17) (by decide) (fun c4 => ?_) (fun c4 => ?_)
        · have h := h.1 c4
          refine mr_iconst (v := 0) C5 dX6_in_17 (by decide) ?_
          refine mr_zret C5 hr5 hk5 dX6_in_18 rfl (qI_mk ?_)
          refine mr_if_ne C0 dX6_cell_21 (tgt := 28) (by decide) (fun q => absurd q (by decide)) (fun _ => ?_)
          refine mr_callSJ C0 mdX6_lost dX6_cell_24 clX6_lost ml_X6_65 arX6_lost (as := []) rfl (Nat.le_of_ble_eq_true rfl) (Nat.le_of_ble_eq_true rfl) (Nat.le_of_ble_eq_true rfl) fit0 (CallV_of mdX6_lost plX6_lost 0 (Nat.le_of_ble_eq_true rfl) rfl ?_) (fun _ _ h => h)
          intro zp7 zl7 ze7 zs7 zm7 zargs7 zbelow7 zmeth7 zc7 zD7 zad7 zac7 C7 hr7 hk7
          refine mr_ldc2 C7 dX6_lost_0 cn_X6_59 ?_
          refine mr_lret C7 hr7 hk7 dX6_lost_3 (qJ_mk ?_)
          refine mr_lret C0 hr0 hk0 dX6_cell_27 (qJ_mk ?_)
          exact h
        · have h := h.2 c4
          refine mr_iconst (v := 1) C5 dX6_in_13 (by decide) ?_
          refine mr_goto C5 dX6_in_14 (tgt := 18) (by decide) ?_
          refine mr_zret C5 hr5 hk5 dX6_in_18 rfl (qI_mk ?_)
          refine mr_if_ne C0 dX6_cell_21 (tgt := 28) (by decide) (fun _ => ?_) (fun q => absurd q (by decide))
          refine mr_aload_n C0 dX6_cell_28 rfl (i := 0) rfl ?_
          refine mr_getR C0 dX6_cell_29 fl_X6_47 (Nat.le_of_ble_eq_true rfl) rfl rfl ?_
          refine mr_iload_n C0 dX6_cell_32 rfl (i := 1) rfl ?_
          have g5 := h.1
          have h := h.2
          refine mr_iald C0 dX6_cell_33 (Nat.le_of_ble_eq_true rfl) rfl g5 ?_
          refine mr_topI (y := (S.1 47 x1.toNatClampNeg)) (by first | rfl | simp [sI, sJ, sF, upd, vp_updL]) ?_
          refine mr_if_lt C0 dX6_cell_34 (tgt := 53) (by decide) (fun c6 => ?_) (fun c6 => ?_)
          · have h := h.1 c6
            refine mr_aload_n C0 dX6_cell_53 rfl (i := 0) rfl ?_
            refine mr_iload_n C0 dX6_cell_54 rfl (i := 1) rfl ?_
            refine mr_iload_n C0 dX6_cell_55 rfl (i := 2) rfl ?_
            refine mr_callVI C0 mdX6_noCell_ dX6_cell_56 clX6_noCell_ ml_X6_234 (Nat.le_of_ble_eq_true rfl) rfl rfl arX6_noCell_ (as := [.int x1, .int x2]) rfl (Nat.le_of_ble_eq_true rfl) (Nat.le_of_ble_eq_true rfl) (Nat.le_of_ble_eq_true rfl) fit0 h (fun r8 S7 h => ?_)
            refine mr_if_le C0 dX6_cell_59 (tgt := 75) (by decide) (fun c9 => ?_) (fun c9 => ?_)
            · have h := h.1 c9
              refine mr_aload_n C0 dX6_cell_75 rfl (i := 0) rfl ?_
              refine mr_getR C0 dX6_cell_76 fl_X6_53 (Nat.le_of_ble_eq_true rfl) rfl rfl ?_
              refine mr_bipush (v := 60) C0 dX6_cell_79 (by decide) ?_
              refine mr_iload_n C0 dX6_cell_81 rfl (i := 1) rfl ?_
              refine mr_imul C0 dX6_cell_82 ?_
              refine mr_iload_n C0 dX6_cell_83 rfl (i := 2) rfl ?_
              refine mr_iadd C0 dX6_cell_84 ?_
              have g10 := h.1
              have h := h.2
              refine mr_iald C0 dX6_cell_85 (Nat.le_of_ble_eq_true rfl) rfl g10 ?_
              refine mr_i2l C0 dX6_cell_86 ?_
              refine mr_lret C0 hr0 hk0 dX6_cell_87 (qJ_mk ?_)
              exact h
            · have h := h.2 c9
              refine mr_aload_n C0 dX6_cell_62 rfl (i := 0) rfl ?_
              refine mr_aload_n C0 dX6_cell_63 rfl (i := 0) rfl ?_
              refine mr_iload_n C0 dX6_cell_64 rfl (i := 1) rfl ?_
              refine mr_iload_n C0 dX6_cell_65 rfl (i := 2) rfl ?_
              refine mr_callVI C0 mdX6_noCell_ dX6_cell_66 clX6_noCell_ ml_X6_234 (Nat.le_of_ble_eq_true rfl) rfl rfl arX6_noCell_ (as := [.int x1, .int x2]) rfl (Nat.le_of_ble_eq_true rfl) (Nat.le_of_ble_eq_true rfl) (Nat.le_of_ble_eq_true rfl) fit0 h (fun r12 S11 h => ?_)
              refine mr_callVJ C0 mdX6_failedLong dX6_cell_69 clX6_failedLong ml_X6_236 (Nat.le_of_ble_eq_true rfl) rfl rfl arX6_failedLong (as := [.int r12]) rfl (Nat.le_of_ble_eq_true rfl) (Nat.le_of_ble_eq_true rfl) (Nat.le_of_ble_eq_true rfl) fit0 (CallV_of mdX6_failedLong plX6_failedLong 0 (Nat.le_of_ble_eq_true rfl) rfl ?_) (fun _ _ h => h)
              intro zp8 zl8 ze8 zs8 zm8 zargs8 zbelow8 zmeth8 zc8 zD8 zad8 zac8 C8 hr8 hk8
              refine mr_aload_n C8 dX6_failedLong_0 rfl (i := 0) rfl ?_
              refine mr_iload_n C8 dX6_failedLong_1 rfl (i := 1) rfl ?_
              refine mr_putI C8 dX6_failedLong_2 fl_X6_61 (Nat.le_of_ble_eq_true rfl) rfl rfl rfl rfl ?_
              refine mr_callSJ C8 mdX6_lost dX6_failedLong_5 clX6_lost ml_X6_65 arX6_lost (as := []) rfl (Nat.le_of_ble_eq_true rfl) (Nat.le_of_ble_eq_true rfl) (Nat.le_of_ble_eq_true rfl) fit0 (CallV_of mdX6_lost plX6_lost 0 (Nat.le_of_ble_eq_true rfl) rfl ?_) (fun _ _ h => h)
              intro zp9 zl9 ze9 zs9 zm9 zargs9 zbelow9 zmeth9 zc9 zD9 zad9 zac9 C9 hr9 hk9
              refine mr_ldc2 C9 dX6_lost_0 cn_X6_59 ?_
              refine mr_lret C9 hr9 hk9 dX6_lost_3 (qJ_mk ?_)
              refine mr_lret C8 hr8 hk8 dX6_failedLong_8 (qJ_mk ?_)
              refine mr_goto C0 dX6_cell_72 (tgt := 87) (by decide) ?_
              refine mr_lret C0 hr0 hk0 dX6_cell_87 (qJ_mk ?_)
              exact h
          · have h := h.2 c6
            refine mr_aload_n C0 dX6_cell_37 rfl (i := 0) rfl ?_
            refine mr_getR C0 dX6_cell_38 fl_X6_50 (Nat.le_of_ble_eq_true rfl) rfl rfl ?_
            refine mr_iload_n C0 dX6_cell_41 rfl (i := 1) rfl ?_
            have g13 := h.1
            have h := h.2
            refine mr_iald C0 dX6_cell_42 (Nat.le_of_ble_eq_true rfl) rfl g13 ?_
            refine mr_topI (y := (S.1 48 x1.toNatClampNeg)) (by first | rfl | simp [sI, sJ, sF, upd, vp_updL]) ?_
            refine mr_iload_n C0 dX6_cell_43 rfl (i := 3) rfl ?_
            refine mr_icmp_eq C0 dX6_cell_44 (tgt := 53) (by decide) (fun c14 => ?_) (fun c14 => ?_)
            · have h := h.1 c14
              refine mr_aload_n C0 dX6_cell_53 rfl (i := 0) rfl ?_
              refine mr_iload_n C0 dX6_cell_54 rfl (i := 1) rfl ?_
              refine mr_iload_n C0 dX6_cell_55 rfl (i := 2) rfl ?_
              refine mr_callVI C0 mdX6_noCell_ dX6_cell_56 clX6_noCell_ ml_X6_234 (Nat.le_of_ble_eq_true rfl) rfl rfl arX6_noCell_ (as := [.int x1, .int x2]) rfl (Nat.le_of_ble_eq_true rfl) (Nat.le_of_ble_eq_true rfl) (Nat.le_of_ble_eq_true rfl) fit0 h (fun r16 S15 h => ?_)
              refine mr_if_le C0 dX6_cell_59 (tgt := 75) (by decide) (fun c17 => ?_) (fun c17 => ?_)
              · have h := h.1 c17
                refine mr_aload_n C0 dX6_cell_75 rfl (i := 0) rfl ?_
                refine mr_getR C0 dX6_cell_76 fl_X6_53 (Nat.le_of_ble_eq_true rfl) rfl rfl ?_
                refine mr_bipush (v := 60) C0 dX6_cell_79 (by decide) ?_
                refine mr_iload_n C0 dX6_cell_81 rfl (i := 1) rfl ?_
                refine mr_imul C0 dX6_cell_82 ?_
                refine mr_iload_n C0 dX6_cell_83 rfl (i := 2) rfl ?_
                refine mr_iadd C0 dX6_cell_84 ?_
                have g18 := h.1
                have h := h.2
                refine mr_iald C0 dX6_cell_85 (Nat.le_of_ble_eq_true rfl) rfl g18 ?_
                refine mr_i2l C0 dX6_cell_86 ?_
                refine mr_lret C0 hr0 hk0 dX6_cell_87 (qJ_mk ?_)
                exact h
              · have h := h.2 c17
                refine mr_aload_n C0 dX6_cell_62 rfl (i := 0) rfl ?_
                refine mr_aload_n C0 dX6_cell_63 rfl (i := 0) rfl ?_
                refine mr_iload_n C0 dX6_cell_64 rfl (i := 1) rfl ?_
                refine mr_iload_n C0 dX6_cell_65 rfl (i := 2) rfl ?_
                refine mr_callVI C0 mdX6_noCell_ dX6_cell_66 clX6_noCell_ ml_X6_234 (Nat.le_of_ble_eq_true rfl) rfl rfl arX6_noCell_ (as := [.int x1, .int x2]) rfl (Nat.le_of_ble_eq_true rfl) (Nat.le_of_ble_eq_true rfl) (Nat.le_of_ble_eq_true rfl) fit0 h (fun r20 S19 h => ?_)
                refine mr_callVJ C0 mdX6_failedLong dX6_cell_69 clX6_failedLong ml_X6_236 (Nat.le_of_ble_eq_true rfl) rfl rfl arX6_failedLong (as := [.int r20]) rfl (Nat.le_of_ble_eq_true rfl) (Nat.le_of_ble_eq_true rfl) (Nat.le_of_ble_eq_true rfl) fit0 (CallV_of mdX6_failedLong plX6_failedLong 0 (Nat.le_of_ble_eq_true rfl) rfl ?_) (fun _ _ h => h)
                intro zp10 zl10 ze10 zs10 zm10 zargs10 zbelow10 zmeth10 zc10 zD10 zad10 zac10 C10 hr10 hk10
                refine mr_aload_n C10 dX6_failedLong_0 rfl (i := 0) rfl ?_
                refine mr_iload_n C10 dX6_failedLong_1 rfl (i := 1) rfl ?_
                refine mr_putI C10 dX6_failedLong_2 fl_X6_61 (Nat.le_of_ble_eq_true rfl) rfl rfl rfl rfl ?_
                refine mr_callSJ C10 mdX6_lost dX6_failedLong_5 clX6_lost ml_X6_65 arX6_lost (as := []) rfl (Nat.le_of_ble_eq_true rfl) (Nat.le_of_ble_eq_true rfl) (Nat.le_of_ble_eq_true rfl) fit0 (CallV_of mdX6_lost plX6_lost 0 (Nat.le_of_ble_eq_true rfl) rfl ?_) (fun _ _ h => h)
                intro zp11 zl11 ze11 zs11 zm11 zargs11 zbelow11 zmeth11 zc11 zD11 zad11 zac11 C11 hr11 hk11
                refine mr_ldc2 C11 dX6_lost_0 cn_X6_59 ?_
                refine mr_lret C11 hr11 hk11 dX6_lost_3 (qJ_mk ?_)
                refine mr_lret C10 hr10 hk10 dX6_failedLong_8 (qJ_mk ?_)
                refine mr_goto C0 dX6_cell_72 (tgt := 87) (by decide) ?_
                refine mr_lret C0 hr0 hk0 dX6_cell_87 (qJ_mk ?_)
                exact h
            · have h := h.2 c14
              refine mr_aload_n C0 dX6_cell_47 rfl (i := 0) rfl ?_
              refine mr_iconst (v := 2) C0 dX6_cell_48 (by decide) ?_
              refine mr_callVJ C0 mdX6_failedLong dX6_cell_49 clX6_failedLong ml_X6_236 (Nat.le_of_ble_eq_true rfl) rfl rfl arX6_failedLong (as := [.int (2 : Int32)]) rfl (Nat.le_of_ble_eq_true rfl) (Nat.le_of_ble_eq_true rfl) (Nat.le_of_ble_eq_true rfl) fit0 (CallV_of mdX6_failedLong plX6_failedLong 0 (Nat.le_of_ble_eq_true rfl) rfl ?_) (fun _ _ h => h)
              intro zp12 zl12 ze12 zs12 zm12 zargs12 zbelow12 zmeth12 zc12 zD12 zad12 zac12 C12 hr12 hk12
              refine mr_aload_n C12 dX6_failedLong_0 rfl (i := 0) rfl ?_
              refine mr_iload_n C12 dX6_failedLong_1 rfl (i := 1) rfl ?_
              refine mr_putI C12 dX6_failedLong_2 fl_X6_61 (Nat.le_of_ble_eq_true rfl) rfl rfl rfl rfl ?_
              refine mr_callSJ C12 mdX6_lost dX6_failedLong_5 clX6_lost ml_X6_65 arX6_lost (as := []) rfl (Nat.le_of_ble_eq_true rfl) (Nat.le_of_ble_eq_true rfl) (Nat.le_of_ble_eq_true rfl) fit0 (CallV_of mdX6_lost plX6_lost 0 (Nat.le_of_ble_eq_true rfl) rfl ?_) (fun _ _ h => h)
              intro zp13 zl13 ze13 zs13 zm13 zargs13 zbelow13 zmeth13 zc13 zD13 zad13 zac13 C13 hr13 hk13
              refine mr_ldc2 C13 dX6_lost_0 cn_X6_59 ?_
              refine mr_lret C13 hr13 hk13 dX6_lost_3 (qJ_mk ?_)
              refine mr_lret C12 hr12 hk12 dX6_failedLong_8 (qJ_mk ?_)
              refine mr_lret C0 hr0 hk0 dX6_cell_52 (qJ_mk ?_)
              exact h
set_option maxRecDepth 100000 in
set_option maxHeartbeats 4000000 in
theorem eX6_isBeyond (x0 : Int32) (y1 : Int64) (x3 : Int32) (S : St) (Q : Int32 → St → Prop) (h : ((x0 < 0 → Q (1 : Int32) S) ∧ (¬ x0 < 0 → ((y1 < (0 : Int64) → Q (1 : Int32) S) ∧ (¬ y1 < (0 : Int64) → (((x0.toInt64 + y1) ≤ x3.toInt64 → Q (0 : Int32) S) ∧ (¬ (x0.toInt64 + y1) ≤ x3.toInt64 → Q (1 : Int32) S))))))) : CallV mdX6_isBeyond [.int x0, .long y1, .int x3] S (qI Q) := by
  refine CallV_of mdX6_isBeyond plX6_isBeyond 0 (Nat.le_of_ble_eq_true rfl) rfl ?_
  intro zp0 zl0 ze0 zs0 zm0 zargs0 zbelow0 zmeth0 zc0 zD0 zad0 zac0 C0 hr0 hk0
  refine mr_iload_n C0 dX6_isBeyond_0 rfl (i := 0) rfl ?_
  refine mr_if_lt C0 dX6_isBeyond_1 (tgt := 20) (by decide) (fun c1 => ?_) (fun c1 => ?_)
  · have h := h.1 c1
    refine mr_iconst (v := 1) C0 dX6_isBeyond_20 (by decide) ?_
    refine mr_goto C0 dX6_isBeyond_21 (tgt := 25) (by decide) ?_
    refine mr_zret C0 hr0 hk0 dX6_isBeyond_25 rfl (qI_mk ?_)
    exact h
  · have h := h.2 c1
    refine mr_lload_n C0 dX6_isBeyond_4 rfl (i := 1) rfl ?_
    refine mr_lconst (v := 0) C0 dX6_isBeyond_5 (by decide) ?_
    refine mr_lcmp_lt C0 dX6_isBeyond_6 dX6_isBeyond_7 (tgt := 20) (by decide) (fun c2 => ?_) (fun c2 => ?_)
    · have h := h.1 c2
      refine mr_iconst (v := 1) C0 dX6_isBeyond_20 (by decide) ?_
      refine mr_goto C0 dX6_isBeyond_21 (tgt := 25) (by decide) ?_
      refine mr_zret C0 hr0 hk0 dX6_isBeyond_25 rfl (qI_mk ?_)
      exact h
    · have h := h.2 c2
      refine mr_iload_n C0 dX6_isBeyond_10 rfl (i := 0) rfl ?_
      refine mr_i2l C0 dX6_isBeyond_11 ?_
      refine mr_lload_n C0 dX6_isBeyond_12 rfl (i := 1) rfl ?_
      refine mr_ladd C0 dX6_isBeyond_13 ?_
      refine mr_iload_n C0 dX6_isBeyond_14 rfl (i := 3) rfl ?_
      refine mr_i2l C0 dX6_isBeyond_15 ?_
      refine mr_lcmp_le C0 dX6_isBeyond_16 dX6_isBeyond_17 (tgt := 24) (by decide) (fun c3 => ?_) (fun c3 => ?_)
      · have h := h.1 c3
        refine mr_iconst (v := 0) C0 dX6_isBeyond_24 (by decide) ?_
        refine mr_zret C0 hr0 hk0 dX6_isBeyond_25 rfl (qI_mk ?_)
        exact h
      · have h := h.2 c3
        refine mr_iconst (v := 1) C0 dX6_isBeyond_20 (by decide) ?_
        refine mr_goto C0 dX6_isBeyond_21 (tgt := 25) (by decide) ?_
        refine mr_zret C0 hr0 hk0 dX6_isBeyond_25 rfl (qI_mk ?_)
        exact h
set_option maxRecDepth 100000 in
set_option maxHeartbeats 4000000 in
theorem eX6_copy (x1 : Int32) (x2 : Int32) (x3 : Int32) (x4 : Int32) (x5 : Int32) (S : St) (Q : Int32 → St → Prop) (h : ((x1.toInt64 < (0 : Int64) → Q (-1 : Int32) (sI S 34 0 (0 : Int32))) ∧ (¬ x1.toInt64 < (0 : Int64) → (((3 : Int64) < x1.toInt64 → Q (-1 : Int32) (sI S 34 0 (0 : Int32))) ∧ (¬ (3 : Int64) < x1.toInt64 → ((x3.toInt64 < (0 : Int64) → Q (-1 : Int32) (sI S 34 0 (0 : Int32))) ∧ (¬ x3.toInt64 < (0 : Int64) → (((3 : Int64) < x3.toInt64 → Q (-1 : Int32) (sI S 34 0 (0 : Int32))) ∧ (¬ (3 : Int64) < x3.toInt64 → (vp_in x1 4) ∧ (((S.1 47 x1.toNatClampNeg) < 0 → Q (-11 : Int32) (sI S 34 0 (1 : Int32))) ∧ (¬ (S.1 47 x1.toNatClampNeg) < 0 → (vp_in x3 4) ∧ ((0 ≤ (S.1 47 x3.toNatClampNeg) → (vp_in x1 4) ∧ (vp_in x3 4) ∧ (((S.1 48 x1.toNatClampNeg) = (S.1 48 x3.toNatClampNeg) → (vp_in x1 4) ∧ CallV mdX6_isBeyond [.int x2, .long x5.toInt64, .int (S.1 47 x1.toNatClampNeg)] S (qI fun r14 S13 => ((¬ r14 = 0 → Q (-13 : Int32) (sI S13 34 0 (3 : Int32))) ∧ (r14 = 0 → (vp_in x3 4) ∧ CallV mdX6_isBeyond [.int x4, .long x5.toInt64, .int (S13.1 47 x3.toNatClampNeg)] S13 (qI fun r18 S17 => ((r18 = 0 → V mdX6_copy 107 [some (.ref 34), some (.int x1), some (.int x2), some (.int x3), some (.int x4), some (.int x5), some (.int (0 : Int32))] [] S17 (qI Q)) ∧ (¬ r18 = 0 → Q (-13 : Int32) (sI S17 34 0 (3 : Int32))))))))) ∧ (¬ (S.1 48 x1.toNatClampNeg) = (S.1 48 x3.toNatClampNeg) → Q (-12 : Int32) (sI S 34 0 (2 : Int32))))) ∧ (¬ 0 ≤ (S.1 47 x3.toNatClampNeg) → Q (-11 : Int32) (sI S 34 0 (1 : Int32))))))))))))))) : CallV mdX6_copy [.ref 34, .int x1, .int x2, .int x3, .int x4, .int x5] S (qI Q) := by
  refine CallV_of mdX6_copy plX6_copy 1 (Nat.le_of_ble_eq_true rfl) rfl ?_
  intro zp0 zl0 ze0 zs0 zm0 zargs0 zbelow0 zmeth0 zc0 zD0 zad0 zac0 C0 hr0 hk0
  refine mr_iload_n C0 dX6_copy_0 rfl (i := 1) rfl ?_
  refine mr_callSI C0 mdX6_noSheet dX6_copy_1 clX6_noSheet ml_X6_117 arX6_noSheet (as := [.int x1]) rfl (Nat.le_of_ble_eq_true rfl) (Nat.le_of_ble_eq_true rfl) (Nat.le_of_ble_eq_true rfl) fit0 (CallV_of mdX6_noSheet plX6_noSheet 0 (Nat.le_of_ble_eq_true rfl) rfl ?_) (fun _ _ h => h)
  intro zp1 zl1 ze1 zs1 zm1 zargs1 zbelow1 zmeth1 zc1 zD1 zad1 zac1 C1 hr1 hk1
  refine mr_iload_n C1 dX6_noSheet_0 rfl (i := 0) rfl ?_
  refine mr_i2l C1 dX6_noSheet_1 ?_
  refine mr_lconst (v := 0) C1 dX6_noSheet_2 (by decide) ?_
  refine mr_ldc2 C1 dX6_noSheet_3 cn_X6_83 ?_
  refine mr_callSI C1 mdX6_in dX6_noSheet_6 clX6_in ml_X6_79 arX6_in (as := [.long x1.toInt64, .long (0 : Int64), .long (3 : Int64)]) rfl (Nat.le_of_ble_eq_true rfl) (Nat.le_of_ble_eq_true rfl) (Nat.le_of_ble_eq_true rfl) fit0 (CallV_of mdX6_in plX6_in 0 (Nat.le_of_ble_eq_true rfl) rfl ?_) (fun _ _ h => h)
  intro zp2 zl2 ze2 zs2 zm2 zargs2 zbelow2 zmeth2 zc2 zD2 zad2 zac2 C2 hr2 hk2
  refine mr_lload_n C2 dX6_in_0 rfl (i := 0) rfl ?_
  refine mr_lload_n C2 dX6_in_1 rfl (i := 2) rfl ?_
  refine mr_lcmp_lt C2 dX6_in_2 dX6_in_3 (tgt := 17) (by decide) (fun c1 => ?_) (fun c1 => ?_)
  · have h := h.1 c1
    refine mr_iconst (v := 0) C2 dX6_in_17 (by decide) ?_
    refine mr_zret C2 hr2 hk2 dX6_in_18 rfl (qI_mk ?_)
    refine mr_if_ne C1 dX6_noSheet_9 (tgt := 16) (by decide) (fun q => absurd q (by decide)) (fun _ => ?_)
    refine mr_iconst (v := 1) C1 dX6_noSheet_12 (by decide) ?_
    refine mr_goto C1 dX6_noSheet_13 (tgt := 17) (by decide) ?_
    refine mr_zret C1 hr1 hk1 dX6_noSheet_17 rfl (qI_mk ?_)
    refine mr_if_ne C0 dX6_copy_4 (tgt := 14) (by decide) (fun _ => ?_) (fun q => absurd q (by decide))
    refine mr_aload_n C0 dX6_copy_14 rfl (i := 0) rfl ?_
    refine mr_iconst (v := (-1)) C0 dX6_copy_15 (by decide) ?_
    refine mr_callVI C0 mdX6_refused dX6_copy_16 clX6_refused ml_X6_121 (Nat.le_of_ble_eq_true rfl) rfl rfl arX6_refused (as := [.int (-1 : Int32)]) rfl (Nat.le_of_ble_eq_true rfl) (Nat.le_of_ble_eq_true rfl) (Nat.le_of_ble_eq_true rfl) fit0 (CallV_of mdX6_refused plX6_refused 0 (Nat.le_of_ble_eq_true rfl) rfl ?_) (fun _ _ h => h)
    intro zp3 zl3 ze3 zs3 zm3 zargs3 zbelow3 zmeth3 zc3 zD3 zad3 zac3 C3 hr3 hk3
    refine mr_aload_n C3 dX6_refused_0 rfl (i := 0) rfl ?_
    refine mr_iconst (v := 0) C3 dX6_refused_1 (by decide) ?_
    refine mr_putI C3 dX6_refused_2 fl_X6_61 (Nat.le_of_ble_eq_true rfl) rfl rfl rfl rfl ?_
    refine mr_iload_n C3 dX6_refused_5 rfl (i := 1) rfl ?_
    refine mr_iret C3 hr3 hk3 dX6_refused_6 (qI_mk ?_)
    refine mr_iret C0 hr0 hk0 dX6_copy_19 (qI_mk ?_)
    exact h
  · have h := h.2 c1
    refine mr_lload_n C2 dX6_in_6 rfl (i := 0) rfl ?_
    refine mr_lload C2 dX6_in_7 rfl ?_
    refine mr_lcmp_gt C2 dX6_in_9 dX6_in_10 (tgt := 17) (by decide) (fun c2 => ?_) (fun c2 => ?_)
    · have h := h.1 c2
      refine mr_iconst (v := 0) C2 dX6_in_17 (by decide) ?_
      refine mr_zret C2 hr2 hk2 dX6_in_18 rfl (qI_mk ?_)
      refine mr_if_ne C1 dX6_noSheet_9 (tgt := 16) (by decide) (fun q => absurd q (by decide)) (fun _ => ?_)
      refine mr_iconst (v := 1) C1 dX6_noSheet_12 (by decide) ?_
      refine mr_goto C1 dX6_noSheet_13 (tgt := 17) (by decide) ?_
      refine mr_zret C1 hr1 hk1 dX6_noSheet_17 rfl (qI_mk ?_)
      refine mr_if_ne C0 dX6_copy_4 (tgt := 14) (by decide) (fun _ => ?_) (fun q => absurd q (by decide))
      refine mr_aload_n C0 dX6_copy_14 rfl (i := 0) rfl ?_
      refine mr_iconst (v := (-1)) C0 dX6_copy_15 (by decide) ?_
      refine mr_callVI C0 mdX6_refused dX6_copy_16 clX6_refused ml_X6_121 (Nat.le_of_ble_eq_true rfl) rfl rfl arX6_refused (as := [.int (-1 : Int32)]) rfl (Nat.le_of_ble_eq_true rfl) (Nat.le_of_ble_eq_true rfl) (Nat.le_of_ble_eq_true rfl) fit0 (CallV_of mdX6_refused plX6_refused 0 (Nat.le_of_ble_eq_true rfl) rfl ?_) (fun _ _ h => h)
      intro zp4 zl4 ze4 zs4 zm4 zargs4 zbelow4 zmeth4 zc4 zD4 zad4 zac4 C4 hr4 hk4
      refine mr_aload_n C4 dX6_refused_0 rfl (i := 0) rfl ?_
      refine mr_iconst (v := 0) C4 dX6_refused_1 (by decide) ?_
      refine mr_putI C4 dX6_refused_2 fl_X6_61 (Nat.le_of_ble_eq_true rfl) rfl rfl rfl rfl ?_
      refine mr_iload_n C4 dX6_refused_5 rfl (i := 1) rfl ?_
      refine mr_iret C4 hr4 hk4 dX6_refused_6 (qI_mk ?_)
      refine mr_iret C0 hr0 hk0 dX6_copy_19 (qI_mk ?_)
      exact h
    · have h := h.2 c2
      refine mr_iconst (v := 1) C2 dX6_in_13 (by decide) ?_
      refine mr_goto C2 dX6_in_14 (tgt := 18) (by decide) ?_
      refine mr_zret C2 hr2 hk2 dX6_in_18 rfl (qI_mk ?_)
      refine mr_if_ne C1 dX6_noSheet_9 (tgt := 16) (by decide) (fun _ => ?_) (fun q => absurd q (by decide))
      refine mr_iconst (v := 0) C1 dX6_noSheet_16 (by decide) ?_
      refine mr_zret C1 hr1 hk1 dX6_noSheet_17 rfl (qI_mk ?_)
      refine mr_if_ne C0 dX6_copy_4 (tgt := 14) (by decide) (fun q => absurd q (by decide)) (fun _ => ?_)
      refine mr_iload_n C0 dX6_copy_7 rfl (i := 3) rfl ?_
      refine mr_callSI C0 mdX6_noSheet dX6_copy_8 clX6_noSheet ml_X6_117 arX6_noSheet (as := [.int x3]) rfl (Nat.le_of_ble_eq_true rfl) (Nat.le_of_ble_eq_true rfl) (Nat.le_of_ble_eq_true rfl) fit0 (CallV_of mdX6_noSheet plX6_noSheet 0 (Nat.le_of_ble_eq_true rfl) rfl ?_) (fun _ _ h => h)
      intro zp5 zl5 ze5 zs5 zm5 zargs5 zbelow5 zmeth5 zc5 zD5 zad5 zac5 C5 hr5 hk5
      refine mr_iload_n C5 dX6_noSheet_0 rfl (i := 0) rfl ?_
      refine mr_i2l C5 dX6_noSheet_1 ?_
      refine mr_lconst (v := 0) C5 dX6_noSheet_2 (by decide) ?_
      refine mr_ldc2 C5 dX6_noSheet_3 cn_X6_83 ?_
      refine mr_callSI C5 mdX6_in dX6_noSheet_6 clX6_in ml_X6_79 arX6_in (as := [.long x3.toInt64, .long (0 : Int64), .long (3 : Int64)]) rfl (Nat.le_of_ble_eq_true rfl) (Nat.le_of_ble_eq_true rfl) (Nat.le_of_ble_eq_true rfl) fit0 (CallV_of mdX6_in plX6_in 0 (Nat.le_of_ble_eq_true rfl) rfl ?_) (fun _ _ h => h)
      intro zp6 zl6 ze6 zs6 zm6 zargs6 zbelow6 zmeth6 zc6 zD6 zad6 zac6 C6 hr6 hk6
      refine mr_lload_n C6 dX6_in_0 rfl (i := 0) rfl ?_
      refine mr_lload_n C6 dX6_in_1 rfl (i := 2) rfl ?_
      refine mr_lcmp_lt C6 dX6_in_2 dX6_in_3 (tgt := 17) (by decide) (fun c3 => ?_) (fun c3 => ?_)
      · have h := h.1 c3
        refine mr_iconst (v := 0) C6 dX6_in_17 (by decide) ?_
        refine mr_zret C6 hr6 hk6 dX6_in_18 rfl (qI_mk ?_)
        refine mr_if_ne C5 dX6_noSheet_9 (tgt := 16) (by decide) (fun q => absurd q (by decide)) (fun _ => ?_)
        refine mr_iconst (v := 1) C5 dX6_noSheet_12 (by decide) ?_
        refine mr_goto C5 dX6_noSheet_13 (tgt := 17) (by decide) ?_
        refine mr_zret C5 hr5 hk5 dX6_noSheet_17 rfl (qI_mk ?_)
        refine mr_if_eq C0 dX6_copy_11 (tgt := 20) (by decide) (fun q => absurd q (by decide)) (fun _ => ?_)
        refine mr_aload_n C0 dX6_copy_14 rfl (i := 0) rfl ?_
        refine mr_iconst (v := (-1)) C0 dX6_copy_15 (by decide) ?_
        refine mr_callVI C0 mdX6_refused dX6_copy_16 clX6_refused ml_X6_121 (Nat.le_of_ble_eq_true rfl) rfl rfl arX6_refused (as := [.int (-1 : Int32)]) rfl (Nat.le_of_ble_eq_true rfl) (Nat.le_of_ble_eq_true rfl) (Nat.le_of_ble_eq_true rfl) fit0 (CallV_of mdX6_refused plX6_refused 0 (Nat.le_of_ble_eq_true rfl) rfl ?_) (fun _ _ h => h)
        intro zp7 zl7 ze7 zs7 zm7 zargs7 zbelow7 zmeth7 zc7 zD7 zad7 zac7 C7 hr7 hk7
        refine mr_aload_n C7 dX6_refused_0 rfl (i := 0) rfl ?_
        refine mr_iconst (v := 0) C7 dX6_refused_1 (by decide) ?_
        refine mr_putI C7 dX6_refused_2 fl_X6_61 (Nat.le_of_ble_eq_true rfl) rfl rfl rfl rfl ?_
        refine mr_iload_n C7 dX6_refused_5 rfl (i := 1) rfl ?_
        refine mr_iret C7 hr7 hk7 dX6_refused_6 (qI_mk ?_)
        refine mr_iret C0 hr0 hk0 dX6_copy_19 (qI_mk ?_)
        exact h
      · have h := h.2 c3
        refine mr_lload_n C6 dX6_in_6 rfl (i := 0) rfl ?_
        refine mr_lload C6 dX6_in_7 rfl ?_
        refine mr_lcmp_gt C6 dX6_in_9 dX6_in_10 (tgt := 17) (by decide) (fun c4 => ?_) (fun c4 => ?_)
        · have h := h.1 c4
          refine mr_iconst (v := 0) C6 dX6_in_17 (by decide) ?_
          refine mr_zret C6 hr6 hk6 dX6_in_18 rfl (qI_mk ?_)
          refine mr_if_ne C5 dX6_noSheet_9 (tgt := 16) (by decide) (fun q => absurd q (by decide)) (fun _ => ?_)
          refine mr_iconst (v := 1) C5 dX6_noSheet_12 (by decide) ?_
          refine mr_goto C5 dX6_noSheet_13 (tgt := 17) (by decide) ?_
          refine mr_zret C5 hr5 hk5 dX6_noSheet_17 rfl (qI_mk ?_)
          refine mr_if_eq C0 dX6_copy_11 (tgt := 20) (by decide) (fun q => absurd q (by decide)) (fun _ => ?_)
          refine mr_aload_n C0 dX6_copy_14 rfl (i := 0) rfl ?_
          refine mr_iconst (v := (-1)) C0 dX6_copy_15 (by decide) ?_
          refine mr_callVI C0 mdX6_refused dX6_copy_16 clX6_refused ml_X6_121 (Nat.le_of_ble_eq_true rfl) rfl rfl arX6_refused (as := [.int (-1 : Int32)]) rfl (Nat.le_of_ble_eq_true rfl) (Nat.le_of_ble_eq_true rfl) (Nat.le_of_ble_eq_true rfl) fit0 (CallV_of mdX6_refused plX6_refused 0 (Nat.le_of_ble_eq_true rfl) rfl ?_) (fun _ _ h => h)
          intro zp8 zl8 ze8 zs8 zm8 zargs8 zbelow8 zmeth8 zc8 zD8 zad8 zac8 C8 hr8 hk8
          refine mr_aload_n C8 dX6_refused_0 rfl (i := 0) rfl ?_
          refine mr_iconst (v := 0) C8 dX6_refused_1 (by decide) ?_
          refine mr_putI C8 dX6_refused_2 fl_X6_61 (Nat.le_of_ble_eq_true rfl) rfl rfl rfl rfl ?_
          refine mr_iload_n C8 dX6_refused_5 rfl (i := 1) rfl ?_
          refine mr_iret C8 hr8 hk8 dX6_refused_6 (qI_mk ?_)
          refine mr_iret C0 hr0 hk0 dX6_copy_19 (qI_mk ?_)
          exact h
        · have h := h.2 c4
          refine mr_iconst (v := 1) C6 dX6_in_13 (by decide) ?_
          refine mr_goto C6 dX6_in_14 (tgt := 18) (by decide) ?_
          refine mr_zret C6 hr6 hk6 dX6_in_18 rfl (qI_mk ?_)
          refine mr_if_ne C5 dX6_noSheet_9 (tgt := 16) (by decide) (fun _ => ?_) (fun q => absurd q (by decide))
          refine mr_iconst (v := 0) C5 dX6_noSheet_16 (by decide) ?_
          refine mr_zret C5 hr5 hk5 dX6_noSheet_17 rfl (qI_mk ?_)
          refine mr_if_eq C0 dX6_copy_11 (tgt := 20) (by decide) (fun _ => ?_) (fun q => absurd q (by decide))
          refine mr_aload_n C0 dX6_copy_20 rfl (i := 0) rfl ?_
          refine mr_getR C0 dX6_copy_21 fl_X6_47 (Nat.le_of_ble_eq_true rfl) rfl rfl ?_
          refine mr_iload_n C0 dX6_copy_24 rfl (i := 1) rfl ?_
          have g5 := h.1
          have h := h.2
          refine mr_iald C0 dX6_copy_25 (Nat.le_of_ble_eq_true rfl) rfl g5 ?_
          refine mr_if_lt C0 dX6_copy_26 (tgt := 38) (by decide) (fun c6 => ?_) (fun c6 => ?_)
          · have h := h.1 c6
            refine mr_aload_n C0 dX6_copy_38 rfl (i := 0) rfl ?_
            refine mr_iconst (v := 1) C0 dX6_copy_39 (by decide) ?_
            refine mr_callVI C0 mdX6_failed dX6_copy_40 clX6_failed ml_X6_110 (Nat.le_of_ble_eq_true rfl) rfl rfl arX6_failed (as := [.int (1 : Int32)]) rfl (Nat.le_of_ble_eq_true rfl) (Nat.le_of_ble_eq_true rfl) (Nat.le_of_ble_eq_true rfl) fit0 (CallV_of mdX6_failed plX6_failed 0 (Nat.le_of_ble_eq_true rfl) rfl ?_) (fun _ _ h => h)
            intro zp9 zl9 ze9 zs9 zm9 zargs9 zbelow9 zmeth9 zc9 zD9 zad9 zac9 C9 hr9 hk9
            refine mr_aload_n C9 dX6_failed_0 rfl (i := 0) rfl ?_
            refine mr_iload_n C9 dX6_failed_1 rfl (i := 1) rfl ?_
            refine mr_putI C9 dX6_failed_2 fl_X6_61 (Nat.le_of_ble_eq_true rfl) rfl rfl rfl rfl ?_
            refine mr_bipush (v := (-10)) C9 dX6_failed_5 (by decide) ?_
            refine mr_iload_n C9 dX6_failed_7 rfl (i := 1) rfl ?_
            refine mr_isub C9 dX6_failed_8 ?_
            refine mr_topI (y := (-11 : Int32)) (by decide) ?_
            refine mr_iret C9 hr9 hk9 dX6_failed_9 (qI_mk ?_)
            refine mr_iret C0 hr0 hk0 dX6_copy_43 (qI_mk ?_)
            exact h
          · have h := h.2 c6
            refine mr_aload_n C0 dX6_copy_29 rfl (i := 0) rfl ?_
            refine mr_getR C0 dX6_copy_30 fl_X6_47 (Nat.le_of_ble_eq_true rfl) rfl rfl ?_
            refine mr_iload_n C0 dX6_copy_33 rfl (i := 3) rfl ?_
            have g7 := h.1
            have h := h.2
            refine mr_iald C0 dX6_copy_34 (Nat.le_of_ble_eq_true rfl) rfl g7 ?_
            refine mr_if_ge C0 dX6_copy_35 (tgt := 44) (by decide) (fun c8 => ?_) (fun c8 => ?_)
            · have h := h.1 c8
              refine mr_aload_n C0 dX6_copy_44 rfl (i := 0) rfl ?_
              refine mr_getR C0 dX6_copy_45 fl_X6_50 (Nat.le_of_ble_eq_true rfl) rfl rfl ?_
              refine mr_iload_n C0 dX6_copy_48 rfl (i := 1) rfl ?_
              have g9 := h.1
              have h := h.2
              refine mr_iald C0 dX6_copy_49 (Nat.le_of_ble_eq_true rfl) rfl g9 ?_
              refine mr_aload_n C0 dX6_copy_50 rfl (i := 0) rfl ?_
              refine mr_getR C0 dX6_copy_51 fl_X6_50 (Nat.le_of_ble_eq_true rfl) rfl rfl ?_
              refine mr_iload_n C0 dX6_copy_54 rfl (i := 3) rfl ?_
              have g10 := h.1
              have h := h.2
              refine mr_iald C0 dX6_copy_55 (Nat.le_of_ble_eq_true rfl) rfl g10 ?_
              refine mr_icmp_eq C0 dX6_copy_56 (tgt := 65) (by decide) (fun c11 => ?_) (fun c11 => ?_)
              · have h := h.1 c11
                refine mr_iload_n C0 dX6_copy_65 rfl (i := 2) rfl ?_
                refine mr_iload C0 dX6_copy_66 rfl ?_
                refine mr_i2l C0 dX6_copy_68 ?_
                refine mr_aload_n C0 dX6_copy_69 rfl (i := 0) rfl ?_
                refine mr_getR C0 dX6_copy_70 fl_X6_47 (Nat.le_of_ble_eq_true rfl) rfl rfl ?_
                refine mr_iload_n C0 dX6_copy_73 rfl (i := 1) rfl ?_
                have g12 := h.1
                have h := h.2
                refine mr_iald C0 dX6_copy_74 (Nat.le_of_ble_eq_true rfl) rfl g12 ?_
                refine mr_callSI C0 mdX6_isBeyond dX6_copy_75 clX6_isBeyond ml_X6_113 arX6_isBeyond (as := [.int x2, .long x5.toInt64, .int (S.1 47 x1.toNatClampNeg)]) rfl (Nat.le_of_ble_eq_true rfl) (Nat.le_of_ble_eq_true rfl) (Nat.le_of_ble_eq_true rfl) fit0 h (fun r14 S13 h => ?_)
                refine mr_if_ne C0 dX6_copy_78 (tgt := 98) (by decide) (fun c15 => ?_) (fun c15 => ?_)
                · have h := h.1 c15
                  refine mr_aload_n C0 dX6_copy_98 rfl (i := 0) rfl ?_
                  refine mr_iconst (v := 3) C0 dX6_copy_99 (by decide) ?_
                  refine mr_callVI C0 mdX6_failed dX6_copy_100 clX6_failed ml_X6_110 (Nat.le_of_ble_eq_true rfl) rfl rfl arX6_failed (as := [.int (3 : Int32)]) rfl (Nat.le_of_ble_eq_true rfl) (Nat.le_of_ble_eq_true rfl) (Nat.le_of_ble_eq_true rfl) fit0 (CallV_of mdX6_failed plX6_failed 0 (Nat.le_of_ble_eq_true rfl) rfl ?_) (fun _ _ h => h)
                  intro zp10 zl10 ze10 zs10 zm10 zargs10 zbelow10 zmeth10 zc10 zD10 zad10 zac10 C10 hr10 hk10
                  refine mr_aload_n C10 dX6_failed_0 rfl (i := 0) rfl ?_
                  refine mr_iload_n C10 dX6_failed_1 rfl (i := 1) rfl ?_
                  refine mr_putI C10 dX6_failed_2 fl_X6_61 (Nat.le_of_ble_eq_true rfl) rfl rfl rfl rfl ?_
                  refine mr_bipush (v := (-10)) C10 dX6_failed_5 (by decide) ?_
                  refine mr_iload_n C10 dX6_failed_7 rfl (i := 1) rfl ?_
                  refine mr_isub C10 dX6_failed_8 ?_
                  refine mr_topI (y := (-13 : Int32)) (by decide) ?_
                  refine mr_iret C10 hr10 hk10 dX6_failed_9 (qI_mk ?_)
                  refine mr_iret C0 hr0 hk0 dX6_copy_103 (qI_mk ?_)
                  exact h
                · have h := h.2 c15
                  refine mr_iload C0 dX6_copy_81 rfl ?_
                  refine mr_iload C0 dX6_copy_83 rfl ?_
                  refine mr_i2l C0 dX6_copy_85 ?_
                  refine mr_aload_n C0 dX6_copy_86 rfl (i := 0) rfl ?_
                  refine mr_getR C0 dX6_copy_87 fl_X6_47 (Nat.le_of_ble_eq_true rfl) rfl rfl ?_
                  refine mr_iload_n C0 dX6_copy_90 rfl (i := 3) rfl ?_
                  have g16 := h.1
                  have h := h.2
                  refine mr_iald C0 dX6_copy_91 (Nat.le_of_ble_eq_true rfl) rfl g16 ?_
                  refine mr_callSI C0 mdX6_isBeyond dX6_copy_92 clX6_isBeyond ml_X6_113 arX6_isBeyond (as := [.int x4, .long x5.toInt64, .int (S13.1 47 x3.toNatClampNeg)]) rfl (Nat.le_of_ble_eq_true rfl) (Nat.le_of_ble_eq_true rfl) (Nat.le_of_ble_eq_true rfl) fit0 h (fun r18 S17 h => ?_)
                  refine mr_if_eq C0 dX6_copy_95 (tgt := 104) (by decide) (fun c19 => ?_) (fun c19 => ?_)
                  · have h := h.1 c19
                    refine mr_iconst (v := 0) C0 dX6_copy_104 (by decide) ?_
                    refine mr_istore (L1 := [some (.ref 34), some (.int x1), some (.int x2), some (.int x3), some (.int x4), some (.int x5), some (.int (0 : Int32))]) C0 dX6_copy_105 (Nat.le_of_ble_eq_true rfl) rfl ?_
                    exact h zp0 zl0 ze0 zs0 zm0 zargs0 zbelow0 zmeth0 zc0 zD0 zad0 zac0 C0 hr0 hk0
                  · have h := h.2 c19
                    refine mr_aload_n C0 dX6_copy_98 rfl (i := 0) rfl ?_
                    refine mr_iconst (v := 3) C0 dX6_copy_99 (by decide) ?_
                    refine mr_callVI C0 mdX6_failed dX6_copy_100 clX6_failed ml_X6_110 (Nat.le_of_ble_eq_true rfl) rfl rfl arX6_failed (as := [.int (3 : Int32)]) rfl (Nat.le_of_ble_eq_true rfl) (Nat.le_of_ble_eq_true rfl) (Nat.le_of_ble_eq_true rfl) fit0 (CallV_of mdX6_failed plX6_failed 0 (Nat.le_of_ble_eq_true rfl) rfl ?_) (fun _ _ h => h)
                    intro zp11 zl11 ze11 zs11 zm11 zargs11 zbelow11 zmeth11 zc11 zD11 zad11 zac11 C11 hr11 hk11
                    refine mr_aload_n C11 dX6_failed_0 rfl (i := 0) rfl ?_
                    refine mr_iload_n C11 dX6_failed_1 rfl (i := 1) rfl ?_
                    refine mr_putI C11 dX6_failed_2 fl_X6_61 (Nat.le_of_ble_eq_true rfl) rfl rfl rfl rfl ?_
                    refine mr_bipush (v := (-10)) C11 dX6_failed_5 (by decide) ?_
                    refine mr_iload_n C11 dX6_failed_7 rfl (i := 1) rfl ?_
                    refine mr_isub C11 dX6_failed_8 ?_
                    refine mr_topI (y := (-13 : Int32)) (by decide) ?_
                    refine mr_iret C11 hr11 hk11 dX6_failed_9 (qI_mk ?_)
                    refine mr_iret C0 hr0 hk0 dX6_copy_103 (qI_mk ?_)
                    exact h
              · have h := h.2 c11
                refine mr_aload_n C0 dX6_copy_59 rfl (i := 0) rfl ?_
                refine mr_iconst (v := 2) C0 dX6_copy_60 (by decide) ?_
                refine mr_callVI C0 mdX6_failed dX6_copy_61 clX6_failed ml_X6_110 (Nat.le_of_ble_eq_true rfl) rfl rfl arX6_failed (as := [.int (2 : Int32)]) rfl (Nat.le_of_ble_eq_true rfl) (Nat.le_of_ble_eq_true rfl) (Nat.le_of_ble_eq_true rfl) fit0 (CallV_of mdX6_failed plX6_failed 0 (Nat.le_of_ble_eq_true rfl) rfl ?_) (fun _ _ h => h)
                intro zp12 zl12 ze12 zs12 zm12 zargs12 zbelow12 zmeth12 zc12 zD12 zad12 zac12 C12 hr12 hk12
                refine mr_aload_n C12 dX6_failed_0 rfl (i := 0) rfl ?_
                refine mr_iload_n C12 dX6_failed_1 rfl (i := 1) rfl ?_
                refine mr_putI C12 dX6_failed_2 fl_X6_61 (Nat.le_of_ble_eq_true rfl) rfl rfl rfl rfl ?_
                refine mr_bipush (v := (-10)) C12 dX6_failed_5 (by decide) ?_
                refine mr_iload_n C12 dX6_failed_7 rfl (i := 1) rfl ?_
                refine mr_isub C12 dX6_failed_8 ?_
                refine mr_topI (y := (-12 : Int32)) (by decide) ?_
                refine mr_iret C12 hr12 hk12 dX6_failed_9 (qI_mk ?_)
                refine mr_iret C0 hr0 hk0 dX6_copy_64 (qI_mk ?_)
                exact h
            · have h := h.2 c8
              refine mr_aload_n C0 dX6_copy_38 rfl (i := 0) rfl ?_
              refine mr_iconst (v := 1) C0 dX6_copy_39 (by decide) ?_
              refine mr_callVI C0 mdX6_failed dX6_copy_40 clX6_failed ml_X6_110 (Nat.le_of_ble_eq_true rfl) rfl rfl arX6_failed (as := [.int (1 : Int32)]) rfl (Nat.le_of_ble_eq_true rfl) (Nat.le_of_ble_eq_true rfl) (Nat.le_of_ble_eq_true rfl) fit0 (CallV_of mdX6_failed plX6_failed 0 (Nat.le_of_ble_eq_true rfl) rfl ?_) (fun _ _ h => h)
              intro zp13 zl13 ze13 zs13 zm13 zargs13 zbelow13 zmeth13 zc13 zD13 zad13 zac13 C13 hr13 hk13
              refine mr_aload_n C13 dX6_failed_0 rfl (i := 0) rfl ?_
              refine mr_iload_n C13 dX6_failed_1 rfl (i := 1) rfl ?_
              refine mr_putI C13 dX6_failed_2 fl_X6_61 (Nat.le_of_ble_eq_true rfl) rfl rfl rfl rfl ?_
              refine mr_bipush (v := (-10)) C13 dX6_failed_5 (by decide) ?_
              refine mr_iload_n C13 dX6_failed_7 rfl (i := 1) rfl ?_
              refine mr_isub C13 dX6_failed_8 ?_
              refine mr_topI (y := (-11 : Int32)) (by decide) ?_
              refine mr_iret C13 hr13 hk13 dX6_failed_9 (qI_mk ?_)
              refine mr_iret C0 hr0 hk0 dX6_copy_43 (qI_mk ?_)
              exact h
set_option maxRecDepth 100000 in
set_option maxHeartbeats 4000000 in
theorem eX6_copy_107 (x1 : Int32) (x2 : Int32) (x3 : Int32) (x4 : Int32) (x5 : Int32) (x6 : Int32) (S : St) (Q : Int32 → St → Prop) (h : ((x5 ≤ x6 → V mdX6_copy 144 [some (.ref 34), none, none, some (.int x3), some (.int x4), some (.int x5), some (.int (0 : Int32))] [] S (qI Q)) ∧ (¬ x5 ≤ x6 → (vp_in ((((60 : Int32) * x1) + x2) + x6) 240) ∧ (vp_in x6 60) ∧ V mdX6_copy 107 [some (.ref 34), some (.int x1), some (.int x2), some (.int x3), some (.int x4), some (.int x5), some (.int (x6 + 1))] [] (sI S 50 x6.toNatClampNeg (S.1 49 (((((60 : Int32) * x1) + x2) + x6).toNatClampNeg))) (qI Q)))) : V mdX6_copy 107 [some (.ref 34), some (.int x1), some (.int x2), some (.int x3), some (.int x4), some (.int x5), some (.int x6)] [] S (qI Q) := by
  intro zp0 zl0 ze0 zs0 zm0 zargs0 zbelow0 zmeth0 zc0 zD0 zad0 zac0 C0 hr0 hk0
  refine mr_iload C0 dX6_copy_107 rfl ?_
  refine mr_iload C0 dX6_copy_109 rfl ?_
  refine mr_icmp_ge C0 dX6_copy_111 (tgt := 141) (by decide) (fun c1 => ?_) (fun c1 => ?_)
  · have h := h.1 c1
    refine mr_iconst (v := 0) C0 dX6_copy_141 (by decide) ?_
    refine mr_istore (L1 := [some (.ref 34), some (.int x1), some (.int x2), some (.int x3), some (.int x4), some (.int x5), some (.int (0 : Int32))]) C0 dX6_copy_142 (Nat.le_of_ble_eq_true rfl) rfl ?_
    refine mr_mask (L1 := [some (.ref 34), none, none, some (.int x3), some (.int x4), some (.int x5), some (.int (0 : Int32))]) C0 [true, false, false, true, true, true, true] rfl ?_
    exact h zp0 zl0 ze0 zs0 zm0 zargs0 zbelow0 zmeth0 zc0 zD0 zad0 zac0 C0 hr0 hk0
  · have h := h.2 c1
    refine mr_aload_n C0 dX6_copy_114 rfl (i := 0) rfl ?_
    refine mr_getR C0 dX6_copy_115 fl_X6_56 (Nat.le_of_ble_eq_true rfl) rfl rfl ?_
    refine mr_iload C0 dX6_copy_118 rfl ?_
    refine mr_aload_n C0 dX6_copy_120 rfl (i := 0) rfl ?_
    refine mr_getR C0 dX6_copy_121 fl_X6_53 (Nat.le_of_ble_eq_true rfl) rfl rfl ?_
    refine mr_bipush (v := 60) C0 dX6_copy_124 (by decide) ?_
    refine mr_iload_n C0 dX6_copy_126 rfl (i := 1) rfl ?_
    refine mr_imul C0 dX6_copy_127 ?_
    refine mr_iload_n C0 dX6_copy_128 rfl (i := 2) rfl ?_
    refine mr_iadd C0 dX6_copy_129 ?_
    refine mr_iload C0 dX6_copy_130 rfl ?_
    refine mr_iadd C0 dX6_copy_132 ?_
    have g2 := h.1
    have h := h.2
    refine mr_iald C0 dX6_copy_133 (Nat.le_of_ble_eq_true rfl) rfl g2 ?_
    have g3 := h.1
    have h := h.2
    refine mr_iast C0 dX6_copy_134 (Nat.le_of_ble_eq_true rfl) rfl g3 ?_
    refine mr_iinc (v := (x6 + 1)) (L1 := [some (.ref 34), some (.int x1), some (.int x2), some (.int x3), some (.int x4), some (.int x5), some (.int (x6 + 1))]) C0 dX6_copy_135 rfl rfl (Nat.le_of_ble_eq_true rfl) rfl ?_
    refine mr_goto C0 dX6_copy_138 (tgt := 107) (by decide) ?_
    exact h zp0 zl0 ze0 zs0 zm0 zargs0 zbelow0 zmeth0 zc0 zD0 zad0 zac0 C0 hr0 hk0
set_option maxRecDepth 100000 in
set_option maxHeartbeats 4000000 in
theorem eX6_copy_144 (x3 : Int32) (x4 : Int32) (x5 : Int32) (x6 : Int32) (S : St) (Q : Int32 → St → Prop) (h : ((x5 ≤ x6 → Q x5 (sI S 34 0 (0 : Int32))) ∧ (¬ x5 ≤ x6 → (vp_in x6 60) ∧ (vp_in ((((60 : Int32) * x3) + x4) + x6) 240) ∧ V mdX6_copy 144 [some (.ref 34), none, none, some (.int x3), some (.int x4), some (.int x5), some (.int (x6 + 1))] [] (sI S 49 (((((60 : Int32) * x3) + x4) + x6).toNatClampNeg) (S.1 50 x6.toNatClampNeg)) (qI Q)))) : V mdX6_copy 144 [some (.ref 34), none, none, some (.int x3), some (.int x4), some (.int x5), some (.int x6)] [] S (qI Q) := by
  intro zp0 zl0 ze0 zs0 zm0 zargs0 zbelow0 zmeth0 zc0 zD0 zad0 zac0 C0 hr0 hk0
  refine mr_iload C0 dX6_copy_144 rfl ?_
  refine mr_iload C0 dX6_copy_146 rfl ?_
  refine mr_icmp_ge C0 dX6_copy_148 (tgt := 179) (by decide) (fun c1 => ?_) (fun c1 => ?_)
  · have h := h.1 c1
    refine mr_aload_n C0 dX6_copy_179 rfl (i := 0) rfl ?_
    refine mr_iload C0 dX6_copy_180 rfl ?_
    refine mr_callVI C0 mdX6_refused dX6_copy_182 clX6_refused ml_X6_121 (Nat.le_of_ble_eq_true rfl) rfl rfl arX6_refused (as := [.int x5]) rfl (Nat.le_of_ble_eq_true rfl) (Nat.le_of_ble_eq_true rfl) (Nat.le_of_ble_eq_true rfl) fit0 (CallV_of mdX6_refused plX6_refused 0 (Nat.le_of_ble_eq_true rfl) rfl ?_) (fun _ _ h => h)
    intro zp1 zl1 ze1 zs1 zm1 zargs1 zbelow1 zmeth1 zc1 zD1 zad1 zac1 C1 hr1 hk1
    refine mr_aload_n C1 dX6_refused_0 rfl (i := 0) rfl ?_
    refine mr_iconst (v := 0) C1 dX6_refused_1 (by decide) ?_
    refine mr_putI C1 dX6_refused_2 fl_X6_61 (Nat.le_of_ble_eq_true rfl) rfl rfl rfl rfl ?_
    refine mr_iload_n C1 dX6_refused_5 rfl (i := 1) rfl ?_
    refine mr_iret C1 hr1 hk1 dX6_refused_6 (qI_mk ?_)
    refine mr_iret C0 hr0 hk0 dX6_copy_185 (qI_mk ?_)
    exact h
  · have h := h.2 c1
    refine mr_aload_n C0 dX6_copy_151 rfl (i := 0) rfl ?_
    refine mr_getR C0 dX6_copy_152 fl_X6_53 (Nat.le_of_ble_eq_true rfl) rfl rfl ?_
    refine mr_bipush (v := 60) C0 dX6_copy_155 (by decide) ?_
    refine mr_iload_n C0 dX6_copy_157 rfl (i := 3) rfl ?_
    refine mr_imul C0 dX6_copy_158 ?_
    refine mr_iload C0 dX6_copy_159 rfl ?_
    refine mr_iadd C0 dX6_copy_161 ?_
    refine mr_iload C0 dX6_copy_162 rfl ?_
    refine mr_iadd C0 dX6_copy_164 ?_
    refine mr_aload_n C0 dX6_copy_165 rfl (i := 0) rfl ?_
    refine mr_getR C0 dX6_copy_166 fl_X6_56 (Nat.le_of_ble_eq_true rfl) rfl rfl ?_
    refine mr_iload C0 dX6_copy_169 rfl ?_
    have g2 := h.1
    have h := h.2
    refine mr_iald C0 dX6_copy_171 (Nat.le_of_ble_eq_true rfl) rfl g2 ?_
    have g3 := h.1
    have h := h.2
    refine mr_iast C0 dX6_copy_172 (Nat.le_of_ble_eq_true rfl) rfl g3 ?_
    refine mr_iinc (v := (x6 + 1)) (L1 := [some (.ref 34), none, none, some (.int x3), some (.int x4), some (.int x5), some (.int (x6 + 1))]) C0 dX6_copy_173 rfl rfl (Nat.le_of_ble_eq_true rfl) rfl ?_
    refine mr_goto C0 dX6_copy_176 (tgt := 144) (by decide) ?_
    exact h zp0 zl0 ze0 zs0 zm0 zargs0 zbelow0 zmeth0 zc0 zD0 zad0 zac0 C0 hr0 hk0
set_option maxRecDepth 100000 in
set_option maxHeartbeats 4000000 in
theorem eX6_traced (x1 : Int32) (S : St) (Q : St → Prop) (h : Q (sI S 34 26 (((31 : Int32) * (S.1 34 26)) + x1))) : CallV mdX6_traced [.ref 34, .int x1] S (qV Q) := by
  refine CallV_of mdX6_traced plX6_traced 0 (Nat.le_of_ble_eq_true rfl) rfl ?_
  intro zp0 zl0 ze0 zs0 zm0 zargs0 zbelow0 zmeth0 zc0 zD0 zad0 zac0 C0 hr0 hk0
  refine mr_aload_n C0 dX6_traced_0 rfl (i := 0) rfl ?_
  refine mr_bipush (v := 31) C0 dX6_traced_1 (by decide) ?_
  refine mr_aload_n C0 dX6_traced_3 rfl (i := 0) rfl ?_
  refine mr_getI C0 dX6_traced_4 fl_X6_239 (Nat.le_of_ble_eq_true rfl) rfl rfl ?_
  refine mr_imul C0 dX6_traced_7 ?_
  refine mr_iload_n C0 dX6_traced_8 rfl (i := 1) rfl ?_
  refine mr_iadd C0 dX6_traced_9 ?_
  refine mr_putI C0 dX6_traced_10 fl_X6_239 (Nat.le_of_ble_eq_true rfl) rfl rfl rfl rfl ?_
  refine mr_vret C0 hr0 hk0 dX6_traced_13 (qV_mk ?_)
  exact h
set_option maxRecDepth 100000 in
set_option maxHeartbeats 4000000 in
theorem eX6_tell (x1 : Int32) (S : St) (Q : Int32 → St → Prop) (h : ((x1.toInt64 < (0 : Int64) → Q (-1 : Int32) S) ∧ (¬ x1.toInt64 < (0 : Int64) → ((((S.1 34 11).toInt64 - (1 : Int64)) < x1.toInt64 → Q (-1 : Int32) S) ∧ (¬ ((S.1 34 11).toInt64 - (1 : Int64)) < x1.toInt64 → (vp_in x1 8) ∧ ((¬ (S.1 39 x1.toNatClampNeg) = (2 : Int32) → (((S.1 39 x1.toNatClampNeg) ≤ 0 → ((¬ (S.1 39 x1.toNatClampNeg) = (2 : Int32) → (vp_in x1 8) ∧ ((¬ (S.1 39 x1.toNatClampNeg) = 0 → ((¬ (S.1 39 x1.toNatClampNeg) = (1 : Int32) → Q (((2 : Int32) * (S.1 40 x1.toNatClampNeg)) + (100 : Int32)) (sI S 34 26 (((31 : Int32) * (S.1 34 26)) + (1 : Int32)))) ∧ ((S.1 39 x1.toNatClampNeg) = (1 : Int32) → Q ((S.1 40 x1.toNatClampNeg) + (100 : Int32)) (sI S 34 26 (((31 : Int32) * (S.1 34 26)) + (1 : Int32)))))) ∧ ((S.1 39 x1.toNatClampNeg) = 0 → Q (S.1 40 x1.toNatClampNeg) (sI S 34 26 (((31 : Int32) * (S.1 34 26)) + (1 : Int32)))))) ∧ ((S.1 39 x1.toNatClampNeg) = (2 : Int32) → (vp_in x1 8) ∧ ((¬ (S.1 39 x1.toNatClampNeg) = 0 → ((¬ (S.1 39 x1.toNatClampNeg) = (1 : Int32) → Q (((2 : Int32) * (S.1 40 x1.toNatClampNeg)) + (100 : Int32)) (sI (sI S 34 26 (((31 : Int32) * (S.1 34 26)) + (1 : Int32))) 34 26 (((31 : Int32) * (((31 : Int32) * (S.1 34 26)) + (1 : Int32))) + (1 : Int32)))) ∧ ((S.1 39 x1.toNatClampNeg) = (1 : Int32) → Q ((S.1 40 x1.toNatClampNeg) + (100 : Int32)) (sI (sI S 34 26 (((31 : Int32) * (S.1 34 26)) + (1 : Int32))) 34 26 (((31 : Int32) * (((31 : Int32) * (S.1 34 26)) + (1 : Int32))) + (1 : Int32)))))) ∧ ((S.1 39 x1.toNatClampNeg) = 0 → Q (S.1 40 x1.toNatClampNeg) (sI (sI S 34 26 (((31 : Int32) * (S.1 34 26)) + (1 : Int32))) 34 26 (((31 : Int32) * (((31 : Int32) * (S.1 34 26)) + (1 : Int32))) + (1 : Int32)))))))) ∧ (¬ (S.1 39 x1.toNatClampNeg) ≤ 0 → ((¬ (S.1 39 x1.toNatClampNeg) = (2 : Int32) → (vp_in x1 8) ∧ ((¬ (S.1 39 x1.toNatClampNeg) = 0 → ((¬ (S.1 39 x1.toNatClampNeg) = (1 : Int32) → Q (((2 : Int32) * (S.1 40 x1.toNatClampNeg)) + (100 : Int32)) (sI (sI S 34 26 (((31 : Int32) * (S.1 34 26)) + (2 : Int32))) 34 26 (((31 : Int32) * (((31 : Int32) * (S.1 34 26)) + (2 : Int32))) + (1 : Int32)))) ∧ ((S.1 39 x1.toNatClampNeg) = (1 : Int32) → Q ((S.1 40 x1.toNatClampNeg) + (100 : Int32)) (sI (sI S 34 26 (((31 : Int32) * (S.1 34 26)) + (2 : Int32))) 34 26 (((31 : Int32) * (((31 : Int32) * (S.1 34 26)) + (2 : Int32))) + (1 : Int32)))))) ∧ ((S.1 39 x1.toNatClampNeg) = 0 → Q (S.1 40 x1.toNatClampNeg) (sI (sI S 34 26 (((31 : Int32) * (S.1 34 26)) + (2 : Int32))) 34 26 (((31 : Int32) * (((31 : Int32) * (S.1 34 26)) + (2 : Int32))) + (1 : Int32)))))) ∧ ((S.1 39 x1.toNatClampNeg) = (2 : Int32) → (vp_in x1 8) ∧ ((¬ (S.1 39 x1.toNatClampNeg) = 0 → ((¬ (S.1 39 x1.toNatClampNeg) = (1 : Int32) → Q (((2 : Int32) * (S.1 40 x1.toNatClampNeg)) + (100 : Int32)) (sI (sI (sI S 34 26 (((31 : Int32) * (S.1 34 26)) + (2 : Int32))) 34 26 (((31 : Int32) * (((31 : Int32) * (S.1 34 26)) + (2 : Int32))) + (1 : Int32))) 34 26 (((31 : Int32) * (((31 : Int32) * (((31 : Int32) * (S.1 34 26)) + (2 : Int32))) + (1 : Int32))) + (1 : Int32)))) ∧ ((S.1 39 x1.toNatClampNeg) = (1 : Int32) → Q ((S.1 40 x1.toNatClampNeg) + (100 : Int32)) (sI (sI (sI S 34 26 (((31 : Int32) * (S.1 34 26)) + (2 : Int32))) 34 26 (((31 : Int32) * (((31 : Int32) * (S.1 34 26)) + (2 : Int32))) + (1 : Int32))) 34 26 (((31 : Int32) * (((31 : Int32) * (((31 : Int32) * (S.1 34 26)) + (2 : Int32))) + (1 : Int32))) + (1 : Int32)))))) ∧ ((S.1 39 x1.toNatClampNeg) = 0 → Q (S.1 40 x1.toNatClampNeg) (sI (sI (sI S 34 26 (((31 : Int32) * (S.1 34 26)) + (2 : Int32))) 34 26 (((31 : Int32) * (((31 : Int32) * (S.1 34 26)) + (2 : Int32))) + (1 : Int32))) 34 26 (((31 : Int32) * (((31 : Int32) * (((31 : Int32) * (S.1 34 26)) + (2 : Int32))) + (1 : Int32))) + (1 : Int32)))))))))) ∧ ((S.1 39 x1.toNatClampNeg) = (2 : Int32) → (((S.1 39 x1.toNatClampNeg) ≤ 0 → ((¬ (S.1 39 x1.toNatClampNeg) = (2 : Int32) → (vp_in x1 8) ∧ ((¬ (S.1 39 x1.toNatClampNeg) = 0 → ((¬ (S.1 39 x1.toNatClampNeg) = (1 : Int32) → Q (((2 : Int32) * (S.1 40 x1.toNatClampNeg)) + (100 : Int32)) (sI (sI S 34 26 (((31 : Int32) * (S.1 34 26)) + (3 : Int32))) 34 26 (((31 : Int32) * (((31 : Int32) * (S.1 34 26)) + (3 : Int32))) + (1 : Int32)))) ∧ ((S.1 39 x1.toNatClampNeg) = (1 : Int32) → Q ((S.1 40 x1.toNatClampNeg) + (100 : Int32)) (sI (sI S 34 26 (((31 : Int32) * (S.1 34 26)) + (3 : Int32))) 34 26 (((31 : Int32) * (((31 : Int32) * (S.1 34 26)) + (3 : Int32))) + (1 : Int32)))))) ∧ ((S.1 39 x1.toNatClampNeg) = 0 → Q (S.1 40 x1.toNatClampNeg) (sI (sI S 34 26 (((31 : Int32) * (S.1 34 26)) + (3 : Int32))) 34 26 (((31 : Int32) * (((31 : Int32) * (S.1 34 26)) + (3 : Int32))) + (1 : Int32)))))) ∧ ((S.1 39 x1.toNatClampNeg) = (2 : Int32) → (vp_in x1 8) ∧ ((¬ (S.1 39 x1.toNatClampNeg) = 0 → ((¬ (S.1 39 x1.toNatClampNeg) = (1 : Int32) → Q (((2 : Int32) * (S.1 40 x1.toNatClampNeg)) + (100 : Int32)) (sI (sI (sI S 34 26 (((31 : Int32) * (S.1 34 26)) + (3 : Int32))) 34 26 (((31 : Int32) * (((31 : Int32) * (S.1 34 26)) + (3 : Int32))) + (1 : Int32))) 34 26 (((31 : Int32) * (((31 : Int32) * (((31 : Int32) * (S.1 34 26)) + (3 : Int32))) + (1 : Int32))) + (1 : Int32)))) ∧ ((S.1 39 x1.toNatClampNeg) = (1 : Int32) → Q ((S.1 40 x1.toNatClampNeg) + (100 : Int32)) (sI (sI (sI S 34 26 (((31 : Int32) * (S.1 34 26)) + (3 : Int32))) 34 26 (((31 : Int32) * (((31 : Int32) * (S.1 34 26)) + (3 : Int32))) + (1 : Int32))) 34 26 (((31 : Int32) * (((31 : Int32) * (((31 : Int32) * (S.1 34 26)) + (3 : Int32))) + (1 : Int32))) + (1 : Int32)))))) ∧ ((S.1 39 x1.toNatClampNeg) = 0 → Q (S.1 40 x1.toNatClampNeg) (sI (sI (sI S 34 26 (((31 : Int32) * (S.1 34 26)) + (3 : Int32))) 34 26 (((31 : Int32) * (((31 : Int32) * (S.1 34 26)) + (3 : Int32))) + (1 : Int32))) 34 26 (((31 : Int32) * (((31 : Int32) * (((31 : Int32) * (S.1 34 26)) + (3 : Int32))) + (1 : Int32))) + (1 : Int32)))))))) ∧ (¬ (S.1 39 x1.toNatClampNeg) ≤ 0 → ((¬ (S.1 39 x1.toNatClampNeg) = (2 : Int32) → (vp_in x1 8) ∧ ((¬ (S.1 39 x1.toNatClampNeg) = 0 → ((¬ (S.1 39 x1.toNatClampNeg) = (1 : Int32) → Q (((2 : Int32) * (S.1 40 x1.toNatClampNeg)) + (100 : Int32)) (sI (sI (sI S 34 26 (((31 : Int32) * (S.1 34 26)) + (3 : Int32))) 34 26 (((31 : Int32) * (((31 : Int32) * (S.1 34 26)) + (3 : Int32))) + (2 : Int32))) 34 26 (((31 : Int32) * (((31 : Int32) * (((31 : Int32) * (S.1 34 26)) + (3 : Int32))) + (2 : Int32))) + (1 : Int32)))) ∧ ((S.1 39 x1.toNatClampNeg) = (1 : Int32) → Q ((S.1 40 x1.toNatClampNeg) + (100 : Int32)) (sI (sI (sI S 34 26 (((31 : Int32) * (S.1 34 26)) + (3 : Int32))) 34 26 (((31 : Int32) * (((31 : Int32) * (S.1 34 26)) + (3 : Int32))) + (2 : Int32))) 34 26 (((31 : Int32) * (((31 : Int32) * (((31 : Int32) * (S.1 34 26)) + (3 : Int32))) + (2 : Int32))) + (1 : Int32)))))) ∧ ((S.1 39 x1.toNatClampNeg) = 0 → Q (S.1 40 x1.toNatClampNeg) (sI (sI (sI S 34 26 (((31 : Int32) * (S.1 34 26)) + (3 : Int32))) 34 26 (((31 : Int32) * (((31 : Int32) * (S.1 34 26)) + (3 : Int32))) + (2 : Int32))) 34 26 (((31 : Int32) * (((31 : Int32) * (((31 : Int32) * (S.1 34 26)) + (3 : Int32))) + (2 : Int32))) + (1 : Int32)))))) ∧ ((S.1 39 x1.toNatClampNeg) = (2 : Int32) → (vp_in x1 8) ∧ ((¬ (S.1 39 x1.toNatClampNeg) = 0 → ((¬ (S.1 39 x1.toNatClampNeg) = (1 : Int32) → Q (((2 : Int32) * (S.1 40 x1.toNatClampNeg)) + (100 : Int32)) (sI (sI (sI (sI S 34 26 (((31 : Int32) * (S.1 34 26)) + (3 : Int32))) 34 26 (((31 : Int32) * (((31 : Int32) * (S.1 34 26)) + (3 : Int32))) + (2 : Int32))) 34 26 (((31 : Int32) * (((31 : Int32) * (((31 : Int32) * (S.1 34 26)) + (3 : Int32))) + (2 : Int32))) + (1 : Int32))) 34 26 (((31 : Int32) * (((31 : Int32) * (((31 : Int32) * (((31 : Int32) * (S.1 34 26)) + (3 : Int32))) + (2 : Int32))) + (1 : Int32))) + (1 : Int32)))) ∧ ((S.1 39 x1.toNatClampNeg) = (1 : Int32) → Q ((S.1 40 x1.toNatClampNeg) + (100 : Int32)) (sI (sI (sI (sI S 34 26 (((31 : Int32) * (S.1 34 26)) + (3 : Int32))) 34 26 (((31 : Int32) * (((31 : Int32) * (S.1 34 26)) + (3 : Int32))) + (2 : Int32))) 34 26 (((31 : Int32) * (((31 : Int32) * (((31 : Int32) * (S.1 34 26)) + (3 : Int32))) + (2 : Int32))) + (1 : Int32))) 34 26 (((31 : Int32) * (((31 : Int32) * (((31 : Int32) * (((31 : Int32) * (S.1 34 26)) + (3 : Int32))) + (2 : Int32))) + (1 : Int32))) + (1 : Int32)))))) ∧ ((S.1 39 x1.toNatClampNeg) = 0 → Q (S.1 40 x1.toNatClampNeg) (sI (sI (sI (sI S 34 26 (((31 : Int32) * (S.1 34 26)) + (3 : Int32))) 34 26 (((31 : Int32) * (((31 : Int32) * (S.1 34 26)) + (3 : Int32))) + (2 : Int32))) 34 26 (((31 : Int32) * (((31 : Int32) * (((31 : Int32) * (S.1 34 26)) + (3 : Int32))) + (2 : Int32))) + (1 : Int32))) 34 26 (((31 : Int32) * (((31 : Int32) * (((31 : Int32) * (((31 : Int32) * (S.1 34 26)) + (3 : Int32))) + (2 : Int32))) + (1 : Int32))) + (1 : Int32)))))))))))))))) : CallV mdX6_tell [.ref 34, .int x1] S (qI Q) := by
  refine CallV_of mdX6_tell plX6_tell 2 (Nat.le_of_ble_eq_true rfl) rfl ?_
  intro zp0 zl0 ze0 zs0 zm0 zargs0 zbelow0 zmeth0 zc0 zD0 zad0 zac0 C0 hr0 hk0
  refine mr_aload_n C0 dX6_tell_0 rfl (i := 0) rfl ?_
  refine mr_iload_n C0 dX6_tell_1 rfl (i := 1) rfl ?_
  refine mr_callVI C0 mdX6_noVote dX6_tell_2 clX6_noVote ml_X6_149 (Nat.le_of_ble_eq_true rfl) rfl rfl arX6_noVote (as := [.int x1]) rfl (Nat.le_of_ble_eq_true rfl) (Nat.le_of_ble_eq_true rfl) (Nat.le_of_ble_eq_true rfl) fit0 (CallV_of mdX6_noVote plX6_noVote 0 (Nat.le_of_ble_eq_true rfl) rfl ?_) (fun _ _ h => h)
  intro zp1 zl1 ze1 zs1 zm1 zargs1 zbelow1 zmeth1 zc1 zD1 zad1 zac1 C1 hr1 hk1
  refine mr_iload_n C1 dX6_noVote_0 rfl (i := 1) rfl ?_
  refine mr_i2l C1 dX6_noVote_1 ?_
  refine mr_lconst (v := 0) C1 dX6_noVote_2 (by decide) ?_
  refine mr_aload_n C1 dX6_noVote_3 rfl (i := 0) rfl ?_
  refine mr_getI C1 dX6_noVote_4 fl_X6_138 (Nat.le_of_ble_eq_true rfl) rfl rfl ?_
  refine mr_i2l C1 dX6_noVote_7 ?_
  refine mr_lconst (v := 1) C1 dX6_noVote_8 (by decide) ?_
  refine mr_lsub C1 dX6_noVote_9 ?_
  refine mr_callSI C1 mdX6_in dX6_noVote_10 clX6_in ml_X6_79 arX6_in (as := [.long x1.toInt64, .long (0 : Int64), .long ((S.1 34 11).toInt64 - (1 : Int64))]) rfl (Nat.le_of_ble_eq_true rfl) (Nat.le_of_ble_eq_true rfl) (Nat.le_of_ble_eq_true rfl) fit0 (CallV_of mdX6_in plX6_in 0 (Nat.le_of_ble_eq_true rfl) rfl ?_) (fun _ _ h => h)
  intro zp2 zl2 ze2 zs2 zm2 zargs2 zbelow2 zmeth2 zc2 zD2 zad2 zac2 C2 hr2 hk2
  refine mr_lload_n C2 dX6_in_0 rfl (i := 0) rfl ?_
  refine mr_lload_n C2 dX6_in_1 rfl (i := 2) rfl ?_
  refine mr_lcmp_lt C2 dX6_in_2 dX6_in_3 (tgt := 17) (by decide) (fun c1 => ?_) (fun c1 => ?_)
  · have h := h.1 c1
    refine mr_iconst (v := 0) C2 dX6_in_17 (by decide) ?_
    refine mr_zret C2 hr2 hk2 dX6_in_18 rfl (qI_mk ?_)
    refine mr_if_ne C1 dX6_noVote_13 (tgt := 20) (by decide) (fun q => absurd q (by decide)) (fun _ => ?_)
    refine mr_iconst (v := 1) C1 dX6_noVote_16 (by decide) ?_
    refine mr_goto C1 dX6_noVote_17 (tgt := 21) (by decide) ?_
    refine mr_zret C1 hr1 hk1 dX6_noVote_21 rfl (qI_mk ?_)
    refine mr_if_eq C0 dX6_tell_5 (tgt := 10) (by decide) (fun q => absurd q (by decide)) (fun _ => ?_)
    refine mr_iconst (v := (-1)) C0 dX6_tell_8 (by decide) ?_
    refine mr_iret C0 hr0 hk0 dX6_tell_9 (qI_mk ?_)
    exact h
  · have h := h.2 c1
    refine mr_lload_n C2 dX6_in_6 rfl (i := 0) rfl ?_
    refine mr_lload C2 dX6_in_7 rfl ?_
    refine mr_lcmp_gt C2 dX6_in_9 dX6_in_10 (tgt := 17) (by decide) (fun c2 => ?_) (fun c2 => ?_)
    · have h := h.1 c2
      refine mr_iconst (v := 0) C2 dX6_in_17 (by decide) ?_
      refine mr_zret C2 hr2 hk2 dX6_in_18 rfl (qI_mk ?_)
      refine mr_if_ne C1 dX6_noVote_13 (tgt := 20) (by decide) (fun q => absurd q (by decide)) (fun _ => ?_)
      refine mr_iconst (v := 1) C1 dX6_noVote_16 (by decide) ?_
      refine mr_goto C1 dX6_noVote_17 (tgt := 21) (by decide) ?_
      refine mr_zret C1 hr1 hk1 dX6_noVote_21 rfl (qI_mk ?_)
      refine mr_if_eq C0 dX6_tell_5 (tgt := 10) (by decide) (fun q => absurd q (by decide)) (fun _ => ?_)
      refine mr_iconst (v := (-1)) C0 dX6_tell_8 (by decide) ?_
      refine mr_iret C0 hr0 hk0 dX6_tell_9 (qI_mk ?_)
      exact h
    · have h := h.2 c2
      refine mr_iconst (v := 1) C2 dX6_in_13 (by decide) ?_
      refine mr_goto C2 dX6_in_14 (tgt := 18) (by decide) ?_
      refine mr_zret C2 hr2 hk2 dX6_in_18 rfl (qI_mk ?_)
      refine mr_if_ne C1 dX6_noVote_13 (tgt := 20) (by decide) (fun _ => ?_) (fun q => absurd q (by decide))
      refine mr_iconst (v := 0) C1 dX6_noVote_20 (by decide) ?_
      refine mr_zret C1 hr1 hk1 dX6_noVote_21 rfl (qI_mk ?_)
      refine mr_if_eq C0 dX6_tell_5 (tgt := 10) (by decide) (fun _ => ?_) (fun q => absurd q (by decide))
      refine mr_aload_n C0 dX6_tell_10 rfl (i := 0) rfl ?_
      refine mr_getR C0 dX6_tell_11 fl_X6_22 (Nat.le_of_ble_eq_true rfl) rfl rfl ?_
      refine mr_iload_n C0 dX6_tell_14 rfl (i := 1) rfl ?_
      have g3 := h.1
      have h := h.2
      refine mr_iald C0 dX6_tell_15 (Nat.le_of_ble_eq_true rfl) rfl g3 ?_
      refine mr_istore_n (L1 := [some (.ref 34), some (.int x1), some (.int (S.1 39 x1.toNatClampNeg)), none]) C0 dX6_tell_16 rfl (Nat.le_of_ble_eq_true rfl) rfl ?_
      refine mr_iload_n C0 dX6_tell_17 rfl (i := 2) rfl ?_
      refine mr_iconst (v := 2) C0 dX6_tell_18 (by decide) ?_
      refine mr_icmp_ne C0 dX6_tell_19 (tgt := 27) (by decide) (fun c4 => ?_) (fun c4 => ?_)
      · have h := h.1 c4
        refine mr_iload_n C0 dX6_tell_27 rfl (i := 2) rfl ?_
        refine mr_if_le C0 dX6_tell_28 (tgt := 36) (by decide) (fun c5 => ?_) (fun c5 => ?_)
        · have h := h.1 c5
          refine mr_aload_n C0 dX6_tell_36 rfl (i := 0) rfl ?_
          refine mr_iconst (v := 1) C0 dX6_tell_37 (by decide) ?_
          refine mr_callVV C0 mdX6_traced dX6_tell_38 clX6_traced ml_X6_242 (Nat.le_of_ble_eq_true rfl) rfl rfl arX6_traced (as := [.int (1 : Int32)]) rfl (Nat.le_of_ble_eq_true rfl) (Nat.le_of_ble_eq_true rfl) (Nat.le_of_ble_eq_true rfl) fit0 (CallV_of mdX6_traced plX6_traced 0 (Nat.le_of_ble_eq_true rfl) rfl ?_) (fun _ h => h)
          intro zp3 zl3 ze3 zs3 zm3 zargs3 zbelow3 zmeth3 zc3 zD3 zad3 zac3 C3 hr3 hk3
          refine mr_aload_n C3 dX6_traced_0 rfl (i := 0) rfl ?_
          refine mr_bipush (v := 31) C3 dX6_traced_1 (by decide) ?_
          refine mr_aload_n C3 dX6_traced_3 rfl (i := 0) rfl ?_
          refine mr_getI C3 dX6_traced_4 fl_X6_239 (Nat.le_of_ble_eq_true rfl) rfl rfl ?_
          refine mr_imul C3 dX6_traced_7 ?_
          refine mr_iload_n C3 dX6_traced_8 rfl (i := 1) rfl ?_
          refine mr_iadd C3 dX6_traced_9 ?_
          refine mr_putI C3 dX6_traced_10 fl_X6_239 (Nat.le_of_ble_eq_true rfl) rfl rfl rfl rfl ?_
          refine mr_vret C3 hr3 hk3 dX6_traced_13 (qV_mk ?_)
          refine mr_iload_n C0 dX6_tell_41 rfl (i := 2) rfl ?_
          refine mr_iconst (v := 2) C0 dX6_tell_42 (by decide) ?_
          refine mr_icmp_ne C0 dX6_tell_43 (tgt := 51) (by decide) (fun c6 => ?_) (fun c6 => ?_)
          · have h := h.1 c6
            refine mr_aload_n C0 dX6_tell_51 rfl (i := 0) rfl ?_
            refine mr_getR C0 dX6_tell_52 fl_X6_25 (Nat.le_of_ble_eq_true rfl) rfl rfl ?_
            refine mr_iload_n C0 dX6_tell_55 rfl (i := 1) rfl ?_
            have g7 := h.1
            have h := h.2
            refine mr_iald C0 dX6_tell_56 (Nat.le_of_ble_eq_true rfl) rfl g7 ?_
            refine mr_topI (y := (S.1 40 x1.toNatClampNeg)) (by first | rfl | simp [sI, sJ, sF, upd, vp_updL]) ?_
            refine mr_istore_n (L1 := [some (.ref 34), some (.int x1), some (.int (S.1 39 x1.toNatClampNeg)), some (.int (S.1 40 x1.toNatClampNeg))]) C0 dX6_tell_57 rfl (Nat.le_of_ble_eq_true rfl) rfl ?_
            refine mr_iload_n C0 dX6_tell_58 rfl (i := 2) rfl ?_
            refine mr_if_ne C0 dX6_tell_59 (tgt := 66) (by decide) (fun c8 => ?_) (fun c8 => ?_)
            · have h := h.1 c8
              refine mr_iload_n C0 dX6_tell_66 rfl (i := 2) rfl ?_
              refine mr_iconst (v := 1) C0 dX6_tell_67 (by decide) ?_
              refine mr_icmp_ne C0 dX6_tell_68 (tgt := 78) (by decide) (fun c9 => ?_) (fun c9 => ?_)
              · have h := h.1 c9
                refine mr_iconst (v := 2) C0 dX6_tell_78 (by decide) ?_
                refine mr_iload_n C0 dX6_tell_79 rfl (i := 3) rfl ?_
                refine mr_imul C0 dX6_tell_80 ?_
                refine mr_bipush (v := 100) C0 dX6_tell_81 (by decide) ?_
                refine mr_iadd C0 dX6_tell_83 ?_
                refine mr_iret C0 hr0 hk0 dX6_tell_84 (qI_mk ?_)
                exact h
              · have h := h.2 c9
                refine mr_iload_n C0 dX6_tell_71 rfl (i := 3) rfl ?_
                refine mr_bipush (v := 100) C0 dX6_tell_72 (by decide) ?_
                refine mr_iadd C0 dX6_tell_74 ?_
                refine mr_goto C0 dX6_tell_75 (tgt := 84) (by decide) ?_
                refine mr_iret C0 hr0 hk0 dX6_tell_84 (qI_mk ?_)
                exact h
            · have h := h.2 c8
              refine mr_iload_n C0 dX6_tell_62 rfl (i := 3) rfl ?_
              refine mr_goto C0 dX6_tell_63 (tgt := 84) (by decide) ?_
              refine mr_iret C0 hr0 hk0 dX6_tell_84 (qI_mk ?_)
              exact h
          · have h := h.2 c6
            refine mr_aload_n C0 dX6_tell_46 rfl (i := 0) rfl ?_
            refine mr_iconst (v := 1) C0 dX6_tell_47 (by decide) ?_
            refine mr_callVV C0 mdX6_traced dX6_tell_48 clX6_traced ml_X6_242 (Nat.le_of_ble_eq_true rfl) rfl rfl arX6_traced (as := [.int (1 : Int32)]) rfl (Nat.le_of_ble_eq_true rfl) (Nat.le_of_ble_eq_true rfl) (Nat.le_of_ble_eq_true rfl) fit0 (CallV_of mdX6_traced plX6_traced 0 (Nat.le_of_ble_eq_true rfl) rfl ?_) (fun _ h => h)
            intro zp4 zl4 ze4 zs4 zm4 zargs4 zbelow4 zmeth4 zc4 zD4 zad4 zac4 C4 hr4 hk4
            refine mr_aload_n C4 dX6_traced_0 rfl (i := 0) rfl ?_
            refine mr_bipush (v := 31) C4 dX6_traced_1 (by decide) ?_
            refine mr_aload_n C4 dX6_traced_3 rfl (i := 0) rfl ?_
            refine mr_getI C4 dX6_traced_4 fl_X6_239 (Nat.le_of_ble_eq_true rfl) rfl rfl ?_
            refine mr_topI (y := (((31 : Int32) * (S.1 34 26)) + (1 : Int32))) (by first | rfl | simp [sI, sJ, sF, upd, vp_updL]) ?_
            refine mr_imul C4 dX6_traced_7 ?_
            refine mr_iload_n C4 dX6_traced_8 rfl (i := 1) rfl ?_
            refine mr_iadd C4 dX6_traced_9 ?_
            refine mr_putI C4 dX6_traced_10 fl_X6_239 (Nat.le_of_ble_eq_true rfl) rfl rfl rfl rfl ?_
            refine mr_vret C4 hr4 hk4 dX6_traced_13 (qV_mk ?_)
            refine mr_aload_n C0 dX6_tell_51 rfl (i := 0) rfl ?_
            refine mr_getR C0 dX6_tell_52 fl_X6_25 (Nat.le_of_ble_eq_true rfl) rfl rfl ?_
            refine mr_iload_n C0 dX6_tell_55 rfl (i := 1) rfl ?_
            have g10 := h.1
            have h := h.2
            refine mr_iald C0 dX6_tell_56 (Nat.le_of_ble_eq_true rfl) rfl g10 ?_
            refine mr_topI (y := (S.1 40 x1.toNatClampNeg)) (by first | rfl | simp [sI, sJ, sF, upd, vp_updL]) ?_
            refine mr_istore_n (L1 := [some (.ref 34), some (.int x1), some (.int (S.1 39 x1.toNatClampNeg)), some (.int (S.1 40 x1.toNatClampNeg))]) C0 dX6_tell_57 rfl (Nat.le_of_ble_eq_true rfl) rfl ?_
            refine mr_iload_n C0 dX6_tell_58 rfl (i := 2) rfl ?_
            refine mr_if_ne C0 dX6_tell_59 (tgt := 66) (by decide) (fun c11 => ?_) (fun c11 => ?_)
            · have h := h.1 c11
              refine mr_iload_n C0 dX6_tell_66 rfl (i := 2) rfl ?_
              refine mr_iconst (v := 1) C0 dX6_tell_67 (by decide) ?_
              refine mr_icmp_ne C0 dX6_tell_68 (tgt := 78) (by decide) (fun c12 => ?_) (fun c12 => ?_)
              · have h := h.1 c12
                refine mr_iconst (v := 2) C0 dX6_tell_78 (by decide) ?_
                refine mr_iload_n C0 dX6_tell_79 rfl (i := 3) rfl ?_
                refine mr_imul C0 dX6_tell_80 ?_
                refine mr_bipush (v := 100) C0 dX6_tell_81 (by decide) ?_
                refine mr_iadd C0 dX6_tell_83 ?_
                refine mr_iret C0 hr0 hk0 dX6_tell_84 (qI_mk ?_)
                exact h
              · have h := h.2 c12
                refine mr_iload_n C0 dX6_tell_71 rfl (i := 3) rfl ?_
                refine mr_bipush (v := 100) C0 dX6_tell_72 (by decide) ?_
                refine mr_iadd C0 dX6_tell_74 ?_
                refine mr_goto C0 dX6_tell_75 (tgt := 84) (by decide) ?_
                refine mr_iret C0 hr0 hk0 dX6_tell_84 (qI_mk ?_)
                exact h
            · have h := h.2 c11
              refine mr_iload_n C0 dX6_tell_62 rfl (i := 3) rfl ?_
              refine mr_goto C0 dX6_tell_63 (tgt := 84) (by decide) ?_
              refine mr_iret C0 hr0 hk0 dX6_tell_84 (qI_mk ?_)
              exact h
        · have h := h.2 c5
          refine mr_aload_n C0 dX6_tell_31 rfl (i := 0) rfl ?_
          refine mr_iconst (v := 2) C0 dX6_tell_32 (by decide) ?_
          refine mr_callVV C0 mdX6_traced dX6_tell_33 clX6_traced ml_X6_242 (Nat.le_of_ble_eq_true rfl) rfl rfl arX6_traced (as := [.int (2 : Int32)]) rfl (Nat.le_of_ble_eq_true rfl) (Nat.le_of_ble_eq_true rfl) (Nat.le_of_ble_eq_true rfl) fit0 (CallV_of mdX6_traced plX6_traced 0 (Nat.le_of_ble_eq_true rfl) rfl ?_) (fun _ h => h)
          intro zp5 zl5 ze5 zs5 zm5 zargs5 zbelow5 zmeth5 zc5 zD5 zad5 zac5 C5 hr5 hk5
          refine mr_aload_n C5 dX6_traced_0 rfl (i := 0) rfl ?_
          refine mr_bipush (v := 31) C5 dX6_traced_1 (by decide) ?_
          refine mr_aload_n C5 dX6_traced_3 rfl (i := 0) rfl ?_
          refine mr_getI C5 dX6_traced_4 fl_X6_239 (Nat.le_of_ble_eq_true rfl) rfl rfl ?_
          refine mr_imul C5 dX6_traced_7 ?_
          refine mr_iload_n C5 dX6_traced_8 rfl (i := 1) rfl ?_
          refine mr_iadd C5 dX6_traced_9 ?_
          refine mr_putI C5 dX6_traced_10 fl_X6_239 (Nat.le_of_ble_eq_true rfl) rfl rfl rfl rfl ?_
          refine mr_vret C5 hr5 hk5 dX6_traced_13 (qV_mk ?_)
          refine mr_aload_n C0 dX6_tell_36 rfl (i := 0) rfl ?_
          refine mr_iconst (v := 1) C0 dX6_tell_37 (by decide) ?_
          refine mr_callVV C0 mdX6_traced dX6_tell_38 clX6_traced ml_X6_242 (Nat.le_of_ble_eq_true rfl) rfl rfl arX6_traced (as := [.int (1 : Int32)]) rfl (Nat.le_of_ble_eq_true rfl) (Nat.le_of_ble_eq_true rfl) (Nat.le_of_ble_eq_true rfl) fit0 (CallV_of mdX6_traced plX6_traced 0 (Nat.le_of_ble_eq_true rfl) rfl ?_) (fun _ h => h)
          intro zp6 zl6 ze6 zs6 zm6 zargs6 zbelow6 zmeth6 zc6 zD6 zad6 zac6 C6 hr6 hk6
          refine mr_aload_n C6 dX6_traced_0 rfl (i := 0) rfl ?_
          refine mr_bipush (v := 31) C6 dX6_traced_1 (by decide) ?_
          refine mr_aload_n C6 dX6_traced_3 rfl (i := 0) rfl ?_
          refine mr_getI C6 dX6_traced_4 fl_X6_239 (Nat.le_of_ble_eq_true rfl) rfl rfl ?_
          refine mr_topI (y := (((31 : Int32) * (S.1 34 26)) + (2 : Int32))) (by first | rfl | simp [sI, sJ, sF, upd, vp_updL]) ?_
          refine mr_imul C6 dX6_traced_7 ?_
          refine mr_iload_n C6 dX6_traced_8 rfl (i := 1) rfl ?_
          refine mr_iadd C6 dX6_traced_9 ?_
          refine mr_putI C6 dX6_traced_10 fl_X6_239 (Nat.le_of_ble_eq_true rfl) rfl rfl rfl rfl ?_
          refine mr_vret C6 hr6 hk6 dX6_traced_13 (qV_mk ?_)
          refine mr_iload_n C0 dX6_tell_41 rfl (i := 2) rfl ?_
          refine mr_iconst (v := 2) C0 dX6_tell_42 (by decide) ?_
          refine mr_icmp_ne C0 dX6_tell_43 (tgt := 51) (by decide) (fun c13 => ?_) (fun c13 => ?_)
          · have h := h.1 c13
            refine mr_aload_n C0 dX6_tell_51 rfl (i := 0) rfl ?_
            refine mr_getR C0 dX6_tell_52 fl_X6_25 (Nat.le_of_ble_eq_true rfl) rfl rfl ?_
            refine mr_iload_n C0 dX6_tell_55 rfl (i := 1) rfl ?_
            have g14 := h.1
            have h := h.2
            refine mr_iald C0 dX6_tell_56 (Nat.le_of_ble_eq_true rfl) rfl g14 ?_
            refine mr_topI (y := (S.1 40 x1.toNatClampNeg)) (by first | rfl | simp [sI, sJ, sF, upd, vp_updL]) ?_
            refine mr_istore_n (L1 := [some (.ref 34), some (.int x1), some (.int (S.1 39 x1.toNatClampNeg)), some (.int (S.1 40 x1.toNatClampNeg))]) C0 dX6_tell_57 rfl (Nat.le_of_ble_eq_true rfl) rfl ?_
            refine mr_iload_n C0 dX6_tell_58 rfl (i := 2) rfl ?_
            refine mr_if_ne C0 dX6_tell_59 (tgt := 66) (by decide) (fun c15 => ?_) (fun c15 => ?_)
            · have h := h.1 c15
              refine mr_iload_n C0 dX6_tell_66 rfl (i := 2) rfl ?_
              refine mr_iconst (v := 1) C0 dX6_tell_67 (by decide) ?_
              refine mr_icmp_ne C0 dX6_tell_68 (tgt := 78) (by decide) (fun c16 => ?_) (fun c16 => ?_)
              · have h := h.1 c16
                refine mr_iconst (v := 2) C0 dX6_tell_78 (by decide) ?_
                refine mr_iload_n C0 dX6_tell_79 rfl (i := 3) rfl ?_
                refine mr_imul C0 dX6_tell_80 ?_
                refine mr_bipush (v := 100) C0 dX6_tell_81 (by decide) ?_
                refine mr_iadd C0 dX6_tell_83 ?_
                refine mr_iret C0 hr0 hk0 dX6_tell_84 (qI_mk ?_)
                exact h
              · have h := h.2 c16
                refine mr_iload_n C0 dX6_tell_71 rfl (i := 3) rfl ?_
                refine mr_bipush (v := 100) C0 dX6_tell_72 (by decide) ?_
                refine mr_iadd C0 dX6_tell_74 ?_
                refine mr_goto C0 dX6_tell_75 (tgt := 84) (by decide) ?_
                refine mr_iret C0 hr0 hk0 dX6_tell_84 (qI_mk ?_)
                exact h
            · have h := h.2 c15
              refine mr_iload_n C0 dX6_tell_62 rfl (i := 3) rfl ?_
              refine mr_goto C0 dX6_tell_63 (tgt := 84) (by decide) ?_
              refine mr_iret C0 hr0 hk0 dX6_tell_84 (qI_mk ?_)
              exact h
          · have h := h.2 c13
            refine mr_aload_n C0 dX6_tell_46 rfl (i := 0) rfl ?_
            refine mr_iconst (v := 1) C0 dX6_tell_47 (by decide) ?_
            refine mr_callVV C0 mdX6_traced dX6_tell_48 clX6_traced ml_X6_242 (Nat.le_of_ble_eq_true rfl) rfl rfl arX6_traced (as := [.int (1 : Int32)]) rfl (Nat.le_of_ble_eq_true rfl) (Nat.le_of_ble_eq_true rfl) (Nat.le_of_ble_eq_true rfl) fit0 (CallV_of mdX6_traced plX6_traced 0 (Nat.le_of_ble_eq_true rfl) rfl ?_) (fun _ h => h)
            intro zp7 zl7 ze7 zs7 zm7 zargs7 zbelow7 zmeth7 zc7 zD7 zad7 zac7 C7 hr7 hk7
            refine mr_aload_n C7 dX6_traced_0 rfl (i := 0) rfl ?_
            refine mr_bipush (v := 31) C7 dX6_traced_1 (by decide) ?_
            refine mr_aload_n C7 dX6_traced_3 rfl (i := 0) rfl ?_
            refine mr_getI C7 dX6_traced_4 fl_X6_239 (Nat.le_of_ble_eq_true rfl) rfl rfl ?_
            refine mr_topI (y := (((31 : Int32) * (((31 : Int32) * (S.1 34 26)) + (2 : Int32))) + (1 : Int32))) (by first | rfl | simp [sI, sJ, sF, upd, vp_updL]) ?_
            refine mr_imul C7 dX6_traced_7 ?_
            refine mr_iload_n C7 dX6_traced_8 rfl (i := 1) rfl ?_
            refine mr_iadd C7 dX6_traced_9 ?_
            refine mr_putI C7 dX6_traced_10 fl_X6_239 (Nat.le_of_ble_eq_true rfl) rfl rfl rfl rfl ?_
            refine mr_vret C7 hr7 hk7 dX6_traced_13 (qV_mk ?_)
            refine mr_aload_n C0 dX6_tell_51 rfl (i := 0) rfl ?_
            refine mr_getR C0 dX6_tell_52 fl_X6_25 (Nat.le_of_ble_eq_true rfl) rfl rfl ?_
            refine mr_iload_n C0 dX6_tell_55 rfl (i := 1) rfl ?_
            have g17 := h.1
            have h := h.2
            refine mr_iald C0 dX6_tell_56 (Nat.le_of_ble_eq_true rfl) rfl g17 ?_
            refine mr_topI (y := (S.1 40 x1.toNatClampNeg)) (by first | rfl | simp [sI, sJ, sF, upd, vp_updL]) ?_
            refine mr_istore_n (L1 := [some (.ref 34), some (.int x1), some (.int (S.1 39 x1.toNatClampNeg)), some (.int (S.1 40 x1.toNatClampNeg))]) C0 dX6_tell_57 rfl (Nat.le_of_ble_eq_true rfl) rfl ?_
            refine mr_iload_n C0 dX6_tell_58 rfl (i := 2) rfl ?_
            refine mr_if_ne C0 dX6_tell_59 (tgt := 66) (by decide) (fun c18 => ?_) (fun c18 => ?_)
            · have h := h.1 c18
              refine mr_iload_n C0 dX6_tell_66 rfl (i := 2) rfl ?_
              refine mr_iconst (v := 1) C0 dX6_tell_67 (by decide) ?_
              refine mr_icmp_ne C0 dX6_tell_68 (tgt := 78) (by decide) (fun c19 => ?_) (fun c19 => ?_)
              · have h := h.1 c19
                refine mr_iconst (v := 2) C0 dX6_tell_78 (by decide) ?_
                refine mr_iload_n C0 dX6_tell_79 rfl (i := 3) rfl ?_
                refine mr_imul C0 dX6_tell_80 ?_
                refine mr_bipush (v := 100) C0 dX6_tell_81 (by decide) ?_
                refine mr_iadd C0 dX6_tell_83 ?_
                refine mr_iret C0 hr0 hk0 dX6_tell_84 (qI_mk ?_)
                exact h
              · have h := h.2 c19
                refine mr_iload_n C0 dX6_tell_71 rfl (i := 3) rfl ?_
                refine mr_bipush (v := 100) C0 dX6_tell_72 (by decide) ?_
                refine mr_iadd C0 dX6_tell_74 ?_
                refine mr_goto C0 dX6_tell_75 (tgt := 84) (by decide) ?_
                refine mr_iret C0 hr0 hk0 dX6_tell_84 (qI_mk ?_)
                exact h
            · have h := h.2 c18
              refine mr_iload_n C0 dX6_tell_62 rfl (i := 3) rfl ?_
              refine mr_goto C0 dX6_tell_63 (tgt := 84) (by decide) ?_
              refine mr_iret C0 hr0 hk0 dX6_tell_84 (qI_mk ?_)
              exact h
      · have h := h.2 c4
        refine mr_aload_n C0 dX6_tell_22 rfl (i := 0) rfl ?_
        refine mr_iconst (v := 3) C0 dX6_tell_23 (by decide) ?_
        refine mr_callVV C0 mdX6_traced dX6_tell_24 clX6_traced ml_X6_242 (Nat.le_of_ble_eq_true rfl) rfl rfl arX6_traced (as := [.int (3 : Int32)]) rfl (Nat.le_of_ble_eq_true rfl) (Nat.le_of_ble_eq_true rfl) (Nat.le_of_ble_eq_true rfl) fit0 (CallV_of mdX6_traced plX6_traced 0 (Nat.le_of_ble_eq_true rfl) rfl ?_) (fun _ h => h)
        intro zp8 zl8 ze8 zs8 zm8 zargs8 zbelow8 zmeth8 zc8 zD8 zad8 zac8 C8 hr8 hk8
        refine mr_aload_n C8 dX6_traced_0 rfl (i := 0) rfl ?_
        refine mr_bipush (v := 31) C8 dX6_traced_1 (by decide) ?_
        refine mr_aload_n C8 dX6_traced_3 rfl (i := 0) rfl ?_
        refine mr_getI C8 dX6_traced_4 fl_X6_239 (Nat.le_of_ble_eq_true rfl) rfl rfl ?_
        refine mr_imul C8 dX6_traced_7 ?_
        refine mr_iload_n C8 dX6_traced_8 rfl (i := 1) rfl ?_
        refine mr_iadd C8 dX6_traced_9 ?_
        refine mr_putI C8 dX6_traced_10 fl_X6_239 (Nat.le_of_ble_eq_true rfl) rfl rfl rfl rfl ?_
        refine mr_vret C8 hr8 hk8 dX6_traced_13 (qV_mk ?_)
        refine mr_iload_n C0 dX6_tell_27 rfl (i := 2) rfl ?_
        refine mr_if_le C0 dX6_tell_28 (tgt := 36) (by decide) (fun c20 => ?_) (fun c20 => ?_)
        · have h := h.1 c20
          refine mr_aload_n C0 dX6_tell_36 rfl (i := 0) rfl ?_
          refine mr_iconst (v := 1) C0 dX6_tell_37 (by decide) ?_
          refine mr_callVV C0 mdX6_traced dX6_tell_38 clX6_traced ml_X6_242 (Nat.le_of_ble_eq_true rfl) rfl rfl arX6_traced (as := [.int (1 : Int32)]) rfl (Nat.le_of_ble_eq_true rfl) (Nat.le_of_ble_eq_true rfl) (Nat.le_of_ble_eq_true rfl) fit0 (CallV_of mdX6_traced plX6_traced 0 (Nat.le_of_ble_eq_true rfl) rfl ?_) (fun _ h => h)
          intro zp9 zl9 ze9 zs9 zm9 zargs9 zbelow9 zmeth9 zc9 zD9 zad9 zac9 C9 hr9 hk9
          refine mr_aload_n C9 dX6_traced_0 rfl (i := 0) rfl ?_
          refine mr_bipush (v := 31) C9 dX6_traced_1 (by decide) ?_
          refine mr_aload_n C9 dX6_traced_3 rfl (i := 0) rfl ?_
          refine mr_getI C9 dX6_traced_4 fl_X6_239 (Nat.le_of_ble_eq_true rfl) rfl rfl ?_
          refine mr_topI (y := (((31 : Int32) * (S.1 34 26)) + (3 : Int32))) (by first | rfl | simp [sI, sJ, sF, upd, vp_updL]) ?_
          refine mr_imul C9 dX6_traced_7 ?_
          refine mr_iload_n C9 dX6_traced_8 rfl (i := 1) rfl ?_
          refine mr_iadd C9 dX6_traced_9 ?_
          refine mr_putI C9 dX6_traced_10 fl_X6_239 (Nat.le_of_ble_eq_true rfl) rfl rfl rfl rfl ?_
          refine mr_vret C9 hr9 hk9 dX6_traced_13 (qV_mk ?_)
          refine mr_iload_n C0 dX6_tell_41 rfl (i := 2) rfl ?_
          refine mr_iconst (v := 2) C0 dX6_tell_42 (by decide) ?_
          refine mr_icmp_ne C0 dX6_tell_43 (tgt := 51) (by decide) (fun c21 => ?_) (fun c21 => ?_)
          · have h := h.1 c21
            refine mr_aload_n C0 dX6_tell_51 rfl (i := 0) rfl ?_
            refine mr_getR C0 dX6_tell_52 fl_X6_25 (Nat.le_of_ble_eq_true rfl) rfl rfl ?_
            refine mr_iload_n C0 dX6_tell_55 rfl (i := 1) rfl ?_
            have g22 := h.1
            have h := h.2
            refine mr_iald C0 dX6_tell_56 (Nat.le_of_ble_eq_true rfl) rfl g22 ?_
            refine mr_topI (y := (S.1 40 x1.toNatClampNeg)) (by first | rfl | simp [sI, sJ, sF, upd, vp_updL]) ?_
            refine mr_istore_n (L1 := [some (.ref 34), some (.int x1), some (.int (S.1 39 x1.toNatClampNeg)), some (.int (S.1 40 x1.toNatClampNeg))]) C0 dX6_tell_57 rfl (Nat.le_of_ble_eq_true rfl) rfl ?_
            refine mr_iload_n C0 dX6_tell_58 rfl (i := 2) rfl ?_
            refine mr_if_ne C0 dX6_tell_59 (tgt := 66) (by decide) (fun c23 => ?_) (fun c23 => ?_)
            · have h := h.1 c23
              refine mr_iload_n C0 dX6_tell_66 rfl (i := 2) rfl ?_
              refine mr_iconst (v := 1) C0 dX6_tell_67 (by decide) ?_
              refine mr_icmp_ne C0 dX6_tell_68 (tgt := 78) (by decide) (fun c24 => ?_) (fun c24 => ?_)
              · have h := h.1 c24
                refine mr_iconst (v := 2) C0 dX6_tell_78 (by decide) ?_
                refine mr_iload_n C0 dX6_tell_79 rfl (i := 3) rfl ?_
                refine mr_imul C0 dX6_tell_80 ?_
                refine mr_bipush (v := 100) C0 dX6_tell_81 (by decide) ?_
                refine mr_iadd C0 dX6_tell_83 ?_
                refine mr_iret C0 hr0 hk0 dX6_tell_84 (qI_mk ?_)
                exact h
              · have h := h.2 c24
                refine mr_iload_n C0 dX6_tell_71 rfl (i := 3) rfl ?_
                refine mr_bipush (v := 100) C0 dX6_tell_72 (by decide) ?_
                refine mr_iadd C0 dX6_tell_74 ?_
                refine mr_goto C0 dX6_tell_75 (tgt := 84) (by decide) ?_
                refine mr_iret C0 hr0 hk0 dX6_tell_84 (qI_mk ?_)
                exact h
            · have h := h.2 c23
              refine mr_iload_n C0 dX6_tell_62 rfl (i := 3) rfl ?_
              refine mr_goto C0 dX6_tell_63 (tgt := 84) (by decide) ?_
              refine mr_iret C0 hr0 hk0 dX6_tell_84 (qI_mk ?_)
              exact h
          · have h := h.2 c21
            refine mr_aload_n C0 dX6_tell_46 rfl (i := 0) rfl ?_
            refine mr_iconst (v := 1) C0 dX6_tell_47 (by decide) ?_
            refine mr_callVV C0 mdX6_traced dX6_tell_48 clX6_traced ml_X6_242 (Nat.le_of_ble_eq_true rfl) rfl rfl arX6_traced (as := [.int (1 : Int32)]) rfl (Nat.le_of_ble_eq_true rfl) (Nat.le_of_ble_eq_true rfl) (Nat.le_of_ble_eq_true rfl) fit0 (CallV_of mdX6_traced plX6_traced 0 (Nat.le_of_ble_eq_true rfl) rfl ?_) (fun _ h => h)
            intro zp10 zl10 ze10 zs10 zm10 zargs10 zbelow10 zmeth10 zc10 zD10 zad10 zac10 C10 hr10 hk10
            refine mr_aload_n C10 dX6_traced_0 rfl (i := 0) rfl ?_
            refine mr_bipush (v := 31) C10 dX6_traced_1 (by decide) ?_
            refine mr_aload_n C10 dX6_traced_3 rfl (i := 0) rfl ?_
            refine mr_getI C10 dX6_traced_4 fl_X6_239 (Nat.le_of_ble_eq_true rfl) rfl rfl ?_
            refine mr_topI (y := (((31 : Int32) * (((31 : Int32) * (S.1 34 26)) + (3 : Int32))) + (1 : Int32))) (by first | rfl | simp [sI, sJ, sF, upd, vp_updL]) ?_
            refine mr_imul C10 dX6_traced_7 ?_
            refine mr_iload_n C10 dX6_traced_8 rfl (i := 1) rfl ?_
            refine mr_iadd C10 dX6_traced_9 ?_
            refine mr_putI C10 dX6_traced_10 fl_X6_239 (Nat.le_of_ble_eq_true rfl) rfl rfl rfl rfl ?_
            refine mr_vret C10 hr10 hk10 dX6_traced_13 (qV_mk ?_)
            refine mr_aload_n C0 dX6_tell_51 rfl (i := 0) rfl ?_
            refine mr_getR C0 dX6_tell_52 fl_X6_25 (Nat.le_of_ble_eq_true rfl) rfl rfl ?_
            refine mr_iload_n C0 dX6_tell_55 rfl (i := 1) rfl ?_
            have g25 := h.1
            have h := h.2
            refine mr_iald C0 dX6_tell_56 (Nat.le_of_ble_eq_true rfl) rfl g25 ?_
            refine mr_topI (y := (S.1 40 x1.toNatClampNeg)) (by first | rfl | simp [sI, sJ, sF, upd, vp_updL]) ?_
            refine mr_istore_n (L1 := [some (.ref 34), some (.int x1), some (.int (S.1 39 x1.toNatClampNeg)), some (.int (S.1 40 x1.toNatClampNeg))]) C0 dX6_tell_57 rfl (Nat.le_of_ble_eq_true rfl) rfl ?_
            refine mr_iload_n C0 dX6_tell_58 rfl (i := 2) rfl ?_
            refine mr_if_ne C0 dX6_tell_59 (tgt := 66) (by decide) (fun c26 => ?_) (fun c26 => ?_)
            · have h := h.1 c26
              refine mr_iload_n C0 dX6_tell_66 rfl (i := 2) rfl ?_
              refine mr_iconst (v := 1) C0 dX6_tell_67 (by decide) ?_
              refine mr_icmp_ne C0 dX6_tell_68 (tgt := 78) (by decide) (fun c27 => ?_) (fun c27 => ?_)
              · have h := h.1 c27
                refine mr_iconst (v := 2) C0 dX6_tell_78 (by decide) ?_
                refine mr_iload_n C0 dX6_tell_79 rfl (i := 3) rfl ?_
                refine mr_imul C0 dX6_tell_80 ?_
                refine mr_bipush (v := 100) C0 dX6_tell_81 (by decide) ?_
                refine mr_iadd C0 dX6_tell_83 ?_
                refine mr_iret C0 hr0 hk0 dX6_tell_84 (qI_mk ?_)
                exact h
              · have h := h.2 c27
                refine mr_iload_n C0 dX6_tell_71 rfl (i := 3) rfl ?_
                refine mr_bipush (v := 100) C0 dX6_tell_72 (by decide) ?_
                refine mr_iadd C0 dX6_tell_74 ?_
                refine mr_goto C0 dX6_tell_75 (tgt := 84) (by decide) ?_
                refine mr_iret C0 hr0 hk0 dX6_tell_84 (qI_mk ?_)
                exact h
            · have h := h.2 c26
              refine mr_iload_n C0 dX6_tell_62 rfl (i := 3) rfl ?_
              refine mr_goto C0 dX6_tell_63 (tgt := 84) (by decide) ?_
              refine mr_iret C0 hr0 hk0 dX6_tell_84 (qI_mk ?_)
              exact h
        · have h := h.2 c20
          refine mr_aload_n C0 dX6_tell_31 rfl (i := 0) rfl ?_
          refine mr_iconst (v := 2) C0 dX6_tell_32 (by decide) ?_
          refine mr_callVV C0 mdX6_traced dX6_tell_33 clX6_traced ml_X6_242 (Nat.le_of_ble_eq_true rfl) rfl rfl arX6_traced (as := [.int (2 : Int32)]) rfl (Nat.le_of_ble_eq_true rfl) (Nat.le_of_ble_eq_true rfl) (Nat.le_of_ble_eq_true rfl) fit0 (CallV_of mdX6_traced plX6_traced 0 (Nat.le_of_ble_eq_true rfl) rfl ?_) (fun _ h => h)
          intro zp11 zl11 ze11 zs11 zm11 zargs11 zbelow11 zmeth11 zc11 zD11 zad11 zac11 C11 hr11 hk11
          refine mr_aload_n C11 dX6_traced_0 rfl (i := 0) rfl ?_
          refine mr_bipush (v := 31) C11 dX6_traced_1 (by decide) ?_
          refine mr_aload_n C11 dX6_traced_3 rfl (i := 0) rfl ?_
          refine mr_getI C11 dX6_traced_4 fl_X6_239 (Nat.le_of_ble_eq_true rfl) rfl rfl ?_
          refine mr_topI (y := (((31 : Int32) * (S.1 34 26)) + (3 : Int32))) (by first | rfl | simp [sI, sJ, sF, upd, vp_updL]) ?_
          refine mr_imul C11 dX6_traced_7 ?_
          refine mr_iload_n C11 dX6_traced_8 rfl (i := 1) rfl ?_
          refine mr_iadd C11 dX6_traced_9 ?_
          refine mr_putI C11 dX6_traced_10 fl_X6_239 (Nat.le_of_ble_eq_true rfl) rfl rfl rfl rfl ?_
          refine mr_vret C11 hr11 hk11 dX6_traced_13 (qV_mk ?_)
          refine mr_aload_n C0 dX6_tell_36 rfl (i := 0) rfl ?_
          refine mr_iconst (v := 1) C0 dX6_tell_37 (by decide) ?_
          refine mr_callVV C0 mdX6_traced dX6_tell_38 clX6_traced ml_X6_242 (Nat.le_of_ble_eq_true rfl) rfl rfl arX6_traced (as := [.int (1 : Int32)]) rfl (Nat.le_of_ble_eq_true rfl) (Nat.le_of_ble_eq_true rfl) (Nat.le_of_ble_eq_true rfl) fit0 (CallV_of mdX6_traced plX6_traced 0 (Nat.le_of_ble_eq_true rfl) rfl ?_) (fun _ h => h)
          intro zp12 zl12 ze12 zs12 zm12 zargs12 zbelow12 zmeth12 zc12 zD12 zad12 zac12 C12 hr12 hk12
          refine mr_aload_n C12 dX6_traced_0 rfl (i := 0) rfl ?_
          refine mr_bipush (v := 31) C12 dX6_traced_1 (by decide) ?_
          refine mr_aload_n C12 dX6_traced_3 rfl (i := 0) rfl ?_
          refine mr_getI C12 dX6_traced_4 fl_X6_239 (Nat.le_of_ble_eq_true rfl) rfl rfl ?_
          refine mr_topI (y := (((31 : Int32) * (((31 : Int32) * (S.1 34 26)) + (3 : Int32))) + (2 : Int32))) (by first | rfl | simp [sI, sJ, sF, upd, vp_updL]) ?_
          refine mr_imul C12 dX6_traced_7 ?_
          refine mr_iload_n C12 dX6_traced_8 rfl (i := 1) rfl ?_
          refine mr_iadd C12 dX6_traced_9 ?_
          refine mr_putI C12 dX6_traced_10 fl_X6_239 (Nat.le_of_ble_eq_true rfl) rfl rfl rfl rfl ?_
          refine mr_vret C12 hr12 hk12 dX6_traced_13 (qV_mk ?_)
          refine mr_iload_n C0 dX6_tell_41 rfl (i := 2) rfl ?_
          refine mr_iconst (v := 2) C0 dX6_tell_42 (by decide) ?_
          refine mr_icmp_ne C0 dX6_tell_43 (tgt := 51) (by decide) (fun c28 => ?_) (fun c28 => ?_)
          · have h := h.1 c28
            refine mr_aload_n C0 dX6_tell_51 rfl (i := 0) rfl ?_
            refine mr_getR C0 dX6_tell_52 fl_X6_25 (Nat.le_of_ble_eq_true rfl) rfl rfl ?_
            refine mr_iload_n C0 dX6_tell_55 rfl (i := 1) rfl ?_
            have g29 := h.1
            have h := h.2
            refine mr_iald C0 dX6_tell_56 (Nat.le_of_ble_eq_true rfl) rfl g29 ?_
            refine mr_topI (y := (S.1 40 x1.toNatClampNeg)) (by first | rfl | simp [sI, sJ, sF, upd, vp_updL]) ?_
            refine mr_istore_n (L1 := [some (.ref 34), some (.int x1), some (.int (S.1 39 x1.toNatClampNeg)), some (.int (S.1 40 x1.toNatClampNeg))]) C0 dX6_tell_57 rfl (Nat.le_of_ble_eq_true rfl) rfl ?_
            refine mr_iload_n C0 dX6_tell_58 rfl (i := 2) rfl ?_
            refine mr_if_ne C0 dX6_tell_59 (tgt := 66) (by decide) (fun c30 => ?_) (fun c30 => ?_)
            · have h := h.1 c30
              refine mr_iload_n C0 dX6_tell_66 rfl (i := 2) rfl ?_
              refine mr_iconst (v := 1) C0 dX6_tell_67 (by decide) ?_
              refine mr_icmp_ne C0 dX6_tell_68 (tgt := 78) (by decide) (fun c31 => ?_) (fun c31 => ?_)
              · have h := h.1 c31
                refine mr_iconst (v := 2) C0 dX6_tell_78 (by decide) ?_
                refine mr_iload_n C0 dX6_tell_79 rfl (i := 3) rfl ?_
                refine mr_imul C0 dX6_tell_80 ?_
                refine mr_bipush (v := 100) C0 dX6_tell_81 (by decide) ?_
                refine mr_iadd C0 dX6_tell_83 ?_
                refine mr_iret C0 hr0 hk0 dX6_tell_84 (qI_mk ?_)
                exact h
              · have h := h.2 c31
                refine mr_iload_n C0 dX6_tell_71 rfl (i := 3) rfl ?_
                refine mr_bipush (v := 100) C0 dX6_tell_72 (by decide) ?_
                refine mr_iadd C0 dX6_tell_74 ?_
                refine mr_goto C0 dX6_tell_75 (tgt := 84) (by decide) ?_
                refine mr_iret C0 hr0 hk0 dX6_tell_84 (qI_mk ?_)
                exact h
            · have h := h.2 c30
              refine mr_iload_n C0 dX6_tell_62 rfl (i := 3) rfl ?_
              refine mr_goto C0 dX6_tell_63 (tgt := 84) (by decide) ?_
              refine mr_iret C0 hr0 hk0 dX6_tell_84 (qI_mk ?_)
              exact h
          · have h := h.2 c28
            refine mr_aload_n C0 dX6_tell_46 rfl (i := 0) rfl ?_
            refine mr_iconst (v := 1) C0 dX6_tell_47 (by decide) ?_
            refine mr_callVV C0 mdX6_traced dX6_tell_48 clX6_traced ml_X6_242 (Nat.le_of_ble_eq_true rfl) rfl rfl arX6_traced (as := [.int (1 : Int32)]) rfl (Nat.le_of_ble_eq_true rfl) (Nat.le_of_ble_eq_true rfl) (Nat.le_of_ble_eq_true rfl) fit0 (CallV_of mdX6_traced plX6_traced 0 (Nat.le_of_ble_eq_true rfl) rfl ?_) (fun _ h => h)
            intro zp13 zl13 ze13 zs13 zm13 zargs13 zbelow13 zmeth13 zc13 zD13 zad13 zac13 C13 hr13 hk13
            refine mr_aload_n C13 dX6_traced_0 rfl (i := 0) rfl ?_
            refine mr_bipush (v := 31) C13 dX6_traced_1 (by decide) ?_
            refine mr_aload_n C13 dX6_traced_3 rfl (i := 0) rfl ?_
            refine mr_getI C13 dX6_traced_4 fl_X6_239 (Nat.le_of_ble_eq_true rfl) rfl rfl ?_
            refine mr_topI (y := (((31 : Int32) * (((31 : Int32) * (((31 : Int32) * (S.1 34 26)) + (3 : Int32))) + (2 : Int32))) + (1 : Int32))) (by first | rfl | simp [sI, sJ, sF, upd, vp_updL]) ?_
            refine mr_imul C13 dX6_traced_7 ?_
            refine mr_iload_n C13 dX6_traced_8 rfl (i := 1) rfl ?_
            refine mr_iadd C13 dX6_traced_9 ?_
            refine mr_putI C13 dX6_traced_10 fl_X6_239 (Nat.le_of_ble_eq_true rfl) rfl rfl rfl rfl ?_
            refine mr_vret C13 hr13 hk13 dX6_traced_13 (qV_mk ?_)
            refine mr_aload_n C0 dX6_tell_51 rfl (i := 0) rfl ?_
            refine mr_getR C0 dX6_tell_52 fl_X6_25 (Nat.le_of_ble_eq_true rfl) rfl rfl ?_
            refine mr_iload_n C0 dX6_tell_55 rfl (i := 1) rfl ?_
            have g32 := h.1
            have h := h.2
            refine mr_iald C0 dX6_tell_56 (Nat.le_of_ble_eq_true rfl) rfl g32 ?_
            refine mr_topI (y := (S.1 40 x1.toNatClampNeg)) (by first | rfl | simp [sI, sJ, sF, upd, vp_updL]) ?_
            refine mr_istore_n (L1 := [some (.ref 34), some (.int x1), some (.int (S.1 39 x1.toNatClampNeg)), some (.int (S.1 40 x1.toNatClampNeg))]) C0 dX6_tell_57 rfl (Nat.le_of_ble_eq_true rfl) rfl ?_
            refine mr_iload_n C0 dX6_tell_58 rfl (i := 2) rfl ?_
            refine mr_if_ne C0 dX6_tell_59 (tgt := 66) (by decide) (fun c33 => ?_) (fun c33 => ?_)
            · have h := h.1 c33
              refine mr_iload_n C0 dX6_tell_66 rfl (i := 2) rfl ?_
              refine mr_iconst (v := 1) C0 dX6_tell_67 (by decide) ?_
              refine mr_icmp_ne C0 dX6_tell_68 (tgt := 78) (by decide) (fun c34 => ?_) (fun c34 => ?_)
              · have h := h.1 c34
                refine mr_iconst (v := 2) C0 dX6_tell_78 (by decide) ?_
                refine mr_iload_n C0 dX6_tell_79 rfl (i := 3) rfl ?_
                refine mr_imul C0 dX6_tell_80 ?_
                refine mr_bipush (v := 100) C0 dX6_tell_81 (by decide) ?_
                refine mr_iadd C0 dX6_tell_83 ?_
                refine mr_iret C0 hr0 hk0 dX6_tell_84 (qI_mk ?_)
                exact h
              · have h := h.2 c34
                refine mr_iload_n C0 dX6_tell_71 rfl (i := 3) rfl ?_
                refine mr_bipush (v := 100) C0 dX6_tell_72 (by decide) ?_
                refine mr_iadd C0 dX6_tell_74 ?_
                refine mr_goto C0 dX6_tell_75 (tgt := 84) (by decide) ?_
                refine mr_iret C0 hr0 hk0 dX6_tell_84 (qI_mk ?_)
                exact h
            · have h := h.2 c33
              refine mr_iload_n C0 dX6_tell_62 rfl (i := 3) rfl ?_
              refine mr_goto C0 dX6_tell_63 (tgt := 84) (by decide) ?_
              refine mr_iret C0 hr0 hk0 dX6_tell_84 (qI_mk ?_)
              exact h
set_option maxRecDepth 100000 in
set_option maxHeartbeats 4000000 in
theorem eX6_weigh (x1 : Int32) (S : St) (Q : Int32 → St → Prop) (h : ((x1.toInt64 < (0 : Int64) → Q (-1 : Int32) S) ∧ (¬ x1.toInt64 < (0 : Int64) → ((((S.1 34 11).toInt64 - (1 : Int64)) < x1.toInt64 → Q (-1 : Int32) S) ∧ (¬ ((S.1 34 11).toInt64 - (1 : Int64)) < x1.toInt64 → (vp_in x1 8) ∧ ((¬ (S.1 39 x1.toNatClampNeg) = (2 : Int32) → (vp_in x1 8) ∧ ((¬ (S.1 39 x1.toNatClampNeg) = (2 : Int32) → Q x1 (sI S 34 26 (((31 : Int32) * (S.1 34 26)) + (4 : Int32)))) ∧ ((S.1 39 x1.toNatClampNeg) = (2 : Int32) → Q (60 : Int32) (sI S 34 26 (((31 : Int32) * (S.1 34 26)) + (4 : Int32)))))) ∧ ((S.1 39 x1.toNatClampNeg) = (2 : Int32) → (vp_in x1 8) ∧ ((¬ (S.1 39 x1.toNatClampNeg) = (2 : Int32) → Q x1 (sI S 34 26 (((31 : Int32) * (S.1 34 26)) + (5 : Int32)))) ∧ ((S.1 39 x1.toNatClampNeg) = (2 : Int32) → Q (60 : Int32) (sI S 34 26 (((31 : Int32) * (S.1 34 26)) + (5 : Int32)))))))))))) : CallV mdX6_weigh [.ref 34, .int x1] S (qI Q) := by
  refine CallV_of mdX6_weigh plX6_weigh 0 (Nat.le_of_ble_eq_true rfl) rfl ?_
  intro zp0 zl0 ze0 zs0 zm0 zargs0 zbelow0 zmeth0 zc0 zD0 zad0 zac0 C0 hr0 hk0
  refine mr_aload_n C0 dX6_weigh_0 rfl (i := 0) rfl ?_
  refine mr_iload_n C0 dX6_weigh_1 rfl (i := 1) rfl ?_
  refine mr_callVI C0 mdX6_noVote dX6_weigh_2 clX6_noVote ml_X6_149 (Nat.le_of_ble_eq_true rfl) rfl rfl arX6_noVote (as := [.int x1]) rfl (Nat.le_of_ble_eq_true rfl) (Nat.le_of_ble_eq_true rfl) (Nat.le_of_ble_eq_true rfl) fit0 (CallV_of mdX6_noVote plX6_noVote 0 (Nat.le_of_ble_eq_true rfl) rfl ?_) (fun _ _ h => h)
  intro zp1 zl1 ze1 zs1 zm1 zargs1 zbelow1 zmeth1 zc1 zD1 zad1 zac1 C1 hr1 hk1
  refine mr_iload_n C1 dX6_noVote_0 rfl (i := 1) rfl ?_
  refine mr_i2l C1 dX6_noVote_1 ?_
  refine mr_lconst (v := 0) C1 dX6_noVote_2 (by decide) ?_
  refine mr_aload_n C1 dX6_noVote_3 rfl (i := 0) rfl ?_
  refine mr_getI C1 dX6_noVote_4 fl_X6_138 (Nat.le_of_ble_eq_true rfl) rfl rfl ?_
  refine mr_i2l C1 dX6_noVote_7 ?_
  refine mr_lconst (v := 1) C1 dX6_noVote_8 (by decide) ?_
  refine mr_lsub C1 dX6_noVote_9 ?_
  refine mr_callSI C1 mdX6_in dX6_noVote_10 clX6_in ml_X6_79 arX6_in (as := [.long x1.toInt64, .long (0 : Int64), .long ((S.1 34 11).toInt64 - (1 : Int64))]) rfl (Nat.le_of_ble_eq_true rfl) (Nat.le_of_ble_eq_true rfl) (Nat.le_of_ble_eq_true rfl) fit0 (CallV_of mdX6_in plX6_in 0 (Nat.le_of_ble_eq_true rfl) rfl ?_) (fun _ _ h => h)
  intro zp2 zl2 ze2 zs2 zm2 zargs2 zbelow2 zmeth2 zc2 zD2 zad2 zac2 C2 hr2 hk2
  refine mr_lload_n C2 dX6_in_0 rfl (i := 0) rfl ?_
  refine mr_lload_n C2 dX6_in_1 rfl (i := 2) rfl ?_
  refine mr_lcmp_lt C2 dX6_in_2 dX6_in_3 (tgt := 17) (by decide) (fun c1 => ?_) (fun c1 => ?_)
  · have h := h.1 c1
    refine mr_iconst (v := 0) C2 dX6_in_17 (by decide) ?_
    refine mr_zret C2 hr2 hk2 dX6_in_18 rfl (qI_mk ?_)
    refine mr_if_ne C1 dX6_noVote_13 (tgt := 20) (by decide) (fun q => absurd q (by decide)) (fun _ => ?_)
    refine mr_iconst (v := 1) C1 dX6_noVote_16 (by decide) ?_
    refine mr_goto C1 dX6_noVote_17 (tgt := 21) (by decide) ?_
    refine mr_zret C1 hr1 hk1 dX6_noVote_21 rfl (qI_mk ?_)
    refine mr_if_eq C0 dX6_weigh_5 (tgt := 10) (by decide) (fun q => absurd q (by decide)) (fun _ => ?_)
    refine mr_iconst (v := (-1)) C0 dX6_weigh_8 (by decide) ?_
    refine mr_iret C0 hr0 hk0 dX6_weigh_9 (qI_mk ?_)
    exact h
  · have h := h.2 c1
    refine mr_lload_n C2 dX6_in_6 rfl (i := 0) rfl ?_
    refine mr_lload C2 dX6_in_7 rfl ?_
    refine mr_lcmp_gt C2 dX6_in_9 dX6_in_10 (tgt := 17) (by decide) (fun c2 => ?_) (fun c2 => ?_)
    · have h := h.1 c2
      refine mr_iconst (v := 0) C2 dX6_in_17 (by decide) ?_
      refine mr_zret C2 hr2 hk2 dX6_in_18 rfl (qI_mk ?_)
      refine mr_if_ne C1 dX6_noVote_13 (tgt := 20) (by decide) (fun q => absurd q (by decide)) (fun _ => ?_)
      refine mr_iconst (v := 1) C1 dX6_noVote_16 (by decide) ?_
      refine mr_goto C1 dX6_noVote_17 (tgt := 21) (by decide) ?_
      refine mr_zret C1 hr1 hk1 dX6_noVote_21 rfl (qI_mk ?_)
      refine mr_if_eq C0 dX6_weigh_5 (tgt := 10) (by decide) (fun q => absurd q (by decide)) (fun _ => ?_)
      refine mr_iconst (v := (-1)) C0 dX6_weigh_8 (by decide) ?_
      refine mr_iret C0 hr0 hk0 dX6_weigh_9 (qI_mk ?_)
      exact h
    · have h := h.2 c2
      refine mr_iconst (v := 1) C2 dX6_in_13 (by decide) ?_
      refine mr_goto C2 dX6_in_14 (tgt := 18) (by decide) ?_
      refine mr_zret C2 hr2 hk2 dX6_in_18 rfl (qI_mk ?_)
      refine mr_if_ne C1 dX6_noVote_13 (tgt := 20) (by decide) (fun _ => ?_) (fun q => absurd q (by decide))
      refine mr_iconst (v := 0) C1 dX6_noVote_20 (by decide) ?_
      refine mr_zret C1 hr1 hk1 dX6_noVote_21 rfl (qI_mk ?_)
      refine mr_if_eq C0 dX6_weigh_5 (tgt := 10) (by decide) (fun _ => ?_) (fun q => absurd q (by decide))
      refine mr_aload_n C0 dX6_weigh_10 rfl (i := 0) rfl ?_
      refine mr_aload_n C0 dX6_weigh_11 rfl (i := 0) rfl ?_
      refine mr_getR C0 dX6_weigh_12 fl_X6_22 (Nat.le_of_ble_eq_true rfl) rfl rfl ?_
      refine mr_iload_n C0 dX6_weigh_15 rfl (i := 1) rfl ?_
      have g3 := h.1
      have h := h.2
      refine mr_iald C0 dX6_weigh_16 (Nat.le_of_ble_eq_true rfl) rfl g3 ?_
      refine mr_iconst (v := 2) C0 dX6_weigh_17 (by decide) ?_
      refine mr_icmp_ne C0 dX6_weigh_18 (tgt := 25) (by decide) (fun c4 => ?_) (fun c4 => ?_)
      · have h := h.1 c4
        refine mr_iconst (v := 4) C0 dX6_weigh_25 (by decide) ?_
        refine mr_callVV C0 mdX6_traced dX6_weigh_26 clX6_traced ml_X6_242 (Nat.le_of_ble_eq_true rfl) rfl rfl arX6_traced (as := [.int (4 : Int32)]) rfl (Nat.le_of_ble_eq_true rfl) (Nat.le_of_ble_eq_true rfl) (Nat.le_of_ble_eq_true rfl) fit0 (CallV_of mdX6_traced plX6_traced 0 (Nat.le_of_ble_eq_true rfl) rfl ?_) (fun _ h => h)
        intro zp3 zl3 ze3 zs3 zm3 zargs3 zbelow3 zmeth3 zc3 zD3 zad3 zac3 C3 hr3 hk3
        refine mr_aload_n C3 dX6_traced_0 rfl (i := 0) rfl ?_
        refine mr_bipush (v := 31) C3 dX6_traced_1 (by decide) ?_
        refine mr_aload_n C3 dX6_traced_3 rfl (i := 0) rfl ?_
        refine mr_getI C3 dX6_traced_4 fl_X6_239 (Nat.le_of_ble_eq_true rfl) rfl rfl ?_
        refine mr_imul C3 dX6_traced_7 ?_
        refine mr_iload_n C3 dX6_traced_8 rfl (i := 1) rfl ?_
        refine mr_iadd C3 dX6_traced_9 ?_
        refine mr_putI C3 dX6_traced_10 fl_X6_239 (Nat.le_of_ble_eq_true rfl) rfl rfl rfl rfl ?_
        refine mr_vret C3 hr3 hk3 dX6_traced_13 (qV_mk ?_)
        refine mr_aload_n C0 dX6_weigh_29 rfl (i := 0) rfl ?_
        refine mr_getR C0 dX6_weigh_30 fl_X6_22 (Nat.le_of_ble_eq_true rfl) rfl rfl ?_
        refine mr_iload_n C0 dX6_weigh_33 rfl (i := 1) rfl ?_
        have g5 := h.1
        have h := h.2
        refine mr_iald C0 dX6_weigh_34 (Nat.le_of_ble_eq_true rfl) rfl g5 ?_
        refine mr_topI (y := (S.1 39 x1.toNatClampNeg)) (by first | rfl | simp [sI, sJ, sF, upd, vp_updL]) ?_
        refine mr_iconst (v := 2) C0 dX6_weigh_35 (by decide) ?_
        refine mr_icmp_ne C0 dX6_weigh_36 (tgt := 44) (by decide) (fun c6 => ?_) (fun c6 => ?_)
        · have h := h.1 c6
          refine mr_iload_n C0 dX6_weigh_44 rfl (i := 1) rfl ?_
          refine mr_iret C0 hr0 hk0 dX6_weigh_45 (qI_mk ?_)
          exact h
        · have h := h.2 c6
          refine mr_bipush (v := 60) C0 dX6_weigh_39 (by decide) ?_
          refine mr_goto C0 dX6_weigh_41 (tgt := 45) (by decide) ?_
          refine mr_iret C0 hr0 hk0 dX6_weigh_45 (qI_mk ?_)
          exact h
      · have h := h.2 c4
        refine mr_iconst (v := 5) C0 dX6_weigh_21 (by decide) ?_
        refine mr_goto C0 dX6_weigh_22 (tgt := 26) (by decide) ?_
        refine mr_callVV C0 mdX6_traced dX6_weigh_26 clX6_traced ml_X6_242 (Nat.le_of_ble_eq_true rfl) rfl rfl arX6_traced (as := [.int (5 : Int32)]) rfl (Nat.le_of_ble_eq_true rfl) (Nat.le_of_ble_eq_true rfl) (Nat.le_of_ble_eq_true rfl) fit0 (CallV_of mdX6_traced plX6_traced 0 (Nat.le_of_ble_eq_true rfl) rfl ?_) (fun _ h => h)
        intro zp4 zl4 ze4 zs4 zm4 zargs4 zbelow4 zmeth4 zc4 zD4 zad4 zac4 C4 hr4 hk4
        refine mr_aload_n C4 dX6_traced_0 rfl (i := 0) rfl ?_
        refine mr_bipush (v := 31) C4 dX6_traced_1 (by decide) ?_
        refine mr_aload_n C4 dX6_traced_3 rfl (i := 0) rfl ?_
        refine mr_getI C4 dX6_traced_4 fl_X6_239 (Nat.le_of_ble_eq_true rfl) rfl rfl ?_
        refine mr_imul C4 dX6_traced_7 ?_
        refine mr_iload_n C4 dX6_traced_8 rfl (i := 1) rfl ?_
        refine mr_iadd C4 dX6_traced_9 ?_
        refine mr_putI C4 dX6_traced_10 fl_X6_239 (Nat.le_of_ble_eq_true rfl) rfl rfl rfl rfl ?_
        refine mr_vret C4 hr4 hk4 dX6_traced_13 (qV_mk ?_)
        refine mr_aload_n C0 dX6_weigh_29 rfl (i := 0) rfl ?_
        refine mr_getR C0 dX6_weigh_30 fl_X6_22 (Nat.le_of_ble_eq_true rfl) rfl rfl ?_
        refine mr_iload_n C0 dX6_weigh_33 rfl (i := 1) rfl ?_
        have g7 := h.1
        have h := h.2
        refine mr_iald C0 dX6_weigh_34 (Nat.le_of_ble_eq_true rfl) rfl g7 ?_
        refine mr_topI (y := (S.1 39 x1.toNatClampNeg)) (by first | rfl | simp [sI, sJ, sF, upd, vp_updL]) ?_
        refine mr_iconst (v := 2) C0 dX6_weigh_35 (by decide) ?_
        refine mr_icmp_ne C0 dX6_weigh_36 (tgt := 44) (by decide) (fun c8 => ?_) (fun c8 => ?_)
        · have h := h.1 c8
          refine mr_iload_n C0 dX6_weigh_44 rfl (i := 1) rfl ?_
          refine mr_iret C0 hr0 hk0 dX6_weigh_45 (qI_mk ?_)
          exact h
        · have h := h.2 c8
          refine mr_bipush (v := 60) C0 dX6_weigh_39 (by decide) ?_
          refine mr_goto C0 dX6_weigh_41 (tgt := 45) (by decide) ?_
          refine mr_iret C0 hr0 hk0 dX6_weigh_45 (qI_mk ?_)
          exact h
set_option maxRecDepth 100000 in
set_option maxHeartbeats 4000000 in
theorem eX6_as (x1 : Int32) (x2 : Int32) (S : St) (Q : Int32 → St → Prop) (h : ((x1.toInt64 < (0 : Int64) → Q (-1 : Int32) (sI S 34 0 (0 : Int32))) ∧ (¬ x1.toInt64 < (0 : Int64) → ((((S.1 34 11).toInt64 - (1 : Int64)) < x1.toInt64 → Q (-1 : Int32) (sI S 34 0 (0 : Int32))) ∧ (¬ ((S.1 34 11).toInt64 - (1 : Int64)) < x1.toInt64 → ((x2.toInt64 < (0 : Int64) → Q (-2 : Int32) (sI S 34 0 (0 : Int32))) ∧ (¬ x2.toInt64 < (0 : Int64) → (((2 : Int64) < x2.toInt64 → Q (-2 : Int32) (sI S 34 0 (0 : Int32))) ∧ (¬ (2 : Int64) < x2.toInt64 → (vp_in x1 8) ∧ (((S.1 39 x1.toNatClampNeg) < x2 → Q (-12 : Int32) (sI S 34 0 (2 : Int32))) ∧ (¬ (S.1 39 x1.toNatClampNeg) < x2 → Q (1 : Int32) (sI S 34 0 (0 : Int32))))))))))))) : CallV mdX6_as [.ref 34, .int x1, .int x2] S (qI Q) := by
  refine CallV_of mdX6_as plX6_as 0 (Nat.le_of_ble_eq_true rfl) rfl ?_
  intro zp0 zl0 ze0 zs0 zm0 zargs0 zbelow0 zmeth0 zc0 zD0 zad0 zac0 C0 hr0 hk0
  refine mr_aload_n C0 dX6_as_0 rfl (i := 0) rfl ?_
  refine mr_iload_n C0 dX6_as_1 rfl (i := 1) rfl ?_
  refine mr_callVI C0 mdX6_noVote dX6_as_2 clX6_noVote ml_X6_149 (Nat.le_of_ble_eq_true rfl) rfl rfl arX6_noVote (as := [.int x1]) rfl (Nat.le_of_ble_eq_true rfl) (Nat.le_of_ble_eq_true rfl) (Nat.le_of_ble_eq_true rfl) fit0 (CallV_of mdX6_noVote plX6_noVote 0 (Nat.le_of_ble_eq_true rfl) rfl ?_) (fun _ _ h => h)
  intro zp1 zl1 ze1 zs1 zm1 zargs1 zbelow1 zmeth1 zc1 zD1 zad1 zac1 C1 hr1 hk1
  refine mr_iload_n C1 dX6_noVote_0 rfl (i := 1) rfl ?_
  refine mr_i2l C1 dX6_noVote_1 ?_
  refine mr_lconst (v := 0) C1 dX6_noVote_2 (by decide) ?_
  refine mr_aload_n C1 dX6_noVote_3 rfl (i := 0) rfl ?_
  refine mr_getI C1 dX6_noVote_4 fl_X6_138 (Nat.le_of_ble_eq_true rfl) rfl rfl ?_
  refine mr_i2l C1 dX6_noVote_7 ?_
  refine mr_lconst (v := 1) C1 dX6_noVote_8 (by decide) ?_
  refine mr_lsub C1 dX6_noVote_9 ?_
  refine mr_callSI C1 mdX6_in dX6_noVote_10 clX6_in ml_X6_79 arX6_in (as := [.long x1.toInt64, .long (0 : Int64), .long ((S.1 34 11).toInt64 - (1 : Int64))]) rfl (Nat.le_of_ble_eq_true rfl) (Nat.le_of_ble_eq_true rfl) (Nat.le_of_ble_eq_true rfl) fit0 (CallV_of mdX6_in plX6_in 0 (Nat.le_of_ble_eq_true rfl) rfl ?_) (fun _ _ h => h)
  intro zp2 zl2 ze2 zs2 zm2 zargs2 zbelow2 zmeth2 zc2 zD2 zad2 zac2 C2 hr2 hk2
  refine mr_lload_n C2 dX6_in_0 rfl (i := 0) rfl ?_
  refine mr_lload_n C2 dX6_in_1 rfl (i := 2) rfl ?_
  refine mr_lcmp_lt C2 dX6_in_2 dX6_in_3 (tgt := 17) (by decide) (fun c1 => ?_) (fun c1 => ?_)
  · have h := h.1 c1
    refine mr_iconst (v := 0) C2 dX6_in_17 (by decide) ?_
    refine mr_zret C2 hr2 hk2 dX6_in_18 rfl (qI_mk ?_)
    refine mr_if_ne C1 dX6_noVote_13 (tgt := 20) (by decide) (fun q => absurd q (by decide)) (fun _ => ?_)
    refine mr_iconst (v := 1) C1 dX6_noVote_16 (by decide) ?_
    refine mr_goto C1 dX6_noVote_17 (tgt := 21) (by decide) ?_
    refine mr_zret C1 hr1 hk1 dX6_noVote_21 rfl (qI_mk ?_)
    refine mr_if_eq C0 dX6_as_5 (tgt := 14) (by decide) (fun q => absurd q (by decide)) (fun _ => ?_)
    refine mr_aload_n C0 dX6_as_8 rfl (i := 0) rfl ?_
    refine mr_iconst (v := (-1)) C0 dX6_as_9 (by decide) ?_
    refine mr_callVI C0 mdX6_refused dX6_as_10 clX6_refused ml_X6_121 (Nat.le_of_ble_eq_true rfl) rfl rfl arX6_refused (as := [.int (-1 : Int32)]) rfl (Nat.le_of_ble_eq_true rfl) (Nat.le_of_ble_eq_true rfl) (Nat.le_of_ble_eq_true rfl) fit0 (CallV_of mdX6_refused plX6_refused 0 (Nat.le_of_ble_eq_true rfl) rfl ?_) (fun _ _ h => h)
    intro zp3 zl3 ze3 zs3 zm3 zargs3 zbelow3 zmeth3 zc3 zD3 zad3 zac3 C3 hr3 hk3
    refine mr_aload_n C3 dX6_refused_0 rfl (i := 0) rfl ?_
    refine mr_iconst (v := 0) C3 dX6_refused_1 (by decide) ?_
    refine mr_putI C3 dX6_refused_2 fl_X6_61 (Nat.le_of_ble_eq_true rfl) rfl rfl rfl rfl ?_
    refine mr_iload_n C3 dX6_refused_5 rfl (i := 1) rfl ?_
    refine mr_iret C3 hr3 hk3 dX6_refused_6 (qI_mk ?_)
    refine mr_iret C0 hr0 hk0 dX6_as_13 (qI_mk ?_)
    exact h
  · have h := h.2 c1
    refine mr_lload_n C2 dX6_in_6 rfl (i := 0) rfl ?_
    refine mr_lload C2 dX6_in_7 rfl ?_
    refine mr_lcmp_gt C2 dX6_in_9 dX6_in_10 (tgt := 17) (by decide) (fun c2 => ?_) (fun c2 => ?_)
    · have h := h.1 c2
      refine mr_iconst (v := 0) C2 dX6_in_17 (by decide) ?_
      refine mr_zret C2 hr2 hk2 dX6_in_18 rfl (qI_mk ?_)
      refine mr_if_ne C1 dX6_noVote_13 (tgt := 20) (by decide) (fun q => absurd q (by decide)) (fun _ => ?_)
      refine mr_iconst (v := 1) C1 dX6_noVote_16 (by decide) ?_
      refine mr_goto C1 dX6_noVote_17 (tgt := 21) (by decide) ?_
      refine mr_zret C1 hr1 hk1 dX6_noVote_21 rfl (qI_mk ?_)
      refine mr_if_eq C0 dX6_as_5 (tgt := 14) (by decide) (fun q => absurd q (by decide)) (fun _ => ?_)
      refine mr_aload_n C0 dX6_as_8 rfl (i := 0) rfl ?_
      refine mr_iconst (v := (-1)) C0 dX6_as_9 (by decide) ?_
      refine mr_callVI C0 mdX6_refused dX6_as_10 clX6_refused ml_X6_121 (Nat.le_of_ble_eq_true rfl) rfl rfl arX6_refused (as := [.int (-1 : Int32)]) rfl (Nat.le_of_ble_eq_true rfl) (Nat.le_of_ble_eq_true rfl) (Nat.le_of_ble_eq_true rfl) fit0 (CallV_of mdX6_refused plX6_refused 0 (Nat.le_of_ble_eq_true rfl) rfl ?_) (fun _ _ h => h)
      intro zp4 zl4 ze4 zs4 zm4 zargs4 zbelow4 zmeth4 zc4 zD4 zad4 zac4 C4 hr4 hk4
      refine mr_aload_n C4 dX6_refused_0 rfl (i := 0) rfl ?_
      refine mr_iconst (v := 0) C4 dX6_refused_1 (by decide) ?_
      refine mr_putI C4 dX6_refused_2 fl_X6_61 (Nat.le_of_ble_eq_true rfl) rfl rfl rfl rfl ?_
      refine mr_iload_n C4 dX6_refused_5 rfl (i := 1) rfl ?_
      refine mr_iret C4 hr4 hk4 dX6_refused_6 (qI_mk ?_)
      refine mr_iret C0 hr0 hk0 dX6_as_13 (qI_mk ?_)
      exact h
    · have h := h.2 c2
      refine mr_iconst (v := 1) C2 dX6_in_13 (by decide) ?_
      refine mr_goto C2 dX6_in_14 (tgt := 18) (by decide) ?_
      refine mr_zret C2 hr2 hk2 dX6_in_18 rfl (qI_mk ?_)
      refine mr_if_ne C1 dX6_noVote_13 (tgt := 20) (by decide) (fun _ => ?_) (fun q => absurd q (by decide))
      refine mr_iconst (v := 0) C1 dX6_noVote_20 (by decide) ?_
      refine mr_zret C1 hr1 hk1 dX6_noVote_21 rfl (qI_mk ?_)
      refine mr_if_eq C0 dX6_as_5 (tgt := 14) (by decide) (fun _ => ?_) (fun q => absurd q (by decide))
      refine mr_iload_n C0 dX6_as_14 rfl (i := 2) rfl ?_
      refine mr_i2l C0 dX6_as_15 ?_
      refine mr_lconst (v := 0) C0 dX6_as_16 (by decide) ?_
      refine mr_ldc2 C0 dX6_as_17 cn_X6_124 ?_
      refine mr_callSI C0 mdX6_in dX6_as_20 clX6_in ml_X6_79 arX6_in (as := [.long x2.toInt64, .long (0 : Int64), .long (2 : Int64)]) rfl (Nat.le_of_ble_eq_true rfl) (Nat.le_of_ble_eq_true rfl) (Nat.le_of_ble_eq_true rfl) fit0 (CallV_of mdX6_in plX6_in 0 (Nat.le_of_ble_eq_true rfl) rfl ?_) (fun _ _ h => h)
      intro zp5 zl5 ze5 zs5 zm5 zargs5 zbelow5 zmeth5 zc5 zD5 zad5 zac5 C5 hr5 hk5
      refine mr_lload_n C5 dX6_in_0 rfl (i := 0) rfl ?_
      refine mr_lload_n C5 dX6_in_1 rfl (i := 2) rfl ?_
      refine mr_lcmp_lt C5 dX6_in_2 dX6_in_3 (tgt := 17) (by decide) (fun c3 => ?_) (fun c3 => ?_)
      · have h := h.1 c3
        refine mr_iconst (v := 0) C5 dX6_in_17 (by decide) ?_
        refine mr_zret C5 hr5 hk5 dX6_in_18 rfl (qI_mk ?_)
        refine mr_if_ne C0 dX6_as_23 (tgt := 33) (by decide) (fun q => absurd q (by decide)) (fun _ => ?_)
        refine mr_aload_n C0 dX6_as_26 rfl (i := 0) rfl ?_
        refine mr_bipush (v := (-2)) C0 dX6_as_27 (by decide) ?_
        refine mr_callVI C0 mdX6_refused dX6_as_29 clX6_refused ml_X6_121 (Nat.le_of_ble_eq_true rfl) rfl rfl arX6_refused (as := [.int (-2 : Int32)]) rfl (Nat.le_of_ble_eq_true rfl) (Nat.le_of_ble_eq_true rfl) (Nat.le_of_ble_eq_true rfl) fit0 (CallV_of mdX6_refused plX6_refused 0 (Nat.le_of_ble_eq_true rfl) rfl ?_) (fun _ _ h => h)
        intro zp6 zl6 ze6 zs6 zm6 zargs6 zbelow6 zmeth6 zc6 zD6 zad6 zac6 C6 hr6 hk6
        refine mr_aload_n C6 dX6_refused_0 rfl (i := 0) rfl ?_
        refine mr_iconst (v := 0) C6 dX6_refused_1 (by decide) ?_
        refine mr_putI C6 dX6_refused_2 fl_X6_61 (Nat.le_of_ble_eq_true rfl) rfl rfl rfl rfl ?_
        refine mr_iload_n C6 dX6_refused_5 rfl (i := 1) rfl ?_
        refine mr_iret C6 hr6 hk6 dX6_refused_6 (qI_mk ?_)
        refine mr_iret C0 hr0 hk0 dX6_as_32 (qI_mk ?_)
        exact h
      · have h := h.2 c3
        refine mr_lload_n C5 dX6_in_6 rfl (i := 0) rfl ?_
        refine mr_lload C5 dX6_in_7 rfl ?_
        refine mr_lcmp_gt C5 dX6_in_9 dX6_in_10 (tgt := 17) (by decide) (fun c4 => ?_) (fun c4 => ?_)
        · have h := h.1 c4
          refine mr_iconst (v := 0) C5 dX6_in_17 (by decide) ?_
          refine mr_zret C5 hr5 hk5 dX6_in_18 rfl (qI_mk ?_)
          refine mr_if_ne C0 dX6_as_23 (tgt := 33) (by decide) (fun q => absurd q (by decide)) (fun _ => ?_)
          refine mr_aload_n C0 dX6_as_26 rfl (i := 0) rfl ?_
          refine mr_bipush (v := (-2)) C0 dX6_as_27 (by decide) ?_
          refine mr_callVI C0 mdX6_refused dX6_as_29 clX6_refused ml_X6_121 (Nat.le_of_ble_eq_true rfl) rfl rfl arX6_refused (as := [.int (-2 : Int32)]) rfl (Nat.le_of_ble_eq_true rfl) (Nat.le_of_ble_eq_true rfl) (Nat.le_of_ble_eq_true rfl) fit0 (CallV_of mdX6_refused plX6_refused 0 (Nat.le_of_ble_eq_true rfl) rfl ?_) (fun _ _ h => h)
          intro zp7 zl7 ze7 zs7 zm7 zargs7 zbelow7 zmeth7 zc7 zD7 zad7 zac7 C7 hr7 hk7
          refine mr_aload_n C7 dX6_refused_0 rfl (i := 0) rfl ?_
          refine mr_iconst (v := 0) C7 dX6_refused_1 (by decide) ?_
          refine mr_putI C7 dX6_refused_2 fl_X6_61 (Nat.le_of_ble_eq_true rfl) rfl rfl rfl rfl ?_
          refine mr_iload_n C7 dX6_refused_5 rfl (i := 1) rfl ?_
          refine mr_iret C7 hr7 hk7 dX6_refused_6 (qI_mk ?_)
          refine mr_iret C0 hr0 hk0 dX6_as_32 (qI_mk ?_)
          exact h
        · have h := h.2 c4
          refine mr_iconst (v := 1) C5 dX6_in_13 (by decide) ?_
          refine mr_goto C5 dX6_in_14 (tgt := 18) (by decide) ?_
          refine mr_zret C5 hr5 hk5 dX6_in_18 rfl (qI_mk ?_)
          refine mr_if_ne C0 dX6_as_23 (tgt := 33) (by decide) (fun _ => ?_) (fun q => absurd q (by decide))
          refine mr_aload_n C0 dX6_as_33 rfl (i := 0) rfl ?_
          refine mr_getR C0 dX6_as_34 fl_X6_22 (Nat.le_of_ble_eq_true rfl) rfl rfl ?_
          refine mr_iload_n C0 dX6_as_37 rfl (i := 1) rfl ?_
          have g5 := h.1
          have h := h.2
          refine mr_iald C0 dX6_as_38 (Nat.le_of_ble_eq_true rfl) rfl g5 ?_
          refine mr_iload_n C0 dX6_as_39 rfl (i := 2) rfl ?_
          refine mr_icmp_lt C0 dX6_as_40 (tgt := 51) (by decide) (fun c6 => ?_) (fun c6 => ?_)
          · have h := h.1 c6
            refine mr_aload_n C0 dX6_as_51 rfl (i := 0) rfl ?_
            refine mr_iconst (v := 2) C0 dX6_as_52 (by decide) ?_
            refine mr_callVI C0 mdX6_failed dX6_as_53 clX6_failed ml_X6_110 (Nat.le_of_ble_eq_true rfl) rfl rfl arX6_failed (as := [.int (2 : Int32)]) rfl (Nat.le_of_ble_eq_true rfl) (Nat.le_of_ble_eq_true rfl) (Nat.le_of_ble_eq_true rfl) fit0 (CallV_of mdX6_failed plX6_failed 0 (Nat.le_of_ble_eq_true rfl) rfl ?_) (fun _ _ h => h)
            intro zp8 zl8 ze8 zs8 zm8 zargs8 zbelow8 zmeth8 zc8 zD8 zad8 zac8 C8 hr8 hk8
            refine mr_aload_n C8 dX6_failed_0 rfl (i := 0) rfl ?_
            refine mr_iload_n C8 dX6_failed_1 rfl (i := 1) rfl ?_
            refine mr_putI C8 dX6_failed_2 fl_X6_61 (Nat.le_of_ble_eq_true rfl) rfl rfl rfl rfl ?_
            refine mr_bipush (v := (-10)) C8 dX6_failed_5 (by decide) ?_
            refine mr_iload_n C8 dX6_failed_7 rfl (i := 1) rfl ?_
            refine mr_isub C8 dX6_failed_8 ?_
            refine mr_topI (y := (-12 : Int32)) (by decide) ?_
            refine mr_iret C8 hr8 hk8 dX6_failed_9 (qI_mk ?_)
            refine mr_iret C0 hr0 hk0 dX6_as_56 (qI_mk ?_)
            exact h
          · have h := h.2 c6
            refine mr_aload_n C0 dX6_as_43 rfl (i := 0) rfl ?_
            refine mr_iconst (v := 1) C0 dX6_as_44 (by decide) ?_
            refine mr_callVI C0 mdX6_refused dX6_as_45 clX6_refused ml_X6_121 (Nat.le_of_ble_eq_true rfl) rfl rfl arX6_refused (as := [.int (1 : Int32)]) rfl (Nat.le_of_ble_eq_true rfl) (Nat.le_of_ble_eq_true rfl) (Nat.le_of_ble_eq_true rfl) fit0 (CallV_of mdX6_refused plX6_refused 0 (Nat.le_of_ble_eq_true rfl) rfl ?_) (fun _ _ h => h)
            intro zp9 zl9 ze9 zs9 zm9 zargs9 zbelow9 zmeth9 zc9 zD9 zad9 zac9 C9 hr9 hk9
            refine mr_aload_n C9 dX6_refused_0 rfl (i := 0) rfl ?_
            refine mr_iconst (v := 0) C9 dX6_refused_1 (by decide) ?_
            refine mr_putI C9 dX6_refused_2 fl_X6_61 (Nat.le_of_ble_eq_true rfl) rfl rfl rfl rfl ?_
            refine mr_iload_n C9 dX6_refused_5 rfl (i := 1) rfl ?_
            refine mr_iret C9 hr9 hk9 dX6_refused_6 (qI_mk ?_)
            refine mr_goto C0 dX6_as_48 (tgt := 56) (by decide) ?_
            refine mr_iret C0 hr0 hk0 dX6_as_56 (qI_mk ?_)
            exact h
set_option maxRecDepth 100000 in
set_option maxHeartbeats 4000000 in
theorem eX6_trace (S : St) (Q : Int32 → St → Prop) (h : Q (S.1 34 26) S) : CallV mdX6_trace [.ref 34] S (qI Q) := by
  refine CallV_of mdX6_trace plX6_trace 0 (Nat.le_of_ble_eq_true rfl) rfl ?_
  intro zp0 zl0 ze0 zs0 zm0 zargs0 zbelow0 zmeth0 zc0 zD0 zad0 zac0 C0 hr0 hk0
  refine mr_aload_n C0 dX6_trace_0 rfl (i := 0) rfl ?_
  refine mr_getI C0 dX6_trace_1 fl_X6_239 (Nat.le_of_ble_eq_true rfl) rfl rfl ?_
  refine mr_iret C0 hr0 hk0 dX6_trace_4 (qI_mk ?_)
  exact h
set_option maxRecDepth 100000 in
set_option maxHeartbeats 4000000 in
theorem eX6_fault (S : St) (Q : Int32 → St → Prop) (h : Q (S.1 34 0) S) : CallV mdX6_fault [.ref 34] S (qI Q) := by
  refine CallV_of mdX6_fault plX6_fault 0 (Nat.le_of_ble_eq_true rfl) rfl ?_
  intro zp0 zl0 ze0 zs0 zm0 zargs0 zbelow0 zmeth0 zc0 zD0 zad0 zac0 C0 hr0 hk0
  refine mr_aload_n C0 dX6_fault_0 rfl (i := 0) rfl ?_
  refine mr_getI C0 dX6_fault_1 fl_X6_61 (Nat.le_of_ble_eq_true rfl) rfl rfl ?_
  refine mr_iret C0 hr0 hk0 dX6_fault_4 (qI_mk ?_)
  exact h
set_option maxRecDepth 100000 in
set_option maxHeartbeats 4000000 in
theorem eX6_many (x1 : Int32) (S : St) (Q : Int32 → St → Prop) (h : ((x1 = (0 : Int32) → Q ((S.1 34 1) * (S.1 34 2)) S) ∧ (¬ x1 = (0 : Int32) → ((x1 = (1 : Int32) → Q (S.1 34 2) S) ∧ (¬ x1 = (1 : Int32) → ((x1 = (2 : Int32) → Q (S.1 34 11) S) ∧ (¬ x1 = (2 : Int32) → ((x1 = (3 : Int32) → (((S.1 34 5) = 0 → Q (0 : Int32) S) ∧ (¬ (S.1 34 5) = 0 → Q (1 : Int32) S))) ∧ (¬ x1 = (3 : Int32) → Q (-2 : Int32) S))))))))) : CallV mdX6_many [.ref 34, .int x1] S (qI Q) := by
  refine CallV_of mdX6_many plX6_many 0 (Nat.le_of_ble_eq_true rfl) rfl ?_
  intro zp0 zl0 ze0 zs0 zm0 zargs0 zbelow0 zmeth0 zc0 zD0 zad0 zac0 C0 hr0 hk0
  refine mr_iload_n C0 dX6_many_0 rfl (i := 1) rfl ?_
  by_cases c1 : x1 = (0 : Int32)
  · have h := h.1 c1
    refine mr_tsIn C0 dX6_many_1 (0 : Int32) c1 (by decide) (by decide) rfl (tgt := 32) (by decide) ?_
    refine mr_aload_n C0 dX6_many_32 rfl (i := 0) rfl ?_
    refine mr_callVI C0 mdX6_cells dX6_many_33 clX6_cells ml_X6_75 (Nat.le_of_ble_eq_true rfl) rfl rfl arX6_cells (as := []) rfl (Nat.le_of_ble_eq_true rfl) (Nat.le_of_ble_eq_true rfl) (Nat.le_of_ble_eq_true rfl) fit0 (CallV_of mdX6_cells plX6_cells 0 (Nat.le_of_ble_eq_true rfl) rfl ?_) (fun _ _ h => h)
    intro zp1 zl1 ze1 zs1 zm1 zargs1 zbelow1 zmeth1 zc1 zD1 zad1 zac1 C1 hr1 hk1
    refine mr_aload_n C1 dX6_cells_0 rfl (i := 0) rfl ?_
    refine mr_getI C1 dX6_cells_1 fl_X6_69 (Nat.le_of_ble_eq_true rfl) rfl rfl ?_
    refine mr_aload_n C1 dX6_cells_4 rfl (i := 0) rfl ?_
    refine mr_getI C1 dX6_cells_5 fl_X6_72 (Nat.le_of_ble_eq_true rfl) rfl rfl ?_
    refine mr_imul C1 dX6_cells_8 ?_
    refine mr_iret C1 hr1 hk1 dX6_cells_9 (qI_mk ?_)
    refine mr_iret C0 hr0 hk0 dX6_many_36 (qI_mk ?_)
    exact h
  · have h := h.2 c1
    by_cases c2 : x1 = (1 : Int32)
    · have h := h.1 c2
      refine mr_tsIn C0 dX6_many_1 (1 : Int32) c2 (by decide) (by decide) rfl (tgt := 37) (by decide) ?_
      refine mr_aload_n C0 dX6_many_37 rfl (i := 0) rfl ?_
      refine mr_getI C0 dX6_many_38 fl_X6_72 (Nat.le_of_ble_eq_true rfl) rfl rfl ?_
      refine mr_iret C0 hr0 hk0 dX6_many_41 (qI_mk ?_)
      exact h
    · have h := h.2 c2
      by_cases c3 : x1 = (2 : Int32)
      · have h := h.1 c3
        refine mr_tsIn C0 dX6_many_1 (2 : Int32) c3 (by decide) (by decide) rfl (tgt := 42) (by decide) ?_
        refine mr_aload_n C0 dX6_many_42 rfl (i := 0) rfl ?_
        refine mr_getI C0 dX6_many_43 fl_X6_138 (Nat.le_of_ble_eq_true rfl) rfl rfl ?_
        refine mr_iret C0 hr0 hk0 dX6_many_46 (qI_mk ?_)
        exact h
      · have h := h.2 c3
        by_cases c4 : x1 = (3 : Int32)
        · have h := h.1 c4
          refine mr_tsIn C0 dX6_many_1 (3 : Int32) c4 (by decide) (by decide) rfl (tgt := 47) (by decide) ?_
          refine mr_aload_n C0 dX6_many_47 rfl (i := 0) rfl ?_
          refine mr_getI C0 dX6_many_48 fl_X6_134 (Nat.le_of_ble_eq_true rfl) rfl rfl ?_
          refine mr_if_eq C0 dX6_many_51 (tgt := 58) (by decide) (fun c5 => ?_) (fun c5 => ?_)
          · have h := h.1 c5
            refine mr_iconst (v := 0) C0 dX6_many_58 (by decide) ?_
            refine mr_iret C0 hr0 hk0 dX6_many_59 (qI_mk ?_)
            exact h
          · have h := h.2 c5
            refine mr_iconst (v := 1) C0 dX6_many_54 (by decide) ?_
            refine mr_goto C0 dX6_many_55 (tgt := 59) (by decide) ?_
            refine mr_iret C0 hr0 hk0 dX6_many_59 (qI_mk ?_)
            exact h
        · have h := h.2 c4
          refine mr_tsOut C0 dX6_many_1 (by have c1q := lv_neT c1 (show ((0 : Int32)).toInt = 0 by decide); have c2q := lv_neT c2 (show ((1 : Int32)).toInt = 1 by decide); have c3q := lv_neT c3 (show ((2 : Int32)).toInt = 2 by decide); have c4q := lv_neT c4 (show ((3 : Int32)).toInt = 3 by decide); omega) (tgt := 60) (by decide) ?_
          refine mr_bipush (v := (-2)) C0 dX6_many_60 (by decide) ?_
          refine mr_iret C0 hr0 hk0 dX6_many_62 (qI_mk ?_)
          exact h
