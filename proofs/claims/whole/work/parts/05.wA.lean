set_option maxRecDepth 100000 in
set_option maxHeartbeats 4000000 in
theorem eX0_take {p1 : Nat} (hp1 : isSh p1) (x2 : Int32) (x3 : Int32) (x4 : Int32) (S : St) (Q : Int32 → St → Prop) (h : CallV mdJ7_fill_53178 [.ref 20, .int (0 : Int32)] S (qV fun S1 => V mdX0_take 14 [some (.ref 19), some (.ref p1), some (.int x2), some (.int x3), some (.int x4), some (.int (0 : Int32)), some (.int (0 : Int32)), none] [] S1 (qI Q))) : CallV mdX0_take [.ref 19, .ref p1, .int x2, .int x3, .int x4] S (qI Q) := by
  refine CallV_of mdX0_take plX0_take 3 (Nat.le_of_ble_eq_true rfl) rfl ?_
  intro zp0 zl0 ze0 zs0 zm0 zargs0 zbelow0 zmeth0 zc0 zD0 zad0 zac0 C0 hr0 hk0
  refine mr_aload_n C0 dX0_take_0 rfl (i := 0) rfl ?_
  refine mr_getR C0 dX0_take_1 fl_X0_9 (Nat.le_of_ble_eq_true rfl) rfl rfl ?_
  refine mr_iconst (v := 0) C0 dX0_take_4 (by decide) ?_
  refine mr_callSV C0 mdJ7_fill_53178 dX0_take_5 clJ7_fill_53178 ml_X0_27 arJ7_fill_53178 (as := [.ref 20, .int (0 : Int32)]) rfl (Nat.le_of_ble_eq_true rfl) (Nat.le_of_ble_eq_true rfl) (Nat.le_of_ble_eq_true rfl) fit0 h (fun S1 h => ?_)
  refine mr_iconst (v := 0) C0 dX0_take_8 (by decide) ?_
  refine mr_istore (L1 := [some (.ref 19), some (.ref p1), some (.int x2), some (.int x3), some (.int x4), some (.int (0 : Int32)), none, none]) C0 dX0_take_9 (Nat.le_of_ble_eq_true rfl) rfl ?_
  refine mr_iconst (v := 0) C0 dX0_take_11 (by decide) ?_
  refine mr_istore (L1 := [some (.ref 19), some (.ref p1), some (.int x2), some (.int x3), some (.int x4), some (.int (0 : Int32)), some (.int (0 : Int32)), none]) C0 dX0_take_12 (Nat.le_of_ble_eq_true rfl) rfl ?_
  exact h zp0 zl0 ze0 zs0 zm0 zargs0 zbelow0 zmeth0 zc0 zD0 zad0 zac0 C0 hr0 hk0
set_option maxRecDepth 100000 in
set_option maxHeartbeats 4000000 in
theorem eX0_take_14 {p1 : Nat} (hp1 : isSh p1) (x2 : Int32) (x3 : Int32) (x4 : Int32) (x5 : Int32) (x6 : Int32) (S : St) (Q : Int32 → St → Prop) (h : ((x3 < x6 → ((¬ x5 = x4 → Q (0 : Int32) S) ∧ (x5 = x4 → Q (1 : Int32) S))) ∧ (¬ x3 < x6 → CallV mdX3_at [.ref p1, .int (x2 + x6)] S (qI fun r4 S3 => ((r4 < 0 → Q (0 : Int32) S3) ∧ (¬ r4 < 0 → ((r4 ≤ (x4 - x5) → ((x3 ≤ x6 → V mdX0_take 14 [some (.ref 19), some (.ref p1), some (.int x2), some (.int x3), some (.int x4), some (.int (x5 + r4)), some (.int (x6 + 1)), none] [] (sI S3 20 6 r4) (qI Q)) ∧ (¬ x3 ≤ x6 → (vp_in x6 7) ∧ V mdX0_take 14 [some (.ref 19), some (.ref p1), some (.int x2), some (.int x3), some (.int x4), some (.int (x5 + r4)), some (.int (x6 + 1)), none] [] (sI S3 20 x6.toNatClampNeg r4) (qI Q)))) ∧ (¬ r4 ≤ (x4 - x5) → Q (0 : Int32) S3)))))))) : V mdX0_take 14 [some (.ref 19), some (.ref p1), some (.int x2), some (.int x3), some (.int x4), some (.int x5), some (.int x6), none] [] S (qI Q) := by
  intro zp0 zl0 ze0 zs0 zm0 zargs0 zbelow0 zmeth0 zc0 zD0 zad0 zac0 C0 hr0 hk0
  refine mr_iload C0 dX0_take_14 rfl ?_
  refine mr_iload_n C0 dX0_take_16 rfl (i := 3) rfl ?_
  refine mr_icmp_gt C0 dX0_take_17 (tgt := 80) (by decide) (fun c1 => ?_) (fun c1 => ?_)
  · have h := h.1 c1
    refine mr_iload C0 dX0_take_80 rfl ?_
    refine mr_iload C0 dX0_take_82 rfl ?_
    refine mr_icmp_ne C0 dX0_take_84 (tgt := 91) (by decide) (fun c2 => ?_) (fun c2 => ?_)
    · have h := h.1 c2
      refine mr_iconst (v := 0) C0 dX0_take_91 (by decide) ?_
      refine mr_zret C0 hr0 hk0 dX0_take_92 rfl (qI_mk ?_)
      exact h
    · have h := h.2 c2
      refine mr_iconst (v := 1) C0 dX0_take_87 (by decide) ?_
      refine mr_goto C0 dX0_take_88 (tgt := 92) (by decide) ?_
      refine mr_zret C0 hr0 hk0 dX0_take_92 rfl (qI_mk ?_)
      exact h
  · have h := h.2 c1
    refine mr_aload_n C0 dX0_take_20 rfl (i := 1) rfl ?_
    refine mr_iload_n C0 dX0_take_21 rfl (i := 2) rfl ?_
    refine mr_iload C0 dX0_take_22 rfl ?_
    refine mr_iadd C0 dX0_take_24 ?_
    refine mr_callVI C0 mdX3_at dX0_take_25 clX3_at ml_X0_33 (sh_lt hp1) (sh_lay hp1) rfl arX3_at (as := [.int (x2 + x6)]) rfl (Nat.le_of_ble_eq_true rfl) (Nat.le_of_ble_eq_true rfl) (Nat.le_of_ble_eq_true rfl) fit0 h (fun r4 S3 h => ?_)
    refine mr_istore (L1 := [some (.ref 19), some (.ref p1), some (.int x2), some (.int x3), some (.int x4), some (.int x5), some (.int x6), some (.int r4)]) C0 dX0_take_28 (Nat.le_of_ble_eq_true rfl) rfl ?_
    refine mr_iload C0 dX0_take_30 rfl ?_
    refine mr_if_lt C0 dX0_take_32 (tgt := 45) (by decide) (fun c5 => ?_) (fun c5 => ?_)
    · have h := h.1 c5
      refine mr_iconst (v := 0) C0 dX0_take_45 (by decide) ?_
      refine mr_zret C0 hr0 hk0 dX0_take_46 rfl (qI_mk ?_)
      exact h
    · have h := h.2 c5
      refine mr_iload C0 dX0_take_35 rfl ?_
      refine mr_iload C0 dX0_take_37 rfl ?_
      refine mr_iload C0 dX0_take_39 rfl ?_
      refine mr_isub C0 dX0_take_41 ?_
      refine mr_icmp_le C0 dX0_take_42 (tgt := 47) (by decide) (fun c6 => ?_) (fun c6 => ?_)
      · have h := h.1 c6
        refine mr_aload_n C0 dX0_take_47 rfl (i := 0) rfl ?_
        refine mr_getR C0 dX0_take_48 fl_X0_9 (Nat.le_of_ble_eq_true rfl) rfl rfl ?_
        refine mr_iload C0 dX0_take_51 rfl ?_
        refine mr_iload_n C0 dX0_take_53 rfl (i := 3) rfl ?_
        refine mr_icmp_ge C0 dX0_take_54 (tgt := 62) (by decide) (fun c7 => ?_) (fun c7 => ?_)
        · have h := h.1 c7
          refine mr_bipush (v := 6) C0 dX0_take_62 (by decide) ?_
          refine mr_iload C0 dX0_take_64 rfl ?_
          refine mr_iast C0 dX0_take_66 (Nat.le_of_ble_eq_true rfl) rfl (by unfold vp_in; decide) ?_
          refine mr_st (S1 := (sI S3 20 6 r4)) rfl ?_
          refine mr_iload C0 dX0_take_67 rfl ?_
          refine mr_iload C0 dX0_take_69 rfl ?_
          refine mr_iadd C0 dX0_take_71 ?_
          refine mr_istore (L1 := [some (.ref 19), some (.ref p1), some (.int x2), some (.int x3), some (.int x4), some (.int (x5 + r4)), some (.int x6), some (.int r4)]) C0 dX0_take_72 (Nat.le_of_ble_eq_true rfl) rfl ?_
          refine mr_iinc (v := (x6 + 1)) (L1 := [some (.ref 19), some (.ref p1), some (.int x2), some (.int x3), some (.int x4), some (.int (x5 + r4)), some (.int (x6 + 1)), some (.int r4)]) C0 dX0_take_74 rfl rfl (Nat.le_of_ble_eq_true rfl) rfl ?_
          refine mr_goto C0 dX0_take_77 (tgt := 14) (by decide) ?_
          refine mr_mask (L1 := [some (.ref 19), some (.ref p1), some (.int x2), some (.int x3), some (.int x4), some (.int (x5 + r4)), some (.int (x6 + 1)), none]) C0 [true, true, true, true, true, true, true, false] rfl ?_
          exact h zp0 zl0 ze0 zs0 zm0 zargs0 zbelow0 zmeth0 zc0 zD0 zad0 zac0 C0 hr0 hk0
        · have h := h.2 c7
          refine mr_iload C0 dX0_take_57 rfl ?_
          refine mr_goto C0 dX0_take_59 (tgt := 64) (by decide) ?_
          refine mr_iload C0 dX0_take_64 rfl ?_
          have g8 := h.1
          have h := h.2
          refine mr_iast C0 dX0_take_66 (Nat.le_of_ble_eq_true rfl) rfl g8 ?_
          refine mr_iload C0 dX0_take_67 rfl ?_
          refine mr_iload C0 dX0_take_69 rfl ?_
          refine mr_iadd C0 dX0_take_71 ?_
          refine mr_istore (L1 := [some (.ref 19), some (.ref p1), some (.int x2), some (.int x3), some (.int x4), some (.int (x5 + r4)), some (.int x6), some (.int r4)]) C0 dX0_take_72 (Nat.le_of_ble_eq_true rfl) rfl ?_
          refine mr_iinc (v := (x6 + 1)) (L1 := [some (.ref 19), some (.ref p1), some (.int x2), some (.int x3), some (.int x4), some (.int (x5 + r4)), some (.int (x6 + 1)), some (.int r4)]) C0 dX0_take_74 rfl rfl (Nat.le_of_ble_eq_true rfl) rfl ?_
          refine mr_goto C0 dX0_take_77 (tgt := 14) (by decide) ?_
          refine mr_mask (L1 := [some (.ref 19), some (.ref p1), some (.int x2), some (.int x3), some (.int x4), some (.int (x5 + r4)), some (.int (x6 + 1)), none]) C0 [true, true, true, true, true, true, true, false] rfl ?_
          exact h zp0 zl0 ze0 zs0 zm0 zargs0 zbelow0 zmeth0 zc0 zD0 zad0 zac0 C0 hr0 hk0
      · have h := h.2 c6
        refine mr_iconst (v := 0) C0 dX0_take_45 (by decide) ?_
        refine mr_zret C0 hr0 hk0 dX0_take_46 rfl (qI_mk ?_)
        exact h
set_option maxRecDepth 100000 in
set_option maxHeartbeats 4000000 in
theorem eX0_rows (S : St) (Q : Int32 → St → Prop) (h : CallV mdX0_layOut [.ref 19] S (qI fun r2 S1 => ((r2 ≤ (192 : Int32) → CallV mdJ7_fill_53178 [.ref 24, .int (0 : Int32)] S1 (qV fun S4 => CallV mdJ7_fill_53178 [.ref 22, .int (0 : Int32)] S4 (qV fun S5 => V mdX0_rows 39 [some (.ref 19), some (.int r2), some (.int (0 : Int32))] [] (sI S5 24 0 (1 : Int32)) (qI Q)))) ∧ (¬ r2 ≤ (192 : Int32) → Q (0 : Int32) S1)))) : CallV mdX0_rows [.ref 19] S (qI Q) := by
  refine CallV_of mdX0_rows plX0_rows 2 (Nat.le_of_ble_eq_true rfl) rfl ?_
  intro zp0 zl0 ze0 zs0 zm0 zargs0 zbelow0 zmeth0 zc0 zD0 zad0 zac0 C0 hr0 hk0
  refine mr_aload_n C0 dX0_rows_0 rfl (i := 0) rfl ?_
  refine mr_callVI C0 mdX0_layOut dX0_rows_1 clX0_layOut ml_X0_39 (Nat.le_of_ble_eq_true rfl) rfl rfl arX0_layOut (as := []) rfl (Nat.le_of_ble_eq_true rfl) (Nat.le_of_ble_eq_true rfl) (Nat.le_of_ble_eq_true rfl) fit0 h (fun r2 S1 h => ?_)
  refine mr_istore_n (L1 := [some (.ref 19), some (.int r2), none]) C0 dX0_rows_4 rfl (Nat.le_of_ble_eq_true rfl) rfl ?_
  refine mr_iload_n C0 dX0_rows_5 rfl (i := 1) rfl ?_
  refine mr_sipush (v := 192) C0 dX0_rows_6 (by decide) ?_
  refine mr_icmp_le C0 dX0_rows_9 (tgt := 14) (by decide) (fun c3 => ?_) (fun c3 => ?_)
  · have h := h.1 c3
    refine mr_aload_n C0 dX0_rows_14 rfl (i := 0) rfl ?_
    refine mr_getR C0 dX0_rows_15 fl_X0_24 (Nat.le_of_ble_eq_true rfl) rfl rfl ?_
    refine mr_iconst (v := 0) C0 dX0_rows_18 (by decide) ?_
    refine mr_callSV C0 mdJ7_fill_53178 dX0_rows_19 clJ7_fill_53178 ml_X0_27 arJ7_fill_53178 (as := [.ref 24, .int (0 : Int32)]) rfl (Nat.le_of_ble_eq_true rfl) (Nat.le_of_ble_eq_true rfl) (Nat.le_of_ble_eq_true rfl) fit0 h (fun S4 h => ?_)
    refine mr_aload_n C0 dX0_rows_22 rfl (i := 0) rfl ?_
    refine mr_getR C0 dX0_rows_23 fl_X0_18 (Nat.le_of_ble_eq_true rfl) rfl rfl ?_
    refine mr_iconst (v := 0) C0 dX0_rows_26 (by decide) ?_
    refine mr_callSV C0 mdJ7_fill_53178 dX0_rows_27 clJ7_fill_53178 ml_X0_27 arJ7_fill_53178 (as := [.ref 22, .int (0 : Int32)]) rfl (Nat.le_of_ble_eq_true rfl) (Nat.le_of_ble_eq_true rfl) (Nat.le_of_ble_eq_true rfl) fit0 h (fun S5 h => ?_)
    refine mr_aload_n C0 dX0_rows_30 rfl (i := 0) rfl ?_
    refine mr_getR C0 dX0_rows_31 fl_X0_24 (Nat.le_of_ble_eq_true rfl) rfl rfl ?_
    refine mr_iconst (v := 0) C0 dX0_rows_34 (by decide) ?_
    refine mr_iconst (v := 1) C0 dX0_rows_35 (by decide) ?_
    refine mr_iast C0 dX0_rows_36 (Nat.le_of_ble_eq_true rfl) rfl (by unfold vp_in; decide) ?_
    refine mr_st (S1 := (sI S5 24 0 (1 : Int32))) rfl ?_
    refine mr_iconst (v := 0) C0 dX0_rows_37 (by decide) ?_
    refine mr_istore_n (L1 := [some (.ref 19), some (.int r2), some (.int (0 : Int32))]) C0 dX0_rows_38 rfl (Nat.le_of_ble_eq_true rfl) rfl ?_
    exact h zp0 zl0 ze0 zs0 zm0 zargs0 zbelow0 zmeth0 zc0 zD0 zad0 zac0 C0 hr0 hk0
  · have h := h.2 c3
    refine mr_iconst (v := 0) C0 dX0_rows_12 (by decide) ?_
    refine mr_iret C0 hr0 hk0 dX0_rows_13 (qI_mk ?_)
    exact h
set_option maxRecDepth 100000 in
set_option maxHeartbeats 4000000 in
theorem eX0_rows_39 (x1 : Int32) (x2 : Int32) (S : St) (Q : Int32 → St → Prop) (h : (((x1 - (1 : Int32)) ≤ x2 → (vp_in (x1 - (1 : Int32)) 192) ∧ Q (S.1 24 ((x1 - (1 : Int32)).toNatClampNeg)) S) ∧ (¬ (x1 - (1 : Int32)) ≤ x2 → CallV mdX0_placeNextVote [.ref 19, .int x2] S (qV fun S3 => CallV mdX0_nextUsed [.ref 19] S3 (qV fun S4 => V mdX0_rows 39 [some (.ref 19), some (.int x1), some (.int (x2 + 1))] [] S4 (qI Q)))))) : V mdX0_rows 39 [some (.ref 19), some (.int x1), some (.int x2)] [] S (qI Q) := by
  intro zp0 zl0 ze0 zs0 zm0 zargs0 zbelow0 zmeth0 zc0 zD0 zad0 zac0 C0 hr0 hk0
  refine mr_iload_n C0 dX0_rows_39 rfl (i := 2) rfl ?_
  refine mr_iload_n C0 dX0_rows_40 rfl (i := 1) rfl ?_
  refine mr_iconst (v := 1) C0 dX0_rows_41 (by decide) ?_
  refine mr_isub C0 dX0_rows_42 ?_
  refine mr_icmp_ge C0 dX0_rows_43 (tgt := 61) (by decide) (fun c1 => ?_) (fun c1 => ?_)
  · have h := h.1 c1
    refine mr_aload_n C0 dX0_rows_61 rfl (i := 0) rfl ?_
    refine mr_getR C0 dX0_rows_62 fl_X0_24 (Nat.le_of_ble_eq_true rfl) rfl rfl ?_
    refine mr_iload_n C0 dX0_rows_65 rfl (i := 1) rfl ?_
    refine mr_iconst (v := 1) C0 dX0_rows_66 (by decide) ?_
    refine mr_isub C0 dX0_rows_67 ?_
    have g2 := h.1
    have h := h.2
    refine mr_iald C0 dX0_rows_68 (Nat.le_of_ble_eq_true rfl) rfl g2 ?_
    refine mr_iret C0 hr0 hk0 dX0_rows_69 (qI_mk ?_)
    exact h
  · have h := h.2 c1
    refine mr_aload_n C0 dX0_rows_46 rfl (i := 0) rfl ?_
    refine mr_iload_n C0 dX0_rows_47 rfl (i := 2) rfl ?_
    refine mr_callVV C0 mdX0_placeNextVote dX0_rows_48 clX0_placeNextVote ml_X0_43 (Nat.le_of_ble_eq_true rfl) rfl rfl arX0_placeNextVote (as := [.int x2]) rfl (Nat.le_of_ble_eq_true rfl) (Nat.le_of_ble_eq_true rfl) (Nat.le_of_ble_eq_true rfl) fit0 h (fun S3 h => ?_)
    refine mr_aload_n C0 dX0_rows_51 rfl (i := 0) rfl ?_
    refine mr_callVV C0 mdX0_nextUsed dX0_rows_52 clX0_nextUsed ml_X0_47 (Nat.le_of_ble_eq_true rfl) rfl rfl arX0_nextUsed (as := []) rfl (Nat.le_of_ble_eq_true rfl) (Nat.le_of_ble_eq_true rfl) (Nat.le_of_ble_eq_true rfl) fit0 h (fun S4 h => ?_)
    refine mr_iinc (v := (x2 + 1)) (L1 := [some (.ref 19), some (.int x1), some (.int (x2 + 1))]) C0 dX0_rows_55 rfl rfl (Nat.le_of_ble_eq_true rfl) rfl ?_
    refine mr_goto C0 dX0_rows_58 (tgt := 39) (by decide) ?_
    exact h zp0 zl0 ze0 zs0 zm0 zargs0 zbelow0 zmeth0 zc0 zD0 zad0 zac0 C0 hr0 hk0
set_option maxRecDepth 100000 in
set_option maxHeartbeats 4000000 in
theorem eX0_layOut (S : St) (Q : Int32 → St → Prop) (h : V mdX0_layOut 4 [some (.ref 19), some (.int (1 : Int32)), some (.int (0 : Int32))] [] S (qI Q)) : CallV mdX0_layOut [.ref 19] S (qI Q) := by
  refine CallV_of mdX0_layOut plX0_layOut 2 (Nat.le_of_ble_eq_true rfl) rfl ?_
  intro zp0 zl0 ze0 zs0 zm0 zargs0 zbelow0 zmeth0 zc0 zD0 zad0 zac0 C0 hr0 hk0
  refine mr_iconst (v := 1) C0 dX0_layOut_0 (by decide) ?_
  refine mr_istore_n (L1 := [some (.ref 19), some (.int (1 : Int32)), none]) C0 dX0_layOut_1 rfl (Nat.le_of_ble_eq_true rfl) rfl ?_
  refine mr_iconst (v := 0) C0 dX0_layOut_2 (by decide) ?_
  refine mr_istore_n (L1 := [some (.ref 19), some (.int (1 : Int32)), some (.int (0 : Int32))]) C0 dX0_layOut_3 rfl (Nat.le_of_ble_eq_true rfl) rfl ?_
  exact h zp0 zl0 ze0 zs0 zm0 zargs0 zbelow0 zmeth0 zc0 zD0 zad0 zac0 C0 hr0 hk0
set_option maxRecDepth 100000 in
set_option maxHeartbeats 4000000 in
theorem eX0_layOut_4 (x1 : Int32) (x2 : Int32) (S : St) (Q : Int32 → St → Prop) (h : (((7 : Int32) ≤ x2 → Q x1 S) ∧ (¬ (7 : Int32) ≤ x2 → (vp_in x2 7) ∧ (vp_in x2 7) ∧ V mdX0_layOut 4 [some (.ref 19), some (.int (x1 * ((S.1 20 x2.toNatClampNeg) + (1 : Int32)))), some (.int (x2 + 1))] [] (sI S 23 x2.toNatClampNeg x1) (qI Q)))) : V mdX0_layOut 4 [some (.ref 19), some (.int x1), some (.int x2)] [] S (qI Q) := by
  intro zp0 zl0 ze0 zs0 zm0 zargs0 zbelow0 zmeth0 zc0 zD0 zad0 zac0 C0 hr0 hk0
  refine mr_iload_n C0 dX0_layOut_4 rfl (i := 2) rfl ?_
  refine mr_bipush (v := 7) C0 dX0_layOut_5 (by decide) ?_
  refine mr_icmp_ge C0 dX0_layOut_7 (tgt := 34) (by decide) (fun c1 => ?_) (fun c1 => ?_)
  · have h := h.1 c1
    refine mr_iload_n C0 dX0_layOut_34 rfl (i := 1) rfl ?_
    refine mr_iret C0 hr0 hk0 dX0_layOut_35 (qI_mk ?_)
    exact h
  · have h := h.2 c1
    refine mr_aload_n C0 dX0_layOut_10 rfl (i := 0) rfl ?_
    refine mr_getR C0 dX0_layOut_11 fl_X0_21 (Nat.le_of_ble_eq_true rfl) rfl rfl ?_
    refine mr_iload_n C0 dX0_layOut_14 rfl (i := 2) rfl ?_
    refine mr_iload_n C0 dX0_layOut_15 rfl (i := 1) rfl ?_
    have g2 := h.1
    have h := h.2
    refine mr_iast C0 dX0_layOut_16 (Nat.le_of_ble_eq_true rfl) rfl g2 ?_
    refine mr_iload_n C0 dX0_layOut_17 rfl (i := 1) rfl ?_
    refine mr_aload_n C0 dX0_layOut_18 rfl (i := 0) rfl ?_
    refine mr_getR C0 dX0_layOut_19 fl_X0_9 (Nat.le_of_ble_eq_true rfl) rfl rfl ?_
    refine mr_iload_n C0 dX0_layOut_22 rfl (i := 2) rfl ?_
    have g3 := h.1
    have h := h.2
    refine mr_iald C0 dX0_layOut_23 (Nat.le_of_ble_eq_true rfl) rfl g3 ?_
    refine mr_topI (y := (S.1 20 x2.toNatClampNeg)) (by first | rfl | simp [sI, sJ, sF, upd, vp_updL]) ?_
    refine mr_iconst (v := 1) C0 dX0_layOut_24 (by decide) ?_
    refine mr_iadd C0 dX0_layOut_25 ?_
    refine mr_imul C0 dX0_layOut_26 ?_
    refine mr_istore_n (L1 := [some (.ref 19), some (.int (x1 * ((S.1 20 x2.toNatClampNeg) + (1 : Int32)))), some (.int x2)]) C0 dX0_layOut_27 rfl (Nat.le_of_ble_eq_true rfl) rfl ?_
    refine mr_iinc (v := (x2 + 1)) (L1 := [some (.ref 19), some (.int (x1 * ((S.1 20 x2.toNatClampNeg) + (1 : Int32)))), some (.int (x2 + 1))]) C0 dX0_layOut_28 rfl rfl (Nat.le_of_ble_eq_true rfl) rfl ?_
    refine mr_goto C0 dX0_layOut_31 (tgt := 4) (by decide) ?_
    exact h zp0 zl0 ze0 zs0 zm0 zargs0 zbelow0 zmeth0 zc0 zD0 zad0 zac0 C0 hr0 hk0
set_option maxRecDepth 100000 in
set_option maxHeartbeats 4000000 in
theorem eX0_placeNextVote (x1 : Int32) (S : St) (Q : St → Prop) (h : V mdX0_placeNextVote 4 [some (.ref 19), some (.int x1), some (.int (0 : Int32)), some (.int (0 : Int32))] [] S (qV Q)) : CallV mdX0_placeNextVote [.ref 19, .int x1] S (qV Q) := by
  refine CallV_of mdX0_placeNextVote plX0_placeNextVote 2 (Nat.le_of_ble_eq_true rfl) rfl ?_
  intro zp0 zl0 ze0 zs0 zm0 zargs0 zbelow0 zmeth0 zc0 zD0 zad0 zac0 C0 hr0 hk0
  refine mr_iconst (v := 0) C0 dX0_placeNextVote_0 (by decide) ?_
  refine mr_istore_n (L1 := [some (.ref 19), some (.int x1), some (.int (0 : Int32)), none]) C0 dX0_placeNextVote_1 rfl (Nat.le_of_ble_eq_true rfl) rfl ?_
  refine mr_iconst (v := 0) C0 dX0_placeNextVote_2 (by decide) ?_
  refine mr_istore_n (L1 := [some (.ref 19), some (.int x1), some (.int (0 : Int32)), some (.int (0 : Int32))]) C0 dX0_placeNextVote_3 rfl (Nat.le_of_ble_eq_true rfl) rfl ?_
  exact h zp0 zl0 ze0 zs0 zm0 zargs0 zbelow0 zmeth0 zc0 zD0 zad0 zac0 C0 hr0 hk0
set_option maxRecDepth 100000 in
set_option maxHeartbeats 4000000 in
theorem eX0_placeNextVote_4 (x1 : Int32) (x2 : Int32) (x3 : Int32) (S : St) (Q : St → Prop) (h : (((7 : Int32) ≤ x3 → V mdX0_placeNextVote 27 [some (.ref 19), some (.int x1), some (.int x2), some (.int (0 : Int32))] [] S (qV Q)) ∧ (¬ (7 : Int32) ≤ x3 → (vp_in x3 7) ∧ V mdX0_placeNextVote 4 [some (.ref 19), some (.int x1), some (.int (x2 + (S.1 22 x3.toNatClampNeg))), some (.int (x3 + 1))] [] S (qV Q)))) : V mdX0_placeNextVote 4 [some (.ref 19), some (.int x1), some (.int x2), some (.int x3)] [] S (qV Q) := by
  intro zp0 zl0 ze0 zs0 zm0 zargs0 zbelow0 zmeth0 zc0 zD0 zad0 zac0 C0 hr0 hk0
  refine mr_iload_n C0 dX0_placeNextVote_4 rfl (i := 3) rfl ?_
  refine mr_bipush (v := 7) C0 dX0_placeNextVote_5 (by decide) ?_
  refine mr_icmp_ge C0 dX0_placeNextVote_7 (tgt := 25) (by decide) (fun c1 => ?_) (fun c1 => ?_)
  · have h := h.1 c1
    refine mr_iconst (v := 0) C0 dX0_placeNextVote_25 (by decide) ?_
    refine mr_istore_n (L1 := [some (.ref 19), some (.int x1), some (.int x2), some (.int (0 : Int32))]) C0 dX0_placeNextVote_26 rfl (Nat.le_of_ble_eq_true rfl) rfl ?_
    exact h zp0 zl0 ze0 zs0 zm0 zargs0 zbelow0 zmeth0 zc0 zD0 zad0 zac0 C0 hr0 hk0
  · have h := h.2 c1
    refine mr_iload_n C0 dX0_placeNextVote_10 rfl (i := 2) rfl ?_
    refine mr_aload_n C0 dX0_placeNextVote_11 rfl (i := 0) rfl ?_
    refine mr_getR C0 dX0_placeNextVote_12 fl_X0_18 (Nat.le_of_ble_eq_true rfl) rfl rfl ?_
    refine mr_iload_n C0 dX0_placeNextVote_15 rfl (i := 3) rfl ?_
    have g2 := h.1
    have h := h.2
    refine mr_iald C0 dX0_placeNextVote_16 (Nat.le_of_ble_eq_true rfl) rfl g2 ?_
    refine mr_iadd C0 dX0_placeNextVote_17 ?_
    refine mr_istore_n (L1 := [some (.ref 19), some (.int x1), some (.int (x2 + (S.1 22 x3.toNatClampNeg))), some (.int x3)]) C0 dX0_placeNextVote_18 rfl (Nat.le_of_ble_eq_true rfl) rfl ?_
    refine mr_iinc (v := (x3 + 1)) (L1 := [some (.ref 19), some (.int x1), some (.int (x2 + (S.1 22 x3.toNatClampNeg))), some (.int (x3 + 1))]) C0 dX0_placeNextVote_19 rfl rfl (Nat.le_of_ble_eq_true rfl) rfl ?_
    refine mr_goto C0 dX0_placeNextVote_22 (tgt := 4) (by decide) ?_
    exact h zp0 zl0 ze0 zs0 zm0 zargs0 zbelow0 zmeth0 zc0 zD0 zad0 zac0 C0 hr0 hk0
set_option maxRecDepth 100000 in
set_option maxHeartbeats 4000000 in
theorem eX0_placeNextVote_27 (x1 : Int32) (x2 : Int32) (x3 : Int32) (S : St) (Q : St → Prop) (h : (((7 : Int32) ≤ x3 → Q S) ∧ (¬ (7 : Int32) ≤ x3 → (vp_in x3 7) ∧ (vp_in x3 7) ∧ (((S.1 20 x3.toNatClampNeg) ≤ (S.1 22 x3.toNatClampNeg) → V mdX0_placeNextVote 27 [some (.ref 19), some (.int x1), some (.int x2), some (.int (x3 + 1))] [] S (qV Q)) ∧ (¬ (S.1 20 x3.toNatClampNeg) ≤ (S.1 22 x3.toNatClampNeg) → (((8 : Int32) ≤ x2 → V mdX0_placeNextVote 27 [some (.ref 19), some (.int x1), some (.int x2), some (.int (x3 + 1))] [] S (qV Q)) ∧ (¬ (8 : Int32) ≤ x2 → (vp_in x2 8) ∧ ((¬ (((S.1 21 x2.toNatClampNeg) >>> (x3 &&& 31)) &&& (1 : Int32)) = (1 : Int32) → V mdX0_placeNextVote 27 [some (.ref 19), some (.int x1), some (.int x2), some (.int (x3 + 1))] [] S (qV Q)) ∧ ((((S.1 21 x2.toNatClampNeg) >>> (x3 &&& 31)) &&& (1 : Int32)) = (1 : Int32) → (vp_in x3 7) ∧ (vp_in (x1 + (S.1 23 x3.toNatClampNeg)) 192) ∧ (vp_in x1 192) ∧ (vp_in (x1 + (S.1 23 x3.toNatClampNeg)) 192) ∧ V mdX0_placeNextVote 27 [some (.ref 19), some (.int x1), some (.int x2), some (.int (x3 + 1))] [] (sI S 24 ((x1 + (S.1 23 x3.toNatClampNeg)).toNatClampNeg) ((S.1 24 ((x1 + (S.1 23 x3.toNatClampNeg)).toNatClampNeg)) + (S.1 24 x1.toNatClampNeg))) (qV Q)))))))))) : V mdX0_placeNextVote 27 [some (.ref 19), some (.int x1), some (.int x2), some (.int x3)] [] S (qV Q) := by
  intro zp0 zl0 ze0 zs0 zm0 zargs0 zbelow0 zmeth0 zc0 zD0 zad0 zac0 C0 hr0 hk0
  refine mr_iload_n C0 dX0_placeNextVote_27 rfl (i := 3) rfl ?_
  refine mr_bipush (v := 7) C0 dX0_placeNextVote_28 (by decide) ?_
  refine mr_icmp_ge C0 dX0_placeNextVote_30 (tgt := 96) (by decide) (fun c1 => ?_) (fun c1 => ?_)
  · have h := h.1 c1
    refine mr_vret C0 hr0 hk0 dX0_placeNextVote_96 (qV_mk ?_)
    exact h
  · have h := h.2 c1
    refine mr_aload_n C0 dX0_placeNextVote_33 rfl (i := 0) rfl ?_
    refine mr_getR C0 dX0_placeNextVote_34 fl_X0_18 (Nat.le_of_ble_eq_true rfl) rfl rfl ?_
    refine mr_iload_n C0 dX0_placeNextVote_37 rfl (i := 3) rfl ?_
    have g2 := h.1
    have h := h.2
    refine mr_iald C0 dX0_placeNextVote_38 (Nat.le_of_ble_eq_true rfl) rfl g2 ?_
    refine mr_aload_n C0 dX0_placeNextVote_39 rfl (i := 0) rfl ?_
    refine mr_getR C0 dX0_placeNextVote_40 fl_X0_9 (Nat.le_of_ble_eq_true rfl) rfl rfl ?_
    refine mr_iload_n C0 dX0_placeNextVote_43 rfl (i := 3) rfl ?_
    have g3 := h.1
    have h := h.2
    refine mr_iald C0 dX0_placeNextVote_44 (Nat.le_of_ble_eq_true rfl) rfl g3 ?_
    refine mr_icmp_ge C0 dX0_placeNextVote_45 (tgt := 90) (by decide) (fun c4 => ?_) (fun c4 => ?_)
    · have h := h.1 c4
      refine mr_iinc (v := (x3 + 1)) (L1 := [some (.ref 19), some (.int x1), some (.int x2), some (.int (x3 + 1))]) C0 dX0_placeNextVote_90 rfl rfl (Nat.le_of_ble_eq_true rfl) rfl ?_
      refine mr_goto C0 dX0_placeNextVote_93 (tgt := 27) (by decide) ?_
      exact h zp0 zl0 ze0 zs0 zm0 zargs0 zbelow0 zmeth0 zc0 zD0 zad0 zac0 C0 hr0 hk0
    · have h := h.2 c4
      refine mr_iload_n C0 dX0_placeNextVote_48 rfl (i := 2) rfl ?_
      refine mr_bipush (v := 8) C0 dX0_placeNextVote_49 (by decide) ?_
      refine mr_icmp_ge C0 dX0_placeNextVote_51 (tgt := 90) (by decide) (fun c5 => ?_) (fun c5 => ?_)
      · have h := h.1 c5
        refine mr_iinc (v := (x3 + 1)) (L1 := [some (.ref 19), some (.int x1), some (.int x2), some (.int (x3 + 1))]) C0 dX0_placeNextVote_90 rfl rfl (Nat.le_of_ble_eq_true rfl) rfl ?_
        refine mr_goto C0 dX0_placeNextVote_93 (tgt := 27) (by decide) ?_
        exact h zp0 zl0 ze0 zs0 zm0 zargs0 zbelow0 zmeth0 zc0 zD0 zad0 zac0 C0 hr0 hk0
      · have h := h.2 c5
        refine mr_aload_n C0 dX0_placeNextVote_54 rfl (i := 0) rfl ?_
        refine mr_getR C0 dX0_placeNextVote_55 fl_X0_15 (Nat.le_of_ble_eq_true rfl) rfl rfl ?_
        refine mr_iload_n C0 dX0_placeNextVote_58 rfl (i := 2) rfl ?_
        have g6 := h.1
        have h := h.2
        refine mr_iald C0 dX0_placeNextVote_59 (Nat.le_of_ble_eq_true rfl) rfl g6 ?_
        refine mr_iload_n C0 dX0_placeNextVote_60 rfl (i := 3) rfl ?_
        refine mr_ishr C0 dX0_placeNextVote_61 ?_
        refine mr_iconst (v := 1) C0 dX0_placeNextVote_62 (by decide) ?_
        refine mr_iand C0 dX0_placeNextVote_63 ?_
        refine mr_iconst (v := 1) C0 dX0_placeNextVote_64 (by decide) ?_
        refine mr_icmp_ne C0 dX0_placeNextVote_65 (tgt := 90) (by decide) (fun c7 => ?_) (fun c7 => ?_)
        · have h := h.1 c7
          refine mr_iinc (v := (x3 + 1)) (L1 := [some (.ref 19), some (.int x1), some (.int x2), some (.int (x3 + 1))]) C0 dX0_placeNextVote_90 rfl rfl (Nat.le_of_ble_eq_true rfl) rfl ?_
          refine mr_goto C0 dX0_placeNextVote_93 (tgt := 27) (by decide) ?_
          exact h zp0 zl0 ze0 zs0 zm0 zargs0 zbelow0 zmeth0 zc0 zD0 zad0 zac0 C0 hr0 hk0
        · have h := h.2 c7
          refine mr_aload_n C0 dX0_placeNextVote_68 rfl (i := 0) rfl ?_
          refine mr_getR C0 dX0_placeNextVote_69 fl_X0_24 (Nat.le_of_ble_eq_true rfl) rfl rfl ?_
          refine mr_iload_n C0 dX0_placeNextVote_72 rfl (i := 1) rfl ?_
          refine mr_aload_n C0 dX0_placeNextVote_73 rfl (i := 0) rfl ?_
          refine mr_getR C0 dX0_placeNextVote_74 fl_X0_21 (Nat.le_of_ble_eq_true rfl) rfl rfl ?_
          refine mr_iload_n C0 dX0_placeNextVote_77 rfl (i := 3) rfl ?_
          have g8 := h.1
          have h := h.2
          refine mr_iald C0 dX0_placeNextVote_78 (Nat.le_of_ble_eq_true rfl) rfl g8 ?_
          refine mr_iadd C0 dX0_placeNextVote_79 ?_
          refine mr_dup2 C0 dX0_placeNextVote_80 rfl rfl ?_
          have g9 := h.1
          have h := h.2
          refine mr_iald C0 dX0_placeNextVote_81 (Nat.le_of_ble_eq_true rfl) rfl g9 ?_
          refine mr_aload_n C0 dX0_placeNextVote_82 rfl (i := 0) rfl ?_
          refine mr_getR C0 dX0_placeNextVote_83 fl_X0_24 (Nat.le_of_ble_eq_true rfl) rfl rfl ?_
          refine mr_iload_n C0 dX0_placeNextVote_86 rfl (i := 1) rfl ?_
          have g10 := h.1
          have h := h.2
          refine mr_iald C0 dX0_placeNextVote_87 (Nat.le_of_ble_eq_true rfl) rfl g10 ?_
          refine mr_iadd C0 dX0_placeNextVote_88 ?_
          have g11 := h.1
          have h := h.2
          refine mr_iast C0 dX0_placeNextVote_89 (Nat.le_of_ble_eq_true rfl) rfl g11 ?_
          refine mr_iinc (v := (x3 + 1)) (L1 := [some (.ref 19), some (.int x1), some (.int x2), some (.int (x3 + 1))]) C0 dX0_placeNextVote_90 rfl rfl (Nat.le_of_ble_eq_true rfl) rfl ?_
          refine mr_goto C0 dX0_placeNextVote_93 (tgt := 27) (by decide) ?_
          exact h zp0 zl0 ze0 zs0 zm0 zargs0 zbelow0 zmeth0 zc0 zD0 zad0 zac0 C0 hr0 hk0
set_option maxRecDepth 100000 in
set_option maxHeartbeats 4000000 in
theorem eX0_nextUsed (S : St) (Q : St → Prop) (h : V mdX0_nextUsed 2 [some (.ref 19), some (.int (0 : Int32))] [] S (qV Q)) : CallV mdX0_nextUsed [.ref 19] S (qV Q) := by
  refine CallV_of mdX0_nextUsed plX0_nextUsed 1 (Nat.le_of_ble_eq_true rfl) rfl ?_
  intro zp0 zl0 ze0 zs0 zm0 zargs0 zbelow0 zmeth0 zc0 zD0 zad0 zac0 C0 hr0 hk0
  refine mr_iconst (v := 0) C0 dX0_nextUsed_0 (by decide) ?_
  refine mr_istore_n (L1 := [some (.ref 19), some (.int (0 : Int32))]) C0 dX0_nextUsed_1 rfl (Nat.le_of_ble_eq_true rfl) rfl ?_
  exact h zp0 zl0 ze0 zs0 zm0 zargs0 zbelow0 zmeth0 zc0 zD0 zad0 zac0 C0 hr0 hk0
set_option maxRecDepth 100000 in
set_option maxHeartbeats 4000000 in
theorem eX0_nextUsed_2 (x1 : Int32) (S : St) (Q : St → Prop) (h : (((7 : Int32) ≤ x1 → Q S) ∧ (¬ (7 : Int32) ≤ x1 → (vp_in x1 7) ∧ (vp_in x1 7) ∧ (((S.1 20 x1.toNatClampNeg) ≤ (S.1 22 x1.toNatClampNeg) → (vp_in x1 7) ∧ V mdX0_nextUsed 2 [some (.ref 19), some (.int (x1 + 1))] [] (sI S 22 x1.toNatClampNeg (0 : Int32)) (qV Q)) ∧ (¬ (S.1 20 x1.toNatClampNeg) ≤ (S.1 22 x1.toNatClampNeg) → (vp_in x1 7) ∧ (vp_in x1 7) ∧ Q (sI S 22 x1.toNatClampNeg ((S.1 22 x1.toNatClampNeg) + (1 : Int32)))))))) : V mdX0_nextUsed 2 [some (.ref 19), some (.int x1)] [] S (qV Q) := by
  intro zp0 zl0 ze0 zs0 zm0 zargs0 zbelow0 zmeth0 zc0 zD0 zad0 zac0 C0 hr0 hk0
  refine mr_iload_n C0 dX0_nextUsed_2 rfl (i := 1) rfl ?_
  refine mr_bipush (v := 7) C0 dX0_nextUsed_3 (by decide) ?_
  refine mr_icmp_ge C0 dX0_nextUsed_5 (tgt := 47) (by decide) (fun c1 => ?_) (fun c1 => ?_)
  · have h := h.1 c1
    refine mr_vret C0 hr0 hk0 dX0_nextUsed_47 (qV_mk ?_)
    exact h
  · have h := h.2 c1
    refine mr_aload_n C0 dX0_nextUsed_8 rfl (i := 0) rfl ?_
    refine mr_getR C0 dX0_nextUsed_9 fl_X0_18 (Nat.le_of_ble_eq_true rfl) rfl rfl ?_
    refine mr_iload_n C0 dX0_nextUsed_12 rfl (i := 1) rfl ?_
    have g2 := h.1
    have h := h.2
    refine mr_iald C0 dX0_nextUsed_13 (Nat.le_of_ble_eq_true rfl) rfl g2 ?_
    refine mr_aload_n C0 dX0_nextUsed_14 rfl (i := 0) rfl ?_
    refine mr_getR C0 dX0_nextUsed_15 fl_X0_9 (Nat.le_of_ble_eq_true rfl) rfl rfl ?_
    refine mr_iload_n C0 dX0_nextUsed_18 rfl (i := 1) rfl ?_
    have g3 := h.1
    have h := h.2
    refine mr_iald C0 dX0_nextUsed_19 (Nat.le_of_ble_eq_true rfl) rfl g3 ?_
    refine mr_icmp_ge C0 dX0_nextUsed_20 (tgt := 34) (by decide) (fun c4 => ?_) (fun c4 => ?_)
    · have h := h.1 c4
      refine mr_aload_n C0 dX0_nextUsed_34 rfl (i := 0) rfl ?_
      refine mr_getR C0 dX0_nextUsed_35 fl_X0_18 (Nat.le_of_ble_eq_true rfl) rfl rfl ?_
      refine mr_iload_n C0 dX0_nextUsed_38 rfl (i := 1) rfl ?_
      refine mr_iconst (v := 0) C0 dX0_nextUsed_39 (by decide) ?_
      have g5 := h.1
      have h := h.2
      refine mr_iast C0 dX0_nextUsed_40 (Nat.le_of_ble_eq_true rfl) rfl g5 ?_
      refine mr_iinc (v := (x1 + 1)) (L1 := [some (.ref 19), some (.int (x1 + 1))]) C0 dX0_nextUsed_41 rfl rfl (Nat.le_of_ble_eq_true rfl) rfl ?_
      refine mr_goto C0 dX0_nextUsed_44 (tgt := 2) (by decide) ?_
      exact h zp0 zl0 ze0 zs0 zm0 zargs0 zbelow0 zmeth0 zc0 zD0 zad0 zac0 C0 hr0 hk0
    · have h := h.2 c4
      refine mr_aload_n C0 dX0_nextUsed_23 rfl (i := 0) rfl ?_
      refine mr_getR C0 dX0_nextUsed_24 fl_X0_18 (Nat.le_of_ble_eq_true rfl) rfl rfl ?_
      refine mr_iload_n C0 dX0_nextUsed_27 rfl (i := 1) rfl ?_
      refine mr_dup2 C0 dX0_nextUsed_28 rfl rfl ?_
      have g6 := h.1
      have h := h.2
      refine mr_iald C0 dX0_nextUsed_29 (Nat.le_of_ble_eq_true rfl) rfl g6 ?_
      refine mr_iconst (v := 1) C0 dX0_nextUsed_30 (by decide) ?_
      refine mr_iadd C0 dX0_nextUsed_31 ?_
      have g7 := h.1
      have h := h.2
      refine mr_iast C0 dX0_nextUsed_32 (Nat.le_of_ble_eq_true rfl) rfl g7 ?_
      refine mr_vret C0 hr0 hk0 dX0_nextUsed_33 (qV_mk ?_)
      exact h
set_option maxRecDepth 100000 in
set_option maxHeartbeats 4000000 in
theorem eX0_endsOfRows (x1 : Int32) (S : St) (Q : Int32 → St → Prop) (h : (vp_in x1 8) ∧ V mdX0_endsOfRows 12 [some (.ref 19), some (.int x1), some (.int (S.1 21 x1.toNatClampNeg)), some (.int (0 : Int32)), some (.int (0 : Int32))] [] S (qI Q)) : CallV mdX0_endsOfRows [.ref 19, .int x1] S (qI Q) := by
  refine CallV_of mdX0_endsOfRows plX0_endsOfRows 3 (Nat.le_of_ble_eq_true rfl) rfl ?_
  intro zp0 zl0 ze0 zs0 zm0 zargs0 zbelow0 zmeth0 zc0 zD0 zad0 zac0 C0 hr0 hk0
  refine mr_aload_n C0 dX0_endsOfRows_0 rfl (i := 0) rfl ?_
  refine mr_getR C0 dX0_endsOfRows_1 fl_X0_15 (Nat.le_of_ble_eq_true rfl) rfl rfl ?_
  refine mr_iload_n C0 dX0_endsOfRows_4 rfl (i := 1) rfl ?_
  have g1 := h.1
  have h := h.2
  refine mr_iald C0 dX0_endsOfRows_5 (Nat.le_of_ble_eq_true rfl) rfl g1 ?_
  refine mr_istore_n (L1 := [some (.ref 19), some (.int x1), some (.int (S.1 21 x1.toNatClampNeg)), none, none]) C0 dX0_endsOfRows_6 rfl (Nat.le_of_ble_eq_true rfl) rfl ?_
  refine mr_iconst (v := 0) C0 dX0_endsOfRows_7 (by decide) ?_
  refine mr_istore_n (L1 := [some (.ref 19), some (.int x1), some (.int (S.1 21 x1.toNatClampNeg)), some (.int (0 : Int32)), none]) C0 dX0_endsOfRows_8 rfl (Nat.le_of_ble_eq_true rfl) rfl ?_
  refine mr_iconst (v := 0) C0 dX0_endsOfRows_9 (by decide) ?_
  refine mr_istore (L1 := [some (.ref 19), some (.int x1), some (.int (S.1 21 x1.toNatClampNeg)), some (.int (0 : Int32)), some (.int (0 : Int32))]) C0 dX0_endsOfRows_10 (Nat.le_of_ble_eq_true rfl) rfl ?_
  exact h zp0 zl0 ze0 zs0 zm0 zargs0 zbelow0 zmeth0 zc0 zD0 zad0 zac0 C0 hr0 hk0
set_option maxRecDepth 100000 in
set_option maxHeartbeats 4000000 in
theorem eX0_endsOfRows_12 (x1 : Int32) (x2 : Int32) (x3 : Int32) (x4 : Int32) (S : St) (Q : Int32 → St → Prop) (h : (((7 : Int32) ≤ x4 → (vp_in x1 8) ∧ Q x3 (sI S 21 x1.toNatClampNeg x2)) ∧ (¬ (7 : Int32) ≤ x4 → (vp_in x1 8) ∧ (vp_in x1 8) ∧ (((x2 &&& ((1 : Int32) <<< (x4 &&& 31))) = 0 → V mdX0_endsOfRows 12 [some (.ref 19), some (.int x1), some (.int x2), some (.int x3), some (.int (x4 + 1))] [] (sI S 21 x1.toNatClampNeg (x2 &&& ((1 : Int32) <<< (x4 &&& 31)))) (qI Q)) ∧ (¬ (x2 &&& ((1 : Int32) <<< (x4 &&& 31))) = 0 → CallV mdX0_rows [.ref 19] (sI S 21 x1.toNatClampNeg (x2 &&& ((1 : Int32) <<< (x4 &&& 31)))) (qI fun r7 S6 => ((r7 ≤ 0 → V mdX0_endsOfRows 12 [some (.ref 19), some (.int x1), some (.int x2), some (.int x3), some (.int (x4 + 1))] [] S6 (qI Q)) ∧ (¬ r7 ≤ 0 → V mdX0_endsOfRows 12 [some (.ref 19), some (.int x1), some (.int x2), some (.int (x3 ||| ((1 : Int32) <<< (x4 &&& 31)))), some (.int (x4 + 1))] [] S6 (qI Q))))))))) : V mdX0_endsOfRows 12 [some (.ref 19), some (.int x1), some (.int x2), some (.int x3), some (.int x4)] [] S (qI Q) := by
  intro zp0 zl0 ze0 zs0 zm0 zargs0 zbelow0 zmeth0 zc0 zD0 zad0 zac0 C0 hr0 hk0
  refine mr_iload C0 dX0_endsOfRows_12 rfl ?_
  refine mr_bipush (v := 7) C0 dX0_endsOfRows_14 (by decide) ?_
  refine mr_icmp_ge C0 dX0_endsOfRows_16 (tgt := 60) (by decide) (fun c1 => ?_) (fun c1 => ?_)
  · have h := h.1 c1
    refine mr_aload_n C0 dX0_endsOfRows_60 rfl (i := 0) rfl ?_
    refine mr_getR C0 dX0_endsOfRows_61 fl_X0_15 (Nat.le_of_ble_eq_true rfl) rfl rfl ?_
    refine mr_iload_n C0 dX0_endsOfRows_64 rfl (i := 1) rfl ?_
    refine mr_iload_n C0 dX0_endsOfRows_65 rfl (i := 2) rfl ?_
    have g2 := h.1
    have h := h.2
    refine mr_iast C0 dX0_endsOfRows_66 (Nat.le_of_ble_eq_true rfl) rfl g2 ?_
    refine mr_iload_n C0 dX0_endsOfRows_67 rfl (i := 3) rfl ?_
    refine mr_iret C0 hr0 hk0 dX0_endsOfRows_68 (qI_mk ?_)
    exact h
  · have h := h.2 c1
    refine mr_aload_n C0 dX0_endsOfRows_19 rfl (i := 0) rfl ?_
    refine mr_getR C0 dX0_endsOfRows_20 fl_X0_15 (Nat.le_of_ble_eq_true rfl) rfl rfl ?_
    refine mr_iload_n C0 dX0_endsOfRows_23 rfl (i := 1) rfl ?_
    refine mr_iload_n C0 dX0_endsOfRows_24 rfl (i := 2) rfl ?_
    refine mr_iconst (v := 1) C0 dX0_endsOfRows_25 (by decide) ?_
    refine mr_iload C0 dX0_endsOfRows_26 rfl ?_
    refine mr_ishl C0 dX0_endsOfRows_28 ?_
    refine mr_iand C0 dX0_endsOfRows_29 ?_
    have g3 := h.1
    have h := h.2
    refine mr_iast C0 dX0_endsOfRows_30 (Nat.le_of_ble_eq_true rfl) rfl g3 ?_
    refine mr_aload_n C0 dX0_endsOfRows_31 rfl (i := 0) rfl ?_
    refine mr_getR C0 dX0_endsOfRows_32 fl_X0_15 (Nat.le_of_ble_eq_true rfl) rfl rfl ?_
    refine mr_iload_n C0 dX0_endsOfRows_35 rfl (i := 1) rfl ?_
    have g4 := h.1
    have h := h.2
    refine mr_iald C0 dX0_endsOfRows_36 (Nat.le_of_ble_eq_true rfl) rfl g4 ?_
    refine mr_topI (y := (x2 &&& ((1 : Int32) <<< (x4 &&& 31)))) (by first | rfl | simp [sI, sJ, sF, upd, vp_updL]) ?_
    refine mr_if_eq C0 dX0_endsOfRows_37 (tgt := 54) (by decide) (fun c5 => ?_) (fun c5 => ?_)
    · have h := h.1 c5
      refine mr_iinc (v := (x4 + 1)) (L1 := [some (.ref 19), some (.int x1), some (.int x2), some (.int x3), some (.int (x4 + 1))]) C0 dX0_endsOfRows_54 rfl rfl (Nat.le_of_ble_eq_true rfl) rfl ?_
      refine mr_goto C0 dX0_endsOfRows_57 (tgt := 12) (by decide) ?_
      exact h zp0 zl0 ze0 zs0 zm0 zargs0 zbelow0 zmeth0 zc0 zD0 zad0 zac0 C0 hr0 hk0
    · have h := h.2 c5
      refine mr_aload_n C0 dX0_endsOfRows_40 rfl (i := 0) rfl ?_
      refine mr_callVI C0 mdX0_rows dX0_endsOfRows_41 clX0_rows ml_X0_50 (Nat.le_of_ble_eq_true rfl) rfl rfl arX0_rows (as := []) rfl (Nat.le_of_ble_eq_true rfl) (Nat.le_of_ble_eq_true rfl) (Nat.le_of_ble_eq_true rfl) fit0 h (fun r7 S6 h => ?_)
      refine mr_if_le C0 dX0_endsOfRows_44 (tgt := 54) (by decide) (fun c8 => ?_) (fun c8 => ?_)
      · have h := h.1 c8
        refine mr_iinc (v := (x4 + 1)) (L1 := [some (.ref 19), some (.int x1), some (.int x2), some (.int x3), some (.int (x4 + 1))]) C0 dX0_endsOfRows_54 rfl rfl (Nat.le_of_ble_eq_true rfl) rfl ?_
        refine mr_goto C0 dX0_endsOfRows_57 (tgt := 12) (by decide) ?_
        exact h zp0 zl0 ze0 zs0 zm0 zargs0 zbelow0 zmeth0 zc0 zD0 zad0 zac0 C0 hr0 hk0
      · have h := h.2 c8
        refine mr_iload_n C0 dX0_endsOfRows_47 rfl (i := 3) rfl ?_
        refine mr_iconst (v := 1) C0 dX0_endsOfRows_48 (by decide) ?_
        refine mr_iload C0 dX0_endsOfRows_49 rfl ?_
        refine mr_ishl C0 dX0_endsOfRows_51 ?_
        refine mr_ior C0 dX0_endsOfRows_52 ?_
        refine mr_istore_n (L1 := [some (.ref 19), some (.int x1), some (.int x2), some (.int (x3 ||| ((1 : Int32) <<< (x4 &&& 31)))), some (.int x4)]) C0 dX0_endsOfRows_53 rfl (Nat.le_of_ble_eq_true rfl) rfl ?_
        refine mr_iinc (v := (x4 + 1)) (L1 := [some (.ref 19), some (.int x1), some (.int x2), some (.int (x3 ||| ((1 : Int32) <<< (x4 &&& 31)))), some (.int (x4 + 1))]) C0 dX0_endsOfRows_54 rfl rfl (Nat.le_of_ble_eq_true rfl) rfl ?_
        refine mr_goto C0 dX0_endsOfRows_57 (tgt := 12) (by decide) ?_
        exact h zp0 zl0 ze0 zs0 zm0 zargs0 zbelow0 zmeth0 zc0 zD0 zad0 zac0 C0 hr0 hk0
set_option maxRecDepth 100000 in
set_option maxHeartbeats 4000000 in
theorem eX1_drop (x1 : Int32) (x2 : Int32) (S : St) (Q : St → Prop) (h : (vp_in x1 3) ∧ CallV mdJ7_fill_53178 [.ref (9 + x1.toNatClampNeg), .int (0 : Int32)] S (qV fun S2 => (vp_in x1 3) ∧ (vp_in x2 36) ∧ CallV mdX1_runDown [.ref 7, .int x1, .int (1 : Int32)] (sI S2 (9 + x1.toNatClampNeg) x2.toNatClampNeg (32768 : Int32)) (qV fun S5 => Q S5))) : CallV mdX1_drop [.ref 7, .int x1, .int x2] S (qV Q) := by
  refine CallV_of mdX1_drop plX1_drop 0 (Nat.le_of_ble_eq_true rfl) rfl ?_
  intro zp0 zl0 ze0 zs0 zm0 zargs0 zbelow0 zmeth0 zc0 zD0 zad0 zac0 C0 hr0 hk0
  refine mr_aload_n C0 dX1_drop_0 rfl (i := 0) rfl ?_
  refine mr_getR C0 dX1_drop_1 fl_X1_11 (Nat.le_of_ble_eq_true rfl) rfl rfl ?_
  refine mr_iload_n C0 dX1_drop_4 rfl (i := 1) rfl ?_
  have g1 := h.1
  have h := h.2
  refine mr_aald (d := 1) C0 dX1_drop_5 (Nat.le_of_ble_eq_true rfl) rfl g1 (pw_el 9 g1) ?_
  refine mr_iconst (v := 0) C0 dX1_drop_6 (by decide) ?_
  refine mr_callSV C0 mdJ7_fill_53178 dX1_drop_7 clJ7_fill_53178 ml_X1_37 arJ7_fill_53178 (as := [.ref (9 + x1.toNatClampNeg), .int (0 : Int32)]) rfl (Nat.le_of_ble_eq_true rfl) (Nat.le_of_ble_eq_true rfl) (Nat.le_of_ble_eq_true rfl) fit0 h (fun S2 h => ?_)
  refine mr_aload_n C0 dX1_drop_10 rfl (i := 0) rfl ?_
  refine mr_getR C0 dX1_drop_11 fl_X1_11 (Nat.le_of_ble_eq_true rfl) rfl rfl ?_
  refine mr_iload_n C0 dX1_drop_14 rfl (i := 1) rfl ?_
  have g3 := h.1
  have h := h.2
  refine mr_aald (d := 1) C0 dX1_drop_15 (Nat.le_of_ble_eq_true rfl) rfl g3 (pw_el 9 g3) ?_
  refine mr_iload_n C0 dX1_drop_16 rfl (i := 2) rfl ?_
  refine mr_ldc C0 dX1_drop_17 cn_X1_43 ?_
  have g4 := h.1
  have h := h.2
  refine mr_iast C0 dX1_drop_19 (pa_lt (pa_in g3)) (pa_lay (pa_in g3)) g4 ?_
  refine mr_aload_n C0 dX1_drop_20 rfl (i := 0) rfl ?_
  refine mr_iload_n C0 dX1_drop_21 rfl (i := 1) rfl ?_
  refine mr_iconst (v := 1) C0 dX1_drop_22 (by decide) ?_
  refine mr_callVV C0 mdX1_runDown dX1_drop_23 clX1_runDown ml_X1_44 (Nat.le_of_ble_eq_true rfl) rfl rfl arX1_runDown (as := [.int x1, .int (1 : Int32)]) rfl (Nat.le_of_ble_eq_true rfl) (Nat.le_of_ble_eq_true rfl) (Nat.le_of_ble_eq_true rfl) fit0 h (fun S5 h => ?_)
  refine mr_vret C0 hr0 hk0 dX1_drop_26 (qV_mk ?_)
  exact h
set_option maxRecDepth 100000 in
set_option maxHeartbeats 4000000 in
theorem eX1_dropAll (x1 : Int32) (S : St) (Q : St → Prop) (h : V mdX1_dropAll 2 [some (.ref 7), some (.int x1), some (.int (0 : Int32))] [] S (qV Q)) : CallV mdX1_dropAll [.ref 7, .int x1] S (qV Q) := by
  refine CallV_of mdX1_dropAll plX1_dropAll 1 (Nat.le_of_ble_eq_true rfl) rfl ?_
  intro zp0 zl0 ze0 zs0 zm0 zargs0 zbelow0 zmeth0 zc0 zD0 zad0 zac0 C0 hr0 hk0
  refine mr_iconst (v := 0) C0 dX1_dropAll_0 (by decide) ?_
  refine mr_istore_n (L1 := [some (.ref 7), some (.int x1), some (.int (0 : Int32))]) C0 dX1_dropAll_1 rfl (Nat.le_of_ble_eq_true rfl) rfl ?_
  exact h zp0 zl0 ze0 zs0 zm0 zargs0 zbelow0 zmeth0 zc0 zD0 zad0 zac0 C0 hr0 hk0
set_option maxRecDepth 100000 in
set_option maxHeartbeats 4000000 in
theorem eX1_dropAll_2 (x1 : Int32) (x2 : Int32) (S : St) (Q : St → Prop) (h : (((3 : Int32) ≤ x2 → V mdX1_dropAll 25 [some (.ref 7), some (.int x1), some (.int (0 : Int32))] [] S (qV Q)) ∧ (¬ (3 : Int32) ≤ x2 → (vp_in x2 3) ∧ CallV mdJ7_fill_53178 [.ref (9 + x2.toNatClampNeg), .int (0 : Int32)] S (qV fun S3 => V mdX1_dropAll 2 [some (.ref 7), some (.int x1), some (.int (x2 + 1))] [] S3 (qV Q))))) : V mdX1_dropAll 2 [some (.ref 7), some (.int x1), some (.int x2)] [] S (qV Q) := by
  intro zp0 zl0 ze0 zs0 zm0 zargs0 zbelow0 zmeth0 zc0 zD0 zad0 zac0 C0 hr0 hk0
  refine mr_iload_n C0 dX1_dropAll_2 rfl (i := 2) rfl ?_
  refine mr_iconst (v := 3) C0 dX1_dropAll_3 (by decide) ?_
  refine mr_icmp_ge C0 dX1_dropAll_4 (tgt := 23) (by decide) (fun c1 => ?_) (fun c1 => ?_)
  · have h := h.1 c1
    refine mr_iconst (v := 0) C0 dX1_dropAll_23 (by decide) ?_
    refine mr_istore_n (L1 := [some (.ref 7), some (.int x1), some (.int (0 : Int32))]) C0 dX1_dropAll_24 rfl (Nat.le_of_ble_eq_true rfl) rfl ?_
    exact h zp0 zl0 ze0 zs0 zm0 zargs0 zbelow0 zmeth0 zc0 zD0 zad0 zac0 C0 hr0 hk0
  · have h := h.2 c1
    refine mr_aload_n C0 dX1_dropAll_7 rfl (i := 0) rfl ?_
    refine mr_getR C0 dX1_dropAll_8 fl_X1_11 (Nat.le_of_ble_eq_true rfl) rfl rfl ?_
    refine mr_iload_n C0 dX1_dropAll_11 rfl (i := 2) rfl ?_
    have g2 := h.1
    have h := h.2
    refine mr_aald (d := 1) C0 dX1_dropAll_12 (Nat.le_of_ble_eq_true rfl) rfl g2 (pw_el 9 g2) ?_
    refine mr_iconst (v := 0) C0 dX1_dropAll_13 (by decide) ?_
    refine mr_callSV C0 mdJ7_fill_53178 dX1_dropAll_14 clJ7_fill_53178 ml_X1_37 arJ7_fill_53178 (as := [.ref (9 + x2.toNatClampNeg), .int (0 : Int32)]) rfl (Nat.le_of_ble_eq_true rfl) (Nat.le_of_ble_eq_true rfl) (Nat.le_of_ble_eq_true rfl) fit0 h (fun S3 h => ?_)
    refine mr_iinc (v := (x2 + 1)) (L1 := [some (.ref 7), some (.int x1), some (.int (x2 + 1))]) C0 dX1_dropAll_17 rfl rfl (Nat.le_of_ble_eq_true rfl) rfl ?_
    refine mr_goto C0 dX1_dropAll_20 (tgt := 2) (by decide) ?_
    exact h zp0 zl0 ze0 zs0 zm0 zargs0 zbelow0 zmeth0 zc0 zD0 zad0 zac0 C0 hr0 hk0
set_option maxRecDepth 100000 in
set_option maxHeartbeats 4000000 in
theorem eX1_dropAll_25 (x1 : Int32) (x2 : Int32) (S : St) (Q : St → Prop) (h : (((S.1 4 2) ≤ x2 → V mdX1_dropAll 73 [some (.ref 7), some (.int x1), some (.int (0 : Int32))] [] S (qV Q)) ∧ (¬ (S.1 4 2) ≤ x2 → (vp_in x2 8) ∧ (vp_in (S.1 5 x2.toNatClampNeg) 3) ∧ (vp_in x2 8) ∧ (vp_in (S.1 6 x2.toNatClampNeg) 36) ∧ (vp_in (S.1 6 x2.toNatClampNeg) 36) ∧ V mdX1_dropAll 25 [some (.ref 7), some (.int x1), some (.int (x2 + 1))] [] (sI S (9 + (S.1 5 x2.toNatClampNeg).toNatClampNeg) ((S.1 6 x2.toNatClampNeg).toNatClampNeg) ((S.1 (9 + (S.1 5 x2.toNatClampNeg).toNatClampNeg) ((S.1 6 x2.toNatClampNeg).toNatClampNeg)) + (32768 : Int32))) (qV Q)))) : V mdX1_dropAll 25 [some (.ref 7), some (.int x1), some (.int x2)] [] S (qV Q) := by
  intro zp0 zl0 ze0 zs0 zm0 zargs0 zbelow0 zmeth0 zc0 zD0 zad0 zac0 C0 hr0 hk0
  refine mr_iload_n C0 dX1_dropAll_25 rfl (i := 2) rfl ?_
  refine mr_aload_n C0 dX1_dropAll_26 rfl (i := 0) rfl ?_
  refine mr_getR C0 dX1_dropAll_27 fl_X1_33 (Nat.le_of_ble_eq_true rfl) rfl rfl ?_
  refine mr_getI C0 dX1_dropAll_30 fl_X1_48 (Nat.le_of_ble_eq_true rfl) rfl rfl ?_
  refine mr_icmp_ge C0 dX1_dropAll_33 (tgt := 71) (by decide) (fun c1 => ?_) (fun c1 => ?_)
  · have h := h.1 c1
    refine mr_iconst (v := 0) C0 dX1_dropAll_71 (by decide) ?_
    refine mr_istore_n (L1 := [some (.ref 7), some (.int x1), some (.int (0 : Int32))]) C0 dX1_dropAll_72 rfl (Nat.le_of_ble_eq_true rfl) rfl ?_
    exact h zp0 zl0 ze0 zs0 zm0 zargs0 zbelow0 zmeth0 zc0 zD0 zad0 zac0 C0 hr0 hk0
  · have h := h.2 c1
    refine mr_aload_n C0 dX1_dropAll_36 rfl (i := 0) rfl ?_
    refine mr_getR C0 dX1_dropAll_37 fl_X1_11 (Nat.le_of_ble_eq_true rfl) rfl rfl ?_
    refine mr_aload_n C0 dX1_dropAll_40 rfl (i := 0) rfl ?_
    refine mr_getR C0 dX1_dropAll_41 fl_X1_33 (Nat.le_of_ble_eq_true rfl) rfl rfl ?_
    refine mr_getR C0 dX1_dropAll_44 fl_X1_54 (Nat.le_of_ble_eq_true rfl) rfl rfl ?_
    refine mr_iload_n C0 dX1_dropAll_47 rfl (i := 2) rfl ?_
    have g2 := h.1
    have h := h.2
    refine mr_iald C0 dX1_dropAll_48 (Nat.le_of_ble_eq_true rfl) rfl g2 ?_
    have g3 := h.1
    have h := h.2
    refine mr_aald (d := 1) C0 dX1_dropAll_49 (Nat.le_of_ble_eq_true rfl) rfl g3 (pw_el 9 g3) ?_
    refine mr_aload_n C0 dX1_dropAll_50 rfl (i := 0) rfl ?_
    refine mr_getR C0 dX1_dropAll_51 fl_X1_33 (Nat.le_of_ble_eq_true rfl) rfl rfl ?_
    refine mr_getR C0 dX1_dropAll_54 fl_X1_57 (Nat.le_of_ble_eq_true rfl) rfl rfl ?_
    refine mr_iload_n C0 dX1_dropAll_57 rfl (i := 2) rfl ?_
    have g4 := h.1
    have h := h.2
    refine mr_iald C0 dX1_dropAll_58 (Nat.le_of_ble_eq_true rfl) rfl g4 ?_
    refine mr_dup2 C0 dX1_dropAll_59 rfl rfl ?_
    have g5 := h.1
    have h := h.2
    refine mr_iald C0 dX1_dropAll_60 (pa_lt (pa_in g3)) (pa_lay (pa_in g3)) g5 ?_
    refine mr_ldc C0 dX1_dropAll_61 cn_X1_43 ?_
    refine mr_iadd C0 dX1_dropAll_63 ?_
    have g6 := h.1
    have h := h.2
    refine mr_iast C0 dX1_dropAll_64 (pa_lt (pa_in g3)) (pa_lay (pa_in g3)) g6 ?_
    refine mr_iinc (v := (x2 + 1)) (L1 := [some (.ref 7), some (.int x1), some (.int (x2 + 1))]) C0 dX1_dropAll_65 rfl rfl (Nat.le_of_ble_eq_true rfl) rfl ?_
    refine mr_goto C0 dX1_dropAll_68 (tgt := 25) (by decide) ?_
    exact h zp0 zl0 ze0 zs0 zm0 zargs0 zbelow0 zmeth0 zc0 zD0 zad0 zac0 C0 hr0 hk0
set_option maxRecDepth 100000 in
set_option maxHeartbeats 4000000 in
theorem eX1_dropAll_73 (x1 : Int32) (x2 : Int32) (S : St) (Q : St → Prop) (h : (((3 : Int32) ≤ x2 → Q S) ∧ (¬ (3 : Int32) ≤ x2 → CallV mdX1_runDown [.ref 7, .int x2, .int x1] S (qV fun S2 => V mdX1_dropAll 73 [some (.ref 7), some (.int x1), some (.int (x2 + 1))] [] S2 (qV Q))))) : V mdX1_dropAll 73 [some (.ref 7), some (.int x1), some (.int x2)] [] S (qV Q) := by
  intro zp0 zl0 ze0 zs0 zm0 zargs0 zbelow0 zmeth0 zc0 zD0 zad0 zac0 C0 hr0 hk0
  refine mr_iload_n C0 dX1_dropAll_73 rfl (i := 2) rfl ?_
  refine mr_iconst (v := 3) C0 dX1_dropAll_74 (by decide) ?_
  refine mr_icmp_ge C0 dX1_dropAll_75 (tgt := 90) (by decide) (fun c1 => ?_) (fun c1 => ?_)
  · have h := h.1 c1
    refine mr_vret C0 hr0 hk0 dX1_dropAll_90 (qV_mk ?_)
    exact h
  · have h := h.2 c1
    refine mr_aload_n C0 dX1_dropAll_78 rfl (i := 0) rfl ?_
    refine mr_iload_n C0 dX1_dropAll_79 rfl (i := 2) rfl ?_
    refine mr_iload_n C0 dX1_dropAll_80 rfl (i := 1) rfl ?_
    refine mr_callVV C0 mdX1_runDown dX1_dropAll_81 clX1_runDown ml_X1_44 (Nat.le_of_ble_eq_true rfl) rfl rfl arX1_runDown (as := [.int x2, .int x1]) rfl (Nat.le_of_ble_eq_true rfl) (Nat.le_of_ble_eq_true rfl) (Nat.le_of_ble_eq_true rfl) fit0 h (fun S2 h => ?_)
    refine mr_iinc (v := (x2 + 1)) (L1 := [some (.ref 7), some (.int x1), some (.int (x2 + 1))]) C0 dX1_dropAll_84 rfl rfl (Nat.le_of_ble_eq_true rfl) rfl ?_
    refine mr_goto C0 dX1_dropAll_87 (tgt := 73) (by decide) ?_
    exact h zp0 zl0 ze0 zs0 zm0 zargs0 zbelow0 zmeth0 zc0 zD0 zad0 zac0 C0 hr0 hk0
set_option maxRecDepth 100000 in
set_option maxHeartbeats 4000000 in
theorem eX1_runDown (x1 : Int32) (x2 : Int32) (S : St) (Q : St → Prop) (h : (vp_in x1 3) ∧ V mdX1_runDown 10 [some (.ref 7), some (.int x1), some (.int x2), some (.ref (9 + x1.toNatClampNeg)), some (.int (0 : Int32)), none, none, none] [] S (qV Q)) : CallV mdX1_runDown [.ref 7, .int x1, .int x2] S (qV Q) := by
  refine CallV_of mdX1_runDown plX1_runDown 5 (Nat.le_of_ble_eq_true rfl) rfl ?_
  intro zp0 zl0 ze0 zs0 zm0 zargs0 zbelow0 zmeth0 zc0 zD0 zad0 zac0 C0 hr0 hk0
  refine mr_aload_n C0 dX1_runDown_0 rfl (i := 0) rfl ?_
  refine mr_getR C0 dX1_runDown_1 fl_X1_11 (Nat.le_of_ble_eq_true rfl) rfl rfl ?_
  refine mr_iload_n C0 dX1_runDown_4 rfl (i := 1) rfl ?_
  have g1 := h.1
  have h := h.2
  refine mr_aald (d := 1) C0 dX1_runDown_5 (Nat.le_of_ble_eq_true rfl) rfl g1 (pw_el 9 g1) ?_
  refine mr_astore_n (L1 := [some (.ref 7), some (.int x1), some (.int x2), some (.ref (9 + x1.toNatClampNeg)), none, none, none, none]) C0 dX1_runDown_6 rfl (Nat.le_of_ble_eq_true rfl) rfl ?_
  refine mr_iconst (v := 0) C0 dX1_runDown_7 (by decide) ?_
  refine mr_istore (L1 := [some (.ref 7), some (.int x1), some (.int x2), some (.ref (9 + x1.toNatClampNeg)), some (.int (0 : Int32)), none, none, none]) C0 dX1_runDown_8 (Nat.le_of_ble_eq_true rfl) rfl ?_
  exact h zp0 zl0 ze0 zs0 zm0 zargs0 zbelow0 zmeth0 zc0 zD0 zad0 zac0 C0 hr0 hk0
set_option maxRecDepth 100000 in
set_option maxHeartbeats 4000000 in
theorem eX1_runDown_10 (x1 : Int32) (x2 : Int32) {p3 : Nat} (hp3 : isPa p3) (x4 : Int32) (S : St) (Q : St → Prop) (h : ((((S.1 1 2) * (S.1 1 3)) ≤ x4 → Q S) ∧ (¬ ((S.1 1 2) * (S.1 1 3)) ≤ x4 → (vp_in x4 30) ∧ (vp_in x4 36) ∧ (((S.1 p3 x4.toNatClampNeg) = 0 → V mdX1_runDown 10 [some (.ref 7), some (.int x1), some (.int x2), some (.ref p3), some (.int (x4 + 1)), none, none, none] [] S (qV Q)) ∧ (¬ (S.1 p3 x4.toNatClampNeg) = 0 → ((¬ (S.1 2 x4.toNatClampNeg) = (4 : Int32) → (vp_in x4 36) ∧ CallV mdX2_partsLeft [.ref 1, .int (S.1 2 x4.toNatClampNeg), .int x1] S (qI fun r8 S7 => (vp_in x4 36) ∧ CallV mdX2_partsRight [.ref 1, .int (S.1 2 x4.toNatClampNeg), .int x1] S7 (qI fun r11 S10 => CallV mdX2_belowLeft [.ref 1, .int x4] S10 (qI fun r13 S12 => (vp_in r13 36) ∧ (vp_in r13 36) ∧ CallV mdX2_belowRight [.ref 1, .int x4] (sI S12 p3 r13.toNatClampNeg ((S12.1 p3 r13.toNatClampNeg) + (((S.1 p3 x4.toNatClampNeg) / (8 : Int32)) * r8))) (qI fun r17 S16 => (vp_in r17 36) ∧ (vp_in r17 36) ∧ (vp_in (x4 + ((sI S16 p3 r17.toNatClampNeg ((S16.1 p3 r17.toNatClampNeg) + (((S7.1 p3 x4.toNatClampNeg) / (8 : Int32)) * r11))).1 1 3)) 36) ∧ (vp_in x4 36) ∧ (vp_in (x4 + ((sI S16 p3 r17.toNatClampNeg ((S16.1 p3 r17.toNatClampNeg) + (((S7.1 p3 x4.toNatClampNeg) / (8 : Int32)) * r11))).1 1 3)) 36) ∧ V mdX1_runDown 10 [some (.ref 7), some (.int x1), some (.int x2), some (.ref p3), some (.int (x4 + 1)), none, none, none] [] (sI (sI S16 p3 r17.toNatClampNeg ((S16.1 p3 r17.toNatClampNeg) + (((S7.1 p3 x4.toNatClampNeg) / (8 : Int32)) * r11))) p3 ((x4 + ((sI S16 p3 r17.toNatClampNeg ((S16.1 p3 r17.toNatClampNeg) + (((S7.1 p3 x4.toNatClampNeg) / (8 : Int32)) * r11))).1 1 3)).toNatClampNeg) (((sI S16 p3 r17.toNatClampNeg ((S16.1 p3 r17.toNatClampNeg) + (((S7.1 p3 x4.toNatClampNeg) / (8 : Int32)) * r11))).1 p3 ((x4 + ((sI S16 p3 r17.toNatClampNeg ((S16.1 p3 r17.toNatClampNeg) + (((S7.1 p3 x4.toNatClampNeg) / (8 : Int32)) * r11))).1 1 3)).toNatClampNeg)) + ((((sI S16 p3 r17.toNatClampNeg ((S16.1 p3 r17.toNatClampNeg) + (((S7.1 p3 x4.toNatClampNeg) / (8 : Int32)) * r11))).1 p3 x4.toNatClampNeg) - (((S.1 p3 x4.toNatClampNeg) / (8 : Int32)) * r8)) - (((S7.1 p3 x4.toNatClampNeg) / (8 : Int32)) * r11)))) (qV Q)))))) ∧ ((S.1 2 x4.toNatClampNeg) = (4 : Int32) → ((x2 = 0 → (vp_in x4 36) ∧ CallV mdX2_partsLeft [.ref 1, .int (S.1 2 x4.toNatClampNeg), .int x1] S (qI fun r26 S25 => (vp_in x4 36) ∧ CallV mdX2_partsRight [.ref 1, .int (S.1 2 x4.toNatClampNeg), .int x1] S25 (qI fun r29 S28 => CallV mdX2_belowLeft [.ref 1, .int x4] S28 (qI fun r31 S30 => (vp_in r31 36) ∧ (vp_in r31 36) ∧ CallV mdX2_belowRight [.ref 1, .int x4] (sI S30 p3 r31.toNatClampNeg ((S30.1 p3 r31.toNatClampNeg) + (((S.1 p3 x4.toNatClampNeg) / (8 : Int32)) * r26))) (qI fun r35 S34 => (vp_in r35 36) ∧ (vp_in r35 36) ∧ (vp_in (x4 + ((sI S34 p3 r35.toNatClampNeg ((S34.1 p3 r35.toNatClampNeg) + (((S25.1 p3 x4.toNatClampNeg) / (8 : Int32)) * r29))).1 1 3)) 36) ∧ (vp_in x4 36) ∧ (vp_in (x4 + ((sI S34 p3 r35.toNatClampNeg ((S34.1 p3 r35.toNatClampNeg) + (((S25.1 p3 x4.toNatClampNeg) / (8 : Int32)) * r29))).1 1 3)) 36) ∧ V mdX1_runDown 10 [some (.ref 7), some (.int x1), some (.int x2), some (.ref p3), some (.int (x4 + 1)), none, none, none] [] (sI (sI S34 p3 r35.toNatClampNeg ((S34.1 p3 r35.toNatClampNeg) + (((S25.1 p3 x4.toNatClampNeg) / (8 : Int32)) * r29))) p3 ((x4 + ((sI S34 p3 r35.toNatClampNeg ((S34.1 p3 r35.toNatClampNeg) + (((S25.1 p3 x4.toNatClampNeg) / (8 : Int32)) * r29))).1 1 3)).toNatClampNeg) (((sI S34 p3 r35.toNatClampNeg ((S34.1 p3 r35.toNatClampNeg) + (((S25.1 p3 x4.toNatClampNeg) / (8 : Int32)) * r29))).1 p3 ((x4 + ((sI S34 p3 r35.toNatClampNeg ((S34.1 p3 r35.toNatClampNeg) + (((S25.1 p3 x4.toNatClampNeg) / (8 : Int32)) * r29))).1 1 3)).toNatClampNeg)) + ((((sI S34 p3 r35.toNatClampNeg ((S34.1 p3 r35.toNatClampNeg) + (((S25.1 p3 x4.toNatClampNeg) / (8 : Int32)) * r29))).1 p3 x4.toNatClampNeg) - (((S.1 p3 x4.toNatClampNeg) / (8 : Int32)) * r26)) - (((S25.1 p3 x4.toNatClampNeg) / (8 : Int32)) * r29)))) (qV Q)))))) ∧ (¬ x2 = 0 → V mdX1_runDown 10 [some (.ref 7), some (.int x1), some (.int x2), some (.ref p3), some (.int (x4 + 1)), none, none, none] [] S (qV Q)))))))))) : V mdX1_runDown 10 [some (.ref 7), some (.int x1), some (.int x2), some (.ref p3), some (.int x4), none, none, none] [] S (qV Q) := by
  intro zp0 zl0 ze0 zs0 zm0 zargs0 zbelow0 zmeth0 zc0 zD0 zad0 zac0 C0 hr0 hk0
  refine mr_iload C0 dX1_runDown_10 rfl ?_
  refine mr_aload_n C0 dX1_runDown_12 rfl (i := 0) rfl ?_
  refine mr_getR C0 dX1_runDown_13 fl_X1_29 (Nat.le_of_ble_eq_true rfl) rfl rfl ?_
  refine mr_callVI C0 mdX2_cells dX1_runDown_16 clX2_cells ml_X1_60 (Nat.le_of_ble_eq_true rfl) rfl rfl arX2_cells (as := []) rfl (Nat.le_of_ble_eq_true rfl) (Nat.le_of_ble_eq_true rfl) (Nat.le_of_ble_eq_true rfl) fit0 (CallV_of mdX2_cells plX2_cells 0 (Nat.le_of_ble_eq_true rfl) rfl ?_) (fun _ _ h => h)
  intro zp1 zl1 ze1 zs1 zm1 zargs1 zbelow1 zmeth1 zc1 zD1 zad1 zac1 C1 hr1 hk1
  refine mr_aload_n C1 dX2_cells_0 rfl (i := 0) rfl ?_
  refine mr_getI C1 dX2_cells_1 fl_X2_18 (Nat.le_of_ble_eq_true rfl) rfl rfl ?_
  refine mr_aload_n C1 dX2_cells_4 rfl (i := 0) rfl ?_
  refine mr_getI C1 dX2_cells_5 fl_X2_22 (Nat.le_of_ble_eq_true rfl) rfl rfl ?_
  refine mr_imul C1 dX2_cells_8 ?_
  refine mr_iret C1 hr1 hk1 dX2_cells_9 (qI_mk ?_)
  refine mr_icmp_ge C0 dX1_runDown_19 (tgt := 157) (by decide) (fun c1 => ?_) (fun c1 => ?_)
  · have h := h.1 c1
    refine mr_vret C0 hr0 hk0 dX1_runDown_157 (qV_mk ?_)
    exact h
  · have h := h.2 c1
    refine mr_aload_n C0 dX1_runDown_22 rfl (i := 0) rfl ?_
    refine mr_getR C0 dX1_runDown_23 fl_X1_29 (Nat.le_of_ble_eq_true rfl) rfl rfl ?_
    refine mr_getR C0 dX1_runDown_26 fl_X1_66 (Nat.le_of_ble_eq_true rfl) rfl rfl ?_
    refine mr_iload C0 dX1_runDown_29 rfl ?_
    have g2 := h.1
    have h := h.2
    refine mr_iald C0 dX1_runDown_31 (Nat.le_of_ble_eq_true rfl) rfl g2 ?_
    refine mr_istore (L1 := [some (.ref 7), some (.int x1), some (.int x2), some (.ref p3), some (.int x4), some (.int (S.1 2 x4.toNatClampNeg)), none, none]) C0 dX1_runDown_32 (Nat.le_of_ble_eq_true rfl) rfl ?_
    refine mr_aload_n C0 dX1_runDown_34 rfl (i := 3) rfl ?_
    refine mr_iload C0 dX1_runDown_35 rfl ?_
    have g3 := h.1
    have h := h.2
    refine mr_iald C0 dX1_runDown_37 (pa_lt hp3) (pa_lay hp3) g3 ?_
    refine mr_if_eq C0 dX1_runDown_38 (tgt := 151) (by decide) (fun c4 => ?_) (fun c4 => ?_)
    · have h := h.1 c4
      refine mr_iinc (v := (x4 + 1)) (L1 := [some (.ref 7), some (.int x1), some (.int x2), some (.ref p3), some (.int (x4 + 1)), some (.int (S.1 2 x4.toNatClampNeg)), none, none]) C0 dX1_runDown_151 rfl rfl (Nat.le_of_ble_eq_true rfl) rfl ?_
      refine mr_goto C0 dX1_runDown_154 (tgt := 10) (by decide) ?_
      refine mr_mask (L1 := [some (.ref 7), some (.int x1), some (.int x2), some (.ref p3), some (.int (x4 + 1)), none, none, none]) C0 [true, true, true, true, true, false, false, false] rfl ?_
      exact h zp0 zl0 ze0 zs0 zm0 zargs0 zbelow0 zmeth0 zc0 zD0 zad0 zac0 C0 hr0 hk0
    · have h := h.2 c4
      refine mr_iload C0 dX1_runDown_41 rfl ?_
      refine mr_iconst (v := 4) C0 dX1_runDown_43 (by decide) ?_
      refine mr_icmp_ne C0 dX1_runDown_44 (tgt := 54) (by decide) (fun c5 => ?_) (fun c5 => ?_)
      · have h := h.1 c5
        refine mr_aload_n C0 dX1_runDown_54 rfl (i := 3) rfl ?_
        refine mr_iload C0 dX1_runDown_55 rfl ?_
        have g6 := h.1
        have h := h.2
        refine mr_iald C0 dX1_runDown_57 (pa_lt hp3) (pa_lay hp3) g6 ?_
        refine mr_bipush (v := 8) C0 dX1_runDown_58 (by decide) ?_
        refine mr_idiv C0 dX1_runDown_60 (by decide) ?_
        refine mr_aload_n C0 dX1_runDown_61 rfl (i := 0) rfl ?_
        refine mr_getR C0 dX1_runDown_62 fl_X1_29 (Nat.le_of_ble_eq_true rfl) rfl rfl ?_
        refine mr_iload C0 dX1_runDown_65 rfl ?_
        refine mr_iload_n C0 dX1_runDown_67 rfl (i := 1) rfl ?_
        refine mr_callVI C0 mdX2_partsLeft dX1_runDown_68 clX2_partsLeft ml_X1_69 (Nat.le_of_ble_eq_true rfl) rfl rfl arX2_partsLeft (as := [.int (S.1 2 x4.toNatClampNeg), .int x1]) rfl (Nat.le_of_ble_eq_true rfl) (Nat.le_of_ble_eq_true rfl) (Nat.le_of_ble_eq_true rfl) fit0 h (fun r8 S7 h => ?_)
        refine mr_imul C0 dX1_runDown_71 ?_
        refine mr_istore (L1 := [some (.ref 7), some (.int x1), some (.int x2), some (.ref p3), some (.int x4), some (.int (S.1 2 x4.toNatClampNeg)), some (.int (((S.1 p3 x4.toNatClampNeg) / (8 : Int32)) * r8)), none]) C0 dX1_runDown_72 (Nat.le_of_ble_eq_true rfl) rfl ?_
        refine mr_aload_n C0 dX1_runDown_74 rfl (i := 3) rfl ?_
        refine mr_iload C0 dX1_runDown_75 rfl ?_
        have g9 := h.1
        have h := h.2
        refine mr_iald C0 dX1_runDown_77 (pa_lt hp3) (pa_lay hp3) g9 ?_
        refine mr_bipush (v := 8) C0 dX1_runDown_78 (by decide) ?_
        refine mr_idiv C0 dX1_runDown_80 (by decide) ?_
        refine mr_aload_n C0 dX1_runDown_81 rfl (i := 0) rfl ?_
        refine mr_getR C0 dX1_runDown_82 fl_X1_29 (Nat.le_of_ble_eq_true rfl) rfl rfl ?_
        refine mr_iload C0 dX1_runDown_85 rfl ?_
        refine mr_iload_n C0 dX1_runDown_87 rfl (i := 1) rfl ?_
        refine mr_callVI C0 mdX2_partsRight dX1_runDown_88 clX2_partsRight ml_X1_73 (Nat.le_of_ble_eq_true rfl) rfl rfl arX2_partsRight (as := [.int (S.1 2 x4.toNatClampNeg), .int x1]) rfl (Nat.le_of_ble_eq_true rfl) (Nat.le_of_ble_eq_true rfl) (Nat.le_of_ble_eq_true rfl) fit0 h (fun r11 S10 h => ?_)
        refine mr_imul C0 dX1_runDown_91 ?_
        refine mr_istore (L1 := [some (.ref 7), some (.int x1), some (.int x2), some (.ref p3), some (.int x4), some (.int (S.1 2 x4.toNatClampNeg)), some (.int (((S.1 p3 x4.toNatClampNeg) / (8 : Int32)) * r8)), some (.int (((S7.1 p3 x4.toNatClampNeg) / (8 : Int32)) * r11))]) C0 dX1_runDown_92 (Nat.le_of_ble_eq_true rfl) rfl ?_
        refine mr_aload_n C0 dX1_runDown_94 rfl (i := 3) rfl ?_
        refine mr_aload_n C0 dX1_runDown_95 rfl (i := 0) rfl ?_
        refine mr_getR C0 dX1_runDown_96 fl_X1_29 (Nat.le_of_ble_eq_true rfl) rfl rfl ?_
        refine mr_iload C0 dX1_runDown_99 rfl ?_
        refine mr_callVI C0 mdX2_belowLeft dX1_runDown_101 clX2_belowLeft ml_X1_76 (Nat.le_of_ble_eq_true rfl) rfl rfl arX2_belowLeft (as := [.int x4]) rfl (Nat.le_of_ble_eq_true rfl) (Nat.le_of_ble_eq_true rfl) (Nat.le_of_ble_eq_true rfl) fit0 h (fun r13 S12 h => ?_)
        refine mr_dup2 C0 dX1_runDown_104 rfl rfl ?_
        have g14 := h.1
        have h := h.2
        refine mr_iald C0 dX1_runDown_105 (pa_lt hp3) (pa_lay hp3) g14 ?_
        refine mr_iload C0 dX1_runDown_106 rfl ?_
        refine mr_iadd C0 dX1_runDown_108 ?_
        have g15 := h.1
        have h := h.2
        refine mr_iast C0 dX1_runDown_109 (pa_lt hp3) (pa_lay hp3) g15 ?_
        refine mr_aload_n C0 dX1_runDown_110 rfl (i := 3) rfl ?_
        refine mr_aload_n C0 dX1_runDown_111 rfl (i := 0) rfl ?_
        refine mr_getR C0 dX1_runDown_112 fl_X1_29 (Nat.le_of_ble_eq_true rfl) rfl rfl ?_
        refine mr_iload C0 dX1_runDown_115 rfl ?_
        refine mr_callVI C0 mdX2_belowRight dX1_runDown_117 clX2_belowRight ml_X1_80 (Nat.le_of_ble_eq_true rfl) rfl rfl arX2_belowRight (as := [.int x4]) rfl (Nat.le_of_ble_eq_true rfl) (Nat.le_of_ble_eq_true rfl) (Nat.le_of_ble_eq_true rfl) fit0 h (fun r17 S16 h => ?_)
        refine mr_dup2 C0 dX1_runDown_120 rfl rfl ?_
        have g18 := h.1
        have h := h.2
        refine mr_iald C0 dX1_runDown_121 (pa_lt hp3) (pa_lay hp3) g18 ?_
        refine mr_iload C0 dX1_runDown_122 rfl ?_
        refine mr_iadd C0 dX1_runDown_124 ?_
        have g19 := h.1
        have h := h.2
        refine mr_iast C0 dX1_runDown_125 (pa_lt hp3) (pa_lay hp3) g19 ?_
        refine mr_aload_n C0 dX1_runDown_126 rfl (i := 3) rfl ?_
        refine mr_iload C0 dX1_runDown_127 rfl ?_
        refine mr_aload_n C0 dX1_runDown_129 rfl (i := 0) rfl ?_
        refine mr_getR C0 dX1_runDown_130 fl_X1_29 (Nat.le_of_ble_eq_true rfl) rfl rfl ?_
        refine mr_getI C0 dX1_runDown_133 fl_X1_83 (Nat.le_of_ble_eq_true rfl) rfl rfl ?_
        refine mr_iadd C0 dX1_runDown_136 ?_
        refine mr_dup2 C0 dX1_runDown_137 rfl rfl ?_
        have g20 := h.1
        have h := h.2
        refine mr_iald C0 dX1_runDown_138 (pa_lt hp3) (pa_lay hp3) g20 ?_
        refine mr_aload_n C0 dX1_runDown_139 rfl (i := 3) rfl ?_
        refine mr_iload C0 dX1_runDown_140 rfl ?_
        have g21 := h.1
        have h := h.2
        refine mr_iald C0 dX1_runDown_142 (pa_lt hp3) (pa_lay hp3) g21 ?_
        refine mr_iload C0 dX1_runDown_143 rfl ?_
        refine mr_isub C0 dX1_runDown_145 ?_
        refine mr_iload C0 dX1_runDown_146 rfl ?_
        refine mr_isub C0 dX1_runDown_148 ?_
        refine mr_iadd C0 dX1_runDown_149 ?_
        have g22 := h.1
        have h := h.2
        refine mr_iast C0 dX1_runDown_150 (pa_lt hp3) (pa_lay hp3) g22 ?_
        refine mr_iinc (v := (x4 + 1)) (L1 := [some (.ref 7), some (.int x1), some (.int x2), some (.ref p3), some (.int (x4 + 1)), some (.int (S.1 2 x4.toNatClampNeg)), some (.int (((S.1 p3 x4.toNatClampNeg) / (8 : Int32)) * r8)), some (.int (((S7.1 p3 x4.toNatClampNeg) / (8 : Int32)) * r11))]) C0 dX1_runDown_151 rfl rfl (Nat.le_of_ble_eq_true rfl) rfl ?_
        refine mr_goto C0 dX1_runDown_154 (tgt := 10) (by decide) ?_
        refine mr_mask (L1 := [some (.ref 7), some (.int x1), some (.int x2), some (.ref p3), some (.int (x4 + 1)), none, none, none]) C0 [true, true, true, true, true, false, false, false] rfl ?_
        exact h zp0 zl0 ze0 zs0 zm0 zargs0 zbelow0 zmeth0 zc0 zD0 zad0 zac0 C0 hr0 hk0
      · have h := h.2 c5
        refine mr_iload_n C0 dX1_runDown_47 rfl (i := 2) rfl ?_
        refine mr_if_eq C0 dX1_runDown_48 (tgt := 54) (by decide) (fun c23 => ?_) (fun c23 => ?_)
        · have h := h.1 c23
          refine mr_aload_n C0 dX1_runDown_54 rfl (i := 3) rfl ?_
          refine mr_iload C0 dX1_runDown_55 rfl ?_
          have g24 := h.1
          have h := h.2
          refine mr_iald C0 dX1_runDown_57 (pa_lt hp3) (pa_lay hp3) g24 ?_
          refine mr_bipush (v := 8) C0 dX1_runDown_58 (by decide) ?_
          refine mr_idiv C0 dX1_runDown_60 (by decide) ?_
          refine mr_aload_n C0 dX1_runDown_61 rfl (i := 0) rfl ?_
          refine mr_getR C0 dX1_runDown_62 fl_X1_29 (Nat.le_of_ble_eq_true rfl) rfl rfl ?_
          refine mr_iload C0 dX1_runDown_65 rfl ?_
          refine mr_iload_n C0 dX1_runDown_67 rfl (i := 1) rfl ?_
          refine mr_callVI C0 mdX2_partsLeft dX1_runDown_68 clX2_partsLeft ml_X1_69 (Nat.le_of_ble_eq_true rfl) rfl rfl arX2_partsLeft (as := [.int (S.1 2 x4.toNatClampNeg), .int x1]) rfl (Nat.le_of_ble_eq_true rfl) (Nat.le_of_ble_eq_true rfl) (Nat.le_of_ble_eq_true rfl) fit0 h (fun r26 S25 h => ?_)
          refine mr_imul C0 dX1_runDown_71 ?_
          refine mr_istore (L1 := [some (.ref 7), some (.int x1), some (.int x2), some (.ref p3), some (.int x4), some (.int (S.1 2 x4.toNatClampNeg)), some (.int (((S.1 p3 x4.toNatClampNeg) / (8 : Int32)) * r26)), none]) C0 dX1_runDown_72 (Nat.le_of_ble_eq_true rfl) rfl ?_
          refine mr_aload_n C0 dX1_runDown_74 rfl (i := 3) rfl ?_
          refine mr_iload C0 dX1_runDown_75 rfl ?_
          have g27 := h.1
          have h := h.2
          refine mr_iald C0 dX1_runDown_77 (pa_lt hp3) (pa_lay hp3) g27 ?_
          refine mr_bipush (v := 8) C0 dX1_runDown_78 (by decide) ?_
          refine mr_idiv C0 dX1_runDown_80 (by decide) ?_
          refine mr_aload_n C0 dX1_runDown_81 rfl (i := 0) rfl ?_
          refine mr_getR C0 dX1_runDown_82 fl_X1_29 (Nat.le_of_ble_eq_true rfl) rfl rfl ?_
          refine mr_iload C0 dX1_runDown_85 rfl ?_
          refine mr_iload_n C0 dX1_runDown_87 rfl (i := 1) rfl ?_
          refine mr_callVI C0 mdX2_partsRight dX1_runDown_88 clX2_partsRight ml_X1_73 (Nat.le_of_ble_eq_true rfl) rfl rfl arX2_partsRight (as := [.int (S.1 2 x4.toNatClampNeg), .int x1]) rfl (Nat.le_of_ble_eq_true rfl) (Nat.le_of_ble_eq_true rfl) (Nat.le_of_ble_eq_true rfl) fit0 h (fun r29 S28 h => ?_)
          refine mr_imul C0 dX1_runDown_91 ?_
          refine mr_istore (L1 := [some (.ref 7), some (.int x1), some (.int x2), some (.ref p3), some (.int x4), some (.int (S.1 2 x4.toNatClampNeg)), some (.int (((S.1 p3 x4.toNatClampNeg) / (8 : Int32)) * r26)), some (.int (((S25.1 p3 x4.toNatClampNeg) / (8 : Int32)) * r29))]) C0 dX1_runDown_92 (Nat.le_of_ble_eq_true rfl) rfl ?_
          refine mr_aload_n C0 dX1_runDown_94 rfl (i := 3) rfl ?_
          refine mr_aload_n C0 dX1_runDown_95 rfl (i := 0) rfl ?_
          refine mr_getR C0 dX1_runDown_96 fl_X1_29 (Nat.le_of_ble_eq_true rfl) rfl rfl ?_
          refine mr_iload C0 dX1_runDown_99 rfl ?_
          refine mr_callVI C0 mdX2_belowLeft dX1_runDown_101 clX2_belowLeft ml_X1_76 (Nat.le_of_ble_eq_true rfl) rfl rfl arX2_belowLeft (as := [.int x4]) rfl (Nat.le_of_ble_eq_true rfl) (Nat.le_of_ble_eq_true rfl) (Nat.le_of_ble_eq_true rfl) fit0 h (fun r31 S30 h => ?_)
          refine mr_dup2 C0 dX1_runDown_104 rfl rfl ?_
          have g32 := h.1
          have h := h.2
          refine mr_iald C0 dX1_runDown_105 (pa_lt hp3) (pa_lay hp3) g32 ?_
          refine mr_iload C0 dX1_runDown_106 rfl ?_
          refine mr_iadd C0 dX1_runDown_108 ?_
          have g33 := h.1
          have h := h.2
          refine mr_iast C0 dX1_runDown_109 (pa_lt hp3) (pa_lay hp3) g33 ?_
          refine mr_aload_n C0 dX1_runDown_110 rfl (i := 3) rfl ?_
          refine mr_aload_n C0 dX1_runDown_111 rfl (i := 0) rfl ?_
          refine mr_getR C0 dX1_runDown_112 fl_X1_29 (Nat.le_of_ble_eq_true rfl) rfl rfl ?_
          refine mr_iload C0 dX1_runDown_115 rfl ?_
          refine mr_callVI C0 mdX2_belowRight dX1_runDown_117 clX2_belowRight ml_X1_80 (Nat.le_of_ble_eq_true rfl) rfl rfl arX2_belowRight (as := [.int x4]) rfl (Nat.le_of_ble_eq_true rfl) (Nat.le_of_ble_eq_true rfl) (Nat.le_of_ble_eq_true rfl) fit0 h (fun r35 S34 h => ?_)
          refine mr_dup2 C0 dX1_runDown_120 rfl rfl ?_
          have g36 := h.1
          have h := h.2
          refine mr_iald C0 dX1_runDown_121 (pa_lt hp3) (pa_lay hp3) g36 ?_
          refine mr_iload C0 dX1_runDown_122 rfl ?_
          refine mr_iadd C0 dX1_runDown_124 ?_
          have g37 := h.1
          have h := h.2
          refine mr_iast C0 dX1_runDown_125 (pa_lt hp3) (pa_lay hp3) g37 ?_
          refine mr_aload_n C0 dX1_runDown_126 rfl (i := 3) rfl ?_
          refine mr_iload C0 dX1_runDown_127 rfl ?_
          refine mr_aload_n C0 dX1_runDown_129 rfl (i := 0) rfl ?_
          refine mr_getR C0 dX1_runDown_130 fl_X1_29 (Nat.le_of_ble_eq_true rfl) rfl rfl ?_
          refine mr_getI C0 dX1_runDown_133 fl_X1_83 (Nat.le_of_ble_eq_true rfl) rfl rfl ?_
          refine mr_iadd C0 dX1_runDown_136 ?_
          refine mr_dup2 C0 dX1_runDown_137 rfl rfl ?_
          have g38 := h.1
          have h := h.2
          refine mr_iald C0 dX1_runDown_138 (pa_lt hp3) (pa_lay hp3) g38 ?_
          refine mr_aload_n C0 dX1_runDown_139 rfl (i := 3) rfl ?_
          refine mr_iload C0 dX1_runDown_140 rfl ?_
          have g39 := h.1
          have h := h.2
          refine mr_iald C0 dX1_runDown_142 (pa_lt hp3) (pa_lay hp3) g39 ?_
          refine mr_iload C0 dX1_runDown_143 rfl ?_
          refine mr_isub C0 dX1_runDown_145 ?_
          refine mr_iload C0 dX1_runDown_146 rfl ?_
          refine mr_isub C0 dX1_runDown_148 ?_
          refine mr_iadd C0 dX1_runDown_149 ?_
          have g40 := h.1
          have h := h.2
          refine mr_iast C0 dX1_runDown_150 (pa_lt hp3) (pa_lay hp3) g40 ?_
          refine mr_iinc (v := (x4 + 1)) (L1 := [some (.ref 7), some (.int x1), some (.int x2), some (.ref p3), some (.int (x4 + 1)), some (.int (S.1 2 x4.toNatClampNeg)), some (.int (((S.1 p3 x4.toNatClampNeg) / (8 : Int32)) * r26)), some (.int (((S25.1 p3 x4.toNatClampNeg) / (8 : Int32)) * r29))]) C0 dX1_runDown_151 rfl rfl (Nat.le_of_ble_eq_true rfl) rfl ?_
          refine mr_goto C0 dX1_runDown_154 (tgt := 10) (by decide) ?_
          refine mr_mask (L1 := [some (.ref 7), some (.int x1), some (.int x2), some (.ref p3), some (.int (x4 + 1)), none, none, none]) C0 [true, true, true, true, true, false, false, false] rfl ?_
          exact h zp0 zl0 ze0 zs0 zm0 zargs0 zbelow0 zmeth0 zc0 zD0 zad0 zac0 C0 hr0 hk0
        · have h := h.2 c23
          refine mr_goto C0 dX1_runDown_51 (tgt := 151) (by decide) ?_
          refine mr_iinc (v := (x4 + 1)) (L1 := [some (.ref 7), some (.int x1), some (.int x2), some (.ref p3), some (.int (x4 + 1)), some (.int (S.1 2 x4.toNatClampNeg)), none, none]) C0 dX1_runDown_151 rfl rfl (Nat.le_of_ble_eq_true rfl) rfl ?_
          refine mr_goto C0 dX1_runDown_154 (tgt := 10) (by decide) ?_
          refine mr_mask (L1 := [some (.ref 7), some (.int x1), some (.int x2), some (.ref p3), some (.int (x4 + 1)), none, none, none]) C0 [true, true, true, true, true, false, false, false] rfl ?_
          exact h zp0 zl0 ze0 zs0 zm0 zargs0 zbelow0 zmeth0 zc0 zD0 zad0 zac0 C0 hr0 hk0
set_option maxRecDepth 100000 in
set_option maxHeartbeats 4000000 in
theorem eX1_arrived (x1 : Int32) (x2 : Int32) (S : St) (Q : Int32 → St → Prop) (h : (vp_in x1 3) ∧ (vp_in (((S.1 1 2) * (S.1 1 3)) + x2) 36) ∧ Q (S.1 (9 + x1.toNatClampNeg) ((((S.1 1 2) * (S.1 1 3)) + x2).toNatClampNeg)) S) : CallV mdX1_arrived [.ref 7, .int x1, .int x2] S (qI Q) := by
  refine CallV_of mdX1_arrived plX1_arrived 0 (Nat.le_of_ble_eq_true rfl) rfl ?_
  intro zp0 zl0 ze0 zs0 zm0 zargs0 zbelow0 zmeth0 zc0 zD0 zad0 zac0 C0 hr0 hk0
  refine mr_aload_n C0 dX1_arrived_0 rfl (i := 0) rfl ?_
  refine mr_getR C0 dX1_arrived_1 fl_X1_11 (Nat.le_of_ble_eq_true rfl) rfl rfl ?_
  refine mr_iload_n C0 dX1_arrived_4 rfl (i := 1) rfl ?_
  have g1 := h.1
  have h := h.2
  refine mr_aald (d := 1) C0 dX1_arrived_5 (Nat.le_of_ble_eq_true rfl) rfl g1 (pw_el 9 g1) ?_
  refine mr_aload_n C0 dX1_arrived_6 rfl (i := 0) rfl ?_
  refine mr_getR C0 dX1_arrived_7 fl_X1_29 (Nat.le_of_ble_eq_true rfl) rfl rfl ?_
  refine mr_callVI C0 mdX2_cells dX1_arrived_10 clX2_cells ml_X1_60 (Nat.le_of_ble_eq_true rfl) rfl rfl arX2_cells (as := []) rfl (Nat.le_of_ble_eq_true rfl) (Nat.le_of_ble_eq_true rfl) (Nat.le_of_ble_eq_true rfl) fit0 (CallV_of mdX2_cells plX2_cells 0 (Nat.le_of_ble_eq_true rfl) rfl ?_) (fun _ _ h => h)
  intro zp1 zl1 ze1 zs1 zm1 zargs1 zbelow1 zmeth1 zc1 zD1 zad1 zac1 C1 hr1 hk1
  refine mr_aload_n C1 dX2_cells_0 rfl (i := 0) rfl ?_
  refine mr_getI C1 dX2_cells_1 fl_X2_18 (Nat.le_of_ble_eq_true rfl) rfl rfl ?_
  refine mr_aload_n C1 dX2_cells_4 rfl (i := 0) rfl ?_
  refine mr_getI C1 dX2_cells_5 fl_X2_22 (Nat.le_of_ble_eq_true rfl) rfl rfl ?_
  refine mr_imul C1 dX2_cells_8 ?_
  refine mr_iret C1 hr1 hk1 dX2_cells_9 (qI_mk ?_)
  refine mr_iload_n C0 dX1_arrived_13 rfl (i := 2) rfl ?_
  refine mr_iadd C0 dX1_arrived_14 ?_
  have g2 := h.1
  have h := h.2
  refine mr_iald C0 dX1_arrived_15 (pa_lt (pa_in g1)) (pa_lay (pa_in g1)) g2 ?_
  refine mr_iret C0 hr0 hk0 dX1_arrived_16 (qI_mk ?_)
  exact h
set_option maxRecDepth 100000 in
set_option maxHeartbeats 4000000 in
theorem eX1_stuck (x1 : Int32) (S : St) (Q : Int32 → St → Prop) (h : V mdX1_stuck 5 [some (.ref 7), some (.int x1), some (.int (32768 : Int32)), some (.int (0 : Int32))] [] S (qI Q)) : CallV mdX1_stuck [.ref 7, .int x1] S (qI Q) := by
  refine CallV_of mdX1_stuck plX1_stuck 2 (Nat.le_of_ble_eq_true rfl) rfl ?_
  intro zp0 zl0 ze0 zs0 zm0 zargs0 zbelow0 zmeth0 zc0 zD0 zad0 zac0 C0 hr0 hk0
  refine mr_ldc C0 dX1_stuck_0 cn_X1_43 ?_
  refine mr_istore_n (L1 := [some (.ref 7), some (.int x1), some (.int (32768 : Int32)), none]) C0 dX1_stuck_2 rfl (Nat.le_of_ble_eq_true rfl) rfl ?_
  refine mr_iconst (v := 0) C0 dX1_stuck_3 (by decide) ?_
  refine mr_istore_n (L1 := [some (.ref 7), some (.int x1), some (.int (32768 : Int32)), some (.int (0 : Int32))]) C0 dX1_stuck_4 rfl (Nat.le_of_ble_eq_true rfl) rfl ?_
  exact h zp0 zl0 ze0 zs0 zm0 zargs0 zbelow0 zmeth0 zc0 zD0 zad0 zac0 C0 hr0 hk0
set_option maxRecDepth 100000 in
set_option maxHeartbeats 4000000 in
theorem eX1_stuck_5 (x1 : Int32) (x2 : Int32) (x3 : Int32) (S : St) (Q : Int32 → St → Prop) (h : (((S.1 1 3) ≤ x3 → Q x2 S) ∧ (¬ (S.1 1 3) ≤ x3 → CallV mdX1_arrived [.ref 7, .int x1, .int x3] S (qI fun r3 S2 => V mdX1_stuck 5 [some (.ref 7), some (.int x1), some (.int (x2 - r3)), some (.int (x3 + 1))] [] S2 (qI Q))))) : V mdX1_stuck 5 [some (.ref 7), some (.int x1), some (.int x2), some (.int x3)] [] S (qI Q) := by
  intro zp0 zl0 ze0 zs0 zm0 zargs0 zbelow0 zmeth0 zc0 zD0 zad0 zac0 C0 hr0 hk0
  refine mr_iload_n C0 dX1_stuck_5 rfl (i := 3) rfl ?_
  refine mr_aload_n C0 dX1_stuck_6 rfl (i := 0) rfl ?_
  refine mr_getR C0 dX1_stuck_7 fl_X1_29 (Nat.le_of_ble_eq_true rfl) rfl rfl ?_
  refine mr_getI C0 dX1_stuck_10 fl_X1_83 (Nat.le_of_ble_eq_true rfl) rfl rfl ?_
  refine mr_icmp_ge C0 dX1_stuck_13 (tgt := 31) (by decide) (fun c1 => ?_) (fun c1 => ?_)
  · have h := h.1 c1
    refine mr_iload_n C0 dX1_stuck_31 rfl (i := 2) rfl ?_
    refine mr_iret C0 hr0 hk0 dX1_stuck_32 (qI_mk ?_)
    exact h
  · have h := h.2 c1
    refine mr_iload_n C0 dX1_stuck_16 rfl (i := 2) rfl ?_
    refine mr_aload_n C0 dX1_stuck_17 rfl (i := 0) rfl ?_
    refine mr_iload_n C0 dX1_stuck_18 rfl (i := 1) rfl ?_
    refine mr_iload_n C0 dX1_stuck_19 rfl (i := 3) rfl ?_
    refine mr_callVI C0 mdX1_arrived dX1_stuck_20 clX1_arrived ml_X1_86 (Nat.le_of_ble_eq_true rfl) rfl rfl arX1_arrived (as := [.int x1, .int x3]) rfl (Nat.le_of_ble_eq_true rfl) (Nat.le_of_ble_eq_true rfl) (Nat.le_of_ble_eq_true rfl) fit0 h (fun r3 S2 h => ?_)
    refine mr_isub C0 dX1_stuck_23 ?_
    refine mr_istore_n (L1 := [some (.ref 7), some (.int x1), some (.int (x2 - r3)), some (.int x3)]) C0 dX1_stuck_24 rfl (Nat.le_of_ble_eq_true rfl) rfl ?_
    refine mr_iinc (v := (x3 + 1)) (L1 := [some (.ref 7), some (.int x1), some (.int (x2 - r3)), some (.int (x3 + 1))]) C0 dX1_stuck_25 rfl rfl (Nat.le_of_ble_eq_true rfl) rfl ?_
    refine mr_goto C0 dX1_stuck_28 (tgt := 5) (by decide) ?_
    exact h zp0 zl0 ze0 zs0 zm0 zargs0 zbelow0 zmeth0 zc0 zD0 zad0 zac0 C0 hr0 hk0
set_option maxRecDepth 100000 in
set_option maxHeartbeats 4000000 in
theorem eX1_appraiseAll (x1 : Int32) (S : St) (Q : St → Prop) (h : V mdX1_appraiseAll 2 [some (.ref 7), some (.int x1), some (.int (0 : Int32))] [] S (qV Q)) : CallV mdX1_appraiseAll [.ref 7, .int x1] S (qV Q) := by
  refine CallV_of mdX1_appraiseAll plX1_appraiseAll 1 (Nat.le_of_ble_eq_true rfl) rfl ?_
  intro zp0 zl0 ze0 zs0 zm0 zargs0 zbelow0 zmeth0 zc0 zD0 zad0 zac0 C0 hr0 hk0
  refine mr_iconst (v := 0) C0 dX1_appraiseAll_0 (by decide) ?_
  refine mr_istore_n (L1 := [some (.ref 7), some (.int x1), some (.int (0 : Int32))]) C0 dX1_appraiseAll_1 rfl (Nat.le_of_ble_eq_true rfl) rfl ?_
  exact h zp0 zl0 ze0 zs0 zm0 zargs0 zbelow0 zmeth0 zc0 zD0 zad0 zac0 C0 hr0 hk0
set_option maxRecDepth 100000 in
set_option maxHeartbeats 4000000 in
theorem eX1_appraiseAll_2 (x1 : Int32) (x2 : Int32) (S : St) (Q : St → Prop) (h : (((3 : Int32) ≤ x2 → Q S) ∧ (¬ (3 : Int32) ≤ x2 → CallV mdX1_appraise [.ref 7, .int x2, .int x1] S (qV fun S2 => V mdX1_appraiseAll 2 [some (.ref 7), some (.int x1), some (.int (x2 + 1))] [] S2 (qV Q))))) : V mdX1_appraiseAll 2 [some (.ref 7), some (.int x1), some (.int x2)] [] S (qV Q) := by
  intro zp0 zl0 ze0 zs0 zm0 zargs0 zbelow0 zmeth0 zc0 zD0 zad0 zac0 C0 hr0 hk0
  refine mr_iload_n C0 dX1_appraiseAll_2 rfl (i := 2) rfl ?_
  refine mr_iconst (v := 3) C0 dX1_appraiseAll_3 (by decide) ?_
  refine mr_icmp_ge C0 dX1_appraiseAll_4 (tgt := 19) (by decide) (fun c1 => ?_) (fun c1 => ?_)
  · have h := h.1 c1
    refine mr_vret C0 hr0 hk0 dX1_appraiseAll_19 (qV_mk ?_)
    exact h
  · have h := h.2 c1
    refine mr_aload_n C0 dX1_appraiseAll_7 rfl (i := 0) rfl ?_
    refine mr_iload_n C0 dX1_appraiseAll_8 rfl (i := 2) rfl ?_
    refine mr_iload_n C0 dX1_appraiseAll_9 rfl (i := 1) rfl ?_
    refine mr_callVV C0 mdX1_appraise dX1_appraiseAll_10 clX1_appraise ml_X1_89 (Nat.le_of_ble_eq_true rfl) rfl rfl arX1_appraise (as := [.int x2, .int x1]) rfl (Nat.le_of_ble_eq_true rfl) (Nat.le_of_ble_eq_true rfl) (Nat.le_of_ble_eq_true rfl) fit0 h (fun S2 h => ?_)
    refine mr_iinc (v := (x2 + 1)) (L1 := [some (.ref 7), some (.int x1), some (.int (x2 + 1))]) C0 dX1_appraiseAll_13 rfl rfl (Nat.le_of_ble_eq_true rfl) rfl ?_
    refine mr_goto C0 dX1_appraiseAll_16 (tgt := 2) (by decide) ?_
    exact h zp0 zl0 ze0 zs0 zm0 zargs0 zbelow0 zmeth0 zc0 zD0 zad0 zac0 C0 hr0 hk0
set_option maxRecDepth 100000 in
set_option maxHeartbeats 4000000 in
theorem eX1_appraise (x1 : Int32) (x2 : Int32) (S : St) (Q : St → Prop) (h : V mdX1_appraise 11 [some (.ref 7), some (.int x1), some (.int x2), some (.int ((S.1 1 2) * (S.1 1 3))), some (.int (0 : Int32))] [] S (qV Q)) : CallV mdX1_appraise [.ref 7, .int x1, .int x2] S (qV Q) := by
  refine CallV_of mdX1_appraise plX1_appraise 2 (Nat.le_of_ble_eq_true rfl) rfl ?_
  intro zp0 zl0 ze0 zs0 zm0 zargs0 zbelow0 zmeth0 zc0 zD0 zad0 zac0 C0 hr0 hk0
  refine mr_aload_n C0 dX1_appraise_0 rfl (i := 0) rfl ?_
  refine mr_getR C0 dX1_appraise_1 fl_X1_29 (Nat.le_of_ble_eq_true rfl) rfl rfl ?_
  refine mr_callVI C0 mdX2_cells dX1_appraise_4 clX2_cells ml_X1_60 (Nat.le_of_ble_eq_true rfl) rfl rfl arX2_cells (as := []) rfl (Nat.le_of_ble_eq_true rfl) (Nat.le_of_ble_eq_true rfl) (Nat.le_of_ble_eq_true rfl) fit0 (CallV_of mdX2_cells plX2_cells 0 (Nat.le_of_ble_eq_true rfl) rfl ?_) (fun _ _ h => h)
  intro zp1 zl1 ze1 zs1 zm1 zargs1 zbelow1 zmeth1 zc1 zD1 zad1 zac1 C1 hr1 hk1
  refine mr_aload_n C1 dX2_cells_0 rfl (i := 0) rfl ?_
  refine mr_getI C1 dX2_cells_1 fl_X2_18 (Nat.le_of_ble_eq_true rfl) rfl rfl ?_
  refine mr_aload_n C1 dX2_cells_4 rfl (i := 0) rfl ?_
  refine mr_getI C1 dX2_cells_5 fl_X2_22 (Nat.le_of_ble_eq_true rfl) rfl rfl ?_
  refine mr_imul C1 dX2_cells_8 ?_
  refine mr_iret C1 hr1 hk1 dX2_cells_9 (qI_mk ?_)
  refine mr_istore_n (L1 := [some (.ref 7), some (.int x1), some (.int x2), some (.int ((S.1 1 2) * (S.1 1 3))), none]) C0 dX1_appraise_7 rfl (Nat.le_of_ble_eq_true rfl) rfl ?_
  refine mr_iconst (v := 0) C0 dX1_appraise_8 (by decide) ?_
  refine mr_istore (L1 := [some (.ref 7), some (.int x1), some (.int x2), some (.int ((S.1 1 2) * (S.1 1 3))), some (.int (0 : Int32))]) C0 dX1_appraise_9 (Nat.le_of_ble_eq_true rfl) rfl ?_
  exact h zp0 zl0 ze0 zs0 zm0 zargs0 zbelow0 zmeth0 zc0 zD0 zad0 zac0 C0 hr0 hk0
set_option maxRecDepth 100000 in
set_option maxHeartbeats 4000000 in
theorem eX1_appraise_11 (x1 : Int32) (x2 : Int32) (x3 : Int32) (x4 : Int32) (S : St) (Q : St → Prop) (h : (((S.1 1 3) ≤ x4 → V mdX1_appraise 65 [some (.ref 7), some (.int x1), none, none, some (.int (x3 - (1 : Int32)))] [] S (qV Q)) ∧ (¬ (S.1 1 3) ≤ x4 → (vp_in x1 3) ∧ (vp_in x4 6) ∧ ((¬ (S.1 3 x4.toNatClampNeg) = x2 → (vp_in (x3 + x4) 36) ∧ V mdX1_appraise 11 [some (.ref 7), some (.int x1), some (.int x2), some (.int x3), some (.int (x4 + 1))] [] (sI S (13 + x1.toNatClampNeg) ((x3 + x4).toNatClampNeg) (0 : Int32)) (qV Q)) ∧ ((S.1 3 x4.toNatClampNeg) = x2 → (vp_in (x3 + x4) 36) ∧ V mdX1_appraise 11 [some (.ref 7), some (.int x1), some (.int x2), some (.int x3), some (.int (x4 + 1))] [] (sI S (13 + x1.toNatClampNeg) ((x3 + x4).toNatClampNeg) (32768 : Int32)) (qV Q)))))) : V mdX1_appraise 11 [some (.ref 7), some (.int x1), some (.int x2), some (.int x3), some (.int x4)] [] S (qV Q) := by
  intro zp0 zl0 ze0 zs0 zm0 zargs0 zbelow0 zmeth0 zc0 zD0 zad0 zac0 C0 hr0 hk0
  refine mr_iload C0 dX1_appraise_11 rfl ?_
  refine mr_aload_n C0 dX1_appraise_13 rfl (i := 0) rfl ?_
  refine mr_getR C0 dX1_appraise_14 fl_X1_29 (Nat.le_of_ble_eq_true rfl) rfl rfl ?_
  refine mr_getI C0 dX1_appraise_17 fl_X1_83 (Nat.le_of_ble_eq_true rfl) rfl rfl ?_
  refine mr_icmp_ge C0 dX1_appraise_20 (tgt := 60) (by decide) (fun c1 => ?_) (fun c1 => ?_)
  · have h := h.1 c1
    refine mr_iload_n C0 dX1_appraise_60 rfl (i := 3) rfl ?_
    refine mr_iconst (v := 1) C0 dX1_appraise_61 (by decide) ?_
    refine mr_isub C0 dX1_appraise_62 ?_
    refine mr_istore (L1 := [some (.ref 7), some (.int x1), some (.int x2), some (.int x3), some (.int (x3 - (1 : Int32)))]) C0 dX1_appraise_63 (Nat.le_of_ble_eq_true rfl) rfl ?_
    refine mr_mask (L1 := [some (.ref 7), some (.int x1), none, none, some (.int (x3 - (1 : Int32)))]) C0 [true, true, false, false, true] rfl ?_
    exact h zp0 zl0 ze0 zs0 zm0 zargs0 zbelow0 zmeth0 zc0 zD0 zad0 zac0 C0 hr0 hk0
  · have h := h.2 c1
    refine mr_aload_n C0 dX1_appraise_23 rfl (i := 0) rfl ?_
    refine mr_getR C0 dX1_appraise_24 fl_X1_16 (Nat.le_of_ble_eq_true rfl) rfl rfl ?_
    refine mr_iload_n C0 dX1_appraise_27 rfl (i := 1) rfl ?_
    have g2 := h.1
    have h := h.2
    refine mr_aald (d := 1) C0 dX1_appraise_28 (Nat.le_of_ble_eq_true rfl) rfl g2 (pw_el 13 g2) ?_
    refine mr_iload_n C0 dX1_appraise_29 rfl (i := 3) rfl ?_
    refine mr_iload C0 dX1_appraise_30 rfl ?_
    refine mr_iadd C0 dX1_appraise_32 ?_
    refine mr_aload_n C0 dX1_appraise_33 rfl (i := 0) rfl ?_
    refine mr_getR C0 dX1_appraise_34 fl_X1_29 (Nat.le_of_ble_eq_true rfl) rfl rfl ?_
    refine mr_getR C0 dX1_appraise_37 fl_X1_93 (Nat.le_of_ble_eq_true rfl) rfl rfl ?_
    refine mr_iload C0 dX1_appraise_40 rfl ?_
    have g3 := h.1
    have h := h.2
    refine mr_iald C0 dX1_appraise_42 (Nat.le_of_ble_eq_true rfl) rfl g3 ?_
    refine mr_iload_n C0 dX1_appraise_43 rfl (i := 2) rfl ?_
    refine mr_icmp_ne C0 dX1_appraise_44 (tgt := 52) (by decide) (fun c4 => ?_) (fun c4 => ?_)
    · have h := h.1 c4
      refine mr_iconst (v := 0) C0 dX1_appraise_52 (by decide) ?_
      have g5 := h.1
      have h := h.2
      refine mr_iast C0 dX1_appraise_53 (wo_lt (wo_in g2)) (wo_lay (wo_in g2)) g5 ?_
      refine mr_iinc (v := (x4 + 1)) (L1 := [some (.ref 7), some (.int x1), some (.int x2), some (.int x3), some (.int (x4 + 1))]) C0 dX1_appraise_54 rfl rfl (Nat.le_of_ble_eq_true rfl) rfl ?_
      refine mr_goto C0 dX1_appraise_57 (tgt := 11) (by decide) ?_
      exact h zp0 zl0 ze0 zs0 zm0 zargs0 zbelow0 zmeth0 zc0 zD0 zad0 zac0 C0 hr0 hk0
    · have h := h.2 c4
      refine mr_ldc C0 dX1_appraise_47 cn_X1_43 ?_
      refine mr_goto C0 dX1_appraise_49 (tgt := 53) (by decide) ?_
      have g6 := h.1
      have h := h.2
      refine mr_iast C0 dX1_appraise_53 (wo_lt (wo_in g2)) (wo_lay (wo_in g2)) g6 ?_
      refine mr_iinc (v := (x4 + 1)) (L1 := [some (.ref 7), some (.int x1), some (.int x2), some (.int x3), some (.int (x4 + 1))]) C0 dX1_appraise_54 rfl rfl (Nat.le_of_ble_eq_true rfl) rfl ?_
      refine mr_goto C0 dX1_appraise_57 (tgt := 11) (by decide) ?_
      exact h zp0 zl0 ze0 zs0 zm0 zargs0 zbelow0 zmeth0 zc0 zD0 zad0 zac0 C0 hr0 hk0
set_option maxRecDepth 100000 in
set_option maxHeartbeats 4000000 in
theorem eX1_appraise_65 (x1 : Int32) (x4 : Int32) (S : St) (Q : St → Prop) (h : ((x4 < 0 → Q S) ∧ (¬ x4 < 0 → (vp_in x1 3) ∧ (vp_in x4 30) ∧ CallV mdX1_worthUnder [.ref 7, .int x4, .int (S.1 2 x4.toNatClampNeg), .int x1] S (qI fun r5 S4 => (vp_in x4 36) ∧ V mdX1_appraise 65 [some (.ref 7), some (.int x1), none, none, some (.int (x4 + (-1)))] [] (sI S4 (13 + x1.toNatClampNeg) x4.toNatClampNeg r5) (qV Q))))) : V mdX1_appraise 65 [some (.ref 7), some (.int x1), none, none, some (.int x4)] [] S (qV Q) := by
  intro zp0 zl0 ze0 zs0 zm0 zargs0 zbelow0 zmeth0 zc0 zD0 zad0 zac0 C0 hr0 hk0
  refine mr_iload C0 dX1_appraise_65 rfl ?_
  refine mr_if_lt C0 dX1_appraise_67 (tgt := 102) (by decide) (fun c1 => ?_) (fun c1 => ?_)
  · have h := h.1 c1
    refine mr_vret C0 hr0 hk0 dX1_appraise_102 (qV_mk ?_)
    exact h
  · have h := h.2 c1
    refine mr_aload_n C0 dX1_appraise_70 rfl (i := 0) rfl ?_
    refine mr_getR C0 dX1_appraise_71 fl_X1_16 (Nat.le_of_ble_eq_true rfl) rfl rfl ?_
    refine mr_iload_n C0 dX1_appraise_74 rfl (i := 1) rfl ?_
    have g2 := h.1
    have h := h.2
    refine mr_aald (d := 1) C0 dX1_appraise_75 (Nat.le_of_ble_eq_true rfl) rfl g2 (pw_el 13 g2) ?_
    refine mr_iload C0 dX1_appraise_76 rfl ?_
    refine mr_aload_n C0 dX1_appraise_78 rfl (i := 0) rfl ?_
    refine mr_iload C0 dX1_appraise_79 rfl ?_
    refine mr_aload_n C0 dX1_appraise_81 rfl (i := 0) rfl ?_
    refine mr_getR C0 dX1_appraise_82 fl_X1_29 (Nat.le_of_ble_eq_true rfl) rfl rfl ?_
    refine mr_getR C0 dX1_appraise_85 fl_X1_66 (Nat.le_of_ble_eq_true rfl) rfl rfl ?_
    refine mr_iload C0 dX1_appraise_88 rfl ?_
    have g3 := h.1
    have h := h.2
    refine mr_iald C0 dX1_appraise_90 (Nat.le_of_ble_eq_true rfl) rfl g3 ?_
    refine mr_iload_n C0 dX1_appraise_91 rfl (i := 1) rfl ?_
    refine mr_callVI C0 mdX1_worthUnder dX1_appraise_92 clX1_worthUnder ml_X1_96 (Nat.le_of_ble_eq_true rfl) rfl rfl arX1_worthUnder (as := [.int x4, .int (S.1 2 x4.toNatClampNeg), .int x1]) rfl (Nat.le_of_ble_eq_true rfl) (Nat.le_of_ble_eq_true rfl) (Nat.le_of_ble_eq_true rfl) fit0 h (fun r5 S4 h => ?_)
    have g6 := h.1
    have h := h.2
    refine mr_iast C0 dX1_appraise_95 (wo_lt (wo_in g2)) (wo_lay (wo_in g2)) g6 ?_
    refine mr_iinc (v := (x4 + (-1))) (L1 := [some (.ref 7), some (.int x1), none, none, some (.int (x4 + (-1)))]) C0 dX1_appraise_96 rfl rfl (Nat.le_of_ble_eq_true rfl) rfl ?_
    refine mr_goto C0 dX1_appraise_99 (tgt := 65) (by decide) ?_
    exact h zp0 zl0 ze0 zs0 zm0 zargs0 zbelow0 zmeth0 zc0 zD0 zad0 zac0 C0 hr0 hk0
set_option maxRecDepth 100000 in
set_option maxHeartbeats 4000000 in
theorem eX1_worthUnder (x1 : Int32) (x2 : Int32) (x3 : Int32) (S : St) (Q : Int32 → St → Prop) (h : ((¬ x2 = (4 : Int32) → (vp_in x3 3) ∧ CallV mdX2_partsLeft [.ref 1, .int x2, .int x3] S (qI fun r4 S3 => CallV mdX2_partsRight [.ref 1, .int x2, .int x3] S3 (qI fun r6 S5 => CallV mdX2_belowLeft [.ref 1, .int x1] S5 (qI fun r8 S7 => (vp_in r8 36) ∧ CallV mdX2_belowRight [.ref 1, .int x1] S7 (qI fun r11 S10 => (vp_in r11 36) ∧ (vp_in (x1 + (S10.1 1 3)) 36) ∧ Q ((((r4 * (S7.1 (13 + x3.toNatClampNeg) r8.toNatClampNeg)) + (r6 * (S10.1 (13 + x3.toNatClampNeg) r11.toNatClampNeg))) + ((((8 : Int32) - r4) - r6) * (S10.1 (13 + x3.toNatClampNeg) ((x1 + (S10.1 1 3)).toNatClampNeg)))) / (8 : Int32)) S10))))) ∧ (x2 = (4 : Int32) → Q (0 : Int32) S))) : CallV mdX1_worthUnder [.ref 7, .int x1, .int x2, .int x3] S (qI Q) := by
  refine CallV_of mdX1_worthUnder plX1_worthUnder 4 (Nat.le_of_ble_eq_true rfl) rfl ?_
  intro zp0 zl0 ze0 zs0 zm0 zargs0 zbelow0 zmeth0 zc0 zD0 zad0 zac0 C0 hr0 hk0
  refine mr_iload_n C0 dX1_worthUnder_0 rfl (i := 2) rfl ?_
  refine mr_iconst (v := 4) C0 dX1_worthUnder_1 (by decide) ?_
  refine mr_icmp_ne C0 dX1_worthUnder_2 (tgt := 7) (by decide) (fun c1 => ?_) (fun c1 => ?_)
  · have h := h.1 c1
    refine mr_aload_n C0 dX1_worthUnder_7 rfl (i := 0) rfl ?_
    refine mr_getR C0 dX1_worthUnder_8 fl_X1_16 (Nat.le_of_ble_eq_true rfl) rfl rfl ?_
    refine mr_iload_n C0 dX1_worthUnder_11 rfl (i := 3) rfl ?_
    have g2 := h.1
    have h := h.2
    refine mr_aald (d := 1) C0 dX1_worthUnder_12 (Nat.le_of_ble_eq_true rfl) rfl g2 (pw_el 13 g2) ?_
    refine mr_astore (L1 := [some (.ref 7), some (.int x1), some (.int x2), some (.int x3), some (.ref (13 + x3.toNatClampNeg)), none, none, none]) C0 dX1_worthUnder_13 (Nat.le_of_ble_eq_true rfl) rfl ?_
    refine mr_aload_n C0 dX1_worthUnder_15 rfl (i := 0) rfl ?_
    refine mr_getR C0 dX1_worthUnder_16 fl_X1_29 (Nat.le_of_ble_eq_true rfl) rfl rfl ?_
    refine mr_iload_n C0 dX1_worthUnder_19 rfl (i := 2) rfl ?_
    refine mr_iload_n C0 dX1_worthUnder_20 rfl (i := 3) rfl ?_
    refine mr_callVI C0 mdX2_partsLeft dX1_worthUnder_21 clX2_partsLeft ml_X1_69 (Nat.le_of_ble_eq_true rfl) rfl rfl arX2_partsLeft (as := [.int x2, .int x3]) rfl (Nat.le_of_ble_eq_true rfl) (Nat.le_of_ble_eq_true rfl) (Nat.le_of_ble_eq_true rfl) fit0 h (fun r4 S3 h => ?_)
    refine mr_istore (L1 := [some (.ref 7), some (.int x1), some (.int x2), some (.int x3), some (.ref (13 + x3.toNatClampNeg)), some (.int r4), none, none]) C0 dX1_worthUnder_24 (Nat.le_of_ble_eq_true rfl) rfl ?_
    refine mr_aload_n C0 dX1_worthUnder_26 rfl (i := 0) rfl ?_
    refine mr_getR C0 dX1_worthUnder_27 fl_X1_29 (Nat.le_of_ble_eq_true rfl) rfl rfl ?_
    refine mr_iload_n C0 dX1_worthUnder_30 rfl (i := 2) rfl ?_
    refine mr_iload_n C0 dX1_worthUnder_31 rfl (i := 3) rfl ?_
    refine mr_callVI C0 mdX2_partsRight dX1_worthUnder_32 clX2_partsRight ml_X1_73 (Nat.le_of_ble_eq_true rfl) rfl rfl arX2_partsRight (as := [.int x2, .int x3]) rfl (Nat.le_of_ble_eq_true rfl) (Nat.le_of_ble_eq_true rfl) (Nat.le_of_ble_eq_true rfl) fit0 h (fun r6 S5 h => ?_)
    refine mr_istore (L1 := [some (.ref 7), some (.int x1), some (.int x2), some (.int x3), some (.ref (13 + x3.toNatClampNeg)), some (.int r4), some (.int r6), none]) C0 dX1_worthUnder_35 (Nat.le_of_ble_eq_true rfl) rfl ?_
    refine mr_iload C0 dX1_worthUnder_37 rfl ?_
    refine mr_aload C0 dX1_worthUnder_39 rfl ?_
    refine mr_aload_n C0 dX1_worthUnder_41 rfl (i := 0) rfl ?_
    refine mr_getR C0 dX1_worthUnder_42 fl_X1_29 (Nat.le_of_ble_eq_true rfl) rfl rfl ?_
    refine mr_iload_n C0 dX1_worthUnder_45 rfl (i := 1) rfl ?_
    refine mr_callVI C0 mdX2_belowLeft dX1_worthUnder_46 clX2_belowLeft ml_X1_76 (Nat.le_of_ble_eq_true rfl) rfl rfl arX2_belowLeft (as := [.int x1]) rfl (Nat.le_of_ble_eq_true rfl) (Nat.le_of_ble_eq_true rfl) (Nat.le_of_ble_eq_true rfl) fit0 h (fun r8 S7 h => ?_)
    have g9 := h.1
    have h := h.2
    refine mr_iald C0 dX1_worthUnder_49 (wo_lt (wo_in g2)) (wo_lay (wo_in g2)) g9 ?_
    refine mr_imul C0 dX1_worthUnder_50 ?_
    refine mr_iload C0 dX1_worthUnder_51 rfl ?_
    refine mr_aload C0 dX1_worthUnder_53 rfl ?_
    refine mr_aload_n C0 dX1_worthUnder_55 rfl (i := 0) rfl ?_
    refine mr_getR C0 dX1_worthUnder_56 fl_X1_29 (Nat.le_of_ble_eq_true rfl) rfl rfl ?_
    refine mr_iload_n C0 dX1_worthUnder_59 rfl (i := 1) rfl ?_
    refine mr_callVI C0 mdX2_belowRight dX1_worthUnder_60 clX2_belowRight ml_X1_80 (Nat.le_of_ble_eq_true rfl) rfl rfl arX2_belowRight (as := [.int x1]) rfl (Nat.le_of_ble_eq_true rfl) (Nat.le_of_ble_eq_true rfl) (Nat.le_of_ble_eq_true rfl) fit0 h (fun r11 S10 h => ?_)
    have g12 := h.1
    have h := h.2
    refine mr_iald C0 dX1_worthUnder_63 (wo_lt (wo_in g2)) (wo_lay (wo_in g2)) g12 ?_
    refine mr_imul C0 dX1_worthUnder_64 ?_
    refine mr_iadd C0 dX1_worthUnder_65 ?_
    refine mr_bipush (v := 8) C0 dX1_worthUnder_66 (by decide) ?_
    refine mr_iload C0 dX1_worthUnder_68 rfl ?_
    refine mr_isub C0 dX1_worthUnder_70 ?_
    refine mr_iload C0 dX1_worthUnder_71 rfl ?_
    refine mr_isub C0 dX1_worthUnder_73 ?_
    refine mr_aload C0 dX1_worthUnder_74 rfl ?_
    refine mr_iload_n C0 dX1_worthUnder_76 rfl (i := 1) rfl ?_
    refine mr_aload_n C0 dX1_worthUnder_77 rfl (i := 0) rfl ?_
    refine mr_getR C0 dX1_worthUnder_78 fl_X1_29 (Nat.le_of_ble_eq_true rfl) rfl rfl ?_
    refine mr_getI C0 dX1_worthUnder_81 fl_X1_83 (Nat.le_of_ble_eq_true rfl) rfl rfl ?_
    refine mr_iadd C0 dX1_worthUnder_84 ?_
    have g13 := h.1
    have h := h.2
    refine mr_iald C0 dX1_worthUnder_85 (wo_lt (wo_in g2)) (wo_lay (wo_in g2)) g13 ?_
    refine mr_imul C0 dX1_worthUnder_86 ?_
    refine mr_iadd C0 dX1_worthUnder_87 ?_
    refine mr_istore (L1 := [some (.ref 7), some (.int x1), some (.int x2), some (.int x3), some (.ref (13 + x3.toNatClampNeg)), some (.int r4), some (.int r6), some (.int (((r4 * (S7.1 (13 + x3.toNatClampNeg) r8.toNatClampNeg)) + (r6 * (S10.1 (13 + x3.toNatClampNeg) r11.toNatClampNeg))) + ((((8 : Int32) - r4) - r6) * (S10.1 (13 + x3.toNatClampNeg) ((x1 + (S10.1 1 3)).toNatClampNeg)))))]) C0 dX1_worthUnder_88 (Nat.le_of_ble_eq_true rfl) rfl ?_
    refine mr_iload C0 dX1_worthUnder_90 rfl ?_
    refine mr_bipush (v := 8) C0 dX1_worthUnder_92 (by decide) ?_
    refine mr_idiv C0 dX1_worthUnder_94 (by decide) ?_
    refine mr_iret C0 hr0 hk0 dX1_worthUnder_95 (qI_mk ?_)
    exact h
  · have h := h.2 c1
    refine mr_iconst (v := 0) C0 dX1_worthUnder_5 (by decide) ?_
    refine mr_iret C0 hr0 hk0 dX1_worthUnder_6 (qI_mk ?_)
    exact h
set_option maxRecDepth 100000 in
set_option maxHeartbeats 4000000 in
theorem eX1_expected (x1 : Int32) (S : St) (Q : Int32 → St → Prop) (h : CallV mdX1_appraiseAll [.ref 7, .int x1] S (qV fun S1 => V mdX1_expected 9 [some (.ref 7), none, some (.int (0 : Int32)), some (.int (0 : Int32))] [] S1 (qI Q))) : CallV mdX1_expected [.ref 7, .int x1] S (qI Q) := by
  refine CallV_of mdX1_expected plX1_expected 2 (Nat.le_of_ble_eq_true rfl) rfl ?_
  intro zp0 zl0 ze0 zs0 zm0 zargs0 zbelow0 zmeth0 zc0 zD0 zad0 zac0 C0 hr0 hk0
  refine mr_aload_n C0 dX1_expected_0 rfl (i := 0) rfl ?_
  refine mr_iload_n C0 dX1_expected_1 rfl (i := 1) rfl ?_
  refine mr_callVV C0 mdX1_appraiseAll dX1_expected_2 clX1_appraiseAll ml_X1_100 (Nat.le_of_ble_eq_true rfl) rfl rfl arX1_appraiseAll (as := [.int x1]) rfl (Nat.le_of_ble_eq_true rfl) (Nat.le_of_ble_eq_true rfl) (Nat.le_of_ble_eq_true rfl) fit0 h (fun S1 h => ?_)
  refine mr_iconst (v := 0) C0 dX1_expected_5 (by decide) ?_
  refine mr_istore_n (L1 := [some (.ref 7), some (.int x1), some (.int (0 : Int32)), none]) C0 dX1_expected_6 rfl (Nat.le_of_ble_eq_true rfl) rfl ?_
  refine mr_iconst (v := 0) C0 dX1_expected_7 (by decide) ?_
  refine mr_istore_n (L1 := [some (.ref 7), some (.int x1), some (.int (0 : Int32)), some (.int (0 : Int32))]) C0 dX1_expected_8 rfl (Nat.le_of_ble_eq_true rfl) rfl ?_
  refine mr_mask (L1 := [some (.ref 7), none, some (.int (0 : Int32)), some (.int (0 : Int32))]) C0 [true, false, true, true] rfl ?_
  exact h zp0 zl0 ze0 zs0 zm0 zargs0 zbelow0 zmeth0 zc0 zD0 zad0 zac0 C0 hr0 hk0
set_option maxRecDepth 100000 in
set_option maxHeartbeats 4000000 in
theorem eX1_expected_9 (x2 : Int32) (x3 : Int32) (S : St) (Q : Int32 → St → Prop) (h : (((S.1 4 2) ≤ x3 → Q x2 S) ∧ (¬ (S.1 4 2) ≤ x3 → (vp_in x3 8) ∧ (vp_in (S.1 5 x3.toNatClampNeg) 3) ∧ (vp_in x3 8) ∧ (vp_in (S.1 6 x3.toNatClampNeg) 36) ∧ V mdX1_expected 9 [some (.ref 7), none, some (.int (x2 + (S.1 (13 + (S.1 5 x3.toNatClampNeg).toNatClampNeg) ((S.1 6 x3.toNatClampNeg).toNatClampNeg)))), some (.int (x3 + 1))] [] S (qI Q)))) : V mdX1_expected 9 [some (.ref 7), none, some (.int x2), some (.int x3)] [] S (qI Q) := by
  intro zp0 zl0 ze0 zs0 zm0 zargs0 zbelow0 zmeth0 zc0 zD0 zad0 zac0 C0 hr0 hk0
  refine mr_iload_n C0 dX1_expected_9 rfl (i := 3) rfl ?_
  refine mr_aload_n C0 dX1_expected_10 rfl (i := 0) rfl ?_
  refine mr_getR C0 dX1_expected_11 fl_X1_33 (Nat.le_of_ble_eq_true rfl) rfl rfl ?_
  refine mr_getI C0 dX1_expected_14 fl_X1_48 (Nat.le_of_ble_eq_true rfl) rfl rfl ?_
  refine mr_icmp_ge C0 dX1_expected_17 (tgt := 53) (by decide) (fun c1 => ?_) (fun c1 => ?_)
  · have h := h.1 c1
    refine mr_iload_n C0 dX1_expected_53 rfl (i := 2) rfl ?_
    refine mr_iret C0 hr0 hk0 dX1_expected_54 (qI_mk ?_)
    exact h
  · have h := h.2 c1
    refine mr_iload_n C0 dX1_expected_20 rfl (i := 2) rfl ?_
    refine mr_aload_n C0 dX1_expected_21 rfl (i := 0) rfl ?_
    refine mr_getR C0 dX1_expected_22 fl_X1_16 (Nat.le_of_ble_eq_true rfl) rfl rfl ?_
    refine mr_aload_n C0 dX1_expected_25 rfl (i := 0) rfl ?_
    refine mr_getR C0 dX1_expected_26 fl_X1_33 (Nat.le_of_ble_eq_true rfl) rfl rfl ?_
    refine mr_getR C0 dX1_expected_29 fl_X1_54 (Nat.le_of_ble_eq_true rfl) rfl rfl ?_
    refine mr_iload_n C0 dX1_expected_32 rfl (i := 3) rfl ?_
    have g2 := h.1
    have h := h.2
    refine mr_iald C0 dX1_expected_33 (Nat.le_of_ble_eq_true rfl) rfl g2 ?_
    have g3 := h.1
    have h := h.2
    refine mr_aald (d := 1) C0 dX1_expected_34 (Nat.le_of_ble_eq_true rfl) rfl g3 (pw_el 13 g3) ?_
    refine mr_aload_n C0 dX1_expected_35 rfl (i := 0) rfl ?_
    refine mr_getR C0 dX1_expected_36 fl_X1_33 (Nat.le_of_ble_eq_true rfl) rfl rfl ?_
    refine mr_getR C0 dX1_expected_39 fl_X1_57 (Nat.le_of_ble_eq_true rfl) rfl rfl ?_
    refine mr_iload_n C0 dX1_expected_42 rfl (i := 3) rfl ?_
    have g4 := h.1
    have h := h.2
    refine mr_iald C0 dX1_expected_43 (Nat.le_of_ble_eq_true rfl) rfl g4 ?_
    have g5 := h.1
    have h := h.2
    refine mr_iald C0 dX1_expected_44 (wo_lt (wo_in g3)) (wo_lay (wo_in g3)) g5 ?_
    refine mr_iadd C0 dX1_expected_45 ?_
    refine mr_istore_n (L1 := [some (.ref 7), none, some (.int (x2 + (S.1 (13 + (S.1 5 x3.toNatClampNeg).toNatClampNeg) ((S.1 6 x3.toNatClampNeg).toNatClampNeg)))), some (.int x3)]) C0 dX1_expected_46 rfl (Nat.le_of_ble_eq_true rfl) rfl ?_
    refine mr_iinc (v := (x3 + 1)) (L1 := [some (.ref 7), none, some (.int (x2 + (S.1 (13 + (S.1 5 x3.toNatClampNeg).toNatClampNeg) ((S.1 6 x3.toNatClampNeg).toNatClampNeg)))), some (.int (x3 + 1))]) C0 dX1_expected_47 rfl rfl (Nat.le_of_ble_eq_true rfl) rfl ?_
    refine mr_goto C0 dX1_expected_50 (tgt := 9) (by decide) ?_
    exact h zp0 zl0 ze0 zs0 zm0 zargs0 zbelow0 zmeth0 zc0 zD0 zad0 zac0 C0 hr0 hk0
set_option maxRecDepth 100000 in
set_option maxHeartbeats 4000000 in
theorem eX1_bestStart (x1 : Int32) (x2 : Int32) (S : St) (Q : Int32 → St → Prop) (h : CallV mdX1_appraise [.ref 7, .int x1, .int x2] S (qV fun S1 => V mdX1_bestStart 11 [some (.ref 7), some (.int x1), none, some (.int (0 : Int32)), some (.int (1 : Int32))] [] S1 (qI Q))) : CallV mdX1_bestStart [.ref 7, .int x1, .int x2] S (qI Q) := by
  refine CallV_of mdX1_bestStart plX1_bestStart 2 (Nat.le_of_ble_eq_true rfl) rfl ?_
  intro zp0 zl0 ze0 zs0 zm0 zargs0 zbelow0 zmeth0 zc0 zD0 zad0 zac0 C0 hr0 hk0
  refine mr_aload_n C0 dX1_bestStart_0 rfl (i := 0) rfl ?_
  refine mr_iload_n C0 dX1_bestStart_1 rfl (i := 1) rfl ?_
  refine mr_iload_n C0 dX1_bestStart_2 rfl (i := 2) rfl ?_
  refine mr_callVV C0 mdX1_appraise dX1_bestStart_3 clX1_appraise ml_X1_89 (Nat.le_of_ble_eq_true rfl) rfl rfl arX1_appraise (as := [.int x1, .int x2]) rfl (Nat.le_of_ble_eq_true rfl) (Nat.le_of_ble_eq_true rfl) (Nat.le_of_ble_eq_true rfl) fit0 h (fun S1 h => ?_)
  refine mr_iconst (v := 0) C0 dX1_bestStart_6 (by decide) ?_
  refine mr_istore_n (L1 := [some (.ref 7), some (.int x1), some (.int x2), some (.int (0 : Int32)), none]) C0 dX1_bestStart_7 rfl (Nat.le_of_ble_eq_true rfl) rfl ?_
  refine mr_iconst (v := 1) C0 dX1_bestStart_8 (by decide) ?_
  refine mr_istore (L1 := [some (.ref 7), some (.int x1), some (.int x2), some (.int (0 : Int32)), some (.int (1 : Int32))]) C0 dX1_bestStart_9 (Nat.le_of_ble_eq_true rfl) rfl ?_
  refine mr_mask (L1 := [some (.ref 7), some (.int x1), none, some (.int (0 : Int32)), some (.int (1 : Int32))]) C0 [true, true, false, true, true] rfl ?_
  exact h zp0 zl0 ze0 zs0 zm0 zargs0 zbelow0 zmeth0 zc0 zD0 zad0 zac0 C0 hr0 hk0
set_option maxRecDepth 100000 in
set_option maxHeartbeats 4000000 in
theorem eX1_bestStart_11 (x1 : Int32) (x3 : Int32) (x4 : Int32) (S : St) (Q : Int32 → St → Prop) (h : (((S.1 1 3) ≤ x4 → Q x3 S) ∧ (¬ (S.1 1 3) ≤ x4 → (vp_in x1 3) ∧ (vp_in x4 36) ∧ (vp_in x1 3) ∧ (vp_in x3 36) ∧ (((S.1 (13 + x1.toNatClampNeg) x4.toNatClampNeg) ≤ (S.1 (13 + x1.toNatClampNeg) x3.toNatClampNeg) → V mdX1_bestStart 11 [some (.ref 7), some (.int x1), none, some (.int x3), some (.int (x4 + 1))] [] S (qI Q)) ∧ (¬ (S.1 (13 + x1.toNatClampNeg) x4.toNatClampNeg) ≤ (S.1 (13 + x1.toNatClampNeg) x3.toNatClampNeg) → V mdX1_bestStart 11 [some (.ref 7), some (.int x1), none, some (.int x4), some (.int (x4 + 1))] [] S (qI Q)))))) : V mdX1_bestStart 11 [some (.ref 7), some (.int x1), none, some (.int x3), some (.int x4)] [] S (qI Q) := by
  intro zp0 zl0 ze0 zs0 zm0 zargs0 zbelow0 zmeth0 zc0 zD0 zad0 zac0 C0 hr0 hk0
  refine mr_iload C0 dX1_bestStart_11 rfl ?_
  refine mr_aload_n C0 dX1_bestStart_13 rfl (i := 0) rfl ?_
  refine mr_getR C0 dX1_bestStart_14 fl_X1_29 (Nat.le_of_ble_eq_true rfl) rfl rfl ?_
  refine mr_getI C0 dX1_bestStart_17 fl_X1_83 (Nat.le_of_ble_eq_true rfl) rfl rfl ?_
  refine mr_icmp_ge C0 dX1_bestStart_20 (tgt := 52) (by decide) (fun c1 => ?_) (fun c1 => ?_)
  · have h := h.1 c1
    refine mr_iload_n C0 dX1_bestStart_52 rfl (i := 3) rfl ?_
    refine mr_iret C0 hr0 hk0 dX1_bestStart_53 (qI_mk ?_)
    exact h
  · have h := h.2 c1
    refine mr_aload_n C0 dX1_bestStart_23 rfl (i := 0) rfl ?_
    refine mr_getR C0 dX1_bestStart_24 fl_X1_16 (Nat.le_of_ble_eq_true rfl) rfl rfl ?_
    refine mr_iload_n C0 dX1_bestStart_27 rfl (i := 1) rfl ?_
    have g2 := h.1
    have h := h.2
    refine mr_aald (d := 1) C0 dX1_bestStart_28 (Nat.le_of_ble_eq_true rfl) rfl g2 (pw_el 13 g2) ?_
    refine mr_iload C0 dX1_bestStart_29 rfl ?_
    have g3 := h.1
    have h := h.2
    refine mr_iald C0 dX1_bestStart_31 (wo_lt (wo_in g2)) (wo_lay (wo_in g2)) g3 ?_
    refine mr_aload_n C0 dX1_bestStart_32 rfl (i := 0) rfl ?_
    refine mr_getR C0 dX1_bestStart_33 fl_X1_16 (Nat.le_of_ble_eq_true rfl) rfl rfl ?_
    refine mr_iload_n C0 dX1_bestStart_36 rfl (i := 1) rfl ?_
    have g4 := h.1
    have h := h.2
    refine mr_aald (d := 1) C0 dX1_bestStart_37 (Nat.le_of_ble_eq_true rfl) rfl g4 (pw_el 13 g4) ?_
    refine mr_iload_n C0 dX1_bestStart_38 rfl (i := 3) rfl ?_
    have g5 := h.1
    have h := h.2
    refine mr_iald C0 dX1_bestStart_39 (wo_lt (wo_in g4)) (wo_lay (wo_in g4)) g5 ?_
    refine mr_icmp_le C0 dX1_bestStart_40 (tgt := 46) (by decide) (fun c6 => ?_) (fun c6 => ?_)
    · have h := h.1 c6
      refine mr_iinc (v := (x4 + 1)) (L1 := [some (.ref 7), some (.int x1), none, some (.int x3), some (.int (x4 + 1))]) C0 dX1_bestStart_46 rfl rfl (Nat.le_of_ble_eq_true rfl) rfl ?_
      refine mr_goto C0 dX1_bestStart_49 (tgt := 11) (by decide) ?_
      exact h zp0 zl0 ze0 zs0 zm0 zargs0 zbelow0 zmeth0 zc0 zD0 zad0 zac0 C0 hr0 hk0
    · have h := h.2 c6
      refine mr_iload C0 dX1_bestStart_43 rfl ?_
      refine mr_istore_n (L1 := [some (.ref 7), some (.int x1), none, some (.int x4), some (.int x4)]) C0 dX1_bestStart_45 rfl (Nat.le_of_ble_eq_true rfl) rfl ?_
      refine mr_iinc (v := (x4 + 1)) (L1 := [some (.ref 7), some (.int x1), none, some (.int x4), some (.int (x4 + 1))]) C0 dX1_bestStart_46 rfl rfl (Nat.le_of_ble_eq_true rfl) rfl ?_
      refine mr_goto C0 dX1_bestStart_49 (tgt := 11) (by decide) ?_
      exact h zp0 zl0 ze0 zs0 zm0 zargs0 zbelow0 zmeth0 zc0 zD0 zad0 zac0 C0 hr0 hk0
set_option maxRecDepth 100000 in
set_option maxHeartbeats 4000000 in
theorem eX1_bestMove (x1 : Int32) (S : St) (Q : Int32 → St → Prop) (h : CallV mdX1_dropAll [.ref 7, .int (1 : Int32)] S (qV fun S1 => CallV mdX1_appraiseAll [.ref 7, .int x1] S1 (qV fun S2 => V mdX1_bestMove 19 [some (.ref 7), none, some (.long (0 : Int64)), none, some (.int (-9 : Int32)), some (.int (0 : Int32)), none, none, none] [] S2 (qI Q)))) : CallV mdX1_bestMove [.ref 7, .int x1] S (qI Q) := by
  refine CallV_of mdX1_bestMove plX1_bestMove 7 (Nat.le_of_ble_eq_true rfl) rfl ?_
  intro zp0 zl0 ze0 zs0 zm0 zargs0 zbelow0 zmeth0 zc0 zD0 zad0 zac0 C0 hr0 hk0
  refine mr_aload_n C0 dX1_bestMove_0 rfl (i := 0) rfl ?_
  refine mr_iconst (v := 1) C0 dX1_bestMove_1 (by decide) ?_
  refine mr_callVV C0 mdX1_dropAll dX1_bestMove_2 clX1_dropAll ml_X1_104 (Nat.le_of_ble_eq_true rfl) rfl rfl arX1_dropAll (as := [.int (1 : Int32)]) rfl (Nat.le_of_ble_eq_true rfl) (Nat.le_of_ble_eq_true rfl) (Nat.le_of_ble_eq_true rfl) fit0 h (fun S1 h => ?_)
  refine mr_aload_n C0 dX1_bestMove_5 rfl (i := 0) rfl ?_
  refine mr_iload_n C0 dX1_bestMove_6 rfl (i := 1) rfl ?_
  refine mr_callVV C0 mdX1_appraiseAll dX1_bestMove_7 clX1_appraiseAll ml_X1_100 (Nat.le_of_ble_eq_true rfl) rfl rfl arX1_appraiseAll (as := [.int x1]) rfl (Nat.le_of_ble_eq_true rfl) (Nat.le_of_ble_eq_true rfl) (Nat.le_of_ble_eq_true rfl) fit0 h (fun S2 h => ?_)
  refine mr_lconst (v := 0) C0 dX1_bestMove_10 (by decide) ?_
  refine mr_lstore_n (L1 := [some (.ref 7), some (.int x1), some (.long (0 : Int64)), none, none, none, none, none, none]) C0 dX1_bestMove_11 rfl (Nat.le_of_ble_eq_true rfl) rfl ?_
  refine mr_bipush (v := (-9)) C0 dX1_bestMove_12 (by decide) ?_
  refine mr_istore (L1 := [some (.ref 7), some (.int x1), some (.long (0 : Int64)), none, some (.int (-9 : Int32)), none, none, none, none]) C0 dX1_bestMove_14 (Nat.le_of_ble_eq_true rfl) rfl ?_
  refine mr_iconst (v := 0) C0 dX1_bestMove_16 (by decide) ?_
  refine mr_istore (L1 := [some (.ref 7), some (.int x1), some (.long (0 : Int64)), none, some (.int (-9 : Int32)), some (.int (0 : Int32)), none, none, none]) C0 dX1_bestMove_17 (Nat.le_of_ble_eq_true rfl) rfl ?_
  refine mr_mask (L1 := [some (.ref 7), none, some (.long (0 : Int64)), none, some (.int (-9 : Int32)), some (.int (0 : Int32)), none, none, none]) C0 [true, false, true, false, true, true, false, false, false] rfl ?_
  exact h zp0 zl0 ze0 zs0 zm0 zargs0 zbelow0 zmeth0 zc0 zD0 zad0 zac0 C0 hr0 hk0
set_option maxRecDepth 100000 in
set_option maxHeartbeats 4000000 in
theorem eX1_bestMove_19 (y2 : Int64) (x4 : Int32) (x5 : Int32) (S : St) (Q : Int32 → St → Prop) (h : ((((S.1 1 2) * (S.1 1 3)) ≤ x5 → Q x4 S) ∧ (¬ ((S.1 1 2) * (S.1 1 3)) ≤ x5 → V mdX1_bestMove 34 [some (.ref 7), none, some (.long y2), none, some (.int x4), some (.int x5), some (.int (0 : Int32)), none, none] [] S (qI Q)))) : V mdX1_bestMove 19 [some (.ref 7), none, some (.long y2), none, some (.int x4), some (.int x5), none, none, none] [] S (qI Q) := by
  intro zp0 zl0 ze0 zs0 zm0 zargs0 zbelow0 zmeth0 zc0 zD0 zad0 zac0 C0 hr0 hk0
  refine mr_iload C0 dX1_bestMove_19 rfl ?_
  refine mr_aload_n C0 dX1_bestMove_21 rfl (i := 0) rfl ?_
  refine mr_getR C0 dX1_bestMove_22 fl_X1_29 (Nat.le_of_ble_eq_true rfl) rfl rfl ?_
  refine mr_callVI C0 mdX2_cells dX1_bestMove_25 clX2_cells ml_X1_60 (Nat.le_of_ble_eq_true rfl) rfl rfl arX2_cells (as := []) rfl (Nat.le_of_ble_eq_true rfl) (Nat.le_of_ble_eq_true rfl) (Nat.le_of_ble_eq_true rfl) fit0 (CallV_of mdX2_cells plX2_cells 0 (Nat.le_of_ble_eq_true rfl) rfl ?_) (fun _ _ h => h)
  intro zp1 zl1 ze1 zs1 zm1 zargs1 zbelow1 zmeth1 zc1 zD1 zad1 zac1 C1 hr1 hk1
  refine mr_aload_n C1 dX2_cells_0 rfl (i := 0) rfl ?_
  refine mr_getI C1 dX2_cells_1 fl_X2_18 (Nat.le_of_ble_eq_true rfl) rfl rfl ?_
  refine mr_aload_n C1 dX2_cells_4 rfl (i := 0) rfl ?_
  refine mr_getI C1 dX2_cells_5 fl_X2_22 (Nat.le_of_ble_eq_true rfl) rfl rfl ?_
  refine mr_imul C1 dX2_cells_8 ?_
  refine mr_iret C1 hr1 hk1 dX2_cells_9 (qI_mk ?_)
  refine mr_icmp_ge C0 dX1_bestMove_28 (tgt := 82) (by decide) (fun c1 => ?_) (fun c1 => ?_)
  · have h := h.1 c1
    refine mr_iload C0 dX1_bestMove_82 rfl ?_
    refine mr_iret C0 hr0 hk0 dX1_bestMove_84 (qI_mk ?_)
    exact h
  · have h := h.2 c1
    refine mr_iconst (v := 0) C0 dX1_bestMove_31 (by decide) ?_
    refine mr_istore (L1 := [some (.ref 7), none, some (.long y2), none, some (.int x4), some (.int x5), some (.int (0 : Int32)), none, none]) C0 dX1_bestMove_32 (Nat.le_of_ble_eq_true rfl) rfl ?_
    exact h zp0 zl0 ze0 zs0 zm0 zargs0 zbelow0 zmeth0 zc0 zD0 zad0 zac0 C0 hr0 hk0
set_option maxRecDepth 100000 in
set_option maxHeartbeats 4000000 in
theorem eX1_bestMove_34 (y2 : Int64) (x4 : Int32) (x5 : Int32) (x6 : Int32) (S : St) (Q : Int32 → St → Prop) (h : (((5 : Int32) ≤ x6 → V mdX1_bestMove 19 [some (.ref 7), none, some (.long y2), none, some (.int x4), some (.int (x5 + 1)), none, none, none] [] S (qI Q)) ∧ (¬ (5 : Int32) ≤ x6 → CallV mdX1_gain [.ref 7, .int x5, .int x6] S (qJ fun r3 S2 => ((r3 ≤ y2 → V mdX1_bestMove 34 [some (.ref 7), none, some (.long y2), none, some (.int x4), some (.int x5), some (.int (x6 + 1)), none, none] [] S2 (qI Q)) ∧ (¬ r3 ≤ y2 → V mdX1_bestMove 34 [some (.ref 7), none, some (.long r3), none, some (.int (((10 : Int32) * x5) + x6)), some (.int x5), some (.int (x6 + 1)), none, none] [] S2 (qI Q))))))) : V mdX1_bestMove 34 [some (.ref 7), none, some (.long y2), none, some (.int x4), some (.int x5), some (.int x6), none, none] [] S (qI Q) := by
  intro zp0 zl0 ze0 zs0 zm0 zargs0 zbelow0 zmeth0 zc0 zD0 zad0 zac0 C0 hr0 hk0
  refine mr_iload C0 dX1_bestMove_34 rfl ?_
  refine mr_iconst (v := 5) C0 dX1_bestMove_36 (by decide) ?_
  refine mr_icmp_ge C0 dX1_bestMove_37 (tgt := 76) (by decide) (fun c1 => ?_) (fun c1 => ?_)
  · have h := h.1 c1
    refine mr_iinc (v := (x5 + 1)) (L1 := [some (.ref 7), none, some (.long y2), none, some (.int x4), some (.int (x5 + 1)), some (.int x6), none, none]) C0 dX1_bestMove_76 rfl rfl (Nat.le_of_ble_eq_true rfl) rfl ?_
    refine mr_goto C0 dX1_bestMove_79 (tgt := 19) (by decide) ?_
    refine mr_mask (L1 := [some (.ref 7), none, some (.long y2), none, some (.int x4), some (.int (x5 + 1)), none, none, none]) C0 [true, false, true, false, true, true, false, false, false] rfl ?_
    exact h zp0 zl0 ze0 zs0 zm0 zargs0 zbelow0 zmeth0 zc0 zD0 zad0 zac0 C0 hr0 hk0
  · have h := h.2 c1
    refine mr_aload_n C0 dX1_bestMove_40 rfl (i := 0) rfl ?_
    refine mr_iload C0 dX1_bestMove_41 rfl ?_
    refine mr_iload C0 dX1_bestMove_43 rfl ?_
    refine mr_callVJ C0 mdX1_gain dX1_bestMove_45 clX1_gain ml_X1_108 (Nat.le_of_ble_eq_true rfl) rfl rfl arX1_gain (as := [.int x5, .int x6]) rfl (Nat.le_of_ble_eq_true rfl) (Nat.le_of_ble_eq_true rfl) (Nat.le_of_ble_eq_true rfl) fit0 h (fun r3 S2 h => ?_)
    refine mr_lstore (L1 := [some (.ref 7), none, some (.long y2), none, some (.int x4), some (.int x5), some (.int x6), some (.long r3), none]) C0 dX1_bestMove_48 (Nat.le_of_ble_eq_true rfl) rfl ?_
    refine mr_lload C0 dX1_bestMove_50 rfl ?_
    refine mr_lload_n C0 dX1_bestMove_52 rfl (i := 2) rfl ?_
    refine mr_lcmp_le C0 dX1_bestMove_53 dX1_bestMove_54 (tgt := 70) (by decide) (fun c4 => ?_) (fun c4 => ?_)
    · have h := h.1 c4
      refine mr_iinc (v := (x6 + 1)) (L1 := [some (.ref 7), none, some (.long y2), none, some (.int x4), some (.int x5), some (.int (x6 + 1)), some (.long r3), none]) C0 dX1_bestMove_70 rfl rfl (Nat.le_of_ble_eq_true rfl) rfl ?_
      refine mr_goto C0 dX1_bestMove_73 (tgt := 34) (by decide) ?_
      refine mr_mask (L1 := [some (.ref 7), none, some (.long y2), none, some (.int x4), some (.int x5), some (.int (x6 + 1)), none, none]) C0 [true, false, true, false, true, true, true, false, false] rfl ?_
      exact h zp0 zl0 ze0 zs0 zm0 zargs0 zbelow0 zmeth0 zc0 zD0 zad0 zac0 C0 hr0 hk0
    · have h := h.2 c4
      refine mr_lload C0 dX1_bestMove_57 rfl ?_
      refine mr_lstore_n (L1 := [some (.ref 7), none, some (.long r3), none, some (.int x4), some (.int x5), some (.int x6), some (.long r3), none]) C0 dX1_bestMove_59 rfl (Nat.le_of_ble_eq_true rfl) rfl ?_
      refine mr_bipush (v := 10) C0 dX1_bestMove_60 (by decide) ?_
      refine mr_iload C0 dX1_bestMove_62 rfl ?_
      refine mr_imul C0 dX1_bestMove_64 ?_
      refine mr_iload C0 dX1_bestMove_65 rfl ?_
      refine mr_iadd C0 dX1_bestMove_67 ?_
      refine mr_istore (L1 := [some (.ref 7), none, some (.long r3), none, some (.int (((10 : Int32) * x5) + x6)), some (.int x5), some (.int x6), some (.long r3), none]) C0 dX1_bestMove_68 (Nat.le_of_ble_eq_true rfl) rfl ?_
      refine mr_iinc (v := (x6 + 1)) (L1 := [some (.ref 7), none, some (.long r3), none, some (.int (((10 : Int32) * x5) + x6)), some (.int x5), some (.int (x6 + 1)), some (.long r3), none]) C0 dX1_bestMove_70 rfl rfl (Nat.le_of_ble_eq_true rfl) rfl ?_
      refine mr_goto C0 dX1_bestMove_73 (tgt := 34) (by decide) ?_
      refine mr_mask (L1 := [some (.ref 7), none, some (.long r3), none, some (.int (((10 : Int32) * x5) + x6)), some (.int x5), some (.int (x6 + 1)), none, none]) C0 [true, false, true, false, true, true, true, false, false] rfl ?_
      exact h zp0 zl0 ze0 zs0 zm0 zargs0 zbelow0 zmeth0 zc0 zD0 zad0 zac0 C0 hr0 hk0
set_option maxRecDepth 100000 in
set_option maxHeartbeats 4000000 in
theorem eX1_gain (x1 : Int32) (x2 : Int32) (S : St) (Q : Int64 → St → Prop) (h : V mdX1_gain 5 [some (.ref 7), some (.int x1), some (.int x2), some (.long (0 : Int64)), none, some (.int (0 : Int32)), none, none] [] S (qJ Q)) : CallV mdX1_gain [.ref 7, .int x1, .int x2] S (qJ Q) := by
  refine CallV_of mdX1_gain plX1_gain 5 (Nat.le_of_ble_eq_true rfl) rfl ?_
  intro zp0 zl0 ze0 zs0 zm0 zargs0 zbelow0 zmeth0 zc0 zD0 zad0 zac0 C0 hr0 hk0
  refine mr_lconst (v := 0) C0 dX1_gain_0 (by decide) ?_
  refine mr_lstore_n (L1 := [some (.ref 7), some (.int x1), some (.int x2), some (.long (0 : Int64)), none, none, none, none]) C0 dX1_gain_1 rfl (Nat.le_of_ble_eq_true rfl) rfl ?_
  refine mr_iconst (v := 0) C0 dX1_gain_2 (by decide) ?_
  refine mr_istore (L1 := [some (.ref 7), some (.int x1), some (.int x2), some (.long (0 : Int64)), none, some (.int (0 : Int32)), none, none]) C0 dX1_gain_3 (Nat.le_of_ble_eq_true rfl) rfl ?_
  exact h zp0 zl0 ze0 zs0 zm0 zargs0 zbelow0 zmeth0 zc0 zD0 zad0 zac0 C0 hr0 hk0
set_option maxRecDepth 100000 in
set_option maxHeartbeats 4000000 in
theorem eX1_gain_5 (x1 : Int32) (x2 : Int32) (y3 : Int64) (x5 : Int32) (S : St) (Q : Int64 → St → Prop) (h : (((3 : Int32) ≤ x5 → Q y3 S) ∧ (¬ (3 : Int32) ≤ x5 → (vp_in x5 3) ∧ (vp_in x1 36) ∧ (((S.1 (9 + x5.toNatClampNeg) x1.toNatClampNeg) ≤ 0 → V mdX1_gain 5 [some (.ref 7), some (.int x1), some (.int x2), some (.long y3), none, some (.int (x5 + 1)), none, none] [] S (qJ Q)) ∧ (¬ (S.1 (9 + x5.toNatClampNeg) x1.toNatClampNeg) ≤ 0 → CallV mdX1_worthUnder [.ref 7, .int x1, .int x2, .int x5] S (qI fun r6 S5 => (vp_in x5 3) ∧ (vp_in x1 36) ∧ (vp_in x5 3) ∧ (vp_in x1 36) ∧ V mdX1_gain 5 [some (.ref 7), some (.int x1), some (.int x2), some (.long (y3 + ((S5.1 (9 + x5.toNatClampNeg) x1.toNatClampNeg).toInt64 * (r6 - (S5.1 (13 + x5.toNatClampNeg) x1.toNatClampNeg)).toInt64))), none, some (.int (x5 + 1)), none, none] [] S5 (qJ Q))))))) : V mdX1_gain 5 [some (.ref 7), some (.int x1), some (.int x2), some (.long y3), none, some (.int x5), none, none] [] S (qJ Q) := by
  intro zp0 zl0 ze0 zs0 zm0 zargs0 zbelow0 zmeth0 zc0 zD0 zad0 zac0 C0 hr0 hk0
  refine mr_iload C0 dX1_gain_5 rfl ?_
  refine mr_iconst (v := 3) C0 dX1_gain_7 (by decide) ?_
  refine mr_icmp_ge C0 dX1_gain_8 (tgt := 66) (by decide) (fun c1 => ?_) (fun c1 => ?_)
  · have h := h.1 c1
    refine mr_lload_n C0 dX1_gain_66 rfl (i := 3) rfl ?_
    refine mr_lret C0 hr0 hk0 dX1_gain_67 (qJ_mk ?_)
    exact h
  · have h := h.2 c1
    refine mr_aload_n C0 dX1_gain_11 rfl (i := 0) rfl ?_
    refine mr_getR C0 dX1_gain_12 fl_X1_11 (Nat.le_of_ble_eq_true rfl) rfl rfl ?_
    refine mr_iload C0 dX1_gain_15 rfl ?_
    have g2 := h.1
    have h := h.2
    refine mr_aald (d := 1) C0 dX1_gain_17 (Nat.le_of_ble_eq_true rfl) rfl g2 (pw_el 9 g2) ?_
    refine mr_iload_n C0 dX1_gain_18 rfl (i := 1) rfl ?_
    have g3 := h.1
    have h := h.2
    refine mr_iald C0 dX1_gain_19 (pa_lt (pa_in g2)) (pa_lay (pa_in g2)) g3 ?_
    refine mr_if_le C0 dX1_gain_20 (tgt := 60) (by decide) (fun c4 => ?_) (fun c4 => ?_)
    · have h := h.1 c4
      refine mr_iinc (v := (x5 + 1)) (L1 := [some (.ref 7), some (.int x1), some (.int x2), some (.long y3), none, some (.int (x5 + 1)), none, none]) C0 dX1_gain_60 rfl rfl (Nat.le_of_ble_eq_true rfl) rfl ?_
      refine mr_goto C0 dX1_gain_63 (tgt := 5) (by decide) ?_
      exact h zp0 zl0 ze0 zs0 zm0 zargs0 zbelow0 zmeth0 zc0 zD0 zad0 zac0 C0 hr0 hk0
    · have h := h.2 c4
      refine mr_aload_n C0 dX1_gain_23 rfl (i := 0) rfl ?_
      refine mr_iload_n C0 dX1_gain_24 rfl (i := 1) rfl ?_
      refine mr_iload_n C0 dX1_gain_25 rfl (i := 2) rfl ?_
      refine mr_iload C0 dX1_gain_26 rfl ?_
      refine mr_callVI C0 mdX1_worthUnder dX1_gain_28 clX1_worthUnder ml_X1_96 (Nat.le_of_ble_eq_true rfl) rfl rfl arX1_worthUnder (as := [.int x1, .int x2, .int x5]) rfl (Nat.le_of_ble_eq_true rfl) (Nat.le_of_ble_eq_true rfl) (Nat.le_of_ble_eq_true rfl) fit0 h (fun r6 S5 h => ?_)
      refine mr_aload_n C0 dX1_gain_31 rfl (i := 0) rfl ?_
      refine mr_getR C0 dX1_gain_32 fl_X1_16 (Nat.le_of_ble_eq_true rfl) rfl rfl ?_
      refine mr_iload C0 dX1_gain_35 rfl ?_
      have g7 := h.1
      have h := h.2
      refine mr_aald (d := 1) C0 dX1_gain_37 (Nat.le_of_ble_eq_true rfl) rfl g7 (pw_el 13 g7) ?_
      refine mr_iload_n C0 dX1_gain_38 rfl (i := 1) rfl ?_
      have g8 := h.1
      have h := h.2
      refine mr_iald C0 dX1_gain_39 (wo_lt (wo_in g7)) (wo_lay (wo_in g7)) g8 ?_
      refine mr_isub C0 dX1_gain_40 ?_
      refine mr_i2l C0 dX1_gain_41 ?_
      refine mr_lstore (L1 := [some (.ref 7), some (.int x1), some (.int x2), some (.long y3), none, some (.int x5), some (.long (r6 - (S5.1 (13 + x5.toNatClampNeg) x1.toNatClampNeg)).toInt64), none]) C0 dX1_gain_42 (Nat.le_of_ble_eq_true rfl) rfl ?_
      refine mr_lload_n C0 dX1_gain_44 rfl (i := 3) rfl ?_
      refine mr_aload_n C0 dX1_gain_45 rfl (i := 0) rfl ?_
      refine mr_getR C0 dX1_gain_46 fl_X1_11 (Nat.le_of_ble_eq_true rfl) rfl rfl ?_
      refine mr_iload C0 dX1_gain_49 rfl ?_
      have g9 := h.1
      have h := h.2
      refine mr_aald (d := 1) C0 dX1_gain_51 (Nat.le_of_ble_eq_true rfl) rfl g9 (pw_el 9 g9) ?_
      refine mr_iload_n C0 dX1_gain_52 rfl (i := 1) rfl ?_
      have g10 := h.1
      have h := h.2
      refine mr_iald C0 dX1_gain_53 (pa_lt (pa_in g9)) (pa_lay (pa_in g9)) g10 ?_
      refine mr_i2l C0 dX1_gain_54 ?_
      refine mr_lload C0 dX1_gain_55 rfl ?_
      refine mr_lmul C0 dX1_gain_57 ?_
      refine mr_ladd C0 dX1_gain_58 ?_
      refine mr_lstore_n (L1 := [some (.ref 7), some (.int x1), some (.int x2), some (.long (y3 + ((S5.1 (9 + x5.toNatClampNeg) x1.toNatClampNeg).toInt64 * (r6 - (S5.1 (13 + x5.toNatClampNeg) x1.toNatClampNeg)).toInt64))), none, some (.int x5), some (.long (r6 - (S5.1 (13 + x5.toNatClampNeg) x1.toNatClampNeg)).toInt64), none]) C0 dX1_gain_59 rfl (Nat.le_of_ble_eq_true rfl) rfl ?_
      refine mr_iinc (v := (x5 + 1)) (L1 := [some (.ref 7), some (.int x1), some (.int x2), some (.long (y3 + ((S5.1 (9 + x5.toNatClampNeg) x1.toNatClampNeg).toInt64 * (r6 - (S5.1 (13 + x5.toNatClampNeg) x1.toNatClampNeg)).toInt64))), none, some (.int (x5 + 1)), some (.long (r6 - (S5.1 (13 + x5.toNatClampNeg) x1.toNatClampNeg)).toInt64), none]) C0 dX1_gain_60 rfl rfl (Nat.le_of_ble_eq_true rfl) rfl ?_
      refine mr_goto C0 dX1_gain_63 (tgt := 5) (by decide) ?_
      refine mr_mask (L1 := [some (.ref 7), some (.int x1), some (.int x2), some (.long (y3 + ((S5.1 (9 + x5.toNatClampNeg) x1.toNatClampNeg).toInt64 * (r6 - (S5.1 (13 + x5.toNatClampNeg) x1.toNatClampNeg)).toInt64))), none, some (.int (x5 + 1)), none, none]) C0 [true, true, true, true, false, true, false, false] rfl ?_
      exact h zp0 zl0 ze0 zs0 zm0 zargs0 zbelow0 zmeth0 zc0 zD0 zad0 zac0 C0 hr0 hk0
set_option maxRecDepth 100000 in
set_option maxHeartbeats 4000000 in
theorem eX1_likeliestEnd (x1 : Int32) (S : St) (Q : Int32 → St → Prop) (h : (vp_in x1 8) ∧ (vp_in x1 8) ∧ (vp_in (S.1 5 x1.toNatClampNeg) 3) ∧ CallV mdJ7_fill_53178 [.ref (9 + (S.1 5 x1.toNatClampNeg).toNatClampNeg), .int (0 : Int32)] S (qV fun S4 => (vp_in (S.1 5 x1.toNatClampNeg) 3) ∧ (vp_in (S.1 6 x1.toNatClampNeg) 36) ∧ CallV mdX1_runDown [.ref 7, .int (S.1 5 x1.toNatClampNeg), .int (1 : Int32)] (sI S4 (9 + (S.1 5 x1.toNatClampNeg).toNatClampNeg) ((S.1 6 x1.toNatClampNeg).toNatClampNeg) (32768 : Int32)) (qV fun S7 => V mdX1_likeliestEnd 29 [some (.ref 7), none, some (.int (S.1 5 x1.toNatClampNeg)), some (.int (0 : Int32)), some (.int (1 : Int32))] [] S7 (qI Q)))) : CallV mdX1_likeliestEnd [.ref 7, .int x1] S (qI Q) := by
  refine CallV_of mdX1_likeliestEnd plX1_likeliestEnd 3 (Nat.le_of_ble_eq_true rfl) rfl ?_
  intro zp0 zl0 ze0 zs0 zm0 zargs0 zbelow0 zmeth0 zc0 zD0 zad0 zac0 C0 hr0 hk0
  refine mr_aload_n C0 dX1_likeliestEnd_0 rfl (i := 0) rfl ?_
  refine mr_getR C0 dX1_likeliestEnd_1 fl_X1_33 (Nat.le_of_ble_eq_true rfl) rfl rfl ?_
  refine mr_getR C0 dX1_likeliestEnd_4 fl_X1_54 (Nat.le_of_ble_eq_true rfl) rfl rfl ?_
  refine mr_iload_n C0 dX1_likeliestEnd_7 rfl (i := 1) rfl ?_
  have g1 := h.1
  have h := h.2
  refine mr_iald C0 dX1_likeliestEnd_8 (Nat.le_of_ble_eq_true rfl) rfl g1 ?_
  refine mr_istore_n (L1 := [some (.ref 7), some (.int x1), some (.int (S.1 5 x1.toNatClampNeg)), none, none]) C0 dX1_likeliestEnd_9 rfl (Nat.le_of_ble_eq_true rfl) rfl ?_
  refine mr_aload_n C0 dX1_likeliestEnd_10 rfl (i := 0) rfl ?_
  refine mr_iload_n C0 dX1_likeliestEnd_11 rfl (i := 2) rfl ?_
  refine mr_aload_n C0 dX1_likeliestEnd_12 rfl (i := 0) rfl ?_
  refine mr_getR C0 dX1_likeliestEnd_13 fl_X1_33 (Nat.le_of_ble_eq_true rfl) rfl rfl ?_
  refine mr_getR C0 dX1_likeliestEnd_16 fl_X1_57 (Nat.le_of_ble_eq_true rfl) rfl rfl ?_
  refine mr_iload_n C0 dX1_likeliestEnd_19 rfl (i := 1) rfl ?_
  have g2 := h.1
  have h := h.2
  refine mr_iald C0 dX1_likeliestEnd_20 (Nat.le_of_ble_eq_true rfl) rfl g2 ?_
  refine mr_callVV C0 mdX1_drop dX1_likeliestEnd_21 clX1_drop ml_X1_112 (Nat.le_of_ble_eq_true rfl) rfl rfl arX1_drop (as := [.int (S.1 5 x1.toNatClampNeg), .int (S.1 6 x1.toNatClampNeg)]) rfl (Nat.le_of_ble_eq_true rfl) (Nat.le_of_ble_eq_true rfl) (Nat.le_of_ble_eq_true rfl) fit0 (CallV_of mdX1_drop plX1_drop 0 (Nat.le_of_ble_eq_true rfl) rfl ?_) (fun _ h => h)
  intro zp1 zl1 ze1 zs1 zm1 zargs1 zbelow1 zmeth1 zc1 zD1 zad1 zac1 C1 hr1 hk1
  refine mr_aload_n C1 dX1_drop_0 rfl (i := 0) rfl ?_
  refine mr_getR C1 dX1_drop_1 fl_X1_11 (Nat.le_of_ble_eq_true rfl) rfl rfl ?_
  refine mr_iload_n C1 dX1_drop_4 rfl (i := 1) rfl ?_
  have g3 := h.1
  have h := h.2
  refine mr_aald (d := 1) C1 dX1_drop_5 (Nat.le_of_ble_eq_true rfl) rfl g3 (pw_el 9 g3) ?_
  refine mr_iconst (v := 0) C1 dX1_drop_6 (by decide) ?_
  refine mr_callSV C1 mdJ7_fill_53178 dX1_drop_7 clJ7_fill_53178 ml_X1_37 arJ7_fill_53178 (as := [.ref (9 + (S.1 5 x1.toNatClampNeg).toNatClampNeg), .int (0 : Int32)]) rfl (Nat.le_of_ble_eq_true rfl) (Nat.le_of_ble_eq_true rfl) (Nat.le_of_ble_eq_true rfl) fit0 h (fun S4 h => ?_)
  refine mr_aload_n C1 dX1_drop_10 rfl (i := 0) rfl ?_
  refine mr_getR C1 dX1_drop_11 fl_X1_11 (Nat.le_of_ble_eq_true rfl) rfl rfl ?_
  refine mr_iload_n C1 dX1_drop_14 rfl (i := 1) rfl ?_
  have g5 := h.1
  have h := h.2
  refine mr_aald (d := 1) C1 dX1_drop_15 (Nat.le_of_ble_eq_true rfl) rfl g5 (pw_el 9 g5) ?_
  refine mr_iload_n C1 dX1_drop_16 rfl (i := 2) rfl ?_
  refine mr_ldc C1 dX1_drop_17 cn_X1_43 ?_
  have g6 := h.1
  have h := h.2
  refine mr_iast C1 dX1_drop_19 (pa_lt (pa_in g5)) (pa_lay (pa_in g5)) g6 ?_
  refine mr_aload_n C1 dX1_drop_20 rfl (i := 0) rfl ?_
  refine mr_iload_n C1 dX1_drop_21 rfl (i := 1) rfl ?_
  refine mr_iconst (v := 1) C1 dX1_drop_22 (by decide) ?_
  refine mr_callVV C1 mdX1_runDown dX1_drop_23 clX1_runDown ml_X1_44 (Nat.le_of_ble_eq_true rfl) rfl rfl arX1_runDown (as := [.int (S.1 5 x1.toNatClampNeg), .int (1 : Int32)]) rfl (Nat.le_of_ble_eq_true rfl) (Nat.le_of_ble_eq_true rfl) (Nat.le_of_ble_eq_true rfl) fit0 h (fun S7 h => ?_)
  refine mr_vret C1 hr1 hk1 dX1_drop_26 (qV_mk ?_)
  refine mr_iconst (v := 0) C0 dX1_likeliestEnd_24 (by decide) ?_
  refine mr_istore_n (L1 := [some (.ref 7), some (.int x1), some (.int (S.1 5 x1.toNatClampNeg)), some (.int (0 : Int32)), none]) C0 dX1_likeliestEnd_25 rfl (Nat.le_of_ble_eq_true rfl) rfl ?_
  refine mr_iconst (v := 1) C0 dX1_likeliestEnd_26 (by decide) ?_
  refine mr_istore (L1 := [some (.ref 7), some (.int x1), some (.int (S.1 5 x1.toNatClampNeg)), some (.int (0 : Int32)), some (.int (1 : Int32))]) C0 dX1_likeliestEnd_27 (Nat.le_of_ble_eq_true rfl) rfl ?_
  refine mr_mask (L1 := [some (.ref 7), none, some (.int (S.1 5 x1.toNatClampNeg)), some (.int (0 : Int32)), some (.int (1 : Int32))]) C0 [true, false, true, true, true] rfl ?_
  exact h zp0 zl0 ze0 zs0 zm0 zargs0 zbelow0 zmeth0 zc0 zD0 zad0 zac0 C0 hr0 hk0
set_option maxRecDepth 100000 in
set_option maxHeartbeats 4000000 in
theorem eX1_likeliestEnd_29 (x2 : Int32) (x3 : Int32) (x4 : Int32) (S : St) (Q : Int32 → St → Prop) (h : (((S.1 1 3) ≤ x4 → CallV mdX1_stuck [.ref 7, .int x2] S (qI fun r3 S2 => CallV mdX1_arrived [.ref 7, .int x2, .int x3] S2 (qI fun r5 S4 => ((r3 ≤ r5 → Q x3 S4) ∧ (¬ r3 ≤ r5 → Q (6 : Int32) S4))))) ∧ (¬ (S.1 1 3) ≤ x4 → CallV mdX1_arrived [.ref 7, .int x2, .int x4] S (qI fun r8 S7 => CallV mdX1_arrived [.ref 7, .int x2, .int x3] S7 (qI fun r10 S9 => ((r8 ≤ r10 → V mdX1_likeliestEnd 29 [some (.ref 7), none, some (.int x2), some (.int x3), some (.int (x4 + 1))] [] S9 (qI Q)) ∧ (¬ r8 ≤ r10 → V mdX1_likeliestEnd 29 [some (.ref 7), none, some (.int x2), some (.int x4), some (.int (x4 + 1))] [] S9 (qI Q)))))))) : V mdX1_likeliestEnd 29 [some (.ref 7), none, some (.int x2), some (.int x3), some (.int x4)] [] S (qI Q) := by
  intro zp0 zl0 ze0 zs0 zm0 zargs0 zbelow0 zmeth0 zc0 zD0 zad0 zac0 C0 hr0 hk0
  refine mr_iload C0 dX1_likeliestEnd_29 rfl ?_
  refine mr_aload_n C0 dX1_likeliestEnd_31 rfl (i := 0) rfl ?_
  refine mr_getR C0 dX1_likeliestEnd_32 fl_X1_29 (Nat.le_of_ble_eq_true rfl) rfl rfl ?_
  refine mr_getI C0 dX1_likeliestEnd_35 fl_X1_83 (Nat.le_of_ble_eq_true rfl) rfl rfl ?_
  refine mr_icmp_ge C0 dX1_likeliestEnd_38 (tgt := 66) (by decide) (fun c1 => ?_) (fun c1 => ?_)
  · have h := h.1 c1
    refine mr_aload_n C0 dX1_likeliestEnd_66 rfl (i := 0) rfl ?_
    refine mr_iload_n C0 dX1_likeliestEnd_67 rfl (i := 2) rfl ?_
    refine mr_callVI C0 mdX1_stuck dX1_likeliestEnd_68 clX1_stuck ml_X1_115 (Nat.le_of_ble_eq_true rfl) rfl rfl arX1_stuck (as := [.int x2]) rfl (Nat.le_of_ble_eq_true rfl) (Nat.le_of_ble_eq_true rfl) (Nat.le_of_ble_eq_true rfl) fit0 h (fun r3 S2 h => ?_)
    refine mr_aload_n C0 dX1_likeliestEnd_71 rfl (i := 0) rfl ?_
    refine mr_iload_n C0 dX1_likeliestEnd_72 rfl (i := 2) rfl ?_
    refine mr_iload_n C0 dX1_likeliestEnd_73 rfl (i := 3) rfl ?_
    refine mr_callVI C0 mdX1_arrived dX1_likeliestEnd_74 clX1_arrived ml_X1_86 (Nat.le_of_ble_eq_true rfl) rfl rfl arX1_arrived (as := [.int x2, .int x3]) rfl (Nat.le_of_ble_eq_true rfl) (Nat.le_of_ble_eq_true rfl) (Nat.le_of_ble_eq_true rfl) fit0 h (fun r5 S4 h => ?_)
    refine mr_icmp_le C0 dX1_likeliestEnd_77 (tgt := 85) (by decide) (fun c6 => ?_) (fun c6 => ?_)
    · have h := h.1 c6
      refine mr_iload_n C0 dX1_likeliestEnd_85 rfl (i := 3) rfl ?_
      refine mr_iret C0 hr0 hk0 dX1_likeliestEnd_86 (qI_mk ?_)
      exact h
    · have h := h.2 c6
      refine mr_bipush (v := 6) C0 dX1_likeliestEnd_80 (by decide) ?_
      refine mr_goto C0 dX1_likeliestEnd_82 (tgt := 86) (by decide) ?_
      refine mr_iret C0 hr0 hk0 dX1_likeliestEnd_86 (qI_mk ?_)
      exact h
  · have h := h.2 c1
    refine mr_aload_n C0 dX1_likeliestEnd_41 rfl (i := 0) rfl ?_
    refine mr_iload_n C0 dX1_likeliestEnd_42 rfl (i := 2) rfl ?_
    refine mr_iload C0 dX1_likeliestEnd_43 rfl ?_
    refine mr_callVI C0 mdX1_arrived dX1_likeliestEnd_45 clX1_arrived ml_X1_86 (Nat.le_of_ble_eq_true rfl) rfl rfl arX1_arrived (as := [.int x2, .int x4]) rfl (Nat.le_of_ble_eq_true rfl) (Nat.le_of_ble_eq_true rfl) (Nat.le_of_ble_eq_true rfl) fit0 h (fun r8 S7 h => ?_)
    refine mr_aload_n C0 dX1_likeliestEnd_48 rfl (i := 0) rfl ?_
    refine mr_iload_n C0 dX1_likeliestEnd_49 rfl (i := 2) rfl ?_
    refine mr_iload_n C0 dX1_likeliestEnd_50 rfl (i := 3) rfl ?_
    refine mr_callVI C0 mdX1_arrived dX1_likeliestEnd_51 clX1_arrived ml_X1_86 (Nat.le_of_ble_eq_true rfl) rfl rfl arX1_arrived (as := [.int x2, .int x3]) rfl (Nat.le_of_ble_eq_true rfl) (Nat.le_of_ble_eq_true rfl) (Nat.le_of_ble_eq_true rfl) fit0 h (fun r10 S9 h => ?_)
    refine mr_icmp_le C0 dX1_likeliestEnd_54 (tgt := 60) (by decide) (fun c11 => ?_) (fun c11 => ?_)
    · have h := h.1 c11
      refine mr_iinc (v := (x4 + 1)) (L1 := [some (.ref 7), none, some (.int x2), some (.int x3), some (.int (x4 + 1))]) C0 dX1_likeliestEnd_60 rfl rfl (Nat.le_of_ble_eq_true rfl) rfl ?_
      refine mr_goto C0 dX1_likeliestEnd_63 (tgt := 29) (by decide) ?_
      exact h zp0 zl0 ze0 zs0 zm0 zargs0 zbelow0 zmeth0 zc0 zD0 zad0 zac0 C0 hr0 hk0
    · have h := h.2 c11
      refine mr_iload C0 dX1_likeliestEnd_57 rfl ?_
      refine mr_istore_n (L1 := [some (.ref 7), none, some (.int x2), some (.int x4), some (.int x4)]) C0 dX1_likeliestEnd_59 rfl (Nat.le_of_ble_eq_true rfl) rfl ?_
      refine mr_iinc (v := (x4 + 1)) (L1 := [some (.ref 7), none, some (.int x2), some (.int x4), some (.int (x4 + 1))]) C0 dX1_likeliestEnd_60 rfl rfl (Nat.le_of_ble_eq_true rfl) rfl ?_
      refine mr_goto C0 dX1_likeliestEnd_63 (tgt := 29) (by decide) ?_
      exact h zp0 zl0 ze0 zs0 zm0 zargs0 zbelow0 zmeth0 zc0 zD0 zad0 zac0 C0 hr0 hk0
set_option maxRecDepth 100000 in
set_option maxHeartbeats 4000000 in
theorem eX1_tallyOf (x1 : Int32) (S : St) (Q : Int32 → St → Prop) (h : CallV mdX1_findLeanings [.ref 7] S (qV fun S1 => CallV mdX1_tallyWithout [.ref 7, .int (-9 : Int32)] S1 (qV fun S2 => (vp_in x1 4) ∧ Q (S2.1 17 x1.toNatClampNeg) S2))) : CallV mdX1_tallyOf [.ref 7, .int x1] S (qI Q) := by
  refine CallV_of mdX1_tallyOf plX1_tallyOf 0 (Nat.le_of_ble_eq_true rfl) rfl ?_
  intro zp0 zl0 ze0 zs0 zm0 zargs0 zbelow0 zmeth0 zc0 zD0 zad0 zac0 C0 hr0 hk0
  refine mr_aload_n C0 dX1_tallyOf_0 rfl (i := 0) rfl ?_
  refine mr_callVV C0 mdX1_findLeanings dX1_tallyOf_1 clX1_findLeanings ml_X1_118 (Nat.le_of_ble_eq_true rfl) rfl rfl arX1_findLeanings (as := []) rfl (Nat.le_of_ble_eq_true rfl) (Nat.le_of_ble_eq_true rfl) (Nat.le_of_ble_eq_true rfl) fit0 h (fun S1 h => ?_)
  refine mr_aload_n C0 dX1_tallyOf_4 rfl (i := 0) rfl ?_
  refine mr_bipush (v := (-9)) C0 dX1_tallyOf_5 (by decide) ?_
  refine mr_callVV C0 mdX1_tallyWithout dX1_tallyOf_7 clX1_tallyWithout ml_X1_121 (Nat.le_of_ble_eq_true rfl) rfl rfl arX1_tallyWithout (as := [.int (-9 : Int32)]) rfl (Nat.le_of_ble_eq_true rfl) (Nat.le_of_ble_eq_true rfl) (Nat.le_of_ble_eq_true rfl) fit0 h (fun S2 h => ?_)
  refine mr_aload_n C0 dX1_tallyOf_10 rfl (i := 0) rfl ?_
  refine mr_getR C0 dX1_tallyOf_11 fl_X1_23 (Nat.le_of_ble_eq_true rfl) rfl rfl ?_
  refine mr_iload_n C0 dX1_tallyOf_14 rfl (i := 1) rfl ?_
  have g3 := h.1
  have h := h.2
  refine mr_iald C0 dX1_tallyOf_15 (Nat.le_of_ble_eq_true rfl) rfl g3 ?_
  refine mr_iret C0 hr0 hk0 dX1_tallyOf_16 (qI_mk ?_)
  exact h
set_option maxRecDepth 100000 in
set_option maxHeartbeats 4000000 in
theorem eX1_winnerOfAll (S : St) (Q : Int32 → St → Prop) (h : CallV mdX1_findLeanings [.ref 7] S (qV fun S1 => CallV mdX1_winnerWithout [.ref 7, .int (-9 : Int32)] S1 (qI fun r3 S2 => Q r3 S2))) : CallV mdX1_winnerOfAll [.ref 7] S (qI Q) := by
  refine CallV_of mdX1_winnerOfAll plX1_winnerOfAll 0 (Nat.le_of_ble_eq_true rfl) rfl ?_
  intro zp0 zl0 ze0 zs0 zm0 zargs0 zbelow0 zmeth0 zc0 zD0 zad0 zac0 C0 hr0 hk0
  refine mr_aload_n C0 dX1_winnerOfAll_0 rfl (i := 0) rfl ?_
  refine mr_callVV C0 mdX1_findLeanings dX1_winnerOfAll_1 clX1_findLeanings ml_X1_118 (Nat.le_of_ble_eq_true rfl) rfl rfl arX1_findLeanings (as := []) rfl (Nat.le_of_ble_eq_true rfl) (Nat.le_of_ble_eq_true rfl) (Nat.le_of_ble_eq_true rfl) fit0 h (fun S1 h => ?_)
  refine mr_aload_n C0 dX1_winnerOfAll_4 rfl (i := 0) rfl ?_
  refine mr_bipush (v := (-9)) C0 dX1_winnerOfAll_5 (by decide) ?_
  refine mr_callVI C0 mdX1_winnerWithout dX1_winnerOfAll_7 clX1_winnerWithout ml_X1_124 (Nat.le_of_ble_eq_true rfl) rfl rfl arX1_winnerWithout (as := [.int (-9 : Int32)]) rfl (Nat.le_of_ble_eq_true rfl) (Nat.le_of_ble_eq_true rfl) (Nat.le_of_ble_eq_true rfl) fit0 h (fun r3 S2 h => ?_)
  refine mr_iret C0 hr0 hk0 dX1_winnerOfAll_10 (qI_mk ?_)
  exact h
set_option maxRecDepth 100000 in
set_option maxHeartbeats 4000000 in
theorem eX1_votesItHangsOn (S : St) (Q : Int32 → St → Prop) (h : CallV mdX1_findLeanings [.ref 7] S (qV fun S1 => CallV mdX1_winnerWithout [.ref 7, .int (-9 : Int32)] S1 (qI fun r3 S2 => V mdX1_votesItHangsOn 15 [some (.ref 7), some (.int r3), some (.int (0 : Int32)), some (.int (0 : Int32))] [] S2 (qI Q)))) : CallV mdX1_votesItHangsOn [.ref 7] S (qI Q) := by
  refine CallV_of mdX1_votesItHangsOn plX1_votesItHangsOn 3 (Nat.le_of_ble_eq_true rfl) rfl ?_
  intro zp0 zl0 ze0 zs0 zm0 zargs0 zbelow0 zmeth0 zc0 zD0 zad0 zac0 C0 hr0 hk0
  refine mr_aload_n C0 dX1_votesItHangsOn_0 rfl (i := 0) rfl ?_
  refine mr_callVV C0 mdX1_findLeanings dX1_votesItHangsOn_1 clX1_findLeanings ml_X1_118 (Nat.le_of_ble_eq_true rfl) rfl rfl arX1_findLeanings (as := []) rfl (Nat.le_of_ble_eq_true rfl) (Nat.le_of_ble_eq_true rfl) (Nat.le_of_ble_eq_true rfl) fit0 h (fun S1 h => ?_)
  refine mr_aload_n C0 dX1_votesItHangsOn_4 rfl (i := 0) rfl ?_
  refine mr_bipush (v := (-9)) C0 dX1_votesItHangsOn_5 (by decide) ?_
  refine mr_callVI C0 mdX1_winnerWithout dX1_votesItHangsOn_7 clX1_winnerWithout ml_X1_124 (Nat.le_of_ble_eq_true rfl) rfl rfl arX1_winnerWithout (as := [.int (-9 : Int32)]) rfl (Nat.le_of_ble_eq_true rfl) (Nat.le_of_ble_eq_true rfl) (Nat.le_of_ble_eq_true rfl) fit0 h (fun r3 S2 h => ?_)
  refine mr_istore_n (L1 := [some (.ref 7), some (.int r3), none, none]) C0 dX1_votesItHangsOn_10 rfl (Nat.le_of_ble_eq_true rfl) rfl ?_
  refine mr_iconst (v := 0) C0 dX1_votesItHangsOn_11 (by decide) ?_
  refine mr_istore_n (L1 := [some (.ref 7), some (.int r3), some (.int (0 : Int32)), none]) C0 dX1_votesItHangsOn_12 rfl (Nat.le_of_ble_eq_true rfl) rfl ?_
  refine mr_iconst (v := 0) C0 dX1_votesItHangsOn_13 (by decide) ?_
  refine mr_istore_n (L1 := [some (.ref 7), some (.int r3), some (.int (0 : Int32)), some (.int (0 : Int32))]) C0 dX1_votesItHangsOn_14 rfl (Nat.le_of_ble_eq_true rfl) rfl ?_
  exact h zp0 zl0 ze0 zs0 zm0 zargs0 zbelow0 zmeth0 zc0 zD0 zad0 zac0 C0 hr0 hk0
set_option maxRecDepth 100000 in
set_option maxHeartbeats 4000000 in
theorem eX1_votesItHangsOn_15 (x1 : Int32) (x2 : Int32) (x3 : Int32) (S : St) (Q : Int32 → St → Prop) (h : (((S.1 4 2) ≤ x3 → Q x2 S) ∧ (¬ (S.1 4 2) ≤ x3 → CallV mdX1_winnerWithout [.ref 7, .int x3] S (qI fun r3 S2 => ((r3 = x1 → V mdX1_votesItHangsOn 15 [some (.ref 7), some (.int x1), some (.int x2), some (.int (x3 + 1))] [] S2 (qI Q)) ∧ (¬ r3 = x1 → V mdX1_votesItHangsOn 15 [some (.ref 7), some (.int x1), some (.int (x2 ||| ((1 : Int32) <<< (x3 &&& 31)))), some (.int (x3 + 1))] [] S2 (qI Q))))))) : V mdX1_votesItHangsOn 15 [some (.ref 7), some (.int x1), some (.int x2), some (.int x3)] [] S (qI Q) := by
  intro zp0 zl0 ze0 zs0 zm0 zargs0 zbelow0 zmeth0 zc0 zD0 zad0 zac0 C0 hr0 hk0
  refine mr_iload_n C0 dX1_votesItHangsOn_15 rfl (i := 3) rfl ?_
  refine mr_aload_n C0 dX1_votesItHangsOn_16 rfl (i := 0) rfl ?_
  refine mr_getR C0 dX1_votesItHangsOn_17 fl_X1_33 (Nat.le_of_ble_eq_true rfl) rfl rfl ?_
  refine mr_getI C0 dX1_votesItHangsOn_20 fl_X1_48 (Nat.le_of_ble_eq_true rfl) rfl rfl ?_
  refine mr_icmp_ge C0 dX1_votesItHangsOn_23 (tgt := 47) (by decide) (fun c1 => ?_) (fun c1 => ?_)
  · have h := h.1 c1
    refine mr_iload_n C0 dX1_votesItHangsOn_47 rfl (i := 2) rfl ?_
    refine mr_iret C0 hr0 hk0 dX1_votesItHangsOn_48 (qI_mk ?_)
    exact h
  · have h := h.2 c1
    refine mr_aload_n C0 dX1_votesItHangsOn_26 rfl (i := 0) rfl ?_
    refine mr_iload_n C0 dX1_votesItHangsOn_27 rfl (i := 3) rfl ?_
    refine mr_callVI C0 mdX1_winnerWithout dX1_votesItHangsOn_28 clX1_winnerWithout ml_X1_124 (Nat.le_of_ble_eq_true rfl) rfl rfl arX1_winnerWithout (as := [.int x3]) rfl (Nat.le_of_ble_eq_true rfl) (Nat.le_of_ble_eq_true rfl) (Nat.le_of_ble_eq_true rfl) fit0 h (fun r3 S2 h => ?_)
    refine mr_iload_n C0 dX1_votesItHangsOn_31 rfl (i := 1) rfl ?_
    refine mr_icmp_eq C0 dX1_votesItHangsOn_32 (tgt := 41) (by decide) (fun c4 => ?_) (fun c4 => ?_)
    · have h := h.1 c4
      refine mr_iinc (v := (x3 + 1)) (L1 := [some (.ref 7), some (.int x1), some (.int x2), some (.int (x3 + 1))]) C0 dX1_votesItHangsOn_41 rfl rfl (Nat.le_of_ble_eq_true rfl) rfl ?_
      refine mr_goto C0 dX1_votesItHangsOn_44 (tgt := 15) (by decide) ?_
      exact h zp0 zl0 ze0 zs0 zm0 zargs0 zbelow0 zmeth0 zc0 zD0 zad0 zac0 C0 hr0 hk0
    · have h := h.2 c4
      refine mr_iload_n C0 dX1_votesItHangsOn_35 rfl (i := 2) rfl ?_
      refine mr_iconst (v := 1) C0 dX1_votesItHangsOn_36 (by decide) ?_
      refine mr_iload_n C0 dX1_votesItHangsOn_37 rfl (i := 3) rfl ?_
      refine mr_ishl C0 dX1_votesItHangsOn_38 ?_
      refine mr_ior C0 dX1_votesItHangsOn_39 ?_
      refine mr_istore_n (L1 := [some (.ref 7), some (.int x1), some (.int (x2 ||| ((1 : Int32) <<< (x3 &&& 31)))), some (.int x3)]) C0 dX1_votesItHangsOn_40 rfl (Nat.le_of_ble_eq_true rfl) rfl ?_
      refine mr_iinc (v := (x3 + 1)) (L1 := [some (.ref 7), some (.int x1), some (.int (x2 ||| ((1 : Int32) <<< (x3 &&& 31)))), some (.int (x3 + 1))]) C0 dX1_votesItHangsOn_41 rfl rfl (Nat.le_of_ble_eq_true rfl) rfl ?_
      refine mr_goto C0 dX1_votesItHangsOn_44 (tgt := 15) (by decide) ?_
      exact h zp0 zl0 ze0 zs0 zm0 zargs0 zbelow0 zmeth0 zc0 zD0 zad0 zac0 C0 hr0 hk0
set_option maxRecDepth 100000 in
set_option maxHeartbeats 4000000 in
theorem eX1_findLeanings (S : St) (Q : St → Prop) (h : V mdX1_findLeanings 2 [some (.ref 7), some (.int (0 : Int32)), none] [] S (qV Q)) : CallV mdX1_findLeanings [.ref 7] S (qV Q) := by
  refine CallV_of mdX1_findLeanings plX1_findLeanings 2 (Nat.le_of_ble_eq_true rfl) rfl ?_
  intro zp0 zl0 ze0 zs0 zm0 zargs0 zbelow0 zmeth0 zc0 zD0 zad0 zac0 C0 hr0 hk0
  refine mr_iconst (v := 0) C0 dX1_findLeanings_0 (by decide) ?_
  refine mr_istore_n (L1 := [some (.ref 7), some (.int (0 : Int32)), none]) C0 dX1_findLeanings_1 rfl (Nat.le_of_ble_eq_true rfl) rfl ?_
  exact h zp0 zl0 ze0 zs0 zm0 zargs0 zbelow0 zmeth0 zc0 zD0 zad0 zac0 C0 hr0 hk0
set_option maxRecDepth 100000 in
set_option maxHeartbeats 4000000 in
theorem eX1_findLeanings_2 (x1 : Int32) (S : St) (Q : St → Prop) (h : (((S.1 4 2) ≤ x1 → Q S) ∧ (¬ (S.1 4 2) ≤ x1 → CallV mdX1_likeliestEnd [.ref 7, .int x1] S (qI fun r3 S2 => ((¬ r3 = (6 : Int32) → (vp_in r3 6) ∧ (vp_in x1 8) ∧ V mdX1_findLeanings 2 [some (.ref 7), some (.int (x1 + 1)), none] [] (sI S2 16 x1.toNatClampNeg (S2.1 3 r3.toNatClampNeg)) (qV Q)) ∧ (r3 = (6 : Int32) → (vp_in x1 8) ∧ V mdX1_findLeanings 2 [some (.ref 7), some (.int (x1 + 1)), none] [] (sI S2 16 x1.toNatClampNeg (-9 : Int32)) (qV Q))))))) : V mdX1_findLeanings 2 [some (.ref 7), some (.int x1), none] [] S (qV Q) := by
  intro zp0 zl0 ze0 zs0 zm0 zargs0 zbelow0 zmeth0 zc0 zD0 zad0 zac0 C0 hr0 hk0
  refine mr_iload_n C0 dX1_findLeanings_2 rfl (i := 1) rfl ?_
  refine mr_aload_n C0 dX1_findLeanings_3 rfl (i := 0) rfl ?_
  refine mr_getR C0 dX1_findLeanings_4 fl_X1_33 (Nat.le_of_ble_eq_true rfl) rfl rfl ?_
  refine mr_getI C0 dX1_findLeanings_7 fl_X1_48 (Nat.le_of_ble_eq_true rfl) rfl rfl ?_
  refine mr_icmp_ge C0 dX1_findLeanings_10 (tgt := 51) (by decide) (fun c1 => ?_) (fun c1 => ?_)
  · have h := h.1 c1
    refine mr_vret C0 hr0 hk0 dX1_findLeanings_51 (qV_mk ?_)
    exact h
  · have h := h.2 c1
    refine mr_aload_n C0 dX1_findLeanings_13 rfl (i := 0) rfl ?_
    refine mr_iload_n C0 dX1_findLeanings_14 rfl (i := 1) rfl ?_
    refine mr_callVI C0 mdX1_likeliestEnd dX1_findLeanings_15 clX1_likeliestEnd ml_X1_127 (Nat.le_of_ble_eq_true rfl) rfl rfl arX1_likeliestEnd (as := [.int x1]) rfl (Nat.le_of_ble_eq_true rfl) (Nat.le_of_ble_eq_true rfl) (Nat.le_of_ble_eq_true rfl) fit0 h (fun r3 S2 h => ?_)
    refine mr_istore_n (L1 := [some (.ref 7), some (.int x1), some (.int r3)]) C0 dX1_findLeanings_18 rfl (Nat.le_of_ble_eq_true rfl) rfl ?_
    refine mr_aload_n C0 dX1_findLeanings_19 rfl (i := 0) rfl ?_
    refine mr_getR C0 dX1_findLeanings_20 fl_X1_19 (Nat.le_of_ble_eq_true rfl) rfl rfl ?_
    refine mr_iload_n C0 dX1_findLeanings_23 rfl (i := 1) rfl ?_
    refine mr_iload_n C0 dX1_findLeanings_24 rfl (i := 2) rfl ?_
    refine mr_bipush (v := 6) C0 dX1_findLeanings_25 (by decide) ?_
    refine mr_icmp_ne C0 dX1_findLeanings_27 (tgt := 35) (by decide) (fun c4 => ?_) (fun c4 => ?_)
    · have h := h.1 c4
      refine mr_aload_n C0 dX1_findLeanings_35 rfl (i := 0) rfl ?_
      refine mr_getR C0 dX1_findLeanings_36 fl_X1_29 (Nat.le_of_ble_eq_true rfl) rfl rfl ?_
      refine mr_getR C0 dX1_findLeanings_39 fl_X1_93 (Nat.le_of_ble_eq_true rfl) rfl rfl ?_
      refine mr_iload_n C0 dX1_findLeanings_42 rfl (i := 2) rfl ?_
      have g5 := h.1
      have h := h.2
      refine mr_iald C0 dX1_findLeanings_43 (Nat.le_of_ble_eq_true rfl) rfl g5 ?_
      have g6 := h.1
      have h := h.2
      refine mr_iast C0 dX1_findLeanings_44 (Nat.le_of_ble_eq_true rfl) rfl g6 ?_
      refine mr_iinc (v := (x1 + 1)) (L1 := [some (.ref 7), some (.int (x1 + 1)), some (.int r3)]) C0 dX1_findLeanings_45 rfl rfl (Nat.le_of_ble_eq_true rfl) rfl ?_
      refine mr_goto C0 dX1_findLeanings_48 (tgt := 2) (by decide) ?_
      refine mr_mask (L1 := [some (.ref 7), some (.int (x1 + 1)), none]) C0 [true, true, false] rfl ?_
      exact h zp0 zl0 ze0 zs0 zm0 zargs0 zbelow0 zmeth0 zc0 zD0 zad0 zac0 C0 hr0 hk0
    · have h := h.2 c4
      refine mr_bipush (v := (-9)) C0 dX1_findLeanings_30 (by decide) ?_
      refine mr_goto C0 dX1_findLeanings_32 (tgt := 44) (by decide) ?_
      have g7 := h.1
      have h := h.2
      refine mr_iast C0 dX1_findLeanings_44 (Nat.le_of_ble_eq_true rfl) rfl g7 ?_
      refine mr_iinc (v := (x1 + 1)) (L1 := [some (.ref 7), some (.int (x1 + 1)), some (.int r3)]) C0 dX1_findLeanings_45 rfl rfl (Nat.le_of_ble_eq_true rfl) rfl ?_
      refine mr_goto C0 dX1_findLeanings_48 (tgt := 2) (by decide) ?_
      refine mr_mask (L1 := [some (.ref 7), some (.int (x1 + 1)), none]) C0 [true, true, false] rfl ?_
      exact h zp0 zl0 ze0 zs0 zm0 zargs0 zbelow0 zmeth0 zc0 zD0 zad0 zac0 C0 hr0 hk0
set_option maxRecDepth 100000 in
set_option maxHeartbeats 4000000 in
theorem eX1_winnerWithout (x1 : Int32) (S : St) (Q : Int32 → St → Prop) (h : CallV mdX1_tallyWithout [.ref 7, .int x1] S (qV fun S1 => V mdX1_winnerWithout 9 [some (.ref 7), none, some (.int (0 : Int32)), some (.int (1 : Int32))] [] S1 (qI Q))) : CallV mdX1_winnerWithout [.ref 7, .int x1] S (qI Q) := by
  refine CallV_of mdX1_winnerWithout plX1_winnerWithout 2 (Nat.le_of_ble_eq_true rfl) rfl ?_
  intro zp0 zl0 ze0 zs0 zm0 zargs0 zbelow0 zmeth0 zc0 zD0 zad0 zac0 C0 hr0 hk0
  refine mr_aload_n C0 dX1_winnerWithout_0 rfl (i := 0) rfl ?_
  refine mr_iload_n C0 dX1_winnerWithout_1 rfl (i := 1) rfl ?_
  refine mr_callVV C0 mdX1_tallyWithout dX1_winnerWithout_2 clX1_tallyWithout ml_X1_121 (Nat.le_of_ble_eq_true rfl) rfl rfl arX1_tallyWithout (as := [.int x1]) rfl (Nat.le_of_ble_eq_true rfl) (Nat.le_of_ble_eq_true rfl) (Nat.le_of_ble_eq_true rfl) fit0 h (fun S1 h => ?_)
  refine mr_iconst (v := 0) C0 dX1_winnerWithout_5 (by decide) ?_
  refine mr_istore_n (L1 := [some (.ref 7), some (.int x1), some (.int (0 : Int32)), none]) C0 dX1_winnerWithout_6 rfl (Nat.le_of_ble_eq_true rfl) rfl ?_
  refine mr_iconst (v := 1) C0 dX1_winnerWithout_7 (by decide) ?_
  refine mr_istore_n (L1 := [some (.ref 7), some (.int x1), some (.int (0 : Int32)), some (.int (1 : Int32))]) C0 dX1_winnerWithout_8 rfl (Nat.le_of_ble_eq_true rfl) rfl ?_
  refine mr_mask (L1 := [some (.ref 7), none, some (.int (0 : Int32)), some (.int (1 : Int32))]) C0 [true, false, true, true] rfl ?_
  exact h zp0 zl0 ze0 zs0 zm0 zargs0 zbelow0 zmeth0 zc0 zD0 zad0 zac0 C0 hr0 hk0
set_option maxRecDepth 100000 in
set_option maxHeartbeats 4000000 in
theorem eX1_winnerWithout_9 (x2 : Int32) (x3 : Int32) (S : St) (Q : Int32 → St → Prop) (h : (((4 : Int32) ≤ x3 → Q x2 S) ∧ (¬ (4 : Int32) ≤ x3 → (vp_in x3 4) ∧ (vp_in x2 4) ∧ (((S.1 17 x3.toNatClampNeg) ≤ (S.1 17 x2.toNatClampNeg) → V mdX1_winnerWithout 9 [some (.ref 7), none, some (.int x2), some (.int (x3 + 1))] [] S (qI Q)) ∧ (¬ (S.1 17 x3.toNatClampNeg) ≤ (S.1 17 x2.toNatClampNeg) → V mdX1_winnerWithout 9 [some (.ref 7), none, some (.int x3), some (.int (x3 + 1))] [] S (qI Q)))))) : V mdX1_winnerWithout 9 [some (.ref 7), none, some (.int x2), some (.int x3)] [] S (qI Q) := by
  intro zp0 zl0 ze0 zs0 zm0 zargs0 zbelow0 zmeth0 zc0 zD0 zad0 zac0 C0 hr0 hk0
  refine mr_iload_n C0 dX1_winnerWithout_9 rfl (i := 3) rfl ?_
  refine mr_iconst (v := 4) C0 dX1_winnerWithout_10 (by decide) ?_
  refine mr_icmp_ge C0 dX1_winnerWithout_11 (tgt := 37) (by decide) (fun c1 => ?_) (fun c1 => ?_)
  · have h := h.1 c1
    refine mr_iload_n C0 dX1_winnerWithout_37 rfl (i := 2) rfl ?_
    refine mr_iret C0 hr0 hk0 dX1_winnerWithout_38 (qI_mk ?_)
    exact h
  · have h := h.2 c1
    refine mr_aload_n C0 dX1_winnerWithout_14 rfl (i := 0) rfl ?_
    refine mr_getR C0 dX1_winnerWithout_15 fl_X1_23 (Nat.le_of_ble_eq_true rfl) rfl rfl ?_
    refine mr_iload_n C0 dX1_winnerWithout_18 rfl (i := 3) rfl ?_
    have g2 := h.1
    have h := h.2
    refine mr_iald C0 dX1_winnerWithout_19 (Nat.le_of_ble_eq_true rfl) rfl g2 ?_
    refine mr_aload_n C0 dX1_winnerWithout_20 rfl (i := 0) rfl ?_
    refine mr_getR C0 dX1_winnerWithout_21 fl_X1_23 (Nat.le_of_ble_eq_true rfl) rfl rfl ?_
    refine mr_iload_n C0 dX1_winnerWithout_24 rfl (i := 2) rfl ?_
    have g3 := h.1
    have h := h.2
    refine mr_iald C0 dX1_winnerWithout_25 (Nat.le_of_ble_eq_true rfl) rfl g3 ?_
    refine mr_icmp_le C0 dX1_winnerWithout_26 (tgt := 31) (by decide) (fun c4 => ?_) (fun c4 => ?_)
    · have h := h.1 c4
      refine mr_iinc (v := (x3 + 1)) (L1 := [some (.ref 7), none, some (.int x2), some (.int (x3 + 1))]) C0 dX1_winnerWithout_31 rfl rfl (Nat.le_of_ble_eq_true rfl) rfl ?_
      refine mr_goto C0 dX1_winnerWithout_34 (tgt := 9) (by decide) ?_
      exact h zp0 zl0 ze0 zs0 zm0 zargs0 zbelow0 zmeth0 zc0 zD0 zad0 zac0 C0 hr0 hk0
    · have h := h.2 c4
      refine mr_iload_n C0 dX1_winnerWithout_29 rfl (i := 3) rfl ?_
      refine mr_istore_n (L1 := [some (.ref 7), none, some (.int x3), some (.int x3)]) C0 dX1_winnerWithout_30 rfl (Nat.le_of_ble_eq_true rfl) rfl ?_
      refine mr_iinc (v := (x3 + 1)) (L1 := [some (.ref 7), none, some (.int x3), some (.int (x3 + 1))]) C0 dX1_winnerWithout_31 rfl rfl (Nat.le_of_ble_eq_true rfl) rfl ?_
      refine mr_goto C0 dX1_winnerWithout_34 (tgt := 9) (by decide) ?_
      exact h zp0 zl0 ze0 zs0 zm0 zargs0 zbelow0 zmeth0 zc0 zD0 zad0 zac0 C0 hr0 hk0
set_option maxRecDepth 100000 in
set_option maxHeartbeats 4000000 in
theorem eX1_tallyWithout (x1 : Int32) (S : St) (Q : St → Prop) (h : CallV mdJ7_fill_53178 [.ref 17, .int (0 : Int32)] S (qV fun S1 => V mdX1_tallyWithout 10 [some (.ref 7), some (.int x1), some (.int (0 : Int32))] [] S1 (qV Q))) : CallV mdX1_tallyWithout [.ref 7, .int x1] S (qV Q) := by
  refine CallV_of mdX1_tallyWithout plX1_tallyWithout 1 (Nat.le_of_ble_eq_true rfl) rfl ?_
  intro zp0 zl0 ze0 zs0 zm0 zargs0 zbelow0 zmeth0 zc0 zD0 zad0 zac0 C0 hr0 hk0
  refine mr_aload_n C0 dX1_tallyWithout_0 rfl (i := 0) rfl ?_
  refine mr_getR C0 dX1_tallyWithout_1 fl_X1_23 (Nat.le_of_ble_eq_true rfl) rfl rfl ?_
  refine mr_iconst (v := 0) C0 dX1_tallyWithout_4 (by decide) ?_
  refine mr_callSV C0 mdJ7_fill_53178 dX1_tallyWithout_5 clJ7_fill_53178 ml_X1_37 arJ7_fill_53178 (as := [.ref 17, .int (0 : Int32)]) rfl (Nat.le_of_ble_eq_true rfl) (Nat.le_of_ble_eq_true rfl) (Nat.le_of_ble_eq_true rfl) fit0 h (fun S1 h => ?_)
  refine mr_iconst (v := 0) C0 dX1_tallyWithout_8 (by decide) ?_
  refine mr_istore_n (L1 := [some (.ref 7), some (.int x1), some (.int (0 : Int32))]) C0 dX1_tallyWithout_9 rfl (Nat.le_of_ble_eq_true rfl) rfl ?_
  exact h zp0 zl0 ze0 zs0 zm0 zargs0 zbelow0 zmeth0 zc0 zD0 zad0 zac0 C0 hr0 hk0
set_option maxRecDepth 100000 in
set_option maxHeartbeats 4000000 in
theorem eX1_tallyWithout_10 (x1 : Int32) (x2 : Int32) (S : St) (Q : St → Prop) (h : (((S.1 4 2) ≤ x2 → Q S) ∧ (¬ (S.1 4 2) ≤ x2 → ((x2 = x1 → V mdX1_tallyWithout 10 [some (.ref 7), some (.int x1), some (.int (x2 + 1))] [] S (qV Q)) ∧ (¬ x2 = x1 → (vp_in x2 8) ∧ (((S.1 16 x2.toNatClampNeg) = (-9 : Int32) → V mdX1_tallyWithout 10 [some (.ref 7), some (.int x1), some (.int (x2 + 1))] [] S (qV Q)) ∧ (¬ (S.1 16 x2.toNatClampNeg) = (-9 : Int32) → (vp_in x2 8) ∧ (vp_in (S.1 16 x2.toNatClampNeg) 4) ∧ (vp_in (S.1 16 x2.toNatClampNeg) 4) ∧ V mdX1_tallyWithout 10 [some (.ref 7), some (.int x1), some (.int (x2 + 1))] [] (sI S 17 ((S.1 16 x2.toNatClampNeg).toNatClampNeg) ((S.1 17 ((S.1 16 x2.toNatClampNeg).toNatClampNeg)) + (1 : Int32))) (qV Q)))))))) : V mdX1_tallyWithout 10 [some (.ref 7), some (.int x1), some (.int x2)] [] S (qV Q) := by
  intro zp0 zl0 ze0 zs0 zm0 zargs0 zbelow0 zmeth0 zc0 zD0 zad0 zac0 C0 hr0 hk0
  refine mr_iload_n C0 dX1_tallyWithout_10 rfl (i := 2) rfl ?_
  refine mr_aload_n C0 dX1_tallyWithout_11 rfl (i := 0) rfl ?_
  refine mr_getR C0 dX1_tallyWithout_12 fl_X1_33 (Nat.le_of_ble_eq_true rfl) rfl rfl ?_
  refine mr_getI C0 dX1_tallyWithout_15 fl_X1_48 (Nat.le_of_ble_eq_true rfl) rfl rfl ?_
  refine mr_icmp_ge C0 dX1_tallyWithout_18 (tgt := 58) (by decide) (fun c1 => ?_) (fun c1 => ?_)
  · have h := h.1 c1
    refine mr_vret C0 hr0 hk0 dX1_tallyWithout_58 (qV_mk ?_)
    exact h
  · have h := h.2 c1
    refine mr_iload_n C0 dX1_tallyWithout_21 rfl (i := 2) rfl ?_
    refine mr_iload_n C0 dX1_tallyWithout_22 rfl (i := 1) rfl ?_
    refine mr_icmp_eq C0 dX1_tallyWithout_23 (tgt := 52) (by decide) (fun c2 => ?_) (fun c2 => ?_)
    · have h := h.1 c2
      refine mr_iinc (v := (x2 + 1)) (L1 := [some (.ref 7), some (.int x1), some (.int (x2 + 1))]) C0 dX1_tallyWithout_52 rfl rfl (Nat.le_of_ble_eq_true rfl) rfl ?_
      refine mr_goto C0 dX1_tallyWithout_55 (tgt := 10) (by decide) ?_
      exact h zp0 zl0 ze0 zs0 zm0 zargs0 zbelow0 zmeth0 zc0 zD0 zad0 zac0 C0 hr0 hk0
    · have h := h.2 c2
      refine mr_aload_n C0 dX1_tallyWithout_26 rfl (i := 0) rfl ?_
      refine mr_getR C0 dX1_tallyWithout_27 fl_X1_19 (Nat.le_of_ble_eq_true rfl) rfl rfl ?_
      refine mr_iload_n C0 dX1_tallyWithout_30 rfl (i := 2) rfl ?_
      have g3 := h.1
      have h := h.2
      refine mr_iald C0 dX1_tallyWithout_31 (Nat.le_of_ble_eq_true rfl) rfl g3 ?_
      refine mr_bipush (v := (-9)) C0 dX1_tallyWithout_32 (by decide) ?_
      refine mr_icmp_eq C0 dX1_tallyWithout_34 (tgt := 52) (by decide) (fun c4 => ?_) (fun c4 => ?_)
      · have h := h.1 c4
        refine mr_iinc (v := (x2 + 1)) (L1 := [some (.ref 7), some (.int x1), some (.int (x2 + 1))]) C0 dX1_tallyWithout_52 rfl rfl (Nat.le_of_ble_eq_true rfl) rfl ?_
        refine mr_goto C0 dX1_tallyWithout_55 (tgt := 10) (by decide) ?_
        exact h zp0 zl0 ze0 zs0 zm0 zargs0 zbelow0 zmeth0 zc0 zD0 zad0 zac0 C0 hr0 hk0
      · have h := h.2 c4
        refine mr_aload_n C0 dX1_tallyWithout_37 rfl (i := 0) rfl ?_
        refine mr_getR C0 dX1_tallyWithout_38 fl_X1_23 (Nat.le_of_ble_eq_true rfl) rfl rfl ?_
        refine mr_aload_n C0 dX1_tallyWithout_41 rfl (i := 0) rfl ?_
        refine mr_getR C0 dX1_tallyWithout_42 fl_X1_19 (Nat.le_of_ble_eq_true rfl) rfl rfl ?_
        refine mr_iload_n C0 dX1_tallyWithout_45 rfl (i := 2) rfl ?_
        have g5 := h.1
        have h := h.2
        refine mr_iald C0 dX1_tallyWithout_46 (Nat.le_of_ble_eq_true rfl) rfl g5 ?_
        refine mr_dup2 C0 dX1_tallyWithout_47 rfl rfl ?_
        have g6 := h.1
        have h := h.2
        refine mr_iald C0 dX1_tallyWithout_48 (Nat.le_of_ble_eq_true rfl) rfl g6 ?_
        refine mr_iconst (v := 1) C0 dX1_tallyWithout_49 (by decide) ?_
        refine mr_iadd C0 dX1_tallyWithout_50 ?_
        have g7 := h.1
        have h := h.2
        refine mr_iast C0 dX1_tallyWithout_51 (Nat.le_of_ble_eq_true rfl) rfl g7 ?_
        refine mr_iinc (v := (x2 + 1)) (L1 := [some (.ref 7), some (.int x1), some (.int (x2 + 1))]) C0 dX1_tallyWithout_52 rfl rfl (Nat.le_of_ble_eq_true rfl) rfl ?_
        refine mr_goto C0 dX1_tallyWithout_55 (tgt := 10) (by decide) ?_
        exact h zp0 zl0 ze0 zs0 zm0 zargs0 zbelow0 zmeth0 zc0 zD0 zad0 zac0 C0 hr0 hk0
set_option maxRecDepth 100000 in
set_option maxHeartbeats 4000000 in
theorem eX1_damsReached (x1 : Int32) (S : St) (Q : Int64 → St → Prop) (h : CallV mdX1_dropAll [.ref 7, .int x1] S (qV fun S1 => V mdX1_damsReached 10 [some (.ref 7), none, some (.long (0 : Int64)), none, some (.int (0 : Int32)), none] [] S1 (qJ Q))) : CallV mdX1_damsReached [.ref 7, .int x1] S (qJ Q) := by
  refine CallV_of mdX1_damsReached plX1_damsReached 4 (Nat.le_of_ble_eq_true rfl) rfl ?_
  intro zp0 zl0 ze0 zs0 zm0 zargs0 zbelow0 zmeth0 zc0 zD0 zad0 zac0 C0 hr0 hk0
  refine mr_aload_n C0 dX1_damsReached_0 rfl (i := 0) rfl ?_
  refine mr_iload_n C0 dX1_damsReached_1 rfl (i := 1) rfl ?_
  refine mr_callVV C0 mdX1_dropAll dX1_damsReached_2 clX1_dropAll ml_X1_104 (Nat.le_of_ble_eq_true rfl) rfl rfl arX1_dropAll (as := [.int x1]) rfl (Nat.le_of_ble_eq_true rfl) (Nat.le_of_ble_eq_true rfl) (Nat.le_of_ble_eq_true rfl) fit0 h (fun S1 h => ?_)
  refine mr_lconst (v := 0) C0 dX1_damsReached_5 (by decide) ?_
  refine mr_lstore_n (L1 := [some (.ref 7), some (.int x1), some (.long (0 : Int64)), none, none, none]) C0 dX1_damsReached_6 rfl (Nat.le_of_ble_eq_true rfl) rfl ?_
  refine mr_iconst (v := 0) C0 dX1_damsReached_7 (by decide) ?_
  refine mr_istore (L1 := [some (.ref 7), some (.int x1), some (.long (0 : Int64)), none, some (.int (0 : Int32)), none]) C0 dX1_damsReached_8 (Nat.le_of_ble_eq_true rfl) rfl ?_
  refine mr_mask (L1 := [some (.ref 7), none, some (.long (0 : Int64)), none, some (.int (0 : Int32)), none]) C0 [true, false, true, false, true, false] rfl ?_
  exact h zp0 zl0 ze0 zs0 zm0 zargs0 zbelow0 zmeth0 zc0 zD0 zad0 zac0 C0 hr0 hk0
set_option maxRecDepth 100000 in
set_option maxHeartbeats 4000000 in
theorem eX1_damsReached_10 (y2 : Int64) (x4 : Int32) (S : St) (Q : Int64 → St → Prop) (h : ((((S.1 1 2) * (S.1 1 3)) ≤ x4 → Q y2 S) ∧ (¬ ((S.1 1 2) * (S.1 1 3)) ≤ x4 → (vp_in x4 36) ∧ ((0 < (S.1 9 x4.toNatClampNeg) → (vp_in x4 30) ∧ ((¬ (S.1 2 x4.toNatClampNeg) = (4 : Int32) → V mdX1_damsReached 10 [some (.ref 7), none, some (.long y2), none, some (.int (x4 + 1)), none] [] S (qJ Q)) ∧ ((S.1 2 x4.toNatClampNeg) = (4 : Int32) → V mdX1_damsReached 10 [some (.ref 7), none, some (.long (y2 ||| ((1 : Int64) <<< (x4.toInt64 &&& 63)))), none, some (.int (x4 + 1)), none] [] S (qJ Q)))) ∧ (¬ 0 < (S.1 9 x4.toNatClampNeg) → (vp_in x4 36) ∧ ((0 < (S.1 10 x4.toNatClampNeg) → (vp_in x4 30) ∧ ((¬ (S.1 2 x4.toNatClampNeg) = (4 : Int32) → V mdX1_damsReached 10 [some (.ref 7), none, some (.long y2), none, some (.int (x4 + 1)), none] [] S (qJ Q)) ∧ ((S.1 2 x4.toNatClampNeg) = (4 : Int32) → V mdX1_damsReached 10 [some (.ref 7), none, some (.long (y2 ||| ((1 : Int64) <<< (x4.toInt64 &&& 63)))), none, some (.int (x4 + 1)), none] [] S (qJ Q)))) ∧ (¬ 0 < (S.1 10 x4.toNatClampNeg) → (vp_in x4 36) ∧ (((S.1 11 x4.toNatClampNeg) ≤ 0 → (vp_in x4 30) ∧ ((¬ (S.1 2 x4.toNatClampNeg) = (4 : Int32) → V mdX1_damsReached 10 [some (.ref 7), none, some (.long y2), none, some (.int (x4 + 1)), none] [] S (qJ Q)) ∧ ((S.1 2 x4.toNatClampNeg) = (4 : Int32) → V mdX1_damsReached 10 [some (.ref 7), none, some (.long y2), none, some (.int (x4 + 1)), none] [] S (qJ Q)))) ∧ (¬ (S.1 11 x4.toNatClampNeg) ≤ 0 → (vp_in x4 30) ∧ ((¬ (S.1 2 x4.toNatClampNeg) = (4 : Int32) → V mdX1_damsReached 10 [some (.ref 7), none, some (.long y2), none, some (.int (x4 + 1)), none] [] S (qJ Q)) ∧ ((S.1 2 x4.toNatClampNeg) = (4 : Int32) → V mdX1_damsReached 10 [some (.ref 7), none, some (.long (y2 ||| ((1 : Int64) <<< (x4.toInt64 &&& 63)))), none, some (.int (x4 + 1)), none] [] S (qJ Q)))))))))))) : V mdX1_damsReached 10 [some (.ref 7), none, some (.long y2), none, some (.int x4), none] [] S (qJ Q) := by
  intro zp0 zl0 ze0 zs0 zm0 zargs0 zbelow0 zmeth0 zc0 zD0 zad0 zac0 C0 hr0 hk0
  refine mr_iload C0 dX1_damsReached_10 rfl ?_
  refine mr_aload_n C0 dX1_damsReached_12 rfl (i := 0) rfl ?_
  refine mr_getR C0 dX1_damsReached_13 fl_X1_29 (Nat.le_of_ble_eq_true rfl) rfl rfl ?_
  refine mr_callVI C0 mdX2_cells dX1_damsReached_16 clX2_cells ml_X1_60 (Nat.le_of_ble_eq_true rfl) rfl rfl arX2_cells (as := []) rfl (Nat.le_of_ble_eq_true rfl) (Nat.le_of_ble_eq_true rfl) (Nat.le_of_ble_eq_true rfl) fit0 (CallV_of mdX2_cells plX2_cells 0 (Nat.le_of_ble_eq_true rfl) rfl ?_) (fun _ _ h => h)
  intro zp1 zl1 ze1 zs1 zm1 zargs1 zbelow1 zmeth1 zc1 zD1 zad1 zac1 C1 hr1 hk1
  refine mr_aload_n C1 dX2_cells_0 rfl (i := 0) rfl ?_
  refine mr_getI C1 dX2_cells_1 fl_X2_18 (Nat.le_of_ble_eq_true rfl) rfl rfl ?_
  refine mr_aload_n C1 dX2_cells_4 rfl (i := 0) rfl ?_
  refine mr_getI C1 dX2_cells_5 fl_X2_22 (Nat.le_of_ble_eq_true rfl) rfl rfl ?_
  refine mr_imul C1 dX2_cells_8 ?_
  refine mr_iret C1 hr1 hk1 dX2_cells_9 (qI_mk ?_)
  refine mr_icmp_ge C0 dX1_damsReached_19 (tgt := 97) (by decide) (fun c1 => ?_) (fun c1 => ?_)
  · have h := h.1 c1
    refine mr_lload_n C0 dX1_damsReached_97 rfl (i := 2) rfl ?_
    refine mr_lret C0 hr0 hk0 dX1_damsReached_98 (qJ_mk ?_)
    exact h
  · have h := h.2 c1
    refine mr_aload_n C0 dX1_damsReached_22 rfl (i := 0) rfl ?_
    refine mr_getR C0 dX1_damsReached_23 fl_X1_11 (Nat.le_of_ble_eq_true rfl) rfl rfl ?_
    refine mr_iconst (v := 0) C0 dX1_damsReached_26 (by decide) ?_
    refine mr_aald (d := 1) (r := 9) C0 dX1_damsReached_27 (Nat.le_of_ble_eq_true rfl) rfl (by unfold vp_in; decide) (by decide) ?_
    refine mr_iload C0 dX1_damsReached_28 rfl ?_
    have g2 := h.1
    have h := h.2
    refine mr_iald C0 dX1_damsReached_30 (Nat.le_of_ble_eq_true rfl) rfl g2 ?_
    refine mr_if_gt C0 dX1_damsReached_31 (tgt := 58) (by decide) (fun c3 => ?_) (fun c3 => ?_)
    · have h := h.1 c3
      refine mr_iconst (v := 1) C0 dX1_damsReached_58 (by decide) ?_
      refine mr_goto C0 dX1_damsReached_59 (tgt := 63) (by decide) ?_
      refine mr_istore (L1 := [some (.ref 7), none, some (.long y2), none, some (.int x4), some (.int (1 : Int32))]) C0 dX1_damsReached_63 (Nat.le_of_ble_eq_true rfl) rfl ?_
      refine mr_aload_n C0 dX1_damsReached_65 rfl (i := 0) rfl ?_
      refine mr_getR C0 dX1_damsReached_66 fl_X1_29 (Nat.le_of_ble_eq_true rfl) rfl rfl ?_
      refine mr_getR C0 dX1_damsReached_69 fl_X1_66 (Nat.le_of_ble_eq_true rfl) rfl rfl ?_
      refine mr_iload C0 dX1_damsReached_72 rfl ?_
      have g4 := h.1
      have h := h.2
      refine mr_iald C0 dX1_damsReached_74 (Nat.le_of_ble_eq_true rfl) rfl g4 ?_
      refine mr_iconst (v := 4) C0 dX1_damsReached_75 (by decide) ?_
      refine mr_icmp_ne C0 dX1_damsReached_76 (tgt := 91) (by decide) (fun c5 => ?_) (fun c5 => ?_)
      · have h := h.1 c5
        refine mr_iinc (v := (x4 + 1)) (L1 := [some (.ref 7), none, some (.long y2), none, some (.int (x4 + 1)), some (.int (1 : Int32))]) C0 dX1_damsReached_91 rfl rfl (Nat.le_of_ble_eq_true rfl) rfl ?_
        refine mr_goto C0 dX1_damsReached_94 (tgt := 10) (by decide) ?_
        refine mr_mask (L1 := [some (.ref 7), none, some (.long y2), none, some (.int (x4 + 1)), none]) C0 [true, false, true, false, true, false] rfl ?_
        exact h zp0 zl0 ze0 zs0 zm0 zargs0 zbelow0 zmeth0 zc0 zD0 zad0 zac0 C0 hr0 hk0
      · have h := h.2 c5
        refine mr_iload C0 dX1_damsReached_79 rfl ?_
        refine mr_if_eq C0 dX1_damsReached_81 (tgt := 91) (by decide) (fun q => absurd q (by decide)) (fun _ => ?_)
        refine mr_lload_n C0 dX1_damsReached_84 rfl (i := 2) rfl ?_
        refine mr_lconst (v := 1) C0 dX1_damsReached_85 (by decide) ?_
        refine mr_iload C0 dX1_damsReached_86 rfl ?_
        refine mr_lshl C0 dX1_damsReached_88 ?_
        refine mr_lor C0 dX1_damsReached_89 ?_
        refine mr_lstore_n (L1 := [some (.ref 7), none, some (.long (y2 ||| ((1 : Int64) <<< (x4.toInt64 &&& 63)))), none, some (.int x4), some (.int (1 : Int32))]) C0 dX1_damsReached_90 rfl (Nat.le_of_ble_eq_true rfl) rfl ?_
        refine mr_iinc (v := (x4 + 1)) (L1 := [some (.ref 7), none, some (.long (y2 ||| ((1 : Int64) <<< (x4.toInt64 &&& 63)))), none, some (.int (x4 + 1)), some (.int (1 : Int32))]) C0 dX1_damsReached_91 rfl rfl (Nat.le_of_ble_eq_true rfl) rfl ?_
        refine mr_goto C0 dX1_damsReached_94 (tgt := 10) (by decide) ?_
        refine mr_mask (L1 := [some (.ref 7), none, some (.long (y2 ||| ((1 : Int64) <<< (x4.toInt64 &&& 63)))), none, some (.int (x4 + 1)), none]) C0 [true, false, true, false, true, false] rfl ?_
        exact h zp0 zl0 ze0 zs0 zm0 zargs0 zbelow0 zmeth0 zc0 zD0 zad0 zac0 C0 hr0 hk0
    · have h := h.2 c3
      refine mr_aload_n C0 dX1_damsReached_34 rfl (i := 0) rfl ?_
      refine mr_getR C0 dX1_damsReached_35 fl_X1_11 (Nat.le_of_ble_eq_true rfl) rfl rfl ?_
      refine mr_iconst (v := 1) C0 dX1_damsReached_38 (by decide) ?_
      refine mr_aald (d := 1) (r := 10) C0 dX1_damsReached_39 (Nat.le_of_ble_eq_true rfl) rfl (by unfold vp_in; decide) (by decide) ?_
      refine mr_iload C0 dX1_damsReached_40 rfl ?_
      have g6 := h.1
      have h := h.2
      refine mr_iald C0 dX1_damsReached_42 (Nat.le_of_ble_eq_true rfl) rfl g6 ?_
      refine mr_if_gt C0 dX1_damsReached_43 (tgt := 58) (by decide) (fun c7 => ?_) (fun c7 => ?_)
      · have h := h.1 c7
        refine mr_iconst (v := 1) C0 dX1_damsReached_58 (by decide) ?_
        refine mr_goto C0 dX1_damsReached_59 (tgt := 63) (by decide) ?_
        refine mr_istore (L1 := [some (.ref 7), none, some (.long y2), none, some (.int x4), some (.int (1 : Int32))]) C0 dX1_damsReached_63 (Nat.le_of_ble_eq_true rfl) rfl ?_
        refine mr_aload_n C0 dX1_damsReached_65 rfl (i := 0) rfl ?_
        refine mr_getR C0 dX1_damsReached_66 fl_X1_29 (Nat.le_of_ble_eq_true rfl) rfl rfl ?_
        refine mr_getR C0 dX1_damsReached_69 fl_X1_66 (Nat.le_of_ble_eq_true rfl) rfl rfl ?_
        refine mr_iload C0 dX1_damsReached_72 rfl ?_
        have g8 := h.1
        have h := h.2
        refine mr_iald C0 dX1_damsReached_74 (Nat.le_of_ble_eq_true rfl) rfl g8 ?_
        refine mr_iconst (v := 4) C0 dX1_damsReached_75 (by decide) ?_
        refine mr_icmp_ne C0 dX1_damsReached_76 (tgt := 91) (by decide) (fun c9 => ?_) (fun c9 => ?_)
        · have h := h.1 c9
          refine mr_iinc (v := (x4 + 1)) (L1 := [some (.ref 7), none, some (.long y2), none, some (.int (x4 + 1)), some (.int (1 : Int32))]) C0 dX1_damsReached_91 rfl rfl (Nat.le_of_ble_eq_true rfl) rfl ?_
          refine mr_goto C0 dX1_damsReached_94 (tgt := 10) (by decide) ?_
          refine mr_mask (L1 := [some (.ref 7), none, some (.long y2), none, some (.int (x4 + 1)), none]) C0 [true, false, true, false, true, false] rfl ?_
          exact h zp0 zl0 ze0 zs0 zm0 zargs0 zbelow0 zmeth0 zc0 zD0 zad0 zac0 C0 hr0 hk0
        · have h := h.2 c9
          refine mr_iload C0 dX1_damsReached_79 rfl ?_
          refine mr_if_eq C0 dX1_damsReached_81 (tgt := 91) (by decide) (fun q => absurd q (by decide)) (fun _ => ?_)
          refine mr_lload_n C0 dX1_damsReached_84 rfl (i := 2) rfl ?_
          refine mr_lconst (v := 1) C0 dX1_damsReached_85 (by decide) ?_
          refine mr_iload C0 dX1_damsReached_86 rfl ?_
          refine mr_lshl C0 dX1_damsReached_88 ?_
          refine mr_lor C0 dX1_damsReached_89 ?_
          refine mr_lstore_n (L1 := [some (.ref 7), none, some (.long (y2 ||| ((1 : Int64) <<< (x4.toInt64 &&& 63)))), none, some (.int x4), some (.int (1 : Int32))]) C0 dX1_damsReached_90 rfl (Nat.le_of_ble_eq_true rfl) rfl ?_
          refine mr_iinc (v := (x4 + 1)) (L1 := [some (.ref 7), none, some (.long (y2 ||| ((1 : Int64) <<< (x4.toInt64 &&& 63)))), none, some (.int (x4 + 1)), some (.int (1 : Int32))]) C0 dX1_damsReached_91 rfl rfl (Nat.le_of_ble_eq_true rfl) rfl ?_
          refine mr_goto C0 dX1_damsReached_94 (tgt := 10) (by decide) ?_
          refine mr_mask (L1 := [some (.ref 7), none, some (.long (y2 ||| ((1 : Int64) <<< (x4.toInt64 &&& 63)))), none, some (.int (x4 + 1)), none]) C0 [true, false, true, false, true, false] rfl ?_
          exact h zp0 zl0 ze0 zs0 zm0 zargs0 zbelow0 zmeth0 zc0 zD0 zad0 zac0 C0 hr0 hk0
      · have h := h.2 c7
        refine mr_aload_n C0 dX1_damsReached_46 rfl (i := 0) rfl ?_
        refine mr_getR C0 dX1_damsReached_47 fl_X1_11 (Nat.le_of_ble_eq_true rfl) rfl rfl ?_
        refine mr_iconst (v := 2) C0 dX1_damsReached_50 (by decide) ?_
        refine mr_aald (d := 1) (r := 11) C0 dX1_damsReached_51 (Nat.le_of_ble_eq_true rfl) rfl (by unfold vp_in; decide) (by decide) ?_
        refine mr_iload C0 dX1_damsReached_52 rfl ?_
        have g10 := h.1
        have h := h.2
        refine mr_iald C0 dX1_damsReached_54 (Nat.le_of_ble_eq_true rfl) rfl g10 ?_
        refine mr_if_le C0 dX1_damsReached_55 (tgt := 62) (by decide) (fun c11 => ?_) (fun c11 => ?_)
        · have h := h.1 c11
          refine mr_iconst (v := 0) C0 dX1_damsReached_62 (by decide) ?_
          refine mr_istore (L1 := [some (.ref 7), none, some (.long y2), none, some (.int x4), some (.int (0 : Int32))]) C0 dX1_damsReached_63 (Nat.le_of_ble_eq_true rfl) rfl ?_
          refine mr_aload_n C0 dX1_damsReached_65 rfl (i := 0) rfl ?_
          refine mr_getR C0 dX1_damsReached_66 fl_X1_29 (Nat.le_of_ble_eq_true rfl) rfl rfl ?_
          refine mr_getR C0 dX1_damsReached_69 fl_X1_66 (Nat.le_of_ble_eq_true rfl) rfl rfl ?_
          refine mr_iload C0 dX1_damsReached_72 rfl ?_
          have g12 := h.1
          have h := h.2
          refine mr_iald C0 dX1_damsReached_74 (Nat.le_of_ble_eq_true rfl) rfl g12 ?_
          refine mr_iconst (v := 4) C0 dX1_damsReached_75 (by decide) ?_
          refine mr_icmp_ne C0 dX1_damsReached_76 (tgt := 91) (by decide) (fun c13 => ?_) (fun c13 => ?_)
          · have h := h.1 c13
            refine mr_iinc (v := (x4 + 1)) (L1 := [some (.ref 7), none, some (.long y2), none, some (.int (x4 + 1)), some (.int (0 : Int32))]) C0 dX1_damsReached_91 rfl rfl (Nat.le_of_ble_eq_true rfl) rfl ?_
            refine mr_goto C0 dX1_damsReached_94 (tgt := 10) (by decide) ?_
            refine mr_mask (L1 := [some (.ref 7), none, some (.long y2), none, some (.int (x4 + 1)), none]) C0 [true, false, true, false, true, false] rfl ?_
            exact h zp0 zl0 ze0 zs0 zm0 zargs0 zbelow0 zmeth0 zc0 zD0 zad0 zac0 C0 hr0 hk0
          · have h := h.2 c13
            refine mr_iload C0 dX1_damsReached_79 rfl ?_
            refine mr_if_eq C0 dX1_damsReached_81 (tgt := 91) (by decide) (fun _ => ?_) (fun q => absurd q (by decide))
            refine mr_iinc (v := (x4 + 1)) (L1 := [some (.ref 7), none, some (.long y2), none, some (.int (x4 + 1)), some (.int (0 : Int32))]) C0 dX1_damsReached_91 rfl rfl (Nat.le_of_ble_eq_true rfl) rfl ?_
            refine mr_goto C0 dX1_damsReached_94 (tgt := 10) (by decide) ?_
            refine mr_mask (L1 := [some (.ref 7), none, some (.long y2), none, some (.int (x4 + 1)), none]) C0 [true, false, true, false, true, false] rfl ?_
            exact h zp0 zl0 ze0 zs0 zm0 zargs0 zbelow0 zmeth0 zc0 zD0 zad0 zac0 C0 hr0 hk0
        · have h := h.2 c11
          refine mr_iconst (v := 1) C0 dX1_damsReached_58 (by decide) ?_
          refine mr_goto C0 dX1_damsReached_59 (tgt := 63) (by decide) ?_
          refine mr_istore (L1 := [some (.ref 7), none, some (.long y2), none, some (.int x4), some (.int (1 : Int32))]) C0 dX1_damsReached_63 (Nat.le_of_ble_eq_true rfl) rfl ?_
          refine mr_aload_n C0 dX1_damsReached_65 rfl (i := 0) rfl ?_
          refine mr_getR C0 dX1_damsReached_66 fl_X1_29 (Nat.le_of_ble_eq_true rfl) rfl rfl ?_
          refine mr_getR C0 dX1_damsReached_69 fl_X1_66 (Nat.le_of_ble_eq_true rfl) rfl rfl ?_
          refine mr_iload C0 dX1_damsReached_72 rfl ?_
          have g14 := h.1
          have h := h.2
          refine mr_iald C0 dX1_damsReached_74 (Nat.le_of_ble_eq_true rfl) rfl g14 ?_
          refine mr_iconst (v := 4) C0 dX1_damsReached_75 (by decide) ?_
          refine mr_icmp_ne C0 dX1_damsReached_76 (tgt := 91) (by decide) (fun c15 => ?_) (fun c15 => ?_)
          · have h := h.1 c15
            refine mr_iinc (v := (x4 + 1)) (L1 := [some (.ref 7), none, some (.long y2), none, some (.int (x4 + 1)), some (.int (1 : Int32))]) C0 dX1_damsReached_91 rfl rfl (Nat.le_of_ble_eq_true rfl) rfl ?_
            refine mr_goto C0 dX1_damsReached_94 (tgt := 10) (by decide) ?_
            refine mr_mask (L1 := [some (.ref 7), none, some (.long y2), none, some (.int (x4 + 1)), none]) C0 [true, false, true, false, true, false] rfl ?_
            exact h zp0 zl0 ze0 zs0 zm0 zargs0 zbelow0 zmeth0 zc0 zD0 zad0 zac0 C0 hr0 hk0
          · have h := h.2 c15
            refine mr_iload C0 dX1_damsReached_79 rfl ?_
            refine mr_if_eq C0 dX1_damsReached_81 (tgt := 91) (by decide) (fun q => absurd q (by decide)) (fun _ => ?_)
            refine mr_lload_n C0 dX1_damsReached_84 rfl (i := 2) rfl ?_
            refine mr_lconst (v := 1) C0 dX1_damsReached_85 (by decide) ?_
            refine mr_iload C0 dX1_damsReached_86 rfl ?_
            refine mr_lshl C0 dX1_damsReached_88 ?_
            refine mr_lor C0 dX1_damsReached_89 ?_
            refine mr_lstore_n (L1 := [some (.ref 7), none, some (.long (y2 ||| ((1 : Int64) <<< (x4.toInt64 &&& 63)))), none, some (.int x4), some (.int (1 : Int32))]) C0 dX1_damsReached_90 rfl (Nat.le_of_ble_eq_true rfl) rfl ?_
            refine mr_iinc (v := (x4 + 1)) (L1 := [some (.ref 7), none, some (.long (y2 ||| ((1 : Int64) <<< (x4.toInt64 &&& 63)))), none, some (.int (x4 + 1)), some (.int (1 : Int32))]) C0 dX1_damsReached_91 rfl rfl (Nat.le_of_ble_eq_true rfl) rfl ?_
            refine mr_goto C0 dX1_damsReached_94 (tgt := 10) (by decide) ?_
            refine mr_mask (L1 := [some (.ref 7), none, some (.long (y2 ||| ((1 : Int64) <<< (x4.toInt64 &&& 63)))), none, some (.int (x4 + 1)), none]) C0 [true, false, true, false, true, false] rfl ?_
            exact h zp0 zl0 ze0 zs0 zm0 zargs0 zbelow0 zmeth0 zc0 zD0 zad0 zac0 C0 hr0 hk0
set_option maxRecDepth 100000 in
set_option maxHeartbeats 4000000 in
theorem eX1_endsOf (x1 : Int32) (S : St) (Q : Int32 → St → Prop) (h : (vp_in x1 8) ∧ (vp_in x1 8) ∧ (vp_in (S.1 5 x1.toNatClampNeg) 3) ∧ CallV mdJ7_fill_53178 [.ref (9 + (S.1 5 x1.toNatClampNeg).toNatClampNeg), .int (0 : Int32)] S (qV fun S4 => (vp_in (S.1 5 x1.toNatClampNeg) 3) ∧ (vp_in (S.1 6 x1.toNatClampNeg) 36) ∧ CallV mdX1_runDown [.ref 7, .int (S.1 5 x1.toNatClampNeg), .int (1 : Int32)] (sI S4 (9 + (S.1 5 x1.toNatClampNeg).toNatClampNeg) ((S.1 6 x1.toNatClampNeg).toNatClampNeg) (32768 : Int32)) (qV fun S7 => CallV mdX1_stuck [.ref 7, .int (S.1 5 x1.toNatClampNeg)] S7 (qI fun r9 S8 => ((r9 ≤ 0 → V mdX1_endsOf 42 [some (.ref 7), none, some (.int (S.1 5 x1.toNatClampNeg)), some (.int (0 : Int32)), some (.int (0 : Int32))] [] S8 (qI Q)) ∧ (¬ r9 ≤ 0 → V mdX1_endsOf 42 [some (.ref 7), none, some (.int (S.1 5 x1.toNatClampNeg)), some (.int (64 : Int32)), some (.int (0 : Int32))] [] S8 (qI Q))))))) : CallV mdX1_endsOf [.ref 7, .int x1] S (qI Q) := by
  refine CallV_of mdX1_endsOf plX1_endsOf 3 (Nat.le_of_ble_eq_true rfl) rfl ?_
  intro zp0 zl0 ze0 zs0 zm0 zargs0 zbelow0 zmeth0 zc0 zD0 zad0 zac0 C0 hr0 hk0
  refine mr_aload_n C0 dX1_endsOf_0 rfl (i := 0) rfl ?_
  refine mr_getR C0 dX1_endsOf_1 fl_X1_33 (Nat.le_of_ble_eq_true rfl) rfl rfl ?_
  refine mr_getR C0 dX1_endsOf_4 fl_X1_54 (Nat.le_of_ble_eq_true rfl) rfl rfl ?_
  refine mr_iload_n C0 dX1_endsOf_7 rfl (i := 1) rfl ?_
  have g1 := h.1
  have h := h.2
  refine mr_iald C0 dX1_endsOf_8 (Nat.le_of_ble_eq_true rfl) rfl g1 ?_
  refine mr_istore_n (L1 := [some (.ref 7), some (.int x1), some (.int (S.1 5 x1.toNatClampNeg)), none, none]) C0 dX1_endsOf_9 rfl (Nat.le_of_ble_eq_true rfl) rfl ?_
  refine mr_aload_n C0 dX1_endsOf_10 rfl (i := 0) rfl ?_
  refine mr_iload_n C0 dX1_endsOf_11 rfl (i := 2) rfl ?_
  refine mr_aload_n C0 dX1_endsOf_12 rfl (i := 0) rfl ?_
  refine mr_getR C0 dX1_endsOf_13 fl_X1_33 (Nat.le_of_ble_eq_true rfl) rfl rfl ?_
  refine mr_getR C0 dX1_endsOf_16 fl_X1_57 (Nat.le_of_ble_eq_true rfl) rfl rfl ?_
  refine mr_iload_n C0 dX1_endsOf_19 rfl (i := 1) rfl ?_
  have g2 := h.1
  have h := h.2
  refine mr_iald C0 dX1_endsOf_20 (Nat.le_of_ble_eq_true rfl) rfl g2 ?_
  refine mr_callVV C0 mdX1_drop dX1_endsOf_21 clX1_drop ml_X1_112 (Nat.le_of_ble_eq_true rfl) rfl rfl arX1_drop (as := [.int (S.1 5 x1.toNatClampNeg), .int (S.1 6 x1.toNatClampNeg)]) rfl (Nat.le_of_ble_eq_true rfl) (Nat.le_of_ble_eq_true rfl) (Nat.le_of_ble_eq_true rfl) fit0 (CallV_of mdX1_drop plX1_drop 0 (Nat.le_of_ble_eq_true rfl) rfl ?_) (fun _ h => h)
  intro zp1 zl1 ze1 zs1 zm1 zargs1 zbelow1 zmeth1 zc1 zD1 zad1 zac1 C1 hr1 hk1
  refine mr_aload_n C1 dX1_drop_0 rfl (i := 0) rfl ?_
  refine mr_getR C1 dX1_drop_1 fl_X1_11 (Nat.le_of_ble_eq_true rfl) rfl rfl ?_
  refine mr_iload_n C1 dX1_drop_4 rfl (i := 1) rfl ?_
  have g3 := h.1
  have h := h.2
  refine mr_aald (d := 1) C1 dX1_drop_5 (Nat.le_of_ble_eq_true rfl) rfl g3 (pw_el 9 g3) ?_
  refine mr_iconst (v := 0) C1 dX1_drop_6 (by decide) ?_
  refine mr_callSV C1 mdJ7_fill_53178 dX1_drop_7 clJ7_fill_53178 ml_X1_37 arJ7_fill_53178 (as := [.ref (9 + (S.1 5 x1.toNatClampNeg).toNatClampNeg), .int (0 : Int32)]) rfl (Nat.le_of_ble_eq_true rfl) (Nat.le_of_ble_eq_true rfl) (Nat.le_of_ble_eq_true rfl) fit0 h (fun S4 h => ?_)
  refine mr_aload_n C1 dX1_drop_10 rfl (i := 0) rfl ?_
  refine mr_getR C1 dX1_drop_11 fl_X1_11 (Nat.le_of_ble_eq_true rfl) rfl rfl ?_
  refine mr_iload_n C1 dX1_drop_14 rfl (i := 1) rfl ?_
  have g5 := h.1
  have h := h.2
  refine mr_aald (d := 1) C1 dX1_drop_15 (Nat.le_of_ble_eq_true rfl) rfl g5 (pw_el 9 g5) ?_
  refine mr_iload_n C1 dX1_drop_16 rfl (i := 2) rfl ?_
  refine mr_ldc C1 dX1_drop_17 cn_X1_43 ?_
  have g6 := h.1
  have h := h.2
  refine mr_iast C1 dX1_drop_19 (pa_lt (pa_in g5)) (pa_lay (pa_in g5)) g6 ?_
  refine mr_aload_n C1 dX1_drop_20 rfl (i := 0) rfl ?_
  refine mr_iload_n C1 dX1_drop_21 rfl (i := 1) rfl ?_
  refine mr_iconst (v := 1) C1 dX1_drop_22 (by decide) ?_
  refine mr_callVV C1 mdX1_runDown dX1_drop_23 clX1_runDown ml_X1_44 (Nat.le_of_ble_eq_true rfl) rfl rfl arX1_runDown (as := [.int (S.1 5 x1.toNatClampNeg), .int (1 : Int32)]) rfl (Nat.le_of_ble_eq_true rfl) (Nat.le_of_ble_eq_true rfl) (Nat.le_of_ble_eq_true rfl) fit0 h (fun S7 h => ?_)
  refine mr_vret C1 hr1 hk1 dX1_drop_26 (qV_mk ?_)
  refine mr_aload_n C0 dX1_endsOf_24 rfl (i := 0) rfl ?_
  refine mr_iload_n C0 dX1_endsOf_25 rfl (i := 2) rfl ?_
  refine mr_callVI C0 mdX1_stuck dX1_endsOf_26 clX1_stuck ml_X1_115 (Nat.le_of_ble_eq_true rfl) rfl rfl arX1_stuck (as := [.int (S.1 5 x1.toNatClampNeg)]) rfl (Nat.le_of_ble_eq_true rfl) (Nat.le_of_ble_eq_true rfl) (Nat.le_of_ble_eq_true rfl) fit0 h (fun r9 S8 h => ?_)
  refine mr_if_le C0 dX1_endsOf_29 (tgt := 37) (by decide) (fun c10 => ?_) (fun c10 => ?_)
  · have h := h.1 c10
    refine mr_iconst (v := 0) C0 dX1_endsOf_37 (by decide) ?_
    refine mr_istore_n (L1 := [some (.ref 7), some (.int x1), some (.int (S.1 5 x1.toNatClampNeg)), some (.int (0 : Int32)), none]) C0 dX1_endsOf_38 rfl (Nat.le_of_ble_eq_true rfl) rfl ?_
    refine mr_iconst (v := 0) C0 dX1_endsOf_39 (by decide) ?_
    refine mr_istore (L1 := [some (.ref 7), some (.int x1), some (.int (S.1 5 x1.toNatClampNeg)), some (.int (0 : Int32)), some (.int (0 : Int32))]) C0 dX1_endsOf_40 (Nat.le_of_ble_eq_true rfl) rfl ?_
    refine mr_mask (L1 := [some (.ref 7), none, some (.int (S.1 5 x1.toNatClampNeg)), some (.int (0 : Int32)), some (.int (0 : Int32))]) C0 [true, false, true, true, true] rfl ?_
    exact h zp0 zl0 ze0 zs0 zm0 zargs0 zbelow0 zmeth0 zc0 zD0 zad0 zac0 C0 hr0 hk0
  · have h := h.2 c10
    refine mr_bipush (v := 64) C0 dX1_endsOf_32 (by decide) ?_
    refine mr_goto C0 dX1_endsOf_34 (tgt := 38) (by decide) ?_
    refine mr_istore_n (L1 := [some (.ref 7), some (.int x1), some (.int (S.1 5 x1.toNatClampNeg)), some (.int (64 : Int32)), none]) C0 dX1_endsOf_38 rfl (Nat.le_of_ble_eq_true rfl) rfl ?_
    refine mr_iconst (v := 0) C0 dX1_endsOf_39 (by decide) ?_
    refine mr_istore (L1 := [some (.ref 7), some (.int x1), some (.int (S.1 5 x1.toNatClampNeg)), some (.int (64 : Int32)), some (.int (0 : Int32))]) C0 dX1_endsOf_40 (Nat.le_of_ble_eq_true rfl) rfl ?_
    refine mr_mask (L1 := [some (.ref 7), none, some (.int (S.1 5 x1.toNatClampNeg)), some (.int (64 : Int32)), some (.int (0 : Int32))]) C0 [true, false, true, true, true] rfl ?_
    exact h zp0 zl0 ze0 zs0 zm0 zargs0 zbelow0 zmeth0 zc0 zD0 zad0 zac0 C0 hr0 hk0
set_option maxRecDepth 100000 in
set_option maxHeartbeats 4000000 in
theorem eX1_endsOf_42 (x2 : Int32) (x3 : Int32) (x4 : Int32) (S : St) (Q : Int32 → St → Prop) (h : (((S.1 1 3) ≤ x4 → Q x3 S) ∧ (¬ (S.1 1 3) ≤ x4 → CallV mdX1_arrived [.ref 7, .int x2, .int x4] S (qI fun r3 S2 => ((r3 ≤ 0 → V mdX1_endsOf 42 [some (.ref 7), none, some (.int x2), some (.int x3), some (.int (x4 + 1))] [] S2 (qI Q)) ∧ (¬ r3 ≤ 0 → V mdX1_endsOf 42 [some (.ref 7), none, some (.int x2), some (.int (x3 ||| ((1 : Int32) <<< (x4 &&& 31)))), some (.int (x4 + 1))] [] S2 (qI Q))))))) : V mdX1_endsOf 42 [some (.ref 7), none, some (.int x2), some (.int x3), some (.int x4)] [] S (qI Q) := by
  intro zp0 zl0 ze0 zs0 zm0 zargs0 zbelow0 zmeth0 zc0 zD0 zad0 zac0 C0 hr0 hk0
  refine mr_iload C0 dX1_endsOf_42 rfl ?_
  refine mr_aload_n C0 dX1_endsOf_44 rfl (i := 0) rfl ?_
  refine mr_getR C0 dX1_endsOf_45 fl_X1_29 (Nat.le_of_ble_eq_true rfl) rfl rfl ?_
  refine mr_getI C0 dX1_endsOf_48 fl_X1_83 (Nat.le_of_ble_eq_true rfl) rfl rfl ?_
  refine mr_icmp_ge C0 dX1_endsOf_51 (tgt := 77) (by decide) (fun c1 => ?_) (fun c1 => ?_)
  · have h := h.1 c1
    refine mr_iload_n C0 dX1_endsOf_77 rfl (i := 3) rfl ?_
    refine mr_iret C0 hr0 hk0 dX1_endsOf_78 (qI_mk ?_)
    exact h
  · have h := h.2 c1
    refine mr_aload_n C0 dX1_endsOf_54 rfl (i := 0) rfl ?_
    refine mr_iload_n C0 dX1_endsOf_55 rfl (i := 2) rfl ?_
    refine mr_iload C0 dX1_endsOf_56 rfl ?_
    refine mr_callVI C0 mdX1_arrived dX1_endsOf_58 clX1_arrived ml_X1_86 (Nat.le_of_ble_eq_true rfl) rfl rfl arX1_arrived (as := [.int x2, .int x4]) rfl (Nat.le_of_ble_eq_true rfl) (Nat.le_of_ble_eq_true rfl) (Nat.le_of_ble_eq_true rfl) fit0 h (fun r3 S2 h => ?_)
    refine mr_if_le C0 dX1_endsOf_61 (tgt := 71) (by decide) (fun c4 => ?_) (fun c4 => ?_)
    · have h := h.1 c4
      refine mr_iinc (v := (x4 + 1)) (L1 := [some (.ref 7), none, some (.int x2), some (.int x3), some (.int (x4 + 1))]) C0 dX1_endsOf_71 rfl rfl (Nat.le_of_ble_eq_true rfl) rfl ?_
      refine mr_goto C0 dX1_endsOf_74 (tgt := 42) (by decide) ?_
      exact h zp0 zl0 ze0 zs0 zm0 zargs0 zbelow0 zmeth0 zc0 zD0 zad0 zac0 C0 hr0 hk0
    · have h := h.2 c4
      refine mr_iload_n C0 dX1_endsOf_64 rfl (i := 3) rfl ?_
      refine mr_iconst (v := 1) C0 dX1_endsOf_65 (by decide) ?_
      refine mr_iload C0 dX1_endsOf_66 rfl ?_
      refine mr_ishl C0 dX1_endsOf_68 ?_
      refine mr_ior C0 dX1_endsOf_69 ?_
      refine mr_istore_n (L1 := [some (.ref 7), none, some (.int x2), some (.int (x3 ||| ((1 : Int32) <<< (x4 &&& 31)))), some (.int x4)]) C0 dX1_endsOf_70 rfl (Nat.le_of_ble_eq_true rfl) rfl ?_
      refine mr_iinc (v := (x4 + 1)) (L1 := [some (.ref 7), none, some (.int x2), some (.int (x3 ||| ((1 : Int32) <<< (x4 &&& 31)))), some (.int (x4 + 1))]) C0 dX1_endsOf_71 rfl rfl (Nat.le_of_ble_eq_true rfl) rfl ?_
      refine mr_goto C0 dX1_endsOf_74 (tgt := 42) (by decide) ?_
      exact h zp0 zl0 ze0 zs0 zm0 zargs0 zbelow0 zmeth0 zc0 zD0 zad0 zac0 C0 hr0 hk0
set_option maxRecDepth 100000 in
set_option maxHeartbeats 4000000 in
theorem eX1_fairColumns (S : St) (Q : Int32 → St → Prop) (h : V mdX1_fairColumns 4 [some (.ref 7), some (.int (0 : Int32)), some (.int (0 : Int32))] [] S (qI Q)) : CallV mdX1_fairColumns [.ref 7] S (qI Q) := by
  refine CallV_of mdX1_fairColumns plX1_fairColumns 2 (Nat.le_of_ble_eq_true rfl) rfl ?_
  intro zp0 zl0 ze0 zs0 zm0 zargs0 zbelow0 zmeth0 zc0 zD0 zad0 zac0 C0 hr0 hk0
  refine mr_iconst (v := 0) C0 dX1_fairColumns_0 (by decide) ?_
  refine mr_istore_n (L1 := [some (.ref 7), some (.int (0 : Int32)), none]) C0 dX1_fairColumns_1 rfl (Nat.le_of_ble_eq_true rfl) rfl ?_
  refine mr_iconst (v := 0) C0 dX1_fairColumns_2 (by decide) ?_
  refine mr_istore_n (L1 := [some (.ref 7), some (.int (0 : Int32)), some (.int (0 : Int32))]) C0 dX1_fairColumns_3 rfl (Nat.le_of_ble_eq_true rfl) rfl ?_
  exact h zp0 zl0 ze0 zs0 zm0 zargs0 zbelow0 zmeth0 zc0 zD0 zad0 zac0 C0 hr0 hk0
set_option maxRecDepth 100000 in
set_option maxHeartbeats 4000000 in
theorem eX1_fairColumns_4 (x1 : Int32) (x2 : Int32) (S : St) (Q : Int32 → St → Prop) (h : (((S.1 1 3) ≤ x2 → Q x1 S) ∧ (¬ (S.1 1 3) ≤ x2 → CallV mdX1_isFair [.ref 7, .int x2] S (qI fun r3 S2 => ((r3 = 0 → V mdX1_fairColumns 4 [some (.ref 7), some (.int x1), some (.int (x2 + 1))] [] S2 (qI Q)) ∧ (¬ r3 = 0 → V mdX1_fairColumns 4 [some (.ref 7), some (.int (x1 ||| ((1 : Int32) <<< (x2 &&& 31)))), some (.int (x2 + 1))] [] S2 (qI Q))))))) : V mdX1_fairColumns 4 [some (.ref 7), some (.int x1), some (.int x2)] [] S (qI Q) := by
  intro zp0 zl0 ze0 zs0 zm0 zargs0 zbelow0 zmeth0 zc0 zD0 zad0 zac0 C0 hr0 hk0
  refine mr_iload_n C0 dX1_fairColumns_4 rfl (i := 2) rfl ?_
  refine mr_aload_n C0 dX1_fairColumns_5 rfl (i := 0) rfl ?_
  refine mr_getR C0 dX1_fairColumns_6 fl_X1_29 (Nat.le_of_ble_eq_true rfl) rfl rfl ?_
  refine mr_getI C0 dX1_fairColumns_9 fl_X1_83 (Nat.le_of_ble_eq_true rfl) rfl rfl ?_
  refine mr_icmp_ge C0 dX1_fairColumns_12 (tgt := 35) (by decide) (fun c1 => ?_) (fun c1 => ?_)
  · have h := h.1 c1
    refine mr_iload_n C0 dX1_fairColumns_35 rfl (i := 1) rfl ?_
    refine mr_iret C0 hr0 hk0 dX1_fairColumns_36 (qI_mk ?_)
    exact h
  · have h := h.2 c1
    refine mr_aload_n C0 dX1_fairColumns_15 rfl (i := 0) rfl ?_
    refine mr_iload_n C0 dX1_fairColumns_16 rfl (i := 2) rfl ?_
    refine mr_callVI C0 mdX1_isFair dX1_fairColumns_17 clX1_isFair ml_X1_130 (Nat.le_of_ble_eq_true rfl) rfl rfl arX1_isFair (as := [.int x2]) rfl (Nat.le_of_ble_eq_true rfl) (Nat.le_of_ble_eq_true rfl) (Nat.le_of_ble_eq_true rfl) fit0 h (fun r3 S2 h => ?_)
    refine mr_if_eq C0 dX1_fairColumns_20 (tgt := 29) (by decide) (fun c4 => ?_) (fun c4 => ?_)
    · have h := h.1 c4
      refine mr_iinc (v := (x2 + 1)) (L1 := [some (.ref 7), some (.int x1), some (.int (x2 + 1))]) C0 dX1_fairColumns_29 rfl rfl (Nat.le_of_ble_eq_true rfl) rfl ?_
      refine mr_goto C0 dX1_fairColumns_32 (tgt := 4) (by decide) ?_
      exact h zp0 zl0 ze0 zs0 zm0 zargs0 zbelow0 zmeth0 zc0 zD0 zad0 zac0 C0 hr0 hk0
    · have h := h.2 c4
      refine mr_iload_n C0 dX1_fairColumns_23 rfl (i := 1) rfl ?_
      refine mr_iconst (v := 1) C0 dX1_fairColumns_24 (by decide) ?_
      refine mr_iload_n C0 dX1_fairColumns_25 rfl (i := 2) rfl ?_
      refine mr_ishl C0 dX1_fairColumns_26 ?_
      refine mr_ior C0 dX1_fairColumns_27 ?_
      refine mr_istore_n (L1 := [some (.ref 7), some (.int (x1 ||| ((1 : Int32) <<< (x2 &&& 31)))), some (.int x2)]) C0 dX1_fairColumns_28 rfl (Nat.le_of_ble_eq_true rfl) rfl ?_
      refine mr_iinc (v := (x2 + 1)) (L1 := [some (.ref 7), some (.int (x1 ||| ((1 : Int32) <<< (x2 &&& 31)))), some (.int (x2 + 1))]) C0 dX1_fairColumns_29 rfl rfl (Nat.le_of_ble_eq_true rfl) rfl ?_
      refine mr_goto C0 dX1_fairColumns_32 (tgt := 4) (by decide) ?_
      exact h zp0 zl0 ze0 zs0 zm0 zargs0 zbelow0 zmeth0 zc0 zD0 zad0 zac0 C0 hr0 hk0
set_option maxRecDepth 100000 in
set_option maxHeartbeats 4000000 in
theorem eX1_isFair (x1 : Int32) (S : St) (Q : Int32 → St → Prop) (h : CallV mdJ7_fill_53178 [.ref 9, .int (0 : Int32)] S (qV fun S1 => (vp_in x1 36) ∧ CallV mdX1_runDown [.ref 7, .int (0 : Int32), .int (1 : Int32)] (sI S1 9 x1.toNatClampNeg (32768 : Int32)) (qV fun S3 => CallV mdJ7_fill_53178 [.ref 18, .int (0 : Int32)] S3 (qV fun S4 => V mdX1_isFair 16 [some (.ref 7), none, some (.int (0 : Int32)), none] [] S4 (qI Q))))) : CallV mdX1_isFair [.ref 7, .int x1] S (qI Q) := by
  refine CallV_of mdX1_isFair plX1_isFair 2 (Nat.le_of_ble_eq_true rfl) rfl ?_
  intro zp0 zl0 ze0 zs0 zm0 zargs0 zbelow0 zmeth0 zc0 zD0 zad0 zac0 C0 hr0 hk0
  refine mr_aload_n C0 dX1_isFair_0 rfl (i := 0) rfl ?_
  refine mr_iconst (v := 0) C0 dX1_isFair_1 (by decide) ?_
  refine mr_iload_n C0 dX1_isFair_2 rfl (i := 1) rfl ?_
  refine mr_callVV C0 mdX1_drop dX1_isFair_3 clX1_drop ml_X1_112 (Nat.le_of_ble_eq_true rfl) rfl rfl arX1_drop (as := [.int (0 : Int32), .int x1]) rfl (Nat.le_of_ble_eq_true rfl) (Nat.le_of_ble_eq_true rfl) (Nat.le_of_ble_eq_true rfl) fit0 (CallV_of mdX1_drop plX1_drop 0 (Nat.le_of_ble_eq_true rfl) rfl ?_) (fun _ h => h)
  intro zp1 zl1 ze1 zs1 zm1 zargs1 zbelow1 zmeth1 zc1 zD1 zad1 zac1 C1 hr1 hk1
  refine mr_aload_n C1 dX1_drop_0 rfl (i := 0) rfl ?_
  refine mr_getR C1 dX1_drop_1 fl_X1_11 (Nat.le_of_ble_eq_true rfl) rfl rfl ?_
  refine mr_iload_n C1 dX1_drop_4 rfl (i := 1) rfl ?_
  refine mr_aald (d := 1) (r := 9) C1 dX1_drop_5 (Nat.le_of_ble_eq_true rfl) rfl (by unfold vp_in; decide) (by decide) ?_
  refine mr_iconst (v := 0) C1 dX1_drop_6 (by decide) ?_
  refine mr_callSV C1 mdJ7_fill_53178 dX1_drop_7 clJ7_fill_53178 ml_X1_37 arJ7_fill_53178 (as := [.ref 9, .int (0 : Int32)]) rfl (Nat.le_of_ble_eq_true rfl) (Nat.le_of_ble_eq_true rfl) (Nat.le_of_ble_eq_true rfl) fit0 h (fun S1 h => ?_)
  refine mr_aload_n C1 dX1_drop_10 rfl (i := 0) rfl ?_
  refine mr_getR C1 dX1_drop_11 fl_X1_11 (Nat.le_of_ble_eq_true rfl) rfl rfl ?_
  refine mr_iload_n C1 dX1_drop_14 rfl (i := 1) rfl ?_
  refine mr_aald (d := 1) (r := 9) C1 dX1_drop_15 (Nat.le_of_ble_eq_true rfl) rfl (by unfold vp_in; decide) (by decide) ?_
  refine mr_iload_n C1 dX1_drop_16 rfl (i := 2) rfl ?_
  refine mr_ldc C1 dX1_drop_17 cn_X1_43 ?_
  have g2 := h.1
  have h := h.2
  refine mr_iast C1 dX1_drop_19 (Nat.le_of_ble_eq_true rfl) rfl g2 ?_
  refine mr_aload_n C1 dX1_drop_20 rfl (i := 0) rfl ?_
  refine mr_iload_n C1 dX1_drop_21 rfl (i := 1) rfl ?_
  refine mr_iconst (v := 1) C1 dX1_drop_22 (by decide) ?_
  refine mr_callVV C1 mdX1_runDown dX1_drop_23 clX1_runDown ml_X1_44 (Nat.le_of_ble_eq_true rfl) rfl rfl arX1_runDown (as := [.int (0 : Int32), .int (1 : Int32)]) rfl (Nat.le_of_ble_eq_true rfl) (Nat.le_of_ble_eq_true rfl) (Nat.le_of_ble_eq_true rfl) fit0 h (fun S3 h => ?_)
  refine mr_vret C1 hr1 hk1 dX1_drop_26 (qV_mk ?_)
  refine mr_aload_n C0 dX1_isFair_6 rfl (i := 0) rfl ?_
  refine mr_getR C0 dX1_isFair_7 fl_X1_26 (Nat.le_of_ble_eq_true rfl) rfl rfl ?_
  refine mr_iconst (v := 0) C0 dX1_isFair_10 (by decide) ?_
  refine mr_callSV C0 mdJ7_fill_53178 dX1_isFair_11 clJ7_fill_53178 ml_X1_37 arJ7_fill_53178 (as := [.ref 18, .int (0 : Int32)]) rfl (Nat.le_of_ble_eq_true rfl) (Nat.le_of_ble_eq_true rfl) (Nat.le_of_ble_eq_true rfl) fit0 h (fun S4 h => ?_)
  refine mr_iconst (v := 0) C0 dX1_isFair_14 (by decide) ?_
  refine mr_istore_n (L1 := [some (.ref 7), some (.int x1), some (.int (0 : Int32)), none]) C0 dX1_isFair_15 rfl (Nat.le_of_ble_eq_true rfl) rfl ?_
  refine mr_mask (L1 := [some (.ref 7), none, some (.int (0 : Int32)), none]) C0 [true, false, true, false] rfl ?_
  exact h zp0 zl0 ze0 zs0 zm0 zargs0 zbelow0 zmeth0 zc0 zD0 zad0 zac0 C0 hr0 hk0
set_option maxRecDepth 100000 in
set_option maxHeartbeats 4000000 in
theorem eX1_isFair_16 (x2 : Int32) (S : St) (Q : Int32 → St → Prop) (h : (((S.1 1 3) ≤ x2 → (vp_in (S.1 3 0) 4) ∧ V mdX1_isFair 73 [some (.ref 7), none, some (.int (S.1 18 ((S.1 3 0).toNatClampNeg))), some (.int (0 : Int32))] [] S (qI Q)) ∧ (¬ (S.1 1 3) ≤ x2 → (vp_in x2 6) ∧ (vp_in (S.1 3 x2.toNatClampNeg) 4) ∧ CallV mdX1_arrived [.ref 7, .int (0 : Int32), .int x2] S (qI fun r6 S5 => (vp_in (S.1 3 x2.toNatClampNeg) 4) ∧ V mdX1_isFair 16 [some (.ref 7), none, some (.int (x2 + 1)), none] [] (sI S5 18 ((S.1 3 x2.toNatClampNeg).toNatClampNeg) ((S.1 18 ((S.1 3 x2.toNatClampNeg).toNatClampNeg)) + r6)) (qI Q))))) : V mdX1_isFair 16 [some (.ref 7), none, some (.int x2), none] [] S (qI Q) := by
  intro zp0 zl0 ze0 zs0 zm0 zargs0 zbelow0 zmeth0 zc0 zD0 zad0 zac0 C0 hr0 hk0
  refine mr_iload_n C0 dX1_isFair_16 rfl (i := 2) rfl ?_
  refine mr_aload_n C0 dX1_isFair_17 rfl (i := 0) rfl ?_
  refine mr_getR C0 dX1_isFair_18 fl_X1_29 (Nat.le_of_ble_eq_true rfl) rfl rfl ?_
  refine mr_getI C0 dX1_isFair_21 fl_X1_83 (Nat.le_of_ble_eq_true rfl) rfl rfl ?_
  refine mr_icmp_ge C0 dX1_isFair_24 (tgt := 56) (by decide) (fun c1 => ?_) (fun c1 => ?_)
  · have h := h.1 c1
    refine mr_aload_n C0 dX1_isFair_56 rfl (i := 0) rfl ?_
    refine mr_getR C0 dX1_isFair_57 fl_X1_26 (Nat.le_of_ble_eq_true rfl) rfl rfl ?_
    refine mr_aload_n C0 dX1_isFair_60 rfl (i := 0) rfl ?_
    refine mr_getR C0 dX1_isFair_61 fl_X1_29 (Nat.le_of_ble_eq_true rfl) rfl rfl ?_
    refine mr_getR C0 dX1_isFair_64 fl_X1_93 (Nat.le_of_ble_eq_true rfl) rfl rfl ?_
    refine mr_iconst (v := 0) C0 dX1_isFair_67 (by decide) ?_
    refine mr_iald C0 dX1_isFair_68 (Nat.le_of_ble_eq_true rfl) rfl (by unfold vp_in; decide) ?_
    refine mr_topI (y := (S.1 3 0)) (by first | rfl | simp [sI, sJ, sF, upd, vp_updL]) ?_
    have g2 := h.1
    have h := h.2
    refine mr_iald C0 dX1_isFair_69 (Nat.le_of_ble_eq_true rfl) rfl g2 ?_
    refine mr_istore_n (L1 := [some (.ref 7), none, some (.int (S.1 18 ((S.1 3 0).toNatClampNeg))), none]) C0 dX1_isFair_70 rfl (Nat.le_of_ble_eq_true rfl) rfl ?_
    refine mr_iconst (v := 0) C0 dX1_isFair_71 (by decide) ?_
    refine mr_istore_n (L1 := [some (.ref 7), none, some (.int (S.1 18 ((S.1 3 0).toNatClampNeg))), some (.int (0 : Int32))]) C0 dX1_isFair_72 rfl (Nat.le_of_ble_eq_true rfl) rfl ?_
    exact h zp0 zl0 ze0 zs0 zm0 zargs0 zbelow0 zmeth0 zc0 zD0 zad0 zac0 C0 hr0 hk0
  · have h := h.2 c1
    refine mr_aload_n C0 dX1_isFair_27 rfl (i := 0) rfl ?_
    refine mr_getR C0 dX1_isFair_28 fl_X1_26 (Nat.le_of_ble_eq_true rfl) rfl rfl ?_
    refine mr_aload_n C0 dX1_isFair_31 rfl (i := 0) rfl ?_
    refine mr_getR C0 dX1_isFair_32 fl_X1_29 (Nat.le_of_ble_eq_true rfl) rfl rfl ?_
    refine mr_getR C0 dX1_isFair_35 fl_X1_93 (Nat.le_of_ble_eq_true rfl) rfl rfl ?_
    refine mr_iload_n C0 dX1_isFair_38 rfl (i := 2) rfl ?_
    have g3 := h.1
    have h := h.2
    refine mr_iald C0 dX1_isFair_39 (Nat.le_of_ble_eq_true rfl) rfl g3 ?_
    refine mr_dup2 C0 dX1_isFair_40 rfl rfl ?_
    have g4 := h.1
    have h := h.2
    refine mr_iald C0 dX1_isFair_41 (Nat.le_of_ble_eq_true rfl) rfl g4 ?_
    refine mr_aload_n C0 dX1_isFair_42 rfl (i := 0) rfl ?_
    refine mr_iconst (v := 0) C0 dX1_isFair_43 (by decide) ?_
    refine mr_iload_n C0 dX1_isFair_44 rfl (i := 2) rfl ?_
    refine mr_callVI C0 mdX1_arrived dX1_isFair_45 clX1_arrived ml_X1_86 (Nat.le_of_ble_eq_true rfl) rfl rfl arX1_arrived (as := [.int (0 : Int32), .int x2]) rfl (Nat.le_of_ble_eq_true rfl) (Nat.le_of_ble_eq_true rfl) (Nat.le_of_ble_eq_true rfl) fit0 h (fun r6 S5 h => ?_)
    refine mr_iadd C0 dX1_isFair_48 ?_
    have g7 := h.1
    have h := h.2
    refine mr_iast C0 dX1_isFair_49 (Nat.le_of_ble_eq_true rfl) rfl g7 ?_
    refine mr_iinc (v := (x2 + 1)) (L1 := [some (.ref 7), none, some (.int (x2 + 1)), none]) C0 dX1_isFair_50 rfl rfl (Nat.le_of_ble_eq_true rfl) rfl ?_
    refine mr_goto C0 dX1_isFair_53 (tgt := 16) (by decide) ?_
    exact h zp0 zl0 ze0 zs0 zm0 zargs0 zbelow0 zmeth0 zc0 zD0 zad0 zac0 C0 hr0 hk0
set_option maxRecDepth 100000 in
set_option maxHeartbeats 4000000 in
theorem eX1_isFair_73 (x2 : Int32) (x3 : Int32) (S : St) (Q : Int32 → St → Prop) (h : (((4 : Int32) ≤ x3 → Q (1 : Int32) S) ∧ (¬ (4 : Int32) ≤ x3 → CallV mdX2_hasTroughOf [.ref 1, .int x3] S (qI fun r3 S2 => ((r3 = 0 → V mdX1_isFair 73 [some (.ref 7), none, some (.int x2), some (.int (x3 + 1))] [] S2 (qI Q)) ∧ (¬ r3 = 0 → (vp_in x3 4) ∧ (((S2.1 18 x3.toNatClampNeg) = x2 → V mdX1_isFair 73 [some (.ref 7), none, some (.int x2), some (.int (x3 + 1))] [] S2 (qI Q)) ∧ (¬ (S2.1 18 x3.toNatClampNeg) = x2 → Q (0 : Int32) S2)))))))) : V mdX1_isFair 73 [some (.ref 7), none, some (.int x2), some (.int x3)] [] S (qI Q) := by
  intro zp0 zl0 ze0 zs0 zm0 zargs0 zbelow0 zmeth0 zc0 zD0 zad0 zac0 C0 hr0 hk0
  refine mr_iload_n C0 dX1_isFair_73 rfl (i := 3) rfl ?_
  refine mr_iconst (v := 4) C0 dX1_isFair_74 (by decide) ?_
  refine mr_icmp_ge C0 dX1_isFair_75 (tgt := 107) (by decide) (fun c1 => ?_) (fun c1 => ?_)
  · have h := h.1 c1
    refine mr_iconst (v := 1) C0 dX1_isFair_107 (by decide) ?_
    refine mr_zret C0 hr0 hk0 dX1_isFair_108 rfl (qI_mk ?_)
    exact h
  · have h := h.2 c1
    refine mr_aload_n C0 dX1_isFair_78 rfl (i := 0) rfl ?_
    refine mr_getR C0 dX1_isFair_79 fl_X1_29 (Nat.le_of_ble_eq_true rfl) rfl rfl ?_
    refine mr_iload_n C0 dX1_isFair_82 rfl (i := 3) rfl ?_
    refine mr_callVI C0 mdX2_hasTroughOf dX1_isFair_83 clX2_hasTroughOf ml_X1_134 (Nat.le_of_ble_eq_true rfl) rfl rfl arX2_hasTroughOf (as := [.int x3]) rfl (Nat.le_of_ble_eq_true rfl) (Nat.le_of_ble_eq_true rfl) (Nat.le_of_ble_eq_true rfl) fit0 h (fun r3 S2 h => ?_)
    refine mr_if_eq C0 dX1_isFair_86 (tgt := 101) (by decide) (fun c4 => ?_) (fun c4 => ?_)
    · have h := h.1 c4
      refine mr_iinc (v := (x3 + 1)) (L1 := [some (.ref 7), none, some (.int x2), some (.int (x3 + 1))]) C0 dX1_isFair_101 rfl rfl (Nat.le_of_ble_eq_true rfl) rfl ?_
      refine mr_goto C0 dX1_isFair_104 (tgt := 73) (by decide) ?_
      exact h zp0 zl0 ze0 zs0 zm0 zargs0 zbelow0 zmeth0 zc0 zD0 zad0 zac0 C0 hr0 hk0
    · have h := h.2 c4
      refine mr_aload_n C0 dX1_isFair_89 rfl (i := 0) rfl ?_
      refine mr_getR C0 dX1_isFair_90 fl_X1_26 (Nat.le_of_ble_eq_true rfl) rfl rfl ?_
      refine mr_iload_n C0 dX1_isFair_93 rfl (i := 3) rfl ?_
      have g5 := h.1
      have h := h.2
      refine mr_iald C0 dX1_isFair_94 (Nat.le_of_ble_eq_true rfl) rfl g5 ?_
      refine mr_iload_n C0 dX1_isFair_95 rfl (i := 2) rfl ?_
      refine mr_icmp_eq C0 dX1_isFair_96 (tgt := 101) (by decide) (fun c6 => ?_) (fun c6 => ?_)
      · have h := h.1 c6
        refine mr_iinc (v := (x3 + 1)) (L1 := [some (.ref 7), none, some (.int x2), some (.int (x3 + 1))]) C0 dX1_isFair_101 rfl rfl (Nat.le_of_ble_eq_true rfl) rfl ?_
        refine mr_goto C0 dX1_isFair_104 (tgt := 73) (by decide) ?_
        exact h zp0 zl0 ze0 zs0 zm0 zargs0 zbelow0 zmeth0 zc0 zD0 zad0 zac0 C0 hr0 hk0
      · have h := h.2 c6
        refine mr_iconst (v := 0) C0 dX1_isFair_99 (by decide) ?_
        refine mr_zret C0 hr0 hk0 dX1_isFair_100 rfl (qI_mk ?_)
        exact h
set_option maxRecDepth 100000 in
set_option maxHeartbeats 4000000 in
theorem eX2_stands (S : St) (Q : Int32 → St → Prop) (h : (((S.1 1 3) ≤ 0 → Q (0 : Int32) S) ∧ (¬ (S.1 1 3) ≤ 0 → Q (1 : Int32) S))) : CallV mdX2_stands [.ref 1] S (qI Q) := by
  refine CallV_of mdX2_stands plX2_stands 0 (Nat.le_of_ble_eq_true rfl) rfl ?_
  intro zp0 zl0 ze0 zs0 zm0 zargs0 zbelow0 zmeth0 zc0 zD0 zad0 zac0 C0 hr0 hk0
  refine mr_aload_n C0 dX2_stands_0 rfl (i := 0) rfl ?_
  refine mr_getI C0 dX2_stands_1 fl_X2_22 (Nat.le_of_ble_eq_true rfl) rfl rfl ?_
  refine mr_if_le C0 dX2_stands_4 (tgt := 11) (by decide) (fun c1 => ?_) (fun c1 => ?_)
  · have h := h.1 c1
    refine mr_iconst (v := 0) C0 dX2_stands_11 (by decide) ?_
    refine mr_zret C0 hr0 hk0 dX2_stands_12 rfl (qI_mk ?_)
    exact h
  · have h := h.2 c1
    refine mr_iconst (v := 1) C0 dX2_stands_7 (by decide) ?_
    refine mr_goto C0 dX2_stands_8 (tgt := 12) (by decide) ?_
    refine mr_zret C0 hr0 hk0 dX2_stands_12 rfl (qI_mk ?_)
    exact h
set_option maxRecDepth 100000 in
set_option maxHeartbeats 4000000 in
theorem eX2_cells (S : St) (Q : Int32 → St → Prop) (h : Q ((S.1 1 2) * (S.1 1 3)) S) : CallV mdX2_cells [.ref 1] S (qI Q) := by
  refine CallV_of mdX2_cells plX2_cells 0 (Nat.le_of_ble_eq_true rfl) rfl ?_
  intro zp0 zl0 ze0 zs0 zm0 zargs0 zbelow0 zmeth0 zc0 zD0 zad0 zac0 C0 hr0 hk0
  refine mr_aload_n C0 dX2_cells_0 rfl (i := 0) rfl ?_
  refine mr_getI C0 dX2_cells_1 fl_X2_18 (Nat.le_of_ble_eq_true rfl) rfl rfl ?_
  refine mr_aload_n C0 dX2_cells_4 rfl (i := 0) rfl ?_
  refine mr_getI C0 dX2_cells_5 fl_X2_22 (Nat.le_of_ble_eq_true rfl) rfl rfl ?_
  refine mr_imul C0 dX2_cells_8 ?_
  refine mr_iret C0 hr0 hk0 dX2_cells_9 (qI_mk ?_)
  exact h
set_option maxRecDepth 100000 in
set_option maxHeartbeats 4000000 in
theorem eX2_hasCell (x1 : Int32) (S : St) (Q : Int32 → St → Prop) (h : ((x1 < 0 → Q (0 : Int32) S) ∧ (¬ x1 < 0 → ((((S.1 1 2) * (S.1 1 3)) ≤ x1 → Q (0 : Int32) S) ∧ (¬ ((S.1 1 2) * (S.1 1 3)) ≤ x1 → Q (1 : Int32) S))))) : CallV mdX2_hasCell [.ref 1, .int x1] S (qI Q) := by
  refine CallV_of mdX2_hasCell plX2_hasCell 0 (Nat.le_of_ble_eq_true rfl) rfl ?_
  intro zp0 zl0 ze0 zs0 zm0 zargs0 zbelow0 zmeth0 zc0 zD0 zad0 zac0 C0 hr0 hk0
  refine mr_iload_n C0 dX2_hasCell_0 rfl (i := 1) rfl ?_
  refine mr_if_lt C0 dX2_hasCell_1 (tgt := 16) (by decide) (fun c1 => ?_) (fun c1 => ?_)
  · have h := h.1 c1
    refine mr_iconst (v := 0) C0 dX2_hasCell_16 (by decide) ?_
    refine mr_zret C0 hr0 hk0 dX2_hasCell_17 rfl (qI_mk ?_)
    exact h
  · have h := h.2 c1
    refine mr_iload_n C0 dX2_hasCell_4 rfl (i := 1) rfl ?_
    refine mr_aload_n C0 dX2_hasCell_5 rfl (i := 0) rfl ?_
    refine mr_callVI C0 mdX2_cells dX2_hasCell_6 clX2_cells ml_X2_29 (Nat.le_of_ble_eq_true rfl) rfl rfl arX2_cells (as := []) rfl (Nat.le_of_ble_eq_true rfl) (Nat.le_of_ble_eq_true rfl) (Nat.le_of_ble_eq_true rfl) fit0 (CallV_of mdX2_cells plX2_cells 0 (Nat.le_of_ble_eq_true rfl) rfl ?_) (fun _ _ h => h)
    intro zp1 zl1 ze1 zs1 zm1 zargs1 zbelow1 zmeth1 zc1 zD1 zad1 zac1 C1 hr1 hk1
    refine mr_aload_n C1 dX2_cells_0 rfl (i := 0) rfl ?_
    refine mr_getI C1 dX2_cells_1 fl_X2_18 (Nat.le_of_ble_eq_true rfl) rfl rfl ?_
    refine mr_aload_n C1 dX2_cells_4 rfl (i := 0) rfl ?_
    refine mr_getI C1 dX2_cells_5 fl_X2_22 (Nat.le_of_ble_eq_true rfl) rfl rfl ?_
    refine mr_imul C1 dX2_cells_8 ?_
    refine mr_iret C1 hr1 hk1 dX2_cells_9 (qI_mk ?_)
    refine mr_icmp_ge C0 dX2_hasCell_9 (tgt := 16) (by decide) (fun c2 => ?_) (fun c2 => ?_)
    · have h := h.1 c2
      refine mr_iconst (v := 0) C0 dX2_hasCell_16 (by decide) ?_
      refine mr_zret C0 hr0 hk0 dX2_hasCell_17 rfl (qI_mk ?_)
      exact h
    · have h := h.2 c2
      refine mr_iconst (v := 1) C0 dX2_hasCell_12 (by decide) ?_
      refine mr_goto C0 dX2_hasCell_13 (tgt := 17) (by decide) ?_
      refine mr_zret C0 hr0 hk0 dX2_hasCell_17 rfl (qI_mk ?_)
      exact h
set_option maxRecDepth 100000 in
set_option maxHeartbeats 4000000 in
theorem eX2_hasColumn (x1 : Int32) (S : St) (Q : Int32 → St → Prop) (h : ((x1 < 0 → Q (0 : Int32) S) ∧ (¬ x1 < 0 → (((S.1 1 3) ≤ x1 → Q (0 : Int32) S) ∧ (¬ (S.1 1 3) ≤ x1 → Q (1 : Int32) S))))) : CallV mdX2_hasColumn [.ref 1, .int x1] S (qI Q) := by
  refine CallV_of mdX2_hasColumn plX2_hasColumn 0 (Nat.le_of_ble_eq_true rfl) rfl ?_
  intro zp0 zl0 ze0 zs0 zm0 zargs0 zbelow0 zmeth0 zc0 zD0 zad0 zac0 C0 hr0 hk0
  refine mr_iload_n C0 dX2_hasColumn_0 rfl (i := 1) rfl ?_
  refine mr_if_lt C0 dX2_hasColumn_1 (tgt := 16) (by decide) (fun c1 => ?_) (fun c1 => ?_)
  · have h := h.1 c1
    refine mr_iconst (v := 0) C0 dX2_hasColumn_16 (by decide) ?_
    refine mr_zret C0 hr0 hk0 dX2_hasColumn_17 rfl (qI_mk ?_)
    exact h
  · have h := h.2 c1
    refine mr_iload_n C0 dX2_hasColumn_4 rfl (i := 1) rfl ?_
    refine mr_aload_n C0 dX2_hasColumn_5 rfl (i := 0) rfl ?_
    refine mr_getI C0 dX2_hasColumn_6 fl_X2_22 (Nat.le_of_ble_eq_true rfl) rfl rfl ?_
    refine mr_icmp_ge C0 dX2_hasColumn_9 (tgt := 16) (by decide) (fun c2 => ?_) (fun c2 => ?_)
    · have h := h.1 c2
      refine mr_iconst (v := 0) C0 dX2_hasColumn_16 (by decide) ?_
      refine mr_zret C0 hr0 hk0 dX2_hasColumn_17 rfl (qI_mk ?_)
      exact h
    · have h := h.2 c2
      refine mr_iconst (v := 1) C0 dX2_hasColumn_12 (by decide) ?_
      refine mr_goto C0 dX2_hasColumn_13 (tgt := 17) (by decide) ?_
      refine mr_zret C0 hr0 hk0 dX2_hasColumn_17 rfl (qI_mk ?_)
      exact h
set_option maxRecDepth 100000 in
set_option maxHeartbeats 4000000 in
theorem eX2_hasTroughOf (x1 : Int32) (S : St) (Q : Int32 → St → Prop) (h : V mdX2_hasTroughOf 2 [some (.ref 1), some (.int x1), some (.int (0 : Int32))] [] S (qI Q)) : CallV mdX2_hasTroughOf [.ref 1, .int x1] S (qI Q) := by
  refine CallV_of mdX2_hasTroughOf plX2_hasTroughOf 1 (Nat.le_of_ble_eq_true rfl) rfl ?_
  intro zp0 zl0 ze0 zs0 zm0 zargs0 zbelow0 zmeth0 zc0 zD0 zad0 zac0 C0 hr0 hk0
  refine mr_iconst (v := 0) C0 dX2_hasTroughOf_0 (by decide) ?_
  refine mr_istore_n (L1 := [some (.ref 1), some (.int x1), some (.int (0 : Int32))]) C0 dX2_hasTroughOf_1 rfl (Nat.le_of_ble_eq_true rfl) rfl ?_
  exact h zp0 zl0 ze0 zs0 zm0 zargs0 zbelow0 zmeth0 zc0 zD0 zad0 zac0 C0 hr0 hk0
set_option maxRecDepth 100000 in
set_option maxHeartbeats 4000000 in
theorem eX2_hasTroughOf_2 (x1 : Int32) (x2 : Int32) (S : St) (Q : Int32 → St → Prop) (h : (((S.1 1 3) ≤ x2 → Q (0 : Int32) S) ∧ (¬ (S.1 1 3) ≤ x2 → (vp_in x2 6) ∧ ((¬ (S.1 3 x2.toNatClampNeg) = x1 → V mdX2_hasTroughOf 2 [some (.ref 1), some (.int x1), some (.int (x2 + 1))] [] S (qI Q)) ∧ ((S.1 3 x2.toNatClampNeg) = x1 → Q (1 : Int32) S))))) : V mdX2_hasTroughOf 2 [some (.ref 1), some (.int x1), some (.int x2)] [] S (qI Q) := by
  intro zp0 zl0 ze0 zs0 zm0 zargs0 zbelow0 zmeth0 zc0 zD0 zad0 zac0 C0 hr0 hk0
  refine mr_iload_n C0 dX2_hasTroughOf_2 rfl (i := 2) rfl ?_
  refine mr_aload_n C0 dX2_hasTroughOf_3 rfl (i := 0) rfl ?_
  refine mr_getI C0 dX2_hasTroughOf_4 fl_X2_22 (Nat.le_of_ble_eq_true rfl) rfl rfl ?_
  refine mr_icmp_ge C0 dX2_hasTroughOf_7 (tgt := 28) (by decide) (fun c1 => ?_) (fun c1 => ?_)
  · have h := h.1 c1
    refine mr_iconst (v := 0) C0 dX2_hasTroughOf_28 (by decide) ?_
    refine mr_zret C0 hr0 hk0 dX2_hasTroughOf_29 rfl (qI_mk ?_)
    exact h
  · have h := h.2 c1
    refine mr_aload_n C0 dX2_hasTroughOf_10 rfl (i := 0) rfl ?_
    refine mr_getR C0 dX2_hasTroughOf_11 fl_X2_15 (Nat.le_of_ble_eq_true rfl) rfl rfl ?_
    refine mr_iload_n C0 dX2_hasTroughOf_14 rfl (i := 2) rfl ?_
    have g2 := h.1
    have h := h.2
    refine mr_iald C0 dX2_hasTroughOf_15 (Nat.le_of_ble_eq_true rfl) rfl g2 ?_
    refine mr_iload_n C0 dX2_hasTroughOf_16 rfl (i := 1) rfl ?_
    refine mr_icmp_ne C0 dX2_hasTroughOf_17 (tgt := 22) (by decide) (fun c3 => ?_) (fun c3 => ?_)
    · have h := h.1 c3
      refine mr_iinc (v := (x2 + 1)) (L1 := [some (.ref 1), some (.int x1), some (.int (x2 + 1))]) C0 dX2_hasTroughOf_22 rfl rfl (Nat.le_of_ble_eq_true rfl) rfl ?_
      refine mr_goto C0 dX2_hasTroughOf_25 (tgt := 2) (by decide) ?_
      exact h zp0 zl0 ze0 zs0 zm0 zargs0 zbelow0 zmeth0 zc0 zD0 zad0 zac0 C0 hr0 hk0
    · have h := h.2 c3
      refine mr_iconst (v := 1) C0 dX2_hasTroughOf_20 (by decide) ?_
      refine mr_zret C0 hr0 hk0 dX2_hasTroughOf_21 rfl (qI_mk ?_)
      exact h
set_option maxRecDepth 100000 in
set_option maxHeartbeats 4000000 in
theorem eX2_firstFault {p1 : Nat} (hp1 : isSh p1) (x2 : Int32) (x3 : Int32) (S : St) (Q : Int32 → St → Prop) (h : V mdX2_firstFault 9 [none, some (.ref p1), some (.int x2), some (.int x3), some (.int (0 : Int32)), some (.int (0 : Int32)), some (.int (0 : Int32)), none] [] S (qI Q)) : CallV mdX2_firstFault [.ref 1, .ref p1, .int x2, .int x3] S (qI Q) := by
  refine CallV_of mdX2_firstFault plX2_firstFault 4 (Nat.le_of_ble_eq_true rfl) rfl ?_
  intro zp0 zl0 ze0 zs0 zm0 zargs0 zbelow0 zmeth0 zc0 zD0 zad0 zac0 C0 hr0 hk0
  refine mr_iconst (v := 0) C0 dX2_firstFault_0 (by decide) ?_
  refine mr_istore (L1 := [some (.ref 1), some (.ref p1), some (.int x2), some (.int x3), some (.int (0 : Int32)), none, none, none]) C0 dX2_firstFault_1 (Nat.le_of_ble_eq_true rfl) rfl ?_
  refine mr_iconst (v := 0) C0 dX2_firstFault_3 (by decide) ?_
  refine mr_istore (L1 := [some (.ref 1), some (.ref p1), some (.int x2), some (.int x3), some (.int (0 : Int32)), some (.int (0 : Int32)), none, none]) C0 dX2_firstFault_4 (Nat.le_of_ble_eq_true rfl) rfl ?_
  refine mr_iconst (v := 0) C0 dX2_firstFault_6 (by decide) ?_
  refine mr_istore (L1 := [some (.ref 1), some (.ref p1), some (.int x2), some (.int x3), some (.int (0 : Int32)), some (.int (0 : Int32)), some (.int (0 : Int32)), none]) C0 dX2_firstFault_7 (Nat.le_of_ble_eq_true rfl) rfl ?_
  refine mr_mask (L1 := [none, some (.ref p1), some (.int x2), some (.int x3), some (.int (0 : Int32)), some (.int (0 : Int32)), some (.int (0 : Int32)), none]) C0 [false, true, true, true, true, true, true, false] rfl ?_
  exact h zp0 zl0 ze0 zs0 zm0 zargs0 zbelow0 zmeth0 zc0 zD0 zad0 zac0 C0 hr0 hk0
set_option maxRecDepth 100000 in
set_option maxHeartbeats 4000000 in
theorem eX2_firstFault_9 {p1 : Nat} (hp1 : isSh p1) (x2 : Int32) (x3 : Int32) (x4 : Int32) (x5 : Int32) (x6 : Int32) (S : St) (Q : Int32 → St → Prop) (h : ((x3 ≤ x6 → (((((3 : Int32) + x5) + (x4 * (x5 + (1 : Int32)))) ≤ x3 → Q (-1 : Int32) S) ∧ (¬ (((3 : Int32) + x5) + (x4 * (x5 + (1 : Int32)))) ≤ x3 → Q x3 S))) ∧ (¬ x3 ≤ x6 → CallV mdX3_at [.ref p1, .int (x2 + x6)] S (qI fun r4 S3 => CallV mdX2_goesOn [.int x6, .int r4, .int x4, .int x5] S3 (qI fun r6 S5 => ((¬ r6 = 0 → ((¬ x6 = (1 : Int32) → ((¬ x6 = (2 : Int32) → V mdX2_firstFault 9 [none, some (.ref p1), some (.int x2), some (.int x3), some (.int x4), some (.int x5), some (.int (x6 + 1)), none] [] S5 (qI Q)) ∧ (x6 = (2 : Int32) → V mdX2_firstFault 9 [none, some (.ref p1), some (.int x2), some (.int x3), some (.int x4), some (.int (r4 - (48 : Int32))), some (.int (x6 + 1)), none] [] S5 (qI Q)))) ∧ (x6 = (1 : Int32) → ((¬ x6 = (2 : Int32) → V mdX2_firstFault 9 [none, some (.ref p1), some (.int x2), some (.int x3), some (.int (r4 - (48 : Int32))), some (.int x5), some (.int (x6 + 1)), none] [] S5 (qI Q)) ∧ (x6 = (2 : Int32) → V mdX2_firstFault 9 [none, some (.ref p1), some (.int x2), some (.int x3), some (.int (r4 - (48 : Int32))), some (.int (r4 - (48 : Int32))), some (.int (x6 + 1)), none] [] S5 (qI Q)))))) ∧ (r6 = 0 → Q x6 S5))))))) : V mdX2_firstFault 9 [none, some (.ref p1), some (.int x2), some (.int x3), some (.int x4), some (.int x5), some (.int x6), none] [] S (qI Q) := by
  intro zp0 zl0 ze0 zs0 zm0 zargs0 zbelow0 zmeth0 zc0 zD0 zad0 zac0 C0 hr0 hk0
  refine mr_iload C0 dX2_firstFault_9 rfl ?_
  refine mr_iload_n C0 dX2_firstFault_11 rfl (i := 3) rfl ?_
  refine mr_icmp_ge C0 dX2_firstFault_12 (tgt := 74) (by decide) (fun c1 => ?_) (fun c1 => ?_)
  · have h := h.1 c1
    refine mr_iload_n C0 dX2_firstFault_74 rfl (i := 3) rfl ?_
    refine mr_iload C0 dX2_firstFault_75 rfl ?_
    refine mr_iload C0 dX2_firstFault_77 rfl ?_
    refine mr_callSI C0 mdX2_lengthOfText dX2_firstFault_79 clX2_lengthOfText ml_X2_43 arX2_lengthOfText (as := [.int x4, .int x5]) rfl (Nat.le_of_ble_eq_true rfl) (Nat.le_of_ble_eq_true rfl) (Nat.le_of_ble_eq_true rfl) fit0 (CallV_of mdX2_lengthOfText plX2_lengthOfText 0 (Nat.le_of_ble_eq_true rfl) rfl ?_) (fun _ _ h => h)
    intro zp1 zl1 ze1 zs1 zm1 zargs1 zbelow1 zmeth1 zc1 zD1 zad1 zac1 C1 hr1 hk1
    refine mr_iconst (v := 3) C1 dX2_lengthOfText_0 (by decide) ?_
    refine mr_iload_n C1 dX2_lengthOfText_1 rfl (i := 1) rfl ?_
    refine mr_iadd C1 dX2_lengthOfText_2 ?_
    refine mr_iload_n C1 dX2_lengthOfText_3 rfl (i := 0) rfl ?_
    refine mr_iload_n C1 dX2_lengthOfText_4 rfl (i := 1) rfl ?_
    refine mr_iconst (v := 1) C1 dX2_lengthOfText_5 (by decide) ?_
    refine mr_iadd C1 dX2_lengthOfText_6 ?_
    refine mr_imul C1 dX2_lengthOfText_7 ?_
    refine mr_iadd C1 dX2_lengthOfText_8 ?_
    refine mr_iret C1 hr1 hk1 dX2_lengthOfText_9 (qI_mk ?_)
    refine mr_icmp_ge C0 dX2_firstFault_82 (tgt := 89) (by decide) (fun c2 => ?_) (fun c2 => ?_)
    · have h := h.1 c2
      refine mr_iconst (v := (-1)) C0 dX2_firstFault_89 (by decide) ?_
      refine mr_iret C0 hr0 hk0 dX2_firstFault_90 (qI_mk ?_)
      exact h
    · have h := h.2 c2
      refine mr_iload_n C0 dX2_firstFault_85 rfl (i := 3) rfl ?_
      refine mr_goto C0 dX2_firstFault_86 (tgt := 90) (by decide) ?_
      refine mr_iret C0 hr0 hk0 dX2_firstFault_90 (qI_mk ?_)
      exact h
  · have h := h.2 c1
    refine mr_aload_n C0 dX2_firstFault_15 rfl (i := 1) rfl ?_
    refine mr_iload_n C0 dX2_firstFault_16 rfl (i := 2) rfl ?_
    refine mr_iload C0 dX2_firstFault_17 rfl ?_
    refine mr_iadd C0 dX2_firstFault_19 ?_
    refine mr_callVI C0 mdX3_at dX2_firstFault_20 clX3_at ml_X2_33 (sh_lt hp1) (sh_lay hp1) rfl arX3_at (as := [.int (x2 + x6)]) rfl (Nat.le_of_ble_eq_true rfl) (Nat.le_of_ble_eq_true rfl) (Nat.le_of_ble_eq_true rfl) fit0 h (fun r4 S3 h => ?_)
    refine mr_istore (L1 := [none, some (.ref p1), some (.int x2), some (.int x3), some (.int x4), some (.int x5), some (.int x6), some (.int r4)]) C0 dX2_firstFault_23 (Nat.le_of_ble_eq_true rfl) rfl ?_
    refine mr_iload C0 dX2_firstFault_25 rfl ?_
    refine mr_iload C0 dX2_firstFault_27 rfl ?_
    refine mr_iload C0 dX2_firstFault_29 rfl ?_
    refine mr_iload C0 dX2_firstFault_31 rfl ?_
    refine mr_callSI C0 mdX2_goesOn dX2_firstFault_33 clX2_goesOn ml_X2_39 arX2_goesOn (as := [.int x6, .int r4, .int x4, .int x5]) rfl (Nat.le_of_ble_eq_true rfl) (Nat.le_of_ble_eq_true rfl) (Nat.le_of_ble_eq_true rfl) fit0 h (fun r6 S5 h => ?_)
    refine mr_if_ne C0 dX2_firstFault_36 (tgt := 42) (by decide) (fun c7 => ?_) (fun c7 => ?_)
    · have h := h.1 c7
      refine mr_iload C0 dX2_firstFault_42 rfl ?_
      refine mr_iconst (v := 1) C0 dX2_firstFault_44 (by decide) ?_
      refine mr_icmp_ne C0 dX2_firstFault_45 (tgt := 55) (by decide) (fun c8 => ?_) (fun c8 => ?_)
      · have h := h.1 c8
        refine mr_iload C0 dX2_firstFault_55 rfl ?_
        refine mr_iconst (v := 2) C0 dX2_firstFault_57 (by decide) ?_
        refine mr_icmp_ne C0 dX2_firstFault_58 (tgt := 68) (by decide) (fun c9 => ?_) (fun c9 => ?_)
        · have h := h.1 c9
          refine mr_iinc (v := (x6 + 1)) (L1 := [none, some (.ref p1), some (.int x2), some (.int x3), some (.int x4), some (.int x5), some (.int (x6 + 1)), some (.int r4)]) C0 dX2_firstFault_68 rfl rfl (Nat.le_of_ble_eq_true rfl) rfl ?_
          refine mr_goto C0 dX2_firstFault_71 (tgt := 9) (by decide) ?_
          refine mr_mask (L1 := [none, some (.ref p1), some (.int x2), some (.int x3), some (.int x4), some (.int x5), some (.int (x6 + 1)), none]) C0 [false, true, true, true, true, true, true, false] rfl ?_
          exact h zp0 zl0 ze0 zs0 zm0 zargs0 zbelow0 zmeth0 zc0 zD0 zad0 zac0 C0 hr0 hk0
        · have h := h.2 c9
          refine mr_iload C0 dX2_firstFault_61 rfl ?_
          refine mr_bipush (v := 48) C0 dX2_firstFault_63 (by decide) ?_
          refine mr_isub C0 dX2_firstFault_65 ?_
          refine mr_istore (L1 := [none, some (.ref p1), some (.int x2), some (.int x3), some (.int x4), some (.int (r4 - (48 : Int32))), some (.int x6), some (.int r4)]) C0 dX2_firstFault_66 (Nat.le_of_ble_eq_true rfl) rfl ?_
          refine mr_iinc (v := (x6 + 1)) (L1 := [none, some (.ref p1), some (.int x2), some (.int x3), some (.int x4), some (.int (r4 - (48 : Int32))), some (.int (x6 + 1)), some (.int r4)]) C0 dX2_firstFault_68 rfl rfl (Nat.le_of_ble_eq_true rfl) rfl ?_
          refine mr_goto C0 dX2_firstFault_71 (tgt := 9) (by decide) ?_
          refine mr_mask (L1 := [none, some (.ref p1), some (.int x2), some (.int x3), some (.int x4), some (.int (r4 - (48 : Int32))), some (.int (x6 + 1)), none]) C0 [false, true, true, true, true, true, true, false] rfl ?_
          exact h zp0 zl0 ze0 zs0 zm0 zargs0 zbelow0 zmeth0 zc0 zD0 zad0 zac0 C0 hr0 hk0
      · have h := h.2 c8
        refine mr_iload C0 dX2_firstFault_48 rfl ?_
        refine mr_bipush (v := 48) C0 dX2_firstFault_50 (by decide) ?_
        refine mr_isub C0 dX2_firstFault_52 ?_
        refine mr_istore (L1 := [none, some (.ref p1), some (.int x2), some (.int x3), some (.int (r4 - (48 : Int32))), some (.int x5), some (.int x6), some (.int r4)]) C0 dX2_firstFault_53 (Nat.le_of_ble_eq_true rfl) rfl ?_
        refine mr_iload C0 dX2_firstFault_55 rfl ?_
        refine mr_iconst (v := 2) C0 dX2_firstFault_57 (by decide) ?_
        refine mr_icmp_ne C0 dX2_firstFault_58 (tgt := 68) (by decide) (fun c10 => ?_) (fun c10 => ?_)
        · have h := h.1 c10
          refine mr_iinc (v := (x6 + 1)) (L1 := [none, some (.ref p1), some (.int x2), some (.int x3), some (.int (r4 - (48 : Int32))), some (.int x5), some (.int (x6 + 1)), some (.int r4)]) C0 dX2_firstFault_68 rfl rfl (Nat.le_of_ble_eq_true rfl) rfl ?_
          refine mr_goto C0 dX2_firstFault_71 (tgt := 9) (by decide) ?_
          refine mr_mask (L1 := [none, some (.ref p1), some (.int x2), some (.int x3), some (.int (r4 - (48 : Int32))), some (.int x5), some (.int (x6 + 1)), none]) C0 [false, true, true, true, true, true, true, false] rfl ?_
          exact h zp0 zl0 ze0 zs0 zm0 zargs0 zbelow0 zmeth0 zc0 zD0 zad0 zac0 C0 hr0 hk0
        · have h := h.2 c10
          refine mr_iload C0 dX2_firstFault_61 rfl ?_
          refine mr_bipush (v := 48) C0 dX2_firstFault_63 (by decide) ?_
          refine mr_isub C0 dX2_firstFault_65 ?_
          refine mr_istore (L1 := [none, some (.ref p1), some (.int x2), some (.int x3), some (.int (r4 - (48 : Int32))), some (.int (r4 - (48 : Int32))), some (.int x6), some (.int r4)]) C0 dX2_firstFault_66 (Nat.le_of_ble_eq_true rfl) rfl ?_
          refine mr_iinc (v := (x6 + 1)) (L1 := [none, some (.ref p1), some (.int x2), some (.int x3), some (.int (r4 - (48 : Int32))), some (.int (r4 - (48 : Int32))), some (.int (x6 + 1)), some (.int r4)]) C0 dX2_firstFault_68 rfl rfl (Nat.le_of_ble_eq_true rfl) rfl ?_
          refine mr_goto C0 dX2_firstFault_71 (tgt := 9) (by decide) ?_
          refine mr_mask (L1 := [none, some (.ref p1), some (.int x2), some (.int x3), some (.int (r4 - (48 : Int32))), some (.int (r4 - (48 : Int32))), some (.int (x6 + 1)), none]) C0 [false, true, true, true, true, true, true, false] rfl ?_
          exact h zp0 zl0 ze0 zs0 zm0 zargs0 zbelow0 zmeth0 zc0 zD0 zad0 zac0 C0 hr0 hk0
    · have h := h.2 c7
      refine mr_iload C0 dX2_firstFault_39 rfl ?_
      refine mr_iret C0 hr0 hk0 dX2_firstFault_41 (qI_mk ?_)
      exact h
set_option maxRecDepth 100000 in
set_option maxHeartbeats 4000000 in
theorem eX2_lengthOfText (x0 : Int32) (x1 : Int32) (S : St) (Q : Int32 → St → Prop) (h : Q (((3 : Int32) + x1) + (x0 * (x1 + (1 : Int32)))) S) : CallV mdX2_lengthOfText [.int x0, .int x1] S (qI Q) := by
  refine CallV_of mdX2_lengthOfText plX2_lengthOfText 0 (Nat.le_of_ble_eq_true rfl) rfl ?_
  intro zp0 zl0 ze0 zs0 zm0 zargs0 zbelow0 zmeth0 zc0 zD0 zad0 zac0 C0 hr0 hk0
  refine mr_iconst (v := 3) C0 dX2_lengthOfText_0 (by decide) ?_
  refine mr_iload_n C0 dX2_lengthOfText_1 rfl (i := 1) rfl ?_
  refine mr_iadd C0 dX2_lengthOfText_2 ?_
  refine mr_iload_n C0 dX2_lengthOfText_3 rfl (i := 0) rfl ?_
  refine mr_iload_n C0 dX2_lengthOfText_4 rfl (i := 1) rfl ?_
  refine mr_iconst (v := 1) C0 dX2_lengthOfText_5 (by decide) ?_
  refine mr_iadd C0 dX2_lengthOfText_6 ?_
  refine mr_imul C0 dX2_lengthOfText_7 ?_
  refine mr_iadd C0 dX2_lengthOfText_8 ?_
  refine mr_iret C0 hr0 hk0 dX2_lengthOfText_9 (qI_mk ?_)
  exact h
set_option maxRecDepth 100000 in
set_option maxHeartbeats 4000000 in
theorem eX2_goesOn (x0 : Int32) (x1 : Int32) (x2 : Int32) (x3 : Int32) (S : St) (Q : Int32 → St → Prop) (h : ((x0 = (0 : Int32) → ((¬ x1 = (109 : Int32) → Q (0 : Int32) S) ∧ (x1 = (109 : Int32) → Q (1 : Int32) S))) ∧ (¬ x0 = (0 : Int32) → ((x0 = (1 : Int32) → ((x1 < (49 : Int32) → Q (0 : Int32) S) ∧ (¬ x1 < (49 : Int32) → (((53 : Int32) < x1 → Q (0 : Int32) S) ∧ (¬ (53 : Int32) < x1 → Q (1 : Int32) S))))) ∧ (¬ x0 = (1 : Int32) → ((x0 = (2 : Int32) → ((x1 < (50 : Int32) → Q (0 : Int32) S) ∧ (¬ x1 < (50 : Int32) → (((54 : Int32) < x1 → Q (0 : Int32) S) ∧ (¬ (54 : Int32) < x1 → Q (1 : Int32) S))))) ∧ (¬ x0 = (2 : Int32) → ((0 ≤ ((x0 - (3 : Int32)) - x3) → ((x3 ≤ 0 → Q (0 : Int32) S) ∧ (¬ x3 ≤ 0 → ((x0 < (((3 : Int32) + x3) + (x2 * (x3 + (1 : Int32)))) → (¬ (x3 + (1 : Int32)) = 0) ∧ ((¬ (((x0 - (3 : Int32)) - x3) - ((x0 - (3 : Int32)) - x3) / (x3 + (1 : Int32)) * (x3 + (1 : Int32))) = 0 → CallV mdX2_signOf [.int x1] S (qI fun r14 S13 => ((r14 < 0 → Q (0 : Int32) S13) ∧ (¬ r14 < 0 → Q (1 : Int32) S13)))) ∧ ((((x0 - (3 : Int32)) - x3) - ((x0 - (3 : Int32)) - x3) / (x3 + (1 : Int32)) * (x3 + (1 : Int32))) = 0 → ((¬ x1 = (59 : Int32) → Q (0 : Int32) S) ∧ (x1 = (59 : Int32) → Q (1 : Int32) S))))) ∧ (¬ x0 < (((3 : Int32) + x3) + (x2 * (x3 + (1 : Int32)))) → Q (0 : Int32) S))))) ∧ (¬ 0 ≤ ((x0 - (3 : Int32)) - x3) → ((x1 < (48 : Int32) → Q (0 : Int32) S) ∧ (¬ x1 < (48 : Int32) → (((52 : Int32) ≤ x1 → Q (0 : Int32) S) ∧ (¬ (52 : Int32) ≤ x1 → Q (1 : Int32) S))))))))))))) : CallV mdX2_goesOn [.int x0, .int x1, .int x2, .int x3] S (qI Q) := by
  refine CallV_of mdX2_goesOn plX2_goesOn 1 (Nat.le_of_ble_eq_true rfl) rfl ?_
  intro zp0 zl0 ze0 zs0 zm0 zargs0 zbelow0 zmeth0 zc0 zD0 zad0 zac0 C0 hr0 hk0
  refine mr_iload_n C0 dX2_goesOn_0 rfl (i := 0) rfl ?_
  by_cases c1 : x0 = (0 : Int32)
  · have h := h.1 c1
    refine mr_tsIn C0 dX2_goesOn_1 (0 : Int32) c1 (by decide) (by decide) rfl (tgt := 28) (by decide) ?_
    refine mr_iload_n C0 dX2_goesOn_28 rfl (i := 1) rfl ?_
    refine mr_bipush (v := 109) C0 dX2_goesOn_29 (by decide) ?_
    refine mr_icmp_ne C0 dX2_goesOn_31 (tgt := 38) (by decide) (fun c2 => ?_) (fun c2 => ?_)
    · have h := h.1 c2
      refine mr_iconst (v := 0) C0 dX2_goesOn_38 (by decide) ?_
      refine mr_zret C0 hr0 hk0 dX2_goesOn_39 rfl (qI_mk ?_)
      exact h
    · have h := h.2 c2
      refine mr_iconst (v := 1) C0 dX2_goesOn_34 (by decide) ?_
      refine mr_goto C0 dX2_goesOn_35 (tgt := 39) (by decide) ?_
      refine mr_zret C0 hr0 hk0 dX2_goesOn_39 rfl (qI_mk ?_)
      exact h
  · have h := h.2 c1
    by_cases c3 : x0 = (1 : Int32)
    · have h := h.1 c3
      refine mr_tsIn C0 dX2_goesOn_1 (1 : Int32) c3 (by decide) (by decide) rfl (tgt := 40) (by decide) ?_
      refine mr_iload_n C0 dX2_goesOn_40 rfl (i := 1) rfl ?_
      refine mr_bipush (v := 49) C0 dX2_goesOn_41 (by decide) ?_
      refine mr_icmp_lt C0 dX2_goesOn_43 (tgt := 56) (by decide) (fun c4 => ?_) (fun c4 => ?_)
      · have h := h.1 c4
        refine mr_iconst (v := 0) C0 dX2_goesOn_56 (by decide) ?_
        refine mr_zret C0 hr0 hk0 dX2_goesOn_57 rfl (qI_mk ?_)
        exact h
      · have h := h.2 c4
        refine mr_iload_n C0 dX2_goesOn_46 rfl (i := 1) rfl ?_
        refine mr_bipush (v := 53) C0 dX2_goesOn_47 (by decide) ?_
        refine mr_icmp_gt C0 dX2_goesOn_49 (tgt := 56) (by decide) (fun c5 => ?_) (fun c5 => ?_)
        · have h := h.1 c5
          refine mr_iconst (v := 0) C0 dX2_goesOn_56 (by decide) ?_
          refine mr_zret C0 hr0 hk0 dX2_goesOn_57 rfl (qI_mk ?_)
          exact h
        · have h := h.2 c5
          refine mr_iconst (v := 1) C0 dX2_goesOn_52 (by decide) ?_
          refine mr_goto C0 dX2_goesOn_53 (tgt := 57) (by decide) ?_
          refine mr_zret C0 hr0 hk0 dX2_goesOn_57 rfl (qI_mk ?_)
          exact h
    · have h := h.2 c3
      by_cases c6 : x0 = (2 : Int32)
      · have h := h.1 c6
        refine mr_tsIn C0 dX2_goesOn_1 (2 : Int32) c6 (by decide) (by decide) rfl (tgt := 58) (by decide) ?_
        refine mr_iload_n C0 dX2_goesOn_58 rfl (i := 1) rfl ?_
        refine mr_bipush (v := 50) C0 dX2_goesOn_59 (by decide) ?_
        refine mr_icmp_lt C0 dX2_goesOn_61 (tgt := 74) (by decide) (fun c7 => ?_) (fun c7 => ?_)
        · have h := h.1 c7
          refine mr_iconst (v := 0) C0 dX2_goesOn_74 (by decide) ?_
          refine mr_zret C0 hr0 hk0 dX2_goesOn_75 rfl (qI_mk ?_)
          exact h
        · have h := h.2 c7
          refine mr_iload_n C0 dX2_goesOn_64 rfl (i := 1) rfl ?_
          refine mr_bipush (v := 54) C0 dX2_goesOn_65 (by decide) ?_
          refine mr_icmp_gt C0 dX2_goesOn_67 (tgt := 74) (by decide) (fun c8 => ?_) (fun c8 => ?_)
          · have h := h.1 c8
            refine mr_iconst (v := 0) C0 dX2_goesOn_74 (by decide) ?_
            refine mr_zret C0 hr0 hk0 dX2_goesOn_75 rfl (qI_mk ?_)
            exact h
          · have h := h.2 c8
            refine mr_iconst (v := 1) C0 dX2_goesOn_70 (by decide) ?_
            refine mr_goto C0 dX2_goesOn_71 (tgt := 75) (by decide) ?_
            refine mr_zret C0 hr0 hk0 dX2_goesOn_75 rfl (qI_mk ?_)
            exact h
      · have h := h.2 c6
        refine mr_tsOut C0 dX2_goesOn_1 (by have c1q := lv_neT c1 (show ((0 : Int32)).toInt = 0 by decide); have c3q := lv_neT c3 (show ((1 : Int32)).toInt = 1 by decide); have c6q := lv_neT c6 (show ((2 : Int32)).toInt = 2 by decide); omega) (tgt := 76) (by decide) ?_
        refine mr_iload_n C0 dX2_goesOn_76 rfl (i := 0) rfl ?_
        refine mr_iconst (v := 3) C0 dX2_goesOn_77 (by decide) ?_
        refine mr_isub C0 dX2_goesOn_78 ?_
        refine mr_iload_n C0 dX2_goesOn_79 rfl (i := 3) rfl ?_
        refine mr_isub C0 dX2_goesOn_80 ?_
        refine mr_istore (L1 := [some (.int x0), some (.int x1), some (.int x2), some (.int x3), some (.int ((x0 - (3 : Int32)) - x3))]) C0 dX2_goesOn_81 (Nat.le_of_ble_eq_true rfl) rfl ?_
        refine mr_iload C0 dX2_goesOn_83 rfl ?_
        refine mr_if_ge C0 dX2_goesOn_85 (tgt := 106) (by decide) (fun c9 => ?_) (fun c9 => ?_)
        · have h := h.1 c9
          refine mr_iload_n C0 dX2_goesOn_106 rfl (i := 3) rfl ?_
          refine mr_if_le C0 dX2_goesOn_107 (tgt := 119) (by decide) (fun c10 => ?_) (fun c10 => ?_)
          · have h := h.1 c10
            refine mr_iconst (v := 0) C0 dX2_goesOn_119 (by decide) ?_
            refine mr_zret C0 hr0 hk0 dX2_goesOn_120 rfl (qI_mk ?_)
            exact h
          · have h := h.2 c10
            refine mr_iload_n C0 dX2_goesOn_110 rfl (i := 0) rfl ?_
            refine mr_iload_n C0 dX2_goesOn_111 rfl (i := 2) rfl ?_
            refine mr_iload_n C0 dX2_goesOn_112 rfl (i := 3) rfl ?_
            refine mr_callSI C0 mdX2_lengthOfText dX2_goesOn_113 clX2_lengthOfText ml_X2_43 arX2_lengthOfText (as := [.int x2, .int x3]) rfl (Nat.le_of_ble_eq_true rfl) (Nat.le_of_ble_eq_true rfl) (Nat.le_of_ble_eq_true rfl) fit0 (CallV_of mdX2_lengthOfText plX2_lengthOfText 0 (Nat.le_of_ble_eq_true rfl) rfl ?_) (fun _ _ h => h)
            intro zp1 zl1 ze1 zs1 zm1 zargs1 zbelow1 zmeth1 zc1 zD1 zad1 zac1 C1 hr1 hk1
            refine mr_iconst (v := 3) C1 dX2_lengthOfText_0 (by decide) ?_
            refine mr_iload_n C1 dX2_lengthOfText_1 rfl (i := 1) rfl ?_
            refine mr_iadd C1 dX2_lengthOfText_2 ?_
            refine mr_iload_n C1 dX2_lengthOfText_3 rfl (i := 0) rfl ?_
            refine mr_iload_n C1 dX2_lengthOfText_4 rfl (i := 1) rfl ?_
            refine mr_iconst (v := 1) C1 dX2_lengthOfText_5 (by decide) ?_
            refine mr_iadd C1 dX2_lengthOfText_6 ?_
            refine mr_imul C1 dX2_lengthOfText_7 ?_
            refine mr_iadd C1 dX2_lengthOfText_8 ?_
            refine mr_iret C1 hr1 hk1 dX2_lengthOfText_9 (qI_mk ?_)
            refine mr_icmp_lt C0 dX2_goesOn_116 (tgt := 121) (by decide) (fun c11 => ?_) (fun c11 => ?_)
            · have h := h.1 c11
              refine mr_iload C0 dX2_goesOn_121 rfl ?_
              refine mr_iload_n C0 dX2_goesOn_123 rfl (i := 3) rfl ?_
              refine mr_iconst (v := 1) C0 dX2_goesOn_124 (by decide) ?_
              refine mr_iadd C0 dX2_goesOn_125 ?_
              have g := h.1
              have h := h.2
              refine mr_irem C0 dX2_goesOn_126 g ?_
              refine mr_if_ne C0 dX2_goesOn_127 (tgt := 144) (by decide) (fun c12 => ?_) (fun c12 => ?_)
              · have h := h.1 c12
                refine mr_iload_n C0 dX2_goesOn_144 rfl (i := 1) rfl ?_
                refine mr_callSI C0 mdX2_signOf dX2_goesOn_145 clX2_signOf ml_X2_47 arX2_signOf (as := [.int x1]) rfl (Nat.le_of_ble_eq_true rfl) (Nat.le_of_ble_eq_true rfl) (Nat.le_of_ble_eq_true rfl) fit0 h (fun r14 S13 h => ?_)
                refine mr_if_lt C0 dX2_goesOn_148 (tgt := 155) (by decide) (fun c15 => ?_) (fun c15 => ?_)
                · have h := h.1 c15
                  refine mr_iconst (v := 0) C0 dX2_goesOn_155 (by decide) ?_
                  refine mr_zret C0 hr0 hk0 dX2_goesOn_156 rfl (qI_mk ?_)
                  exact h
                · have h := h.2 c15
                  refine mr_iconst (v := 1) C0 dX2_goesOn_151 (by decide) ?_
                  refine mr_goto C0 dX2_goesOn_152 (tgt := 156) (by decide) ?_
                  refine mr_zret C0 hr0 hk0 dX2_goesOn_156 rfl (qI_mk ?_)
                  exact h
              · have h := h.2 c12
                refine mr_iload_n C0 dX2_goesOn_130 rfl (i := 1) rfl ?_
                refine mr_bipush (v := 59) C0 dX2_goesOn_131 (by decide) ?_
                refine mr_icmp_ne C0 dX2_goesOn_133 (tgt := 140) (by decide) (fun c16 => ?_) (fun c16 => ?_)
                · have h := h.1 c16
                  refine mr_iconst (v := 0) C0 dX2_goesOn_140 (by decide) ?_
                  refine mr_goto C0 dX2_goesOn_141 (tgt := 156) (by decide) ?_
                  refine mr_zret C0 hr0 hk0 dX2_goesOn_156 rfl (qI_mk ?_)
                  exact h
                · have h := h.2 c16
                  refine mr_iconst (v := 1) C0 dX2_goesOn_136 (by decide) ?_
                  refine mr_goto C0 dX2_goesOn_137 (tgt := 156) (by decide) ?_
                  refine mr_zret C0 hr0 hk0 dX2_goesOn_156 rfl (qI_mk ?_)
                  exact h
            · have h := h.2 c11
              refine mr_iconst (v := 0) C0 dX2_goesOn_119 (by decide) ?_
              refine mr_zret C0 hr0 hk0 dX2_goesOn_120 rfl (qI_mk ?_)
              exact h
        · have h := h.2 c9
          refine mr_iload_n C0 dX2_goesOn_88 rfl (i := 1) rfl ?_
          refine mr_bipush (v := 48) C0 dX2_goesOn_89 (by decide) ?_
          refine mr_icmp_lt C0 dX2_goesOn_91 (tgt := 104) (by decide) (fun c17 => ?_) (fun c17 => ?_)
          · have h := h.1 c17
            refine mr_iconst (v := 0) C0 dX2_goesOn_104 (by decide) ?_
            refine mr_zret C0 hr0 hk0 dX2_goesOn_105 rfl (qI_mk ?_)
            exact h
          · have h := h.2 c17
            refine mr_iload_n C0 dX2_goesOn_94 rfl (i := 1) rfl ?_
            refine mr_bipush (v := 52) C0 dX2_goesOn_95 (by decide) ?_
            refine mr_icmp_ge C0 dX2_goesOn_97 (tgt := 104) (by decide) (fun c18 => ?_) (fun c18 => ?_)
            · have h := h.1 c18
              refine mr_iconst (v := 0) C0 dX2_goesOn_104 (by decide) ?_
              refine mr_zret C0 hr0 hk0 dX2_goesOn_105 rfl (qI_mk ?_)
              exact h
            · have h := h.2 c18
              refine mr_iconst (v := 1) C0 dX2_goesOn_100 (by decide) ?_
              refine mr_goto C0 dX2_goesOn_101 (tgt := 105) (by decide) ?_
              refine mr_zret C0 hr0 hk0 dX2_goesOn_105 rfl (qI_mk ?_)
              exact h
set_option maxRecDepth 100000 in
set_option maxHeartbeats 4000000 in
theorem eX2_signOf (x0 : Int32) (S : St) (Q : Int32 → St → Prop) (h : ((x0 = (35 : Int32) → Q (4 : Int32) S) ∧ (¬ x0 = (35 : Int32) → ((x0 = (46 : Int32) → Q (0 : Int32) S) ∧ (¬ x0 = (46 : Int32) → ((x0 = (108 : Int32) → Q (2 : Int32) S) ∧ (¬ x0 = (108 : Int32) → ((x0 = (112 : Int32) → Q (1 : Int32) S) ∧ (¬ x0 = (112 : Int32) → ((x0 = (114 : Int32) → Q (3 : Int32) S) ∧ (¬ x0 = (114 : Int32) → Q (-1 : Int32) S))))))))))) : CallV mdX2_signOf [.int x0] S (qI Q) := by
  refine CallV_of mdX2_signOf plX2_signOf 0 (Nat.le_of_ble_eq_true rfl) rfl ?_
  intro zp0 zl0 ze0 zs0 zm0 zargs0 zbelow0 zmeth0 zc0 zD0 zad0 zac0 C0 hr0 hk0
  refine mr_iload_n C0 dX2_signOf_0 rfl (i := 0) rfl ?_
  by_cases c1 : x0 = (35 : Int32)
  · have h := h.1 c1
    refine mr_ls C0 dX2_signOf_1 (by decide) (off := 59) (by rw [c1]; decide) (tgt := 60) (by decide) ?_
    refine mr_iconst (v := 4) C0 dX2_signOf_60 (by decide) ?_
    refine mr_iret C0 hr0 hk0 dX2_signOf_61 (qI_mk ?_)
    exact h
  · have h := h.2 c1
    by_cases c2 : x0 = (46 : Int32)
    · have h := h.1 c2
      refine mr_ls C0 dX2_signOf_1 (by decide) (off := 51) (by rw [c2]; decide) (tgt := 52) (by decide) ?_
      refine mr_iconst (v := 0) C0 dX2_signOf_52 (by decide) ?_
      refine mr_iret C0 hr0 hk0 dX2_signOf_53 (qI_mk ?_)
      exact h
    · have h := h.2 c2
      by_cases c3 : x0 = (108 : Int32)
      · have h := h.1 c3
        refine mr_ls C0 dX2_signOf_1 (by decide) (off := 55) (by rw [c3]; decide) (tgt := 56) (by decide) ?_
        refine mr_iconst (v := 2) C0 dX2_signOf_56 (by decide) ?_
        refine mr_iret C0 hr0 hk0 dX2_signOf_57 (qI_mk ?_)
        exact h
      · have h := h.2 c3
        by_cases c4 : x0 = (112 : Int32)
        · have h := h.1 c4
          refine mr_ls C0 dX2_signOf_1 (by decide) (off := 53) (by rw [c4]; decide) (tgt := 54) (by decide) ?_
          refine mr_iconst (v := 1) C0 dX2_signOf_54 (by decide) ?_
          refine mr_iret C0 hr0 hk0 dX2_signOf_55 (qI_mk ?_)
          exact h
        · have h := h.2 c4
          by_cases c5 : x0 = (114 : Int32)
          · have h := h.1 c5
            refine mr_ls C0 dX2_signOf_1 (by decide) (off := 57) (by rw [c5]; decide) (tgt := 58) (by decide) ?_
            refine mr_iconst (v := 3) C0 dX2_signOf_58 (by decide) ?_
            refine mr_iret C0 hr0 hk0 dX2_signOf_59 (qI_mk ?_)
            exact h
          · have h := h.2 c5
            refine mr_ls C0 dX2_signOf_1 (by decide) (off := 61) (by show Op.lookupswitch.offset [(35, 59), (46, 51), (108, 55), (112, 53), (114, 57)] 61 _ = _; rw [lv_osw c1 (show ((35 : Int32)).toInt = 35 by decide), lv_osw c2 (show ((46 : Int32)).toInt = 46 by decide), lv_osw c3 (show ((108 : Int32)).toInt = 108 by decide), lv_osw c4 (show ((112 : Int32)).toInt = 112 by decide), lv_osw c5 (show ((114 : Int32)).toInt = 114 by decide)]; rfl) (tgt := 62) (by decide) ?_
            refine mr_iconst (v := (-1)) C0 dX2_signOf_62 (by decide) ?_
            refine mr_iret C0 hr0 hk0 dX2_signOf_63 (qI_mk ?_)
            exact h
set_option maxRecDepth 100000 in
set_option maxHeartbeats 4000000 in
theorem eX2_build {p1 : Nat} (hp1 : isSh p1) (x2 : Int32) (S : St) (Q : St → Prop) (h : CallV mdX3_at [.ref p1, .int (x2 + (1 : Int32))] S (qI fun r2 S1 => CallV mdX3_at [.ref p1, .int (x2 + (2 : Int32))] (sI S1 1 2 (r2 - (48 : Int32))) (qI fun r4 S3 => V mdX2_build 35 [some (.ref 1), some (.ref p1), some (.int x2), some (.int (0 : Int32)), none, none] [] (sI (sI S3 1 3 (r4 - (48 : Int32))) 1 4 (0 : Int32)) (qV Q)))) : CallV mdX2_build [.ref 1, .ref p1, .int x2] S (qV Q) := by
  refine CallV_of mdX2_build plX2_build 3 (Nat.le_of_ble_eq_true rfl) rfl ?_
  intro zp0 zl0 ze0 zs0 zm0 zargs0 zbelow0 zmeth0 zc0 zD0 zad0 zac0 C0 hr0 hk0
  refine mr_aload_n C0 dX2_build_0 rfl (i := 0) rfl ?_
  refine mr_aload_n C0 dX2_build_1 rfl (i := 1) rfl ?_
  refine mr_iload_n C0 dX2_build_2 rfl (i := 2) rfl ?_
  refine mr_iconst (v := 1) C0 dX2_build_3 (by decide) ?_
  refine mr_iadd C0 dX2_build_4 ?_
  refine mr_callVI C0 mdX3_at dX2_build_5 clX3_at ml_X2_33 (sh_lt hp1) (sh_lay hp1) rfl arX3_at (as := [.int (x2 + (1 : Int32))]) rfl (Nat.le_of_ble_eq_true rfl) (Nat.le_of_ble_eq_true rfl) (Nat.le_of_ble_eq_true rfl) fit0 h (fun r2 S1 h => ?_)
  refine mr_bipush (v := 48) C0 dX2_build_8 (by decide) ?_
  refine mr_isub C0 dX2_build_10 ?_
  refine mr_putI C0 dX2_build_11 fl_X2_18 (Nat.le_of_ble_eq_true rfl) rfl rfl rfl rfl ?_
  refine mr_aload_n C0 dX2_build_14 rfl (i := 0) rfl ?_
  refine mr_aload_n C0 dX2_build_15 rfl (i := 1) rfl ?_
  refine mr_iload_n C0 dX2_build_16 rfl (i := 2) rfl ?_
  refine mr_iconst (v := 2) C0 dX2_build_17 (by decide) ?_
  refine mr_iadd C0 dX2_build_18 ?_
  refine mr_callVI C0 mdX3_at dX2_build_19 clX3_at ml_X2_33 (sh_lt hp1) (sh_lay hp1) rfl arX3_at (as := [.int (x2 + (2 : Int32))]) rfl (Nat.le_of_ble_eq_true rfl) (Nat.le_of_ble_eq_true rfl) (Nat.le_of_ble_eq_true rfl) fit0 h (fun r4 S3 h => ?_)
  refine mr_bipush (v := 48) C0 dX2_build_22 (by decide) ?_
  refine mr_isub C0 dX2_build_24 ?_
  refine mr_putI C0 dX2_build_25 fl_X2_22 (Nat.le_of_ble_eq_true rfl) rfl rfl rfl rfl ?_
  refine mr_aload_n C0 dX2_build_28 rfl (i := 0) rfl ?_
  refine mr_iconst (v := 0) C0 dX2_build_29 (by decide) ?_
  refine mr_putI C0 dX2_build_30 fl_X2_25 (Nat.le_of_ble_eq_true rfl) rfl rfl rfl rfl ?_
  refine mr_iconst (v := 0) C0 dX2_build_33 (by decide) ?_
  refine mr_istore_n (L1 := [some (.ref 1), some (.ref p1), some (.int x2), some (.int (0 : Int32)), none, none]) C0 dX2_build_34 rfl (Nat.le_of_ble_eq_true rfl) rfl ?_
  exact h zp0 zl0 ze0 zs0 zm0 zargs0 zbelow0 zmeth0 zc0 zD0 zad0 zac0 C0 hr0 hk0
set_option maxRecDepth 100000 in
set_option maxHeartbeats 4000000 in
theorem eX2_build_35 {p1 : Nat} (hp1 : isSh p1) (x2 : Int32) (x3 : Int32) (S : St) (Q : St → Prop) (h : (((S.1 1 3) ≤ x3 → V mdX2_build 69 [some (.ref 1), some (.ref p1), some (.int x2), some (.int (0 : Int32)), none, none] [] S (qV Q)) ∧ (¬ (S.1 1 3) ≤ x3 → CallV mdX3_at [.ref p1, .int ((x2 + (3 : Int32)) + x3)] S (qI fun r3 S2 => (vp_in x3 6) ∧ V mdX2_build 35 [some (.ref 1), some (.ref p1), some (.int x2), some (.int (x3 + 1)), none, none] [] (sI S2 3 x3.toNatClampNeg (r3 - (48 : Int32))) (qV Q))))) : V mdX2_build 35 [some (.ref 1), some (.ref p1), some (.int x2), some (.int x3), none, none] [] S (qV Q) := by
  intro zp0 zl0 ze0 zs0 zm0 zargs0 zbelow0 zmeth0 zc0 zD0 zad0 zac0 C0 hr0 hk0
  refine mr_iload_n C0 dX2_build_35 rfl (i := 3) rfl ?_
  refine mr_aload_n C0 dX2_build_36 rfl (i := 0) rfl ?_
  refine mr_getI C0 dX2_build_37 fl_X2_22 (Nat.le_of_ble_eq_true rfl) rfl rfl ?_
  refine mr_icmp_ge C0 dX2_build_40 (tgt := 67) (by decide) (fun c1 => ?_) (fun c1 => ?_)
  · have h := h.1 c1
    refine mr_iconst (v := 0) C0 dX2_build_67 (by decide) ?_
    refine mr_istore_n (L1 := [some (.ref 1), some (.ref p1), some (.int x2), some (.int (0 : Int32)), none, none]) C0 dX2_build_68 rfl (Nat.le_of_ble_eq_true rfl) rfl ?_
    exact h zp0 zl0 ze0 zs0 zm0 zargs0 zbelow0 zmeth0 zc0 zD0 zad0 zac0 C0 hr0 hk0
  · have h := h.2 c1
    refine mr_aload_n C0 dX2_build_43 rfl (i := 0) rfl ?_
    refine mr_getR C0 dX2_build_44 fl_X2_15 (Nat.le_of_ble_eq_true rfl) rfl rfl ?_
    refine mr_iload_n C0 dX2_build_47 rfl (i := 3) rfl ?_
    refine mr_aload_n C0 dX2_build_48 rfl (i := 1) rfl ?_
    refine mr_iload_n C0 dX2_build_49 rfl (i := 2) rfl ?_
    refine mr_iconst (v := 3) C0 dX2_build_50 (by decide) ?_
    refine mr_iadd C0 dX2_build_51 ?_
    refine mr_iload_n C0 dX2_build_52 rfl (i := 3) rfl ?_
    refine mr_iadd C0 dX2_build_53 ?_
    refine mr_callVI C0 mdX3_at dX2_build_54 clX3_at ml_X2_33 (sh_lt hp1) (sh_lay hp1) rfl arX3_at (as := [.int ((x2 + (3 : Int32)) + x3)]) rfl (Nat.le_of_ble_eq_true rfl) (Nat.le_of_ble_eq_true rfl) (Nat.le_of_ble_eq_true rfl) fit0 h (fun r3 S2 h => ?_)
    refine mr_bipush (v := 48) C0 dX2_build_57 (by decide) ?_
    refine mr_isub C0 dX2_build_59 ?_
    have g4 := h.1
    have h := h.2
    refine mr_iast C0 dX2_build_60 (Nat.le_of_ble_eq_true rfl) rfl g4 ?_
    refine mr_iinc (v := (x3 + 1)) (L1 := [some (.ref 1), some (.ref p1), some (.int x2), some (.int (x3 + 1)), none, none]) C0 dX2_build_61 rfl rfl (Nat.le_of_ble_eq_true rfl) rfl ?_
    refine mr_goto C0 dX2_build_64 (tgt := 35) (by decide) ?_
    exact h zp0 zl0 ze0 zs0 zm0 zargs0 zbelow0 zmeth0 zc0 zD0 zad0 zac0 C0 hr0 hk0
set_option maxRecDepth 100000 in
set_option maxHeartbeats 4000000 in
theorem eX2_build_69 {p1 : Nat} (hp1 : isSh p1) (x2 : Int32) (x3 : Int32) (S : St) (Q : St → Prop) (h : (((S.1 1 2) ≤ x3 → Q S) ∧ (¬ (S.1 1 2) ≤ x3 → V mdX2_build 94 [some (.ref 1), some (.ref p1), some (.int x2), some (.int x3), some (.int ((x2 + (((3 : Int32) + (S.1 1 3)) + (x3 * ((S.1 1 3) + (1 : Int32))))) + (1 : Int32))), some (.int (0 : Int32))] [] S (qV Q)))) : V mdX2_build 69 [some (.ref 1), some (.ref p1), some (.int x2), some (.int x3), none, none] [] S (qV Q) := by
  intro zp0 zl0 ze0 zs0 zm0 zargs0 zbelow0 zmeth0 zc0 zD0 zad0 zac0 C0 hr0 hk0
  refine mr_iload_n C0 dX2_build_69 rfl (i := 3) rfl ?_
  refine mr_aload_n C0 dX2_build_70 rfl (i := 0) rfl ?_
  refine mr_getI C0 dX2_build_71 fl_X2_18 (Nat.le_of_ble_eq_true rfl) rfl rfl ?_
  refine mr_icmp_ge C0 dX2_build_74 (tgt := 141) (by decide) (fun c1 => ?_) (fun c1 => ?_)
  · have h := h.1 c1
    refine mr_vret C0 hr0 hk0 dX2_build_141 (qV_mk ?_)
    exact h
  · have h := h.2 c1
    refine mr_iload_n C0 dX2_build_77 rfl (i := 2) rfl ?_
    refine mr_iload_n C0 dX2_build_78 rfl (i := 3) rfl ?_
    refine mr_aload_n C0 dX2_build_79 rfl (i := 0) rfl ?_
    refine mr_getI C0 dX2_build_80 fl_X2_22 (Nat.le_of_ble_eq_true rfl) rfl rfl ?_
    refine mr_callSI C0 mdX2_lengthOfText dX2_build_83 clX2_lengthOfText ml_X2_43 arX2_lengthOfText (as := [.int x3, .int (S.1 1 3)]) rfl (Nat.le_of_ble_eq_true rfl) (Nat.le_of_ble_eq_true rfl) (Nat.le_of_ble_eq_true rfl) fit0 (CallV_of mdX2_lengthOfText plX2_lengthOfText 0 (Nat.le_of_ble_eq_true rfl) rfl ?_) (fun _ _ h => h)
    intro zp1 zl1 ze1 zs1 zm1 zargs1 zbelow1 zmeth1 zc1 zD1 zad1 zac1 C1 hr1 hk1
    refine mr_iconst (v := 3) C1 dX2_lengthOfText_0 (by decide) ?_
    refine mr_iload_n C1 dX2_lengthOfText_1 rfl (i := 1) rfl ?_
    refine mr_iadd C1 dX2_lengthOfText_2 ?_
    refine mr_iload_n C1 dX2_lengthOfText_3 rfl (i := 0) rfl ?_
    refine mr_iload_n C1 dX2_lengthOfText_4 rfl (i := 1) rfl ?_
    refine mr_iconst (v := 1) C1 dX2_lengthOfText_5 (by decide) ?_
    refine mr_iadd C1 dX2_lengthOfText_6 ?_
    refine mr_imul C1 dX2_lengthOfText_7 ?_
    refine mr_iadd C1 dX2_lengthOfText_8 ?_
    refine mr_iret C1 hr1 hk1 dX2_lengthOfText_9 (qI_mk ?_)
    refine mr_iadd C0 dX2_build_86 ?_
    refine mr_iconst (v := 1) C0 dX2_build_87 (by decide) ?_
    refine mr_iadd C0 dX2_build_88 ?_
    refine mr_istore (L1 := [some (.ref 1), some (.ref p1), some (.int x2), some (.int x3), some (.int ((x2 + (((3 : Int32) + (S.1 1 3)) + (x3 * ((S.1 1 3) + (1 : Int32))))) + (1 : Int32))), none]) C0 dX2_build_89 (Nat.le_of_ble_eq_true rfl) rfl ?_
    refine mr_iconst (v := 0) C0 dX2_build_91 (by decide) ?_
    refine mr_istore (L1 := [some (.ref 1), some (.ref p1), some (.int x2), some (.int x3), some (.int ((x2 + (((3 : Int32) + (S.1 1 3)) + (x3 * ((S.1 1 3) + (1 : Int32))))) + (1 : Int32))), some (.int (0 : Int32))]) C0 dX2_build_92 (Nat.le_of_ble_eq_true rfl) rfl ?_
    exact h zp0 zl0 ze0 zs0 zm0 zargs0 zbelow0 zmeth0 zc0 zD0 zad0 zac0 C0 hr0 hk0
set_option maxRecDepth 100000 in
set_option maxHeartbeats 4000000 in
theorem eX2_build_94 {p1 : Nat} (hp1 : isSh p1) (x2 : Int32) (x3 : Int32) (x4 : Int32) (x5 : Int32) (S : St) (Q : St → Prop) (h : (((S.1 1 3) ≤ x5 → V mdX2_build 69 [some (.ref 1), some (.ref p1), some (.int x2), some (.int (x3 + 1)), none, none] [] S (qV Q)) ∧ (¬ (S.1 1 3) ≤ x5 → CallV mdX3_at [.ref p1, .int (x4 + x5)] S (qI fun r3 S2 => CallV mdX2_signOf [.int r3] S2 (qI fun r5 S4 => (vp_in ((x3 * (S.1 1 3)) + x5) 30) ∧ V mdX2_build 94 [some (.ref 1), some (.ref p1), some (.int x2), some (.int x3), some (.int x4), some (.int (x5 + 1))] [] (sI S4 2 (((x3 * (S.1 1 3)) + x5).toNatClampNeg) r5) (qV Q)))))) : V mdX2_build 94 [some (.ref 1), some (.ref p1), some (.int x2), some (.int x3), some (.int x4), some (.int x5)] [] S (qV Q) := by
  intro zp0 zl0 ze0 zs0 zm0 zargs0 zbelow0 zmeth0 zc0 zD0 zad0 zac0 C0 hr0 hk0
  refine mr_iload C0 dX2_build_94 rfl ?_
  refine mr_aload_n C0 dX2_build_96 rfl (i := 0) rfl ?_
  refine mr_getI C0 dX2_build_97 fl_X2_22 (Nat.le_of_ble_eq_true rfl) rfl rfl ?_
  refine mr_icmp_ge C0 dX2_build_100 (tgt := 135) (by decide) (fun c1 => ?_) (fun c1 => ?_)
  · have h := h.1 c1
    refine mr_iinc (v := (x3 + 1)) (L1 := [some (.ref 1), some (.ref p1), some (.int x2), some (.int (x3 + 1)), some (.int x4), some (.int x5)]) C0 dX2_build_135 rfl rfl (Nat.le_of_ble_eq_true rfl) rfl ?_
    refine mr_goto C0 dX2_build_138 (tgt := 69) (by decide) ?_
    refine mr_mask (L1 := [some (.ref 1), some (.ref p1), some (.int x2), some (.int (x3 + 1)), none, none]) C0 [true, true, true, true, false, false] rfl ?_
    exact h zp0 zl0 ze0 zs0 zm0 zargs0 zbelow0 zmeth0 zc0 zD0 zad0 zac0 C0 hr0 hk0
  · have h := h.2 c1
    refine mr_aload_n C0 dX2_build_103 rfl (i := 0) rfl ?_
    refine mr_getR C0 dX2_build_104 fl_X2_9 (Nat.le_of_ble_eq_true rfl) rfl rfl ?_
    refine mr_iload_n C0 dX2_build_107 rfl (i := 3) rfl ?_
    refine mr_aload_n C0 dX2_build_108 rfl (i := 0) rfl ?_
    refine mr_getI C0 dX2_build_109 fl_X2_22 (Nat.le_of_ble_eq_true rfl) rfl rfl ?_
    refine mr_imul C0 dX2_build_112 ?_
    refine mr_iload C0 dX2_build_113 rfl ?_
    refine mr_iadd C0 dX2_build_115 ?_
    refine mr_aload_n C0 dX2_build_116 rfl (i := 1) rfl ?_
    refine mr_iload C0 dX2_build_117 rfl ?_
    refine mr_iload C0 dX2_build_119 rfl ?_
    refine mr_iadd C0 dX2_build_121 ?_
    refine mr_callVI C0 mdX3_at dX2_build_122 clX3_at ml_X2_33 (sh_lt hp1) (sh_lay hp1) rfl arX3_at (as := [.int (x4 + x5)]) rfl (Nat.le_of_ble_eq_true rfl) (Nat.le_of_ble_eq_true rfl) (Nat.le_of_ble_eq_true rfl) fit0 h (fun r3 S2 h => ?_)
    refine mr_callSI C0 mdX2_signOf dX2_build_125 clX2_signOf ml_X2_47 arX2_signOf (as := [.int r3]) rfl (Nat.le_of_ble_eq_true rfl) (Nat.le_of_ble_eq_true rfl) (Nat.le_of_ble_eq_true rfl) fit0 h (fun r5 S4 h => ?_)
    have g6 := h.1
    have h := h.2
    refine mr_iast C0 dX2_build_128 (Nat.le_of_ble_eq_true rfl) rfl g6 ?_
    refine mr_iinc (v := (x5 + 1)) (L1 := [some (.ref 1), some (.ref p1), some (.int x2), some (.int x3), some (.int x4), some (.int (x5 + 1))]) C0 dX2_build_129 rfl rfl (Nat.le_of_ble_eq_true rfl) rfl ?_
    refine mr_goto C0 dX2_build_132 (tgt := 94) (by decide) ?_
    exact h zp0 zl0 ze0 zs0 zm0 zargs0 zbelow0 zmeth0 zc0 zD0 zad0 zac0 C0 hr0 hk0
set_option maxRecDepth 100000 in
set_option maxHeartbeats 4000000 in
theorem eX2_partsLeft (x1 : Int32) (x2 : Int32) (S : St) (Q : Int32 → St → Prop) (h : ((¬ x2 = (2 : Int32) → ((¬ x1 = (1 : Int32) → ((¬ x1 = (2 : Int32) → Q (0 : Int32) S) ∧ (x1 = (2 : Int32) → Q (8 : Int32) S))) ∧ (x1 = (1 : Int32) → ((¬ x2 = 0 → (((S.1 1 4) = 0 → Q (2 : Int32) S) ∧ (¬ (S.1 1 4) = 0 → Q (3 : Int32) S))) ∧ (x2 = 0 → (((S.1 1 4) = 0 → Q (4 : Int32) S) ∧ (¬ (S.1 1 4) = 0 → Q (5 : Int32) S))))))) ∧ (x2 = (2 : Int32) → Q (0 : Int32) S))) : CallV mdX2_partsLeft [.ref 1, .int x1, .int x2] S (qI Q) := by
  refine CallV_of mdX2_partsLeft plX2_partsLeft 1 (Nat.le_of_ble_eq_true rfl) rfl ?_
  intro zp0 zl0 ze0 zs0 zm0 zargs0 zbelow0 zmeth0 zc0 zD0 zad0 zac0 C0 hr0 hk0
  refine mr_iload_n C0 dX2_partsLeft_0 rfl (i := 2) rfl ?_
  refine mr_iconst (v := 2) C0 dX2_partsLeft_1 (by decide) ?_
  refine mr_icmp_ne C0 dX2_partsLeft_2 (tgt := 7) (by decide) (fun c1 => ?_) (fun c1 => ?_)
  · have h := h.1 c1
    refine mr_iload_n C0 dX2_partsLeft_7 rfl (i := 1) rfl ?_
    refine mr_iconst (v := 1) C0 dX2_partsLeft_8 (by decide) ?_
    refine mr_icmp_ne C0 dX2_partsLeft_9 (tgt := 37) (by decide) (fun c2 => ?_) (fun c2 => ?_)
    · have h := h.1 c2
      refine mr_iload_n C0 dX2_partsLeft_37 rfl (i := 1) rfl ?_
      refine mr_iconst (v := 2) C0 dX2_partsLeft_38 (by decide) ?_
      refine mr_icmp_ne C0 dX2_partsLeft_39 (tgt := 47) (by decide) (fun c3 => ?_) (fun c3 => ?_)
      · have h := h.1 c3
        refine mr_iconst (v := 0) C0 dX2_partsLeft_47 (by decide) ?_
        refine mr_iret C0 hr0 hk0 dX2_partsLeft_48 (qI_mk ?_)
        exact h
      · have h := h.2 c3
        refine mr_bipush (v := 8) C0 dX2_partsLeft_42 (by decide) ?_
        refine mr_goto C0 dX2_partsLeft_44 (tgt := 48) (by decide) ?_
        refine mr_iret C0 hr0 hk0 dX2_partsLeft_48 (qI_mk ?_)
        exact h
    · have h := h.2 c2
      refine mr_iload_n C0 dX2_partsLeft_12 rfl (i := 2) rfl ?_
      refine mr_if_ne C0 dX2_partsLeft_13 (tgt := 20) (by decide) (fun c4 => ?_) (fun c4 => ?_)
      · have h := h.1 c4
        refine mr_iconst (v := 2) C0 dX2_partsLeft_20 (by decide) ?_
        refine mr_istore_n (L1 := [some (.ref 1), some (.int x1), some (.int x2), some (.int (2 : Int32))]) C0 dX2_partsLeft_21 rfl (Nat.le_of_ble_eq_true rfl) rfl ?_
        refine mr_aload_n C0 dX2_partsLeft_22 rfl (i := 0) rfl ?_
        refine mr_getI C0 dX2_partsLeft_23 fl_X2_25 (Nat.le_of_ble_eq_true rfl) rfl rfl ?_
        refine mr_if_eq C0 dX2_partsLeft_26 (tgt := 35) (by decide) (fun c5 => ?_) (fun c5 => ?_)
        · have h := h.1 c5
          refine mr_iload_n C0 dX2_partsLeft_35 rfl (i := 3) rfl ?_
          refine mr_iret C0 hr0 hk0 dX2_partsLeft_36 (qI_mk ?_)
          exact h
        · have h := h.2 c5
          refine mr_iload_n C0 dX2_partsLeft_29 rfl (i := 3) rfl ?_
          refine mr_iconst (v := 1) C0 dX2_partsLeft_30 (by decide) ?_
          refine mr_iadd C0 dX2_partsLeft_31 ?_
          refine mr_topI (y := (3 : Int32)) (by decide) ?_
          refine mr_goto C0 dX2_partsLeft_32 (tgt := 36) (by decide) ?_
          refine mr_iret C0 hr0 hk0 dX2_partsLeft_36 (qI_mk ?_)
          exact h
      · have h := h.2 c4
        refine mr_iconst (v := 4) C0 dX2_partsLeft_16 (by decide) ?_
        refine mr_goto C0 dX2_partsLeft_17 (tgt := 21) (by decide) ?_
        refine mr_istore_n (L1 := [some (.ref 1), some (.int x1), some (.int x2), some (.int (4 : Int32))]) C0 dX2_partsLeft_21 rfl (Nat.le_of_ble_eq_true rfl) rfl ?_
        refine mr_aload_n C0 dX2_partsLeft_22 rfl (i := 0) rfl ?_
        refine mr_getI C0 dX2_partsLeft_23 fl_X2_25 (Nat.le_of_ble_eq_true rfl) rfl rfl ?_
        refine mr_if_eq C0 dX2_partsLeft_26 (tgt := 35) (by decide) (fun c6 => ?_) (fun c6 => ?_)
        · have h := h.1 c6
          refine mr_iload_n C0 dX2_partsLeft_35 rfl (i := 3) rfl ?_
          refine mr_iret C0 hr0 hk0 dX2_partsLeft_36 (qI_mk ?_)
          exact h
        · have h := h.2 c6
          refine mr_iload_n C0 dX2_partsLeft_29 rfl (i := 3) rfl ?_
          refine mr_iconst (v := 1) C0 dX2_partsLeft_30 (by decide) ?_
          refine mr_iadd C0 dX2_partsLeft_31 ?_
          refine mr_topI (y := (5 : Int32)) (by decide) ?_
          refine mr_goto C0 dX2_partsLeft_32 (tgt := 36) (by decide) ?_
          refine mr_iret C0 hr0 hk0 dX2_partsLeft_36 (qI_mk ?_)
          exact h
  · have h := h.2 c1
    refine mr_iconst (v := 0) C0 dX2_partsLeft_5 (by decide) ?_
    refine mr_iret C0 hr0 hk0 dX2_partsLeft_6 (qI_mk ?_)
    exact h
set_option maxRecDepth 100000 in
set_option maxHeartbeats 4000000 in
theorem eX2_partsRight (x1 : Int32) (x2 : Int32) (S : St) (Q : Int32 → St → Prop) (h : ((¬ x2 = (2 : Int32) → ((¬ x1 = (1 : Int32) → ((¬ x1 = (3 : Int32) → Q (0 : Int32) S) ∧ (x1 = (3 : Int32) → Q (8 : Int32) S))) ∧ (x1 = (1 : Int32) → ((¬ x2 = 0 → (((S.1 1 4) = 0 → Q (2 : Int32) S) ∧ (¬ (S.1 1 4) = 0 → Q (1 : Int32) S))) ∧ (x2 = 0 → (((S.1 1 4) = 0 → Q (4 : Int32) S) ∧ (¬ (S.1 1 4) = 0 → Q (3 : Int32) S))))))) ∧ (x2 = (2 : Int32) → Q (0 : Int32) S))) : CallV mdX2_partsRight [.ref 1, .int x1, .int x2] S (qI Q) := by
  refine CallV_of mdX2_partsRight plX2_partsRight 1 (Nat.le_of_ble_eq_true rfl) rfl ?_
  intro zp0 zl0 ze0 zs0 zm0 zargs0 zbelow0 zmeth0 zc0 zD0 zad0 zac0 C0 hr0 hk0
  refine mr_iload_n C0 dX2_partsRight_0 rfl (i := 2) rfl ?_
  refine mr_iconst (v := 2) C0 dX2_partsRight_1 (by decide) ?_
  refine mr_icmp_ne C0 dX2_partsRight_2 (tgt := 7) (by decide) (fun c1 => ?_) (fun c1 => ?_)
  · have h := h.1 c1
    refine mr_iload_n C0 dX2_partsRight_7 rfl (i := 1) rfl ?_
    refine mr_iconst (v := 1) C0 dX2_partsRight_8 (by decide) ?_
    refine mr_icmp_ne C0 dX2_partsRight_9 (tgt := 37) (by decide) (fun c2 => ?_) (fun c2 => ?_)
    · have h := h.1 c2
      refine mr_iload_n C0 dX2_partsRight_37 rfl (i := 1) rfl ?_
      refine mr_iconst (v := 3) C0 dX2_partsRight_38 (by decide) ?_
      refine mr_icmp_ne C0 dX2_partsRight_39 (tgt := 47) (by decide) (fun c3 => ?_) (fun c3 => ?_)
      · have h := h.1 c3
        refine mr_iconst (v := 0) C0 dX2_partsRight_47 (by decide) ?_
        refine mr_iret C0 hr0 hk0 dX2_partsRight_48 (qI_mk ?_)
        exact h
      · have h := h.2 c3
        refine mr_bipush (v := 8) C0 dX2_partsRight_42 (by decide) ?_
        refine mr_goto C0 dX2_partsRight_44 (tgt := 48) (by decide) ?_
        refine mr_iret C0 hr0 hk0 dX2_partsRight_48 (qI_mk ?_)
        exact h
    · have h := h.2 c2
      refine mr_iload_n C0 dX2_partsRight_12 rfl (i := 2) rfl ?_
      refine mr_if_ne C0 dX2_partsRight_13 (tgt := 20) (by decide) (fun c4 => ?_) (fun c4 => ?_)
      · have h := h.1 c4
        refine mr_iconst (v := 2) C0 dX2_partsRight_20 (by decide) ?_
        refine mr_istore_n (L1 := [some (.ref 1), some (.int x1), some (.int x2), some (.int (2 : Int32))]) C0 dX2_partsRight_21 rfl (Nat.le_of_ble_eq_true rfl) rfl ?_
        refine mr_aload_n C0 dX2_partsRight_22 rfl (i := 0) rfl ?_
        refine mr_getI C0 dX2_partsRight_23 fl_X2_25 (Nat.le_of_ble_eq_true rfl) rfl rfl ?_
        refine mr_if_eq C0 dX2_partsRight_26 (tgt := 35) (by decide) (fun c5 => ?_) (fun c5 => ?_)
        · have h := h.1 c5
          refine mr_iload_n C0 dX2_partsRight_35 rfl (i := 3) rfl ?_
          refine mr_iret C0 hr0 hk0 dX2_partsRight_36 (qI_mk ?_)
          exact h
        · have h := h.2 c5
          refine mr_iload_n C0 dX2_partsRight_29 rfl (i := 3) rfl ?_
          refine mr_iconst (v := 1) C0 dX2_partsRight_30 (by decide) ?_
          refine mr_isub C0 dX2_partsRight_31 ?_
          refine mr_topI (y := (1 : Int32)) (by decide) ?_
          refine mr_goto C0 dX2_partsRight_32 (tgt := 36) (by decide) ?_
          refine mr_iret C0 hr0 hk0 dX2_partsRight_36 (qI_mk ?_)
          exact h
      · have h := h.2 c4
        refine mr_iconst (v := 4) C0 dX2_partsRight_16 (by decide) ?_
        refine mr_goto C0 dX2_partsRight_17 (tgt := 21) (by decide) ?_
        refine mr_istore_n (L1 := [some (.ref 1), some (.int x1), some (.int x2), some (.int (4 : Int32))]) C0 dX2_partsRight_21 rfl (Nat.le_of_ble_eq_true rfl) rfl ?_
        refine mr_aload_n C0 dX2_partsRight_22 rfl (i := 0) rfl ?_
        refine mr_getI C0 dX2_partsRight_23 fl_X2_25 (Nat.le_of_ble_eq_true rfl) rfl rfl ?_
        refine mr_if_eq C0 dX2_partsRight_26 (tgt := 35) (by decide) (fun c6 => ?_) (fun c6 => ?_)
        · have h := h.1 c6
          refine mr_iload_n C0 dX2_partsRight_35 rfl (i := 3) rfl ?_
          refine mr_iret C0 hr0 hk0 dX2_partsRight_36 (qI_mk ?_)
          exact h
        · have h := h.2 c6
          refine mr_iload_n C0 dX2_partsRight_29 rfl (i := 3) rfl ?_
          refine mr_iconst (v := 1) C0 dX2_partsRight_30 (by decide) ?_
          refine mr_isub C0 dX2_partsRight_31 ?_
          refine mr_topI (y := (3 : Int32)) (by decide) ?_
          refine mr_goto C0 dX2_partsRight_32 (tgt := 36) (by decide) ?_
          refine mr_iret C0 hr0 hk0 dX2_partsRight_36 (qI_mk ?_)
          exact h
  · have h := h.2 c1
    refine mr_iconst (v := 0) C0 dX2_partsRight_5 (by decide) ?_
    refine mr_iret C0 hr0 hk0 dX2_partsRight_6 (qI_mk ?_)
    exact h
set_option maxRecDepth 100000 in
set_option maxHeartbeats 4000000 in
theorem eX2_below (x1 : Int32) (x2 : Int32) (x3 : Int32) (x4 : Int32) (S : St) (Q : Int32 → St → Prop) (h : CallV mdX2_partsLeft [.ref 1, .int x2, .int x3] S (qI fun r2 S1 => ((r2 ≤ x4 → CallV mdX2_partsRight [.ref 1, .int x2, .int x3] S1 (qI fun r5 S4 => ((((8 : Int32) - r5) ≤ x4 → CallV mdX2_belowRight [.ref 1, .int x1] S4 (qI fun r8 S7 => Q r8 S7)) ∧ (¬ ((8 : Int32) - r5) ≤ x4 → Q (x1 + (S4.1 1 3)) S4)))) ∧ (¬ r2 ≤ x4 → CallV mdX2_belowLeft [.ref 1, .int x1] S1 (qI fun r10 S9 => Q r10 S9))))) : CallV mdX2_below [.ref 1, .int x1, .int x2, .int x3, .int x4] S (qI Q) := by
  refine CallV_of mdX2_below plX2_below 0 (Nat.le_of_ble_eq_true rfl) rfl ?_
  intro zp0 zl0 ze0 zs0 zm0 zargs0 zbelow0 zmeth0 zc0 zD0 zad0 zac0 C0 hr0 hk0
  refine mr_iload C0 dX2_below_0 rfl ?_
  refine mr_aload_n C0 dX2_below_2 rfl (i := 0) rfl ?_
  refine mr_iload_n C0 dX2_below_3 rfl (i := 2) rfl ?_
  refine mr_iload_n C0 dX2_below_4 rfl (i := 3) rfl ?_
  refine mr_callVI C0 mdX2_partsLeft dX2_below_5 clX2_partsLeft ml_X2_50 (Nat.le_of_ble_eq_true rfl) rfl rfl arX2_partsLeft (as := [.int x2, .int x3]) rfl (Nat.le_of_ble_eq_true rfl) (Nat.le_of_ble_eq_true rfl) (Nat.le_of_ble_eq_true rfl) fit0 h (fun r2 S1 h => ?_)
  refine mr_icmp_ge C0 dX2_below_8 (tgt := 17) (by decide) (fun c3 => ?_) (fun c3 => ?_)
  · have h := h.1 c3
    refine mr_iload C0 dX2_below_17 rfl ?_
    refine mr_bipush (v := 8) C0 dX2_below_19 (by decide) ?_
    refine mr_aload_n C0 dX2_below_21 rfl (i := 0) rfl ?_
    refine mr_iload_n C0 dX2_below_22 rfl (i := 2) rfl ?_
    refine mr_iload_n C0 dX2_below_23 rfl (i := 3) rfl ?_
    refine mr_callVI C0 mdX2_partsRight dX2_below_24 clX2_partsRight ml_X2_56 (Nat.le_of_ble_eq_true rfl) rfl rfl arX2_partsRight (as := [.int x2, .int x3]) rfl (Nat.le_of_ble_eq_true rfl) (Nat.le_of_ble_eq_true rfl) (Nat.le_of_ble_eq_true rfl) fit0 h (fun r5 S4 h => ?_)
    refine mr_isub C0 dX2_below_27 ?_
    refine mr_icmp_ge C0 dX2_below_28 (tgt := 40) (by decide) (fun c6 => ?_) (fun c6 => ?_)
    · have h := h.1 c6
      refine mr_aload_n C0 dX2_below_40 rfl (i := 0) rfl ?_
      refine mr_iload_n C0 dX2_below_41 rfl (i := 1) rfl ?_
      refine mr_callVI C0 mdX2_belowRight dX2_below_42 clX2_belowRight ml_X2_59 (Nat.le_of_ble_eq_true rfl) rfl rfl arX2_belowRight (as := [.int x1]) rfl (Nat.le_of_ble_eq_true rfl) (Nat.le_of_ble_eq_true rfl) (Nat.le_of_ble_eq_true rfl) fit0 h (fun r8 S7 h => ?_)
      refine mr_iret C0 hr0 hk0 dX2_below_45 (qI_mk ?_)
      exact h
    · have h := h.2 c6
      refine mr_iload_n C0 dX2_below_31 rfl (i := 1) rfl ?_
      refine mr_aload_n C0 dX2_below_32 rfl (i := 0) rfl ?_
      refine mr_getI C0 dX2_below_33 fl_X2_22 (Nat.le_of_ble_eq_true rfl) rfl rfl ?_
      refine mr_iadd C0 dX2_below_36 ?_
      refine mr_goto C0 dX2_below_37 (tgt := 45) (by decide) ?_
      refine mr_iret C0 hr0 hk0 dX2_below_45 (qI_mk ?_)
      exact h
  · have h := h.2 c3
    refine mr_aload_n C0 dX2_below_11 rfl (i := 0) rfl ?_
    refine mr_iload_n C0 dX2_below_12 rfl (i := 1) rfl ?_
    refine mr_callVI C0 mdX2_belowLeft dX2_below_13 clX2_belowLeft ml_X2_53 (Nat.le_of_ble_eq_true rfl) rfl rfl arX2_belowLeft (as := [.int x1]) rfl (Nat.le_of_ble_eq_true rfl) (Nat.le_of_ble_eq_true rfl) (Nat.le_of_ble_eq_true rfl) fit0 h (fun r10 S9 h => ?_)
    refine mr_iret C0 hr0 hk0 dX2_below_16 (qI_mk ?_)
    exact h
set_option maxRecDepth 100000 in
set_option maxHeartbeats 4000000 in
theorem eX2_belowLeft (x1 : Int32) (S : St) (Q : Int32 → St → Prop) (h : (((S.1 1 3) ≤ 0 → Q (x1 + (S.1 1 3)) S) ∧ (¬ (S.1 1 3) ≤ 0 → (¬ (S.1 1 3) = 0) ∧ (((x1 - x1 / (S.1 1 3) * (S.1 1 3)) ≤ 0 → Q (x1 + (S.1 1 3)) S) ∧ (¬ (x1 - x1 / (S.1 1 3) * (S.1 1 3)) ≤ 0 → Q ((x1 + (S.1 1 3)) - (1 : Int32)) S))))) : CallV mdX2_belowLeft [.ref 1, .int x1] S (qI Q) := by
  refine CallV_of mdX2_belowLeft plX2_belowLeft 1 (Nat.le_of_ble_eq_true rfl) rfl ?_
  intro zp0 zl0 ze0 zs0 zm0 zargs0 zbelow0 zmeth0 zc0 zD0 zad0 zac0 C0 hr0 hk0
  refine mr_aload_n C0 dX2_belowLeft_0 rfl (i := 0) rfl ?_
  refine mr_getI C0 dX2_belowLeft_1 fl_X2_22 (Nat.le_of_ble_eq_true rfl) rfl rfl ?_
  refine mr_if_le C0 dX2_belowLeft_4 (tgt := 20) (by decide) (fun c1 => ?_) (fun c1 => ?_)
  · have h := h.1 c1
    refine mr_iconst (v := 0) C0 dX2_belowLeft_20 (by decide) ?_
    refine mr_istore_n (L1 := [some (.ref 1), some (.int x1), some (.int (0 : Int32))]) C0 dX2_belowLeft_21 rfl (Nat.le_of_ble_eq_true rfl) rfl ?_
    refine mr_iload_n C0 dX2_belowLeft_22 rfl (i := 2) rfl ?_
    refine mr_if_eq C0 dX2_belowLeft_23 (tgt := 37) (by decide) (fun _ => ?_) (fun q => absurd q (by decide))
    refine mr_iload_n C0 dX2_belowLeft_37 rfl (i := 1) rfl ?_
    refine mr_aload_n C0 dX2_belowLeft_38 rfl (i := 0) rfl ?_
    refine mr_getI C0 dX2_belowLeft_39 fl_X2_22 (Nat.le_of_ble_eq_true rfl) rfl rfl ?_
    refine mr_iadd C0 dX2_belowLeft_42 ?_
    refine mr_iret C0 hr0 hk0 dX2_belowLeft_43 (qI_mk ?_)
    exact h
  · have h := h.2 c1
    refine mr_iload_n C0 dX2_belowLeft_7 rfl (i := 1) rfl ?_
    refine mr_aload_n C0 dX2_belowLeft_8 rfl (i := 0) rfl ?_
    refine mr_getI C0 dX2_belowLeft_9 fl_X2_22 (Nat.le_of_ble_eq_true rfl) rfl rfl ?_
    have g := h.1
    have h := h.2
    refine mr_irem C0 dX2_belowLeft_12 g ?_
    refine mr_if_le C0 dX2_belowLeft_13 (tgt := 20) (by decide) (fun c2 => ?_) (fun c2 => ?_)
    · have h := h.1 c2
      refine mr_iconst (v := 0) C0 dX2_belowLeft_20 (by decide) ?_
      refine mr_istore_n (L1 := [some (.ref 1), some (.int x1), some (.int (0 : Int32))]) C0 dX2_belowLeft_21 rfl (Nat.le_of_ble_eq_true rfl) rfl ?_
      refine mr_iload_n C0 dX2_belowLeft_22 rfl (i := 2) rfl ?_
      refine mr_if_eq C0 dX2_belowLeft_23 (tgt := 37) (by decide) (fun _ => ?_) (fun q => absurd q (by decide))
      refine mr_iload_n C0 dX2_belowLeft_37 rfl (i := 1) rfl ?_
      refine mr_aload_n C0 dX2_belowLeft_38 rfl (i := 0) rfl ?_
      refine mr_getI C0 dX2_belowLeft_39 fl_X2_22 (Nat.le_of_ble_eq_true rfl) rfl rfl ?_
      refine mr_iadd C0 dX2_belowLeft_42 ?_
      refine mr_iret C0 hr0 hk0 dX2_belowLeft_43 (qI_mk ?_)
      exact h
    · have h := h.2 c2
      refine mr_iconst (v := 1) C0 dX2_belowLeft_16 (by decide) ?_
      refine mr_goto C0 dX2_belowLeft_17 (tgt := 21) (by decide) ?_
      refine mr_istore_n (L1 := [some (.ref 1), some (.int x1), some (.int (1 : Int32))]) C0 dX2_belowLeft_21 rfl (Nat.le_of_ble_eq_true rfl) rfl ?_
      refine mr_iload_n C0 dX2_belowLeft_22 rfl (i := 2) rfl ?_
      refine mr_if_eq C0 dX2_belowLeft_23 (tgt := 37) (by decide) (fun q => absurd q (by decide)) (fun _ => ?_)
      refine mr_iload_n C0 dX2_belowLeft_26 rfl (i := 1) rfl ?_
      refine mr_aload_n C0 dX2_belowLeft_27 rfl (i := 0) rfl ?_
      refine mr_getI C0 dX2_belowLeft_28 fl_X2_22 (Nat.le_of_ble_eq_true rfl) rfl rfl ?_
      refine mr_iadd C0 dX2_belowLeft_31 ?_
      refine mr_iconst (v := 1) C0 dX2_belowLeft_32 (by decide) ?_
      refine mr_isub C0 dX2_belowLeft_33 ?_
      refine mr_goto C0 dX2_belowLeft_34 (tgt := 43) (by decide) ?_
      refine mr_iret C0 hr0 hk0 dX2_belowLeft_43 (qI_mk ?_)
      exact h
set_option maxRecDepth 100000 in
set_option maxHeartbeats 4000000 in
theorem eX2_belowRight (x1 : Int32) (S : St) (Q : Int32 → St → Prop) (h : (((S.1 1 3) ≤ 0 → Q (x1 + (S.1 1 3)) S) ∧ (¬ (S.1 1 3) ≤ 0 → (¬ (S.1 1 3) = 0) ∧ ((((S.1 1 3) - (1 : Int32)) ≤ (x1 - x1 / (S.1 1 3) * (S.1 1 3)) → Q (x1 + (S.1 1 3)) S) ∧ (¬ ((S.1 1 3) - (1 : Int32)) ≤ (x1 - x1 / (S.1 1 3) * (S.1 1 3)) → Q ((x1 + (S.1 1 3)) + (1 : Int32)) S))))) : CallV mdX2_belowRight [.ref 1, .int x1] S (qI Q) := by
  refine CallV_of mdX2_belowRight plX2_belowRight 1 (Nat.le_of_ble_eq_true rfl) rfl ?_
  intro zp0 zl0 ze0 zs0 zm0 zargs0 zbelow0 zmeth0 zc0 zD0 zad0 zac0 C0 hr0 hk0
  refine mr_aload_n C0 dX2_belowRight_0 rfl (i := 0) rfl ?_
  refine mr_getI C0 dX2_belowRight_1 fl_X2_22 (Nat.le_of_ble_eq_true rfl) rfl rfl ?_
  refine mr_if_le C0 dX2_belowRight_4 (tgt := 26) (by decide) (fun c1 => ?_) (fun c1 => ?_)
  · have h := h.1 c1
    refine mr_iconst (v := 0) C0 dX2_belowRight_26 (by decide) ?_
    refine mr_istore_n (L1 := [some (.ref 1), some (.int x1), some (.int (0 : Int32))]) C0 dX2_belowRight_27 rfl (Nat.le_of_ble_eq_true rfl) rfl ?_
    refine mr_iload_n C0 dX2_belowRight_28 rfl (i := 2) rfl ?_
    refine mr_if_eq C0 dX2_belowRight_29 (tgt := 43) (by decide) (fun _ => ?_) (fun q => absurd q (by decide))
    refine mr_iload_n C0 dX2_belowRight_43 rfl (i := 1) rfl ?_
    refine mr_aload_n C0 dX2_belowRight_44 rfl (i := 0) rfl ?_
    refine mr_getI C0 dX2_belowRight_45 fl_X2_22 (Nat.le_of_ble_eq_true rfl) rfl rfl ?_
    refine mr_iadd C0 dX2_belowRight_48 ?_
    refine mr_iret C0 hr0 hk0 dX2_belowRight_49 (qI_mk ?_)
    exact h
  · have h := h.2 c1
    refine mr_iload_n C0 dX2_belowRight_7 rfl (i := 1) rfl ?_
    refine mr_aload_n C0 dX2_belowRight_8 rfl (i := 0) rfl ?_
    refine mr_getI C0 dX2_belowRight_9 fl_X2_22 (Nat.le_of_ble_eq_true rfl) rfl rfl ?_
    have g := h.1
    have h := h.2
    refine mr_irem C0 dX2_belowRight_12 g ?_
    refine mr_aload_n C0 dX2_belowRight_13 rfl (i := 0) rfl ?_
    refine mr_getI C0 dX2_belowRight_14 fl_X2_22 (Nat.le_of_ble_eq_true rfl) rfl rfl ?_
    refine mr_iconst (v := 1) C0 dX2_belowRight_17 (by decide) ?_
    refine mr_isub C0 dX2_belowRight_18 ?_
    refine mr_icmp_ge C0 dX2_belowRight_19 (tgt := 26) (by decide) (fun c2 => ?_) (fun c2 => ?_)
    · have h := h.1 c2
      refine mr_iconst (v := 0) C0 dX2_belowRight_26 (by decide) ?_
      refine mr_istore_n (L1 := [some (.ref 1), some (.int x1), some (.int (0 : Int32))]) C0 dX2_belowRight_27 rfl (Nat.le_of_ble_eq_true rfl) rfl ?_
      refine mr_iload_n C0 dX2_belowRight_28 rfl (i := 2) rfl ?_
      refine mr_if_eq C0 dX2_belowRight_29 (tgt := 43) (by decide) (fun _ => ?_) (fun q => absurd q (by decide))
      refine mr_iload_n C0 dX2_belowRight_43 rfl (i := 1) rfl ?_
      refine mr_aload_n C0 dX2_belowRight_44 rfl (i := 0) rfl ?_
      refine mr_getI C0 dX2_belowRight_45 fl_X2_22 (Nat.le_of_ble_eq_true rfl) rfl rfl ?_
      refine mr_iadd C0 dX2_belowRight_48 ?_
      refine mr_iret C0 hr0 hk0 dX2_belowRight_49 (qI_mk ?_)
      exact h
    · have h := h.2 c2
      refine mr_iconst (v := 1) C0 dX2_belowRight_22 (by decide) ?_
      refine mr_goto C0 dX2_belowRight_23 (tgt := 27) (by decide) ?_
      refine mr_istore_n (L1 := [some (.ref 1), some (.int x1), some (.int (1 : Int32))]) C0 dX2_belowRight_27 rfl (Nat.le_of_ble_eq_true rfl) rfl ?_
      refine mr_iload_n C0 dX2_belowRight_28 rfl (i := 2) rfl ?_
      refine mr_if_eq C0 dX2_belowRight_29 (tgt := 43) (by decide) (fun q => absurd q (by decide)) (fun _ => ?_)
      refine mr_iload_n C0 dX2_belowRight_32 rfl (i := 1) rfl ?_
      refine mr_aload_n C0 dX2_belowRight_33 rfl (i := 0) rfl ?_
      refine mr_getI C0 dX2_belowRight_34 fl_X2_22 (Nat.le_of_ble_eq_true rfl) rfl rfl ?_
      refine mr_iadd C0 dX2_belowRight_37 ?_
      refine mr_iconst (v := 1) C0 dX2_belowRight_38 (by decide) ?_
      refine mr_iadd C0 dX2_belowRight_39 ?_
      refine mr_goto C0 dX2_belowRight_40 (tgt := 49) (by decide) ?_
      refine mr_iret C0 hr0 hk0 dX2_belowRight_49 (qI_mk ?_)
      exact h
set_option maxRecDepth 100000 in
set_option maxHeartbeats 4000000 in
theorem eX3_renew {p : Nat} (hp : isSh p) (x1 : Int32) (x2 : Int32) (S : St) (Q : St → Prop) (h : CallV mdJ7_fill_53178 [.ref (p + 1), .int (0 : Int32)] (sI (sI (sI S p 1 (1 : Int32)) p 2 x1) p 3 x2) (qV fun S1 => Q S1)) : CallV mdX3_renew [.ref p, .int x1, .int x2] S (qV Q) := by
  refine CallV_of mdX3_renew plX3_renew 0 (Nat.le_of_ble_eq_true rfl) rfl ?_
  intro zp0 zl0 ze0 zs0 zm0 zargs0 zbelow0 zmeth0 zc0 zD0 zad0 zac0 C0 hr0 hk0
  refine mr_aload_n C0 dX3_renew_0 rfl (i := 0) rfl ?_
  refine mr_iconst (v := 1) C0 dX3_renew_1 (by decide) ?_
  refine mr_putI C0 dX3_renew_2 fl_X3_15 (sh_lt hp) (sh_lay hp) rfl rfl rfl ?_
  refine mr_aload_n C0 dX3_renew_5 rfl (i := 0) rfl ?_
  refine mr_iload_n C0 dX3_renew_6 rfl (i := 1) rfl ?_
  refine mr_putI C0 dX3_renew_7 fl_X3_19 (sh_lt hp) (sh_lay hp) rfl rfl rfl ?_
  refine mr_aload_n C0 dX3_renew_10 rfl (i := 0) rfl ?_
  refine mr_iload_n C0 dX3_renew_11 rfl (i := 2) rfl ?_
  refine mr_putI C0 dX3_renew_12 fl_X3_23 (sh_lt hp) (sh_lay hp) rfl rfl rfl ?_
  refine mr_aload_n C0 dX3_renew_15 rfl (i := 0) rfl ?_
  refine mr_getR C0 dX3_renew_16 fl_X3_9 (sh_lt hp) (sh_lay hp) rfl ?_
  refine mr_iconst (v := 0) C0 dX3_renew_19 (by decide) ?_
  refine mr_callSV C0 mdJ7_fill_53178 dX3_renew_20 clJ7_fill_53178 ml_X3_26 arJ7_fill_53178 (as := [.ref (p + 1), .int (0 : Int32)]) rfl (Nat.le_of_ble_eq_true rfl) (Nat.le_of_ble_eq_true rfl) (Nat.le_of_ble_eq_true rfl) fit0 h (fun S1 h => ?_)
  refine mr_vret C0 hr0 hk0 dX3_renew_23 (qV_mk ?_)
  exact h
set_option maxRecDepth 100000 in
set_option maxHeartbeats 4000000 in
theorem eX3_faultAs {p : Nat} (hp : isSh p) (x1 : Int32) (S : St) (Q : Int32 → St → Prop) (h : ((¬ (S.1 p 1) = 0 → ((¬ (S.1 p 2) = x1 → Q (2 : Int32) S) ∧ ((S.1 p 2) = x1 → Q (0 : Int32) S))) ∧ ((S.1 p 1) = 0 → Q (1 : Int32) S))) : CallV mdX3_faultAs [.ref p, .int x1] S (qI Q) := by
  refine CallV_of mdX3_faultAs plX3_faultAs 0 (Nat.le_of_ble_eq_true rfl) rfl ?_
  intro zp0 zl0 ze0 zs0 zm0 zargs0 zbelow0 zmeth0 zc0 zD0 zad0 zac0 C0 hr0 hk0
  refine mr_aload_n C0 dX3_faultAs_0 rfl (i := 0) rfl ?_
  refine mr_getI C0 dX3_faultAs_1 fl_X3_15 (sh_lt hp) (sh_lay hp) rfl ?_
  refine mr_if_ne C0 dX3_faultAs_4 (tgt := 9) (by decide) (fun c1 => ?_) (fun c1 => ?_)
  · have h := h.1 c1
    refine mr_aload_n C0 dX3_faultAs_9 rfl (i := 0) rfl ?_
    refine mr_getI C0 dX3_faultAs_10 fl_X3_19 (sh_lt hp) (sh_lay hp) rfl ?_
    refine mr_iload_n C0 dX3_faultAs_13 rfl (i := 1) rfl ?_
    refine mr_icmp_ne C0 dX3_faultAs_14 (tgt := 21) (by decide) (fun c2 => ?_) (fun c2 => ?_)
    · have h := h.1 c2
      refine mr_iconst (v := 2) C0 dX3_faultAs_21 (by decide) ?_
      refine mr_iret C0 hr0 hk0 dX3_faultAs_22 (qI_mk ?_)
      exact h
    · have h := h.2 c2
      refine mr_iconst (v := 0) C0 dX3_faultAs_17 (by decide) ?_
      refine mr_goto C0 dX3_faultAs_18 (tgt := 22) (by decide) ?_
      refine mr_iret C0 hr0 hk0 dX3_faultAs_22 (qI_mk ?_)
      exact h
  · have h := h.2 c1
    refine mr_iconst (v := 1) C0 dX3_faultAs_7 (by decide) ?_
    refine mr_iret C0 hr0 hk0 dX3_faultAs_8 (qI_mk ?_)
    exact h
set_option maxRecDepth 100000 in
set_option maxHeartbeats 4000000 in
theorem eX3_has {p : Nat} (hp : isSh p) (x1 : Int32) (S : St) (Q : Int32 → St → Prop) (h : (((S.1 p 1) = 0 → Q (0 : Int32) S) ∧ (¬ (S.1 p 1) = 0 → ((x1 < 0 → Q (0 : Int32) S) ∧ (¬ x1 < 0 → (((S.1 p 3) ≤ x1 → Q (0 : Int32) S) ∧ (¬ (S.1 p 3) ≤ x1 → Q (1 : Int32) S))))))) : CallV mdX3_has [.ref p, .int x1] S (qI Q) := by
  refine CallV_of mdX3_has plX3_has 0 (Nat.le_of_ble_eq_true rfl) rfl ?_
  intro zp0 zl0 ze0 zs0 zm0 zargs0 zbelow0 zmeth0 zc0 zD0 zad0 zac0 C0 hr0 hk0
  refine mr_aload_n C0 dX3_has_0 rfl (i := 0) rfl ?_
  refine mr_getI C0 dX3_has_1 fl_X3_15 (sh_lt hp) (sh_lay hp) rfl ?_
  refine mr_if_eq C0 dX3_has_4 (tgt := 23) (by decide) (fun c1 => ?_) (fun c1 => ?_)
  · have h := h.1 c1
    refine mr_iconst (v := 0) C0 dX3_has_23 (by decide) ?_
    refine mr_zret C0 hr0 hk0 dX3_has_24 rfl (qI_mk ?_)
    exact h
  · have h := h.2 c1
    refine mr_iload_n C0 dX3_has_7 rfl (i := 1) rfl ?_
    refine mr_if_lt C0 dX3_has_8 (tgt := 23) (by decide) (fun c2 => ?_) (fun c2 => ?_)
    · have h := h.1 c2
      refine mr_iconst (v := 0) C0 dX3_has_23 (by decide) ?_
      refine mr_zret C0 hr0 hk0 dX3_has_24 rfl (qI_mk ?_)
      exact h
    · have h := h.2 c2
      refine mr_iload_n C0 dX3_has_11 rfl (i := 1) rfl ?_
      refine mr_aload_n C0 dX3_has_12 rfl (i := 0) rfl ?_
      refine mr_getI C0 dX3_has_13 fl_X3_23 (sh_lt hp) (sh_lay hp) rfl ?_
      refine mr_icmp_ge C0 dX3_has_16 (tgt := 23) (by decide) (fun c3 => ?_) (fun c3 => ?_)
      · have h := h.1 c3
        refine mr_iconst (v := 0) C0 dX3_has_23 (by decide) ?_
        refine mr_zret C0 hr0 hk0 dX3_has_24 rfl (qI_mk ?_)
        exact h
      · have h := h.2 c3
        refine mr_iconst (v := 1) C0 dX3_has_19 (by decide) ?_
        refine mr_goto C0 dX3_has_20 (tgt := 24) (by decide) ?_
        refine mr_zret C0 hr0 hk0 dX3_has_24 rfl (qI_mk ?_)
        exact h
set_option maxRecDepth 100000 in
set_option maxHeartbeats 4000000 in
theorem eX3_spans {p : Nat} (hp : isSh p) (x1 : Int32) (x2 : Int32) (S : St) (Q : Int32 → St → Prop) (h : (((S.1 p 1) = 0 → Q (0 : Int32) S) ∧ (¬ (S.1 p 1) = 0 → ((x1 < 0 → Q (0 : Int32) S) ∧ (¬ x1 < 0 → ((x2 < 0 → Q (0 : Int32) S) ∧ (¬ x2 < 0 → (((S.1 p 3) < x1 → Q (0 : Int32) S) ∧ (¬ (S.1 p 3) < x1 → ((((S.1 p 3) - x1) < x2 → Q (0 : Int32) S) ∧ (¬ ((S.1 p 3) - x1) < x2 → Q (1 : Int32) S))))))))))) : CallV mdX3_spans [.ref p, .int x1, .int x2] S (qI Q) := by
  refine CallV_of mdX3_spans plX3_spans 0 (Nat.le_of_ble_eq_true rfl) rfl ?_
  intro zp0 zl0 ze0 zs0 zm0 zargs0 zbelow0 zmeth0 zc0 zD0 zad0 zac0 C0 hr0 hk0
  refine mr_aload_n C0 dX3_spans_0 rfl (i := 0) rfl ?_
  refine mr_getI C0 dX3_spans_1 fl_X3_15 (sh_lt hp) (sh_lay hp) rfl ?_
  refine mr_if_eq C0 dX3_spans_4 (tgt := 37) (by decide) (fun c1 => ?_) (fun c1 => ?_)
  · have h := h.1 c1
    refine mr_iconst (v := 0) C0 dX3_spans_37 (by decide) ?_
    refine mr_zret C0 hr0 hk0 dX3_spans_38 rfl (qI_mk ?_)
    exact h
  · have h := h.2 c1
    refine mr_iload_n C0 dX3_spans_7 rfl (i := 1) rfl ?_
    refine mr_if_lt C0 dX3_spans_8 (tgt := 37) (by decide) (fun c2 => ?_) (fun c2 => ?_)
    · have h := h.1 c2
      refine mr_iconst (v := 0) C0 dX3_spans_37 (by decide) ?_
      refine mr_zret C0 hr0 hk0 dX3_spans_38 rfl (qI_mk ?_)
      exact h
    · have h := h.2 c2
      refine mr_iload_n C0 dX3_spans_11 rfl (i := 2) rfl ?_
      refine mr_if_lt C0 dX3_spans_12 (tgt := 37) (by decide) (fun c3 => ?_) (fun c3 => ?_)
      · have h := h.1 c3
        refine mr_iconst (v := 0) C0 dX3_spans_37 (by decide) ?_
        refine mr_zret C0 hr0 hk0 dX3_spans_38 rfl (qI_mk ?_)
        exact h
      · have h := h.2 c3
        refine mr_iload_n C0 dX3_spans_15 rfl (i := 1) rfl ?_
        refine mr_aload_n C0 dX3_spans_16 rfl (i := 0) rfl ?_
        refine mr_getI C0 dX3_spans_17 fl_X3_23 (sh_lt hp) (sh_lay hp) rfl ?_
        refine mr_icmp_gt C0 dX3_spans_20 (tgt := 37) (by decide) (fun c4 => ?_) (fun c4 => ?_)
        · have h := h.1 c4
          refine mr_iconst (v := 0) C0 dX3_spans_37 (by decide) ?_
          refine mr_zret C0 hr0 hk0 dX3_spans_38 rfl (qI_mk ?_)
          exact h
        · have h := h.2 c4
          refine mr_iload_n C0 dX3_spans_23 rfl (i := 2) rfl ?_
          refine mr_aload_n C0 dX3_spans_24 rfl (i := 0) rfl ?_
          refine mr_getI C0 dX3_spans_25 fl_X3_23 (sh_lt hp) (sh_lay hp) rfl ?_
          refine mr_iload_n C0 dX3_spans_28 rfl (i := 1) rfl ?_
          refine mr_isub C0 dX3_spans_29 ?_
          refine mr_icmp_gt C0 dX3_spans_30 (tgt := 37) (by decide) (fun c5 => ?_) (fun c5 => ?_)
          · have h := h.1 c5
            refine mr_iconst (v := 0) C0 dX3_spans_37 (by decide) ?_
            refine mr_zret C0 hr0 hk0 dX3_spans_38 rfl (qI_mk ?_)
            exact h
          · have h := h.2 c5
            refine mr_iconst (v := 1) C0 dX3_spans_33 (by decide) ?_
            refine mr_goto C0 dX3_spans_34 (tgt := 38) (by decide) ?_
            refine mr_zret C0 hr0 hk0 dX3_spans_38 rfl (qI_mk ?_)
            exact h
set_option maxRecDepth 100000 in
set_option maxHeartbeats 4000000 in
theorem eX3_at {p : Nat} (hp : isSh p) (x1 : Int32) (S : St) (Q : Int32 → St → Prop) (h : (((S.1 p 1) = 0 → Q (0 : Int32) S) ∧ (¬ (S.1 p 1) = 0 → ((x1 < 0 → Q (0 : Int32) S) ∧ (¬ x1 < 0 → (((S.1 p 3) ≤ x1 → Q (0 : Int32) S) ∧ (¬ (S.1 p 3) ≤ x1 → (vp_in x1 60) ∧ Q (S.1 (p + 1) x1.toNatClampNeg) S))))))) : CallV mdX3_at [.ref p, .int x1] S (qI Q) := by
  refine CallV_of mdX3_at plX3_at 0 (Nat.le_of_ble_eq_true rfl) rfl ?_
  intro zp0 zl0 ze0 zs0 zm0 zargs0 zbelow0 zmeth0 zc0 zD0 zad0 zac0 C0 hr0 hk0
  refine mr_aload_n C0 dX3_at_0 rfl (i := 0) rfl ?_
  refine mr_iload_n C0 dX3_at_1 rfl (i := 1) rfl ?_
  refine mr_callVI C0 mdX3_has dX3_at_2 clX3_has ml_X3_32 (sh_lt hp) (sh_lay hp) rfl arX3_has (as := [.int x1]) rfl (Nat.le_of_ble_eq_true rfl) (Nat.le_of_ble_eq_true rfl) (Nat.le_of_ble_eq_true rfl) fit0 (CallV_of mdX3_has plX3_has 0 (Nat.le_of_ble_eq_true rfl) rfl ?_) (fun _ _ h => h)
  intro zp1 zl1 ze1 zs1 zm1 zargs1 zbelow1 zmeth1 zc1 zD1 zad1 zac1 C1 hr1 hk1
  refine mr_aload_n C1 dX3_has_0 rfl (i := 0) rfl ?_
  refine mr_getI C1 dX3_has_1 fl_X3_15 (sh_lt hp) (sh_lay hp) rfl ?_
  refine mr_if_eq C1 dX3_has_4 (tgt := 23) (by decide) (fun c1 => ?_) (fun c1 => ?_)
  · have h := h.1 c1
    refine mr_iconst (v := 0) C1 dX3_has_23 (by decide) ?_
    refine mr_zret C1 hr1 hk1 dX3_has_24 rfl (qI_mk ?_)
    refine mr_if_eq C0 dX3_at_5 (tgt := 17) (by decide) (fun _ => ?_) (fun q => absurd q (by decide))
    refine mr_iconst (v := 0) C0 dX3_at_17 (by decide) ?_
    refine mr_iret C0 hr0 hk0 dX3_at_18 (qI_mk ?_)
    exact h
  · have h := h.2 c1
    refine mr_iload_n C1 dX3_has_7 rfl (i := 1) rfl ?_
    refine mr_if_lt C1 dX3_has_8 (tgt := 23) (by decide) (fun c2 => ?_) (fun c2 => ?_)
    · have h := h.1 c2
      refine mr_iconst (v := 0) C1 dX3_has_23 (by decide) ?_
      refine mr_zret C1 hr1 hk1 dX3_has_24 rfl (qI_mk ?_)
      refine mr_if_eq C0 dX3_at_5 (tgt := 17) (by decide) (fun _ => ?_) (fun q => absurd q (by decide))
      refine mr_iconst (v := 0) C0 dX3_at_17 (by decide) ?_
      refine mr_iret C0 hr0 hk0 dX3_at_18 (qI_mk ?_)
      exact h
    · have h := h.2 c2
      refine mr_iload_n C1 dX3_has_11 rfl (i := 1) rfl ?_
      refine mr_aload_n C1 dX3_has_12 rfl (i := 0) rfl ?_
      refine mr_getI C1 dX3_has_13 fl_X3_23 (sh_lt hp) (sh_lay hp) rfl ?_
      refine mr_icmp_ge C1 dX3_has_16 (tgt := 23) (by decide) (fun c3 => ?_) (fun c3 => ?_)
      · have h := h.1 c3
        refine mr_iconst (v := 0) C1 dX3_has_23 (by decide) ?_
        refine mr_zret C1 hr1 hk1 dX3_has_24 rfl (qI_mk ?_)
        refine mr_if_eq C0 dX3_at_5 (tgt := 17) (by decide) (fun _ => ?_) (fun q => absurd q (by decide))
        refine mr_iconst (v := 0) C0 dX3_at_17 (by decide) ?_
        refine mr_iret C0 hr0 hk0 dX3_at_18 (qI_mk ?_)
        exact h
      · have h := h.2 c3
        refine mr_iconst (v := 1) C1 dX3_has_19 (by decide) ?_
        refine mr_goto C1 dX3_has_20 (tgt := 24) (by decide) ?_
        refine mr_zret C1 hr1 hk1 dX3_has_24 rfl (qI_mk ?_)
        refine mr_if_eq C0 dX3_at_5 (tgt := 17) (by decide) (fun q => absurd q (by decide)) (fun _ => ?_)
        refine mr_aload_n C0 dX3_at_8 rfl (i := 0) rfl ?_
        refine mr_getR C0 dX3_at_9 fl_X3_9 (sh_lt hp) (sh_lay hp) rfl ?_
        refine mr_iload_n C0 dX3_at_12 rfl (i := 1) rfl ?_
        have g4 := h.1
        have h := h.2
        refine mr_iald C0 dX3_at_13 (sh_lt1 hp) (sh_row hp) g4 ?_
        refine mr_goto C0 dX3_at_14 (tgt := 18) (by decide) ?_
        refine mr_iret C0 hr0 hk0 dX3_at_18 (qI_mk ?_)
        exact h
set_option maxRecDepth 100000 in
set_option maxHeartbeats 4000000 in
theorem eX3_write {p : Nat} (hp : isSh p) (x1 : Int32) (x2 : Int32) (S : St) (Q : St → Prop) (h : (((S.1 p 1) = 0 → Q S) ∧ (¬ (S.1 p 1) = 0 → ((x1 < 0 → Q S) ∧ (¬ x1 < 0 → (((S.1 p 3) ≤ x1 → Q S) ∧ (¬ (S.1 p 3) ≤ x1 → CallV mdX3_cut [.ref p, .int x2] S (qI fun r5 S4 => (vp_in x1 60) ∧ Q (sI S4 (p + 1) x1.toNatClampNeg r5))))))))) : CallV mdX3_write [.ref p, .int x1, .int x2] S (qV Q) := by
  refine CallV_of mdX3_write plX3_write 0 (Nat.le_of_ble_eq_true rfl) rfl ?_
  intro zp0 zl0 ze0 zs0 zm0 zargs0 zbelow0 zmeth0 zc0 zD0 zad0 zac0 C0 hr0 hk0
  refine mr_aload_n C0 dX3_write_0 rfl (i := 0) rfl ?_
  refine mr_iload_n C0 dX3_write_1 rfl (i := 1) rfl ?_
  refine mr_callVI C0 mdX3_has dX3_write_2 clX3_has ml_X3_32 (sh_lt hp) (sh_lay hp) rfl arX3_has (as := [.int x1]) rfl (Nat.le_of_ble_eq_true rfl) (Nat.le_of_ble_eq_true rfl) (Nat.le_of_ble_eq_true rfl) fit0 (CallV_of mdX3_has plX3_has 0 (Nat.le_of_ble_eq_true rfl) rfl ?_) (fun _ _ h => h)
  intro zp1 zl1 ze1 zs1 zm1 zargs1 zbelow1 zmeth1 zc1 zD1 zad1 zac1 C1 hr1 hk1
  refine mr_aload_n C1 dX3_has_0 rfl (i := 0) rfl ?_
  refine mr_getI C1 dX3_has_1 fl_X3_15 (sh_lt hp) (sh_lay hp) rfl ?_
  refine mr_if_eq C1 dX3_has_4 (tgt := 23) (by decide) (fun c1 => ?_) (fun c1 => ?_)
  · have h := h.1 c1
    refine mr_iconst (v := 0) C1 dX3_has_23 (by decide) ?_
    refine mr_zret C1 hr1 hk1 dX3_has_24 rfl (qI_mk ?_)
    refine mr_if_eq C0 dX3_write_5 (tgt := 19) (by decide) (fun _ => ?_) (fun q => absurd q (by decide))
    refine mr_vret C0 hr0 hk0 dX3_write_19 (qV_mk ?_)
    exact h
  · have h := h.2 c1
    refine mr_iload_n C1 dX3_has_7 rfl (i := 1) rfl ?_
    refine mr_if_lt C1 dX3_has_8 (tgt := 23) (by decide) (fun c2 => ?_) (fun c2 => ?_)
    · have h := h.1 c2
      refine mr_iconst (v := 0) C1 dX3_has_23 (by decide) ?_
      refine mr_zret C1 hr1 hk1 dX3_has_24 rfl (qI_mk ?_)
      refine mr_if_eq C0 dX3_write_5 (tgt := 19) (by decide) (fun _ => ?_) (fun q => absurd q (by decide))
      refine mr_vret C0 hr0 hk0 dX3_write_19 (qV_mk ?_)
      exact h
    · have h := h.2 c2
      refine mr_iload_n C1 dX3_has_11 rfl (i := 1) rfl ?_
      refine mr_aload_n C1 dX3_has_12 rfl (i := 0) rfl ?_
      refine mr_getI C1 dX3_has_13 fl_X3_23 (sh_lt hp) (sh_lay hp) rfl ?_
      refine mr_icmp_ge C1 dX3_has_16 (tgt := 23) (by decide) (fun c3 => ?_) (fun c3 => ?_)
      · have h := h.1 c3
        refine mr_iconst (v := 0) C1 dX3_has_23 (by decide) ?_
        refine mr_zret C1 hr1 hk1 dX3_has_24 rfl (qI_mk ?_)
        refine mr_if_eq C0 dX3_write_5 (tgt := 19) (by decide) (fun _ => ?_) (fun q => absurd q (by decide))
        refine mr_vret C0 hr0 hk0 dX3_write_19 (qV_mk ?_)
        exact h
      · have h := h.2 c3
        refine mr_iconst (v := 1) C1 dX3_has_19 (by decide) ?_
        refine mr_goto C1 dX3_has_20 (tgt := 24) (by decide) ?_
        refine mr_zret C1 hr1 hk1 dX3_has_24 rfl (qI_mk ?_)
        refine mr_if_eq C0 dX3_write_5 (tgt := 19) (by decide) (fun q => absurd q (by decide)) (fun _ => ?_)
        refine mr_aload_n C0 dX3_write_8 rfl (i := 0) rfl ?_
        refine mr_getR C0 dX3_write_9 fl_X3_9 (sh_lt hp) (sh_lay hp) rfl ?_
        refine mr_iload_n C0 dX3_write_12 rfl (i := 1) rfl ?_
        refine mr_aload_n C0 dX3_write_13 rfl (i := 0) rfl ?_
        refine mr_iload_n C0 dX3_write_14 rfl (i := 2) rfl ?_
        refine mr_callVI C0 mdX3_cut dX3_write_15 clX3_cut ml_X3_36 (sh_lt hp) (sh_lay hp) rfl arX3_cut (as := [.int x2]) rfl (Nat.le_of_ble_eq_true rfl) (Nat.le_of_ble_eq_true rfl) (Nat.le_of_ble_eq_true rfl) fit0 h (fun r5 S4 h => ?_)
        have g6 := h.1
        have h := h.2
        refine mr_iast C0 dX3_write_18 (sh_lt1 hp) (sh_row hp) g6 ?_
        refine mr_vret C0 hr0 hk0 dX3_write_19 (qV_mk ?_)
        exact h
set_option maxRecDepth 100000 in
set_option maxHeartbeats 4000000 in
theorem eX3_cut {p : Nat} (hp : isSh p) (x1 : Int32) (S : St) (Q : Int32 → St → Prop) (h : (((S.1 p 2) = (0 : Int32) → Q x1.toInt8.toInt32 S) ∧ (¬ (S.1 p 2) = (0 : Int32) → (((S.1 p 2) = (1 : Int32) → Q x1.toInt16.toInt32 S) ∧ (¬ (S.1 p 2) = (1 : Int32) → Q x1 S))))) : CallV mdX3_cut [.ref p, .int x1] S (qI Q) := by
  refine CallV_of mdX3_cut plX3_cut 0 (Nat.le_of_ble_eq_true rfl) rfl ?_
  intro zp0 zl0 ze0 zs0 zm0 zargs0 zbelow0 zmeth0 zc0 zD0 zad0 zac0 C0 hr0 hk0
  refine mr_aload_n C0 dX3_cut_0 rfl (i := 0) rfl ?_
  refine mr_getI C0 dX3_cut_1 fl_X3_19 (sh_lt hp) (sh_lay hp) rfl ?_
  by_cases c1 : (S.1 p 2) = (0 : Int32)
  · have h := h.1 c1
    refine mr_ls C0 dX3_cut_4 (by decide) (off := 28) (by rw [c1]; decide) (tgt := 32) (by decide) ?_
    refine mr_iload_n C0 dX3_cut_32 rfl (i := 1) rfl ?_
    refine mr_i2b C0 dX3_cut_33 ?_
    refine mr_iret C0 hr0 hk0 dX3_cut_34 (qI_mk ?_)
    exact h
  · have h := h.2 c1
    by_cases c2 : (S.1 p 2) = (1 : Int32)
    · have h := h.1 c2
      refine mr_ls C0 dX3_cut_4 (by decide) (off := 31) (by rw [c2]; decide) (tgt := 35) (by decide) ?_
      refine mr_iload_n C0 dX3_cut_35 rfl (i := 1) rfl ?_
      refine mr_i2s C0 dX3_cut_36 ?_
      refine mr_iret C0 hr0 hk0 dX3_cut_37 (qI_mk ?_)
      exact h
    · have h := h.2 c2
      refine mr_ls C0 dX3_cut_4 (by decide) (off := 34) (by show Op.lookupswitch.offset [(0, 28), (1, 31)] 34 _ = _; rw [lv_osw c1 (show ((0 : Int32)).toInt = 0 by decide), lv_osw c2 (show ((1 : Int32)).toInt = 1 by decide)]; rfl) (tgt := 38) (by decide) ?_
      refine mr_iload_n C0 dX3_cut_38 rfl (i := 1) rfl ?_
      refine mr_iret C0 hr0 hk0 dX3_cut_39 (qI_mk ?_)
      exact h
set_option maxRecDepth 100000 in
set_option maxHeartbeats 4000000 in
theorem eX4_has (x1 : Int32) (S : St) (Q : Int32 → St → Prop) (h : ((x1 < 0 → Q (0 : Int32) S) ∧ (¬ x1 < 0 → (((S.1 4 2) ≤ x1 → Q (0 : Int32) S) ∧ (¬ (S.1 4 2) ≤ x1 → Q (1 : Int32) S))))) : CallV mdX4_has [.ref 4, .int x1] S (qI Q) := by
  refine CallV_of mdX4_has plX4_has 0 (Nat.le_of_ble_eq_true rfl) rfl ?_
  intro zp0 zl0 ze0 zs0 zm0 zargs0 zbelow0 zmeth0 zc0 zD0 zad0 zac0 C0 hr0 hk0
  refine mr_iload_n C0 dX4_has_0 rfl (i := 1) rfl ?_
  refine mr_if_lt C0 dX4_has_1 (tgt := 16) (by decide) (fun c1 => ?_) (fun c1 => ?_)
  · have h := h.1 c1
    refine mr_iconst (v := 0) C0 dX4_has_16 (by decide) ?_
    refine mr_zret C0 hr0 hk0 dX4_has_17 rfl (qI_mk ?_)
    exact h
  · have h := h.2 c1
    refine mr_iload_n C0 dX4_has_4 rfl (i := 1) rfl ?_
    refine mr_aload_n C0 dX4_has_5 rfl (i := 0) rfl ?_
    refine mr_getI C0 dX4_has_6 fl_X4_18 (Nat.le_of_ble_eq_true rfl) rfl rfl ?_
    refine mr_icmp_ge C0 dX4_has_9 (tgt := 16) (by decide) (fun c2 => ?_) (fun c2 => ?_)
    · have h := h.1 c2
      refine mr_iconst (v := 0) C0 dX4_has_16 (by decide) ?_
      refine mr_zret C0 hr0 hk0 dX4_has_17 rfl (qI_mk ?_)
      exact h
    · have h := h.2 c2
      refine mr_iconst (v := 1) C0 dX4_has_12 (by decide) ?_
      refine mr_goto C0 dX4_has_13 (tgt := 17) (by decide) ?_
      refine mr_zret C0 hr0 hk0 dX4_has_17 rfl (qI_mk ?_)
      exact h
set_option maxRecDepth 100000 in
set_option maxHeartbeats 4000000 in
theorem eX4_add (x1 : Int32) (x2 : Int32) (S : St) (Q : Int32 → St → Prop) (h : (vp_in (S.1 4 2) 8) ∧ (vp_in (S.1 4 2) 8) ∧ Q (S.1 4 2) (sI (sI (sI S 5 ((S.1 4 2).toNatClampNeg) x1) 6 ((S.1 4 2).toNatClampNeg) x2) 4 2 ((S.1 4 2) + (1 : Int32)))) : CallV mdX4_add [.ref 4, .int x1, .int x2] S (qI Q) := by
  refine CallV_of mdX4_add plX4_add 1 (Nat.le_of_ble_eq_true rfl) rfl ?_
  intro zp0 zl0 ze0 zs0 zm0 zargs0 zbelow0 zmeth0 zc0 zD0 zad0 zac0 C0 hr0 hk0
  refine mr_aload_n C0 dX4_add_0 rfl (i := 0) rfl ?_
  refine mr_getI C0 dX4_add_1 fl_X4_18 (Nat.le_of_ble_eq_true rfl) rfl rfl ?_
  refine mr_istore_n (L1 := [some (.ref 4), some (.int x1), some (.int x2), some (.int (S.1 4 2))]) C0 dX4_add_4 rfl (Nat.le_of_ble_eq_true rfl) rfl ?_
  refine mr_aload_n C0 dX4_add_5 rfl (i := 0) rfl ?_
  refine mr_getR C0 dX4_add_6 fl_X4_9 (Nat.le_of_ble_eq_true rfl) rfl rfl ?_
  refine mr_iload_n C0 dX4_add_9 rfl (i := 3) rfl ?_
  refine mr_iload_n C0 dX4_add_10 rfl (i := 1) rfl ?_
  have g1 := h.1
  have h := h.2
  refine mr_iast C0 dX4_add_11 (Nat.le_of_ble_eq_true rfl) rfl g1 ?_
  refine mr_aload_n C0 dX4_add_12 rfl (i := 0) rfl ?_
  refine mr_getR C0 dX4_add_13 fl_X4_15 (Nat.le_of_ble_eq_true rfl) rfl rfl ?_
  refine mr_iload_n C0 dX4_add_16 rfl (i := 3) rfl ?_
  refine mr_iload_n C0 dX4_add_17 rfl (i := 2) rfl ?_
  have g2 := h.1
  have h := h.2
  refine mr_iast C0 dX4_add_18 (Nat.le_of_ble_eq_true rfl) rfl g2 ?_
  refine mr_aload_n C0 dX4_add_19 rfl (i := 0) rfl ?_
  refine mr_dup C0 dX4_add_20 rfl ?_
  refine mr_getI C0 dX4_add_21 fl_X4_18 (Nat.le_of_ble_eq_true rfl) rfl rfl ?_
  refine mr_topI (y := (S.1 4 2)) (by first | rfl | simp [sI, sJ, sF, upd, vp_updL]) ?_
  refine mr_iconst (v := 1) C0 dX4_add_24 (by decide) ?_
  refine mr_iadd C0 dX4_add_25 ?_
  refine mr_putI C0 dX4_add_26 fl_X4_18 (Nat.le_of_ble_eq_true rfl) rfl rfl rfl rfl ?_
  refine mr_iload_n C0 dX4_add_29 rfl (i := 3) rfl ?_
  refine mr_iret C0 hr0 hk0 dX4_add_30 (qI_mk ?_)
  exact h
