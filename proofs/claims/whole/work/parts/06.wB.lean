set_option maxRecDepth 100000 in
set_option maxHeartbeats 4000000 in
theorem eX5_hill (x1 : Int32) (x2 : Int32) (x3 : Int32) (x4 : Int32) (S : St) (Q : Int32 → St → Prop) (h : ((x1 < 0 → Q (-1 : Int32) (sI S 0 6 (0 : Int32))) ∧ (¬ x1 < 0 → (((4 : Int32) ≤ x1 → Q (-1 : Int32) (sI S 0 6 (0 : Int32))) ∧ (¬ (4 : Int32) ≤ x1 → ((x2 < 0 → Q (-2 : Int32) (sI S 0 6 (0 : Int32))) ∧ (¬ x2 < 0 → (((3 : Int32) ≤ x2 → Q (-2 : Int32) (sI S 0 6 (0 : Int32))) ∧ (¬ (3 : Int32) ≤ x2 → (vp_in x1 4) ∧ ((¬ ((sI S 0 6 (0 : Int32)).1 (26 + 2 * x1.toNatClampNeg) 1) = 0 → ((¬ ((sI S 0 6 (0 : Int32)).1 (26 + 2 * x1.toNatClampNeg) 2) = x2 → Q (-12 : Int32) (sI (sI S 0 6 (0 : Int32)) 0 6 (2 : Int32))) ∧ (((sI S 0 6 (0 : Int32)).1 (26 + 2 * x1.toNatClampNeg) 2) = x2 → ((0 ≤ x4 → ((((sI S 0 6 (0 : Int32)).1 (26 + 2 * x1.toNatClampNeg) 1) = 0 → Q (-13 : Int32) (sI (sI S 0 6 (0 : Int32)) 0 6 (3 : Int32))) ∧ (¬ ((sI S 0 6 (0 : Int32)).1 (26 + 2 * x1.toNatClampNeg) 1) = 0 → ((x3 < 0 → Q (-13 : Int32) (sI (sI S 0 6 (0 : Int32)) 0 6 (3 : Int32))) ∧ (¬ x3 < 0 → ((x4 < 0 → Q (-13 : Int32) (sI (sI S 0 6 (0 : Int32)) 0 6 (3 : Int32))) ∧ (¬ x4 < 0 → ((((sI S 0 6 (0 : Int32)).1 (26 + 2 * x1.toNatClampNeg) 3) < x3 → Q (-13 : Int32) (sI (sI S 0 6 (0 : Int32)) 0 6 (3 : Int32))) ∧ (¬ ((sI S 0 6 (0 : Int32)).1 (26 + 2 * x1.toNatClampNeg) 3) < x3 → (((((sI S 0 6 (0 : Int32)).1 (26 + 2 * x1.toNatClampNeg) 3) - x3) < x4 → Q (-13 : Int32) (sI (sI S 0 6 (0 : Int32)) 0 6 (3 : Int32))) ∧ (¬ (((sI S 0 6 (0 : Int32)).1 (26 + 2 * x1.toNatClampNeg) 3) - x3) < x4 → CallV mdX2_firstFault [.ref 1, .ref (26 + 2 * x1.toNatClampNeg), .int x3, .int x4] (sI S 0 6 (0 : Int32)) (qI fun r15 S14 => ((r15 < 0 → CallV mdX2_build [.ref 1, .ref (26 + 2 * x1.toNatClampNeg), .int x3] S14 (qV fun S17 => Q ((S17.1 1 2) * (S17.1 1 3)) (sI S17 4 2 (0 : Int32)))) ∧ (¬ r15 < 0 → Q ((-100 : Int32) - r15) S14)))))))))))))) ∧ (¬ 0 ≤ x4 → Q (-14 : Int32) (sI (sI S 0 6 (0 : Int32)) 0 6 (4 : Int32))))))) ∧ (((sI S 0 6 (0 : Int32)).1 (26 + 2 * x1.toNatClampNeg) 1) = 0 → Q (-11 : Int32) (sI (sI S 0 6 (0 : Int32)) 0 6 (1 : Int32))))))))))))) : CallV mdX5_hill [.ref 0, .int x1, .int x2, .int x3, .int x4] S (qI Q) := by
  refine CallV_of mdX5_hill plX5_hill 3 (Nat.le_of_ble_eq_true rfl) rfl ?_
  intro zp0 zl0 ze0 zs0 zm0 zargs0 zbelow0 zmeth0 zc0 zD0 zad0 zac0 C0 hr0 hk0
  refine mr_aload_n C0 dX5_hill_0 rfl (i := 0) rfl ?_
  refine mr_iconst (v := 0) C0 dX5_hill_1 (by decide) ?_
  refine mr_putI C0 dX5_hill_2 fl_X5_52 (Nat.le_of_ble_eq_true rfl) rfl rfl rfl rfl ?_
  refine mr_iload_n C0 dX5_hill_5 rfl (i := 1) rfl ?_
  refine mr_callSI C0 mdX5_isSheet dX5_hill_6 clX5_isSheet ml_X5_55 arX5_isSheet (as := [.int x1]) rfl (Nat.le_of_ble_eq_true rfl) (Nat.le_of_ble_eq_true rfl) (Nat.le_of_ble_eq_true rfl) fit0 (CallV_of mdX5_isSheet plX5_isSheet 0 (Nat.le_of_ble_eq_true rfl) rfl ?_) (fun _ _ h => h)
  intro zp1 zl1 ze1 zs1 zm1 zargs1 zbelow1 zmeth1 zc1 zD1 zad1 zac1 C1 hr1 hk1
  refine mr_iload_n C1 dX5_isSheet_0 rfl (i := 0) rfl ?_
  refine mr_if_lt C1 dX5_isSheet_1 (tgt := 13) (by decide) (fun c1 => ?_) (fun c1 => ?_)
  · have h := h.1 c1
    refine mr_iconst (v := 0) C1 dX5_isSheet_13 (by decide) ?_
    refine mr_zret C1 hr1 hk1 dX5_isSheet_14 rfl (qI_mk ?_)
    refine mr_if_ne C0 dX5_hill_9 (tgt := 14) (by decide) (fun q => absurd q (by decide)) (fun _ => ?_)
    refine mr_iconst (v := (-1)) C0 dX5_hill_12 (by decide) ?_
    refine mr_iret C0 hr0 hk0 dX5_hill_13 (qI_mk ?_)
    exact h
  · have h := h.2 c1
    refine mr_iload_n C1 dX5_isSheet_4 rfl (i := 0) rfl ?_
    refine mr_iconst (v := 4) C1 dX5_isSheet_5 (by decide) ?_
    refine mr_icmp_ge C1 dX5_isSheet_6 (tgt := 13) (by decide) (fun c2 => ?_) (fun c2 => ?_)
    · have h := h.1 c2
      refine mr_iconst (v := 0) C1 dX5_isSheet_13 (by decide) ?_
      refine mr_zret C1 hr1 hk1 dX5_isSheet_14 rfl (qI_mk ?_)
      refine mr_if_ne C0 dX5_hill_9 (tgt := 14) (by decide) (fun q => absurd q (by decide)) (fun _ => ?_)
      refine mr_iconst (v := (-1)) C0 dX5_hill_12 (by decide) ?_
      refine mr_iret C0 hr0 hk0 dX5_hill_13 (qI_mk ?_)
      exact h
    · have h := h.2 c2
      refine mr_iconst (v := 1) C1 dX5_isSheet_9 (by decide) ?_
      refine mr_goto C1 dX5_isSheet_10 (tgt := 14) (by decide) ?_
      refine mr_zret C1 hr1 hk1 dX5_isSheet_14 rfl (qI_mk ?_)
      refine mr_if_ne C0 dX5_hill_9 (tgt := 14) (by decide) (fun _ => ?_) (fun q => absurd q (by decide))
      refine mr_iload_n C0 dX5_hill_14 rfl (i := 2) rfl ?_
      refine mr_callSI C0 mdX5_isLane dX5_hill_15 clX5_isLane ml_X5_59 arX5_isLane (as := [.int x2]) rfl (Nat.le_of_ble_eq_true rfl) (Nat.le_of_ble_eq_true rfl) (Nat.le_of_ble_eq_true rfl) fit0 (CallV_of mdX5_isLane plX5_isLane 0 (Nat.le_of_ble_eq_true rfl) rfl ?_) (fun _ _ h => h)
      intro zp2 zl2 ze2 zs2 zm2 zargs2 zbelow2 zmeth2 zc2 zD2 zad2 zac2 C2 hr2 hk2
      refine mr_iload_n C2 dX5_isLane_0 rfl (i := 0) rfl ?_
      refine mr_if_lt C2 dX5_isLane_1 (tgt := 13) (by decide) (fun c3 => ?_) (fun c3 => ?_)
      · have h := h.1 c3
        refine mr_iconst (v := 0) C2 dX5_isLane_13 (by decide) ?_
        refine mr_zret C2 hr2 hk2 dX5_isLane_14 rfl (qI_mk ?_)
        refine mr_if_ne C0 dX5_hill_18 (tgt := 24) (by decide) (fun q => absurd q (by decide)) (fun _ => ?_)
        refine mr_bipush (v := (-2)) C0 dX5_hill_21 (by decide) ?_
        refine mr_iret C0 hr0 hk0 dX5_hill_23 (qI_mk ?_)
        exact h
      · have h := h.2 c3
        refine mr_iload_n C2 dX5_isLane_4 rfl (i := 0) rfl ?_
        refine mr_iconst (v := 3) C2 dX5_isLane_5 (by decide) ?_
        refine mr_icmp_ge C2 dX5_isLane_6 (tgt := 13) (by decide) (fun c4 => ?_) (fun c4 => ?_)
        · have h := h.1 c4
          refine mr_iconst (v := 0) C2 dX5_isLane_13 (by decide) ?_
          refine mr_zret C2 hr2 hk2 dX5_isLane_14 rfl (qI_mk ?_)
          refine mr_if_ne C0 dX5_hill_18 (tgt := 24) (by decide) (fun q => absurd q (by decide)) (fun _ => ?_)
          refine mr_bipush (v := (-2)) C0 dX5_hill_21 (by decide) ?_
          refine mr_iret C0 hr0 hk0 dX5_hill_23 (qI_mk ?_)
          exact h
        · have h := h.2 c4
          refine mr_iconst (v := 1) C2 dX5_isLane_9 (by decide) ?_
          refine mr_goto C2 dX5_isLane_10 (tgt := 14) (by decide) ?_
          refine mr_zret C2 hr2 hk2 dX5_isLane_14 rfl (qI_mk ?_)
          refine mr_if_ne C0 dX5_hill_18 (tgt := 24) (by decide) (fun _ => ?_) (fun q => absurd q (by decide))
          refine mr_aload_n C0 dX5_hill_24 rfl (i := 0) rfl ?_
          refine mr_getR C0 dX5_hill_25 fl_X5_43 (Nat.le_of_ble_eq_true rfl) rfl rfl ?_
          refine mr_iload_n C0 dX5_hill_28 rfl (i := 1) rfl ?_
          have g5 := h.1
          have h := h.2
          refine mr_aald (d := 0) C0 dX5_hill_29 (Nat.le_of_ble_eq_true rfl) rfl g5 (sh_el g5) ?_
          refine mr_astore (L1 := [some (.ref 0), some (.int x1), some (.int x2), some (.int x3), some (.int x4), some (.ref (26 + 2 * x1.toNatClampNeg)), none, none]) C0 dX5_hill_30 (Nat.le_of_ble_eq_true rfl) rfl ?_
          refine mr_aload C0 dX5_hill_32 rfl ?_
          refine mr_iload_n C0 dX5_hill_34 rfl (i := 2) rfl ?_
          refine mr_callVI C0 mdX3_faultAs dX5_hill_35 clX3_faultAs ml_X5_62 (sh_lt (sh_in g5)) (sh_lay (sh_in g5)) rfl arX3_faultAs (as := [.int x2]) rfl (Nat.le_of_ble_eq_true rfl) (Nat.le_of_ble_eq_true rfl) (Nat.le_of_ble_eq_true rfl) fit0 (CallV_of mdX3_faultAs plX3_faultAs 0 (Nat.le_of_ble_eq_true rfl) rfl ?_) (fun _ _ h => h)
          intro zp3 zl3 ze3 zs3 zm3 zargs3 zbelow3 zmeth3 zc3 zD3 zad3 zac3 C3 hr3 hk3
          refine mr_aload_n C3 dX3_faultAs_0 rfl (i := 0) rfl ?_
          refine mr_getI C3 dX3_faultAs_1 fl_X3_15 (sh_lt (sh_in g5)) (sh_lay (sh_in g5)) rfl ?_
          refine mr_if_ne C3 dX3_faultAs_4 (tgt := 9) (by decide) (fun c6 => ?_) (fun c6 => ?_)
          · have h := h.1 c6
            refine mr_aload_n C3 dX3_faultAs_9 rfl (i := 0) rfl ?_
            refine mr_getI C3 dX3_faultAs_10 fl_X3_19 (sh_lt (sh_in g5)) (sh_lay (sh_in g5)) rfl ?_
            refine mr_iload_n C3 dX3_faultAs_13 rfl (i := 1) rfl ?_
            refine mr_icmp_ne C3 dX3_faultAs_14 (tgt := 21) (by decide) (fun c7 => ?_) (fun c7 => ?_)
            · have h := h.1 c7
              refine mr_iconst (v := 2) C3 dX3_faultAs_21 (by decide) ?_
              refine mr_iret C3 hr3 hk3 dX3_faultAs_22 (qI_mk ?_)
              refine mr_istore (L1 := [some (.ref 0), some (.int x1), some (.int x2), some (.int x3), some (.int x4), some (.ref (26 + 2 * x1.toNatClampNeg)), some (.int (2 : Int32)), none]) C0 dX5_hill_38 (Nat.le_of_ble_eq_true rfl) rfl ?_
              refine mr_iload C0 dX5_hill_40 rfl ?_
              refine mr_if_ne C0 dX5_hill_42 (tgt := 53) (by decide) (fun _ => ?_) (fun q => absurd q (by decide))
              refine mr_iload C0 dX5_hill_53 rfl ?_
              refine mr_if_ne C0 dX5_hill_55 (tgt := 72) (by decide) (fun _ => ?_) (fun q => absurd q (by decide))
              refine mr_iload C0 dX5_hill_72 rfl ?_
              refine mr_if_eq C0 dX5_hill_74 (tgt := 84) (by decide) (fun q => absurd q (by decide)) (fun _ => ?_)
              refine mr_aload_n C0 dX5_hill_77 rfl (i := 0) rfl ?_
              refine mr_iload C0 dX5_hill_78 rfl ?_
              refine mr_callVI C0 mdX5_failed dX5_hill_80 clX5_failed ml_X5_70 (Nat.le_of_ble_eq_true rfl) rfl rfl arX5_failed (as := [.int (2 : Int32)]) rfl (Nat.le_of_ble_eq_true rfl) (Nat.le_of_ble_eq_true rfl) (Nat.le_of_ble_eq_true rfl) fit0 (CallV_of mdX5_failed plX5_failed 0 (Nat.le_of_ble_eq_true rfl) rfl ?_) (fun _ _ h => h)
              intro zp4 zl4 ze4 zs4 zm4 zargs4 zbelow4 zmeth4 zc4 zD4 zad4 zac4 C4 hr4 hk4
              refine mr_aload_n C4 dX5_failed_0 rfl (i := 0) rfl ?_
              refine mr_iload_n C4 dX5_failed_1 rfl (i := 1) rfl ?_
              refine mr_putI C4 dX5_failed_2 fl_X5_52 (Nat.le_of_ble_eq_true rfl) rfl rfl rfl rfl ?_
              refine mr_bipush (v := (-10)) C4 dX5_failed_5 (by decide) ?_
              refine mr_iload_n C4 dX5_failed_7 rfl (i := 1) rfl ?_
              refine mr_isub C4 dX5_failed_8 ?_
              refine mr_topI (y := (-12 : Int32)) (by decide) ?_
              refine mr_iret C4 hr4 hk4 dX5_failed_9 (qI_mk ?_)
              refine mr_iret C0 hr0 hk0 dX5_hill_83 (qI_mk ?_)
              exact h
            · have h := h.2 c7
              refine mr_iconst (v := 0) C3 dX3_faultAs_17 (by decide) ?_
              refine mr_goto C3 dX3_faultAs_18 (tgt := 22) (by decide) ?_
              refine mr_iret C3 hr3 hk3 dX3_faultAs_22 (qI_mk ?_)
              refine mr_istore (L1 := [some (.ref 0), some (.int x1), some (.int x2), some (.int x3), some (.int x4), some (.ref (26 + 2 * x1.toNatClampNeg)), some (.int (0 : Int32)), none]) C0 dX5_hill_38 (Nat.le_of_ble_eq_true rfl) rfl ?_
              refine mr_iload C0 dX5_hill_40 rfl ?_
              refine mr_if_ne C0 dX5_hill_42 (tgt := 53) (by decide) (fun q => absurd q (by decide)) (fun _ => ?_)
              refine mr_iload C0 dX5_hill_45 rfl ?_
              refine mr_if_ge C0 dX5_hill_47 (tgt := 53) (by decide) (fun c8 => ?_) (fun c8 => ?_)
              · have h := h.1 c8
                refine mr_iload C0 dX5_hill_53 rfl ?_
                refine mr_if_ne C0 dX5_hill_55 (tgt := 72) (by decide) (fun q => absurd q (by decide)) (fun _ => ?_)
                refine mr_aload C0 dX5_hill_58 rfl ?_
                refine mr_iload_n C0 dX5_hill_60 rfl (i := 3) rfl ?_
                refine mr_iload C0 dX5_hill_61 rfl ?_
                refine mr_callVI C0 mdX3_spans dX5_hill_63 clX3_spans ml_X5_66 (sh_lt (sh_in g5)) (sh_lay (sh_in g5)) rfl arX3_spans (as := [.int x3, .int x4]) rfl (Nat.le_of_ble_eq_true rfl) (Nat.le_of_ble_eq_true rfl) (Nat.le_of_ble_eq_true rfl) fit0 (CallV_of mdX3_spans plX3_spans 0 (Nat.le_of_ble_eq_true rfl) rfl ?_) (fun _ _ h => h)
                intro zp5 zl5 ze5 zs5 zm5 zargs5 zbelow5 zmeth5 zc5 zD5 zad5 zac5 C5 hr5 hk5
                refine mr_aload_n C5 dX3_spans_0 rfl (i := 0) rfl ?_
                refine mr_getI C5 dX3_spans_1 fl_X3_15 (sh_lt (sh_in g5)) (sh_lay (sh_in g5)) rfl ?_
                refine mr_if_eq C5 dX3_spans_4 (tgt := 37) (by decide) (fun c9 => ?_) (fun c9 => ?_)
                · have h := h.1 c9
                  refine mr_iconst (v := 0) C5 dX3_spans_37 (by decide) ?_
                  refine mr_zret C5 hr5 hk5 dX3_spans_38 rfl (qI_mk ?_)
                  refine mr_if_ne C0 dX5_hill_66 (tgt := 72) (by decide) (fun q => absurd q (by decide)) (fun _ => ?_)
                  refine mr_iconst (v := 3) C0 dX5_hill_69 (by decide) ?_
                  refine mr_istore (L1 := [some (.ref 0), some (.int x1), some (.int x2), some (.int x3), some (.int x4), some (.ref (26 + 2 * x1.toNatClampNeg)), some (.int (3 : Int32)), none]) C0 dX5_hill_70 (Nat.le_of_ble_eq_true rfl) rfl ?_
                  refine mr_iload C0 dX5_hill_72 rfl ?_
                  refine mr_if_eq C0 dX5_hill_74 (tgt := 84) (by decide) (fun q => absurd q (by decide)) (fun _ => ?_)
                  refine mr_aload_n C0 dX5_hill_77 rfl (i := 0) rfl ?_
                  refine mr_iload C0 dX5_hill_78 rfl ?_
                  refine mr_callVI C0 mdX5_failed dX5_hill_80 clX5_failed ml_X5_70 (Nat.le_of_ble_eq_true rfl) rfl rfl arX5_failed (as := [.int (3 : Int32)]) rfl (Nat.le_of_ble_eq_true rfl) (Nat.le_of_ble_eq_true rfl) (Nat.le_of_ble_eq_true rfl) fit0 (CallV_of mdX5_failed plX5_failed 0 (Nat.le_of_ble_eq_true rfl) rfl ?_) (fun _ _ h => h)
                  intro zp6 zl6 ze6 zs6 zm6 zargs6 zbelow6 zmeth6 zc6 zD6 zad6 zac6 C6 hr6 hk6
                  refine mr_aload_n C6 dX5_failed_0 rfl (i := 0) rfl ?_
                  refine mr_iload_n C6 dX5_failed_1 rfl (i := 1) rfl ?_
                  refine mr_putI C6 dX5_failed_2 fl_X5_52 (Nat.le_of_ble_eq_true rfl) rfl rfl rfl rfl ?_
                  refine mr_bipush (v := (-10)) C6 dX5_failed_5 (by decide) ?_
                  refine mr_iload_n C6 dX5_failed_7 rfl (i := 1) rfl ?_
                  refine mr_isub C6 dX5_failed_8 ?_
                  refine mr_topI (y := (-13 : Int32)) (by decide) ?_
                  refine mr_iret C6 hr6 hk6 dX5_failed_9 (qI_mk ?_)
                  refine mr_iret C0 hr0 hk0 dX5_hill_83 (qI_mk ?_)
                  exact h
                · have h := h.2 c9
                  refine mr_iload_n C5 dX3_spans_7 rfl (i := 1) rfl ?_
                  refine mr_if_lt C5 dX3_spans_8 (tgt := 37) (by decide) (fun c10 => ?_) (fun c10 => ?_)
                  · have h := h.1 c10
                    refine mr_iconst (v := 0) C5 dX3_spans_37 (by decide) ?_
                    refine mr_zret C5 hr5 hk5 dX3_spans_38 rfl (qI_mk ?_)
                    refine mr_if_ne C0 dX5_hill_66 (tgt := 72) (by decide) (fun q => absurd q (by decide)) (fun _ => ?_)
                    refine mr_iconst (v := 3) C0 dX5_hill_69 (by decide) ?_
                    refine mr_istore (L1 := [some (.ref 0), some (.int x1), some (.int x2), some (.int x3), some (.int x4), some (.ref (26 + 2 * x1.toNatClampNeg)), some (.int (3 : Int32)), none]) C0 dX5_hill_70 (Nat.le_of_ble_eq_true rfl) rfl ?_
                    refine mr_iload C0 dX5_hill_72 rfl ?_
                    refine mr_if_eq C0 dX5_hill_74 (tgt := 84) (by decide) (fun q => absurd q (by decide)) (fun _ => ?_)
                    refine mr_aload_n C0 dX5_hill_77 rfl (i := 0) rfl ?_
                    refine mr_iload C0 dX5_hill_78 rfl ?_
                    refine mr_callVI C0 mdX5_failed dX5_hill_80 clX5_failed ml_X5_70 (Nat.le_of_ble_eq_true rfl) rfl rfl arX5_failed (as := [.int (3 : Int32)]) rfl (Nat.le_of_ble_eq_true rfl) (Nat.le_of_ble_eq_true rfl) (Nat.le_of_ble_eq_true rfl) fit0 (CallV_of mdX5_failed plX5_failed 0 (Nat.le_of_ble_eq_true rfl) rfl ?_) (fun _ _ h => h)
                    intro zp7 zl7 ze7 zs7 zm7 zargs7 zbelow7 zmeth7 zc7 zD7 zad7 zac7 C7 hr7 hk7
                    refine mr_aload_n C7 dX5_failed_0 rfl (i := 0) rfl ?_
                    refine mr_iload_n C7 dX5_failed_1 rfl (i := 1) rfl ?_
                    refine mr_putI C7 dX5_failed_2 fl_X5_52 (Nat.le_of_ble_eq_true rfl) rfl rfl rfl rfl ?_
                    refine mr_bipush (v := (-10)) C7 dX5_failed_5 (by decide) ?_
                    refine mr_iload_n C7 dX5_failed_7 rfl (i := 1) rfl ?_
                    refine mr_isub C7 dX5_failed_8 ?_
                    refine mr_topI (y := (-13 : Int32)) (by decide) ?_
                    refine mr_iret C7 hr7 hk7 dX5_failed_9 (qI_mk ?_)
                    refine mr_iret C0 hr0 hk0 dX5_hill_83 (qI_mk ?_)
                    exact h
                  · have h := h.2 c10
                    refine mr_iload_n C5 dX3_spans_11 rfl (i := 2) rfl ?_
                    refine mr_if_lt C5 dX3_spans_12 (tgt := 37) (by decide) (fun c11 => ?_) (fun c11 => ?_)
                    · have h := h.1 c11
                      refine mr_iconst (v := 0) C5 dX3_spans_37 (by decide) ?_
                      refine mr_zret C5 hr5 hk5 dX3_spans_38 rfl (qI_mk ?_)
                      refine mr_if_ne C0 dX5_hill_66 (tgt := 72) (by decide) (fun q => absurd q (by decide)) (fun _ => ?_)
                      refine mr_iconst (v := 3) C0 dX5_hill_69 (by decide) ?_
                      refine mr_istore (L1 := [some (.ref 0), some (.int x1), some (.int x2), some (.int x3), some (.int x4), some (.ref (26 + 2 * x1.toNatClampNeg)), some (.int (3 : Int32)), none]) C0 dX5_hill_70 (Nat.le_of_ble_eq_true rfl) rfl ?_
                      refine mr_iload C0 dX5_hill_72 rfl ?_
                      refine mr_if_eq C0 dX5_hill_74 (tgt := 84) (by decide) (fun q => absurd q (by decide)) (fun _ => ?_)
                      refine mr_aload_n C0 dX5_hill_77 rfl (i := 0) rfl ?_
                      refine mr_iload C0 dX5_hill_78 rfl ?_
                      refine mr_callVI C0 mdX5_failed dX5_hill_80 clX5_failed ml_X5_70 (Nat.le_of_ble_eq_true rfl) rfl rfl arX5_failed (as := [.int (3 : Int32)]) rfl (Nat.le_of_ble_eq_true rfl) (Nat.le_of_ble_eq_true rfl) (Nat.le_of_ble_eq_true rfl) fit0 (CallV_of mdX5_failed plX5_failed 0 (Nat.le_of_ble_eq_true rfl) rfl ?_) (fun _ _ h => h)
                      intro zp8 zl8 ze8 zs8 zm8 zargs8 zbelow8 zmeth8 zc8 zD8 zad8 zac8 C8 hr8 hk8
                      refine mr_aload_n C8 dX5_failed_0 rfl (i := 0) rfl ?_
                      refine mr_iload_n C8 dX5_failed_1 rfl (i := 1) rfl ?_
                      refine mr_putI C8 dX5_failed_2 fl_X5_52 (Nat.le_of_ble_eq_true rfl) rfl rfl rfl rfl ?_
                      refine mr_bipush (v := (-10)) C8 dX5_failed_5 (by decide) ?_
                      refine mr_iload_n C8 dX5_failed_7 rfl (i := 1) rfl ?_
                      refine mr_isub C8 dX5_failed_8 ?_
                      refine mr_topI (y := (-13 : Int32)) (by decide) ?_
                      refine mr_iret C8 hr8 hk8 dX5_failed_9 (qI_mk ?_)
                      refine mr_iret C0 hr0 hk0 dX5_hill_83 (qI_mk ?_)
                      exact h
                    · have h := h.2 c11
                      refine mr_iload_n C5 dX3_spans_15 rfl (i := 1) rfl ?_
                      refine mr_aload_n C5 dX3_spans_16 rfl (i := 0) rfl ?_
                      refine mr_getI C5 dX3_spans_17 fl_X3_23 (sh_lt (sh_in g5)) (sh_lay (sh_in g5)) rfl ?_
                      refine mr_icmp_gt C5 dX3_spans_20 (tgt := 37) (by decide) (fun c12 => ?_) (fun c12 => ?_)
                      · have h := h.1 c12
                        refine mr_iconst (v := 0) C5 dX3_spans_37 (by decide) ?_
                        refine mr_zret C5 hr5 hk5 dX3_spans_38 rfl (qI_mk ?_)
                        refine mr_if_ne C0 dX5_hill_66 (tgt := 72) (by decide) (fun q => absurd q (by decide)) (fun _ => ?_)
                        refine mr_iconst (v := 3) C0 dX5_hill_69 (by decide) ?_
                        refine mr_istore (L1 := [some (.ref 0), some (.int x1), some (.int x2), some (.int x3), some (.int x4), some (.ref (26 + 2 * x1.toNatClampNeg)), some (.int (3 : Int32)), none]) C0 dX5_hill_70 (Nat.le_of_ble_eq_true rfl) rfl ?_
                        refine mr_iload C0 dX5_hill_72 rfl ?_
                        refine mr_if_eq C0 dX5_hill_74 (tgt := 84) (by decide) (fun q => absurd q (by decide)) (fun _ => ?_)
                        refine mr_aload_n C0 dX5_hill_77 rfl (i := 0) rfl ?_
                        refine mr_iload C0 dX5_hill_78 rfl ?_
                        refine mr_callVI C0 mdX5_failed dX5_hill_80 clX5_failed ml_X5_70 (Nat.le_of_ble_eq_true rfl) rfl rfl arX5_failed (as := [.int (3 : Int32)]) rfl (Nat.le_of_ble_eq_true rfl) (Nat.le_of_ble_eq_true rfl) (Nat.le_of_ble_eq_true rfl) fit0 (CallV_of mdX5_failed plX5_failed 0 (Nat.le_of_ble_eq_true rfl) rfl ?_) (fun _ _ h => h)
                        intro zp9 zl9 ze9 zs9 zm9 zargs9 zbelow9 zmeth9 zc9 zD9 zad9 zac9 C9 hr9 hk9
                        refine mr_aload_n C9 dX5_failed_0 rfl (i := 0) rfl ?_
                        refine mr_iload_n C9 dX5_failed_1 rfl (i := 1) rfl ?_
                        refine mr_putI C9 dX5_failed_2 fl_X5_52 (Nat.le_of_ble_eq_true rfl) rfl rfl rfl rfl ?_
                        refine mr_bipush (v := (-10)) C9 dX5_failed_5 (by decide) ?_
                        refine mr_iload_n C9 dX5_failed_7 rfl (i := 1) rfl ?_
                        refine mr_isub C9 dX5_failed_8 ?_
                        refine mr_topI (y := (-13 : Int32)) (by decide) ?_
                        refine mr_iret C9 hr9 hk9 dX5_failed_9 (qI_mk ?_)
                        refine mr_iret C0 hr0 hk0 dX5_hill_83 (qI_mk ?_)
                        exact h
                      · have h := h.2 c12
                        refine mr_iload_n C5 dX3_spans_23 rfl (i := 2) rfl ?_
                        refine mr_aload_n C5 dX3_spans_24 rfl (i := 0) rfl ?_
                        refine mr_getI C5 dX3_spans_25 fl_X3_23 (sh_lt (sh_in g5)) (sh_lay (sh_in g5)) rfl ?_
                        refine mr_iload_n C5 dX3_spans_28 rfl (i := 1) rfl ?_
                        refine mr_isub C5 dX3_spans_29 ?_
                        refine mr_icmp_gt C5 dX3_spans_30 (tgt := 37) (by decide) (fun c13 => ?_) (fun c13 => ?_)
                        · have h := h.1 c13
                          refine mr_iconst (v := 0) C5 dX3_spans_37 (by decide) ?_
                          refine mr_zret C5 hr5 hk5 dX3_spans_38 rfl (qI_mk ?_)
                          refine mr_if_ne C0 dX5_hill_66 (tgt := 72) (by decide) (fun q => absurd q (by decide)) (fun _ => ?_)
                          refine mr_iconst (v := 3) C0 dX5_hill_69 (by decide) ?_
                          refine mr_istore (L1 := [some (.ref 0), some (.int x1), some (.int x2), some (.int x3), some (.int x4), some (.ref (26 + 2 * x1.toNatClampNeg)), some (.int (3 : Int32)), none]) C0 dX5_hill_70 (Nat.le_of_ble_eq_true rfl) rfl ?_
                          refine mr_iload C0 dX5_hill_72 rfl ?_
                          refine mr_if_eq C0 dX5_hill_74 (tgt := 84) (by decide) (fun q => absurd q (by decide)) (fun _ => ?_)
                          refine mr_aload_n C0 dX5_hill_77 rfl (i := 0) rfl ?_
                          refine mr_iload C0 dX5_hill_78 rfl ?_
                          refine mr_callVI C0 mdX5_failed dX5_hill_80 clX5_failed ml_X5_70 (Nat.le_of_ble_eq_true rfl) rfl rfl arX5_failed (as := [.int (3 : Int32)]) rfl (Nat.le_of_ble_eq_true rfl) (Nat.le_of_ble_eq_true rfl) (Nat.le_of_ble_eq_true rfl) fit0 (CallV_of mdX5_failed plX5_failed 0 (Nat.le_of_ble_eq_true rfl) rfl ?_) (fun _ _ h => h)
                          intro zp10 zl10 ze10 zs10 zm10 zargs10 zbelow10 zmeth10 zc10 zD10 zad10 zac10 C10 hr10 hk10
                          refine mr_aload_n C10 dX5_failed_0 rfl (i := 0) rfl ?_
                          refine mr_iload_n C10 dX5_failed_1 rfl (i := 1) rfl ?_
                          refine mr_putI C10 dX5_failed_2 fl_X5_52 (Nat.le_of_ble_eq_true rfl) rfl rfl rfl rfl ?_
                          refine mr_bipush (v := (-10)) C10 dX5_failed_5 (by decide) ?_
                          refine mr_iload_n C10 dX5_failed_7 rfl (i := 1) rfl ?_
                          refine mr_isub C10 dX5_failed_8 ?_
                          refine mr_topI (y := (-13 : Int32)) (by decide) ?_
                          refine mr_iret C10 hr10 hk10 dX5_failed_9 (qI_mk ?_)
                          refine mr_iret C0 hr0 hk0 dX5_hill_83 (qI_mk ?_)
                          exact h
                        · have h := h.2 c13
                          refine mr_iconst (v := 1) C5 dX3_spans_33 (by decide) ?_
                          refine mr_goto C5 dX3_spans_34 (tgt := 38) (by decide) ?_
                          refine mr_zret C5 hr5 hk5 dX3_spans_38 rfl (qI_mk ?_)
                          refine mr_if_ne C0 dX5_hill_66 (tgt := 72) (by decide) (fun _ => ?_) (fun q => absurd q (by decide))
                          refine mr_iload C0 dX5_hill_72 rfl ?_
                          refine mr_if_eq C0 dX5_hill_74 (tgt := 84) (by decide) (fun _ => ?_) (fun q => absurd q (by decide))
                          refine mr_aload_n C0 dX5_hill_84 rfl (i := 0) rfl ?_
                          refine mr_getR C0 dX5_hill_85 fl_X5_14 (Nat.le_of_ble_eq_true rfl) rfl rfl ?_
                          refine mr_aload C0 dX5_hill_88 rfl ?_
                          refine mr_iload_n C0 dX5_hill_90 rfl (i := 3) rfl ?_
                          refine mr_iload C0 dX5_hill_91 rfl ?_
                          refine mr_callVI C0 mdX2_firstFault dX5_hill_93 clX2_firstFault ml_X5_73 (Nat.le_of_ble_eq_true rfl) rfl rfl arX2_firstFault (as := [.ref (26 + 2 * x1.toNatClampNeg), .int x3, .int x4]) rfl (Nat.le_of_ble_eq_true rfl) (Nat.le_of_ble_eq_true rfl) (Nat.le_of_ble_eq_true rfl) fit0 h (fun r15 S14 h => ?_)
                          refine mr_istore (L1 := [some (.ref 0), some (.int x1), some (.int x2), some (.int x3), some (.int x4), some (.ref (26 + 2 * x1.toNatClampNeg)), some (.int (0 : Int32)), some (.int r15)]) C0 dX5_hill_96 (Nat.le_of_ble_eq_true rfl) rfl ?_
                          refine mr_iload C0 dX5_hill_98 rfl ?_
                          refine mr_if_lt C0 dX5_hill_100 (tgt := 109) (by decide) (fun c16 => ?_) (fun c16 => ?_)
                          · have h := h.1 c16
                            refine mr_aload_n C0 dX5_hill_109 rfl (i := 0) rfl ?_
                            refine mr_getR C0 dX5_hill_110 fl_X5_14 (Nat.le_of_ble_eq_true rfl) rfl rfl ?_
                            refine mr_aload C0 dX5_hill_113 rfl ?_
                            refine mr_iload_n C0 dX5_hill_115 rfl (i := 3) rfl ?_
                            refine mr_callVV C0 mdX2_build dX5_hill_116 clX2_build ml_X5_77 (Nat.le_of_ble_eq_true rfl) rfl rfl arX2_build (as := [.ref (26 + 2 * x1.toNatClampNeg), .int x3]) rfl (Nat.le_of_ble_eq_true rfl) (Nat.le_of_ble_eq_true rfl) (Nat.le_of_ble_eq_true rfl) fit0 h (fun S17 h => ?_)
                            refine mr_aload_n C0 dX5_hill_119 rfl (i := 0) rfl ?_
                            refine mr_getR C0 dX5_hill_120 fl_X5_21 (Nat.le_of_ble_eq_true rfl) rfl rfl ?_
                            refine mr_iconst (v := 0) C0 dX5_hill_123 (by decide) ?_
                            refine mr_putI C0 dX5_hill_124 fl_X5_81 (Nat.le_of_ble_eq_true rfl) rfl rfl rfl rfl ?_
                            refine mr_aload_n C0 dX5_hill_127 rfl (i := 0) rfl ?_
                            refine mr_getR C0 dX5_hill_128 fl_X5_14 (Nat.le_of_ble_eq_true rfl) rfl rfl ?_
                            refine mr_callVI C0 mdX2_cells dX5_hill_131 clX2_cells ml_X5_83 (Nat.le_of_ble_eq_true rfl) rfl rfl arX2_cells (as := []) rfl (Nat.le_of_ble_eq_true rfl) (Nat.le_of_ble_eq_true rfl) (Nat.le_of_ble_eq_true rfl) fit0 (CallV_of mdX2_cells plX2_cells 0 (Nat.le_of_ble_eq_true rfl) rfl ?_) (fun _ _ h => h)
                            intro zp11 zl11 ze11 zs11 zm11 zargs11 zbelow11 zmeth11 zc11 zD11 zad11 zac11 C11 hr11 hk11
                            refine mr_aload_n C11 dX2_cells_0 rfl (i := 0) rfl ?_
                            refine mr_getI C11 dX2_cells_1 fl_X2_18 (Nat.le_of_ble_eq_true rfl) rfl rfl ?_
                            refine mr_topI (y := (S17.1 1 2)) (by first | rfl | simp [sI, sJ, sF, upd, vp_updL]) ?_
                            refine mr_aload_n C11 dX2_cells_4 rfl (i := 0) rfl ?_
                            refine mr_getI C11 dX2_cells_5 fl_X2_22 (Nat.le_of_ble_eq_true rfl) rfl rfl ?_
                            refine mr_topI (y := (S17.1 1 3)) (by first | rfl | simp [sI, sJ, sF, upd, vp_updL]) ?_
                            refine mr_imul C11 dX2_cells_8 ?_
                            refine mr_iret C11 hr11 hk11 dX2_cells_9 (qI_mk ?_)
                            refine mr_iret C0 hr0 hk0 dX5_hill_134 (qI_mk ?_)
                            exact h
                          · have h := h.2 c16
                            refine mr_bipush (v := (-100)) C0 dX5_hill_103 (by decide) ?_
                            refine mr_iload C0 dX5_hill_105 rfl ?_
                            refine mr_isub C0 dX5_hill_107 ?_
                            refine mr_iret C0 hr0 hk0 dX5_hill_108 (qI_mk ?_)
                            exact h
              · have h := h.2 c8
                refine mr_iconst (v := 4) C0 dX5_hill_50 (by decide) ?_
                refine mr_istore (L1 := [some (.ref 0), some (.int x1), some (.int x2), some (.int x3), some (.int x4), some (.ref (26 + 2 * x1.toNatClampNeg)), some (.int (4 : Int32)), none]) C0 dX5_hill_51 (Nat.le_of_ble_eq_true rfl) rfl ?_
                refine mr_iload C0 dX5_hill_53 rfl ?_
                refine mr_if_ne C0 dX5_hill_55 (tgt := 72) (by decide) (fun _ => ?_) (fun q => absurd q (by decide))
                refine mr_iload C0 dX5_hill_72 rfl ?_
                refine mr_if_eq C0 dX5_hill_74 (tgt := 84) (by decide) (fun q => absurd q (by decide)) (fun _ => ?_)
                refine mr_aload_n C0 dX5_hill_77 rfl (i := 0) rfl ?_
                refine mr_iload C0 dX5_hill_78 rfl ?_
                refine mr_callVI C0 mdX5_failed dX5_hill_80 clX5_failed ml_X5_70 (Nat.le_of_ble_eq_true rfl) rfl rfl arX5_failed (as := [.int (4 : Int32)]) rfl (Nat.le_of_ble_eq_true rfl) (Nat.le_of_ble_eq_true rfl) (Nat.le_of_ble_eq_true rfl) fit0 (CallV_of mdX5_failed plX5_failed 0 (Nat.le_of_ble_eq_true rfl) rfl ?_) (fun _ _ h => h)
                intro zp12 zl12 ze12 zs12 zm12 zargs12 zbelow12 zmeth12 zc12 zD12 zad12 zac12 C12 hr12 hk12
                refine mr_aload_n C12 dX5_failed_0 rfl (i := 0) rfl ?_
                refine mr_iload_n C12 dX5_failed_1 rfl (i := 1) rfl ?_
                refine mr_putI C12 dX5_failed_2 fl_X5_52 (Nat.le_of_ble_eq_true rfl) rfl rfl rfl rfl ?_
                refine mr_bipush (v := (-10)) C12 dX5_failed_5 (by decide) ?_
                refine mr_iload_n C12 dX5_failed_7 rfl (i := 1) rfl ?_
                refine mr_isub C12 dX5_failed_8 ?_
                refine mr_topI (y := (-14 : Int32)) (by decide) ?_
                refine mr_iret C12 hr12 hk12 dX5_failed_9 (qI_mk ?_)
                refine mr_iret C0 hr0 hk0 dX5_hill_83 (qI_mk ?_)
                exact h
          · have h := h.2 c6
            refine mr_iconst (v := 1) C3 dX3_faultAs_7 (by decide) ?_
            refine mr_iret C3 hr3 hk3 dX3_faultAs_8 (qI_mk ?_)
            refine mr_istore (L1 := [some (.ref 0), some (.int x1), some (.int x2), some (.int x3), some (.int x4), some (.ref (26 + 2 * x1.toNatClampNeg)), some (.int (1 : Int32)), none]) C0 dX5_hill_38 (Nat.le_of_ble_eq_true rfl) rfl ?_
            refine mr_iload C0 dX5_hill_40 rfl ?_
            refine mr_if_ne C0 dX5_hill_42 (tgt := 53) (by decide) (fun _ => ?_) (fun q => absurd q (by decide))
            refine mr_iload C0 dX5_hill_53 rfl ?_
            refine mr_if_ne C0 dX5_hill_55 (tgt := 72) (by decide) (fun _ => ?_) (fun q => absurd q (by decide))
            refine mr_iload C0 dX5_hill_72 rfl ?_
            refine mr_if_eq C0 dX5_hill_74 (tgt := 84) (by decide) (fun q => absurd q (by decide)) (fun _ => ?_)
            refine mr_aload_n C0 dX5_hill_77 rfl (i := 0) rfl ?_
            refine mr_iload C0 dX5_hill_78 rfl ?_
            refine mr_callVI C0 mdX5_failed dX5_hill_80 clX5_failed ml_X5_70 (Nat.le_of_ble_eq_true rfl) rfl rfl arX5_failed (as := [.int (1 : Int32)]) rfl (Nat.le_of_ble_eq_true rfl) (Nat.le_of_ble_eq_true rfl) (Nat.le_of_ble_eq_true rfl) fit0 (CallV_of mdX5_failed plX5_failed 0 (Nat.le_of_ble_eq_true rfl) rfl ?_) (fun _ _ h => h)
            intro zp13 zl13 ze13 zs13 zm13 zargs13 zbelow13 zmeth13 zc13 zD13 zad13 zac13 C13 hr13 hk13
            refine mr_aload_n C13 dX5_failed_0 rfl (i := 0) rfl ?_
            refine mr_iload_n C13 dX5_failed_1 rfl (i := 1) rfl ?_
            refine mr_putI C13 dX5_failed_2 fl_X5_52 (Nat.le_of_ble_eq_true rfl) rfl rfl rfl rfl ?_
            refine mr_bipush (v := (-10)) C13 dX5_failed_5 (by decide) ?_
            refine mr_iload_n C13 dX5_failed_7 rfl (i := 1) rfl ?_
            refine mr_isub C13 dX5_failed_8 ?_
            refine mr_topI (y := (-11 : Int32)) (by decide) ?_
            refine mr_iret C13 hr13 hk13 dX5_failed_9 (qI_mk ?_)
            refine mr_iret C0 hr0 hk0 dX5_hill_83 (qI_mk ?_)
            exact h
set_option maxRecDepth 100000 in
set_option maxHeartbeats 4000000 in
theorem eX5_sign (x1 : Int32) (S : St) (Q : Int32 → St → Prop) (h : ((x1 < 0 → Q (-1 : Int32) S) ∧ (¬ x1 < 0 → ((((S.1 1 2) * (S.1 1 3)) ≤ x1 → Q (-1 : Int32) S) ∧ (¬ ((S.1 1 2) * (S.1 1 3)) ≤ x1 → (vp_in x1 30) ∧ Q (S.1 2 x1.toNatClampNeg) S))))) : CallV mdX5_sign [.ref 0, .int x1] S (qI Q) := by
  refine CallV_of mdX5_sign plX5_sign 0 (Nat.le_of_ble_eq_true rfl) rfl ?_
  intro zp0 zl0 ze0 zs0 zm0 zargs0 zbelow0 zmeth0 zc0 zD0 zad0 zac0 C0 hr0 hk0
  refine mr_aload_n C0 dX5_sign_0 rfl (i := 0) rfl ?_
  refine mr_getR C0 dX5_sign_1 fl_X5_14 (Nat.le_of_ble_eq_true rfl) rfl rfl ?_
  refine mr_iload_n C0 dX5_sign_4 rfl (i := 1) rfl ?_
  refine mr_callVI C0 mdX2_hasCell dX5_sign_5 clX2_hasCell ml_X5_87 (Nat.le_of_ble_eq_true rfl) rfl rfl arX2_hasCell (as := [.int x1]) rfl (Nat.le_of_ble_eq_true rfl) (Nat.le_of_ble_eq_true rfl) (Nat.le_of_ble_eq_true rfl) fit0 (CallV_of mdX2_hasCell plX2_hasCell 0 (Nat.le_of_ble_eq_true rfl) rfl ?_) (fun _ _ h => h)
  intro zp1 zl1 ze1 zs1 zm1 zargs1 zbelow1 zmeth1 zc1 zD1 zad1 zac1 C1 hr1 hk1
  refine mr_iload_n C1 dX2_hasCell_0 rfl (i := 1) rfl ?_
  refine mr_if_lt C1 dX2_hasCell_1 (tgt := 16) (by decide) (fun c1 => ?_) (fun c1 => ?_)
  · have h := h.1 c1
    refine mr_iconst (v := 0) C1 dX2_hasCell_16 (by decide) ?_
    refine mr_zret C1 hr1 hk1 dX2_hasCell_17 rfl (qI_mk ?_)
    refine mr_if_eq C0 dX5_sign_8 (tgt := 23) (by decide) (fun _ => ?_) (fun q => absurd q (by decide))
    refine mr_iconst (v := (-1)) C0 dX5_sign_23 (by decide) ?_
    refine mr_iret C0 hr0 hk0 dX5_sign_24 (qI_mk ?_)
    exact h
  · have h := h.2 c1
    refine mr_iload_n C1 dX2_hasCell_4 rfl (i := 1) rfl ?_
    refine mr_aload_n C1 dX2_hasCell_5 rfl (i := 0) rfl ?_
    refine mr_callVI C1 mdX2_cells dX2_hasCell_6 clX2_cells ml_X2_29 (Nat.le_of_ble_eq_true rfl) rfl rfl arX2_cells (as := []) rfl (Nat.le_of_ble_eq_true rfl) (Nat.le_of_ble_eq_true rfl) (Nat.le_of_ble_eq_true rfl) fit0 (CallV_of mdX2_cells plX2_cells 0 (Nat.le_of_ble_eq_true rfl) rfl ?_) (fun _ _ h => h)
    intro zp2 zl2 ze2 zs2 zm2 zargs2 zbelow2 zmeth2 zc2 zD2 zad2 zac2 C2 hr2 hk2
    refine mr_aload_n C2 dX2_cells_0 rfl (i := 0) rfl ?_
    refine mr_getI C2 dX2_cells_1 fl_X2_18 (Nat.le_of_ble_eq_true rfl) rfl rfl ?_
    refine mr_aload_n C2 dX2_cells_4 rfl (i := 0) rfl ?_
    refine mr_getI C2 dX2_cells_5 fl_X2_22 (Nat.le_of_ble_eq_true rfl) rfl rfl ?_
    refine mr_imul C2 dX2_cells_8 ?_
    refine mr_iret C2 hr2 hk2 dX2_cells_9 (qI_mk ?_)
    refine mr_icmp_ge C1 dX2_hasCell_9 (tgt := 16) (by decide) (fun c2 => ?_) (fun c2 => ?_)
    · have h := h.1 c2
      refine mr_iconst (v := 0) C1 dX2_hasCell_16 (by decide) ?_
      refine mr_zret C1 hr1 hk1 dX2_hasCell_17 rfl (qI_mk ?_)
      refine mr_if_eq C0 dX5_sign_8 (tgt := 23) (by decide) (fun _ => ?_) (fun q => absurd q (by decide))
      refine mr_iconst (v := (-1)) C0 dX5_sign_23 (by decide) ?_
      refine mr_iret C0 hr0 hk0 dX5_sign_24 (qI_mk ?_)
      exact h
    · have h := h.2 c2
      refine mr_iconst (v := 1) C1 dX2_hasCell_12 (by decide) ?_
      refine mr_goto C1 dX2_hasCell_13 (tgt := 17) (by decide) ?_
      refine mr_zret C1 hr1 hk1 dX2_hasCell_17 rfl (qI_mk ?_)
      refine mr_if_eq C0 dX5_sign_8 (tgt := 23) (by decide) (fun q => absurd q (by decide)) (fun _ => ?_)
      refine mr_aload_n C0 dX5_sign_11 rfl (i := 0) rfl ?_
      refine mr_getR C0 dX5_sign_12 fl_X5_14 (Nat.le_of_ble_eq_true rfl) rfl rfl ?_
      refine mr_getR C0 dX5_sign_15 fl_X5_90 (Nat.le_of_ble_eq_true rfl) rfl rfl ?_
      refine mr_iload_n C0 dX5_sign_18 rfl (i := 1) rfl ?_
      have g3 := h.1
      have h := h.2
      refine mr_iald C0 dX5_sign_19 (Nat.le_of_ble_eq_true rfl) rfl g3 ?_
      refine mr_goto C0 dX5_sign_20 (tgt := 24) (by decide) ?_
      refine mr_iret C0 hr0 hk0 dX5_sign_24 (qI_mk ?_)
      exact h
set_option maxRecDepth 100000 in
set_option maxHeartbeats 4000000 in
theorem eX5_set (x1 : Int32) (x2 : Int32) (S : St) (Q : Int32 → St → Prop) (h : ((x1 < 0 → Q (-1 : Int32) S) ∧ (¬ x1 < 0 → ((((S.1 1 2) * (S.1 1 3)) ≤ x1 → Q (-1 : Int32) S) ∧ (¬ ((S.1 1 2) * (S.1 1 3)) ≤ x1 → ((x2 < 0 → Q (-2 : Int32) S) ∧ (¬ x2 < 0 → ((x2 < (5 : Int32) → (vp_in x1 30) ∧ (vp_in x1 30) ∧ Q (S.1 2 x1.toNatClampNeg) (sI S 2 x1.toNatClampNeg x2)) ∧ (¬ x2 < (5 : Int32) → Q (-2 : Int32) S))))))))) : CallV mdX5_set [.ref 0, .int x1, .int x2] S (qI Q) := by
  refine CallV_of mdX5_set plX5_set 1 (Nat.le_of_ble_eq_true rfl) rfl ?_
  intro zp0 zl0 ze0 zs0 zm0 zargs0 zbelow0 zmeth0 zc0 zD0 zad0 zac0 C0 hr0 hk0
  refine mr_aload_n C0 dX5_set_0 rfl (i := 0) rfl ?_
  refine mr_getR C0 dX5_set_1 fl_X5_14 (Nat.le_of_ble_eq_true rfl) rfl rfl ?_
  refine mr_iload_n C0 dX5_set_4 rfl (i := 1) rfl ?_
  refine mr_callVI C0 mdX2_hasCell dX5_set_5 clX2_hasCell ml_X5_87 (Nat.le_of_ble_eq_true rfl) rfl rfl arX2_hasCell (as := [.int x1]) rfl (Nat.le_of_ble_eq_true rfl) (Nat.le_of_ble_eq_true rfl) (Nat.le_of_ble_eq_true rfl) fit0 (CallV_of mdX2_hasCell plX2_hasCell 0 (Nat.le_of_ble_eq_true rfl) rfl ?_) (fun _ _ h => h)
  intro zp1 zl1 ze1 zs1 zm1 zargs1 zbelow1 zmeth1 zc1 zD1 zad1 zac1 C1 hr1 hk1
  refine mr_iload_n C1 dX2_hasCell_0 rfl (i := 1) rfl ?_
  refine mr_if_lt C1 dX2_hasCell_1 (tgt := 16) (by decide) (fun c1 => ?_) (fun c1 => ?_)
  · have h := h.1 c1
    refine mr_iconst (v := 0) C1 dX2_hasCell_16 (by decide) ?_
    refine mr_zret C1 hr1 hk1 dX2_hasCell_17 rfl (qI_mk ?_)
    refine mr_if_ne C0 dX5_set_8 (tgt := 13) (by decide) (fun q => absurd q (by decide)) (fun _ => ?_)
    refine mr_iconst (v := (-1)) C0 dX5_set_11 (by decide) ?_
    refine mr_iret C0 hr0 hk0 dX5_set_12 (qI_mk ?_)
    exact h
  · have h := h.2 c1
    refine mr_iload_n C1 dX2_hasCell_4 rfl (i := 1) rfl ?_
    refine mr_aload_n C1 dX2_hasCell_5 rfl (i := 0) rfl ?_
    refine mr_callVI C1 mdX2_cells dX2_hasCell_6 clX2_cells ml_X2_29 (Nat.le_of_ble_eq_true rfl) rfl rfl arX2_cells (as := []) rfl (Nat.le_of_ble_eq_true rfl) (Nat.le_of_ble_eq_true rfl) (Nat.le_of_ble_eq_true rfl) fit0 (CallV_of mdX2_cells plX2_cells 0 (Nat.le_of_ble_eq_true rfl) rfl ?_) (fun _ _ h => h)
    intro zp2 zl2 ze2 zs2 zm2 zargs2 zbelow2 zmeth2 zc2 zD2 zad2 zac2 C2 hr2 hk2
    refine mr_aload_n C2 dX2_cells_0 rfl (i := 0) rfl ?_
    refine mr_getI C2 dX2_cells_1 fl_X2_18 (Nat.le_of_ble_eq_true rfl) rfl rfl ?_
    refine mr_aload_n C2 dX2_cells_4 rfl (i := 0) rfl ?_
    refine mr_getI C2 dX2_cells_5 fl_X2_22 (Nat.le_of_ble_eq_true rfl) rfl rfl ?_
    refine mr_imul C2 dX2_cells_8 ?_
    refine mr_iret C2 hr2 hk2 dX2_cells_9 (qI_mk ?_)
    refine mr_icmp_ge C1 dX2_hasCell_9 (tgt := 16) (by decide) (fun c2 => ?_) (fun c2 => ?_)
    · have h := h.1 c2
      refine mr_iconst (v := 0) C1 dX2_hasCell_16 (by decide) ?_
      refine mr_zret C1 hr1 hk1 dX2_hasCell_17 rfl (qI_mk ?_)
      refine mr_if_ne C0 dX5_set_8 (tgt := 13) (by decide) (fun q => absurd q (by decide)) (fun _ => ?_)
      refine mr_iconst (v := (-1)) C0 dX5_set_11 (by decide) ?_
      refine mr_iret C0 hr0 hk0 dX5_set_12 (qI_mk ?_)
      exact h
    · have h := h.2 c2
      refine mr_iconst (v := 1) C1 dX2_hasCell_12 (by decide) ?_
      refine mr_goto C1 dX2_hasCell_13 (tgt := 17) (by decide) ?_
      refine mr_zret C1 hr1 hk1 dX2_hasCell_17 rfl (qI_mk ?_)
      refine mr_if_ne C0 dX5_set_8 (tgt := 13) (by decide) (fun _ => ?_) (fun q => absurd q (by decide))
      refine mr_iload_n C0 dX5_set_13 rfl (i := 2) rfl ?_
      refine mr_if_lt C0 dX5_set_14 (tgt := 22) (by decide) (fun c3 => ?_) (fun c3 => ?_)
      · have h := h.1 c3
        refine mr_bipush (v := (-2)) C0 dX5_set_22 (by decide) ?_
        refine mr_iret C0 hr0 hk0 dX5_set_24 (qI_mk ?_)
        exact h
      · have h := h.2 c3
        refine mr_iload_n C0 dX5_set_17 rfl (i := 2) rfl ?_
        refine mr_iconst (v := 5) C0 dX5_set_18 (by decide) ?_
        refine mr_icmp_lt C0 dX5_set_19 (tgt := 25) (by decide) (fun c4 => ?_) (fun c4 => ?_)
        · have h := h.1 c4
          refine mr_aload_n C0 dX5_set_25 rfl (i := 0) rfl ?_
          refine mr_getR C0 dX5_set_26 fl_X5_14 (Nat.le_of_ble_eq_true rfl) rfl rfl ?_
          refine mr_getR C0 dX5_set_29 fl_X5_90 (Nat.le_of_ble_eq_true rfl) rfl rfl ?_
          refine mr_iload_n C0 dX5_set_32 rfl (i := 1) rfl ?_
          have g5 := h.1
          have h := h.2
          refine mr_iald C0 dX5_set_33 (Nat.le_of_ble_eq_true rfl) rfl g5 ?_
          refine mr_istore_n (L1 := [some (.ref 0), some (.int x1), some (.int x2), some (.int (S.1 2 x1.toNatClampNeg))]) C0 dX5_set_34 rfl (Nat.le_of_ble_eq_true rfl) rfl ?_
          refine mr_aload_n C0 dX5_set_35 rfl (i := 0) rfl ?_
          refine mr_getR C0 dX5_set_36 fl_X5_14 (Nat.le_of_ble_eq_true rfl) rfl rfl ?_
          refine mr_getR C0 dX5_set_39 fl_X5_90 (Nat.le_of_ble_eq_true rfl) rfl rfl ?_
          refine mr_iload_n C0 dX5_set_42 rfl (i := 1) rfl ?_
          refine mr_iload_n C0 dX5_set_43 rfl (i := 2) rfl ?_
          have g6 := h.1
          have h := h.2
          refine mr_iast C0 dX5_set_44 (Nat.le_of_ble_eq_true rfl) rfl g6 ?_
          refine mr_iload_n C0 dX5_set_45 rfl (i := 3) rfl ?_
          refine mr_iret C0 hr0 hk0 dX5_set_46 (qI_mk ?_)
          exact h
        · have h := h.2 c4
          refine mr_bipush (v := (-2)) C0 dX5_set_22 (by decide) ?_
          refine mr_iret C0 hr0 hk0 dX5_set_24 (qI_mk ?_)
          exact h
set_option maxRecDepth 100000 in
set_option maxHeartbeats 4000000 in
theorem eX5_party (x1 : Int32) (S : St) (Q : Int32 → St → Prop) (h : ((x1 < 0 → Q (-1 : Int32) S) ∧ (¬ x1 < 0 → (((S.1 1 3) ≤ x1 → Q (-1 : Int32) S) ∧ (¬ (S.1 1 3) ≤ x1 → (vp_in x1 6) ∧ Q (S.1 3 x1.toNatClampNeg) S))))) : CallV mdX5_party [.ref 0, .int x1] S (qI Q) := by
  refine CallV_of mdX5_party plX5_party 0 (Nat.le_of_ble_eq_true rfl) rfl ?_
  intro zp0 zl0 ze0 zs0 zm0 zargs0 zbelow0 zmeth0 zc0 zD0 zad0 zac0 C0 hr0 hk0
  refine mr_aload_n C0 dX5_party_0 rfl (i := 0) rfl ?_
  refine mr_getR C0 dX5_party_1 fl_X5_14 (Nat.le_of_ble_eq_true rfl) rfl rfl ?_
  refine mr_iload_n C0 dX5_party_4 rfl (i := 1) rfl ?_
  refine mr_callVI C0 mdX2_hasColumn dX5_party_5 clX2_hasColumn ml_X5_94 (Nat.le_of_ble_eq_true rfl) rfl rfl arX2_hasColumn (as := [.int x1]) rfl (Nat.le_of_ble_eq_true rfl) (Nat.le_of_ble_eq_true rfl) (Nat.le_of_ble_eq_true rfl) fit0 (CallV_of mdX2_hasColumn plX2_hasColumn 0 (Nat.le_of_ble_eq_true rfl) rfl ?_) (fun _ _ h => h)
  intro zp1 zl1 ze1 zs1 zm1 zargs1 zbelow1 zmeth1 zc1 zD1 zad1 zac1 C1 hr1 hk1
  refine mr_iload_n C1 dX2_hasColumn_0 rfl (i := 1) rfl ?_
  refine mr_if_lt C1 dX2_hasColumn_1 (tgt := 16) (by decide) (fun c1 => ?_) (fun c1 => ?_)
  · have h := h.1 c1
    refine mr_iconst (v := 0) C1 dX2_hasColumn_16 (by decide) ?_
    refine mr_zret C1 hr1 hk1 dX2_hasColumn_17 rfl (qI_mk ?_)
    refine mr_if_eq C0 dX5_party_8 (tgt := 23) (by decide) (fun _ => ?_) (fun q => absurd q (by decide))
    refine mr_iconst (v := (-1)) C0 dX5_party_23 (by decide) ?_
    refine mr_iret C0 hr0 hk0 dX5_party_24 (qI_mk ?_)
    exact h
  · have h := h.2 c1
    refine mr_iload_n C1 dX2_hasColumn_4 rfl (i := 1) rfl ?_
    refine mr_aload_n C1 dX2_hasColumn_5 rfl (i := 0) rfl ?_
    refine mr_getI C1 dX2_hasColumn_6 fl_X2_22 (Nat.le_of_ble_eq_true rfl) rfl rfl ?_
    refine mr_icmp_ge C1 dX2_hasColumn_9 (tgt := 16) (by decide) (fun c2 => ?_) (fun c2 => ?_)
    · have h := h.1 c2
      refine mr_iconst (v := 0) C1 dX2_hasColumn_16 (by decide) ?_
      refine mr_zret C1 hr1 hk1 dX2_hasColumn_17 rfl (qI_mk ?_)
      refine mr_if_eq C0 dX5_party_8 (tgt := 23) (by decide) (fun _ => ?_) (fun q => absurd q (by decide))
      refine mr_iconst (v := (-1)) C0 dX5_party_23 (by decide) ?_
      refine mr_iret C0 hr0 hk0 dX5_party_24 (qI_mk ?_)
      exact h
    · have h := h.2 c2
      refine mr_iconst (v := 1) C1 dX2_hasColumn_12 (by decide) ?_
      refine mr_goto C1 dX2_hasColumn_13 (tgt := 17) (by decide) ?_
      refine mr_zret C1 hr1 hk1 dX2_hasColumn_17 rfl (qI_mk ?_)
      refine mr_if_eq C0 dX5_party_8 (tgt := 23) (by decide) (fun q => absurd q (by decide)) (fun _ => ?_)
      refine mr_aload_n C0 dX5_party_11 rfl (i := 0) rfl ?_
      refine mr_getR C0 dX5_party_12 fl_X5_14 (Nat.le_of_ble_eq_true rfl) rfl rfl ?_
      refine mr_getR C0 dX5_party_15 fl_X5_97 (Nat.le_of_ble_eq_true rfl) rfl rfl ?_
      refine mr_iload_n C0 dX5_party_18 rfl (i := 1) rfl ?_
      have g3 := h.1
      have h := h.2
      refine mr_iald C0 dX5_party_19 (Nat.le_of_ble_eq_true rfl) rfl g3 ?_
      refine mr_goto C0 dX5_party_20 (tgt := 24) (by decide) ?_
      refine mr_iret C0 hr0 hk0 dX5_party_24 (qI_mk ?_)
      exact h
set_option maxRecDepth 100000 in
set_option maxHeartbeats 4000000 in
theorem eX5_wet (x1 : Int32) (S : St) (Q : Int32 → St → Prop) (h : (((S.1 1 3) ≤ 0 → Q (-3 : Int32) S) ∧ (¬ (S.1 1 3) ≤ 0 → (isB x1) ∧ ((¬ (S.1 1 4) = x1 → Q (1 : Int32) (sI S 1 4 x1)) ∧ ((S.1 1 4) = x1 → Q (0 : Int32) (sI S 1 4 x1)))))) : CallV mdX5_wet [.ref 0, .int x1] S (qI Q) := by
  refine CallV_of mdX5_wet plX5_wet 1 (Nat.le_of_ble_eq_true rfl) rfl ?_
  intro zp0 zl0 ze0 zs0 zm0 zargs0 zbelow0 zmeth0 zc0 zD0 zad0 zac0 C0 hr0 hk0
  refine mr_aload_n C0 dX5_wet_0 rfl (i := 0) rfl ?_
  refine mr_getR C0 dX5_wet_1 fl_X5_14 (Nat.le_of_ble_eq_true rfl) rfl rfl ?_
  refine mr_callVI C0 mdX2_stands dX5_wet_4 clX2_stands ml_X5_100 (Nat.le_of_ble_eq_true rfl) rfl rfl arX2_stands (as := []) rfl (Nat.le_of_ble_eq_true rfl) (Nat.le_of_ble_eq_true rfl) (Nat.le_of_ble_eq_true rfl) fit0 (CallV_of mdX2_stands plX2_stands 0 (Nat.le_of_ble_eq_true rfl) rfl ?_) (fun _ _ h => h)
  intro zp1 zl1 ze1 zs1 zm1 zargs1 zbelow1 zmeth1 zc1 zD1 zad1 zac1 C1 hr1 hk1
  refine mr_aload_n C1 dX2_stands_0 rfl (i := 0) rfl ?_
  refine mr_getI C1 dX2_stands_1 fl_X2_22 (Nat.le_of_ble_eq_true rfl) rfl rfl ?_
  refine mr_if_le C1 dX2_stands_4 (tgt := 11) (by decide) (fun c1 => ?_) (fun c1 => ?_)
  · have h := h.1 c1
    refine mr_iconst (v := 0) C1 dX2_stands_11 (by decide) ?_
    refine mr_zret C1 hr1 hk1 dX2_stands_12 rfl (qI_mk ?_)
    refine mr_if_ne C0 dX5_wet_7 (tgt := 13) (by decide) (fun q => absurd q (by decide)) (fun _ => ?_)
    refine mr_bipush (v := (-3)) C0 dX5_wet_10 (by decide) ?_
    refine mr_iret C0 hr0 hk0 dX5_wet_12 (qI_mk ?_)
    exact h
  · have h := h.2 c1
    refine mr_iconst (v := 1) C1 dX2_stands_7 (by decide) ?_
    refine mr_goto C1 dX2_stands_8 (tgt := 12) (by decide) ?_
    refine mr_zret C1 hr1 hk1 dX2_stands_12 rfl (qI_mk ?_)
    refine mr_if_ne C0 dX5_wet_7 (tgt := 13) (by decide) (fun _ => ?_) (fun q => absurd q (by decide))
    refine mr_aload_n C0 dX5_wet_13 rfl (i := 0) rfl ?_
    refine mr_getR C0 dX5_wet_14 fl_X5_14 (Nat.le_of_ble_eq_true rfl) rfl rfl ?_
    refine mr_getI C0 dX5_wet_17 fl_X5_104 (Nat.le_of_ble_eq_true rfl) rfl rfl ?_
    refine mr_istore_n (L1 := [some (.ref 0), some (.int x1), some (.int (S.1 1 4))]) C0 dX5_wet_20 rfl (Nat.le_of_ble_eq_true rfl) rfl ?_
    refine mr_aload_n C0 dX5_wet_21 rfl (i := 0) rfl ?_
    refine mr_getR C0 dX5_wet_22 fl_X5_14 (Nat.le_of_ble_eq_true rfl) rfl rfl ?_
    refine mr_iload_n C0 dX5_wet_25 rfl (i := 1) rfl ?_
    have g := h.1
    have h := h.2
    refine mr_putI C0 dX5_wet_26 fl_X5_104 (Nat.le_of_ble_eq_true rfl) rfl rfl (isB_n g) (isB_f g) ?_
    refine mr_iload_n C0 dX5_wet_29 rfl (i := 2) rfl ?_
    refine mr_iload_n C0 dX5_wet_30 rfl (i := 1) rfl ?_
    refine mr_icmp_ne C0 dX5_wet_31 (tgt := 38) (by decide) (fun c2 => ?_) (fun c2 => ?_)
    · have h := h.1 c2
      refine mr_iconst (v := 1) C0 dX5_wet_38 (by decide) ?_
      refine mr_iret C0 hr0 hk0 dX5_wet_39 (qI_mk ?_)
      exact h
    · have h := h.2 c2
      refine mr_iconst (v := 0) C0 dX5_wet_34 (by decide) ?_
      refine mr_goto C0 dX5_wet_35 (tgt := 39) (by decide) ?_
      refine mr_iret C0 hr0 hk0 dX5_wet_39 (qI_mk ?_)
      exact h
set_option maxRecDepth 100000 in
set_option maxHeartbeats 4000000 in
theorem eX5_vote (x1 : Int32) (x2 : Int32) (S : St) (Q : Int32 → St → Prop) (h : ((x2 < 0 → Q (-1 : Int32) S) ∧ (¬ x2 < 0 → (((S.1 1 3) ≤ x2 → Q (-1 : Int32) S) ∧ (¬ (S.1 1 3) ≤ x2 → ((x1 < 0 → Q (-2 : Int32) S) ∧ (¬ x1 < 0 → (((3 : Int32) ≤ x1 → Q (-2 : Int32) S) ∧ (¬ (3 : Int32) ≤ x1 → (((S.1 4 2) < (8 : Int32) → (vp_in (S.1 4 2) 8) ∧ (vp_in (S.1 4 2) 8) ∧ Q (S.1 4 2) (sI (sI (sI S 5 ((S.1 4 2).toNatClampNeg) x1) 6 ((S.1 4 2).toNatClampNeg) x2) 4 2 ((S.1 4 2) + (1 : Int32)))) ∧ (¬ (S.1 4 2) < (8 : Int32) → Q (-4 : Int32) S))))))))))) : CallV mdX5_vote [.ref 0, .int x1, .int x2] S (qI Q) := by
  refine CallV_of mdX5_vote plX5_vote 0 (Nat.le_of_ble_eq_true rfl) rfl ?_
  intro zp0 zl0 ze0 zs0 zm0 zargs0 zbelow0 zmeth0 zc0 zD0 zad0 zac0 C0 hr0 hk0
  refine mr_aload_n C0 dX5_vote_0 rfl (i := 0) rfl ?_
  refine mr_getR C0 dX5_vote_1 fl_X5_14 (Nat.le_of_ble_eq_true rfl) rfl rfl ?_
  refine mr_iload_n C0 dX5_vote_4 rfl (i := 2) rfl ?_
  refine mr_callVI C0 mdX2_hasColumn dX5_vote_5 clX2_hasColumn ml_X5_94 (Nat.le_of_ble_eq_true rfl) rfl rfl arX2_hasColumn (as := [.int x2]) rfl (Nat.le_of_ble_eq_true rfl) (Nat.le_of_ble_eq_true rfl) (Nat.le_of_ble_eq_true rfl) fit0 (CallV_of mdX2_hasColumn plX2_hasColumn 0 (Nat.le_of_ble_eq_true rfl) rfl ?_) (fun _ _ h => h)
  intro zp1 zl1 ze1 zs1 zm1 zargs1 zbelow1 zmeth1 zc1 zD1 zad1 zac1 C1 hr1 hk1
  refine mr_iload_n C1 dX2_hasColumn_0 rfl (i := 1) rfl ?_
  refine mr_if_lt C1 dX2_hasColumn_1 (tgt := 16) (by decide) (fun c1 => ?_) (fun c1 => ?_)
  · have h := h.1 c1
    refine mr_iconst (v := 0) C1 dX2_hasColumn_16 (by decide) ?_
    refine mr_zret C1 hr1 hk1 dX2_hasColumn_17 rfl (qI_mk ?_)
    refine mr_if_ne C0 dX5_vote_8 (tgt := 13) (by decide) (fun q => absurd q (by decide)) (fun _ => ?_)
    refine mr_iconst (v := (-1)) C0 dX5_vote_11 (by decide) ?_
    refine mr_iret C0 hr0 hk0 dX5_vote_12 (qI_mk ?_)
    exact h
  · have h := h.2 c1
    refine mr_iload_n C1 dX2_hasColumn_4 rfl (i := 1) rfl ?_
    refine mr_aload_n C1 dX2_hasColumn_5 rfl (i := 0) rfl ?_
    refine mr_getI C1 dX2_hasColumn_6 fl_X2_22 (Nat.le_of_ble_eq_true rfl) rfl rfl ?_
    refine mr_icmp_ge C1 dX2_hasColumn_9 (tgt := 16) (by decide) (fun c2 => ?_) (fun c2 => ?_)
    · have h := h.1 c2
      refine mr_iconst (v := 0) C1 dX2_hasColumn_16 (by decide) ?_
      refine mr_zret C1 hr1 hk1 dX2_hasColumn_17 rfl (qI_mk ?_)
      refine mr_if_ne C0 dX5_vote_8 (tgt := 13) (by decide) (fun q => absurd q (by decide)) (fun _ => ?_)
      refine mr_iconst (v := (-1)) C0 dX5_vote_11 (by decide) ?_
      refine mr_iret C0 hr0 hk0 dX5_vote_12 (qI_mk ?_)
      exact h
    · have h := h.2 c2
      refine mr_iconst (v := 1) C1 dX2_hasColumn_12 (by decide) ?_
      refine mr_goto C1 dX2_hasColumn_13 (tgt := 17) (by decide) ?_
      refine mr_zret C1 hr1 hk1 dX2_hasColumn_17 rfl (qI_mk ?_)
      refine mr_if_ne C0 dX5_vote_8 (tgt := 13) (by decide) (fun _ => ?_) (fun q => absurd q (by decide))
      refine mr_iload_n C0 dX5_vote_13 rfl (i := 1) rfl ?_
      refine mr_callSI C0 mdX5_isKind dX5_vote_14 clX5_isKind ml_X5_108 arX5_isKind (as := [.int x1]) rfl (Nat.le_of_ble_eq_true rfl) (Nat.le_of_ble_eq_true rfl) (Nat.le_of_ble_eq_true rfl) fit0 (CallV_of mdX5_isKind plX5_isKind 0 (Nat.le_of_ble_eq_true rfl) rfl ?_) (fun _ _ h => h)
      intro zp2 zl2 ze2 zs2 zm2 zargs2 zbelow2 zmeth2 zc2 zD2 zad2 zac2 C2 hr2 hk2
      refine mr_iload_n C2 dX5_isKind_0 rfl (i := 0) rfl ?_
      refine mr_if_lt C2 dX5_isKind_1 (tgt := 13) (by decide) (fun c3 => ?_) (fun c3 => ?_)
      · have h := h.1 c3
        refine mr_iconst (v := 0) C2 dX5_isKind_13 (by decide) ?_
        refine mr_zret C2 hr2 hk2 dX5_isKind_14 rfl (qI_mk ?_)
        refine mr_if_ne C0 dX5_vote_17 (tgt := 23) (by decide) (fun q => absurd q (by decide)) (fun _ => ?_)
        refine mr_bipush (v := (-2)) C0 dX5_vote_20 (by decide) ?_
        refine mr_iret C0 hr0 hk0 dX5_vote_22 (qI_mk ?_)
        exact h
      · have h := h.2 c3
        refine mr_iload_n C2 dX5_isKind_4 rfl (i := 0) rfl ?_
        refine mr_iconst (v := 3) C2 dX5_isKind_5 (by decide) ?_
        refine mr_icmp_ge C2 dX5_isKind_6 (tgt := 13) (by decide) (fun c4 => ?_) (fun c4 => ?_)
        · have h := h.1 c4
          refine mr_iconst (v := 0) C2 dX5_isKind_13 (by decide) ?_
          refine mr_zret C2 hr2 hk2 dX5_isKind_14 rfl (qI_mk ?_)
          refine mr_if_ne C0 dX5_vote_17 (tgt := 23) (by decide) (fun q => absurd q (by decide)) (fun _ => ?_)
          refine mr_bipush (v := (-2)) C0 dX5_vote_20 (by decide) ?_
          refine mr_iret C0 hr0 hk0 dX5_vote_22 (qI_mk ?_)
          exact h
        · have h := h.2 c4
          refine mr_iconst (v := 1) C2 dX5_isKind_9 (by decide) ?_
          refine mr_goto C2 dX5_isKind_10 (tgt := 14) (by decide) ?_
          refine mr_zret C2 hr2 hk2 dX5_isKind_14 rfl (qI_mk ?_)
          refine mr_if_ne C0 dX5_vote_17 (tgt := 23) (by decide) (fun _ => ?_) (fun q => absurd q (by decide))
          refine mr_aload_n C0 dX5_vote_23 rfl (i := 0) rfl ?_
          refine mr_getR C0 dX5_vote_24 fl_X5_21 (Nat.le_of_ble_eq_true rfl) rfl rfl ?_
          refine mr_getI C0 dX5_vote_27 fl_X5_81 (Nat.le_of_ble_eq_true rfl) rfl rfl ?_
          refine mr_bipush (v := 8) C0 dX5_vote_30 (by decide) ?_
          refine mr_icmp_lt C0 dX5_vote_32 (tgt := 38) (by decide) (fun c5 => ?_) (fun c5 => ?_)
          · have h := h.1 c5
            refine mr_aload_n C0 dX5_vote_38 rfl (i := 0) rfl ?_
            refine mr_getR C0 dX5_vote_39 fl_X5_21 (Nat.le_of_ble_eq_true rfl) rfl rfl ?_
            refine mr_iload_n C0 dX5_vote_42 rfl (i := 1) rfl ?_
            refine mr_iload_n C0 dX5_vote_43 rfl (i := 2) rfl ?_
            refine mr_callVI C0 mdX4_add dX5_vote_44 clX4_add ml_X5_111 (Nat.le_of_ble_eq_true rfl) rfl rfl arX4_add (as := [.int x1, .int x2]) rfl (Nat.le_of_ble_eq_true rfl) (Nat.le_of_ble_eq_true rfl) (Nat.le_of_ble_eq_true rfl) fit0 (CallV_of mdX4_add plX4_add 1 (Nat.le_of_ble_eq_true rfl) rfl ?_) (fun _ _ h => h)
            intro zp3 zl3 ze3 zs3 zm3 zargs3 zbelow3 zmeth3 zc3 zD3 zad3 zac3 C3 hr3 hk3
            refine mr_aload_n C3 dX4_add_0 rfl (i := 0) rfl ?_
            refine mr_getI C3 dX4_add_1 fl_X4_18 (Nat.le_of_ble_eq_true rfl) rfl rfl ?_
            refine mr_istore_n (L1 := [some (.ref 4), some (.int x1), some (.int x2), some (.int (S.1 4 2))]) C3 dX4_add_4 rfl (Nat.le_of_ble_eq_true rfl) rfl ?_
            refine mr_aload_n C3 dX4_add_5 rfl (i := 0) rfl ?_
            refine mr_getR C3 dX4_add_6 fl_X4_9 (Nat.le_of_ble_eq_true rfl) rfl rfl ?_
            refine mr_iload_n C3 dX4_add_9 rfl (i := 3) rfl ?_
            refine mr_iload_n C3 dX4_add_10 rfl (i := 1) rfl ?_
            have g6 := h.1
            have h := h.2
            refine mr_iast C3 dX4_add_11 (Nat.le_of_ble_eq_true rfl) rfl g6 ?_
            refine mr_aload_n C3 dX4_add_12 rfl (i := 0) rfl ?_
            refine mr_getR C3 dX4_add_13 fl_X4_15 (Nat.le_of_ble_eq_true rfl) rfl rfl ?_
            refine mr_iload_n C3 dX4_add_16 rfl (i := 3) rfl ?_
            refine mr_iload_n C3 dX4_add_17 rfl (i := 2) rfl ?_
            have g7 := h.1
            have h := h.2
            refine mr_iast C3 dX4_add_18 (Nat.le_of_ble_eq_true rfl) rfl g7 ?_
            refine mr_aload_n C3 dX4_add_19 rfl (i := 0) rfl ?_
            refine mr_dup C3 dX4_add_20 rfl ?_
            refine mr_getI C3 dX4_add_21 fl_X4_18 (Nat.le_of_ble_eq_true rfl) rfl rfl ?_
            refine mr_topI (y := (S.1 4 2)) (by first | rfl | simp [sI, sJ, sF, upd, vp_updL]) ?_
            refine mr_iconst (v := 1) C3 dX4_add_24 (by decide) ?_
            refine mr_iadd C3 dX4_add_25 ?_
            refine mr_putI C3 dX4_add_26 fl_X4_18 (Nat.le_of_ble_eq_true rfl) rfl rfl rfl rfl ?_
            refine mr_iload_n C3 dX4_add_29 rfl (i := 3) rfl ?_
            refine mr_iret C3 hr3 hk3 dX4_add_30 (qI_mk ?_)
            refine mr_iret C0 hr0 hk0 dX5_vote_47 (qI_mk ?_)
            exact h
          · have h := h.2 c5
            refine mr_bipush (v := (-4)) C0 dX5_vote_35 (by decide) ?_
            refine mr_iret C0 hr0 hk0 dX5_vote_37 (qI_mk ?_)
            exact h
set_option maxRecDepth 100000 in
set_option maxHeartbeats 4000000 in
theorem eX5_ofVote (x1 : Int32) (x2 : Int32) (S : St) (Q : Int32 → St → Prop) (h : ((x1 < 0 → Q (-1 : Int32) S) ∧ (¬ x1 < 0 → (((S.1 4 2) ≤ x1 → Q (-1 : Int32) S) ∧ (¬ (S.1 4 2) ≤ x1 → ((x2 = (0 : Int32) → (vp_in x1 8) ∧ Q (S.1 5 x1.toNatClampNeg) S) ∧ (¬ x2 = (0 : Int32) → ((x2 = (1 : Int32) → (vp_in x1 8) ∧ Q (S.1 6 x1.toNatClampNeg) S) ∧ (¬ x2 = (1 : Int32) → ((x2 = (2 : Int32) → (vp_in x1 8) ∧ CallV mdX2_partsLeft [.ref 1, .int (1 : Int32), .int (S.1 5 x1.toNatClampNeg)] S (qI fun r10 S9 => Q r10 S9)) ∧ (¬ x2 = (2 : Int32) → ((x2 = (3 : Int32) → (vp_in x1 8) ∧ CallV mdX2_partsRight [.ref 1, .int (1 : Int32), .int (S.1 5 x1.toNatClampNeg)] S (qI fun r14 S13 => Q r14 S13)) ∧ (¬ x2 = (3 : Int32) → Q (-2 : Int32) S))))))))))))) : CallV mdX5_ofVote [.ref 0, .int x1, .int x2] S (qI Q) := by
  refine CallV_of mdX5_ofVote plX5_ofVote 0 (Nat.le_of_ble_eq_true rfl) rfl ?_
  intro zp0 zl0 ze0 zs0 zm0 zargs0 zbelow0 zmeth0 zc0 zD0 zad0 zac0 C0 hr0 hk0
  refine mr_aload_n C0 dX5_ofVote_0 rfl (i := 0) rfl ?_
  refine mr_getR C0 dX5_ofVote_1 fl_X5_21 (Nat.le_of_ble_eq_true rfl) rfl rfl ?_
  refine mr_iload_n C0 dX5_ofVote_4 rfl (i := 1) rfl ?_
  refine mr_callVI C0 mdX4_has dX5_ofVote_5 clX4_has ml_X5_115 (Nat.le_of_ble_eq_true rfl) rfl rfl arX4_has (as := [.int x1]) rfl (Nat.le_of_ble_eq_true rfl) (Nat.le_of_ble_eq_true rfl) (Nat.le_of_ble_eq_true rfl) fit0 (CallV_of mdX4_has plX4_has 0 (Nat.le_of_ble_eq_true rfl) rfl ?_) (fun _ _ h => h)
  intro zp1 zl1 ze1 zs1 zm1 zargs1 zbelow1 zmeth1 zc1 zD1 zad1 zac1 C1 hr1 hk1
  refine mr_iload_n C1 dX4_has_0 rfl (i := 1) rfl ?_
  refine mr_if_lt C1 dX4_has_1 (tgt := 16) (by decide) (fun c1 => ?_) (fun c1 => ?_)
  · have h := h.1 c1
    refine mr_iconst (v := 0) C1 dX4_has_16 (by decide) ?_
    refine mr_zret C1 hr1 hk1 dX4_has_17 rfl (qI_mk ?_)
    refine mr_if_ne C0 dX5_ofVote_8 (tgt := 13) (by decide) (fun q => absurd q (by decide)) (fun _ => ?_)
    refine mr_iconst (v := (-1)) C0 dX5_ofVote_11 (by decide) ?_
    refine mr_iret C0 hr0 hk0 dX5_ofVote_12 (qI_mk ?_)
    exact h
  · have h := h.2 c1
    refine mr_iload_n C1 dX4_has_4 rfl (i := 1) rfl ?_
    refine mr_aload_n C1 dX4_has_5 rfl (i := 0) rfl ?_
    refine mr_getI C1 dX4_has_6 fl_X4_18 (Nat.le_of_ble_eq_true rfl) rfl rfl ?_
    refine mr_icmp_ge C1 dX4_has_9 (tgt := 16) (by decide) (fun c2 => ?_) (fun c2 => ?_)
    · have h := h.1 c2
      refine mr_iconst (v := 0) C1 dX4_has_16 (by decide) ?_
      refine mr_zret C1 hr1 hk1 dX4_has_17 rfl (qI_mk ?_)
      refine mr_if_ne C0 dX5_ofVote_8 (tgt := 13) (by decide) (fun q => absurd q (by decide)) (fun _ => ?_)
      refine mr_iconst (v := (-1)) C0 dX5_ofVote_11 (by decide) ?_
      refine mr_iret C0 hr0 hk0 dX5_ofVote_12 (qI_mk ?_)
      exact h
    · have h := h.2 c2
      refine mr_iconst (v := 1) C1 dX4_has_12 (by decide) ?_
      refine mr_goto C1 dX4_has_13 (tgt := 17) (by decide) ?_
      refine mr_zret C1 hr1 hk1 dX4_has_17 rfl (qI_mk ?_)
      refine mr_if_ne C0 dX5_ofVote_8 (tgt := 13) (by decide) (fun _ => ?_) (fun q => absurd q (by decide))
      refine mr_iload_n C0 dX5_ofVote_13 rfl (i := 2) rfl ?_
      by_cases c3 : x2 = (0 : Int32)
      · have h := h.1 c3
        refine mr_tsIn C0 dX5_ofVote_14 (0 : Int32) c3 (by decide) (by decide) rfl (tgt := 44) (by decide) ?_
        refine mr_aload_n C0 dX5_ofVote_44 rfl (i := 0) rfl ?_
        refine mr_getR C0 dX5_ofVote_45 fl_X5_21 (Nat.le_of_ble_eq_true rfl) rfl rfl ?_
        refine mr_getR C0 dX5_ofVote_48 fl_X5_118 (Nat.le_of_ble_eq_true rfl) rfl rfl ?_
        refine mr_iload_n C0 dX5_ofVote_51 rfl (i := 1) rfl ?_
        have g4 := h.1
        have h := h.2
        refine mr_iald C0 dX5_ofVote_52 (Nat.le_of_ble_eq_true rfl) rfl g4 ?_
        refine mr_iret C0 hr0 hk0 dX5_ofVote_53 (qI_mk ?_)
        exact h
      · have h := h.2 c3
        by_cases c5 : x2 = (1 : Int32)
        · have h := h.1 c5
          refine mr_tsIn C0 dX5_ofVote_14 (1 : Int32) c5 (by decide) (by decide) rfl (tgt := 54) (by decide) ?_
          refine mr_aload_n C0 dX5_ofVote_54 rfl (i := 0) rfl ?_
          refine mr_getR C0 dX5_ofVote_55 fl_X5_21 (Nat.le_of_ble_eq_true rfl) rfl rfl ?_
          refine mr_getR C0 dX5_ofVote_58 fl_X5_121 (Nat.le_of_ble_eq_true rfl) rfl rfl ?_
          refine mr_iload_n C0 dX5_ofVote_61 rfl (i := 1) rfl ?_
          have g6 := h.1
          have h := h.2
          refine mr_iald C0 dX5_ofVote_62 (Nat.le_of_ble_eq_true rfl) rfl g6 ?_
          refine mr_iret C0 hr0 hk0 dX5_ofVote_63 (qI_mk ?_)
          exact h
        · have h := h.2 c5
          by_cases c7 : x2 = (2 : Int32)
          · have h := h.1 c7
            refine mr_tsIn C0 dX5_ofVote_14 (2 : Int32) c7 (by decide) (by decide) rfl (tgt := 64) (by decide) ?_
            refine mr_aload_n C0 dX5_ofVote_64 rfl (i := 0) rfl ?_
            refine mr_getR C0 dX5_ofVote_65 fl_X5_14 (Nat.le_of_ble_eq_true rfl) rfl rfl ?_
            refine mr_iconst (v := 1) C0 dX5_ofVote_68 (by decide) ?_
            refine mr_aload_n C0 dX5_ofVote_69 rfl (i := 0) rfl ?_
            refine mr_getR C0 dX5_ofVote_70 fl_X5_21 (Nat.le_of_ble_eq_true rfl) rfl rfl ?_
            refine mr_getR C0 dX5_ofVote_73 fl_X5_118 (Nat.le_of_ble_eq_true rfl) rfl rfl ?_
            refine mr_iload_n C0 dX5_ofVote_76 rfl (i := 1) rfl ?_
            have g8 := h.1
            have h := h.2
            refine mr_iald C0 dX5_ofVote_77 (Nat.le_of_ble_eq_true rfl) rfl g8 ?_
            refine mr_callVI C0 mdX2_partsLeft dX5_ofVote_78 clX2_partsLeft ml_X5_124 (Nat.le_of_ble_eq_true rfl) rfl rfl arX2_partsLeft (as := [.int (1 : Int32), .int (S.1 5 x1.toNatClampNeg)]) rfl (Nat.le_of_ble_eq_true rfl) (Nat.le_of_ble_eq_true rfl) (Nat.le_of_ble_eq_true rfl) fit0 h (fun r10 S9 h => ?_)
            refine mr_iret C0 hr0 hk0 dX5_ofVote_81 (qI_mk ?_)
            exact h
          · have h := h.2 c7
            by_cases c11 : x2 = (3 : Int32)
            · have h := h.1 c11
              refine mr_tsIn C0 dX5_ofVote_14 (3 : Int32) c11 (by decide) (by decide) rfl (tgt := 82) (by decide) ?_
              refine mr_aload_n C0 dX5_ofVote_82 rfl (i := 0) rfl ?_
              refine mr_getR C0 dX5_ofVote_83 fl_X5_14 (Nat.le_of_ble_eq_true rfl) rfl rfl ?_
              refine mr_iconst (v := 1) C0 dX5_ofVote_86 (by decide) ?_
              refine mr_aload_n C0 dX5_ofVote_87 rfl (i := 0) rfl ?_
              refine mr_getR C0 dX5_ofVote_88 fl_X5_21 (Nat.le_of_ble_eq_true rfl) rfl rfl ?_
              refine mr_getR C0 dX5_ofVote_91 fl_X5_118 (Nat.le_of_ble_eq_true rfl) rfl rfl ?_
              refine mr_iload_n C0 dX5_ofVote_94 rfl (i := 1) rfl ?_
              have g12 := h.1
              have h := h.2
              refine mr_iald C0 dX5_ofVote_95 (Nat.le_of_ble_eq_true rfl) rfl g12 ?_
              refine mr_callVI C0 mdX2_partsRight dX5_ofVote_96 clX2_partsRight ml_X5_127 (Nat.le_of_ble_eq_true rfl) rfl rfl arX2_partsRight (as := [.int (1 : Int32), .int (S.1 5 x1.toNatClampNeg)]) rfl (Nat.le_of_ble_eq_true rfl) (Nat.le_of_ble_eq_true rfl) (Nat.le_of_ble_eq_true rfl) fit0 h (fun r14 S13 h => ?_)
              refine mr_iret C0 hr0 hk0 dX5_ofVote_99 (qI_mk ?_)
              exact h
            · have h := h.2 c11
              refine mr_tsOut C0 dX5_ofVote_14 (by have c3q := lv_neT c3 (show ((0 : Int32)).toInt = 0 by decide); have c5q := lv_neT c5 (show ((1 : Int32)).toInt = 1 by decide); have c7q := lv_neT c7 (show ((2 : Int32)).toInt = 2 by decide); have c11q := lv_neT c11 (show ((3 : Int32)).toInt = 3 by decide); omega) (tgt := 100) (by decide) ?_
              refine mr_bipush (v := (-2)) C0 dX5_ofVote_100 (by decide) ?_
              refine mr_iret C0 hr0 hk0 dX5_ofVote_102 (qI_mk ?_)
              exact h
set_option maxRecDepth 100000 in
set_option maxHeartbeats 4000000 in
theorem eX5_back (x1 : Int32) (S : St) (Q : Int32 → St → Prop) (h : ((x1 < 0 → Q (-2 : Int32) S) ∧ (¬ x1 < 0 → ((x1 ≤ (S.1 4 2) → Q ((S.1 4 2) - x1) (sI S 4 2 ((S.1 4 2) - x1))) ∧ (¬ x1 ≤ (S.1 4 2) → Q (-2 : Int32) S))))) : CallV mdX5_back [.ref 0, .int x1] S (qI Q) := by
  refine CallV_of mdX5_back plX5_back 0 (Nat.le_of_ble_eq_true rfl) rfl ?_
  intro zp0 zl0 ze0 zs0 zm0 zargs0 zbelow0 zmeth0 zc0 zD0 zad0 zac0 C0 hr0 hk0
  refine mr_iload_n C0 dX5_back_0 rfl (i := 1) rfl ?_
  refine mr_if_lt C0 dX5_back_1 (tgt := 15) (by decide) (fun c1 => ?_) (fun c1 => ?_)
  · have h := h.1 c1
    refine mr_bipush (v := (-2)) C0 dX5_back_15 (by decide) ?_
    refine mr_iret C0 hr0 hk0 dX5_back_17 (qI_mk ?_)
    exact h
  · have h := h.2 c1
    refine mr_iload_n C0 dX5_back_4 rfl (i := 1) rfl ?_
    refine mr_aload_n C0 dX5_back_5 rfl (i := 0) rfl ?_
    refine mr_getR C0 dX5_back_6 fl_X5_21 (Nat.le_of_ble_eq_true rfl) rfl rfl ?_
    refine mr_getI C0 dX5_back_9 fl_X5_81 (Nat.le_of_ble_eq_true rfl) rfl rfl ?_
    refine mr_icmp_le C0 dX5_back_12 (tgt := 18) (by decide) (fun c2 => ?_) (fun c2 => ?_)
    · have h := h.1 c2
      refine mr_aload_n C0 dX5_back_18 rfl (i := 0) rfl ?_
      refine mr_getR C0 dX5_back_19 fl_X5_21 (Nat.le_of_ble_eq_true rfl) rfl rfl ?_
      refine mr_dup C0 dX5_back_22 rfl ?_
      refine mr_getI C0 dX5_back_23 fl_X5_81 (Nat.le_of_ble_eq_true rfl) rfl rfl ?_
      refine mr_iload_n C0 dX5_back_26 rfl (i := 1) rfl ?_
      refine mr_isub C0 dX5_back_27 ?_
      refine mr_putI C0 dX5_back_28 fl_X5_81 (Nat.le_of_ble_eq_true rfl) rfl rfl rfl rfl ?_
      refine mr_aload_n C0 dX5_back_31 rfl (i := 0) rfl ?_
      refine mr_getR C0 dX5_back_32 fl_X5_21 (Nat.le_of_ble_eq_true rfl) rfl rfl ?_
      refine mr_getI C0 dX5_back_35 fl_X5_81 (Nat.le_of_ble_eq_true rfl) rfl rfl ?_
      refine mr_topI (y := ((S.1 4 2) - x1)) (by first | rfl | simp [sI, sJ, sF, upd, vp_updL]) ?_
      refine mr_iret C0 hr0 hk0 dX5_back_38 (qI_mk ?_)
      exact h
    · have h := h.2 c2
      refine mr_bipush (v := (-2)) C0 dX5_back_15 (by decide) ?_
      refine mr_iret C0 hr0 hk0 dX5_back_17 (qI_mk ?_)
      exact h
set_option maxRecDepth 100000 in
set_option maxHeartbeats 4000000 in
theorem eX5_roll (x1 : Int32) (x2 : Int32) (x3 : Int32) (x4 : Int32) (S : St) (Q : Int32 → St → Prop) (h : ((x1 < 0 → Q (-1 : Int32) (sI S 0 6 (0 : Int32))) ∧ (¬ x1 < 0 → (((S.1 4 2) ≤ x1 → Q (-1 : Int32) (sI S 0 6 (0 : Int32))) ∧ (¬ (S.1 4 2) ≤ x1 → ((x2 < 0 → Q (-1 : Int32) (sI S 0 6 (0 : Int32))) ∧ (¬ x2 < 0 → (((4 : Int32) ≤ x2 → Q (-1 : Int32) (sI S 0 6 (0 : Int32))) ∧ (¬ (4 : Int32) ≤ x2 → ((x3 < 0 → Q (-2 : Int32) (sI S 0 6 (0 : Int32))) ∧ (¬ x3 < 0 → (((3 : Int32) ≤ x3 → Q (-2 : Int32) (sI S 0 6 (0 : Int32))) ∧ (¬ (3 : Int32) ≤ x3 → (vp_in x2 4) ∧ ((¬ ((sI S 0 6 (0 : Int32)).1 (26 + 2 * x2.toNatClampNeg) 1) = 0 → ((¬ ((sI S 0 6 (0 : Int32)).1 (26 + 2 * x2.toNatClampNeg) 2) = x3 → Q (-12 : Int32) (sI (sI S 0 6 (0 : Int32)) 0 6 (2 : Int32))) ∧ (((sI S 0 6 (0 : Int32)).1 (26 + 2 * x2.toNatClampNeg) 2) = x3 → ((((sI S 0 6 (0 : Int32)).1 (26 + 2 * x2.toNatClampNeg) 1) = 0 → Q (-13 : Int32) (sI (sI S 0 6 (0 : Int32)) 0 6 (3 : Int32))) ∧ (¬ ((sI S 0 6 (0 : Int32)).1 (26 + 2 * x2.toNatClampNeg) 1) = 0 → ((x4 < 0 → Q (-13 : Int32) (sI (sI S 0 6 (0 : Int32)) 0 6 (3 : Int32))) ∧ (¬ x4 < 0 → ((((sI S 0 6 (0 : Int32)).1 (26 + 2 * x2.toNatClampNeg) 3) < x4 → Q (-13 : Int32) (sI (sI S 0 6 (0 : Int32)) 0 6 (3 : Int32))) ∧ (¬ ((sI S 0 6 (0 : Int32)).1 (26 + 2 * x2.toNatClampNeg) 3) < x4 → (((((sI S 0 6 (0 : Int32)).1 (26 + 2 * x2.toNatClampNeg) 3) - x4) < (0 : Int32) → Q (-13 : Int32) (sI (sI S 0 6 (0 : Int32)) 0 6 (3 : Int32))) ∧ (¬ (((sI S 0 6 (0 : Int32)).1 (26 + 2 * x2.toNatClampNeg) 3) - x4) < (0 : Int32) → CallV mdX5_rollBy [.ref 0, .int x1, .ref (26 + 2 * x2.toNatClampNeg), .int x4] (sI S 0 6 (0 : Int32)) (qI fun r15 S14 => Q r15 S14)))))))))))) ∧ (((sI S 0 6 (0 : Int32)).1 (26 + 2 * x2.toNatClampNeg) 1) = 0 → Q (-11 : Int32) (sI (sI S 0 6 (0 : Int32)) 0 6 (1 : Int32))))))))))))))))) : CallV mdX5_roll [.ref 0, .int x1, .int x2, .int x3, .int x4] S (qI Q) := by
  refine CallV_of mdX5_roll plX5_roll 2 (Nat.le_of_ble_eq_true rfl) rfl ?_
  intro zp0 zl0 ze0 zs0 zm0 zargs0 zbelow0 zmeth0 zc0 zD0 zad0 zac0 C0 hr0 hk0
  refine mr_aload_n C0 dX5_roll_0 rfl (i := 0) rfl ?_
  refine mr_iconst (v := 0) C0 dX5_roll_1 (by decide) ?_
  refine mr_putI C0 dX5_roll_2 fl_X5_52 (Nat.le_of_ble_eq_true rfl) rfl rfl rfl rfl ?_
  refine mr_aload_n C0 dX5_roll_5 rfl (i := 0) rfl ?_
  refine mr_getR C0 dX5_roll_6 fl_X5_21 (Nat.le_of_ble_eq_true rfl) rfl rfl ?_
  refine mr_iload_n C0 dX5_roll_9 rfl (i := 1) rfl ?_
  refine mr_callVI C0 mdX4_has dX5_roll_10 clX4_has ml_X5_115 (Nat.le_of_ble_eq_true rfl) rfl rfl arX4_has (as := [.int x1]) rfl (Nat.le_of_ble_eq_true rfl) (Nat.le_of_ble_eq_true rfl) (Nat.le_of_ble_eq_true rfl) fit0 (CallV_of mdX4_has plX4_has 0 (Nat.le_of_ble_eq_true rfl) rfl ?_) (fun _ _ h => h)
  intro zp1 zl1 ze1 zs1 zm1 zargs1 zbelow1 zmeth1 zc1 zD1 zad1 zac1 C1 hr1 hk1
  refine mr_iload_n C1 dX4_has_0 rfl (i := 1) rfl ?_
  refine mr_if_lt C1 dX4_has_1 (tgt := 16) (by decide) (fun c1 => ?_) (fun c1 => ?_)
  · have h := h.1 c1
    refine mr_iconst (v := 0) C1 dX4_has_16 (by decide) ?_
    refine mr_zret C1 hr1 hk1 dX4_has_17 rfl (qI_mk ?_)
    refine mr_if_eq C0 dX5_roll_13 (tgt := 23) (by decide) (fun _ => ?_) (fun q => absurd q (by decide))
    refine mr_iconst (v := (-1)) C0 dX5_roll_23 (by decide) ?_
    refine mr_iret C0 hr0 hk0 dX5_roll_24 (qI_mk ?_)
    exact h
  · have h := h.2 c1
    refine mr_iload_n C1 dX4_has_4 rfl (i := 1) rfl ?_
    refine mr_aload_n C1 dX4_has_5 rfl (i := 0) rfl ?_
    refine mr_getI C1 dX4_has_6 fl_X4_18 (Nat.le_of_ble_eq_true rfl) rfl rfl ?_
    refine mr_topI (y := (S.1 4 2)) (by first | rfl | simp [sI, sJ, sF, upd, vp_updL]) ?_
    refine mr_icmp_ge C1 dX4_has_9 (tgt := 16) (by decide) (fun c2 => ?_) (fun c2 => ?_)
    · have h := h.1 c2
      refine mr_iconst (v := 0) C1 dX4_has_16 (by decide) ?_
      refine mr_zret C1 hr1 hk1 dX4_has_17 rfl (qI_mk ?_)
      refine mr_if_eq C0 dX5_roll_13 (tgt := 23) (by decide) (fun _ => ?_) (fun q => absurd q (by decide))
      refine mr_iconst (v := (-1)) C0 dX5_roll_23 (by decide) ?_
      refine mr_iret C0 hr0 hk0 dX5_roll_24 (qI_mk ?_)
      exact h
    · have h := h.2 c2
      refine mr_iconst (v := 1) C1 dX4_has_12 (by decide) ?_
      refine mr_goto C1 dX4_has_13 (tgt := 17) (by decide) ?_
      refine mr_zret C1 hr1 hk1 dX4_has_17 rfl (qI_mk ?_)
      refine mr_if_eq C0 dX5_roll_13 (tgt := 23) (by decide) (fun q => absurd q (by decide)) (fun _ => ?_)
      refine mr_iload_n C0 dX5_roll_16 rfl (i := 2) rfl ?_
      refine mr_callSI C0 mdX5_isSheet dX5_roll_17 clX5_isSheet ml_X5_55 arX5_isSheet (as := [.int x2]) rfl (Nat.le_of_ble_eq_true rfl) (Nat.le_of_ble_eq_true rfl) (Nat.le_of_ble_eq_true rfl) fit0 (CallV_of mdX5_isSheet plX5_isSheet 0 (Nat.le_of_ble_eq_true rfl) rfl ?_) (fun _ _ h => h)
      intro zp2 zl2 ze2 zs2 zm2 zargs2 zbelow2 zmeth2 zc2 zD2 zad2 zac2 C2 hr2 hk2
      refine mr_iload_n C2 dX5_isSheet_0 rfl (i := 0) rfl ?_
      refine mr_if_lt C2 dX5_isSheet_1 (tgt := 13) (by decide) (fun c3 => ?_) (fun c3 => ?_)
      · have h := h.1 c3
        refine mr_iconst (v := 0) C2 dX5_isSheet_13 (by decide) ?_
        refine mr_zret C2 hr2 hk2 dX5_isSheet_14 rfl (qI_mk ?_)
        refine mr_if_ne C0 dX5_roll_20 (tgt := 25) (by decide) (fun q => absurd q (by decide)) (fun _ => ?_)
        refine mr_iconst (v := (-1)) C0 dX5_roll_23 (by decide) ?_
        refine mr_iret C0 hr0 hk0 dX5_roll_24 (qI_mk ?_)
        exact h
      · have h := h.2 c3
        refine mr_iload_n C2 dX5_isSheet_4 rfl (i := 0) rfl ?_
        refine mr_iconst (v := 4) C2 dX5_isSheet_5 (by decide) ?_
        refine mr_icmp_ge C2 dX5_isSheet_6 (tgt := 13) (by decide) (fun c4 => ?_) (fun c4 => ?_)
        · have h := h.1 c4
          refine mr_iconst (v := 0) C2 dX5_isSheet_13 (by decide) ?_
          refine mr_zret C2 hr2 hk2 dX5_isSheet_14 rfl (qI_mk ?_)
          refine mr_if_ne C0 dX5_roll_20 (tgt := 25) (by decide) (fun q => absurd q (by decide)) (fun _ => ?_)
          refine mr_iconst (v := (-1)) C0 dX5_roll_23 (by decide) ?_
          refine mr_iret C0 hr0 hk0 dX5_roll_24 (qI_mk ?_)
          exact h
        · have h := h.2 c4
          refine mr_iconst (v := 1) C2 dX5_isSheet_9 (by decide) ?_
          refine mr_goto C2 dX5_isSheet_10 (tgt := 14) (by decide) ?_
          refine mr_zret C2 hr2 hk2 dX5_isSheet_14 rfl (qI_mk ?_)
          refine mr_if_ne C0 dX5_roll_20 (tgt := 25) (by decide) (fun _ => ?_) (fun q => absurd q (by decide))
          refine mr_iload_n C0 dX5_roll_25 rfl (i := 3) rfl ?_
          refine mr_callSI C0 mdX5_isLane dX5_roll_26 clX5_isLane ml_X5_59 arX5_isLane (as := [.int x3]) rfl (Nat.le_of_ble_eq_true rfl) (Nat.le_of_ble_eq_true rfl) (Nat.le_of_ble_eq_true rfl) fit0 (CallV_of mdX5_isLane plX5_isLane 0 (Nat.le_of_ble_eq_true rfl) rfl ?_) (fun _ _ h => h)
          intro zp3 zl3 ze3 zs3 zm3 zargs3 zbelow3 zmeth3 zc3 zD3 zad3 zac3 C3 hr3 hk3
          refine mr_iload_n C3 dX5_isLane_0 rfl (i := 0) rfl ?_
          refine mr_if_lt C3 dX5_isLane_1 (tgt := 13) (by decide) (fun c5 => ?_) (fun c5 => ?_)
          · have h := h.1 c5
            refine mr_iconst (v := 0) C3 dX5_isLane_13 (by decide) ?_
            refine mr_zret C3 hr3 hk3 dX5_isLane_14 rfl (qI_mk ?_)
            refine mr_if_ne C0 dX5_roll_29 (tgt := 35) (by decide) (fun q => absurd q (by decide)) (fun _ => ?_)
            refine mr_bipush (v := (-2)) C0 dX5_roll_32 (by decide) ?_
            refine mr_iret C0 hr0 hk0 dX5_roll_34 (qI_mk ?_)
            exact h
          · have h := h.2 c5
            refine mr_iload_n C3 dX5_isLane_4 rfl (i := 0) rfl ?_
            refine mr_iconst (v := 3) C3 dX5_isLane_5 (by decide) ?_
            refine mr_icmp_ge C3 dX5_isLane_6 (tgt := 13) (by decide) (fun c6 => ?_) (fun c6 => ?_)
            · have h := h.1 c6
              refine mr_iconst (v := 0) C3 dX5_isLane_13 (by decide) ?_
              refine mr_zret C3 hr3 hk3 dX5_isLane_14 rfl (qI_mk ?_)
              refine mr_if_ne C0 dX5_roll_29 (tgt := 35) (by decide) (fun q => absurd q (by decide)) (fun _ => ?_)
              refine mr_bipush (v := (-2)) C0 dX5_roll_32 (by decide) ?_
              refine mr_iret C0 hr0 hk0 dX5_roll_34 (qI_mk ?_)
              exact h
            · have h := h.2 c6
              refine mr_iconst (v := 1) C3 dX5_isLane_9 (by decide) ?_
              refine mr_goto C3 dX5_isLane_10 (tgt := 14) (by decide) ?_
              refine mr_zret C3 hr3 hk3 dX5_isLane_14 rfl (qI_mk ?_)
              refine mr_if_ne C0 dX5_roll_29 (tgt := 35) (by decide) (fun _ => ?_) (fun q => absurd q (by decide))
              refine mr_aload_n C0 dX5_roll_35 rfl (i := 0) rfl ?_
              refine mr_getR C0 dX5_roll_36 fl_X5_43 (Nat.le_of_ble_eq_true rfl) rfl rfl ?_
              refine mr_iload_n C0 dX5_roll_39 rfl (i := 2) rfl ?_
              have g7 := h.1
              have h := h.2
              refine mr_aald (d := 0) C0 dX5_roll_40 (Nat.le_of_ble_eq_true rfl) rfl g7 (sh_el g7) ?_
              refine mr_astore (L1 := [some (.ref 0), some (.int x1), some (.int x2), some (.int x3), some (.int x4), some (.ref (26 + 2 * x2.toNatClampNeg)), none]) C0 dX5_roll_41 (Nat.le_of_ble_eq_true rfl) rfl ?_
              refine mr_aload C0 dX5_roll_43 rfl ?_
              refine mr_iload_n C0 dX5_roll_45 rfl (i := 3) rfl ?_
              refine mr_callVI C0 mdX3_faultAs dX5_roll_46 clX3_faultAs ml_X5_62 (sh_lt (sh_in g7)) (sh_lay (sh_in g7)) rfl arX3_faultAs (as := [.int x3]) rfl (Nat.le_of_ble_eq_true rfl) (Nat.le_of_ble_eq_true rfl) (Nat.le_of_ble_eq_true rfl) fit0 (CallV_of mdX3_faultAs plX3_faultAs 0 (Nat.le_of_ble_eq_true rfl) rfl ?_) (fun _ _ h => h)
              intro zp4 zl4 ze4 zs4 zm4 zargs4 zbelow4 zmeth4 zc4 zD4 zad4 zac4 C4 hr4 hk4
              refine mr_aload_n C4 dX3_faultAs_0 rfl (i := 0) rfl ?_
              refine mr_getI C4 dX3_faultAs_1 fl_X3_15 (sh_lt (sh_in g7)) (sh_lay (sh_in g7)) rfl ?_
              refine mr_if_ne C4 dX3_faultAs_4 (tgt := 9) (by decide) (fun c8 => ?_) (fun c8 => ?_)
              · have h := h.1 c8
                refine mr_aload_n C4 dX3_faultAs_9 rfl (i := 0) rfl ?_
                refine mr_getI C4 dX3_faultAs_10 fl_X3_19 (sh_lt (sh_in g7)) (sh_lay (sh_in g7)) rfl ?_
                refine mr_iload_n C4 dX3_faultAs_13 rfl (i := 1) rfl ?_
                refine mr_icmp_ne C4 dX3_faultAs_14 (tgt := 21) (by decide) (fun c9 => ?_) (fun c9 => ?_)
                · have h := h.1 c9
                  refine mr_iconst (v := 2) C4 dX3_faultAs_21 (by decide) ?_
                  refine mr_iret C4 hr4 hk4 dX3_faultAs_22 (qI_mk ?_)
                  refine mr_istore (L1 := [some (.ref 0), some (.int x1), some (.int x2), some (.int x3), some (.int x4), some (.ref (26 + 2 * x2.toNatClampNeg)), some (.int (2 : Int32))]) C0 dX5_roll_49 (Nat.le_of_ble_eq_true rfl) rfl ?_
                  refine mr_iload C0 dX5_roll_51 rfl ?_
                  refine mr_if_ne C0 dX5_roll_53 (tgt := 70) (by decide) (fun _ => ?_) (fun q => absurd q (by decide))
                  refine mr_iload C0 dX5_roll_70 rfl ?_
                  refine mr_if_ne C0 dX5_roll_72 (tgt := 87) (by decide) (fun _ => ?_) (fun q => absurd q (by decide))
                  refine mr_aload_n C0 dX5_roll_87 rfl (i := 0) rfl ?_
                  refine mr_iload C0 dX5_roll_88 rfl ?_
                  refine mr_callVI C0 mdX5_failed dX5_roll_90 clX5_failed ml_X5_70 (Nat.le_of_ble_eq_true rfl) rfl rfl arX5_failed (as := [.int (2 : Int32)]) rfl (Nat.le_of_ble_eq_true rfl) (Nat.le_of_ble_eq_true rfl) (Nat.le_of_ble_eq_true rfl) fit0 (CallV_of mdX5_failed plX5_failed 0 (Nat.le_of_ble_eq_true rfl) rfl ?_) (fun _ _ h => h)
                  intro zp5 zl5 ze5 zs5 zm5 zargs5 zbelow5 zmeth5 zc5 zD5 zad5 zac5 C5 hr5 hk5
                  refine mr_aload_n C5 dX5_failed_0 rfl (i := 0) rfl ?_
                  refine mr_iload_n C5 dX5_failed_1 rfl (i := 1) rfl ?_
                  refine mr_putI C5 dX5_failed_2 fl_X5_52 (Nat.le_of_ble_eq_true rfl) rfl rfl rfl rfl ?_
                  refine mr_bipush (v := (-10)) C5 dX5_failed_5 (by decide) ?_
                  refine mr_iload_n C5 dX5_failed_7 rfl (i := 1) rfl ?_
                  refine mr_isub C5 dX5_failed_8 ?_
                  refine mr_topI (y := (-12 : Int32)) (by decide) ?_
                  refine mr_iret C5 hr5 hk5 dX5_failed_9 (qI_mk ?_)
                  refine mr_iret C0 hr0 hk0 dX5_roll_93 (qI_mk ?_)
                  exact h
                · have h := h.2 c9
                  refine mr_iconst (v := 0) C4 dX3_faultAs_17 (by decide) ?_
                  refine mr_goto C4 dX3_faultAs_18 (tgt := 22) (by decide) ?_
                  refine mr_iret C4 hr4 hk4 dX3_faultAs_22 (qI_mk ?_)
                  refine mr_istore (L1 := [some (.ref 0), some (.int x1), some (.int x2), some (.int x3), some (.int x4), some (.ref (26 + 2 * x2.toNatClampNeg)), some (.int (0 : Int32))]) C0 dX5_roll_49 (Nat.le_of_ble_eq_true rfl) rfl ?_
                  refine mr_iload C0 dX5_roll_51 rfl ?_
                  refine mr_if_ne C0 dX5_roll_53 (tgt := 70) (by decide) (fun q => absurd q (by decide)) (fun _ => ?_)
                  refine mr_aload C0 dX5_roll_56 rfl ?_
                  refine mr_iload C0 dX5_roll_58 rfl ?_
                  refine mr_iconst (v := 0) C0 dX5_roll_60 (by decide) ?_
                  refine mr_callVI C0 mdX3_spans dX5_roll_61 clX3_spans ml_X5_66 (sh_lt (sh_in g7)) (sh_lay (sh_in g7)) rfl arX3_spans (as := [.int x4, .int (0 : Int32)]) rfl (Nat.le_of_ble_eq_true rfl) (Nat.le_of_ble_eq_true rfl) (Nat.le_of_ble_eq_true rfl) fit0 (CallV_of mdX3_spans plX3_spans 0 (Nat.le_of_ble_eq_true rfl) rfl ?_) (fun _ _ h => h)
                  intro zp6 zl6 ze6 zs6 zm6 zargs6 zbelow6 zmeth6 zc6 zD6 zad6 zac6 C6 hr6 hk6
                  refine mr_aload_n C6 dX3_spans_0 rfl (i := 0) rfl ?_
                  refine mr_getI C6 dX3_spans_1 fl_X3_15 (sh_lt (sh_in g7)) (sh_lay (sh_in g7)) rfl ?_
                  refine mr_if_eq C6 dX3_spans_4 (tgt := 37) (by decide) (fun c10 => ?_) (fun c10 => ?_)
                  · have h := h.1 c10
                    refine mr_iconst (v := 0) C6 dX3_spans_37 (by decide) ?_
                    refine mr_zret C6 hr6 hk6 dX3_spans_38 rfl (qI_mk ?_)
                    refine mr_if_ne C0 dX5_roll_64 (tgt := 70) (by decide) (fun q => absurd q (by decide)) (fun _ => ?_)
                    refine mr_iconst (v := 3) C0 dX5_roll_67 (by decide) ?_
                    refine mr_istore (L1 := [some (.ref 0), some (.int x1), some (.int x2), some (.int x3), some (.int x4), some (.ref (26 + 2 * x2.toNatClampNeg)), some (.int (3 : Int32))]) C0 dX5_roll_68 (Nat.le_of_ble_eq_true rfl) rfl ?_
                    refine mr_iload C0 dX5_roll_70 rfl ?_
                    refine mr_if_ne C0 dX5_roll_72 (tgt := 87) (by decide) (fun _ => ?_) (fun q => absurd q (by decide))
                    refine mr_aload_n C0 dX5_roll_87 rfl (i := 0) rfl ?_
                    refine mr_iload C0 dX5_roll_88 rfl ?_
                    refine mr_callVI C0 mdX5_failed dX5_roll_90 clX5_failed ml_X5_70 (Nat.le_of_ble_eq_true rfl) rfl rfl arX5_failed (as := [.int (3 : Int32)]) rfl (Nat.le_of_ble_eq_true rfl) (Nat.le_of_ble_eq_true rfl) (Nat.le_of_ble_eq_true rfl) fit0 (CallV_of mdX5_failed plX5_failed 0 (Nat.le_of_ble_eq_true rfl) rfl ?_) (fun _ _ h => h)
                    intro zp7 zl7 ze7 zs7 zm7 zargs7 zbelow7 zmeth7 zc7 zD7 zad7 zac7 C7 hr7 hk7
                    refine mr_aload_n C7 dX5_failed_0 rfl (i := 0) rfl ?_
                    refine mr_iload_n C7 dX5_failed_1 rfl (i := 1) rfl ?_
                    refine mr_putI C7 dX5_failed_2 fl_X5_52 (Nat.le_of_ble_eq_true rfl) rfl rfl rfl rfl ?_
                    refine mr_bipush (v := (-10)) C7 dX5_failed_5 (by decide) ?_
                    refine mr_iload_n C7 dX5_failed_7 rfl (i := 1) rfl ?_
                    refine mr_isub C7 dX5_failed_8 ?_
                    refine mr_topI (y := (-13 : Int32)) (by decide) ?_
                    refine mr_iret C7 hr7 hk7 dX5_failed_9 (qI_mk ?_)
                    refine mr_iret C0 hr0 hk0 dX5_roll_93 (qI_mk ?_)
                    exact h
                  · have h := h.2 c10
                    refine mr_iload_n C6 dX3_spans_7 rfl (i := 1) rfl ?_
                    refine mr_if_lt C6 dX3_spans_8 (tgt := 37) (by decide) (fun c11 => ?_) (fun c11 => ?_)
                    · have h := h.1 c11
                      refine mr_iconst (v := 0) C6 dX3_spans_37 (by decide) ?_
                      refine mr_zret C6 hr6 hk6 dX3_spans_38 rfl (qI_mk ?_)
                      refine mr_if_ne C0 dX5_roll_64 (tgt := 70) (by decide) (fun q => absurd q (by decide)) (fun _ => ?_)
                      refine mr_iconst (v := 3) C0 dX5_roll_67 (by decide) ?_
                      refine mr_istore (L1 := [some (.ref 0), some (.int x1), some (.int x2), some (.int x3), some (.int x4), some (.ref (26 + 2 * x2.toNatClampNeg)), some (.int (3 : Int32))]) C0 dX5_roll_68 (Nat.le_of_ble_eq_true rfl) rfl ?_
                      refine mr_iload C0 dX5_roll_70 rfl ?_
                      refine mr_if_ne C0 dX5_roll_72 (tgt := 87) (by decide) (fun _ => ?_) (fun q => absurd q (by decide))
                      refine mr_aload_n C0 dX5_roll_87 rfl (i := 0) rfl ?_
                      refine mr_iload C0 dX5_roll_88 rfl ?_
                      refine mr_callVI C0 mdX5_failed dX5_roll_90 clX5_failed ml_X5_70 (Nat.le_of_ble_eq_true rfl) rfl rfl arX5_failed (as := [.int (3 : Int32)]) rfl (Nat.le_of_ble_eq_true rfl) (Nat.le_of_ble_eq_true rfl) (Nat.le_of_ble_eq_true rfl) fit0 (CallV_of mdX5_failed plX5_failed 0 (Nat.le_of_ble_eq_true rfl) rfl ?_) (fun _ _ h => h)
                      intro zp8 zl8 ze8 zs8 zm8 zargs8 zbelow8 zmeth8 zc8 zD8 zad8 zac8 C8 hr8 hk8
                      refine mr_aload_n C8 dX5_failed_0 rfl (i := 0) rfl ?_
                      refine mr_iload_n C8 dX5_failed_1 rfl (i := 1) rfl ?_
                      refine mr_putI C8 dX5_failed_2 fl_X5_52 (Nat.le_of_ble_eq_true rfl) rfl rfl rfl rfl ?_
                      refine mr_bipush (v := (-10)) C8 dX5_failed_5 (by decide) ?_
                      refine mr_iload_n C8 dX5_failed_7 rfl (i := 1) rfl ?_
                      refine mr_isub C8 dX5_failed_8 ?_
                      refine mr_topI (y := (-13 : Int32)) (by decide) ?_
                      refine mr_iret C8 hr8 hk8 dX5_failed_9 (qI_mk ?_)
                      refine mr_iret C0 hr0 hk0 dX5_roll_93 (qI_mk ?_)
                      exact h
                    · have h := h.2 c11
                      refine mr_iload_n C6 dX3_spans_11 rfl (i := 2) rfl ?_
                      refine mr_if_lt C6 dX3_spans_12 (tgt := 37) (by decide) (fun q => absurd q (by decide)) (fun _ => ?_)
                      refine mr_iload_n C6 dX3_spans_15 rfl (i := 1) rfl ?_
                      refine mr_aload_n C6 dX3_spans_16 rfl (i := 0) rfl ?_
                      refine mr_getI C6 dX3_spans_17 fl_X3_23 (sh_lt (sh_in g7)) (sh_lay (sh_in g7)) rfl ?_
                      refine mr_icmp_gt C6 dX3_spans_20 (tgt := 37) (by decide) (fun c12 => ?_) (fun c12 => ?_)
                      · have h := h.1 c12
                        refine mr_iconst (v := 0) C6 dX3_spans_37 (by decide) ?_
                        refine mr_zret C6 hr6 hk6 dX3_spans_38 rfl (qI_mk ?_)
                        refine mr_if_ne C0 dX5_roll_64 (tgt := 70) (by decide) (fun q => absurd q (by decide)) (fun _ => ?_)
                        refine mr_iconst (v := 3) C0 dX5_roll_67 (by decide) ?_
                        refine mr_istore (L1 := [some (.ref 0), some (.int x1), some (.int x2), some (.int x3), some (.int x4), some (.ref (26 + 2 * x2.toNatClampNeg)), some (.int (3 : Int32))]) C0 dX5_roll_68 (Nat.le_of_ble_eq_true rfl) rfl ?_
                        refine mr_iload C0 dX5_roll_70 rfl ?_
                        refine mr_if_ne C0 dX5_roll_72 (tgt := 87) (by decide) (fun _ => ?_) (fun q => absurd q (by decide))
                        refine mr_aload_n C0 dX5_roll_87 rfl (i := 0) rfl ?_
                        refine mr_iload C0 dX5_roll_88 rfl ?_
                        refine mr_callVI C0 mdX5_failed dX5_roll_90 clX5_failed ml_X5_70 (Nat.le_of_ble_eq_true rfl) rfl rfl arX5_failed (as := [.int (3 : Int32)]) rfl (Nat.le_of_ble_eq_true rfl) (Nat.le_of_ble_eq_true rfl) (Nat.le_of_ble_eq_true rfl) fit0 (CallV_of mdX5_failed plX5_failed 0 (Nat.le_of_ble_eq_true rfl) rfl ?_) (fun _ _ h => h)
                        intro zp9 zl9 ze9 zs9 zm9 zargs9 zbelow9 zmeth9 zc9 zD9 zad9 zac9 C9 hr9 hk9
                        refine mr_aload_n C9 dX5_failed_0 rfl (i := 0) rfl ?_
                        refine mr_iload_n C9 dX5_failed_1 rfl (i := 1) rfl ?_
                        refine mr_putI C9 dX5_failed_2 fl_X5_52 (Nat.le_of_ble_eq_true rfl) rfl rfl rfl rfl ?_
                        refine mr_bipush (v := (-10)) C9 dX5_failed_5 (by decide) ?_
                        refine mr_iload_n C9 dX5_failed_7 rfl (i := 1) rfl ?_
                        refine mr_isub C9 dX5_failed_8 ?_
                        refine mr_topI (y := (-13 : Int32)) (by decide) ?_
                        refine mr_iret C9 hr9 hk9 dX5_failed_9 (qI_mk ?_)
                        refine mr_iret C0 hr0 hk0 dX5_roll_93 (qI_mk ?_)
                        exact h
                      · have h := h.2 c12
                        refine mr_iload_n C6 dX3_spans_23 rfl (i := 2) rfl ?_
                        refine mr_aload_n C6 dX3_spans_24 rfl (i := 0) rfl ?_
                        refine mr_getI C6 dX3_spans_25 fl_X3_23 (sh_lt (sh_in g7)) (sh_lay (sh_in g7)) rfl ?_
                        refine mr_iload_n C6 dX3_spans_28 rfl (i := 1) rfl ?_
                        refine mr_isub C6 dX3_spans_29 ?_
                        refine mr_icmp_gt C6 dX3_spans_30 (tgt := 37) (by decide) (fun c13 => ?_) (fun c13 => ?_)
                        · have h := h.1 c13
                          refine mr_iconst (v := 0) C6 dX3_spans_37 (by decide) ?_
                          refine mr_zret C6 hr6 hk6 dX3_spans_38 rfl (qI_mk ?_)
                          refine mr_if_ne C0 dX5_roll_64 (tgt := 70) (by decide) (fun q => absurd q (by decide)) (fun _ => ?_)
                          refine mr_iconst (v := 3) C0 dX5_roll_67 (by decide) ?_
                          refine mr_istore (L1 := [some (.ref 0), some (.int x1), some (.int x2), some (.int x3), some (.int x4), some (.ref (26 + 2 * x2.toNatClampNeg)), some (.int (3 : Int32))]) C0 dX5_roll_68 (Nat.le_of_ble_eq_true rfl) rfl ?_
                          refine mr_iload C0 dX5_roll_70 rfl ?_
                          refine mr_if_ne C0 dX5_roll_72 (tgt := 87) (by decide) (fun _ => ?_) (fun q => absurd q (by decide))
                          refine mr_aload_n C0 dX5_roll_87 rfl (i := 0) rfl ?_
                          refine mr_iload C0 dX5_roll_88 rfl ?_
                          refine mr_callVI C0 mdX5_failed dX5_roll_90 clX5_failed ml_X5_70 (Nat.le_of_ble_eq_true rfl) rfl rfl arX5_failed (as := [.int (3 : Int32)]) rfl (Nat.le_of_ble_eq_true rfl) (Nat.le_of_ble_eq_true rfl) (Nat.le_of_ble_eq_true rfl) fit0 (CallV_of mdX5_failed plX5_failed 0 (Nat.le_of_ble_eq_true rfl) rfl ?_) (fun _ _ h => h)
                          intro zp10 zl10 ze10 zs10 zm10 zargs10 zbelow10 zmeth10 zc10 zD10 zad10 zac10 C10 hr10 hk10
                          refine mr_aload_n C10 dX5_failed_0 rfl (i := 0) rfl ?_
                          refine mr_iload_n C10 dX5_failed_1 rfl (i := 1) rfl ?_
                          refine mr_putI C10 dX5_failed_2 fl_X5_52 (Nat.le_of_ble_eq_true rfl) rfl rfl rfl rfl ?_
                          refine mr_bipush (v := (-10)) C10 dX5_failed_5 (by decide) ?_
                          refine mr_iload_n C10 dX5_failed_7 rfl (i := 1) rfl ?_
                          refine mr_isub C10 dX5_failed_8 ?_
                          refine mr_topI (y := (-13 : Int32)) (by decide) ?_
                          refine mr_iret C10 hr10 hk10 dX5_failed_9 (qI_mk ?_)
                          refine mr_iret C0 hr0 hk0 dX5_roll_93 (qI_mk ?_)
                          exact h
                        · have h := h.2 c13
                          refine mr_iconst (v := 1) C6 dX3_spans_33 (by decide) ?_
                          refine mr_goto C6 dX3_spans_34 (tgt := 38) (by decide) ?_
                          refine mr_zret C6 hr6 hk6 dX3_spans_38 rfl (qI_mk ?_)
                          refine mr_if_ne C0 dX5_roll_64 (tgt := 70) (by decide) (fun _ => ?_) (fun q => absurd q (by decide))
                          refine mr_iload C0 dX5_roll_70 rfl ?_
                          refine mr_if_ne C0 dX5_roll_72 (tgt := 87) (by decide) (fun q => absurd q (by decide)) (fun _ => ?_)
                          refine mr_aload_n C0 dX5_roll_75 rfl (i := 0) rfl ?_
                          refine mr_iload_n C0 dX5_roll_76 rfl (i := 1) rfl ?_
                          refine mr_aload C0 dX5_roll_77 rfl ?_
                          refine mr_iload C0 dX5_roll_79 rfl ?_
                          refine mr_callVI C0 mdX5_rollBy dX5_roll_81 clX5_rollBy ml_X5_130 (Nat.le_of_ble_eq_true rfl) rfl rfl arX5_rollBy (as := [.int x1, .ref (26 + 2 * x2.toNatClampNeg), .int x4]) rfl (Nat.le_of_ble_eq_true rfl) (Nat.le_of_ble_eq_true rfl) (Nat.le_of_ble_eq_true rfl) fit0 h (fun r15 S14 h => ?_)
                          refine mr_goto C0 dX5_roll_84 (tgt := 93) (by decide) ?_
                          refine mr_iret C0 hr0 hk0 dX5_roll_93 (qI_mk ?_)
                          exact h
              · have h := h.2 c8
                refine mr_iconst (v := 1) C4 dX3_faultAs_7 (by decide) ?_
                refine mr_iret C4 hr4 hk4 dX3_faultAs_8 (qI_mk ?_)
                refine mr_istore (L1 := [some (.ref 0), some (.int x1), some (.int x2), some (.int x3), some (.int x4), some (.ref (26 + 2 * x2.toNatClampNeg)), some (.int (1 : Int32))]) C0 dX5_roll_49 (Nat.le_of_ble_eq_true rfl) rfl ?_
                refine mr_iload C0 dX5_roll_51 rfl ?_
                refine mr_if_ne C0 dX5_roll_53 (tgt := 70) (by decide) (fun _ => ?_) (fun q => absurd q (by decide))
                refine mr_iload C0 dX5_roll_70 rfl ?_
                refine mr_if_ne C0 dX5_roll_72 (tgt := 87) (by decide) (fun _ => ?_) (fun q => absurd q (by decide))
                refine mr_aload_n C0 dX5_roll_87 rfl (i := 0) rfl ?_
                refine mr_iload C0 dX5_roll_88 rfl ?_
                refine mr_callVI C0 mdX5_failed dX5_roll_90 clX5_failed ml_X5_70 (Nat.le_of_ble_eq_true rfl) rfl rfl arX5_failed (as := [.int (1 : Int32)]) rfl (Nat.le_of_ble_eq_true rfl) (Nat.le_of_ble_eq_true rfl) (Nat.le_of_ble_eq_true rfl) fit0 (CallV_of mdX5_failed plX5_failed 0 (Nat.le_of_ble_eq_true rfl) rfl ?_) (fun _ _ h => h)
                intro zp11 zl11 ze11 zs11 zm11 zargs11 zbelow11 zmeth11 zc11 zD11 zad11 zac11 C11 hr11 hk11
                refine mr_aload_n C11 dX5_failed_0 rfl (i := 0) rfl ?_
                refine mr_iload_n C11 dX5_failed_1 rfl (i := 1) rfl ?_
                refine mr_putI C11 dX5_failed_2 fl_X5_52 (Nat.le_of_ble_eq_true rfl) rfl rfl rfl rfl ?_
                refine mr_bipush (v := (-10)) C11 dX5_failed_5 (by decide) ?_
                refine mr_iload_n C11 dX5_failed_7 rfl (i := 1) rfl ?_
                refine mr_isub C11 dX5_failed_8 ?_
                refine mr_topI (y := (-11 : Int32)) (by decide) ?_
                refine mr_iret C11 hr11 hk11 dX5_failed_9 (qI_mk ?_)
                refine mr_iret C0 hr0 hk0 dX5_roll_93 (qI_mk ?_)
                exact h
set_option maxRecDepth 100000 in
set_option maxHeartbeats 4000000 in
theorem eX5_rollBy (x1 : Int32) {p2 : Nat} (hp2 : isSh p2) (x3 : Int32) (S : St) (Q : Int32 → St → Prop) (h : (vp_in x1 8) ∧ (vp_in x1 8) ∧ V mdX5_rollBy 28 [some (.ref 0), none, some (.ref p2), none, some (.int (S.1 5 x1.toNatClampNeg)), some (.int (S.1 6 x1.toNatClampNeg)), some (.int x3), some (.int (0 : Int32)), none, none] [] S (qI Q)) : CallV mdX5_rollBy [.ref 0, .int x1, .ref p2, .int x3] S (qI Q) := by
  refine CallV_of mdX5_rollBy plX5_rollBy 6 (Nat.le_of_ble_eq_true rfl) rfl ?_
  intro zp0 zl0 ze0 zs0 zm0 zargs0 zbelow0 zmeth0 zc0 zD0 zad0 zac0 C0 hr0 hk0
  refine mr_aload_n C0 dX5_rollBy_0 rfl (i := 0) rfl ?_
  refine mr_getR C0 dX5_rollBy_1 fl_X5_21 (Nat.le_of_ble_eq_true rfl) rfl rfl ?_
  refine mr_getR C0 dX5_rollBy_4 fl_X5_118 (Nat.le_of_ble_eq_true rfl) rfl rfl ?_
  refine mr_iload_n C0 dX5_rollBy_7 rfl (i := 1) rfl ?_
  have g1 := h.1
  have h := h.2
  refine mr_iald C0 dX5_rollBy_8 (Nat.le_of_ble_eq_true rfl) rfl g1 ?_
  refine mr_istore (L1 := [some (.ref 0), some (.int x1), some (.ref p2), some (.int x3), some (.int (S.1 5 x1.toNatClampNeg)), none, none, none, none, none]) C0 dX5_rollBy_9 (Nat.le_of_ble_eq_true rfl) rfl ?_
  refine mr_aload_n C0 dX5_rollBy_11 rfl (i := 0) rfl ?_
  refine mr_getR C0 dX5_rollBy_12 fl_X5_21 (Nat.le_of_ble_eq_true rfl) rfl rfl ?_
  refine mr_getR C0 dX5_rollBy_15 fl_X5_121 (Nat.le_of_ble_eq_true rfl) rfl rfl ?_
  refine mr_iload_n C0 dX5_rollBy_18 rfl (i := 1) rfl ?_
  have g2 := h.1
  have h := h.2
  refine mr_iald C0 dX5_rollBy_19 (Nat.le_of_ble_eq_true rfl) rfl g2 ?_
  refine mr_istore (L1 := [some (.ref 0), some (.int x1), some (.ref p2), some (.int x3), some (.int (S.1 5 x1.toNatClampNeg)), some (.int (S.1 6 x1.toNatClampNeg)), none, none, none, none]) C0 dX5_rollBy_20 (Nat.le_of_ble_eq_true rfl) rfl ?_
  refine mr_iload_n C0 dX5_rollBy_22 rfl (i := 3) rfl ?_
  refine mr_istore (L1 := [some (.ref 0), some (.int x1), some (.ref p2), some (.int x3), some (.int (S.1 5 x1.toNatClampNeg)), some (.int (S.1 6 x1.toNatClampNeg)), some (.int x3), none, none, none]) C0 dX5_rollBy_23 (Nat.le_of_ble_eq_true rfl) rfl ?_
  refine mr_iconst (v := 0) C0 dX5_rollBy_25 (by decide) ?_
  refine mr_istore (L1 := [some (.ref 0), some (.int x1), some (.ref p2), some (.int x3), some (.int (S.1 5 x1.toNatClampNeg)), some (.int (S.1 6 x1.toNatClampNeg)), some (.int x3), some (.int (0 : Int32)), none, none]) C0 dX5_rollBy_26 (Nat.le_of_ble_eq_true rfl) rfl ?_
  refine mr_mask (L1 := [some (.ref 0), none, some (.ref p2), none, some (.int (S.1 5 x1.toNatClampNeg)), some (.int (S.1 6 x1.toNatClampNeg)), some (.int x3), some (.int (0 : Int32)), none, none]) C0 [true, false, true, false, true, true, true, true, false, false] rfl ?_
  exact h zp0 zl0 ze0 zs0 zm0 zargs0 zbelow0 zmeth0 zc0 zD0 zad0 zac0 C0 hr0 hk0
set_option maxRecDepth 100000 in
set_option maxHeartbeats 4000000 in
theorem eX5_rollBy_28 {p2 : Nat} (hp2 : isSh p2) (x4 : Int32) (x5 : Int32) (x6 : Int32) (x7 : Int32) (S : St) (Q : Int32 → St → Prop) (h : (((S.1 1 2) ≤ x7 → Q (x5 - ((S.1 1 2) * (S.1 1 3))) S) ∧ (¬ (S.1 1 2) ≤ x7 → (vp_in x5 30) ∧ ((¬ (S.1 2 x5.toNatClampNeg) = (4 : Int32) → ((¬ (S.1 2 x5.toNatClampNeg) = (1 : Int32) → CallV mdX2_below [.ref 1, .int x5, .int (S.1 2 x5.toNatClampNeg), .int x4, .int (0 : Int32)] S (qI fun r6 S5 => V mdX5_rollBy 28 [some (.ref 0), none, some (.ref p2), none, some (.int x4), some (.int r6), some (.int x6), some (.int (x7 + 1)), none, none] [] S5 (qI Q))) ∧ ((S.1 2 x5.toNatClampNeg) = (1 : Int32) → (((S.1 p2 1) = 0 → Q (-13 : Int32) (sI S 0 6 (3 : Int32))) ∧ (¬ (S.1 p2 1) = 0 → ((x6 < 0 → Q (-13 : Int32) (sI S 0 6 (3 : Int32))) ∧ (¬ x6 < 0 → (((S.1 p2 3) ≤ x6 → Q (-13 : Int32) (sI S 0 6 (3 : Int32))) ∧ (¬ (S.1 p2 3) ≤ x6 → CallV mdX3_at [.ref p2, .int x6] S (qI fun r11 S10 => ((r11 < 0 → Q (-2 : Int32) S10) ∧ (¬ r11 < 0 → ((r11 < (8 : Int32) → CallV mdX2_below [.ref 1, .int x5, .int (S.1 2 x5.toNatClampNeg), .int x4, .int r11] S10 (qI fun r15 S14 => V mdX5_rollBy 28 [some (.ref 0), none, some (.ref p2), none, some (.int x4), some (.int r15), some (.int (x6 + 1)), some (.int (x7 + 1)), none, none] [] S14 (qI Q))) ∧ (¬ r11 < (8 : Int32) → Q (-2 : Int32) S10)))))))))))))) ∧ ((S.1 2 x5.toNatClampNeg) = (4 : Int32) → Q (-9 : Int32) S))))) : V mdX5_rollBy 28 [some (.ref 0), none, some (.ref p2), none, some (.int x4), some (.int x5), some (.int x6), some (.int x7), none, none] [] S (qI Q) := by
  intro zp0 zl0 ze0 zs0 zm0 zargs0 zbelow0 zmeth0 zc0 zD0 zad0 zac0 C0 hr0 hk0
  refine mr_iload C0 dX5_rollBy_28 rfl ?_
  refine mr_aload_n C0 dX5_rollBy_30 rfl (i := 0) rfl ?_
  refine mr_getR C0 dX5_rollBy_31 fl_X5_14 (Nat.le_of_ble_eq_true rfl) rfl rfl ?_
  refine mr_getI C0 dX5_rollBy_34 fl_X5_134 (Nat.le_of_ble_eq_true rfl) rfl rfl ?_
  refine mr_icmp_ge C0 dX5_rollBy_37 (tgt := 134) (by decide) (fun c1 => ?_) (fun c1 => ?_)
  · have h := h.1 c1
    refine mr_iload C0 dX5_rollBy_134 rfl ?_
    refine mr_aload_n C0 dX5_rollBy_136 rfl (i := 0) rfl ?_
    refine mr_getR C0 dX5_rollBy_137 fl_X5_14 (Nat.le_of_ble_eq_true rfl) rfl rfl ?_
    refine mr_callVI C0 mdX2_cells dX5_rollBy_140 clX2_cells ml_X5_83 (Nat.le_of_ble_eq_true rfl) rfl rfl arX2_cells (as := []) rfl (Nat.le_of_ble_eq_true rfl) (Nat.le_of_ble_eq_true rfl) (Nat.le_of_ble_eq_true rfl) fit0 (CallV_of mdX2_cells plX2_cells 0 (Nat.le_of_ble_eq_true rfl) rfl ?_) (fun _ _ h => h)
    intro zp1 zl1 ze1 zs1 zm1 zargs1 zbelow1 zmeth1 zc1 zD1 zad1 zac1 C1 hr1 hk1
    refine mr_aload_n C1 dX2_cells_0 rfl (i := 0) rfl ?_
    refine mr_getI C1 dX2_cells_1 fl_X2_18 (Nat.le_of_ble_eq_true rfl) rfl rfl ?_
    refine mr_aload_n C1 dX2_cells_4 rfl (i := 0) rfl ?_
    refine mr_getI C1 dX2_cells_5 fl_X2_22 (Nat.le_of_ble_eq_true rfl) rfl rfl ?_
    refine mr_imul C1 dX2_cells_8 ?_
    refine mr_iret C1 hr1 hk1 dX2_cells_9 (qI_mk ?_)
    refine mr_isub C0 dX5_rollBy_143 ?_
    refine mr_iret C0 hr0 hk0 dX5_rollBy_144 (qI_mk ?_)
    exact h
  · have h := h.2 c1
    refine mr_aload_n C0 dX5_rollBy_40 rfl (i := 0) rfl ?_
    refine mr_getR C0 dX5_rollBy_41 fl_X5_14 (Nat.le_of_ble_eq_true rfl) rfl rfl ?_
    refine mr_getR C0 dX5_rollBy_44 fl_X5_90 (Nat.le_of_ble_eq_true rfl) rfl rfl ?_
    refine mr_iload C0 dX5_rollBy_47 rfl ?_
    have g2 := h.1
    have h := h.2
    refine mr_iald C0 dX5_rollBy_49 (Nat.le_of_ble_eq_true rfl) rfl g2 ?_
    refine mr_istore (L1 := [some (.ref 0), none, some (.ref p2), none, some (.int x4), some (.int x5), some (.int x6), some (.int x7), some (.int (S.1 2 x5.toNatClampNeg)), none]) C0 dX5_rollBy_50 (Nat.le_of_ble_eq_true rfl) rfl ?_
    refine mr_iload C0 dX5_rollBy_52 rfl ?_
    refine mr_iconst (v := 4) C0 dX5_rollBy_54 (by decide) ?_
    refine mr_icmp_ne C0 dX5_rollBy_55 (tgt := 61) (by decide) (fun c3 => ?_) (fun c3 => ?_)
    · have h := h.1 c3
      refine mr_iconst (v := 0) C0 dX5_rollBy_61 (by decide) ?_
      refine mr_istore (L1 := [some (.ref 0), none, some (.ref p2), none, some (.int x4), some (.int x5), some (.int x6), some (.int x7), some (.int (S.1 2 x5.toNatClampNeg)), some (.int (0 : Int32))]) C0 dX5_rollBy_62 (Nat.le_of_ble_eq_true rfl) rfl ?_
      refine mr_iload C0 dX5_rollBy_64 rfl ?_
      refine mr_iconst (v := 1) C0 dX5_rollBy_66 (by decide) ?_
      refine mr_icmp_ne C0 dX5_rollBy_67 (tgt := 96) (by decide) (fun c4 => ?_) (fun c4 => ?_)
      · have h := h.1 c4
        refine mr_iload C0 dX5_rollBy_96 rfl ?_
        refine mr_if_lt C0 dX5_rollBy_98 (tgt := 108) (by decide) (fun q => absurd q (by decide)) (fun _ => ?_)
        refine mr_iload C0 dX5_rollBy_101 rfl ?_
        refine mr_bipush (v := 8) C0 dX5_rollBy_103 (by decide) ?_
        refine mr_icmp_lt C0 dX5_rollBy_105 (tgt := 111) (by decide) (fun _ => ?_) (fun q => absurd q (by decide))
        refine mr_aload_n C0 dX5_rollBy_111 rfl (i := 0) rfl ?_
        refine mr_getR C0 dX5_rollBy_112 fl_X5_14 (Nat.le_of_ble_eq_true rfl) rfl rfl ?_
        refine mr_iload C0 dX5_rollBy_115 rfl ?_
        refine mr_iload C0 dX5_rollBy_117 rfl ?_
        refine mr_iload C0 dX5_rollBy_119 rfl ?_
        refine mr_iload C0 dX5_rollBy_121 rfl ?_
        refine mr_callVI C0 mdX2_below dX5_rollBy_123 clX2_below ml_X5_141 (Nat.le_of_ble_eq_true rfl) rfl rfl arX2_below (as := [.int x5, .int (S.1 2 x5.toNatClampNeg), .int x4, .int (0 : Int32)]) rfl (Nat.le_of_ble_eq_true rfl) (Nat.le_of_ble_eq_true rfl) (Nat.le_of_ble_eq_true rfl) fit0 h (fun r6 S5 h => ?_)
        refine mr_istore (L1 := [some (.ref 0), none, some (.ref p2), none, some (.int x4), some (.int r6), some (.int x6), some (.int x7), some (.int (S.1 2 x5.toNatClampNeg)), some (.int (0 : Int32))]) C0 dX5_rollBy_126 (Nat.le_of_ble_eq_true rfl) rfl ?_
        refine mr_iinc (v := (x7 + 1)) (L1 := [some (.ref 0), none, some (.ref p2), none, some (.int x4), some (.int r6), some (.int x6), some (.int (x7 + 1)), some (.int (S.1 2 x5.toNatClampNeg)), some (.int (0 : Int32))]) C0 dX5_rollBy_128 rfl rfl (Nat.le_of_ble_eq_true rfl) rfl ?_
        refine mr_goto C0 dX5_rollBy_131 (tgt := 28) (by decide) ?_
        refine mr_mask (L1 := [some (.ref 0), none, some (.ref p2), none, some (.int x4), some (.int r6), some (.int x6), some (.int (x7 + 1)), none, none]) C0 [true, false, true, false, true, true, true, true, false, false] rfl ?_
        exact h zp0 zl0 ze0 zs0 zm0 zargs0 zbelow0 zmeth0 zc0 zD0 zad0 zac0 C0 hr0 hk0
      · have h := h.2 c4
        refine mr_aload_n C0 dX5_rollBy_70 rfl (i := 2) rfl ?_
        refine mr_iload C0 dX5_rollBy_71 rfl ?_
        refine mr_callVI C0 mdX3_has dX5_rollBy_73 clX3_has ml_X5_137 (sh_lt hp2) (sh_lay hp2) rfl arX3_has (as := [.int x6]) rfl (Nat.le_of_ble_eq_true rfl) (Nat.le_of_ble_eq_true rfl) (Nat.le_of_ble_eq_true rfl) fit0 (CallV_of mdX3_has plX3_has 0 (Nat.le_of_ble_eq_true rfl) rfl ?_) (fun _ _ h => h)
        intro zp2 zl2 ze2 zs2 zm2 zargs2 zbelow2 zmeth2 zc2 zD2 zad2 zac2 C2 hr2 hk2
        refine mr_aload_n C2 dX3_has_0 rfl (i := 0) rfl ?_
        refine mr_getI C2 dX3_has_1 fl_X3_15 (sh_lt hp2) (sh_lay hp2) rfl ?_
        refine mr_if_eq C2 dX3_has_4 (tgt := 23) (by decide) (fun c7 => ?_) (fun c7 => ?_)
        · have h := h.1 c7
          refine mr_iconst (v := 0) C2 dX3_has_23 (by decide) ?_
          refine mr_zret C2 hr2 hk2 dX3_has_24 rfl (qI_mk ?_)
          refine mr_if_ne C0 dX5_rollBy_76 (tgt := 85) (by decide) (fun q => absurd q (by decide)) (fun _ => ?_)
          refine mr_aload_n C0 dX5_rollBy_79 rfl (i := 0) rfl ?_
          refine mr_iconst (v := 3) C0 dX5_rollBy_80 (by decide) ?_
          refine mr_callVI C0 mdX5_failed dX5_rollBy_81 clX5_failed ml_X5_70 (Nat.le_of_ble_eq_true rfl) rfl rfl arX5_failed (as := [.int (3 : Int32)]) rfl (Nat.le_of_ble_eq_true rfl) (Nat.le_of_ble_eq_true rfl) (Nat.le_of_ble_eq_true rfl) fit0 (CallV_of mdX5_failed plX5_failed 0 (Nat.le_of_ble_eq_true rfl) rfl ?_) (fun _ _ h => h)
          intro zp3 zl3 ze3 zs3 zm3 zargs3 zbelow3 zmeth3 zc3 zD3 zad3 zac3 C3 hr3 hk3
          refine mr_aload_n C3 dX5_failed_0 rfl (i := 0) rfl ?_
          refine mr_iload_n C3 dX5_failed_1 rfl (i := 1) rfl ?_
          refine mr_putI C3 dX5_failed_2 fl_X5_52 (Nat.le_of_ble_eq_true rfl) rfl rfl rfl rfl ?_
          refine mr_bipush (v := (-10)) C3 dX5_failed_5 (by decide) ?_
          refine mr_iload_n C3 dX5_failed_7 rfl (i := 1) rfl ?_
          refine mr_isub C3 dX5_failed_8 ?_
          refine mr_topI (y := (-13 : Int32)) (by decide) ?_
          refine mr_iret C3 hr3 hk3 dX5_failed_9 (qI_mk ?_)
          refine mr_iret C0 hr0 hk0 dX5_rollBy_84 (qI_mk ?_)
          exact h
        · have h := h.2 c7
          refine mr_iload_n C2 dX3_has_7 rfl (i := 1) rfl ?_
          refine mr_if_lt C2 dX3_has_8 (tgt := 23) (by decide) (fun c8 => ?_) (fun c8 => ?_)
          · have h := h.1 c8
            refine mr_iconst (v := 0) C2 dX3_has_23 (by decide) ?_
            refine mr_zret C2 hr2 hk2 dX3_has_24 rfl (qI_mk ?_)
            refine mr_if_ne C0 dX5_rollBy_76 (tgt := 85) (by decide) (fun q => absurd q (by decide)) (fun _ => ?_)
            refine mr_aload_n C0 dX5_rollBy_79 rfl (i := 0) rfl ?_
            refine mr_iconst (v := 3) C0 dX5_rollBy_80 (by decide) ?_
            refine mr_callVI C0 mdX5_failed dX5_rollBy_81 clX5_failed ml_X5_70 (Nat.le_of_ble_eq_true rfl) rfl rfl arX5_failed (as := [.int (3 : Int32)]) rfl (Nat.le_of_ble_eq_true rfl) (Nat.le_of_ble_eq_true rfl) (Nat.le_of_ble_eq_true rfl) fit0 (CallV_of mdX5_failed plX5_failed 0 (Nat.le_of_ble_eq_true rfl) rfl ?_) (fun _ _ h => h)
            intro zp4 zl4 ze4 zs4 zm4 zargs4 zbelow4 zmeth4 zc4 zD4 zad4 zac4 C4 hr4 hk4
            refine mr_aload_n C4 dX5_failed_0 rfl (i := 0) rfl ?_
            refine mr_iload_n C4 dX5_failed_1 rfl (i := 1) rfl ?_
            refine mr_putI C4 dX5_failed_2 fl_X5_52 (Nat.le_of_ble_eq_true rfl) rfl rfl rfl rfl ?_
            refine mr_bipush (v := (-10)) C4 dX5_failed_5 (by decide) ?_
            refine mr_iload_n C4 dX5_failed_7 rfl (i := 1) rfl ?_
            refine mr_isub C4 dX5_failed_8 ?_
            refine mr_topI (y := (-13 : Int32)) (by decide) ?_
            refine mr_iret C4 hr4 hk4 dX5_failed_9 (qI_mk ?_)
            refine mr_iret C0 hr0 hk0 dX5_rollBy_84 (qI_mk ?_)
            exact h
          · have h := h.2 c8
            refine mr_iload_n C2 dX3_has_11 rfl (i := 1) rfl ?_
            refine mr_aload_n C2 dX3_has_12 rfl (i := 0) rfl ?_
            refine mr_getI C2 dX3_has_13 fl_X3_23 (sh_lt hp2) (sh_lay hp2) rfl ?_
            refine mr_icmp_ge C2 dX3_has_16 (tgt := 23) (by decide) (fun c9 => ?_) (fun c9 => ?_)
            · have h := h.1 c9
              refine mr_iconst (v := 0) C2 dX3_has_23 (by decide) ?_
              refine mr_zret C2 hr2 hk2 dX3_has_24 rfl (qI_mk ?_)
              refine mr_if_ne C0 dX5_rollBy_76 (tgt := 85) (by decide) (fun q => absurd q (by decide)) (fun _ => ?_)
              refine mr_aload_n C0 dX5_rollBy_79 rfl (i := 0) rfl ?_
              refine mr_iconst (v := 3) C0 dX5_rollBy_80 (by decide) ?_
              refine mr_callVI C0 mdX5_failed dX5_rollBy_81 clX5_failed ml_X5_70 (Nat.le_of_ble_eq_true rfl) rfl rfl arX5_failed (as := [.int (3 : Int32)]) rfl (Nat.le_of_ble_eq_true rfl) (Nat.le_of_ble_eq_true rfl) (Nat.le_of_ble_eq_true rfl) fit0 (CallV_of mdX5_failed plX5_failed 0 (Nat.le_of_ble_eq_true rfl) rfl ?_) (fun _ _ h => h)
              intro zp5 zl5 ze5 zs5 zm5 zargs5 zbelow5 zmeth5 zc5 zD5 zad5 zac5 C5 hr5 hk5
              refine mr_aload_n C5 dX5_failed_0 rfl (i := 0) rfl ?_
              refine mr_iload_n C5 dX5_failed_1 rfl (i := 1) rfl ?_
              refine mr_putI C5 dX5_failed_2 fl_X5_52 (Nat.le_of_ble_eq_true rfl) rfl rfl rfl rfl ?_
              refine mr_bipush (v := (-10)) C5 dX5_failed_5 (by decide) ?_
              refine mr_iload_n C5 dX5_failed_7 rfl (i := 1) rfl ?_
              refine mr_isub C5 dX5_failed_8 ?_
              refine mr_topI (y := (-13 : Int32)) (by decide) ?_
              refine mr_iret C5 hr5 hk5 dX5_failed_9 (qI_mk ?_)
              refine mr_iret C0 hr0 hk0 dX5_rollBy_84 (qI_mk ?_)
              exact h
            · have h := h.2 c9
              refine mr_iconst (v := 1) C2 dX3_has_19 (by decide) ?_
              refine mr_goto C2 dX3_has_20 (tgt := 24) (by decide) ?_
              refine mr_zret C2 hr2 hk2 dX3_has_24 rfl (qI_mk ?_)
              refine mr_if_ne C0 dX5_rollBy_76 (tgt := 85) (by decide) (fun _ => ?_) (fun q => absurd q (by decide))
              refine mr_aload_n C0 dX5_rollBy_85 rfl (i := 2) rfl ?_
              refine mr_iload C0 dX5_rollBy_86 rfl ?_
              refine mr_callVI C0 mdX3_at dX5_rollBy_88 clX3_at ml_X5_138 (sh_lt hp2) (sh_lay hp2) rfl arX3_at (as := [.int x6]) rfl (Nat.le_of_ble_eq_true rfl) (Nat.le_of_ble_eq_true rfl) (Nat.le_of_ble_eq_true rfl) fit0 h (fun r11 S10 h => ?_)
              refine mr_istore (L1 := [some (.ref 0), none, some (.ref p2), none, some (.int x4), some (.int x5), some (.int x6), some (.int x7), some (.int (S.1 2 x5.toNatClampNeg)), some (.int r11)]) C0 dX5_rollBy_91 (Nat.le_of_ble_eq_true rfl) rfl ?_
              refine mr_iinc (v := (x6 + 1)) (L1 := [some (.ref 0), none, some (.ref p2), none, some (.int x4), some (.int x5), some (.int (x6 + 1)), some (.int x7), some (.int (S.1 2 x5.toNatClampNeg)), some (.int r11)]) C0 dX5_rollBy_93 rfl rfl (Nat.le_of_ble_eq_true rfl) rfl ?_
              refine mr_iload C0 dX5_rollBy_96 rfl ?_
              refine mr_if_lt C0 dX5_rollBy_98 (tgt := 108) (by decide) (fun c12 => ?_) (fun c12 => ?_)
              · have h := h.1 c12
                refine mr_bipush (v := (-2)) C0 dX5_rollBy_108 (by decide) ?_
                refine mr_iret C0 hr0 hk0 dX5_rollBy_110 (qI_mk ?_)
                exact h
              · have h := h.2 c12
                refine mr_iload C0 dX5_rollBy_101 rfl ?_
                refine mr_bipush (v := 8) C0 dX5_rollBy_103 (by decide) ?_
                refine mr_icmp_lt C0 dX5_rollBy_105 (tgt := 111) (by decide) (fun c13 => ?_) (fun c13 => ?_)
                · have h := h.1 c13
                  refine mr_aload_n C0 dX5_rollBy_111 rfl (i := 0) rfl ?_
                  refine mr_getR C0 dX5_rollBy_112 fl_X5_14 (Nat.le_of_ble_eq_true rfl) rfl rfl ?_
                  refine mr_iload C0 dX5_rollBy_115 rfl ?_
                  refine mr_iload C0 dX5_rollBy_117 rfl ?_
                  refine mr_iload C0 dX5_rollBy_119 rfl ?_
                  refine mr_iload C0 dX5_rollBy_121 rfl ?_
                  refine mr_callVI C0 mdX2_below dX5_rollBy_123 clX2_below ml_X5_141 (Nat.le_of_ble_eq_true rfl) rfl rfl arX2_below (as := [.int x5, .int (S.1 2 x5.toNatClampNeg), .int x4, .int r11]) rfl (Nat.le_of_ble_eq_true rfl) (Nat.le_of_ble_eq_true rfl) (Nat.le_of_ble_eq_true rfl) fit0 h (fun r15 S14 h => ?_)
                  refine mr_istore (L1 := [some (.ref 0), none, some (.ref p2), none, some (.int x4), some (.int r15), some (.int (x6 + 1)), some (.int x7), some (.int (S.1 2 x5.toNatClampNeg)), some (.int r11)]) C0 dX5_rollBy_126 (Nat.le_of_ble_eq_true rfl) rfl ?_
                  refine mr_iinc (v := (x7 + 1)) (L1 := [some (.ref 0), none, some (.ref p2), none, some (.int x4), some (.int r15), some (.int (x6 + 1)), some (.int (x7 + 1)), some (.int (S.1 2 x5.toNatClampNeg)), some (.int r11)]) C0 dX5_rollBy_128 rfl rfl (Nat.le_of_ble_eq_true rfl) rfl ?_
                  refine mr_goto C0 dX5_rollBy_131 (tgt := 28) (by decide) ?_
                  refine mr_mask (L1 := [some (.ref 0), none, some (.ref p2), none, some (.int x4), some (.int r15), some (.int (x6 + 1)), some (.int (x7 + 1)), none, none]) C0 [true, false, true, false, true, true, true, true, false, false] rfl ?_
                  exact h zp0 zl0 ze0 zs0 zm0 zargs0 zbelow0 zmeth0 zc0 zD0 zad0 zac0 C0 hr0 hk0
                · have h := h.2 c13
                  refine mr_bipush (v := (-2)) C0 dX5_rollBy_108 (by decide) ?_
                  refine mr_iret C0 hr0 hk0 dX5_rollBy_110 (qI_mk ?_)
                  exact h
    · have h := h.2 c3
      refine mr_bipush (v := (-9)) C0 dX5_rollBy_58 (by decide) ?_
      refine mr_iret C0 hr0 hk0 dX5_rollBy_60 (qI_mk ?_)
      exact h
set_option maxRecDepth 100000 in
set_option maxHeartbeats 4000000 in
theorem eX5_chance (x1 : Int32) (x2 : Int32) (x3 : Int32) (S : St) (Q : Int64 → St → Prop) (h : ((x1 < 0 → Q (-9223372036854775808 : Int64) S) ∧ (¬ x1 < 0 → (((S.1 4 2) ≤ x1 → Q (-9223372036854775808 : Int64) S) ∧ (¬ (S.1 4 2) ≤ x1 → ((x2 = (-1 : Int32) → ((x3 < 0 → Q (-9223372036854775808 : Int64) S) ∧ (¬ x3 < 0 → ((x3 ≤ (1 : Int32) → (vp_in x1 8) ∧ (vp_in x1 8) ∧ (vp_in (S.1 5 x1.toNatClampNeg) 3) ∧ CallV mdJ7_fill_53178 [.ref (9 + (S.1 5 x1.toNatClampNeg).toNatClampNeg), .int (0 : Int32)] S (qV fun S9 => (vp_in (S.1 5 x1.toNatClampNeg) 3) ∧ (vp_in (S.1 6 x1.toNatClampNeg) 36) ∧ CallV mdX1_runDown [.ref 7, .int (S.1 5 x1.toNatClampNeg), .int (1 : Int32)] (sI S9 (9 + (S.1 5 x1.toNatClampNeg).toNatClampNeg) ((S.1 6 x1.toNatClampNeg).toNatClampNeg) (32768 : Int32)) (qV fun S12 => ((¬ x2 = (-1 : Int32) → (vp_in x1 8) ∧ CallV mdX1_arrived [.ref 7, .int (S12.1 5 x1.toNatClampNeg), .int x2] S12 (qI fun r16 S15 => CallV mdX5_leastTerms [.int r16, .int x3] S15 (qI fun r18 S17 => Q r18.toInt64 S17))) ∧ (x2 = (-1 : Int32) → (vp_in x1 8) ∧ CallV mdX1_stuck [.ref 7, .int (S12.1 5 x1.toNatClampNeg)] S12 (qI fun r21 S20 => CallV mdX5_leastTerms [.int r21, .int x3] S20 (qI fun r23 S22 => Q r23.toInt64 S22))))))) ∧ (¬ x3 ≤ (1 : Int32) → Q (-9223372036854775808 : Int64) S))))) ∧ (¬ x2 = (-1 : Int32) → ((x2 < 0 → Q (-9223372036854775808 : Int64) S) ∧ (¬ x2 < 0 → (((S.1 1 3) ≤ x2 → Q (-9223372036854775808 : Int64) S) ∧ (¬ (S.1 1 3) ≤ x2 → ((x3 < 0 → Q (-9223372036854775808 : Int64) S) ∧ (¬ x3 < 0 → ((x3 ≤ (1 : Int32) → (vp_in x1 8) ∧ (vp_in x1 8) ∧ (vp_in (S.1 5 x1.toNatClampNeg) 3) ∧ CallV mdJ7_fill_53178 [.ref (9 + (S.1 5 x1.toNatClampNeg).toNatClampNeg), .int (0 : Int32)] S (qV fun S31 => (vp_in (S.1 5 x1.toNatClampNeg) 3) ∧ (vp_in (S.1 6 x1.toNatClampNeg) 36) ∧ CallV mdX1_runDown [.ref 7, .int (S.1 5 x1.toNatClampNeg), .int (1 : Int32)] (sI S31 (9 + (S.1 5 x1.toNatClampNeg).toNatClampNeg) ((S.1 6 x1.toNatClampNeg).toNatClampNeg) (32768 : Int32)) (qV fun S34 => ((¬ x2 = (-1 : Int32) → (vp_in x1 8) ∧ CallV mdX1_arrived [.ref 7, .int (S34.1 5 x1.toNatClampNeg), .int x2] S34 (qI fun r38 S37 => CallV mdX5_leastTerms [.int r38, .int x3] S37 (qI fun r40 S39 => Q r40.toInt64 S39))) ∧ (x2 = (-1 : Int32) → (vp_in x1 8) ∧ CallV mdX1_stuck [.ref 7, .int (S34.1 5 x1.toNatClampNeg)] S34 (qI fun r43 S42 => CallV mdX5_leastTerms [.int r43, .int x3] S42 (qI fun r45 S44 => Q r45.toInt64 S44))))))) ∧ (¬ x3 ≤ (1 : Int32) → Q (-9223372036854775808 : Int64) S))))))))))))))) : CallV mdX5_chance [.ref 0, .int x1, .int x2, .int x3] S (qJ Q) := by
  refine CallV_of mdX5_chance plX5_chance 1 (Nat.le_of_ble_eq_true rfl) rfl ?_
  intro zp0 zl0 ze0 zs0 zm0 zargs0 zbelow0 zmeth0 zc0 zD0 zad0 zac0 C0 hr0 hk0
  refine mr_aload_n C0 dX5_chance_0 rfl (i := 0) rfl ?_
  refine mr_getR C0 dX5_chance_1 fl_X5_21 (Nat.le_of_ble_eq_true rfl) rfl rfl ?_
  refine mr_iload_n C0 dX5_chance_4 rfl (i := 1) rfl ?_
  refine mr_callVI C0 mdX4_has dX5_chance_5 clX4_has ml_X5_115 (Nat.le_of_ble_eq_true rfl) rfl rfl arX4_has (as := [.int x1]) rfl (Nat.le_of_ble_eq_true rfl) (Nat.le_of_ble_eq_true rfl) (Nat.le_of_ble_eq_true rfl) fit0 (CallV_of mdX4_has plX4_has 0 (Nat.le_of_ble_eq_true rfl) rfl ?_) (fun _ _ h => h)
  intro zp1 zl1 ze1 zs1 zm1 zargs1 zbelow1 zmeth1 zc1 zD1 zad1 zac1 C1 hr1 hk1
  refine mr_iload_n C1 dX4_has_0 rfl (i := 1) rfl ?_
  refine mr_if_lt C1 dX4_has_1 (tgt := 16) (by decide) (fun c1 => ?_) (fun c1 => ?_)
  · have h := h.1 c1
    refine mr_iconst (v := 0) C1 dX4_has_16 (by decide) ?_
    refine mr_zret C1 hr1 hk1 dX4_has_17 rfl (qI_mk ?_)
    refine mr_if_eq C0 dX5_chance_8 (tgt := 27) (by decide) (fun _ => ?_) (fun q => absurd q (by decide))
    refine mr_ldc2 C0 dX5_chance_27 cn_X5_145 ?_
    refine mr_lret C0 hr0 hk0 dX5_chance_30 (qJ_mk ?_)
    exact h
  · have h := h.2 c1
    refine mr_iload_n C1 dX4_has_4 rfl (i := 1) rfl ?_
    refine mr_aload_n C1 dX4_has_5 rfl (i := 0) rfl ?_
    refine mr_getI C1 dX4_has_6 fl_X4_18 (Nat.le_of_ble_eq_true rfl) rfl rfl ?_
    refine mr_icmp_ge C1 dX4_has_9 (tgt := 16) (by decide) (fun c2 => ?_) (fun c2 => ?_)
    · have h := h.1 c2
      refine mr_iconst (v := 0) C1 dX4_has_16 (by decide) ?_
      refine mr_zret C1 hr1 hk1 dX4_has_17 rfl (qI_mk ?_)
      refine mr_if_eq C0 dX5_chance_8 (tgt := 27) (by decide) (fun _ => ?_) (fun q => absurd q (by decide))
      refine mr_ldc2 C0 dX5_chance_27 cn_X5_145 ?_
      refine mr_lret C0 hr0 hk0 dX5_chance_30 (qJ_mk ?_)
      exact h
    · have h := h.2 c2
      refine mr_iconst (v := 1) C1 dX4_has_12 (by decide) ?_
      refine mr_goto C1 dX4_has_13 (tgt := 17) (by decide) ?_
      refine mr_zret C1 hr1 hk1 dX4_has_17 rfl (qI_mk ?_)
      refine mr_if_eq C0 dX5_chance_8 (tgt := 27) (by decide) (fun q => absurd q (by decide)) (fun _ => ?_)
      refine mr_iload_n C0 dX5_chance_11 rfl (i := 2) rfl ?_
      refine mr_iconst (v := (-1)) C0 dX5_chance_12 (by decide) ?_
      refine mr_icmp_eq C0 dX5_chance_13 (tgt := 31) (by decide) (fun c3 => ?_) (fun c3 => ?_)
      · have h := h.1 c3
        refine mr_iload_n C0 dX5_chance_31 rfl (i := 3) rfl ?_
        refine mr_if_lt C0 dX5_chance_32 (tgt := 40) (by decide) (fun c4 => ?_) (fun c4 => ?_)
        · have h := h.1 c4
          refine mr_ldc2 C0 dX5_chance_40 cn_X5_145 ?_
          refine mr_lret C0 hr0 hk0 dX5_chance_43 (qJ_mk ?_)
          exact h
        · have h := h.2 c4
          refine mr_iload_n C0 dX5_chance_35 rfl (i := 3) rfl ?_
          refine mr_iconst (v := 1) C0 dX5_chance_36 (by decide) ?_
          refine mr_icmp_le C0 dX5_chance_37 (tgt := 44) (by decide) (fun c5 => ?_) (fun c5 => ?_)
          · have h := h.1 c5
            refine mr_aload_n C0 dX5_chance_44 rfl (i := 0) rfl ?_
            refine mr_getR C0 dX5_chance_45 fl_X5_30 (Nat.le_of_ble_eq_true rfl) rfl rfl ?_
            refine mr_aload_n C0 dX5_chance_48 rfl (i := 0) rfl ?_
            refine mr_getR C0 dX5_chance_49 fl_X5_21 (Nat.le_of_ble_eq_true rfl) rfl rfl ?_
            refine mr_getR C0 dX5_chance_52 fl_X5_118 (Nat.le_of_ble_eq_true rfl) rfl rfl ?_
            refine mr_iload_n C0 dX5_chance_55 rfl (i := 1) rfl ?_
            have g6 := h.1
            have h := h.2
            refine mr_iald C0 dX5_chance_56 (Nat.le_of_ble_eq_true rfl) rfl g6 ?_
            refine mr_aload_n C0 dX5_chance_57 rfl (i := 0) rfl ?_
            refine mr_getR C0 dX5_chance_58 fl_X5_21 (Nat.le_of_ble_eq_true rfl) rfl rfl ?_
            refine mr_getR C0 dX5_chance_61 fl_X5_121 (Nat.le_of_ble_eq_true rfl) rfl rfl ?_
            refine mr_iload_n C0 dX5_chance_64 rfl (i := 1) rfl ?_
            have g7 := h.1
            have h := h.2
            refine mr_iald C0 dX5_chance_65 (Nat.le_of_ble_eq_true rfl) rfl g7 ?_
            refine mr_callVV C0 mdX1_drop dX5_chance_66 clX1_drop ml_X5_147 (Nat.le_of_ble_eq_true rfl) rfl rfl arX1_drop (as := [.int (S.1 5 x1.toNatClampNeg), .int (S.1 6 x1.toNatClampNeg)]) rfl (Nat.le_of_ble_eq_true rfl) (Nat.le_of_ble_eq_true rfl) (Nat.le_of_ble_eq_true rfl) fit0 (CallV_of mdX1_drop plX1_drop 0 (Nat.le_of_ble_eq_true rfl) rfl ?_) (fun _ h => h)
            intro zp2 zl2 ze2 zs2 zm2 zargs2 zbelow2 zmeth2 zc2 zD2 zad2 zac2 C2 hr2 hk2
            refine mr_aload_n C2 dX1_drop_0 rfl (i := 0) rfl ?_
            refine mr_getR C2 dX1_drop_1 fl_X1_11 (Nat.le_of_ble_eq_true rfl) rfl rfl ?_
            refine mr_iload_n C2 dX1_drop_4 rfl (i := 1) rfl ?_
            have g8 := h.1
            have h := h.2
            refine mr_aald (d := 1) C2 dX1_drop_5 (Nat.le_of_ble_eq_true rfl) rfl g8 (pw_el 9 g8) ?_
            refine mr_iconst (v := 0) C2 dX1_drop_6 (by decide) ?_
            refine mr_callSV C2 mdJ7_fill_53178 dX1_drop_7 clJ7_fill_53178 ml_X1_37 arJ7_fill_53178 (as := [.ref (9 + (S.1 5 x1.toNatClampNeg).toNatClampNeg), .int (0 : Int32)]) rfl (Nat.le_of_ble_eq_true rfl) (Nat.le_of_ble_eq_true rfl) (Nat.le_of_ble_eq_true rfl) fit0 h (fun S9 h => ?_)
            refine mr_aload_n C2 dX1_drop_10 rfl (i := 0) rfl ?_
            refine mr_getR C2 dX1_drop_11 fl_X1_11 (Nat.le_of_ble_eq_true rfl) rfl rfl ?_
            refine mr_iload_n C2 dX1_drop_14 rfl (i := 1) rfl ?_
            have g10 := h.1
            have h := h.2
            refine mr_aald (d := 1) C2 dX1_drop_15 (Nat.le_of_ble_eq_true rfl) rfl g10 (pw_el 9 g10) ?_
            refine mr_iload_n C2 dX1_drop_16 rfl (i := 2) rfl ?_
            refine mr_ldc C2 dX1_drop_17 cn_X1_43 ?_
            have g11 := h.1
            have h := h.2
            refine mr_iast C2 dX1_drop_19 (pa_lt (pa_in g10)) (pa_lay (pa_in g10)) g11 ?_
            refine mr_aload_n C2 dX1_drop_20 rfl (i := 0) rfl ?_
            refine mr_iload_n C2 dX1_drop_21 rfl (i := 1) rfl ?_
            refine mr_iconst (v := 1) C2 dX1_drop_22 (by decide) ?_
            refine mr_callVV C2 mdX1_runDown dX1_drop_23 clX1_runDown ml_X1_44 (Nat.le_of_ble_eq_true rfl) rfl rfl arX1_runDown (as := [.int (S.1 5 x1.toNatClampNeg), .int (1 : Int32)]) rfl (Nat.le_of_ble_eq_true rfl) (Nat.le_of_ble_eq_true rfl) (Nat.le_of_ble_eq_true rfl) fit0 h (fun S12 h => ?_)
            refine mr_vret C2 hr2 hk2 dX1_drop_26 (qV_mk ?_)
            refine mr_iload_n C0 dX5_chance_69 rfl (i := 2) rfl ?_
            refine mr_iconst (v := (-1)) C0 dX5_chance_70 (by decide) ?_
            refine mr_icmp_ne C0 dX5_chance_71 (tgt := 93) (by decide) (fun c13 => ?_) (fun c13 => ?_)
            · have h := h.1 c13
              refine mr_aload_n C0 dX5_chance_93 rfl (i := 0) rfl ?_
              refine mr_getR C0 dX5_chance_94 fl_X5_30 (Nat.le_of_ble_eq_true rfl) rfl rfl ?_
              refine mr_aload_n C0 dX5_chance_97 rfl (i := 0) rfl ?_
              refine mr_getR C0 dX5_chance_98 fl_X5_21 (Nat.le_of_ble_eq_true rfl) rfl rfl ?_
              refine mr_getR C0 dX5_chance_101 fl_X5_118 (Nat.le_of_ble_eq_true rfl) rfl rfl ?_
              refine mr_iload_n C0 dX5_chance_104 rfl (i := 1) rfl ?_
              have g14 := h.1
              have h := h.2
              refine mr_iald C0 dX5_chance_105 (Nat.le_of_ble_eq_true rfl) rfl g14 ?_
              refine mr_iload_n C0 dX5_chance_106 rfl (i := 2) rfl ?_
              refine mr_callVI C0 mdX1_arrived dX5_chance_107 clX1_arrived ml_X5_154 (Nat.le_of_ble_eq_true rfl) rfl rfl arX1_arrived (as := [.int (S12.1 5 x1.toNatClampNeg), .int x2]) rfl (Nat.le_of_ble_eq_true rfl) (Nat.le_of_ble_eq_true rfl) (Nat.le_of_ble_eq_true rfl) fit0 h (fun r16 S15 h => ?_)
              refine mr_istore (L1 := [some (.ref 0), some (.int x1), some (.int x2), some (.int x3), some (.int r16)]) C0 dX5_chance_110 (Nat.le_of_ble_eq_true rfl) rfl ?_
              refine mr_iload C0 dX5_chance_112 rfl ?_
              refine mr_iload_n C0 dX5_chance_114 rfl (i := 3) rfl ?_
              refine mr_callSI C0 mdX5_leastTerms dX5_chance_115 clX5_leastTerms ml_X5_157 arX5_leastTerms (as := [.int r16, .int x3]) rfl (Nat.le_of_ble_eq_true rfl) (Nat.le_of_ble_eq_true rfl) (Nat.le_of_ble_eq_true rfl) fit0 h (fun r18 S17 h => ?_)
              refine mr_i2l C0 dX5_chance_118 ?_
              refine mr_lret C0 hr0 hk0 dX5_chance_119 (qJ_mk ?_)
              exact h
            · have h := h.2 c13
              refine mr_aload_n C0 dX5_chance_74 rfl (i := 0) rfl ?_
              refine mr_getR C0 dX5_chance_75 fl_X5_30 (Nat.le_of_ble_eq_true rfl) rfl rfl ?_
              refine mr_aload_n C0 dX5_chance_78 rfl (i := 0) rfl ?_
              refine mr_getR C0 dX5_chance_79 fl_X5_21 (Nat.le_of_ble_eq_true rfl) rfl rfl ?_
              refine mr_getR C0 dX5_chance_82 fl_X5_118 (Nat.le_of_ble_eq_true rfl) rfl rfl ?_
              refine mr_iload_n C0 dX5_chance_85 rfl (i := 1) rfl ?_
              have g19 := h.1
              have h := h.2
              refine mr_iald C0 dX5_chance_86 (Nat.le_of_ble_eq_true rfl) rfl g19 ?_
              refine mr_callVI C0 mdX1_stuck dX5_chance_87 clX1_stuck ml_X5_151 (Nat.le_of_ble_eq_true rfl) rfl rfl arX1_stuck (as := [.int (S12.1 5 x1.toNatClampNeg)]) rfl (Nat.le_of_ble_eq_true rfl) (Nat.le_of_ble_eq_true rfl) (Nat.le_of_ble_eq_true rfl) fit0 h (fun r21 S20 h => ?_)
              refine mr_goto C0 dX5_chance_90 (tgt := 110) (by decide) ?_
              refine mr_istore (L1 := [some (.ref 0), some (.int x1), some (.int x2), some (.int x3), some (.int r21)]) C0 dX5_chance_110 (Nat.le_of_ble_eq_true rfl) rfl ?_
              refine mr_iload C0 dX5_chance_112 rfl ?_
              refine mr_iload_n C0 dX5_chance_114 rfl (i := 3) rfl ?_
              refine mr_callSI C0 mdX5_leastTerms dX5_chance_115 clX5_leastTerms ml_X5_157 arX5_leastTerms (as := [.int r21, .int x3]) rfl (Nat.le_of_ble_eq_true rfl) (Nat.le_of_ble_eq_true rfl) (Nat.le_of_ble_eq_true rfl) fit0 h (fun r23 S22 h => ?_)
              refine mr_i2l C0 dX5_chance_118 ?_
              refine mr_lret C0 hr0 hk0 dX5_chance_119 (qJ_mk ?_)
              exact h
          · have h := h.2 c5
            refine mr_ldc2 C0 dX5_chance_40 cn_X5_145 ?_
            refine mr_lret C0 hr0 hk0 dX5_chance_43 (qJ_mk ?_)
            exact h
      · have h := h.2 c3
        refine mr_aload_n C0 dX5_chance_16 rfl (i := 0) rfl ?_
        refine mr_getR C0 dX5_chance_17 fl_X5_14 (Nat.le_of_ble_eq_true rfl) rfl rfl ?_
        refine mr_iload_n C0 dX5_chance_20 rfl (i := 2) rfl ?_
        refine mr_callVI C0 mdX2_hasColumn dX5_chance_21 clX2_hasColumn ml_X5_94 (Nat.le_of_ble_eq_true rfl) rfl rfl arX2_hasColumn (as := [.int x2]) rfl (Nat.le_of_ble_eq_true rfl) (Nat.le_of_ble_eq_true rfl) (Nat.le_of_ble_eq_true rfl) fit0 (CallV_of mdX2_hasColumn plX2_hasColumn 0 (Nat.le_of_ble_eq_true rfl) rfl ?_) (fun _ _ h => h)
        intro zp3 zl3 ze3 zs3 zm3 zargs3 zbelow3 zmeth3 zc3 zD3 zad3 zac3 C3 hr3 hk3
        refine mr_iload_n C3 dX2_hasColumn_0 rfl (i := 1) rfl ?_
        refine mr_if_lt C3 dX2_hasColumn_1 (tgt := 16) (by decide) (fun c24 => ?_) (fun c24 => ?_)
        · have h := h.1 c24
          refine mr_iconst (v := 0) C3 dX2_hasColumn_16 (by decide) ?_
          refine mr_zret C3 hr3 hk3 dX2_hasColumn_17 rfl (qI_mk ?_)
          refine mr_if_ne C0 dX5_chance_24 (tgt := 31) (by decide) (fun q => absurd q (by decide)) (fun _ => ?_)
          refine mr_ldc2 C0 dX5_chance_27 cn_X5_145 ?_
          refine mr_lret C0 hr0 hk0 dX5_chance_30 (qJ_mk ?_)
          exact h
        · have h := h.2 c24
          refine mr_iload_n C3 dX2_hasColumn_4 rfl (i := 1) rfl ?_
          refine mr_aload_n C3 dX2_hasColumn_5 rfl (i := 0) rfl ?_
          refine mr_getI C3 dX2_hasColumn_6 fl_X2_22 (Nat.le_of_ble_eq_true rfl) rfl rfl ?_
          refine mr_icmp_ge C3 dX2_hasColumn_9 (tgt := 16) (by decide) (fun c25 => ?_) (fun c25 => ?_)
          · have h := h.1 c25
            refine mr_iconst (v := 0) C3 dX2_hasColumn_16 (by decide) ?_
            refine mr_zret C3 hr3 hk3 dX2_hasColumn_17 rfl (qI_mk ?_)
            refine mr_if_ne C0 dX5_chance_24 (tgt := 31) (by decide) (fun q => absurd q (by decide)) (fun _ => ?_)
            refine mr_ldc2 C0 dX5_chance_27 cn_X5_145 ?_
            refine mr_lret C0 hr0 hk0 dX5_chance_30 (qJ_mk ?_)
            exact h
          · have h := h.2 c25
            refine mr_iconst (v := 1) C3 dX2_hasColumn_12 (by decide) ?_
            refine mr_goto C3 dX2_hasColumn_13 (tgt := 17) (by decide) ?_
            refine mr_zret C3 hr3 hk3 dX2_hasColumn_17 rfl (qI_mk ?_)
            refine mr_if_ne C0 dX5_chance_24 (tgt := 31) (by decide) (fun _ => ?_) (fun q => absurd q (by decide))
            refine mr_iload_n C0 dX5_chance_31 rfl (i := 3) rfl ?_
            refine mr_if_lt C0 dX5_chance_32 (tgt := 40) (by decide) (fun c26 => ?_) (fun c26 => ?_)
            · have h := h.1 c26
              refine mr_ldc2 C0 dX5_chance_40 cn_X5_145 ?_
              refine mr_lret C0 hr0 hk0 dX5_chance_43 (qJ_mk ?_)
              exact h
            · have h := h.2 c26
              refine mr_iload_n C0 dX5_chance_35 rfl (i := 3) rfl ?_
              refine mr_iconst (v := 1) C0 dX5_chance_36 (by decide) ?_
              refine mr_icmp_le C0 dX5_chance_37 (tgt := 44) (by decide) (fun c27 => ?_) (fun c27 => ?_)
              · have h := h.1 c27
                refine mr_aload_n C0 dX5_chance_44 rfl (i := 0) rfl ?_
                refine mr_getR C0 dX5_chance_45 fl_X5_30 (Nat.le_of_ble_eq_true rfl) rfl rfl ?_
                refine mr_aload_n C0 dX5_chance_48 rfl (i := 0) rfl ?_
                refine mr_getR C0 dX5_chance_49 fl_X5_21 (Nat.le_of_ble_eq_true rfl) rfl rfl ?_
                refine mr_getR C0 dX5_chance_52 fl_X5_118 (Nat.le_of_ble_eq_true rfl) rfl rfl ?_
                refine mr_iload_n C0 dX5_chance_55 rfl (i := 1) rfl ?_
                have g28 := h.1
                have h := h.2
                refine mr_iald C0 dX5_chance_56 (Nat.le_of_ble_eq_true rfl) rfl g28 ?_
                refine mr_aload_n C0 dX5_chance_57 rfl (i := 0) rfl ?_
                refine mr_getR C0 dX5_chance_58 fl_X5_21 (Nat.le_of_ble_eq_true rfl) rfl rfl ?_
                refine mr_getR C0 dX5_chance_61 fl_X5_121 (Nat.le_of_ble_eq_true rfl) rfl rfl ?_
                refine mr_iload_n C0 dX5_chance_64 rfl (i := 1) rfl ?_
                have g29 := h.1
                have h := h.2
                refine mr_iald C0 dX5_chance_65 (Nat.le_of_ble_eq_true rfl) rfl g29 ?_
                refine mr_callVV C0 mdX1_drop dX5_chance_66 clX1_drop ml_X5_147 (Nat.le_of_ble_eq_true rfl) rfl rfl arX1_drop (as := [.int (S.1 5 x1.toNatClampNeg), .int (S.1 6 x1.toNatClampNeg)]) rfl (Nat.le_of_ble_eq_true rfl) (Nat.le_of_ble_eq_true rfl) (Nat.le_of_ble_eq_true rfl) fit0 (CallV_of mdX1_drop plX1_drop 0 (Nat.le_of_ble_eq_true rfl) rfl ?_) (fun _ h => h)
                intro zp4 zl4 ze4 zs4 zm4 zargs4 zbelow4 zmeth4 zc4 zD4 zad4 zac4 C4 hr4 hk4
                refine mr_aload_n C4 dX1_drop_0 rfl (i := 0) rfl ?_
                refine mr_getR C4 dX1_drop_1 fl_X1_11 (Nat.le_of_ble_eq_true rfl) rfl rfl ?_
                refine mr_iload_n C4 dX1_drop_4 rfl (i := 1) rfl ?_
                have g30 := h.1
                have h := h.2
                refine mr_aald (d := 1) C4 dX1_drop_5 (Nat.le_of_ble_eq_true rfl) rfl g30 (pw_el 9 g30) ?_
                refine mr_iconst (v := 0) C4 dX1_drop_6 (by decide) ?_
                refine mr_callSV C4 mdJ7_fill_53178 dX1_drop_7 clJ7_fill_53178 ml_X1_37 arJ7_fill_53178 (as := [.ref (9 + (S.1 5 x1.toNatClampNeg).toNatClampNeg), .int (0 : Int32)]) rfl (Nat.le_of_ble_eq_true rfl) (Nat.le_of_ble_eq_true rfl) (Nat.le_of_ble_eq_true rfl) fit0 h (fun S31 h => ?_)
                refine mr_aload_n C4 dX1_drop_10 rfl (i := 0) rfl ?_
                refine mr_getR C4 dX1_drop_11 fl_X1_11 (Nat.le_of_ble_eq_true rfl) rfl rfl ?_
                refine mr_iload_n C4 dX1_drop_14 rfl (i := 1) rfl ?_
                have g32 := h.1
                have h := h.2
                refine mr_aald (d := 1) C4 dX1_drop_15 (Nat.le_of_ble_eq_true rfl) rfl g32 (pw_el 9 g32) ?_
                refine mr_iload_n C4 dX1_drop_16 rfl (i := 2) rfl ?_
                refine mr_ldc C4 dX1_drop_17 cn_X1_43 ?_
                have g33 := h.1
                have h := h.2
                refine mr_iast C4 dX1_drop_19 (pa_lt (pa_in g32)) (pa_lay (pa_in g32)) g33 ?_
                refine mr_aload_n C4 dX1_drop_20 rfl (i := 0) rfl ?_
                refine mr_iload_n C4 dX1_drop_21 rfl (i := 1) rfl ?_
                refine mr_iconst (v := 1) C4 dX1_drop_22 (by decide) ?_
                refine mr_callVV C4 mdX1_runDown dX1_drop_23 clX1_runDown ml_X1_44 (Nat.le_of_ble_eq_true rfl) rfl rfl arX1_runDown (as := [.int (S.1 5 x1.toNatClampNeg), .int (1 : Int32)]) rfl (Nat.le_of_ble_eq_true rfl) (Nat.le_of_ble_eq_true rfl) (Nat.le_of_ble_eq_true rfl) fit0 h (fun S34 h => ?_)
                refine mr_vret C4 hr4 hk4 dX1_drop_26 (qV_mk ?_)
                refine mr_iload_n C0 dX5_chance_69 rfl (i := 2) rfl ?_
                refine mr_iconst (v := (-1)) C0 dX5_chance_70 (by decide) ?_
                refine mr_icmp_ne C0 dX5_chance_71 (tgt := 93) (by decide) (fun c35 => ?_) (fun c35 => ?_)
                · have h := h.1 c35
                  refine mr_aload_n C0 dX5_chance_93 rfl (i := 0) rfl ?_
                  refine mr_getR C0 dX5_chance_94 fl_X5_30 (Nat.le_of_ble_eq_true rfl) rfl rfl ?_
                  refine mr_aload_n C0 dX5_chance_97 rfl (i := 0) rfl ?_
                  refine mr_getR C0 dX5_chance_98 fl_X5_21 (Nat.le_of_ble_eq_true rfl) rfl rfl ?_
                  refine mr_getR C0 dX5_chance_101 fl_X5_118 (Nat.le_of_ble_eq_true rfl) rfl rfl ?_
                  refine mr_iload_n C0 dX5_chance_104 rfl (i := 1) rfl ?_
                  have g36 := h.1
                  have h := h.2
                  refine mr_iald C0 dX5_chance_105 (Nat.le_of_ble_eq_true rfl) rfl g36 ?_
                  refine mr_iload_n C0 dX5_chance_106 rfl (i := 2) rfl ?_
                  refine mr_callVI C0 mdX1_arrived dX5_chance_107 clX1_arrived ml_X5_154 (Nat.le_of_ble_eq_true rfl) rfl rfl arX1_arrived (as := [.int (S34.1 5 x1.toNatClampNeg), .int x2]) rfl (Nat.le_of_ble_eq_true rfl) (Nat.le_of_ble_eq_true rfl) (Nat.le_of_ble_eq_true rfl) fit0 h (fun r38 S37 h => ?_)
                  refine mr_istore (L1 := [some (.ref 0), some (.int x1), some (.int x2), some (.int x3), some (.int r38)]) C0 dX5_chance_110 (Nat.le_of_ble_eq_true rfl) rfl ?_
                  refine mr_iload C0 dX5_chance_112 rfl ?_
                  refine mr_iload_n C0 dX5_chance_114 rfl (i := 3) rfl ?_
                  refine mr_callSI C0 mdX5_leastTerms dX5_chance_115 clX5_leastTerms ml_X5_157 arX5_leastTerms (as := [.int r38, .int x3]) rfl (Nat.le_of_ble_eq_true rfl) (Nat.le_of_ble_eq_true rfl) (Nat.le_of_ble_eq_true rfl) fit0 h (fun r40 S39 h => ?_)
                  refine mr_i2l C0 dX5_chance_118 ?_
                  refine mr_lret C0 hr0 hk0 dX5_chance_119 (qJ_mk ?_)
                  exact h
                · have h := h.2 c35
                  refine mr_aload_n C0 dX5_chance_74 rfl (i := 0) rfl ?_
                  refine mr_getR C0 dX5_chance_75 fl_X5_30 (Nat.le_of_ble_eq_true rfl) rfl rfl ?_
                  refine mr_aload_n C0 dX5_chance_78 rfl (i := 0) rfl ?_
                  refine mr_getR C0 dX5_chance_79 fl_X5_21 (Nat.le_of_ble_eq_true rfl) rfl rfl ?_
                  refine mr_getR C0 dX5_chance_82 fl_X5_118 (Nat.le_of_ble_eq_true rfl) rfl rfl ?_
                  refine mr_iload_n C0 dX5_chance_85 rfl (i := 1) rfl ?_
                  have g41 := h.1
                  have h := h.2
                  refine mr_iald C0 dX5_chance_86 (Nat.le_of_ble_eq_true rfl) rfl g41 ?_
                  refine mr_callVI C0 mdX1_stuck dX5_chance_87 clX1_stuck ml_X5_151 (Nat.le_of_ble_eq_true rfl) rfl rfl arX1_stuck (as := [.int (S34.1 5 x1.toNatClampNeg)]) rfl (Nat.le_of_ble_eq_true rfl) (Nat.le_of_ble_eq_true rfl) (Nat.le_of_ble_eq_true rfl) fit0 h (fun r43 S42 h => ?_)
                  refine mr_goto C0 dX5_chance_90 (tgt := 110) (by decide) ?_
                  refine mr_istore (L1 := [some (.ref 0), some (.int x1), some (.int x2), some (.int x3), some (.int r43)]) C0 dX5_chance_110 (Nat.le_of_ble_eq_true rfl) rfl ?_
                  refine mr_iload C0 dX5_chance_112 rfl ?_
                  refine mr_iload_n C0 dX5_chance_114 rfl (i := 3) rfl ?_
                  refine mr_callSI C0 mdX5_leastTerms dX5_chance_115 clX5_leastTerms ml_X5_157 arX5_leastTerms (as := [.int r43, .int x3]) rfl (Nat.le_of_ble_eq_true rfl) (Nat.le_of_ble_eq_true rfl) (Nat.le_of_ble_eq_true rfl) fit0 h (fun r45 S44 h => ?_)
                  refine mr_i2l C0 dX5_chance_118 ?_
                  refine mr_lret C0 hr0 hk0 dX5_chance_119 (qJ_mk ?_)
                  exact h
              · have h := h.2 c27
                refine mr_ldc2 C0 dX5_chance_40 cn_X5_145 ?_
                refine mr_lret C0 hr0 hk0 dX5_chance_43 (qJ_mk ?_)
                exact h
set_option maxRecDepth 100000 in
set_option maxHeartbeats 4000000 in
theorem eX5_expects (x1 : Int32) (x2 : Int32) (S : St) (Q : Int64 → St → Prop) (h : ((x1 < 0 → Q (-9223372036854775808 : Int64) S) ∧ (¬ x1 < 0 → (((4 : Int32) ≤ x1 → Q (-9223372036854775808 : Int64) S) ∧ (¬ (4 : Int32) ≤ x1 → ((x2 < 0 → Q (-9223372036854775808 : Int64) S) ∧ (¬ x2 < 0 → (((1 : Int32) < x2 → Q (-9223372036854775808 : Int64) S) ∧ (¬ (1 : Int32) < x2 → (((S.1 1 3) ≤ 0 → Q (-9223372036854775808 : Int64) S) ∧ (¬ (S.1 1 3) ≤ 0 → CallV mdX1_expected [.ref 7, .int x1] S (qI fun r7 S6 => CallV mdX5_leastTerms [.int r7, .int x2] S6 (qI fun r9 S8 => Q r9.toInt64 S8))))))))))))) : CallV mdX5_expects [.ref 0, .int x1, .int x2] S (qJ Q) := by
  refine CallV_of mdX5_expects plX5_expects 0 (Nat.le_of_ble_eq_true rfl) rfl ?_
  intro zp0 zl0 ze0 zs0 zm0 zargs0 zbelow0 zmeth0 zc0 zD0 zad0 zac0 C0 hr0 hk0
  refine mr_iload_n C0 dX5_expects_0 rfl (i := 1) rfl ?_
  refine mr_callSI C0 mdX5_isParty dX5_expects_1 clX5_isParty ml_X5_160 arX5_isParty (as := [.int x1]) rfl (Nat.le_of_ble_eq_true rfl) (Nat.le_of_ble_eq_true rfl) (Nat.le_of_ble_eq_true rfl) fit0 (CallV_of mdX5_isParty plX5_isParty 0 (Nat.le_of_ble_eq_true rfl) rfl ?_) (fun _ _ h => h)
  intro zp1 zl1 ze1 zs1 zm1 zargs1 zbelow1 zmeth1 zc1 zD1 zad1 zac1 C1 hr1 hk1
  refine mr_iload_n C1 dX5_isParty_0 rfl (i := 0) rfl ?_
  refine mr_if_lt C1 dX5_isParty_1 (tgt := 13) (by decide) (fun c1 => ?_) (fun c1 => ?_)
  · have h := h.1 c1
    refine mr_iconst (v := 0) C1 dX5_isParty_13 (by decide) ?_
    refine mr_zret C1 hr1 hk1 dX5_isParty_14 rfl (qI_mk ?_)
    refine mr_if_eq C0 dX5_expects_4 (tgt := 26) (by decide) (fun _ => ?_) (fun q => absurd q (by decide))
    refine mr_ldc2 C0 dX5_expects_26 cn_X5_145 ?_
    refine mr_lret C0 hr0 hk0 dX5_expects_29 (qJ_mk ?_)
    exact h
  · have h := h.2 c1
    refine mr_iload_n C1 dX5_isParty_4 rfl (i := 0) rfl ?_
    refine mr_iconst (v := 4) C1 dX5_isParty_5 (by decide) ?_
    refine mr_icmp_ge C1 dX5_isParty_6 (tgt := 13) (by decide) (fun c2 => ?_) (fun c2 => ?_)
    · have h := h.1 c2
      refine mr_iconst (v := 0) C1 dX5_isParty_13 (by decide) ?_
      refine mr_zret C1 hr1 hk1 dX5_isParty_14 rfl (qI_mk ?_)
      refine mr_if_eq C0 dX5_expects_4 (tgt := 26) (by decide) (fun _ => ?_) (fun q => absurd q (by decide))
      refine mr_ldc2 C0 dX5_expects_26 cn_X5_145 ?_
      refine mr_lret C0 hr0 hk0 dX5_expects_29 (qJ_mk ?_)
      exact h
    · have h := h.2 c2
      refine mr_iconst (v := 1) C1 dX5_isParty_9 (by decide) ?_
      refine mr_goto C1 dX5_isParty_10 (tgt := 14) (by decide) ?_
      refine mr_zret C1 hr1 hk1 dX5_isParty_14 rfl (qI_mk ?_)
      refine mr_if_eq C0 dX5_expects_4 (tgt := 26) (by decide) (fun q => absurd q (by decide)) (fun _ => ?_)
      refine mr_iload_n C0 dX5_expects_7 rfl (i := 2) rfl ?_
      refine mr_if_lt C0 dX5_expects_8 (tgt := 26) (by decide) (fun c3 => ?_) (fun c3 => ?_)
      · have h := h.1 c3
        refine mr_ldc2 C0 dX5_expects_26 cn_X5_145 ?_
        refine mr_lret C0 hr0 hk0 dX5_expects_29 (qJ_mk ?_)
        exact h
      · have h := h.2 c3
        refine mr_iload_n C0 dX5_expects_11 rfl (i := 2) rfl ?_
        refine mr_iconst (v := 1) C0 dX5_expects_12 (by decide) ?_
        refine mr_icmp_gt C0 dX5_expects_13 (tgt := 26) (by decide) (fun c4 => ?_) (fun c4 => ?_)
        · have h := h.1 c4
          refine mr_ldc2 C0 dX5_expects_26 cn_X5_145 ?_
          refine mr_lret C0 hr0 hk0 dX5_expects_29 (qJ_mk ?_)
          exact h
        · have h := h.2 c4
          refine mr_aload_n C0 dX5_expects_16 rfl (i := 0) rfl ?_
          refine mr_getR C0 dX5_expects_17 fl_X5_14 (Nat.le_of_ble_eq_true rfl) rfl rfl ?_
          refine mr_callVI C0 mdX2_stands dX5_expects_20 clX2_stands ml_X5_100 (Nat.le_of_ble_eq_true rfl) rfl rfl arX2_stands (as := []) rfl (Nat.le_of_ble_eq_true rfl) (Nat.le_of_ble_eq_true rfl) (Nat.le_of_ble_eq_true rfl) fit0 (CallV_of mdX2_stands plX2_stands 0 (Nat.le_of_ble_eq_true rfl) rfl ?_) (fun _ _ h => h)
          intro zp2 zl2 ze2 zs2 zm2 zargs2 zbelow2 zmeth2 zc2 zD2 zad2 zac2 C2 hr2 hk2
          refine mr_aload_n C2 dX2_stands_0 rfl (i := 0) rfl ?_
          refine mr_getI C2 dX2_stands_1 fl_X2_22 (Nat.le_of_ble_eq_true rfl) rfl rfl ?_
          refine mr_if_le C2 dX2_stands_4 (tgt := 11) (by decide) (fun c5 => ?_) (fun c5 => ?_)
          · have h := h.1 c5
            refine mr_iconst (v := 0) C2 dX2_stands_11 (by decide) ?_
            refine mr_zret C2 hr2 hk2 dX2_stands_12 rfl (qI_mk ?_)
            refine mr_if_ne C0 dX5_expects_23 (tgt := 30) (by decide) (fun q => absurd q (by decide)) (fun _ => ?_)
            refine mr_ldc2 C0 dX5_expects_26 cn_X5_145 ?_
            refine mr_lret C0 hr0 hk0 dX5_expects_29 (qJ_mk ?_)
            exact h
          · have h := h.2 c5
            refine mr_iconst (v := 1) C2 dX2_stands_7 (by decide) ?_
            refine mr_goto C2 dX2_stands_8 (tgt := 12) (by decide) ?_
            refine mr_zret C2 hr2 hk2 dX2_stands_12 rfl (qI_mk ?_)
            refine mr_if_ne C0 dX5_expects_23 (tgt := 30) (by decide) (fun _ => ?_) (fun q => absurd q (by decide))
            refine mr_aload_n C0 dX5_expects_30 rfl (i := 0) rfl ?_
            refine mr_getR C0 dX5_expects_31 fl_X5_30 (Nat.le_of_ble_eq_true rfl) rfl rfl ?_
            refine mr_iload_n C0 dX5_expects_34 rfl (i := 1) rfl ?_
            refine mr_callVI C0 mdX1_expected dX5_expects_35 clX1_expected ml_X5_163 (Nat.le_of_ble_eq_true rfl) rfl rfl arX1_expected (as := [.int x1]) rfl (Nat.le_of_ble_eq_true rfl) (Nat.le_of_ble_eq_true rfl) (Nat.le_of_ble_eq_true rfl) fit0 h (fun r7 S6 h => ?_)
            refine mr_iload_n C0 dX5_expects_38 rfl (i := 2) rfl ?_
            refine mr_callSI C0 mdX5_leastTerms dX5_expects_39 clX5_leastTerms ml_X5_157 arX5_leastTerms (as := [.int r7, .int x2]) rfl (Nat.le_of_ble_eq_true rfl) (Nat.le_of_ble_eq_true rfl) (Nat.le_of_ble_eq_true rfl) fit0 h (fun r9 S8 h => ?_)
            refine mr_i2l C0 dX5_expects_42 ?_
            refine mr_lret C0 hr0 hk0 dX5_expects_43 (qJ_mk ?_)
            exact h
set_option maxRecDepth 100000 in
set_option maxHeartbeats 4000000 in
theorem eX5_leastTerms (x0 : Int32) (x1 : Int32) (S : St) (Q : Int32 → St → Prop) (h : V mdX5_leastTerms 5 [none, some (.int x1), some (.int x0), some (.int (32768 : Int32))] [] S (qI Q)) : CallV mdX5_leastTerms [.int x0, .int x1] S (qI Q) := by
  refine CallV_of mdX5_leastTerms plX5_leastTerms 2 (Nat.le_of_ble_eq_true rfl) rfl ?_
  intro zp0 zl0 ze0 zs0 zm0 zargs0 zbelow0 zmeth0 zc0 zD0 zad0 zac0 C0 hr0 hk0
  refine mr_iload_n C0 dX5_leastTerms_0 rfl (i := 0) rfl ?_
  refine mr_istore_n (L1 := [some (.int x0), some (.int x1), some (.int x0), none]) C0 dX5_leastTerms_1 rfl (Nat.le_of_ble_eq_true rfl) rfl ?_
  refine mr_ldc C0 dX5_leastTerms_2 cn_X5_166 ?_
  refine mr_istore_n (L1 := [some (.int x0), some (.int x1), some (.int x0), some (.int (32768 : Int32))]) C0 dX5_leastTerms_4 rfl (Nat.le_of_ble_eq_true rfl) rfl ?_
  refine mr_mask (L1 := [none, some (.int x1), some (.int x0), some (.int (32768 : Int32))]) C0 [false, true, true, true] rfl ?_
  exact h zp0 zl0 ze0 zs0 zm0 zargs0 zbelow0 zmeth0 zc0 zD0 zad0 zac0 C0 hr0 hk0
set_option maxRecDepth 100000 in
set_option maxHeartbeats 4000000 in
theorem eX5_leastTerms_5 (x1 : Int32) (x2 : Int32) (x3 : Int32) (S : St) (Q : Int32 → St → Prop) (h : ((x3 ≤ (1 : Int32) → ((¬ x1 = 0 → Q x3 S) ∧ (x1 = 0 → Q x2 S))) ∧ (¬ x3 ≤ (1 : Int32) → ((¬ (x2 - x2 / (2 : Int32) * (2 : Int32)) = 0 → ((¬ x1 = 0 → Q x3 S) ∧ (x1 = 0 → Q x2 S))) ∧ ((x2 - x2 / (2 : Int32) * (2 : Int32)) = 0 → V mdX5_leastTerms 5 [none, some (.int x1), some (.int (x2 / (2 : Int32))), some (.int (x3 / (2 : Int32)))] [] S (qI Q)))))) : V mdX5_leastTerms 5 [none, some (.int x1), some (.int x2), some (.int x3)] [] S (qI Q) := by
  intro zp0 zl0 ze0 zs0 zm0 zargs0 zbelow0 zmeth0 zc0 zD0 zad0 zac0 C0 hr0 hk0
  refine mr_iload_n C0 dX5_leastTerms_5 rfl (i := 3) rfl ?_
  refine mr_iconst (v := 1) C0 dX5_leastTerms_6 (by decide) ?_
  refine mr_icmp_le C0 dX5_leastTerms_7 (tgt := 27) (by decide) (fun c1 => ?_) (fun c1 => ?_)
  · have h := h.1 c1
    refine mr_iload_n C0 dX5_leastTerms_27 rfl (i := 1) rfl ?_
    refine mr_if_ne C0 dX5_leastTerms_28 (tgt := 35) (by decide) (fun c2 => ?_) (fun c2 => ?_)
    · have h := h.1 c2
      refine mr_iload_n C0 dX5_leastTerms_35 rfl (i := 3) rfl ?_
      refine mr_iret C0 hr0 hk0 dX5_leastTerms_36 (qI_mk ?_)
      exact h
    · have h := h.2 c2
      refine mr_iload_n C0 dX5_leastTerms_31 rfl (i := 2) rfl ?_
      refine mr_goto C0 dX5_leastTerms_32 (tgt := 36) (by decide) ?_
      refine mr_iret C0 hr0 hk0 dX5_leastTerms_36 (qI_mk ?_)
      exact h
  · have h := h.2 c1
    refine mr_iload_n C0 dX5_leastTerms_10 rfl (i := 2) rfl ?_
    refine mr_iconst (v := 2) C0 dX5_leastTerms_11 (by decide) ?_
    refine mr_irem C0 dX5_leastTerms_12 (by decide) ?_
    refine mr_if_ne C0 dX5_leastTerms_13 (tgt := 27) (by decide) (fun c3 => ?_) (fun c3 => ?_)
    · have h := h.1 c3
      refine mr_iload_n C0 dX5_leastTerms_27 rfl (i := 1) rfl ?_
      refine mr_if_ne C0 dX5_leastTerms_28 (tgt := 35) (by decide) (fun c4 => ?_) (fun c4 => ?_)
      · have h := h.1 c4
        refine mr_iload_n C0 dX5_leastTerms_35 rfl (i := 3) rfl ?_
        refine mr_iret C0 hr0 hk0 dX5_leastTerms_36 (qI_mk ?_)
        exact h
      · have h := h.2 c4
        refine mr_iload_n C0 dX5_leastTerms_31 rfl (i := 2) rfl ?_
        refine mr_goto C0 dX5_leastTerms_32 (tgt := 36) (by decide) ?_
        refine mr_iret C0 hr0 hk0 dX5_leastTerms_36 (qI_mk ?_)
        exact h
    · have h := h.2 c3
      refine mr_iload_n C0 dX5_leastTerms_16 rfl (i := 2) rfl ?_
      refine mr_iconst (v := 2) C0 dX5_leastTerms_17 (by decide) ?_
      refine mr_idiv C0 dX5_leastTerms_18 (by decide) ?_
      refine mr_istore_n (L1 := [none, some (.int x1), some (.int (x2 / (2 : Int32))), some (.int x3)]) C0 dX5_leastTerms_19 rfl (Nat.le_of_ble_eq_true rfl) rfl ?_
      refine mr_iload_n C0 dX5_leastTerms_20 rfl (i := 3) rfl ?_
      refine mr_iconst (v := 2) C0 dX5_leastTerms_21 (by decide) ?_
      refine mr_idiv C0 dX5_leastTerms_22 (by decide) ?_
      refine mr_istore_n (L1 := [none, some (.int x1), some (.int (x2 / (2 : Int32))), some (.int (x3 / (2 : Int32)))]) C0 dX5_leastTerms_23 rfl (Nat.le_of_ble_eq_true rfl) rfl ?_
      refine mr_goto C0 dX5_leastTerms_24 (tgt := 5) (by decide) ?_
      exact h zp0 zl0 ze0 zs0 zm0 zargs0 zbelow0 zmeth0 zc0 zD0 zad0 zac0 C0 hr0 hk0
set_option maxRecDepth 100000 in
set_option maxHeartbeats 4000000 in
theorem eX5_start (x1 : Int32) (x2 : Int32) (S : St) (Q : Int32 → St → Prop) (h : ((x1 < 0 → Q (-1 : Int32) S) ∧ (¬ x1 < 0 → (((S.1 4 2) ≤ x1 → Q (-1 : Int32) S) ∧ (¬ (S.1 4 2) ≤ x1 → ((x2 < 0 → Q (-1 : Int32) S) ∧ (¬ x2 < 0 → (((4 : Int32) ≤ x2 → Q (-1 : Int32) S) ∧ (¬ (4 : Int32) ≤ x2 → (vp_in x1 8) ∧ CallV mdX1_bestStart [.ref 7, .int (S.1 5 x1.toNatClampNeg), .int x2] S (qI fun r7 S6 => Q r7 S6)))))))))) : CallV mdX5_start [.ref 0, .int x1, .int x2] S (qI Q) := by
  refine CallV_of mdX5_start plX5_start 0 (Nat.le_of_ble_eq_true rfl) rfl ?_
  intro zp0 zl0 ze0 zs0 zm0 zargs0 zbelow0 zmeth0 zc0 zD0 zad0 zac0 C0 hr0 hk0
  refine mr_aload_n C0 dX5_start_0 rfl (i := 0) rfl ?_
  refine mr_getR C0 dX5_start_1 fl_X5_21 (Nat.le_of_ble_eq_true rfl) rfl rfl ?_
  refine mr_iload_n C0 dX5_start_4 rfl (i := 1) rfl ?_
  refine mr_callVI C0 mdX4_has dX5_start_5 clX4_has ml_X5_115 (Nat.le_of_ble_eq_true rfl) rfl rfl arX4_has (as := [.int x1]) rfl (Nat.le_of_ble_eq_true rfl) (Nat.le_of_ble_eq_true rfl) (Nat.le_of_ble_eq_true rfl) fit0 (CallV_of mdX4_has plX4_has 0 (Nat.le_of_ble_eq_true rfl) rfl ?_) (fun _ _ h => h)
  intro zp1 zl1 ze1 zs1 zm1 zargs1 zbelow1 zmeth1 zc1 zD1 zad1 zac1 C1 hr1 hk1
  refine mr_iload_n C1 dX4_has_0 rfl (i := 1) rfl ?_
  refine mr_if_lt C1 dX4_has_1 (tgt := 16) (by decide) (fun c1 => ?_) (fun c1 => ?_)
  · have h := h.1 c1
    refine mr_iconst (v := 0) C1 dX4_has_16 (by decide) ?_
    refine mr_zret C1 hr1 hk1 dX4_has_17 rfl (qI_mk ?_)
    refine mr_if_eq C0 dX5_start_8 (tgt := 18) (by decide) (fun _ => ?_) (fun q => absurd q (by decide))
    refine mr_iconst (v := (-1)) C0 dX5_start_18 (by decide) ?_
    refine mr_iret C0 hr0 hk0 dX5_start_19 (qI_mk ?_)
    exact h
  · have h := h.2 c1
    refine mr_iload_n C1 dX4_has_4 rfl (i := 1) rfl ?_
    refine mr_aload_n C1 dX4_has_5 rfl (i := 0) rfl ?_
    refine mr_getI C1 dX4_has_6 fl_X4_18 (Nat.le_of_ble_eq_true rfl) rfl rfl ?_
    refine mr_icmp_ge C1 dX4_has_9 (tgt := 16) (by decide) (fun c2 => ?_) (fun c2 => ?_)
    · have h := h.1 c2
      refine mr_iconst (v := 0) C1 dX4_has_16 (by decide) ?_
      refine mr_zret C1 hr1 hk1 dX4_has_17 rfl (qI_mk ?_)
      refine mr_if_eq C0 dX5_start_8 (tgt := 18) (by decide) (fun _ => ?_) (fun q => absurd q (by decide))
      refine mr_iconst (v := (-1)) C0 dX5_start_18 (by decide) ?_
      refine mr_iret C0 hr0 hk0 dX5_start_19 (qI_mk ?_)
      exact h
    · have h := h.2 c2
      refine mr_iconst (v := 1) C1 dX4_has_12 (by decide) ?_
      refine mr_goto C1 dX4_has_13 (tgt := 17) (by decide) ?_
      refine mr_zret C1 hr1 hk1 dX4_has_17 rfl (qI_mk ?_)
      refine mr_if_eq C0 dX5_start_8 (tgt := 18) (by decide) (fun q => absurd q (by decide)) (fun _ => ?_)
      refine mr_iload_n C0 dX5_start_11 rfl (i := 2) rfl ?_
      refine mr_callSI C0 mdX5_isParty dX5_start_12 clX5_isParty ml_X5_160 arX5_isParty (as := [.int x2]) rfl (Nat.le_of_ble_eq_true rfl) (Nat.le_of_ble_eq_true rfl) (Nat.le_of_ble_eq_true rfl) fit0 (CallV_of mdX5_isParty plX5_isParty 0 (Nat.le_of_ble_eq_true rfl) rfl ?_) (fun _ _ h => h)
      intro zp2 zl2 ze2 zs2 zm2 zargs2 zbelow2 zmeth2 zc2 zD2 zad2 zac2 C2 hr2 hk2
      refine mr_iload_n C2 dX5_isParty_0 rfl (i := 0) rfl ?_
      refine mr_if_lt C2 dX5_isParty_1 (tgt := 13) (by decide) (fun c3 => ?_) (fun c3 => ?_)
      · have h := h.1 c3
        refine mr_iconst (v := 0) C2 dX5_isParty_13 (by decide) ?_
        refine mr_zret C2 hr2 hk2 dX5_isParty_14 rfl (qI_mk ?_)
        refine mr_if_ne C0 dX5_start_15 (tgt := 20) (by decide) (fun q => absurd q (by decide)) (fun _ => ?_)
        refine mr_iconst (v := (-1)) C0 dX5_start_18 (by decide) ?_
        refine mr_iret C0 hr0 hk0 dX5_start_19 (qI_mk ?_)
        exact h
      · have h := h.2 c3
        refine mr_iload_n C2 dX5_isParty_4 rfl (i := 0) rfl ?_
        refine mr_iconst (v := 4) C2 dX5_isParty_5 (by decide) ?_
        refine mr_icmp_ge C2 dX5_isParty_6 (tgt := 13) (by decide) (fun c4 => ?_) (fun c4 => ?_)
        · have h := h.1 c4
          refine mr_iconst (v := 0) C2 dX5_isParty_13 (by decide) ?_
          refine mr_zret C2 hr2 hk2 dX5_isParty_14 rfl (qI_mk ?_)
          refine mr_if_ne C0 dX5_start_15 (tgt := 20) (by decide) (fun q => absurd q (by decide)) (fun _ => ?_)
          refine mr_iconst (v := (-1)) C0 dX5_start_18 (by decide) ?_
          refine mr_iret C0 hr0 hk0 dX5_start_19 (qI_mk ?_)
          exact h
        · have h := h.2 c4
          refine mr_iconst (v := 1) C2 dX5_isParty_9 (by decide) ?_
          refine mr_goto C2 dX5_isParty_10 (tgt := 14) (by decide) ?_
          refine mr_zret C2 hr2 hk2 dX5_isParty_14 rfl (qI_mk ?_)
          refine mr_if_ne C0 dX5_start_15 (tgt := 20) (by decide) (fun _ => ?_) (fun q => absurd q (by decide))
          refine mr_aload_n C0 dX5_start_20 rfl (i := 0) rfl ?_
          refine mr_getR C0 dX5_start_21 fl_X5_30 (Nat.le_of_ble_eq_true rfl) rfl rfl ?_
          refine mr_aload_n C0 dX5_start_24 rfl (i := 0) rfl ?_
          refine mr_getR C0 dX5_start_25 fl_X5_21 (Nat.le_of_ble_eq_true rfl) rfl rfl ?_
          refine mr_getR C0 dX5_start_28 fl_X5_118 (Nat.le_of_ble_eq_true rfl) rfl rfl ?_
          refine mr_iload_n C0 dX5_start_31 rfl (i := 1) rfl ?_
          have g5 := h.1
          have h := h.2
          refine mr_iald C0 dX5_start_32 (Nat.le_of_ble_eq_true rfl) rfl g5 ?_
          refine mr_iload_n C0 dX5_start_33 rfl (i := 2) rfl ?_
          refine mr_callVI C0 mdX1_bestStart dX5_start_34 clX1_bestStart ml_X5_167 (Nat.le_of_ble_eq_true rfl) rfl rfl arX1_bestStart (as := [.int (S.1 5 x1.toNatClampNeg), .int x2]) rfl (Nat.le_of_ble_eq_true rfl) (Nat.le_of_ble_eq_true rfl) (Nat.le_of_ble_eq_true rfl) fit0 h (fun r7 S6 h => ?_)
          refine mr_iret C0 hr0 hk0 dX5_start_37 (qI_mk ?_)
          exact h
set_option maxRecDepth 100000 in
set_option maxHeartbeats 4000000 in
theorem eX5_move (x1 : Int32) (S : St) (Q : Int32 → St → Prop) (h : ((x1 < 0 → Q (-1 : Int32) S) ∧ (¬ x1 < 0 → (((4 : Int32) ≤ x1 → Q (-1 : Int32) S) ∧ (¬ (4 : Int32) ≤ x1 → (((S.1 1 3) ≤ 0 → Q (-3 : Int32) S) ∧ (¬ (S.1 1 3) ≤ 0 → CallV mdX1_bestMove [.ref 7, .int x1] S (qI fun r5 S4 => Q r5 S4)))))))) : CallV mdX5_move [.ref 0, .int x1] S (qI Q) := by
  refine CallV_of mdX5_move plX5_move 0 (Nat.le_of_ble_eq_true rfl) rfl ?_
  intro zp0 zl0 ze0 zs0 zm0 zargs0 zbelow0 zmeth0 zc0 zD0 zad0 zac0 C0 hr0 hk0
  refine mr_iload_n C0 dX5_move_0 rfl (i := 1) rfl ?_
  refine mr_callSI C0 mdX5_isParty dX5_move_1 clX5_isParty ml_X5_160 arX5_isParty (as := [.int x1]) rfl (Nat.le_of_ble_eq_true rfl) (Nat.le_of_ble_eq_true rfl) (Nat.le_of_ble_eq_true rfl) fit0 (CallV_of mdX5_isParty plX5_isParty 0 (Nat.le_of_ble_eq_true rfl) rfl ?_) (fun _ _ h => h)
  intro zp1 zl1 ze1 zs1 zm1 zargs1 zbelow1 zmeth1 zc1 zD1 zad1 zac1 C1 hr1 hk1
  refine mr_iload_n C1 dX5_isParty_0 rfl (i := 0) rfl ?_
  refine mr_if_lt C1 dX5_isParty_1 (tgt := 13) (by decide) (fun c1 => ?_) (fun c1 => ?_)
  · have h := h.1 c1
    refine mr_iconst (v := 0) C1 dX5_isParty_13 (by decide) ?_
    refine mr_zret C1 hr1 hk1 dX5_isParty_14 rfl (qI_mk ?_)
    refine mr_if_ne C0 dX5_move_4 (tgt := 9) (by decide) (fun q => absurd q (by decide)) (fun _ => ?_)
    refine mr_iconst (v := (-1)) C0 dX5_move_7 (by decide) ?_
    refine mr_iret C0 hr0 hk0 dX5_move_8 (qI_mk ?_)
    exact h
  · have h := h.2 c1
    refine mr_iload_n C1 dX5_isParty_4 rfl (i := 0) rfl ?_
    refine mr_iconst (v := 4) C1 dX5_isParty_5 (by decide) ?_
    refine mr_icmp_ge C1 dX5_isParty_6 (tgt := 13) (by decide) (fun c2 => ?_) (fun c2 => ?_)
    · have h := h.1 c2
      refine mr_iconst (v := 0) C1 dX5_isParty_13 (by decide) ?_
      refine mr_zret C1 hr1 hk1 dX5_isParty_14 rfl (qI_mk ?_)
      refine mr_if_ne C0 dX5_move_4 (tgt := 9) (by decide) (fun q => absurd q (by decide)) (fun _ => ?_)
      refine mr_iconst (v := (-1)) C0 dX5_move_7 (by decide) ?_
      refine mr_iret C0 hr0 hk0 dX5_move_8 (qI_mk ?_)
      exact h
    · have h := h.2 c2
      refine mr_iconst (v := 1) C1 dX5_isParty_9 (by decide) ?_
      refine mr_goto C1 dX5_isParty_10 (tgt := 14) (by decide) ?_
      refine mr_zret C1 hr1 hk1 dX5_isParty_14 rfl (qI_mk ?_)
      refine mr_if_ne C0 dX5_move_4 (tgt := 9) (by decide) (fun _ => ?_) (fun q => absurd q (by decide))
      refine mr_aload_n C0 dX5_move_9 rfl (i := 0) rfl ?_
      refine mr_getR C0 dX5_move_10 fl_X5_14 (Nat.le_of_ble_eq_true rfl) rfl rfl ?_
      refine mr_callVI C0 mdX2_stands dX5_move_13 clX2_stands ml_X5_100 (Nat.le_of_ble_eq_true rfl) rfl rfl arX2_stands (as := []) rfl (Nat.le_of_ble_eq_true rfl) (Nat.le_of_ble_eq_true rfl) (Nat.le_of_ble_eq_true rfl) fit0 (CallV_of mdX2_stands plX2_stands 0 (Nat.le_of_ble_eq_true rfl) rfl ?_) (fun _ _ h => h)
      intro zp2 zl2 ze2 zs2 zm2 zargs2 zbelow2 zmeth2 zc2 zD2 zad2 zac2 C2 hr2 hk2
      refine mr_aload_n C2 dX2_stands_0 rfl (i := 0) rfl ?_
      refine mr_getI C2 dX2_stands_1 fl_X2_22 (Nat.le_of_ble_eq_true rfl) rfl rfl ?_
      refine mr_if_le C2 dX2_stands_4 (tgt := 11) (by decide) (fun c3 => ?_) (fun c3 => ?_)
      · have h := h.1 c3
        refine mr_iconst (v := 0) C2 dX2_stands_11 (by decide) ?_
        refine mr_zret C2 hr2 hk2 dX2_stands_12 rfl (qI_mk ?_)
        refine mr_if_eq C0 dX5_move_16 (tgt := 30) (by decide) (fun _ => ?_) (fun q => absurd q (by decide))
        refine mr_bipush (v := (-3)) C0 dX5_move_30 (by decide) ?_
        refine mr_iret C0 hr0 hk0 dX5_move_32 (qI_mk ?_)
        exact h
      · have h := h.2 c3
        refine mr_iconst (v := 1) C2 dX2_stands_7 (by decide) ?_
        refine mr_goto C2 dX2_stands_8 (tgt := 12) (by decide) ?_
        refine mr_zret C2 hr2 hk2 dX2_stands_12 rfl (qI_mk ?_)
        refine mr_if_eq C0 dX5_move_16 (tgt := 30) (by decide) (fun q => absurd q (by decide)) (fun _ => ?_)
        refine mr_aload_n C0 dX5_move_19 rfl (i := 0) rfl ?_
        refine mr_getR C0 dX5_move_20 fl_X5_30 (Nat.le_of_ble_eq_true rfl) rfl rfl ?_
        refine mr_iload_n C0 dX5_move_23 rfl (i := 1) rfl ?_
        refine mr_callVI C0 mdX1_bestMove dX5_move_24 clX1_bestMove ml_X5_170 (Nat.le_of_ble_eq_true rfl) rfl rfl arX1_bestMove (as := [.int x1]) rfl (Nat.le_of_ble_eq_true rfl) (Nat.le_of_ble_eq_true rfl) (Nat.le_of_ble_eq_true rfl) fit0 h (fun r5 S4 h => ?_)
        refine mr_goto C0 dX5_move_27 (tgt := 32) (by decide) ?_
        refine mr_iret C0 hr0 hk0 dX5_move_32 (qI_mk ?_)
        exact h
set_option maxRecDepth 100000 in
set_option maxHeartbeats 4000000 in
theorem eX5_answer (x1 : Int32) (x2 : Int32) (S : St) (Q : Int32 → St → Prop) (h : ((x1 < 0 → Q (-1 : Int32) S) ∧ (¬ x1 < 0 → (((4 : Int32) ≤ x1 → Q (-1 : Int32) S) ∧ (¬ (4 : Int32) ≤ x1 → ((x2 < 0 → Q (-1 : Int32) S) ∧ (¬ x2 < 0 → (((4 : Int32) ≤ x2 → Q (-1 : Int32) S) ∧ (¬ (4 : Int32) ≤ x2 → ((¬ x1 = x2 → (((S.1 1 3) ≤ 0 → Q (-3 : Int32) S) ∧ (¬ (S.1 1 3) ≤ 0 → CallV mdX1_bestMove [.ref 7, .int x1] S (qI fun r8 S7 => ((¬ r8 = (-9 : Int32) → (vp_in (r8 / (10 : Int32)) 30) ∧ (vp_in (r8 / (10 : Int32)) 30) ∧ CallV mdX1_bestMove [.ref 7, .int x2] (sI S7 2 ((r8 / (10 : Int32)).toNatClampNeg) (r8 - r8 / (10 : Int32) * (10 : Int32))) (qI fun r13 S12 => (vp_in (r8 / (10 : Int32)) 30) ∧ Q r13 (sI S12 2 ((r8 / (10 : Int32)).toNatClampNeg) (S7.1 2 ((r8 / (10 : Int32)).toNatClampNeg))))) ∧ (r8 = (-9 : Int32) → CallV mdX1_bestMove [.ref 7, .int x2] S7 (qI fun r16 S15 => Q r16 S15))))))) ∧ (x1 = x2 → Q (-2 : Int32) S))))))))))) : CallV mdX5_answer [.ref 0, .int x1, .int x2] S (qI Q) := by
  refine CallV_of mdX5_answer plX5_answer 4 (Nat.le_of_ble_eq_true rfl) rfl ?_
  intro zp0 zl0 ze0 zs0 zm0 zargs0 zbelow0 zmeth0 zc0 zD0 zad0 zac0 C0 hr0 hk0
  refine mr_iload_n C0 dX5_answer_0 rfl (i := 1) rfl ?_
  refine mr_callSI C0 mdX5_isParty dX5_answer_1 clX5_isParty ml_X5_160 arX5_isParty (as := [.int x1]) rfl (Nat.le_of_ble_eq_true rfl) (Nat.le_of_ble_eq_true rfl) (Nat.le_of_ble_eq_true rfl) fit0 (CallV_of mdX5_isParty plX5_isParty 0 (Nat.le_of_ble_eq_true rfl) rfl ?_) (fun _ _ h => h)
  intro zp1 zl1 ze1 zs1 zm1 zargs1 zbelow1 zmeth1 zc1 zD1 zad1 zac1 C1 hr1 hk1
  refine mr_iload_n C1 dX5_isParty_0 rfl (i := 0) rfl ?_
  refine mr_if_lt C1 dX5_isParty_1 (tgt := 13) (by decide) (fun c1 => ?_) (fun c1 => ?_)
  · have h := h.1 c1
    refine mr_iconst (v := 0) C1 dX5_isParty_13 (by decide) ?_
    refine mr_zret C1 hr1 hk1 dX5_isParty_14 rfl (qI_mk ?_)
    refine mr_if_eq C0 dX5_answer_4 (tgt := 14) (by decide) (fun _ => ?_) (fun q => absurd q (by decide))
    refine mr_iconst (v := (-1)) C0 dX5_answer_14 (by decide) ?_
    refine mr_iret C0 hr0 hk0 dX5_answer_15 (qI_mk ?_)
    exact h
  · have h := h.2 c1
    refine mr_iload_n C1 dX5_isParty_4 rfl (i := 0) rfl ?_
    refine mr_iconst (v := 4) C1 dX5_isParty_5 (by decide) ?_
    refine mr_icmp_ge C1 dX5_isParty_6 (tgt := 13) (by decide) (fun c2 => ?_) (fun c2 => ?_)
    · have h := h.1 c2
      refine mr_iconst (v := 0) C1 dX5_isParty_13 (by decide) ?_
      refine mr_zret C1 hr1 hk1 dX5_isParty_14 rfl (qI_mk ?_)
      refine mr_if_eq C0 dX5_answer_4 (tgt := 14) (by decide) (fun _ => ?_) (fun q => absurd q (by decide))
      refine mr_iconst (v := (-1)) C0 dX5_answer_14 (by decide) ?_
      refine mr_iret C0 hr0 hk0 dX5_answer_15 (qI_mk ?_)
      exact h
    · have h := h.2 c2
      refine mr_iconst (v := 1) C1 dX5_isParty_9 (by decide) ?_
      refine mr_goto C1 dX5_isParty_10 (tgt := 14) (by decide) ?_
      refine mr_zret C1 hr1 hk1 dX5_isParty_14 rfl (qI_mk ?_)
      refine mr_if_eq C0 dX5_answer_4 (tgt := 14) (by decide) (fun q => absurd q (by decide)) (fun _ => ?_)
      refine mr_iload_n C0 dX5_answer_7 rfl (i := 2) rfl ?_
      refine mr_callSI C0 mdX5_isParty dX5_answer_8 clX5_isParty ml_X5_160 arX5_isParty (as := [.int x2]) rfl (Nat.le_of_ble_eq_true rfl) (Nat.le_of_ble_eq_true rfl) (Nat.le_of_ble_eq_true rfl) fit0 (CallV_of mdX5_isParty plX5_isParty 0 (Nat.le_of_ble_eq_true rfl) rfl ?_) (fun _ _ h => h)
      intro zp2 zl2 ze2 zs2 zm2 zargs2 zbelow2 zmeth2 zc2 zD2 zad2 zac2 C2 hr2 hk2
      refine mr_iload_n C2 dX5_isParty_0 rfl (i := 0) rfl ?_
      refine mr_if_lt C2 dX5_isParty_1 (tgt := 13) (by decide) (fun c3 => ?_) (fun c3 => ?_)
      · have h := h.1 c3
        refine mr_iconst (v := 0) C2 dX5_isParty_13 (by decide) ?_
        refine mr_zret C2 hr2 hk2 dX5_isParty_14 rfl (qI_mk ?_)
        refine mr_if_ne C0 dX5_answer_11 (tgt := 16) (by decide) (fun q => absurd q (by decide)) (fun _ => ?_)
        refine mr_iconst (v := (-1)) C0 dX5_answer_14 (by decide) ?_
        refine mr_iret C0 hr0 hk0 dX5_answer_15 (qI_mk ?_)
        exact h
      · have h := h.2 c3
        refine mr_iload_n C2 dX5_isParty_4 rfl (i := 0) rfl ?_
        refine mr_iconst (v := 4) C2 dX5_isParty_5 (by decide) ?_
        refine mr_icmp_ge C2 dX5_isParty_6 (tgt := 13) (by decide) (fun c4 => ?_) (fun c4 => ?_)
        · have h := h.1 c4
          refine mr_iconst (v := 0) C2 dX5_isParty_13 (by decide) ?_
          refine mr_zret C2 hr2 hk2 dX5_isParty_14 rfl (qI_mk ?_)
          refine mr_if_ne C0 dX5_answer_11 (tgt := 16) (by decide) (fun q => absurd q (by decide)) (fun _ => ?_)
          refine mr_iconst (v := (-1)) C0 dX5_answer_14 (by decide) ?_
          refine mr_iret C0 hr0 hk0 dX5_answer_15 (qI_mk ?_)
          exact h
        · have h := h.2 c4
          refine mr_iconst (v := 1) C2 dX5_isParty_9 (by decide) ?_
          refine mr_goto C2 dX5_isParty_10 (tgt := 14) (by decide) ?_
          refine mr_zret C2 hr2 hk2 dX5_isParty_14 rfl (qI_mk ?_)
          refine mr_if_ne C0 dX5_answer_11 (tgt := 16) (by decide) (fun _ => ?_) (fun q => absurd q (by decide))
          refine mr_iload_n C0 dX5_answer_16 rfl (i := 1) rfl ?_
          refine mr_iload_n C0 dX5_answer_17 rfl (i := 2) rfl ?_
          refine mr_icmp_ne C0 dX5_answer_18 (tgt := 24) (by decide) (fun c5 => ?_) (fun c5 => ?_)
          · have h := h.1 c5
            refine mr_aload_n C0 dX5_answer_24 rfl (i := 0) rfl ?_
            refine mr_getR C0 dX5_answer_25 fl_X5_14 (Nat.le_of_ble_eq_true rfl) rfl rfl ?_
            refine mr_callVI C0 mdX2_stands dX5_answer_28 clX2_stands ml_X5_100 (Nat.le_of_ble_eq_true rfl) rfl rfl arX2_stands (as := []) rfl (Nat.le_of_ble_eq_true rfl) (Nat.le_of_ble_eq_true rfl) (Nat.le_of_ble_eq_true rfl) fit0 (CallV_of mdX2_stands plX2_stands 0 (Nat.le_of_ble_eq_true rfl) rfl ?_) (fun _ _ h => h)
            intro zp3 zl3 ze3 zs3 zm3 zargs3 zbelow3 zmeth3 zc3 zD3 zad3 zac3 C3 hr3 hk3
            refine mr_aload_n C3 dX2_stands_0 rfl (i := 0) rfl ?_
            refine mr_getI C3 dX2_stands_1 fl_X2_22 (Nat.le_of_ble_eq_true rfl) rfl rfl ?_
            refine mr_if_le C3 dX2_stands_4 (tgt := 11) (by decide) (fun c6 => ?_) (fun c6 => ?_)
            · have h := h.1 c6
              refine mr_iconst (v := 0) C3 dX2_stands_11 (by decide) ?_
              refine mr_zret C3 hr3 hk3 dX2_stands_12 rfl (qI_mk ?_)
              refine mr_if_ne C0 dX5_answer_31 (tgt := 37) (by decide) (fun q => absurd q (by decide)) (fun _ => ?_)
              refine mr_bipush (v := (-3)) C0 dX5_answer_34 (by decide) ?_
              refine mr_iret C0 hr0 hk0 dX5_answer_36 (qI_mk ?_)
              exact h
            · have h := h.2 c6
              refine mr_iconst (v := 1) C3 dX2_stands_7 (by decide) ?_
              refine mr_goto C3 dX2_stands_8 (tgt := 12) (by decide) ?_
              refine mr_zret C3 hr3 hk3 dX2_stands_12 rfl (qI_mk ?_)
              refine mr_if_ne C0 dX5_answer_31 (tgt := 37) (by decide) (fun _ => ?_) (fun q => absurd q (by decide))
              refine mr_aload_n C0 dX5_answer_37 rfl (i := 0) rfl ?_
              refine mr_getR C0 dX5_answer_38 fl_X5_30 (Nat.le_of_ble_eq_true rfl) rfl rfl ?_
              refine mr_iload_n C0 dX5_answer_41 rfl (i := 1) rfl ?_
              refine mr_callVI C0 mdX1_bestMove dX5_answer_42 clX1_bestMove ml_X5_170 (Nat.le_of_ble_eq_true rfl) rfl rfl arX1_bestMove (as := [.int x1]) rfl (Nat.le_of_ble_eq_true rfl) (Nat.le_of_ble_eq_true rfl) (Nat.le_of_ble_eq_true rfl) fit0 h (fun r8 S7 h => ?_)
              refine mr_istore_n (L1 := [some (.ref 0), some (.int x1), some (.int x2), some (.int r8), none, none, none]) C0 dX5_answer_45 rfl (Nat.le_of_ble_eq_true rfl) rfl ?_
              refine mr_iload_n C0 dX5_answer_46 rfl (i := 3) rfl ?_
              refine mr_bipush (v := (-9)) C0 dX5_answer_47 (by decide) ?_
              refine mr_icmp_ne C0 dX5_answer_49 (tgt := 61) (by decide) (fun c9 => ?_) (fun c9 => ?_)
              · have h := h.1 c9
                refine mr_iload_n C0 dX5_answer_61 rfl (i := 3) rfl ?_
                refine mr_bipush (v := 10) C0 dX5_answer_62 (by decide) ?_
                refine mr_idiv C0 dX5_answer_64 (by decide) ?_
                refine mr_istore (L1 := [some (.ref 0), some (.int x1), some (.int x2), some (.int r8), some (.int (r8 / (10 : Int32))), none, none]) C0 dX5_answer_65 (Nat.le_of_ble_eq_true rfl) rfl ?_
                refine mr_aload_n C0 dX5_answer_67 rfl (i := 0) rfl ?_
                refine mr_getR C0 dX5_answer_68 fl_X5_14 (Nat.le_of_ble_eq_true rfl) rfl rfl ?_
                refine mr_getR C0 dX5_answer_71 fl_X5_90 (Nat.le_of_ble_eq_true rfl) rfl rfl ?_
                refine mr_iload C0 dX5_answer_74 rfl ?_
                have g10 := h.1
                have h := h.2
                refine mr_iald C0 dX5_answer_76 (Nat.le_of_ble_eq_true rfl) rfl g10 ?_
                refine mr_istore (L1 := [some (.ref 0), some (.int x1), some (.int x2), some (.int r8), some (.int (r8 / (10 : Int32))), some (.int (S7.1 2 ((r8 / (10 : Int32)).toNatClampNeg))), none]) C0 dX5_answer_77 (Nat.le_of_ble_eq_true rfl) rfl ?_
                refine mr_aload_n C0 dX5_answer_79 rfl (i := 0) rfl ?_
                refine mr_getR C0 dX5_answer_80 fl_X5_14 (Nat.le_of_ble_eq_true rfl) rfl rfl ?_
                refine mr_getR C0 dX5_answer_83 fl_X5_90 (Nat.le_of_ble_eq_true rfl) rfl rfl ?_
                refine mr_iload C0 dX5_answer_86 rfl ?_
                refine mr_iload_n C0 dX5_answer_88 rfl (i := 3) rfl ?_
                refine mr_bipush (v := 10) C0 dX5_answer_89 (by decide) ?_
                refine mr_irem C0 dX5_answer_91 (by decide) ?_
                have g11 := h.1
                have h := h.2
                refine mr_iast C0 dX5_answer_92 (Nat.le_of_ble_eq_true rfl) rfl g11 ?_
                refine mr_aload_n C0 dX5_answer_93 rfl (i := 0) rfl ?_
                refine mr_getR C0 dX5_answer_94 fl_X5_30 (Nat.le_of_ble_eq_true rfl) rfl rfl ?_
                refine mr_iload_n C0 dX5_answer_97 rfl (i := 2) rfl ?_
                refine mr_callVI C0 mdX1_bestMove dX5_answer_98 clX1_bestMove ml_X5_170 (Nat.le_of_ble_eq_true rfl) rfl rfl arX1_bestMove (as := [.int x2]) rfl (Nat.le_of_ble_eq_true rfl) (Nat.le_of_ble_eq_true rfl) (Nat.le_of_ble_eq_true rfl) fit0 h (fun r13 S12 h => ?_)
                refine mr_istore (L1 := [some (.ref 0), some (.int x1), some (.int x2), some (.int r8), some (.int (r8 / (10 : Int32))), some (.int (S7.1 2 ((r8 / (10 : Int32)).toNatClampNeg))), some (.int r13)]) C0 dX5_answer_101 (Nat.le_of_ble_eq_true rfl) rfl ?_
                refine mr_aload_n C0 dX5_answer_103 rfl (i := 0) rfl ?_
                refine mr_getR C0 dX5_answer_104 fl_X5_14 (Nat.le_of_ble_eq_true rfl) rfl rfl ?_
                refine mr_getR C0 dX5_answer_107 fl_X5_90 (Nat.le_of_ble_eq_true rfl) rfl rfl ?_
                refine mr_iload C0 dX5_answer_110 rfl ?_
                refine mr_iload C0 dX5_answer_112 rfl ?_
                have g14 := h.1
                have h := h.2
                refine mr_iast C0 dX5_answer_114 (Nat.le_of_ble_eq_true rfl) rfl g14 ?_
                refine mr_iload C0 dX5_answer_115 rfl ?_
                refine mr_iret C0 hr0 hk0 dX5_answer_117 (qI_mk ?_)
                exact h
              · have h := h.2 c9
                refine mr_aload_n C0 dX5_answer_52 rfl (i := 0) rfl ?_
                refine mr_getR C0 dX5_answer_53 fl_X5_30 (Nat.le_of_ble_eq_true rfl) rfl rfl ?_
                refine mr_iload_n C0 dX5_answer_56 rfl (i := 2) rfl ?_
                refine mr_callVI C0 mdX1_bestMove dX5_answer_57 clX1_bestMove ml_X5_170 (Nat.le_of_ble_eq_true rfl) rfl rfl arX1_bestMove (as := [.int x2]) rfl (Nat.le_of_ble_eq_true rfl) (Nat.le_of_ble_eq_true rfl) (Nat.le_of_ble_eq_true rfl) fit0 h (fun r16 S15 h => ?_)
                refine mr_iret C0 hr0 hk0 dX5_answer_60 (qI_mk ?_)
                exact h
          · have h := h.2 c5
            refine mr_bipush (v := (-2)) C0 dX5_answer_21 (by decide) ?_
            refine mr_iret C0 hr0 hk0 dX5_answer_23 (qI_mk ?_)
            exact h
set_option maxRecDepth 100000 in
set_option maxHeartbeats 4000000 in
theorem eX5_likeliest (x1 : Int32) (S : St) (Q : Int32 → St → Prop) (h : ((x1 < 0 → Q (-1 : Int32) S) ∧ (¬ x1 < 0 → (((S.1 4 2) ≤ x1 → Q (-1 : Int32) S) ∧ (¬ (S.1 4 2) ≤ x1 → CallV mdX1_likeliestEnd [.ref 7, .int x1] S (qI fun r4 S3 => ((¬ r4 = (6 : Int32) → Q r4 S3) ∧ (r4 = (6 : Int32) → Q (-9 : Int32) S3)))))))) : CallV mdX5_likeliest [.ref 0, .int x1] S (qI Q) := by
  refine CallV_of mdX5_likeliest plX5_likeliest 1 (Nat.le_of_ble_eq_true rfl) rfl ?_
  intro zp0 zl0 ze0 zs0 zm0 zargs0 zbelow0 zmeth0 zc0 zD0 zad0 zac0 C0 hr0 hk0
  refine mr_aload_n C0 dX5_likeliest_0 rfl (i := 0) rfl ?_
  refine mr_getR C0 dX5_likeliest_1 fl_X5_21 (Nat.le_of_ble_eq_true rfl) rfl rfl ?_
  refine mr_iload_n C0 dX5_likeliest_4 rfl (i := 1) rfl ?_
  refine mr_callVI C0 mdX4_has dX5_likeliest_5 clX4_has ml_X5_115 (Nat.le_of_ble_eq_true rfl) rfl rfl arX4_has (as := [.int x1]) rfl (Nat.le_of_ble_eq_true rfl) (Nat.le_of_ble_eq_true rfl) (Nat.le_of_ble_eq_true rfl) fit0 (CallV_of mdX4_has plX4_has 0 (Nat.le_of_ble_eq_true rfl) rfl ?_) (fun _ _ h => h)
  intro zp1 zl1 ze1 zs1 zm1 zargs1 zbelow1 zmeth1 zc1 zD1 zad1 zac1 C1 hr1 hk1
  refine mr_iload_n C1 dX4_has_0 rfl (i := 1) rfl ?_
  refine mr_if_lt C1 dX4_has_1 (tgt := 16) (by decide) (fun c1 => ?_) (fun c1 => ?_)
  · have h := h.1 c1
    refine mr_iconst (v := 0) C1 dX4_has_16 (by decide) ?_
    refine mr_zret C1 hr1 hk1 dX4_has_17 rfl (qI_mk ?_)
    refine mr_if_ne C0 dX5_likeliest_8 (tgt := 13) (by decide) (fun q => absurd q (by decide)) (fun _ => ?_)
    refine mr_iconst (v := (-1)) C0 dX5_likeliest_11 (by decide) ?_
    refine mr_iret C0 hr0 hk0 dX5_likeliest_12 (qI_mk ?_)
    exact h
  · have h := h.2 c1
    refine mr_iload_n C1 dX4_has_4 rfl (i := 1) rfl ?_
    refine mr_aload_n C1 dX4_has_5 rfl (i := 0) rfl ?_
    refine mr_getI C1 dX4_has_6 fl_X4_18 (Nat.le_of_ble_eq_true rfl) rfl rfl ?_
    refine mr_icmp_ge C1 dX4_has_9 (tgt := 16) (by decide) (fun c2 => ?_) (fun c2 => ?_)
    · have h := h.1 c2
      refine mr_iconst (v := 0) C1 dX4_has_16 (by decide) ?_
      refine mr_zret C1 hr1 hk1 dX4_has_17 rfl (qI_mk ?_)
      refine mr_if_ne C0 dX5_likeliest_8 (tgt := 13) (by decide) (fun q => absurd q (by decide)) (fun _ => ?_)
      refine mr_iconst (v := (-1)) C0 dX5_likeliest_11 (by decide) ?_
      refine mr_iret C0 hr0 hk0 dX5_likeliest_12 (qI_mk ?_)
      exact h
    · have h := h.2 c2
      refine mr_iconst (v := 1) C1 dX4_has_12 (by decide) ?_
      refine mr_goto C1 dX4_has_13 (tgt := 17) (by decide) ?_
      refine mr_zret C1 hr1 hk1 dX4_has_17 rfl (qI_mk ?_)
      refine mr_if_ne C0 dX5_likeliest_8 (tgt := 13) (by decide) (fun _ => ?_) (fun q => absurd q (by decide))
      refine mr_aload_n C0 dX5_likeliest_13 rfl (i := 0) rfl ?_
      refine mr_getR C0 dX5_likeliest_14 fl_X5_30 (Nat.le_of_ble_eq_true rfl) rfl rfl ?_
      refine mr_iload_n C0 dX5_likeliest_17 rfl (i := 1) rfl ?_
      refine mr_callVI C0 mdX1_likeliestEnd dX5_likeliest_18 clX1_likeliestEnd ml_X5_173 (Nat.le_of_ble_eq_true rfl) rfl rfl arX1_likeliestEnd (as := [.int x1]) rfl (Nat.le_of_ble_eq_true rfl) (Nat.le_of_ble_eq_true rfl) (Nat.le_of_ble_eq_true rfl) fit0 h (fun r4 S3 h => ?_)
      refine mr_istore_n (L1 := [some (.ref 0), some (.int x1), some (.int r4)]) C0 dX5_likeliest_21 rfl (Nat.le_of_ble_eq_true rfl) rfl ?_
      refine mr_iload_n C0 dX5_likeliest_22 rfl (i := 2) rfl ?_
      refine mr_bipush (v := 6) C0 dX5_likeliest_23 (by decide) ?_
      refine mr_icmp_ne C0 dX5_likeliest_25 (tgt := 33) (by decide) (fun c5 => ?_) (fun c5 => ?_)
      · have h := h.1 c5
        refine mr_iload_n C0 dX5_likeliest_33 rfl (i := 2) rfl ?_
        refine mr_iret C0 hr0 hk0 dX5_likeliest_34 (qI_mk ?_)
        exact h
      · have h := h.2 c5
        refine mr_bipush (v := (-9)) C0 dX5_likeliest_28 (by decide) ?_
        refine mr_goto C0 dX5_likeliest_30 (tgt := 34) (by decide) ?_
        refine mr_iret C0 hr0 hk0 dX5_likeliest_34 (qI_mk ?_)
        exact h
set_option maxRecDepth 100000 in
set_option maxHeartbeats 4000000 in
theorem eX5_tally (x1 : Int32) (S : St) (Q : Int32 → St → Prop) (h : ((x1 < 0 → Q (-1 : Int32) S) ∧ (¬ x1 < 0 → (((4 : Int32) ≤ x1 → Q (-1 : Int32) S) ∧ (¬ (4 : Int32) ≤ x1 → (((S.1 1 3) ≤ 0 → Q (-3 : Int32) S) ∧ (¬ (S.1 1 3) ≤ 0 → CallV mdX1_findLeanings [.ref 7] S (qV fun S4 => CallV mdX1_tallyWithout [.ref 7, .int (-9 : Int32)] S4 (qV fun S5 => (vp_in x1 4) ∧ Q (S5.1 17 x1.toNatClampNeg) S5))))))))) : CallV mdX5_tally [.ref 0, .int x1] S (qI Q) := by
  refine CallV_of mdX5_tally plX5_tally 0 (Nat.le_of_ble_eq_true rfl) rfl ?_
  intro zp0 zl0 ze0 zs0 zm0 zargs0 zbelow0 zmeth0 zc0 zD0 zad0 zac0 C0 hr0 hk0
  refine mr_iload_n C0 dX5_tally_0 rfl (i := 1) rfl ?_
  refine mr_callSI C0 mdX5_isParty dX5_tally_1 clX5_isParty ml_X5_160 arX5_isParty (as := [.int x1]) rfl (Nat.le_of_ble_eq_true rfl) (Nat.le_of_ble_eq_true rfl) (Nat.le_of_ble_eq_true rfl) fit0 (CallV_of mdX5_isParty plX5_isParty 0 (Nat.le_of_ble_eq_true rfl) rfl ?_) (fun _ _ h => h)
  intro zp1 zl1 ze1 zs1 zm1 zargs1 zbelow1 zmeth1 zc1 zD1 zad1 zac1 C1 hr1 hk1
  refine mr_iload_n C1 dX5_isParty_0 rfl (i := 0) rfl ?_
  refine mr_if_lt C1 dX5_isParty_1 (tgt := 13) (by decide) (fun c1 => ?_) (fun c1 => ?_)
  · have h := h.1 c1
    refine mr_iconst (v := 0) C1 dX5_isParty_13 (by decide) ?_
    refine mr_zret C1 hr1 hk1 dX5_isParty_14 rfl (qI_mk ?_)
    refine mr_if_ne C0 dX5_tally_4 (tgt := 9) (by decide) (fun q => absurd q (by decide)) (fun _ => ?_)
    refine mr_iconst (v := (-1)) C0 dX5_tally_7 (by decide) ?_
    refine mr_iret C0 hr0 hk0 dX5_tally_8 (qI_mk ?_)
    exact h
  · have h := h.2 c1
    refine mr_iload_n C1 dX5_isParty_4 rfl (i := 0) rfl ?_
    refine mr_iconst (v := 4) C1 dX5_isParty_5 (by decide) ?_
    refine mr_icmp_ge C1 dX5_isParty_6 (tgt := 13) (by decide) (fun c2 => ?_) (fun c2 => ?_)
    · have h := h.1 c2
      refine mr_iconst (v := 0) C1 dX5_isParty_13 (by decide) ?_
      refine mr_zret C1 hr1 hk1 dX5_isParty_14 rfl (qI_mk ?_)
      refine mr_if_ne C0 dX5_tally_4 (tgt := 9) (by decide) (fun q => absurd q (by decide)) (fun _ => ?_)
      refine mr_iconst (v := (-1)) C0 dX5_tally_7 (by decide) ?_
      refine mr_iret C0 hr0 hk0 dX5_tally_8 (qI_mk ?_)
      exact h
    · have h := h.2 c2
      refine mr_iconst (v := 1) C1 dX5_isParty_9 (by decide) ?_
      refine mr_goto C1 dX5_isParty_10 (tgt := 14) (by decide) ?_
      refine mr_zret C1 hr1 hk1 dX5_isParty_14 rfl (qI_mk ?_)
      refine mr_if_ne C0 dX5_tally_4 (tgt := 9) (by decide) (fun _ => ?_) (fun q => absurd q (by decide))
      refine mr_aload_n C0 dX5_tally_9 rfl (i := 0) rfl ?_
      refine mr_getR C0 dX5_tally_10 fl_X5_14 (Nat.le_of_ble_eq_true rfl) rfl rfl ?_
      refine mr_callVI C0 mdX2_stands dX5_tally_13 clX2_stands ml_X5_100 (Nat.le_of_ble_eq_true rfl) rfl rfl arX2_stands (as := []) rfl (Nat.le_of_ble_eq_true rfl) (Nat.le_of_ble_eq_true rfl) (Nat.le_of_ble_eq_true rfl) fit0 (CallV_of mdX2_stands plX2_stands 0 (Nat.le_of_ble_eq_true rfl) rfl ?_) (fun _ _ h => h)
      intro zp2 zl2 ze2 zs2 zm2 zargs2 zbelow2 zmeth2 zc2 zD2 zad2 zac2 C2 hr2 hk2
      refine mr_aload_n C2 dX2_stands_0 rfl (i := 0) rfl ?_
      refine mr_getI C2 dX2_stands_1 fl_X2_22 (Nat.le_of_ble_eq_true rfl) rfl rfl ?_
      refine mr_if_le C2 dX2_stands_4 (tgt := 11) (by decide) (fun c3 => ?_) (fun c3 => ?_)
      · have h := h.1 c3
        refine mr_iconst (v := 0) C2 dX2_stands_11 (by decide) ?_
        refine mr_zret C2 hr2 hk2 dX2_stands_12 rfl (qI_mk ?_)
        refine mr_if_eq C0 dX5_tally_16 (tgt := 30) (by decide) (fun _ => ?_) (fun q => absurd q (by decide))
        refine mr_bipush (v := (-3)) C0 dX5_tally_30 (by decide) ?_
        refine mr_iret C0 hr0 hk0 dX5_tally_32 (qI_mk ?_)
        exact h
      · have h := h.2 c3
        refine mr_iconst (v := 1) C2 dX2_stands_7 (by decide) ?_
        refine mr_goto C2 dX2_stands_8 (tgt := 12) (by decide) ?_
        refine mr_zret C2 hr2 hk2 dX2_stands_12 rfl (qI_mk ?_)
        refine mr_if_eq C0 dX5_tally_16 (tgt := 30) (by decide) (fun q => absurd q (by decide)) (fun _ => ?_)
        refine mr_aload_n C0 dX5_tally_19 rfl (i := 0) rfl ?_
        refine mr_getR C0 dX5_tally_20 fl_X5_30 (Nat.le_of_ble_eq_true rfl) rfl rfl ?_
        refine mr_iload_n C0 dX5_tally_23 rfl (i := 1) rfl ?_
        refine mr_callVI C0 mdX1_tallyOf dX5_tally_24 clX1_tallyOf ml_X5_176 (Nat.le_of_ble_eq_true rfl) rfl rfl arX1_tallyOf (as := [.int x1]) rfl (Nat.le_of_ble_eq_true rfl) (Nat.le_of_ble_eq_true rfl) (Nat.le_of_ble_eq_true rfl) fit0 (CallV_of mdX1_tallyOf plX1_tallyOf 0 (Nat.le_of_ble_eq_true rfl) rfl ?_) (fun _ _ h => h)
        intro zp3 zl3 ze3 zs3 zm3 zargs3 zbelow3 zmeth3 zc3 zD3 zad3 zac3 C3 hr3 hk3
        refine mr_aload_n C3 dX1_tallyOf_0 rfl (i := 0) rfl ?_
        refine mr_callVV C3 mdX1_findLeanings dX1_tallyOf_1 clX1_findLeanings ml_X1_118 (Nat.le_of_ble_eq_true rfl) rfl rfl arX1_findLeanings (as := []) rfl (Nat.le_of_ble_eq_true rfl) (Nat.le_of_ble_eq_true rfl) (Nat.le_of_ble_eq_true rfl) fit0 h (fun S4 h => ?_)
        refine mr_aload_n C3 dX1_tallyOf_4 rfl (i := 0) rfl ?_
        refine mr_bipush (v := (-9)) C3 dX1_tallyOf_5 (by decide) ?_
        refine mr_callVV C3 mdX1_tallyWithout dX1_tallyOf_7 clX1_tallyWithout ml_X1_121 (Nat.le_of_ble_eq_true rfl) rfl rfl arX1_tallyWithout (as := [.int (-9 : Int32)]) rfl (Nat.le_of_ble_eq_true rfl) (Nat.le_of_ble_eq_true rfl) (Nat.le_of_ble_eq_true rfl) fit0 h (fun S5 h => ?_)
        refine mr_aload_n C3 dX1_tallyOf_10 rfl (i := 0) rfl ?_
        refine mr_getR C3 dX1_tallyOf_11 fl_X1_23 (Nat.le_of_ble_eq_true rfl) rfl rfl ?_
        refine mr_iload_n C3 dX1_tallyOf_14 rfl (i := 1) rfl ?_
        have g6 := h.1
        have h := h.2
        refine mr_iald C3 dX1_tallyOf_15 (Nat.le_of_ble_eq_true rfl) rfl g6 ?_
        refine mr_iret C3 hr3 hk3 dX1_tallyOf_16 (qI_mk ?_)
        refine mr_goto C0 dX5_tally_27 (tgt := 32) (by decide) ?_
        refine mr_iret C0 hr0 hk0 dX5_tally_32 (qI_mk ?_)
        exact h
set_option maxRecDepth 100000 in
set_option maxHeartbeats 4000000 in
theorem eX5_winner (x1 : Int32) (S : St) (Q : Int32 → St → Prop) (h : ((x1 < 0 → Q (-2 : Int32) S) ∧ (¬ x1 < 0 → ((x1 ≤ (1 : Int32) → (((S.1 1 3) ≤ 0 → Q (-3 : Int32) S) ∧ (¬ (S.1 1 3) ≤ 0 → ((¬ x1 = 0 → CallV mdX1_votesItHangsOn [.ref 7] S (qI fun r6 S5 => Q r6 S5)) ∧ (x1 = 0 → CallV mdX1_findLeanings [.ref 7] S (qV fun S7 => CallV mdX1_winnerWithout [.ref 7, .int (-9 : Int32)] S7 (qI fun r9 S8 => Q r9 S8))))))) ∧ (¬ x1 ≤ (1 : Int32) → Q (-2 : Int32) S))))) : CallV mdX5_winner [.ref 0, .int x1] S (qI Q) := by
  refine CallV_of mdX5_winner plX5_winner 0 (Nat.le_of_ble_eq_true rfl) rfl ?_
  intro zp0 zl0 ze0 zs0 zm0 zargs0 zbelow0 zmeth0 zc0 zD0 zad0 zac0 C0 hr0 hk0
  refine mr_iload_n C0 dX5_winner_0 rfl (i := 1) rfl ?_
  refine mr_if_lt C0 dX5_winner_1 (tgt := 9) (by decide) (fun c1 => ?_) (fun c1 => ?_)
  · have h := h.1 c1
    refine mr_bipush (v := (-2)) C0 dX5_winner_9 (by decide) ?_
    refine mr_iret C0 hr0 hk0 dX5_winner_11 (qI_mk ?_)
    exact h
  · have h := h.2 c1
    refine mr_iload_n C0 dX5_winner_4 rfl (i := 1) rfl ?_
    refine mr_iconst (v := 1) C0 dX5_winner_5 (by decide) ?_
    refine mr_icmp_le C0 dX5_winner_6 (tgt := 12) (by decide) (fun c2 => ?_) (fun c2 => ?_)
    · have h := h.1 c2
      refine mr_aload_n C0 dX5_winner_12 rfl (i := 0) rfl ?_
      refine mr_getR C0 dX5_winner_13 fl_X5_14 (Nat.le_of_ble_eq_true rfl) rfl rfl ?_
      refine mr_callVI C0 mdX2_stands dX5_winner_16 clX2_stands ml_X5_100 (Nat.le_of_ble_eq_true rfl) rfl rfl arX2_stands (as := []) rfl (Nat.le_of_ble_eq_true rfl) (Nat.le_of_ble_eq_true rfl) (Nat.le_of_ble_eq_true rfl) fit0 (CallV_of mdX2_stands plX2_stands 0 (Nat.le_of_ble_eq_true rfl) rfl ?_) (fun _ _ h => h)
      intro zp1 zl1 ze1 zs1 zm1 zargs1 zbelow1 zmeth1 zc1 zD1 zad1 zac1 C1 hr1 hk1
      refine mr_aload_n C1 dX2_stands_0 rfl (i := 0) rfl ?_
      refine mr_getI C1 dX2_stands_1 fl_X2_22 (Nat.le_of_ble_eq_true rfl) rfl rfl ?_
      refine mr_if_le C1 dX2_stands_4 (tgt := 11) (by decide) (fun c3 => ?_) (fun c3 => ?_)
      · have h := h.1 c3
        refine mr_iconst (v := 0) C1 dX2_stands_11 (by decide) ?_
        refine mr_zret C1 hr1 hk1 dX2_stands_12 rfl (qI_mk ?_)
        refine mr_if_ne C0 dX5_winner_19 (tgt := 25) (by decide) (fun q => absurd q (by decide)) (fun _ => ?_)
        refine mr_bipush (v := (-3)) C0 dX5_winner_22 (by decide) ?_
        refine mr_iret C0 hr0 hk0 dX5_winner_24 (qI_mk ?_)
        exact h
      · have h := h.2 c3
        refine mr_iconst (v := 1) C1 dX2_stands_7 (by decide) ?_
        refine mr_goto C1 dX2_stands_8 (tgt := 12) (by decide) ?_
        refine mr_zret C1 hr1 hk1 dX2_stands_12 rfl (qI_mk ?_)
        refine mr_if_ne C0 dX5_winner_19 (tgt := 25) (by decide) (fun _ => ?_) (fun q => absurd q (by decide))
        refine mr_iload_n C0 dX5_winner_25 rfl (i := 1) rfl ?_
        refine mr_if_ne C0 dX5_winner_26 (tgt := 39) (by decide) (fun c4 => ?_) (fun c4 => ?_)
        · have h := h.1 c4
          refine mr_aload_n C0 dX5_winner_39 rfl (i := 0) rfl ?_
          refine mr_getR C0 dX5_winner_40 fl_X5_30 (Nat.le_of_ble_eq_true rfl) rfl rfl ?_
          refine mr_callVI C0 mdX1_votesItHangsOn dX5_winner_43 clX1_votesItHangsOn ml_X5_182 (Nat.le_of_ble_eq_true rfl) rfl rfl arX1_votesItHangsOn (as := []) rfl (Nat.le_of_ble_eq_true rfl) (Nat.le_of_ble_eq_true rfl) (Nat.le_of_ble_eq_true rfl) fit0 h (fun r6 S5 h => ?_)
          refine mr_iret C0 hr0 hk0 dX5_winner_46 (qI_mk ?_)
          exact h
        · have h := h.2 c4
          refine mr_aload_n C0 dX5_winner_29 rfl (i := 0) rfl ?_
          refine mr_getR C0 dX5_winner_30 fl_X5_30 (Nat.le_of_ble_eq_true rfl) rfl rfl ?_
          refine mr_callVI C0 mdX1_winnerOfAll dX5_winner_33 clX1_winnerOfAll ml_X5_179 (Nat.le_of_ble_eq_true rfl) rfl rfl arX1_winnerOfAll (as := []) rfl (Nat.le_of_ble_eq_true rfl) (Nat.le_of_ble_eq_true rfl) (Nat.le_of_ble_eq_true rfl) fit0 (CallV_of mdX1_winnerOfAll plX1_winnerOfAll 0 (Nat.le_of_ble_eq_true rfl) rfl ?_) (fun _ _ h => h)
          intro zp2 zl2 ze2 zs2 zm2 zargs2 zbelow2 zmeth2 zc2 zD2 zad2 zac2 C2 hr2 hk2
          refine mr_aload_n C2 dX1_winnerOfAll_0 rfl (i := 0) rfl ?_
          refine mr_callVV C2 mdX1_findLeanings dX1_winnerOfAll_1 clX1_findLeanings ml_X1_118 (Nat.le_of_ble_eq_true rfl) rfl rfl arX1_findLeanings (as := []) rfl (Nat.le_of_ble_eq_true rfl) (Nat.le_of_ble_eq_true rfl) (Nat.le_of_ble_eq_true rfl) fit0 h (fun S7 h => ?_)
          refine mr_aload_n C2 dX1_winnerOfAll_4 rfl (i := 0) rfl ?_
          refine mr_bipush (v := (-9)) C2 dX1_winnerOfAll_5 (by decide) ?_
          refine mr_callVI C2 mdX1_winnerWithout dX1_winnerOfAll_7 clX1_winnerWithout ml_X1_124 (Nat.le_of_ble_eq_true rfl) rfl rfl arX1_winnerWithout (as := [.int (-9 : Int32)]) rfl (Nat.le_of_ble_eq_true rfl) (Nat.le_of_ble_eq_true rfl) (Nat.le_of_ble_eq_true rfl) fit0 h (fun r9 S8 h => ?_)
          refine mr_iret C2 hr2 hk2 dX1_winnerOfAll_10 (qI_mk ?_)
          refine mr_goto C0 dX5_winner_36 (tgt := 46) (by decide) ?_
          refine mr_iret C0 hr0 hk0 dX5_winner_46 (qI_mk ?_)
          exact h
    · have h := h.2 c2
      refine mr_bipush (v := (-2)) C0 dX5_winner_9 (by decide) ?_
      refine mr_iret C0 hr0 hk0 dX5_winner_11 (qI_mk ?_)
      exact h
set_option maxRecDepth 100000 in
set_option maxHeartbeats 4000000 in
theorem eX5_dams (x1 : Int32) (S : St) (Q : Int64 → St → Prop) (h : ((x1 < 0 → Q (-9223372036854775808 : Int64) S) ∧ (¬ x1 < 0 → (((1 : Int32) < x1 → Q (-9223372036854775808 : Int64) S) ∧ (¬ (1 : Int32) < x1 → (((S.1 1 3) ≤ 0 → Q (-9223372036854775808 : Int64) S) ∧ (¬ (S.1 1 3) ≤ 0 → ((¬ x1 = 0 → CallV mdX1_damsReached [.ref 7, .int (0 : Int32)] S (qJ fun r6 S5 => Q r6 S5)) ∧ (x1 = 0 → CallV mdX1_damsReached [.ref 7, .int (1 : Int32)] S (qJ fun r8 S7 => Q r8 S7)))))))))) : CallV mdX5_dams [.ref 0, .int x1] S (qJ Q) := by
  refine CallV_of mdX5_dams plX5_dams 0 (Nat.le_of_ble_eq_true rfl) rfl ?_
  intro zp0 zl0 ze0 zs0 zm0 zargs0 zbelow0 zmeth0 zc0 zD0 zad0 zac0 C0 hr0 hk0
  refine mr_iload_n C0 dX5_dams_0 rfl (i := 1) rfl ?_
  refine mr_if_lt C0 dX5_dams_1 (tgt := 19) (by decide) (fun c1 => ?_) (fun c1 => ?_)
  · have h := h.1 c1
    refine mr_ldc2 C0 dX5_dams_19 cn_X5_145 ?_
    refine mr_lret C0 hr0 hk0 dX5_dams_22 (qJ_mk ?_)
    exact h
  · have h := h.2 c1
    refine mr_iload_n C0 dX5_dams_4 rfl (i := 1) rfl ?_
    refine mr_iconst (v := 1) C0 dX5_dams_5 (by decide) ?_
    refine mr_icmp_gt C0 dX5_dams_6 (tgt := 19) (by decide) (fun c2 => ?_) (fun c2 => ?_)
    · have h := h.1 c2
      refine mr_ldc2 C0 dX5_dams_19 cn_X5_145 ?_
      refine mr_lret C0 hr0 hk0 dX5_dams_22 (qJ_mk ?_)
      exact h
    · have h := h.2 c2
      refine mr_aload_n C0 dX5_dams_9 rfl (i := 0) rfl ?_
      refine mr_getR C0 dX5_dams_10 fl_X5_14 (Nat.le_of_ble_eq_true rfl) rfl rfl ?_
      refine mr_callVI C0 mdX2_stands dX5_dams_13 clX2_stands ml_X5_100 (Nat.le_of_ble_eq_true rfl) rfl rfl arX2_stands (as := []) rfl (Nat.le_of_ble_eq_true rfl) (Nat.le_of_ble_eq_true rfl) (Nat.le_of_ble_eq_true rfl) fit0 (CallV_of mdX2_stands plX2_stands 0 (Nat.le_of_ble_eq_true rfl) rfl ?_) (fun _ _ h => h)
      intro zp1 zl1 ze1 zs1 zm1 zargs1 zbelow1 zmeth1 zc1 zD1 zad1 zac1 C1 hr1 hk1
      refine mr_aload_n C1 dX2_stands_0 rfl (i := 0) rfl ?_
      refine mr_getI C1 dX2_stands_1 fl_X2_22 (Nat.le_of_ble_eq_true rfl) rfl rfl ?_
      refine mr_if_le C1 dX2_stands_4 (tgt := 11) (by decide) (fun c3 => ?_) (fun c3 => ?_)
      · have h := h.1 c3
        refine mr_iconst (v := 0) C1 dX2_stands_11 (by decide) ?_
        refine mr_zret C1 hr1 hk1 dX2_stands_12 rfl (qI_mk ?_)
        refine mr_if_ne C0 dX5_dams_16 (tgt := 23) (by decide) (fun q => absurd q (by decide)) (fun _ => ?_)
        refine mr_ldc2 C0 dX5_dams_19 cn_X5_145 ?_
        refine mr_lret C0 hr0 hk0 dX5_dams_22 (qJ_mk ?_)
        exact h
      · have h := h.2 c3
        refine mr_iconst (v := 1) C1 dX2_stands_7 (by decide) ?_
        refine mr_goto C1 dX2_stands_8 (tgt := 12) (by decide) ?_
        refine mr_zret C1 hr1 hk1 dX2_stands_12 rfl (qI_mk ?_)
        refine mr_if_ne C0 dX5_dams_16 (tgt := 23) (by decide) (fun _ => ?_) (fun q => absurd q (by decide))
        refine mr_aload_n C0 dX5_dams_23 rfl (i := 0) rfl ?_
        refine mr_getR C0 dX5_dams_24 fl_X5_30 (Nat.le_of_ble_eq_true rfl) rfl rfl ?_
        refine mr_iload_n C0 dX5_dams_27 rfl (i := 1) rfl ?_
        refine mr_if_ne C0 dX5_dams_28 (tgt := 35) (by decide) (fun c4 => ?_) (fun c4 => ?_)
        · have h := h.1 c4
          refine mr_iconst (v := 0) C0 dX5_dams_35 (by decide) ?_
          refine mr_callVJ C0 mdX1_damsReached dX5_dams_36 clX1_damsReached ml_X5_185 (Nat.le_of_ble_eq_true rfl) rfl rfl arX1_damsReached (as := [.int (0 : Int32)]) rfl (Nat.le_of_ble_eq_true rfl) (Nat.le_of_ble_eq_true rfl) (Nat.le_of_ble_eq_true rfl) fit0 h (fun r6 S5 h => ?_)
          refine mr_lret C0 hr0 hk0 dX5_dams_39 (qJ_mk ?_)
          exact h
        · have h := h.2 c4
          refine mr_iconst (v := 1) C0 dX5_dams_31 (by decide) ?_
          refine mr_goto C0 dX5_dams_32 (tgt := 36) (by decide) ?_
          refine mr_callVJ C0 mdX1_damsReached dX5_dams_36 clX1_damsReached ml_X5_185 (Nat.le_of_ble_eq_true rfl) rfl rfl arX1_damsReached (as := [.int (1 : Int32)]) rfl (Nat.le_of_ble_eq_true rfl) (Nat.le_of_ble_eq_true rfl) (Nat.le_of_ble_eq_true rfl) fit0 h (fun r8 S7 h => ?_)
          refine mr_lret C0 hr0 hk0 dX5_dams_39 (qJ_mk ?_)
          exact h
set_option maxRecDepth 100000 in
set_option maxHeartbeats 4000000 in
theorem eX5_ways (x1 : Int32) (x2 : Int32) (x3 : Int32) (x4 : Int32) (S : St) (Q : Int32 → St → Prop) (h : ((x1 = (-1 : Int32) → ((x2 < 0 → Q (-1 : Int32) (sI S 0 6 (0 : Int32))) ∧ (¬ x2 < 0 → (((4 : Int32) ≤ x2 → Q (-1 : Int32) (sI S 0 6 (0 : Int32))) ∧ (¬ (4 : Int32) ≤ x2 → ((x3 < 0 → Q (-2 : Int32) (sI S 0 6 (0 : Int32))) ∧ (¬ x3 < 0 → (((3 : Int32) ≤ x3 → Q (-2 : Int32) (sI S 0 6 (0 : Int32))) ∧ (¬ (3 : Int32) ≤ x3 → (((S.1 1 3) ≤ 0 → Q (-3 : Int32) (sI S 0 6 (0 : Int32))) ∧ (¬ (S.1 1 3) ≤ 0 → (vp_in x2 4) ∧ ((¬ ((sI S 0 6 (0 : Int32)).1 (26 + 2 * x2.toNatClampNeg) 1) = 0 → ((¬ ((sI S 0 6 (0 : Int32)).1 (26 + 2 * x2.toNatClampNeg) 2) = x3 → Q (-12 : Int32) (sI (sI S 0 6 (0 : Int32)) 0 6 (2 : Int32))) ∧ (((sI S 0 6 (0 : Int32)).1 (26 + 2 * x2.toNatClampNeg) 2) = x3 → ((((sI S 0 6 (0 : Int32)).1 (26 + 2 * x2.toNatClampNeg) 1) = 0 → Q (-13 : Int32) (sI (sI S 0 6 (0 : Int32)) 0 6 (3 : Int32))) ∧ (¬ ((sI S 0 6 (0 : Int32)).1 (26 + 2 * x2.toNatClampNeg) 1) = 0 → ((x4 < 0 → Q (-13 : Int32) (sI (sI S 0 6 (0 : Int32)) 0 6 (3 : Int32))) ∧ (¬ x4 < 0 → ((((S.1 1 3) + (1 : Int32)) < 0 → Q (-13 : Int32) (sI (sI S 0 6 (0 : Int32)) 0 6 (3 : Int32))) ∧ (¬ ((S.1 1 3) + (1 : Int32)) < 0 → ((((sI S 0 6 (0 : Int32)).1 (26 + 2 * x2.toNatClampNeg) 3) < x4 → Q (-13 : Int32) (sI (sI S 0 6 (0 : Int32)) 0 6 (3 : Int32))) ∧ (¬ ((sI S 0 6 (0 : Int32)).1 (26 + 2 * x2.toNatClampNeg) 3) < x4 → (((((sI S 0 6 (0 : Int32)).1 (26 + 2 * x2.toNatClampNeg) 3) - x4) < ((S.1 1 3) + (1 : Int32)) → Q (-13 : Int32) (sI (sI S 0 6 (0 : Int32)) 0 6 (3 : Int32))) ∧ (¬ (((sI S 0 6 (0 : Int32)).1 (26 + 2 * x2.toNatClampNeg) 3) - x4) < ((S.1 1 3) + (1 : Int32)) → CallV mdX0_take [.ref 19, .ref (26 + 2 * x2.toNatClampNeg), .int x4, .int (S.1 1 3), .int (S.1 4 2)] (sI S 0 6 (0 : Int32)) (qI fun r16 S15 => ((¬ r16 = 0 → V mdX5_ways 141 [some (.ref 0), some (.int x1), none, none, none, none, none, some (.int (0 : Int32))] [] S15 (qI Q)) ∧ (r16 = 0 → Q (0 : Int32) S15)))))))))))))))) ∧ (((sI S 0 6 (0 : Int32)).1 (26 + 2 * x2.toNatClampNeg) 1) = 0 → Q (-11 : Int32) (sI (sI S 0 6 (0 : Int32)) 0 6 (1 : Int32))))))))))))))) ∧ (¬ x1 = (-1 : Int32) → ((x1 < 0 → Q (-1 : Int32) (sI S 0 6 (0 : Int32))) ∧ (¬ x1 < 0 → (((S.1 4 2) ≤ x1 → Q (-1 : Int32) (sI S 0 6 (0 : Int32))) ∧ (¬ (S.1 4 2) ≤ x1 → ((x2 < 0 → Q (-1 : Int32) (sI S 0 6 (0 : Int32))) ∧ (¬ x2 < 0 → (((4 : Int32) ≤ x2 → Q (-1 : Int32) (sI S 0 6 (0 : Int32))) ∧ (¬ (4 : Int32) ≤ x2 → ((x3 < 0 → Q (-2 : Int32) (sI S 0 6 (0 : Int32))) ∧ (¬ x3 < 0 → (((3 : Int32) ≤ x3 → Q (-2 : Int32) (sI S 0 6 (0 : Int32))) ∧ (¬ (3 : Int32) ≤ x3 → (((S.1 1 3) ≤ 0 → Q (-3 : Int32) (sI S 0 6 (0 : Int32))) ∧ (¬ (S.1 1 3) ≤ 0 → (vp_in x2 4) ∧ ((¬ ((sI S 0 6 (0 : Int32)).1 (26 + 2 * x2.toNatClampNeg) 1) = 0 → ((¬ ((sI S 0 6 (0 : Int32)).1 (26 + 2 * x2.toNatClampNeg) 2) = x3 → Q (-12 : Int32) (sI (sI S 0 6 (0 : Int32)) 0 6 (2 : Int32))) ∧ (((sI S 0 6 (0 : Int32)).1 (26 + 2 * x2.toNatClampNeg) 2) = x3 → ((((sI S 0 6 (0 : Int32)).1 (26 + 2 * x2.toNatClampNeg) 1) = 0 → Q (-13 : Int32) (sI (sI S 0 6 (0 : Int32)) 0 6 (3 : Int32))) ∧ (¬ ((sI S 0 6 (0 : Int32)).1 (26 + 2 * x2.toNatClampNeg) 1) = 0 → ((x4 < 0 → Q (-13 : Int32) (sI (sI S 0 6 (0 : Int32)) 0 6 (3 : Int32))) ∧ (¬ x4 < 0 → ((((S.1 1 3) + (1 : Int32)) < 0 → Q (-13 : Int32) (sI (sI S 0 6 (0 : Int32)) 0 6 (3 : Int32))) ∧ (¬ ((S.1 1 3) + (1 : Int32)) < 0 → ((((sI S 0 6 (0 : Int32)).1 (26 + 2 * x2.toNatClampNeg) 3) < x4 → Q (-13 : Int32) (sI (sI S 0 6 (0 : Int32)) 0 6 (3 : Int32))) ∧ (¬ ((sI S 0 6 (0 : Int32)).1 (26 + 2 * x2.toNatClampNeg) 3) < x4 → (((((sI S 0 6 (0 : Int32)).1 (26 + 2 * x2.toNatClampNeg) 3) - x4) < ((S.1 1 3) + (1 : Int32)) → Q (-13 : Int32) (sI (sI S 0 6 (0 : Int32)) 0 6 (3 : Int32))) ∧ (¬ (((sI S 0 6 (0 : Int32)).1 (26 + 2 * x2.toNatClampNeg) 3) - x4) < ((S.1 1 3) + (1 : Int32)) → CallV mdX0_take [.ref 19, .ref (26 + 2 * x2.toNatClampNeg), .int x4, .int (S.1 1 3), .int (S.1 4 2)] (sI S 0 6 (0 : Int32)) (qI fun r34 S33 => ((¬ r34 = 0 → V mdX5_ways 141 [some (.ref 0), some (.int x1), none, none, none, none, none, some (.int (0 : Int32))] [] S33 (qI Q)) ∧ (r34 = 0 → Q (0 : Int32) S33)))))))))))))))) ∧ (((sI S 0 6 (0 : Int32)).1 (26 + 2 * x2.toNatClampNeg) 1) = 0 → Q (-11 : Int32) (sI (sI S 0 6 (0 : Int32)) 0 6 (1 : Int32))))))))))))))))))))) : CallV mdX5_ways [.ref 0, .int x1, .int x2, .int x3, .int x4] S (qI Q) := by
  refine CallV_of mdX5_ways plX5_ways 3 (Nat.le_of_ble_eq_true rfl) rfl ?_
  intro zp0 zl0 ze0 zs0 zm0 zargs0 zbelow0 zmeth0 zc0 zD0 zad0 zac0 C0 hr0 hk0
  refine mr_aload_n C0 dX5_ways_0 rfl (i := 0) rfl ?_
  refine mr_iconst (v := 0) C0 dX5_ways_1 (by decide) ?_
  refine mr_putI C0 dX5_ways_2 fl_X5_52 (Nat.le_of_ble_eq_true rfl) rfl rfl rfl rfl ?_
  refine mr_iload_n C0 dX5_ways_5 rfl (i := 1) rfl ?_
  refine mr_iconst (v := (-1)) C0 dX5_ways_6 (by decide) ?_
  refine mr_icmp_eq C0 dX5_ways_7 (tgt := 21) (by decide) (fun c1 => ?_) (fun c1 => ?_)
  · have h := h.1 c1
    refine mr_iload_n C0 dX5_ways_21 rfl (i := 2) rfl ?_
    refine mr_callSI C0 mdX5_isSheet dX5_ways_22 clX5_isSheet ml_X5_55 arX5_isSheet (as := [.int x2]) rfl (Nat.le_of_ble_eq_true rfl) (Nat.le_of_ble_eq_true rfl) (Nat.le_of_ble_eq_true rfl) fit0 (CallV_of mdX5_isSheet plX5_isSheet 0 (Nat.le_of_ble_eq_true rfl) rfl ?_) (fun _ _ h => h)
    intro zp1 zl1 ze1 zs1 zm1 zargs1 zbelow1 zmeth1 zc1 zD1 zad1 zac1 C1 hr1 hk1
    refine mr_iload_n C1 dX5_isSheet_0 rfl (i := 0) rfl ?_
    refine mr_if_lt C1 dX5_isSheet_1 (tgt := 13) (by decide) (fun c2 => ?_) (fun c2 => ?_)
    · have h := h.1 c2
      refine mr_iconst (v := 0) C1 dX5_isSheet_13 (by decide) ?_
      refine mr_zret C1 hr1 hk1 dX5_isSheet_14 rfl (qI_mk ?_)
      refine mr_if_ne C0 dX5_ways_25 (tgt := 30) (by decide) (fun q => absurd q (by decide)) (fun _ => ?_)
      refine mr_iconst (v := (-1)) C0 dX5_ways_28 (by decide) ?_
      refine mr_iret C0 hr0 hk0 dX5_ways_29 (qI_mk ?_)
      exact h
    · have h := h.2 c2
      refine mr_iload_n C1 dX5_isSheet_4 rfl (i := 0) rfl ?_
      refine mr_iconst (v := 4) C1 dX5_isSheet_5 (by decide) ?_
      refine mr_icmp_ge C1 dX5_isSheet_6 (tgt := 13) (by decide) (fun c3 => ?_) (fun c3 => ?_)
      · have h := h.1 c3
        refine mr_iconst (v := 0) C1 dX5_isSheet_13 (by decide) ?_
        refine mr_zret C1 hr1 hk1 dX5_isSheet_14 rfl (qI_mk ?_)
        refine mr_if_ne C0 dX5_ways_25 (tgt := 30) (by decide) (fun q => absurd q (by decide)) (fun _ => ?_)
        refine mr_iconst (v := (-1)) C0 dX5_ways_28 (by decide) ?_
        refine mr_iret C0 hr0 hk0 dX5_ways_29 (qI_mk ?_)
        exact h
      · have h := h.2 c3
        refine mr_iconst (v := 1) C1 dX5_isSheet_9 (by decide) ?_
        refine mr_goto C1 dX5_isSheet_10 (tgt := 14) (by decide) ?_
        refine mr_zret C1 hr1 hk1 dX5_isSheet_14 rfl (qI_mk ?_)
        refine mr_if_ne C0 dX5_ways_25 (tgt := 30) (by decide) (fun _ => ?_) (fun q => absurd q (by decide))
        refine mr_iload_n C0 dX5_ways_30 rfl (i := 3) rfl ?_
        refine mr_callSI C0 mdX5_isLane dX5_ways_31 clX5_isLane ml_X5_59 arX5_isLane (as := [.int x3]) rfl (Nat.le_of_ble_eq_true rfl) (Nat.le_of_ble_eq_true rfl) (Nat.le_of_ble_eq_true rfl) fit0 (CallV_of mdX5_isLane plX5_isLane 0 (Nat.le_of_ble_eq_true rfl) rfl ?_) (fun _ _ h => h)
        intro zp2 zl2 ze2 zs2 zm2 zargs2 zbelow2 zmeth2 zc2 zD2 zad2 zac2 C2 hr2 hk2
        refine mr_iload_n C2 dX5_isLane_0 rfl (i := 0) rfl ?_
        refine mr_if_lt C2 dX5_isLane_1 (tgt := 13) (by decide) (fun c4 => ?_) (fun c4 => ?_)
        · have h := h.1 c4
          refine mr_iconst (v := 0) C2 dX5_isLane_13 (by decide) ?_
          refine mr_zret C2 hr2 hk2 dX5_isLane_14 rfl (qI_mk ?_)
          refine mr_if_ne C0 dX5_ways_34 (tgt := 40) (by decide) (fun q => absurd q (by decide)) (fun _ => ?_)
          refine mr_bipush (v := (-2)) C0 dX5_ways_37 (by decide) ?_
          refine mr_iret C0 hr0 hk0 dX5_ways_39 (qI_mk ?_)
          exact h
        · have h := h.2 c4
          refine mr_iload_n C2 dX5_isLane_4 rfl (i := 0) rfl ?_
          refine mr_iconst (v := 3) C2 dX5_isLane_5 (by decide) ?_
          refine mr_icmp_ge C2 dX5_isLane_6 (tgt := 13) (by decide) (fun c5 => ?_) (fun c5 => ?_)
          · have h := h.1 c5
            refine mr_iconst (v := 0) C2 dX5_isLane_13 (by decide) ?_
            refine mr_zret C2 hr2 hk2 dX5_isLane_14 rfl (qI_mk ?_)
            refine mr_if_ne C0 dX5_ways_34 (tgt := 40) (by decide) (fun q => absurd q (by decide)) (fun _ => ?_)
            refine mr_bipush (v := (-2)) C0 dX5_ways_37 (by decide) ?_
            refine mr_iret C0 hr0 hk0 dX5_ways_39 (qI_mk ?_)
            exact h
          · have h := h.2 c5
            refine mr_iconst (v := 1) C2 dX5_isLane_9 (by decide) ?_
            refine mr_goto C2 dX5_isLane_10 (tgt := 14) (by decide) ?_
            refine mr_zret C2 hr2 hk2 dX5_isLane_14 rfl (qI_mk ?_)
            refine mr_if_ne C0 dX5_ways_34 (tgt := 40) (by decide) (fun _ => ?_) (fun q => absurd q (by decide))
            refine mr_aload_n C0 dX5_ways_40 rfl (i := 0) rfl ?_
            refine mr_getR C0 dX5_ways_41 fl_X5_14 (Nat.le_of_ble_eq_true rfl) rfl rfl ?_
            refine mr_callVI C0 mdX2_stands dX5_ways_44 clX2_stands ml_X5_100 (Nat.le_of_ble_eq_true rfl) rfl rfl arX2_stands (as := []) rfl (Nat.le_of_ble_eq_true rfl) (Nat.le_of_ble_eq_true rfl) (Nat.le_of_ble_eq_true rfl) fit0 (CallV_of mdX2_stands plX2_stands 0 (Nat.le_of_ble_eq_true rfl) rfl ?_) (fun _ _ h => h)
            intro zp3 zl3 ze3 zs3 zm3 zargs3 zbelow3 zmeth3 zc3 zD3 zad3 zac3 C3 hr3 hk3
            refine mr_aload_n C3 dX2_stands_0 rfl (i := 0) rfl ?_
            refine mr_getI C3 dX2_stands_1 fl_X2_22 (Nat.le_of_ble_eq_true rfl) rfl rfl ?_
            refine mr_topI (y := (S.1 1 3)) (by first | rfl | simp [sI, sJ, sF, upd, vp_updL]) ?_
            refine mr_if_le C3 dX2_stands_4 (tgt := 11) (by decide) (fun c6 => ?_) (fun c6 => ?_)
            · have h := h.1 c6
              refine mr_iconst (v := 0) C3 dX2_stands_11 (by decide) ?_
              refine mr_zret C3 hr3 hk3 dX2_stands_12 rfl (qI_mk ?_)
              refine mr_if_ne C0 dX5_ways_47 (tgt := 53) (by decide) (fun q => absurd q (by decide)) (fun _ => ?_)
              refine mr_bipush (v := (-3)) C0 dX5_ways_50 (by decide) ?_
              refine mr_iret C0 hr0 hk0 dX5_ways_52 (qI_mk ?_)
              exact h
            · have h := h.2 c6
              refine mr_iconst (v := 1) C3 dX2_stands_7 (by decide) ?_
              refine mr_goto C3 dX2_stands_8 (tgt := 12) (by decide) ?_
              refine mr_zret C3 hr3 hk3 dX2_stands_12 rfl (qI_mk ?_)
              refine mr_if_ne C0 dX5_ways_47 (tgt := 53) (by decide) (fun _ => ?_) (fun q => absurd q (by decide))
              refine mr_aload_n C0 dX5_ways_53 rfl (i := 0) rfl ?_
              refine mr_getR C0 dX5_ways_54 fl_X5_43 (Nat.le_of_ble_eq_true rfl) rfl rfl ?_
              refine mr_iload_n C0 dX5_ways_57 rfl (i := 2) rfl ?_
              have g7 := h.1
              have h := h.2
              refine mr_aald (d := 0) C0 dX5_ways_58 (Nat.le_of_ble_eq_true rfl) rfl g7 (sh_el g7) ?_
              refine mr_astore (L1 := [some (.ref 0), some (.int x1), some (.int x2), some (.int x3), some (.int x4), some (.ref (26 + 2 * x2.toNatClampNeg)), none, none]) C0 dX5_ways_59 (Nat.le_of_ble_eq_true rfl) rfl ?_
              refine mr_aload C0 dX5_ways_61 rfl ?_
              refine mr_iload_n C0 dX5_ways_63 rfl (i := 3) rfl ?_
              refine mr_callVI C0 mdX3_faultAs dX5_ways_64 clX3_faultAs ml_X5_62 (sh_lt (sh_in g7)) (sh_lay (sh_in g7)) rfl arX3_faultAs (as := [.int x3]) rfl (Nat.le_of_ble_eq_true rfl) (Nat.le_of_ble_eq_true rfl) (Nat.le_of_ble_eq_true rfl) fit0 (CallV_of mdX3_faultAs plX3_faultAs 0 (Nat.le_of_ble_eq_true rfl) rfl ?_) (fun _ _ h => h)
              intro zp4 zl4 ze4 zs4 zm4 zargs4 zbelow4 zmeth4 zc4 zD4 zad4 zac4 C4 hr4 hk4
              refine mr_aload_n C4 dX3_faultAs_0 rfl (i := 0) rfl ?_
              refine mr_getI C4 dX3_faultAs_1 fl_X3_15 (sh_lt (sh_in g7)) (sh_lay (sh_in g7)) rfl ?_
              refine mr_if_ne C4 dX3_faultAs_4 (tgt := 9) (by decide) (fun c8 => ?_) (fun c8 => ?_)
              · have h := h.1 c8
                refine mr_aload_n C4 dX3_faultAs_9 rfl (i := 0) rfl ?_
                refine mr_getI C4 dX3_faultAs_10 fl_X3_19 (sh_lt (sh_in g7)) (sh_lay (sh_in g7)) rfl ?_
                refine mr_iload_n C4 dX3_faultAs_13 rfl (i := 1) rfl ?_
                refine mr_icmp_ne C4 dX3_faultAs_14 (tgt := 21) (by decide) (fun c9 => ?_) (fun c9 => ?_)
                · have h := h.1 c9
                  refine mr_iconst (v := 2) C4 dX3_faultAs_21 (by decide) ?_
                  refine mr_iret C4 hr4 hk4 dX3_faultAs_22 (qI_mk ?_)
                  refine mr_istore (L1 := [some (.ref 0), some (.int x1), some (.int x2), some (.int x3), some (.int x4), some (.ref (26 + 2 * x2.toNatClampNeg)), some (.int (2 : Int32)), none]) C0 dX5_ways_67 (Nat.le_of_ble_eq_true rfl) rfl ?_
                  refine mr_iload C0 dX5_ways_69 rfl ?_
                  refine mr_if_ne C0 dX5_ways_71 (tgt := 96) (by decide) (fun _ => ?_) (fun q => absurd q (by decide))
                  refine mr_iload C0 dX5_ways_96 rfl ?_
                  refine mr_if_eq C0 dX5_ways_98 (tgt := 108) (by decide) (fun q => absurd q (by decide)) (fun _ => ?_)
                  refine mr_aload_n C0 dX5_ways_101 rfl (i := 0) rfl ?_
                  refine mr_iload C0 dX5_ways_102 rfl ?_
                  refine mr_callVI C0 mdX5_failed dX5_ways_104 clX5_failed ml_X5_70 (Nat.le_of_ble_eq_true rfl) rfl rfl arX5_failed (as := [.int (2 : Int32)]) rfl (Nat.le_of_ble_eq_true rfl) (Nat.le_of_ble_eq_true rfl) (Nat.le_of_ble_eq_true rfl) fit0 (CallV_of mdX5_failed plX5_failed 0 (Nat.le_of_ble_eq_true rfl) rfl ?_) (fun _ _ h => h)
                  intro zp5 zl5 ze5 zs5 zm5 zargs5 zbelow5 zmeth5 zc5 zD5 zad5 zac5 C5 hr5 hk5
                  refine mr_aload_n C5 dX5_failed_0 rfl (i := 0) rfl ?_
                  refine mr_iload_n C5 dX5_failed_1 rfl (i := 1) rfl ?_
                  refine mr_putI C5 dX5_failed_2 fl_X5_52 (Nat.le_of_ble_eq_true rfl) rfl rfl rfl rfl ?_
                  refine mr_bipush (v := (-10)) C5 dX5_failed_5 (by decide) ?_
                  refine mr_iload_n C5 dX5_failed_7 rfl (i := 1) rfl ?_
                  refine mr_isub C5 dX5_failed_8 ?_
                  refine mr_topI (y := (-12 : Int32)) (by decide) ?_
                  refine mr_iret C5 hr5 hk5 dX5_failed_9 (qI_mk ?_)
                  refine mr_iret C0 hr0 hk0 dX5_ways_107 (qI_mk ?_)
                  exact h
                · have h := h.2 c9
                  refine mr_iconst (v := 0) C4 dX3_faultAs_17 (by decide) ?_
                  refine mr_goto C4 dX3_faultAs_18 (tgt := 22) (by decide) ?_
                  refine mr_iret C4 hr4 hk4 dX3_faultAs_22 (qI_mk ?_)
                  refine mr_istore (L1 := [some (.ref 0), some (.int x1), some (.int x2), some (.int x3), some (.int x4), some (.ref (26 + 2 * x2.toNatClampNeg)), some (.int (0 : Int32)), none]) C0 dX5_ways_67 (Nat.le_of_ble_eq_true rfl) rfl ?_
                  refine mr_iload C0 dX5_ways_69 rfl ?_
                  refine mr_if_ne C0 dX5_ways_71 (tgt := 96) (by decide) (fun q => absurd q (by decide)) (fun _ => ?_)
                  refine mr_aload C0 dX5_ways_74 rfl ?_
                  refine mr_iload C0 dX5_ways_76 rfl ?_
                  refine mr_aload_n C0 dX5_ways_78 rfl (i := 0) rfl ?_
                  refine mr_getR C0 dX5_ways_79 fl_X5_14 (Nat.le_of_ble_eq_true rfl) rfl rfl ?_
                  refine mr_getI C0 dX5_ways_82 fl_X5_189 (Nat.le_of_ble_eq_true rfl) rfl rfl ?_
                  refine mr_topI (y := (S.1 1 3)) (by first | rfl | simp [sI, sJ, sF, upd, vp_updL]) ?_
                  refine mr_iconst (v := 1) C0 dX5_ways_85 (by decide) ?_
                  refine mr_iadd C0 dX5_ways_86 ?_
                  refine mr_callVI C0 mdX3_spans dX5_ways_87 clX3_spans ml_X5_66 (sh_lt (sh_in g7)) (sh_lay (sh_in g7)) rfl arX3_spans (as := [.int x4, .int ((S.1 1 3) + (1 : Int32))]) rfl (Nat.le_of_ble_eq_true rfl) (Nat.le_of_ble_eq_true rfl) (Nat.le_of_ble_eq_true rfl) fit0 (CallV_of mdX3_spans plX3_spans 0 (Nat.le_of_ble_eq_true rfl) rfl ?_) (fun _ _ h => h)
                  intro zp6 zl6 ze6 zs6 zm6 zargs6 zbelow6 zmeth6 zc6 zD6 zad6 zac6 C6 hr6 hk6
                  refine mr_aload_n C6 dX3_spans_0 rfl (i := 0) rfl ?_
                  refine mr_getI C6 dX3_spans_1 fl_X3_15 (sh_lt (sh_in g7)) (sh_lay (sh_in g7)) rfl ?_
                  refine mr_if_eq C6 dX3_spans_4 (tgt := 37) (by decide) (fun c10 => ?_) (fun c10 => ?_)
                  · have h := h.1 c10
                    refine mr_iconst (v := 0) C6 dX3_spans_37 (by decide) ?_
                    refine mr_zret C6 hr6 hk6 dX3_spans_38 rfl (qI_mk ?_)
                    refine mr_if_ne C0 dX5_ways_90 (tgt := 96) (by decide) (fun q => absurd q (by decide)) (fun _ => ?_)
                    refine mr_iconst (v := 3) C0 dX5_ways_93 (by decide) ?_
                    refine mr_istore (L1 := [some (.ref 0), some (.int x1), some (.int x2), some (.int x3), some (.int x4), some (.ref (26 + 2 * x2.toNatClampNeg)), some (.int (3 : Int32)), none]) C0 dX5_ways_94 (Nat.le_of_ble_eq_true rfl) rfl ?_
                    refine mr_iload C0 dX5_ways_96 rfl ?_
                    refine mr_if_eq C0 dX5_ways_98 (tgt := 108) (by decide) (fun q => absurd q (by decide)) (fun _ => ?_)
                    refine mr_aload_n C0 dX5_ways_101 rfl (i := 0) rfl ?_
                    refine mr_iload C0 dX5_ways_102 rfl ?_
                    refine mr_callVI C0 mdX5_failed dX5_ways_104 clX5_failed ml_X5_70 (Nat.le_of_ble_eq_true rfl) rfl rfl arX5_failed (as := [.int (3 : Int32)]) rfl (Nat.le_of_ble_eq_true rfl) (Nat.le_of_ble_eq_true rfl) (Nat.le_of_ble_eq_true rfl) fit0 (CallV_of mdX5_failed plX5_failed 0 (Nat.le_of_ble_eq_true rfl) rfl ?_) (fun _ _ h => h)
                    intro zp7 zl7 ze7 zs7 zm7 zargs7 zbelow7 zmeth7 zc7 zD7 zad7 zac7 C7 hr7 hk7
                    refine mr_aload_n C7 dX5_failed_0 rfl (i := 0) rfl ?_
                    refine mr_iload_n C7 dX5_failed_1 rfl (i := 1) rfl ?_
                    refine mr_putI C7 dX5_failed_2 fl_X5_52 (Nat.le_of_ble_eq_true rfl) rfl rfl rfl rfl ?_
                    refine mr_bipush (v := (-10)) C7 dX5_failed_5 (by decide) ?_
                    refine mr_iload_n C7 dX5_failed_7 rfl (i := 1) rfl ?_
                    refine mr_isub C7 dX5_failed_8 ?_
                    refine mr_topI (y := (-13 : Int32)) (by decide) ?_
                    refine mr_iret C7 hr7 hk7 dX5_failed_9 (qI_mk ?_)
                    refine mr_iret C0 hr0 hk0 dX5_ways_107 (qI_mk ?_)
                    exact h
                  · have h := h.2 c10
                    refine mr_iload_n C6 dX3_spans_7 rfl (i := 1) rfl ?_
                    refine mr_if_lt C6 dX3_spans_8 (tgt := 37) (by decide) (fun c11 => ?_) (fun c11 => ?_)
                    · have h := h.1 c11
                      refine mr_iconst (v := 0) C6 dX3_spans_37 (by decide) ?_
                      refine mr_zret C6 hr6 hk6 dX3_spans_38 rfl (qI_mk ?_)
                      refine mr_if_ne C0 dX5_ways_90 (tgt := 96) (by decide) (fun q => absurd q (by decide)) (fun _ => ?_)
                      refine mr_iconst (v := 3) C0 dX5_ways_93 (by decide) ?_
                      refine mr_istore (L1 := [some (.ref 0), some (.int x1), some (.int x2), some (.int x3), some (.int x4), some (.ref (26 + 2 * x2.toNatClampNeg)), some (.int (3 : Int32)), none]) C0 dX5_ways_94 (Nat.le_of_ble_eq_true rfl) rfl ?_
                      refine mr_iload C0 dX5_ways_96 rfl ?_
                      refine mr_if_eq C0 dX5_ways_98 (tgt := 108) (by decide) (fun q => absurd q (by decide)) (fun _ => ?_)
                      refine mr_aload_n C0 dX5_ways_101 rfl (i := 0) rfl ?_
                      refine mr_iload C0 dX5_ways_102 rfl ?_
                      refine mr_callVI C0 mdX5_failed dX5_ways_104 clX5_failed ml_X5_70 (Nat.le_of_ble_eq_true rfl) rfl rfl arX5_failed (as := [.int (3 : Int32)]) rfl (Nat.le_of_ble_eq_true rfl) (Nat.le_of_ble_eq_true rfl) (Nat.le_of_ble_eq_true rfl) fit0 (CallV_of mdX5_failed plX5_failed 0 (Nat.le_of_ble_eq_true rfl) rfl ?_) (fun _ _ h => h)
                      intro zp8 zl8 ze8 zs8 zm8 zargs8 zbelow8 zmeth8 zc8 zD8 zad8 zac8 C8 hr8 hk8
                      refine mr_aload_n C8 dX5_failed_0 rfl (i := 0) rfl ?_
                      refine mr_iload_n C8 dX5_failed_1 rfl (i := 1) rfl ?_
                      refine mr_putI C8 dX5_failed_2 fl_X5_52 (Nat.le_of_ble_eq_true rfl) rfl rfl rfl rfl ?_
                      refine mr_bipush (v := (-10)) C8 dX5_failed_5 (by decide) ?_
                      refine mr_iload_n C8 dX5_failed_7 rfl (i := 1) rfl ?_
                      refine mr_isub C8 dX5_failed_8 ?_
                      refine mr_topI (y := (-13 : Int32)) (by decide) ?_
                      refine mr_iret C8 hr8 hk8 dX5_failed_9 (qI_mk ?_)
                      refine mr_iret C0 hr0 hk0 dX5_ways_107 (qI_mk ?_)
                      exact h
                    · have h := h.2 c11
                      refine mr_iload_n C6 dX3_spans_11 rfl (i := 2) rfl ?_
                      refine mr_if_lt C6 dX3_spans_12 (tgt := 37) (by decide) (fun c12 => ?_) (fun c12 => ?_)
                      · have h := h.1 c12
                        refine mr_iconst (v := 0) C6 dX3_spans_37 (by decide) ?_
                        refine mr_zret C6 hr6 hk6 dX3_spans_38 rfl (qI_mk ?_)
                        refine mr_if_ne C0 dX5_ways_90 (tgt := 96) (by decide) (fun q => absurd q (by decide)) (fun _ => ?_)
                        refine mr_iconst (v := 3) C0 dX5_ways_93 (by decide) ?_
                        refine mr_istore (L1 := [some (.ref 0), some (.int x1), some (.int x2), some (.int x3), some (.int x4), some (.ref (26 + 2 * x2.toNatClampNeg)), some (.int (3 : Int32)), none]) C0 dX5_ways_94 (Nat.le_of_ble_eq_true rfl) rfl ?_
                        refine mr_iload C0 dX5_ways_96 rfl ?_
                        refine mr_if_eq C0 dX5_ways_98 (tgt := 108) (by decide) (fun q => absurd q (by decide)) (fun _ => ?_)
                        refine mr_aload_n C0 dX5_ways_101 rfl (i := 0) rfl ?_
                        refine mr_iload C0 dX5_ways_102 rfl ?_
                        refine mr_callVI C0 mdX5_failed dX5_ways_104 clX5_failed ml_X5_70 (Nat.le_of_ble_eq_true rfl) rfl rfl arX5_failed (as := [.int (3 : Int32)]) rfl (Nat.le_of_ble_eq_true rfl) (Nat.le_of_ble_eq_true rfl) (Nat.le_of_ble_eq_true rfl) fit0 (CallV_of mdX5_failed plX5_failed 0 (Nat.le_of_ble_eq_true rfl) rfl ?_) (fun _ _ h => h)
                        intro zp9 zl9 ze9 zs9 zm9 zargs9 zbelow9 zmeth9 zc9 zD9 zad9 zac9 C9 hr9 hk9
                        refine mr_aload_n C9 dX5_failed_0 rfl (i := 0) rfl ?_
                        refine mr_iload_n C9 dX5_failed_1 rfl (i := 1) rfl ?_
                        refine mr_putI C9 dX5_failed_2 fl_X5_52 (Nat.le_of_ble_eq_true rfl) rfl rfl rfl rfl ?_
                        refine mr_bipush (v := (-10)) C9 dX5_failed_5 (by decide) ?_
                        refine mr_iload_n C9 dX5_failed_7 rfl (i := 1) rfl ?_
                        refine mr_isub C9 dX5_failed_8 ?_
                        refine mr_topI (y := (-13 : Int32)) (by decide) ?_
                        refine mr_iret C9 hr9 hk9 dX5_failed_9 (qI_mk ?_)
                        refine mr_iret C0 hr0 hk0 dX5_ways_107 (qI_mk ?_)
                        exact h
                      · have h := h.2 c12
                        refine mr_iload_n C6 dX3_spans_15 rfl (i := 1) rfl ?_
                        refine mr_aload_n C6 dX3_spans_16 rfl (i := 0) rfl ?_
                        refine mr_getI C6 dX3_spans_17 fl_X3_23 (sh_lt (sh_in g7)) (sh_lay (sh_in g7)) rfl ?_
                        refine mr_icmp_gt C6 dX3_spans_20 (tgt := 37) (by decide) (fun c13 => ?_) (fun c13 => ?_)
                        · have h := h.1 c13
                          refine mr_iconst (v := 0) C6 dX3_spans_37 (by decide) ?_
                          refine mr_zret C6 hr6 hk6 dX3_spans_38 rfl (qI_mk ?_)
                          refine mr_if_ne C0 dX5_ways_90 (tgt := 96) (by decide) (fun q => absurd q (by decide)) (fun _ => ?_)
                          refine mr_iconst (v := 3) C0 dX5_ways_93 (by decide) ?_
                          refine mr_istore (L1 := [some (.ref 0), some (.int x1), some (.int x2), some (.int x3), some (.int x4), some (.ref (26 + 2 * x2.toNatClampNeg)), some (.int (3 : Int32)), none]) C0 dX5_ways_94 (Nat.le_of_ble_eq_true rfl) rfl ?_
                          refine mr_iload C0 dX5_ways_96 rfl ?_
                          refine mr_if_eq C0 dX5_ways_98 (tgt := 108) (by decide) (fun q => absurd q (by decide)) (fun _ => ?_)
                          refine mr_aload_n C0 dX5_ways_101 rfl (i := 0) rfl ?_
                          refine mr_iload C0 dX5_ways_102 rfl ?_
                          refine mr_callVI C0 mdX5_failed dX5_ways_104 clX5_failed ml_X5_70 (Nat.le_of_ble_eq_true rfl) rfl rfl arX5_failed (as := [.int (3 : Int32)]) rfl (Nat.le_of_ble_eq_true rfl) (Nat.le_of_ble_eq_true rfl) (Nat.le_of_ble_eq_true rfl) fit0 (CallV_of mdX5_failed plX5_failed 0 (Nat.le_of_ble_eq_true rfl) rfl ?_) (fun _ _ h => h)
                          intro zp10 zl10 ze10 zs10 zm10 zargs10 zbelow10 zmeth10 zc10 zD10 zad10 zac10 C10 hr10 hk10
                          refine mr_aload_n C10 dX5_failed_0 rfl (i := 0) rfl ?_
                          refine mr_iload_n C10 dX5_failed_1 rfl (i := 1) rfl ?_
                          refine mr_putI C10 dX5_failed_2 fl_X5_52 (Nat.le_of_ble_eq_true rfl) rfl rfl rfl rfl ?_
                          refine mr_bipush (v := (-10)) C10 dX5_failed_5 (by decide) ?_
                          refine mr_iload_n C10 dX5_failed_7 rfl (i := 1) rfl ?_
                          refine mr_isub C10 dX5_failed_8 ?_
                          refine mr_topI (y := (-13 : Int32)) (by decide) ?_
                          refine mr_iret C10 hr10 hk10 dX5_failed_9 (qI_mk ?_)
                          refine mr_iret C0 hr0 hk0 dX5_ways_107 (qI_mk ?_)
                          exact h
                        · have h := h.2 c13
                          refine mr_iload_n C6 dX3_spans_23 rfl (i := 2) rfl ?_
                          refine mr_aload_n C6 dX3_spans_24 rfl (i := 0) rfl ?_
                          refine mr_getI C6 dX3_spans_25 fl_X3_23 (sh_lt (sh_in g7)) (sh_lay (sh_in g7)) rfl ?_
                          refine mr_iload_n C6 dX3_spans_28 rfl (i := 1) rfl ?_
                          refine mr_isub C6 dX3_spans_29 ?_
                          refine mr_icmp_gt C6 dX3_spans_30 (tgt := 37) (by decide) (fun c14 => ?_) (fun c14 => ?_)
                          · have h := h.1 c14
                            refine mr_iconst (v := 0) C6 dX3_spans_37 (by decide) ?_
                            refine mr_zret C6 hr6 hk6 dX3_spans_38 rfl (qI_mk ?_)
                            refine mr_if_ne C0 dX5_ways_90 (tgt := 96) (by decide) (fun q => absurd q (by decide)) (fun _ => ?_)
                            refine mr_iconst (v := 3) C0 dX5_ways_93 (by decide) ?_
                            refine mr_istore (L1 := [some (.ref 0), some (.int x1), some (.int x2), some (.int x3), some (.int x4), some (.ref (26 + 2 * x2.toNatClampNeg)), some (.int (3 : Int32)), none]) C0 dX5_ways_94 (Nat.le_of_ble_eq_true rfl) rfl ?_
                            refine mr_iload C0 dX5_ways_96 rfl ?_
                            refine mr_if_eq C0 dX5_ways_98 (tgt := 108) (by decide) (fun q => absurd q (by decide)) (fun _ => ?_)
                            refine mr_aload_n C0 dX5_ways_101 rfl (i := 0) rfl ?_
                            refine mr_iload C0 dX5_ways_102 rfl ?_
                            refine mr_callVI C0 mdX5_failed dX5_ways_104 clX5_failed ml_X5_70 (Nat.le_of_ble_eq_true rfl) rfl rfl arX5_failed (as := [.int (3 : Int32)]) rfl (Nat.le_of_ble_eq_true rfl) (Nat.le_of_ble_eq_true rfl) (Nat.le_of_ble_eq_true rfl) fit0 (CallV_of mdX5_failed plX5_failed 0 (Nat.le_of_ble_eq_true rfl) rfl ?_) (fun _ _ h => h)
                            intro zp11 zl11 ze11 zs11 zm11 zargs11 zbelow11 zmeth11 zc11 zD11 zad11 zac11 C11 hr11 hk11
                            refine mr_aload_n C11 dX5_failed_0 rfl (i := 0) rfl ?_
                            refine mr_iload_n C11 dX5_failed_1 rfl (i := 1) rfl ?_
                            refine mr_putI C11 dX5_failed_2 fl_X5_52 (Nat.le_of_ble_eq_true rfl) rfl rfl rfl rfl ?_
                            refine mr_bipush (v := (-10)) C11 dX5_failed_5 (by decide) ?_
                            refine mr_iload_n C11 dX5_failed_7 rfl (i := 1) rfl ?_
                            refine mr_isub C11 dX5_failed_8 ?_
                            refine mr_topI (y := (-13 : Int32)) (by decide) ?_
                            refine mr_iret C11 hr11 hk11 dX5_failed_9 (qI_mk ?_)
                            refine mr_iret C0 hr0 hk0 dX5_ways_107 (qI_mk ?_)
                            exact h
                          · have h := h.2 c14
                            refine mr_iconst (v := 1) C6 dX3_spans_33 (by decide) ?_
                            refine mr_goto C6 dX3_spans_34 (tgt := 38) (by decide) ?_
                            refine mr_zret C6 hr6 hk6 dX3_spans_38 rfl (qI_mk ?_)
                            refine mr_if_ne C0 dX5_ways_90 (tgt := 96) (by decide) (fun _ => ?_) (fun q => absurd q (by decide))
                            refine mr_iload C0 dX5_ways_96 rfl ?_
                            refine mr_if_eq C0 dX5_ways_98 (tgt := 108) (by decide) (fun _ => ?_) (fun q => absurd q (by decide))
                            refine mr_aload_n C0 dX5_ways_108 rfl (i := 0) rfl ?_
                            refine mr_getR C0 dX5_ways_109 fl_X5_37 (Nat.le_of_ble_eq_true rfl) rfl rfl ?_
                            refine mr_aload C0 dX5_ways_112 rfl ?_
                            refine mr_iload C0 dX5_ways_114 rfl ?_
                            refine mr_aload_n C0 dX5_ways_116 rfl (i := 0) rfl ?_
                            refine mr_getR C0 dX5_ways_117 fl_X5_14 (Nat.le_of_ble_eq_true rfl) rfl rfl ?_
                            refine mr_getI C0 dX5_ways_120 fl_X5_189 (Nat.le_of_ble_eq_true rfl) rfl rfl ?_
                            refine mr_topI (y := (S.1 1 3)) (by first | rfl | simp [sI, sJ, sF, upd, vp_updL]) ?_
                            refine mr_aload_n C0 dX5_ways_123 rfl (i := 0) rfl ?_
                            refine mr_getR C0 dX5_ways_124 fl_X5_21 (Nat.le_of_ble_eq_true rfl) rfl rfl ?_
                            refine mr_getI C0 dX5_ways_127 fl_X5_81 (Nat.le_of_ble_eq_true rfl) rfl rfl ?_
                            refine mr_topI (y := (S.1 4 2)) (by first | rfl | simp [sI, sJ, sF, upd, vp_updL]) ?_
                            refine mr_callVI C0 mdX0_take dX5_ways_130 clX0_take ml_X5_192 (Nat.le_of_ble_eq_true rfl) rfl rfl arX0_take (as := [.ref (26 + 2 * x2.toNatClampNeg), .int x4, .int (S.1 1 3), .int (S.1 4 2)]) rfl (Nat.le_of_ble_eq_true rfl) (Nat.le_of_ble_eq_true rfl) (Nat.le_of_ble_eq_true rfl) fit0 h (fun r16 S15 h => ?_)
                            refine mr_if_ne C0 dX5_ways_133 (tgt := 138) (by decide) (fun c17 => ?_) (fun c17 => ?_)
                            · have h := h.1 c17
                              refine mr_iconst (v := 0) C0 dX5_ways_138 (by decide) ?_
                              refine mr_istore (L1 := [some (.ref 0), some (.int x1), some (.int x2), some (.int x3), some (.int x4), some (.ref (26 + 2 * x2.toNatClampNeg)), some (.int (0 : Int32)), some (.int (0 : Int32))]) C0 dX5_ways_139 (Nat.le_of_ble_eq_true rfl) rfl ?_
                              refine mr_mask (L1 := [some (.ref 0), some (.int x1), none, none, none, none, none, some (.int (0 : Int32))]) C0 [true, true, false, false, false, false, false, true] rfl ?_
                              exact h zp0 zl0 ze0 zs0 zm0 zargs0 zbelow0 zmeth0 zc0 zD0 zad0 zac0 C0 hr0 hk0
                            · have h := h.2 c17
                              refine mr_iconst (v := 0) C0 dX5_ways_136 (by decide) ?_
                              refine mr_iret C0 hr0 hk0 dX5_ways_137 (qI_mk ?_)
                              exact h
              · have h := h.2 c8
                refine mr_iconst (v := 1) C4 dX3_faultAs_7 (by decide) ?_
                refine mr_iret C4 hr4 hk4 dX3_faultAs_8 (qI_mk ?_)
                refine mr_istore (L1 := [some (.ref 0), some (.int x1), some (.int x2), some (.int x3), some (.int x4), some (.ref (26 + 2 * x2.toNatClampNeg)), some (.int (1 : Int32)), none]) C0 dX5_ways_67 (Nat.le_of_ble_eq_true rfl) rfl ?_
                refine mr_iload C0 dX5_ways_69 rfl ?_
                refine mr_if_ne C0 dX5_ways_71 (tgt := 96) (by decide) (fun _ => ?_) (fun q => absurd q (by decide))
                refine mr_iload C0 dX5_ways_96 rfl ?_
                refine mr_if_eq C0 dX5_ways_98 (tgt := 108) (by decide) (fun q => absurd q (by decide)) (fun _ => ?_)
                refine mr_aload_n C0 dX5_ways_101 rfl (i := 0) rfl ?_
                refine mr_iload C0 dX5_ways_102 rfl ?_
                refine mr_callVI C0 mdX5_failed dX5_ways_104 clX5_failed ml_X5_70 (Nat.le_of_ble_eq_true rfl) rfl rfl arX5_failed (as := [.int (1 : Int32)]) rfl (Nat.le_of_ble_eq_true rfl) (Nat.le_of_ble_eq_true rfl) (Nat.le_of_ble_eq_true rfl) fit0 (CallV_of mdX5_failed plX5_failed 0 (Nat.le_of_ble_eq_true rfl) rfl ?_) (fun _ _ h => h)
                intro zp12 zl12 ze12 zs12 zm12 zargs12 zbelow12 zmeth12 zc12 zD12 zad12 zac12 C12 hr12 hk12
                refine mr_aload_n C12 dX5_failed_0 rfl (i := 0) rfl ?_
                refine mr_iload_n C12 dX5_failed_1 rfl (i := 1) rfl ?_
                refine mr_putI C12 dX5_failed_2 fl_X5_52 (Nat.le_of_ble_eq_true rfl) rfl rfl rfl rfl ?_
                refine mr_bipush (v := (-10)) C12 dX5_failed_5 (by decide) ?_
                refine mr_iload_n C12 dX5_failed_7 rfl (i := 1) rfl ?_
                refine mr_isub C12 dX5_failed_8 ?_
                refine mr_topI (y := (-11 : Int32)) (by decide) ?_
                refine mr_iret C12 hr12 hk12 dX5_failed_9 (qI_mk ?_)
                refine mr_iret C0 hr0 hk0 dX5_ways_107 (qI_mk ?_)
                exact h
  · have h := h.2 c1
    refine mr_aload_n C0 dX5_ways_10 rfl (i := 0) rfl ?_
    refine mr_getR C0 dX5_ways_11 fl_X5_21 (Nat.le_of_ble_eq_true rfl) rfl rfl ?_
    refine mr_iload_n C0 dX5_ways_14 rfl (i := 1) rfl ?_
    refine mr_callVI C0 mdX4_has dX5_ways_15 clX4_has ml_X5_115 (Nat.le_of_ble_eq_true rfl) rfl rfl arX4_has (as := [.int x1]) rfl (Nat.le_of_ble_eq_true rfl) (Nat.le_of_ble_eq_true rfl) (Nat.le_of_ble_eq_true rfl) fit0 (CallV_of mdX4_has plX4_has 0 (Nat.le_of_ble_eq_true rfl) rfl ?_) (fun _ _ h => h)
    intro zp13 zl13 ze13 zs13 zm13 zargs13 zbelow13 zmeth13 zc13 zD13 zad13 zac13 C13 hr13 hk13
    refine mr_iload_n C13 dX4_has_0 rfl (i := 1) rfl ?_
    refine mr_if_lt C13 dX4_has_1 (tgt := 16) (by decide) (fun c18 => ?_) (fun c18 => ?_)
    · have h := h.1 c18
      refine mr_iconst (v := 0) C13 dX4_has_16 (by decide) ?_
      refine mr_zret C13 hr13 hk13 dX4_has_17 rfl (qI_mk ?_)
      refine mr_if_eq C0 dX5_ways_18 (tgt := 28) (by decide) (fun _ => ?_) (fun q => absurd q (by decide))
      refine mr_iconst (v := (-1)) C0 dX5_ways_28 (by decide) ?_
      refine mr_iret C0 hr0 hk0 dX5_ways_29 (qI_mk ?_)
      exact h
    · have h := h.2 c18
      refine mr_iload_n C13 dX4_has_4 rfl (i := 1) rfl ?_
      refine mr_aload_n C13 dX4_has_5 rfl (i := 0) rfl ?_
      refine mr_getI C13 dX4_has_6 fl_X4_18 (Nat.le_of_ble_eq_true rfl) rfl rfl ?_
      refine mr_topI (y := (S.1 4 2)) (by first | rfl | simp [sI, sJ, sF, upd, vp_updL]) ?_
      refine mr_icmp_ge C13 dX4_has_9 (tgt := 16) (by decide) (fun c19 => ?_) (fun c19 => ?_)
      · have h := h.1 c19
        refine mr_iconst (v := 0) C13 dX4_has_16 (by decide) ?_
        refine mr_zret C13 hr13 hk13 dX4_has_17 rfl (qI_mk ?_)
        refine mr_if_eq C0 dX5_ways_18 (tgt := 28) (by decide) (fun _ => ?_) (fun q => absurd q (by decide))
        refine mr_iconst (v := (-1)) C0 dX5_ways_28 (by decide) ?_
        refine mr_iret C0 hr0 hk0 dX5_ways_29 (qI_mk ?_)
        exact h
      · have h := h.2 c19
        refine mr_iconst (v := 1) C13 dX4_has_12 (by decide) ?_
        refine mr_goto C13 dX4_has_13 (tgt := 17) (by decide) ?_
        refine mr_zret C13 hr13 hk13 dX4_has_17 rfl (qI_mk ?_)
        refine mr_if_eq C0 dX5_ways_18 (tgt := 28) (by decide) (fun q => absurd q (by decide)) (fun _ => ?_)
        refine mr_iload_n C0 dX5_ways_21 rfl (i := 2) rfl ?_
        refine mr_callSI C0 mdX5_isSheet dX5_ways_22 clX5_isSheet ml_X5_55 arX5_isSheet (as := [.int x2]) rfl (Nat.le_of_ble_eq_true rfl) (Nat.le_of_ble_eq_true rfl) (Nat.le_of_ble_eq_true rfl) fit0 (CallV_of mdX5_isSheet plX5_isSheet 0 (Nat.le_of_ble_eq_true rfl) rfl ?_) (fun _ _ h => h)
        intro zp14 zl14 ze14 zs14 zm14 zargs14 zbelow14 zmeth14 zc14 zD14 zad14 zac14 C14 hr14 hk14
        refine mr_iload_n C14 dX5_isSheet_0 rfl (i := 0) rfl ?_
        refine mr_if_lt C14 dX5_isSheet_1 (tgt := 13) (by decide) (fun c20 => ?_) (fun c20 => ?_)
        · have h := h.1 c20
          refine mr_iconst (v := 0) C14 dX5_isSheet_13 (by decide) ?_
          refine mr_zret C14 hr14 hk14 dX5_isSheet_14 rfl (qI_mk ?_)
          refine mr_if_ne C0 dX5_ways_25 (tgt := 30) (by decide) (fun q => absurd q (by decide)) (fun _ => ?_)
          refine mr_iconst (v := (-1)) C0 dX5_ways_28 (by decide) ?_
          refine mr_iret C0 hr0 hk0 dX5_ways_29 (qI_mk ?_)
          exact h
        · have h := h.2 c20
          refine mr_iload_n C14 dX5_isSheet_4 rfl (i := 0) rfl ?_
          refine mr_iconst (v := 4) C14 dX5_isSheet_5 (by decide) ?_
          refine mr_icmp_ge C14 dX5_isSheet_6 (tgt := 13) (by decide) (fun c21 => ?_) (fun c21 => ?_)
          · have h := h.1 c21
            refine mr_iconst (v := 0) C14 dX5_isSheet_13 (by decide) ?_
            refine mr_zret C14 hr14 hk14 dX5_isSheet_14 rfl (qI_mk ?_)
            refine mr_if_ne C0 dX5_ways_25 (tgt := 30) (by decide) (fun q => absurd q (by decide)) (fun _ => ?_)
            refine mr_iconst (v := (-1)) C0 dX5_ways_28 (by decide) ?_
            refine mr_iret C0 hr0 hk0 dX5_ways_29 (qI_mk ?_)
            exact h
          · have h := h.2 c21
            refine mr_iconst (v := 1) C14 dX5_isSheet_9 (by decide) ?_
            refine mr_goto C14 dX5_isSheet_10 (tgt := 14) (by decide) ?_
            refine mr_zret C14 hr14 hk14 dX5_isSheet_14 rfl (qI_mk ?_)
            refine mr_if_ne C0 dX5_ways_25 (tgt := 30) (by decide) (fun _ => ?_) (fun q => absurd q (by decide))
            refine mr_iload_n C0 dX5_ways_30 rfl (i := 3) rfl ?_
            refine mr_callSI C0 mdX5_isLane dX5_ways_31 clX5_isLane ml_X5_59 arX5_isLane (as := [.int x3]) rfl (Nat.le_of_ble_eq_true rfl) (Nat.le_of_ble_eq_true rfl) (Nat.le_of_ble_eq_true rfl) fit0 (CallV_of mdX5_isLane plX5_isLane 0 (Nat.le_of_ble_eq_true rfl) rfl ?_) (fun _ _ h => h)
            intro zp15 zl15 ze15 zs15 zm15 zargs15 zbelow15 zmeth15 zc15 zD15 zad15 zac15 C15 hr15 hk15
            refine mr_iload_n C15 dX5_isLane_0 rfl (i := 0) rfl ?_
            refine mr_if_lt C15 dX5_isLane_1 (tgt := 13) (by decide) (fun c22 => ?_) (fun c22 => ?_)
            · have h := h.1 c22
              refine mr_iconst (v := 0) C15 dX5_isLane_13 (by decide) ?_
              refine mr_zret C15 hr15 hk15 dX5_isLane_14 rfl (qI_mk ?_)
              refine mr_if_ne C0 dX5_ways_34 (tgt := 40) (by decide) (fun q => absurd q (by decide)) (fun _ => ?_)
              refine mr_bipush (v := (-2)) C0 dX5_ways_37 (by decide) ?_
              refine mr_iret C0 hr0 hk0 dX5_ways_39 (qI_mk ?_)
              exact h
            · have h := h.2 c22
              refine mr_iload_n C15 dX5_isLane_4 rfl (i := 0) rfl ?_
              refine mr_iconst (v := 3) C15 dX5_isLane_5 (by decide) ?_
              refine mr_icmp_ge C15 dX5_isLane_6 (tgt := 13) (by decide) (fun c23 => ?_) (fun c23 => ?_)
              · have h := h.1 c23
                refine mr_iconst (v := 0) C15 dX5_isLane_13 (by decide) ?_
                refine mr_zret C15 hr15 hk15 dX5_isLane_14 rfl (qI_mk ?_)
                refine mr_if_ne C0 dX5_ways_34 (tgt := 40) (by decide) (fun q => absurd q (by decide)) (fun _ => ?_)
                refine mr_bipush (v := (-2)) C0 dX5_ways_37 (by decide) ?_
                refine mr_iret C0 hr0 hk0 dX5_ways_39 (qI_mk ?_)
                exact h
              · have h := h.2 c23
                refine mr_iconst (v := 1) C15 dX5_isLane_9 (by decide) ?_
                refine mr_goto C15 dX5_isLane_10 (tgt := 14) (by decide) ?_
                refine mr_zret C15 hr15 hk15 dX5_isLane_14 rfl (qI_mk ?_)
                refine mr_if_ne C0 dX5_ways_34 (tgt := 40) (by decide) (fun _ => ?_) (fun q => absurd q (by decide))
                refine mr_aload_n C0 dX5_ways_40 rfl (i := 0) rfl ?_
                refine mr_getR C0 dX5_ways_41 fl_X5_14 (Nat.le_of_ble_eq_true rfl) rfl rfl ?_
                refine mr_callVI C0 mdX2_stands dX5_ways_44 clX2_stands ml_X5_100 (Nat.le_of_ble_eq_true rfl) rfl rfl arX2_stands (as := []) rfl (Nat.le_of_ble_eq_true rfl) (Nat.le_of_ble_eq_true rfl) (Nat.le_of_ble_eq_true rfl) fit0 (CallV_of mdX2_stands plX2_stands 0 (Nat.le_of_ble_eq_true rfl) rfl ?_) (fun _ _ h => h)
                intro zp16 zl16 ze16 zs16 zm16 zargs16 zbelow16 zmeth16 zc16 zD16 zad16 zac16 C16 hr16 hk16
                refine mr_aload_n C16 dX2_stands_0 rfl (i := 0) rfl ?_
                refine mr_getI C16 dX2_stands_1 fl_X2_22 (Nat.le_of_ble_eq_true rfl) rfl rfl ?_
                refine mr_topI (y := (S.1 1 3)) (by first | rfl | simp [sI, sJ, sF, upd, vp_updL]) ?_
                refine mr_if_le C16 dX2_stands_4 (tgt := 11) (by decide) (fun c24 => ?_) (fun c24 => ?_)
                · have h := h.1 c24
                  refine mr_iconst (v := 0) C16 dX2_stands_11 (by decide) ?_
                  refine mr_zret C16 hr16 hk16 dX2_stands_12 rfl (qI_mk ?_)
                  refine mr_if_ne C0 dX5_ways_47 (tgt := 53) (by decide) (fun q => absurd q (by decide)) (fun _ => ?_)
                  refine mr_bipush (v := (-3)) C0 dX5_ways_50 (by decide) ?_
                  refine mr_iret C0 hr0 hk0 dX5_ways_52 (qI_mk ?_)
                  exact h
                · have h := h.2 c24
                  refine mr_iconst (v := 1) C16 dX2_stands_7 (by decide) ?_
                  refine mr_goto C16 dX2_stands_8 (tgt := 12) (by decide) ?_
                  refine mr_zret C16 hr16 hk16 dX2_stands_12 rfl (qI_mk ?_)
                  refine mr_if_ne C0 dX5_ways_47 (tgt := 53) (by decide) (fun _ => ?_) (fun q => absurd q (by decide))
                  refine mr_aload_n C0 dX5_ways_53 rfl (i := 0) rfl ?_
                  refine mr_getR C0 dX5_ways_54 fl_X5_43 (Nat.le_of_ble_eq_true rfl) rfl rfl ?_
                  refine mr_iload_n C0 dX5_ways_57 rfl (i := 2) rfl ?_
                  have g25 := h.1
                  have h := h.2
                  refine mr_aald (d := 0) C0 dX5_ways_58 (Nat.le_of_ble_eq_true rfl) rfl g25 (sh_el g25) ?_
                  refine mr_astore (L1 := [some (.ref 0), some (.int x1), some (.int x2), some (.int x3), some (.int x4), some (.ref (26 + 2 * x2.toNatClampNeg)), none, none]) C0 dX5_ways_59 (Nat.le_of_ble_eq_true rfl) rfl ?_
                  refine mr_aload C0 dX5_ways_61 rfl ?_
                  refine mr_iload_n C0 dX5_ways_63 rfl (i := 3) rfl ?_
                  refine mr_callVI C0 mdX3_faultAs dX5_ways_64 clX3_faultAs ml_X5_62 (sh_lt (sh_in g25)) (sh_lay (sh_in g25)) rfl arX3_faultAs (as := [.int x3]) rfl (Nat.le_of_ble_eq_true rfl) (Nat.le_of_ble_eq_true rfl) (Nat.le_of_ble_eq_true rfl) fit0 (CallV_of mdX3_faultAs plX3_faultAs 0 (Nat.le_of_ble_eq_true rfl) rfl ?_) (fun _ _ h => h)
                  intro zp17 zl17 ze17 zs17 zm17 zargs17 zbelow17 zmeth17 zc17 zD17 zad17 zac17 C17 hr17 hk17
                  refine mr_aload_n C17 dX3_faultAs_0 rfl (i := 0) rfl ?_
                  refine mr_getI C17 dX3_faultAs_1 fl_X3_15 (sh_lt (sh_in g25)) (sh_lay (sh_in g25)) rfl ?_
                  refine mr_if_ne C17 dX3_faultAs_4 (tgt := 9) (by decide) (fun c26 => ?_) (fun c26 => ?_)
                  · have h := h.1 c26
                    refine mr_aload_n C17 dX3_faultAs_9 rfl (i := 0) rfl ?_
                    refine mr_getI C17 dX3_faultAs_10 fl_X3_19 (sh_lt (sh_in g25)) (sh_lay (sh_in g25)) rfl ?_
                    refine mr_iload_n C17 dX3_faultAs_13 rfl (i := 1) rfl ?_
                    refine mr_icmp_ne C17 dX3_faultAs_14 (tgt := 21) (by decide) (fun c27 => ?_) (fun c27 => ?_)
                    · have h := h.1 c27
                      refine mr_iconst (v := 2) C17 dX3_faultAs_21 (by decide) ?_
                      refine mr_iret C17 hr17 hk17 dX3_faultAs_22 (qI_mk ?_)
                      refine mr_istore (L1 := [some (.ref 0), some (.int x1), some (.int x2), some (.int x3), some (.int x4), some (.ref (26 + 2 * x2.toNatClampNeg)), some (.int (2 : Int32)), none]) C0 dX5_ways_67 (Nat.le_of_ble_eq_true rfl) rfl ?_
                      refine mr_iload C0 dX5_ways_69 rfl ?_
                      refine mr_if_ne C0 dX5_ways_71 (tgt := 96) (by decide) (fun _ => ?_) (fun q => absurd q (by decide))
                      refine mr_iload C0 dX5_ways_96 rfl ?_
                      refine mr_if_eq C0 dX5_ways_98 (tgt := 108) (by decide) (fun q => absurd q (by decide)) (fun _ => ?_)
                      refine mr_aload_n C0 dX5_ways_101 rfl (i := 0) rfl ?_
                      refine mr_iload C0 dX5_ways_102 rfl ?_
                      refine mr_callVI C0 mdX5_failed dX5_ways_104 clX5_failed ml_X5_70 (Nat.le_of_ble_eq_true rfl) rfl rfl arX5_failed (as := [.int (2 : Int32)]) rfl (Nat.le_of_ble_eq_true rfl) (Nat.le_of_ble_eq_true rfl) (Nat.le_of_ble_eq_true rfl) fit0 (CallV_of mdX5_failed plX5_failed 0 (Nat.le_of_ble_eq_true rfl) rfl ?_) (fun _ _ h => h)
                      intro zp18 zl18 ze18 zs18 zm18 zargs18 zbelow18 zmeth18 zc18 zD18 zad18 zac18 C18 hr18 hk18
                      refine mr_aload_n C18 dX5_failed_0 rfl (i := 0) rfl ?_
                      refine mr_iload_n C18 dX5_failed_1 rfl (i := 1) rfl ?_
                      refine mr_putI C18 dX5_failed_2 fl_X5_52 (Nat.le_of_ble_eq_true rfl) rfl rfl rfl rfl ?_
                      refine mr_bipush (v := (-10)) C18 dX5_failed_5 (by decide) ?_
                      refine mr_iload_n C18 dX5_failed_7 rfl (i := 1) rfl ?_
                      refine mr_isub C18 dX5_failed_8 ?_
                      refine mr_topI (y := (-12 : Int32)) (by decide) ?_
                      refine mr_iret C18 hr18 hk18 dX5_failed_9 (qI_mk ?_)
                      refine mr_iret C0 hr0 hk0 dX5_ways_107 (qI_mk ?_)
                      exact h
                    · have h := h.2 c27
                      refine mr_iconst (v := 0) C17 dX3_faultAs_17 (by decide) ?_
                      refine mr_goto C17 dX3_faultAs_18 (tgt := 22) (by decide) ?_
                      refine mr_iret C17 hr17 hk17 dX3_faultAs_22 (qI_mk ?_)
                      refine mr_istore (L1 := [some (.ref 0), some (.int x1), some (.int x2), some (.int x3), some (.int x4), some (.ref (26 + 2 * x2.toNatClampNeg)), some (.int (0 : Int32)), none]) C0 dX5_ways_67 (Nat.le_of_ble_eq_true rfl) rfl ?_
                      refine mr_iload C0 dX5_ways_69 rfl ?_
                      refine mr_if_ne C0 dX5_ways_71 (tgt := 96) (by decide) (fun q => absurd q (by decide)) (fun _ => ?_)
                      refine mr_aload C0 dX5_ways_74 rfl ?_
                      refine mr_iload C0 dX5_ways_76 rfl ?_
                      refine mr_aload_n C0 dX5_ways_78 rfl (i := 0) rfl ?_
                      refine mr_getR C0 dX5_ways_79 fl_X5_14 (Nat.le_of_ble_eq_true rfl) rfl rfl ?_
                      refine mr_getI C0 dX5_ways_82 fl_X5_189 (Nat.le_of_ble_eq_true rfl) rfl rfl ?_
                      refine mr_topI (y := (S.1 1 3)) (by first | rfl | simp [sI, sJ, sF, upd, vp_updL]) ?_
                      refine mr_iconst (v := 1) C0 dX5_ways_85 (by decide) ?_
                      refine mr_iadd C0 dX5_ways_86 ?_
                      refine mr_callVI C0 mdX3_spans dX5_ways_87 clX3_spans ml_X5_66 (sh_lt (sh_in g25)) (sh_lay (sh_in g25)) rfl arX3_spans (as := [.int x4, .int ((S.1 1 3) + (1 : Int32))]) rfl (Nat.le_of_ble_eq_true rfl) (Nat.le_of_ble_eq_true rfl) (Nat.le_of_ble_eq_true rfl) fit0 (CallV_of mdX3_spans plX3_spans 0 (Nat.le_of_ble_eq_true rfl) rfl ?_) (fun _ _ h => h)
                      intro zp19 zl19 ze19 zs19 zm19 zargs19 zbelow19 zmeth19 zc19 zD19 zad19 zac19 C19 hr19 hk19
                      refine mr_aload_n C19 dX3_spans_0 rfl (i := 0) rfl ?_
                      refine mr_getI C19 dX3_spans_1 fl_X3_15 (sh_lt (sh_in g25)) (sh_lay (sh_in g25)) rfl ?_
                      refine mr_if_eq C19 dX3_spans_4 (tgt := 37) (by decide) (fun c28 => ?_) (fun c28 => ?_)
                      · have h := h.1 c28
                        refine mr_iconst (v := 0) C19 dX3_spans_37 (by decide) ?_
                        refine mr_zret C19 hr19 hk19 dX3_spans_38 rfl (qI_mk ?_)
                        refine mr_if_ne C0 dX5_ways_90 (tgt := 96) (by decide) (fun q => absurd q (by decide)) (fun _ => ?_)
                        refine mr_iconst (v := 3) C0 dX5_ways_93 (by decide) ?_
                        refine mr_istore (L1 := [some (.ref 0), some (.int x1), some (.int x2), some (.int x3), some (.int x4), some (.ref (26 + 2 * x2.toNatClampNeg)), some (.int (3 : Int32)), none]) C0 dX5_ways_94 (Nat.le_of_ble_eq_true rfl) rfl ?_
                        refine mr_iload C0 dX5_ways_96 rfl ?_
                        refine mr_if_eq C0 dX5_ways_98 (tgt := 108) (by decide) (fun q => absurd q (by decide)) (fun _ => ?_)
                        refine mr_aload_n C0 dX5_ways_101 rfl (i := 0) rfl ?_
                        refine mr_iload C0 dX5_ways_102 rfl ?_
                        refine mr_callVI C0 mdX5_failed dX5_ways_104 clX5_failed ml_X5_70 (Nat.le_of_ble_eq_true rfl) rfl rfl arX5_failed (as := [.int (3 : Int32)]) rfl (Nat.le_of_ble_eq_true rfl) (Nat.le_of_ble_eq_true rfl) (Nat.le_of_ble_eq_true rfl) fit0 (CallV_of mdX5_failed plX5_failed 0 (Nat.le_of_ble_eq_true rfl) rfl ?_) (fun _ _ h => h)
                        intro zp20 zl20 ze20 zs20 zm20 zargs20 zbelow20 zmeth20 zc20 zD20 zad20 zac20 C20 hr20 hk20
                        refine mr_aload_n C20 dX5_failed_0 rfl (i := 0) rfl ?_
                        refine mr_iload_n C20 dX5_failed_1 rfl (i := 1) rfl ?_
                        refine mr_putI C20 dX5_failed_2 fl_X5_52 (Nat.le_of_ble_eq_true rfl) rfl rfl rfl rfl ?_
                        refine mr_bipush (v := (-10)) C20 dX5_failed_5 (by decide) ?_
                        refine mr_iload_n C20 dX5_failed_7 rfl (i := 1) rfl ?_
                        refine mr_isub C20 dX5_failed_8 ?_
                        refine mr_topI (y := (-13 : Int32)) (by decide) ?_
                        refine mr_iret C20 hr20 hk20 dX5_failed_9 (qI_mk ?_)
                        refine mr_iret C0 hr0 hk0 dX5_ways_107 (qI_mk ?_)
                        exact h
                      · have h := h.2 c28
                        refine mr_iload_n C19 dX3_spans_7 rfl (i := 1) rfl ?_
                        refine mr_if_lt C19 dX3_spans_8 (tgt := 37) (by decide) (fun c29 => ?_) (fun c29 => ?_)
                        · have h := h.1 c29
                          refine mr_iconst (v := 0) C19 dX3_spans_37 (by decide) ?_
                          refine mr_zret C19 hr19 hk19 dX3_spans_38 rfl (qI_mk ?_)
                          refine mr_if_ne C0 dX5_ways_90 (tgt := 96) (by decide) (fun q => absurd q (by decide)) (fun _ => ?_)
                          refine mr_iconst (v := 3) C0 dX5_ways_93 (by decide) ?_
                          refine mr_istore (L1 := [some (.ref 0), some (.int x1), some (.int x2), some (.int x3), some (.int x4), some (.ref (26 + 2 * x2.toNatClampNeg)), some (.int (3 : Int32)), none]) C0 dX5_ways_94 (Nat.le_of_ble_eq_true rfl) rfl ?_
                          refine mr_iload C0 dX5_ways_96 rfl ?_
                          refine mr_if_eq C0 dX5_ways_98 (tgt := 108) (by decide) (fun q => absurd q (by decide)) (fun _ => ?_)
                          refine mr_aload_n C0 dX5_ways_101 rfl (i := 0) rfl ?_
                          refine mr_iload C0 dX5_ways_102 rfl ?_
                          refine mr_callVI C0 mdX5_failed dX5_ways_104 clX5_failed ml_X5_70 (Nat.le_of_ble_eq_true rfl) rfl rfl arX5_failed (as := [.int (3 : Int32)]) rfl (Nat.le_of_ble_eq_true rfl) (Nat.le_of_ble_eq_true rfl) (Nat.le_of_ble_eq_true rfl) fit0 (CallV_of mdX5_failed plX5_failed 0 (Nat.le_of_ble_eq_true rfl) rfl ?_) (fun _ _ h => h)
                          intro zp21 zl21 ze21 zs21 zm21 zargs21 zbelow21 zmeth21 zc21 zD21 zad21 zac21 C21 hr21 hk21
                          refine mr_aload_n C21 dX5_failed_0 rfl (i := 0) rfl ?_
                          refine mr_iload_n C21 dX5_failed_1 rfl (i := 1) rfl ?_
                          refine mr_putI C21 dX5_failed_2 fl_X5_52 (Nat.le_of_ble_eq_true rfl) rfl rfl rfl rfl ?_
                          refine mr_bipush (v := (-10)) C21 dX5_failed_5 (by decide) ?_
                          refine mr_iload_n C21 dX5_failed_7 rfl (i := 1) rfl ?_
                          refine mr_isub C21 dX5_failed_8 ?_
                          refine mr_topI (y := (-13 : Int32)) (by decide) ?_
                          refine mr_iret C21 hr21 hk21 dX5_failed_9 (qI_mk ?_)
                          refine mr_iret C0 hr0 hk0 dX5_ways_107 (qI_mk ?_)
                          exact h
                        · have h := h.2 c29
                          refine mr_iload_n C19 dX3_spans_11 rfl (i := 2) rfl ?_
                          refine mr_if_lt C19 dX3_spans_12 (tgt := 37) (by decide) (fun c30 => ?_) (fun c30 => ?_)
                          · have h := h.1 c30
                            refine mr_iconst (v := 0) C19 dX3_spans_37 (by decide) ?_
                            refine mr_zret C19 hr19 hk19 dX3_spans_38 rfl (qI_mk ?_)
                            refine mr_if_ne C0 dX5_ways_90 (tgt := 96) (by decide) (fun q => absurd q (by decide)) (fun _ => ?_)
                            refine mr_iconst (v := 3) C0 dX5_ways_93 (by decide) ?_
                            refine mr_istore (L1 := [some (.ref 0), some (.int x1), some (.int x2), some (.int x3), some (.int x4), some (.ref (26 + 2 * x2.toNatClampNeg)), some (.int (3 : Int32)), none]) C0 dX5_ways_94 (Nat.le_of_ble_eq_true rfl) rfl ?_
                            refine mr_iload C0 dX5_ways_96 rfl ?_
                            refine mr_if_eq C0 dX5_ways_98 (tgt := 108) (by decide) (fun q => absurd q (by decide)) (fun _ => ?_)
                            refine mr_aload_n C0 dX5_ways_101 rfl (i := 0) rfl ?_
                            refine mr_iload C0 dX5_ways_102 rfl ?_
                            refine mr_callVI C0 mdX5_failed dX5_ways_104 clX5_failed ml_X5_70 (Nat.le_of_ble_eq_true rfl) rfl rfl arX5_failed (as := [.int (3 : Int32)]) rfl (Nat.le_of_ble_eq_true rfl) (Nat.le_of_ble_eq_true rfl) (Nat.le_of_ble_eq_true rfl) fit0 (CallV_of mdX5_failed plX5_failed 0 (Nat.le_of_ble_eq_true rfl) rfl ?_) (fun _ _ h => h)
                            intro zp22 zl22 ze22 zs22 zm22 zargs22 zbelow22 zmeth22 zc22 zD22 zad22 zac22 C22 hr22 hk22
                            refine mr_aload_n C22 dX5_failed_0 rfl (i := 0) rfl ?_
                            refine mr_iload_n C22 dX5_failed_1 rfl (i := 1) rfl ?_
                            refine mr_putI C22 dX5_failed_2 fl_X5_52 (Nat.le_of_ble_eq_true rfl) rfl rfl rfl rfl ?_
                            refine mr_bipush (v := (-10)) C22 dX5_failed_5 (by decide) ?_
                            refine mr_iload_n C22 dX5_failed_7 rfl (i := 1) rfl ?_
                            refine mr_isub C22 dX5_failed_8 ?_
                            refine mr_topI (y := (-13 : Int32)) (by decide) ?_
                            refine mr_iret C22 hr22 hk22 dX5_failed_9 (qI_mk ?_)
                            refine mr_iret C0 hr0 hk0 dX5_ways_107 (qI_mk ?_)
                            exact h
                          · have h := h.2 c30
                            refine mr_iload_n C19 dX3_spans_15 rfl (i := 1) rfl ?_
                            refine mr_aload_n C19 dX3_spans_16 rfl (i := 0) rfl ?_
                            refine mr_getI C19 dX3_spans_17 fl_X3_23 (sh_lt (sh_in g25)) (sh_lay (sh_in g25)) rfl ?_
                            refine mr_icmp_gt C19 dX3_spans_20 (tgt := 37) (by decide) (fun c31 => ?_) (fun c31 => ?_)
                            · have h := h.1 c31
                              refine mr_iconst (v := 0) C19 dX3_spans_37 (by decide) ?_
                              refine mr_zret C19 hr19 hk19 dX3_spans_38 rfl (qI_mk ?_)
                              refine mr_if_ne C0 dX5_ways_90 (tgt := 96) (by decide) (fun q => absurd q (by decide)) (fun _ => ?_)
                              refine mr_iconst (v := 3) C0 dX5_ways_93 (by decide) ?_
                              refine mr_istore (L1 := [some (.ref 0), some (.int x1), some (.int x2), some (.int x3), some (.int x4), some (.ref (26 + 2 * x2.toNatClampNeg)), some (.int (3 : Int32)), none]) C0 dX5_ways_94 (Nat.le_of_ble_eq_true rfl) rfl ?_
                              refine mr_iload C0 dX5_ways_96 rfl ?_
                              refine mr_if_eq C0 dX5_ways_98 (tgt := 108) (by decide) (fun q => absurd q (by decide)) (fun _ => ?_)
                              refine mr_aload_n C0 dX5_ways_101 rfl (i := 0) rfl ?_
                              refine mr_iload C0 dX5_ways_102 rfl ?_
                              refine mr_callVI C0 mdX5_failed dX5_ways_104 clX5_failed ml_X5_70 (Nat.le_of_ble_eq_true rfl) rfl rfl arX5_failed (as := [.int (3 : Int32)]) rfl (Nat.le_of_ble_eq_true rfl) (Nat.le_of_ble_eq_true rfl) (Nat.le_of_ble_eq_true rfl) fit0 (CallV_of mdX5_failed plX5_failed 0 (Nat.le_of_ble_eq_true rfl) rfl ?_) (fun _ _ h => h)
                              intro zp23 zl23 ze23 zs23 zm23 zargs23 zbelow23 zmeth23 zc23 zD23 zad23 zac23 C23 hr23 hk23
                              refine mr_aload_n C23 dX5_failed_0 rfl (i := 0) rfl ?_
                              refine mr_iload_n C23 dX5_failed_1 rfl (i := 1) rfl ?_
                              refine mr_putI C23 dX5_failed_2 fl_X5_52 (Nat.le_of_ble_eq_true rfl) rfl rfl rfl rfl ?_
                              refine mr_bipush (v := (-10)) C23 dX5_failed_5 (by decide) ?_
                              refine mr_iload_n C23 dX5_failed_7 rfl (i := 1) rfl ?_
                              refine mr_isub C23 dX5_failed_8 ?_
                              refine mr_topI (y := (-13 : Int32)) (by decide) ?_
                              refine mr_iret C23 hr23 hk23 dX5_failed_9 (qI_mk ?_)
                              refine mr_iret C0 hr0 hk0 dX5_ways_107 (qI_mk ?_)
                              exact h
                            · have h := h.2 c31
                              refine mr_iload_n C19 dX3_spans_23 rfl (i := 2) rfl ?_
                              refine mr_aload_n C19 dX3_spans_24 rfl (i := 0) rfl ?_
                              refine mr_getI C19 dX3_spans_25 fl_X3_23 (sh_lt (sh_in g25)) (sh_lay (sh_in g25)) rfl ?_
                              refine mr_iload_n C19 dX3_spans_28 rfl (i := 1) rfl ?_
                              refine mr_isub C19 dX3_spans_29 ?_
                              refine mr_icmp_gt C19 dX3_spans_30 (tgt := 37) (by decide) (fun c32 => ?_) (fun c32 => ?_)
                              · have h := h.1 c32
                                refine mr_iconst (v := 0) C19 dX3_spans_37 (by decide) ?_
                                refine mr_zret C19 hr19 hk19 dX3_spans_38 rfl (qI_mk ?_)
                                refine mr_if_ne C0 dX5_ways_90 (tgt := 96) (by decide) (fun q => absurd q (by decide)) (fun _ => ?_)
                                refine mr_iconst (v := 3) C0 dX5_ways_93 (by decide) ?_
                                refine mr_istore (L1 := [some (.ref 0), some (.int x1), some (.int x2), some (.int x3), some (.int x4), some (.ref (26 + 2 * x2.toNatClampNeg)), some (.int (3 : Int32)), none]) C0 dX5_ways_94 (Nat.le_of_ble_eq_true rfl) rfl ?_
                                refine mr_iload C0 dX5_ways_96 rfl ?_
                                refine mr_if_eq C0 dX5_ways_98 (tgt := 108) (by decide) (fun q => absurd q (by decide)) (fun _ => ?_)
                                refine mr_aload_n C0 dX5_ways_101 rfl (i := 0) rfl ?_
                                refine mr_iload C0 dX5_ways_102 rfl ?_
                                refine mr_callVI C0 mdX5_failed dX5_ways_104 clX5_failed ml_X5_70 (Nat.le_of_ble_eq_true rfl) rfl rfl arX5_failed (as := [.int (3 : Int32)]) rfl (Nat.le_of_ble_eq_true rfl) (Nat.le_of_ble_eq_true rfl) (Nat.le_of_ble_eq_true rfl) fit0 (CallV_of mdX5_failed plX5_failed 0 (Nat.le_of_ble_eq_true rfl) rfl ?_) (fun _ _ h => h)
                                intro zp24 zl24 ze24 zs24 zm24 zargs24 zbelow24 zmeth24 zc24 zD24 zad24 zac24 C24 hr24 hk24
                                refine mr_aload_n C24 dX5_failed_0 rfl (i := 0) rfl ?_
                                refine mr_iload_n C24 dX5_failed_1 rfl (i := 1) rfl ?_
                                refine mr_putI C24 dX5_failed_2 fl_X5_52 (Nat.le_of_ble_eq_true rfl) rfl rfl rfl rfl ?_
                                refine mr_bipush (v := (-10)) C24 dX5_failed_5 (by decide) ?_
                                refine mr_iload_n C24 dX5_failed_7 rfl (i := 1) rfl ?_
                                refine mr_isub C24 dX5_failed_8 ?_
                                refine mr_topI (y := (-13 : Int32)) (by decide) ?_
                                refine mr_iret C24 hr24 hk24 dX5_failed_9 (qI_mk ?_)
                                refine mr_iret C0 hr0 hk0 dX5_ways_107 (qI_mk ?_)
                                exact h
                              · have h := h.2 c32
                                refine mr_iconst (v := 1) C19 dX3_spans_33 (by decide) ?_
                                refine mr_goto C19 dX3_spans_34 (tgt := 38) (by decide) ?_
                                refine mr_zret C19 hr19 hk19 dX3_spans_38 rfl (qI_mk ?_)
                                refine mr_if_ne C0 dX5_ways_90 (tgt := 96) (by decide) (fun _ => ?_) (fun q => absurd q (by decide))
                                refine mr_iload C0 dX5_ways_96 rfl ?_
                                refine mr_if_eq C0 dX5_ways_98 (tgt := 108) (by decide) (fun _ => ?_) (fun q => absurd q (by decide))
                                refine mr_aload_n C0 dX5_ways_108 rfl (i := 0) rfl ?_
                                refine mr_getR C0 dX5_ways_109 fl_X5_37 (Nat.le_of_ble_eq_true rfl) rfl rfl ?_
                                refine mr_aload C0 dX5_ways_112 rfl ?_
                                refine mr_iload C0 dX5_ways_114 rfl ?_
                                refine mr_aload_n C0 dX5_ways_116 rfl (i := 0) rfl ?_
                                refine mr_getR C0 dX5_ways_117 fl_X5_14 (Nat.le_of_ble_eq_true rfl) rfl rfl ?_
                                refine mr_getI C0 dX5_ways_120 fl_X5_189 (Nat.le_of_ble_eq_true rfl) rfl rfl ?_
                                refine mr_topI (y := (S.1 1 3)) (by first | rfl | simp [sI, sJ, sF, upd, vp_updL]) ?_
                                refine mr_aload_n C0 dX5_ways_123 rfl (i := 0) rfl ?_
                                refine mr_getR C0 dX5_ways_124 fl_X5_21 (Nat.le_of_ble_eq_true rfl) rfl rfl ?_
                                refine mr_getI C0 dX5_ways_127 fl_X5_81 (Nat.le_of_ble_eq_true rfl) rfl rfl ?_
                                refine mr_topI (y := (S.1 4 2)) (by first | rfl | simp [sI, sJ, sF, upd, vp_updL]) ?_
                                refine mr_callVI C0 mdX0_take dX5_ways_130 clX0_take ml_X5_192 (Nat.le_of_ble_eq_true rfl) rfl rfl arX0_take (as := [.ref (26 + 2 * x2.toNatClampNeg), .int x4, .int (S.1 1 3), .int (S.1 4 2)]) rfl (Nat.le_of_ble_eq_true rfl) (Nat.le_of_ble_eq_true rfl) (Nat.le_of_ble_eq_true rfl) fit0 h (fun r34 S33 h => ?_)
                                refine mr_if_ne C0 dX5_ways_133 (tgt := 138) (by decide) (fun c35 => ?_) (fun c35 => ?_)
                                · have h := h.1 c35
                                  refine mr_iconst (v := 0) C0 dX5_ways_138 (by decide) ?_
                                  refine mr_istore (L1 := [some (.ref 0), some (.int x1), some (.int x2), some (.int x3), some (.int x4), some (.ref (26 + 2 * x2.toNatClampNeg)), some (.int (0 : Int32)), some (.int (0 : Int32))]) C0 dX5_ways_139 (Nat.le_of_ble_eq_true rfl) rfl ?_
                                  refine mr_mask (L1 := [some (.ref 0), some (.int x1), none, none, none, none, none, some (.int (0 : Int32))]) C0 [true, true, false, false, false, false, false, true] rfl ?_
                                  exact h zp0 zl0 ze0 zs0 zm0 zargs0 zbelow0 zmeth0 zc0 zD0 zad0 zac0 C0 hr0 hk0
                                · have h := h.2 c35
                                  refine mr_iconst (v := 0) C0 dX5_ways_136 (by decide) ?_
                                  refine mr_iret C0 hr0 hk0 dX5_ways_137 (qI_mk ?_)
                                  exact h
                  · have h := h.2 c26
                    refine mr_iconst (v := 1) C17 dX3_faultAs_7 (by decide) ?_
                    refine mr_iret C17 hr17 hk17 dX3_faultAs_8 (qI_mk ?_)
                    refine mr_istore (L1 := [some (.ref 0), some (.int x1), some (.int x2), some (.int x3), some (.int x4), some (.ref (26 + 2 * x2.toNatClampNeg)), some (.int (1 : Int32)), none]) C0 dX5_ways_67 (Nat.le_of_ble_eq_true rfl) rfl ?_
                    refine mr_iload C0 dX5_ways_69 rfl ?_
                    refine mr_if_ne C0 dX5_ways_71 (tgt := 96) (by decide) (fun _ => ?_) (fun q => absurd q (by decide))
                    refine mr_iload C0 dX5_ways_96 rfl ?_
                    refine mr_if_eq C0 dX5_ways_98 (tgt := 108) (by decide) (fun q => absurd q (by decide)) (fun _ => ?_)
                    refine mr_aload_n C0 dX5_ways_101 rfl (i := 0) rfl ?_
                    refine mr_iload C0 dX5_ways_102 rfl ?_
                    refine mr_callVI C0 mdX5_failed dX5_ways_104 clX5_failed ml_X5_70 (Nat.le_of_ble_eq_true rfl) rfl rfl arX5_failed (as := [.int (1 : Int32)]) rfl (Nat.le_of_ble_eq_true rfl) (Nat.le_of_ble_eq_true rfl) (Nat.le_of_ble_eq_true rfl) fit0 (CallV_of mdX5_failed plX5_failed 0 (Nat.le_of_ble_eq_true rfl) rfl ?_) (fun _ _ h => h)
                    intro zp25 zl25 ze25 zs25 zm25 zargs25 zbelow25 zmeth25 zc25 zD25 zad25 zac25 C25 hr25 hk25
                    refine mr_aload_n C25 dX5_failed_0 rfl (i := 0) rfl ?_
                    refine mr_iload_n C25 dX5_failed_1 rfl (i := 1) rfl ?_
                    refine mr_putI C25 dX5_failed_2 fl_X5_52 (Nat.le_of_ble_eq_true rfl) rfl rfl rfl rfl ?_
                    refine mr_bipush (v := (-10)) C25 dX5_failed_5 (by decide) ?_
                    refine mr_iload_n C25 dX5_failed_7 rfl (i := 1) rfl ?_
                    refine mr_isub C25 dX5_failed_8 ?_
                    refine mr_topI (y := (-11 : Int32)) (by decide) ?_
                    refine mr_iret C25 hr25 hk25 dX5_failed_9 (qI_mk ?_)
                    refine mr_iret C0 hr0 hk0 dX5_ways_107 (qI_mk ?_)
                    exact h
set_option maxRecDepth 100000 in
set_option maxHeartbeats 4000000 in
theorem eX5_ways_141 (x1 : Int32) (x7 : Int32) (S : St) (Q : Int32 → St → Prop) (h : (((S.1 4 2) ≤ x7 → ((¬ x1 = (-1 : Int32) → CallV mdX0_endsOfRows [.ref 19, .int x1] S (qI fun r4 S3 => Q r4 S3)) ∧ (x1 = (-1 : Int32) → CallV mdX0_rows [.ref 19] S (qI fun r6 S5 => Q r6 S5)))) ∧ (¬ (S.1 4 2) ≤ x7 → CallV mdX1_endsOf [.ref 7, .int x7] S (qI fun r8 S7 => (vp_in x7 8) ∧ V mdX5_ways 141 [some (.ref 0), some (.int x1), none, none, none, none, none, some (.int (x7 + 1))] [] (sI S7 21 x7.toNatClampNeg r8) (qI Q))))) : V mdX5_ways 141 [some (.ref 0), some (.int x1), none, none, none, none, none, some (.int x7)] [] S (qI Q) := by
  intro zp0 zl0 ze0 zs0 zm0 zargs0 zbelow0 zmeth0 zc0 zD0 zad0 zac0 C0 hr0 hk0
  refine mr_iload C0 dX5_ways_141 rfl ?_
  refine mr_aload_n C0 dX5_ways_143 rfl (i := 0) rfl ?_
  refine mr_getR C0 dX5_ways_144 fl_X5_21 (Nat.le_of_ble_eq_true rfl) rfl rfl ?_
  refine mr_getI C0 dX5_ways_147 fl_X5_81 (Nat.le_of_ble_eq_true rfl) rfl rfl ?_
  refine mr_icmp_ge C0 dX5_ways_150 (tgt := 178) (by decide) (fun c1 => ?_) (fun c1 => ?_)
  · have h := h.1 c1
    refine mr_iload_n C0 dX5_ways_178 rfl (i := 1) rfl ?_
    refine mr_iconst (v := (-1)) C0 dX5_ways_179 (by decide) ?_
    refine mr_icmp_ne C0 dX5_ways_180 (tgt := 193) (by decide) (fun c2 => ?_) (fun c2 => ?_)
    · have h := h.1 c2
      refine mr_aload_n C0 dX5_ways_193 rfl (i := 0) rfl ?_
      refine mr_getR C0 dX5_ways_194 fl_X5_37 (Nat.le_of_ble_eq_true rfl) rfl rfl ?_
      refine mr_iload_n C0 dX5_ways_197 rfl (i := 1) rfl ?_
      refine mr_callVI C0 mdX0_endsOfRows dX5_ways_198 clX0_endsOfRows ml_X5_205 (Nat.le_of_ble_eq_true rfl) rfl rfl arX0_endsOfRows (as := [.int x1]) rfl (Nat.le_of_ble_eq_true rfl) (Nat.le_of_ble_eq_true rfl) (Nat.le_of_ble_eq_true rfl) fit0 h (fun r4 S3 h => ?_)
      refine mr_iret C0 hr0 hk0 dX5_ways_201 (qI_mk ?_)
      exact h
    · have h := h.2 c2
      refine mr_aload_n C0 dX5_ways_183 rfl (i := 0) rfl ?_
      refine mr_getR C0 dX5_ways_184 fl_X5_37 (Nat.le_of_ble_eq_true rfl) rfl rfl ?_
      refine mr_callVI C0 mdX0_rows dX5_ways_187 clX0_rows ml_X5_202 (Nat.le_of_ble_eq_true rfl) rfl rfl arX0_rows (as := []) rfl (Nat.le_of_ble_eq_true rfl) (Nat.le_of_ble_eq_true rfl) (Nat.le_of_ble_eq_true rfl) fit0 h (fun r6 S5 h => ?_)
      refine mr_goto C0 dX5_ways_190 (tgt := 201) (by decide) ?_
      refine mr_iret C0 hr0 hk0 dX5_ways_201 (qI_mk ?_)
      exact h
  · have h := h.2 c1
    refine mr_aload_n C0 dX5_ways_153 rfl (i := 0) rfl ?_
    refine mr_getR C0 dX5_ways_154 fl_X5_37 (Nat.le_of_ble_eq_true rfl) rfl rfl ?_
    refine mr_getR C0 dX5_ways_157 fl_X5_196 (Nat.le_of_ble_eq_true rfl) rfl rfl ?_
    refine mr_iload C0 dX5_ways_160 rfl ?_
    refine mr_aload_n C0 dX5_ways_162 rfl (i := 0) rfl ?_
    refine mr_getR C0 dX5_ways_163 fl_X5_30 (Nat.le_of_ble_eq_true rfl) rfl rfl ?_
    refine mr_iload C0 dX5_ways_166 rfl ?_
    refine mr_callVI C0 mdX1_endsOf dX5_ways_168 clX1_endsOf ml_X5_199 (Nat.le_of_ble_eq_true rfl) rfl rfl arX1_endsOf (as := [.int x7]) rfl (Nat.le_of_ble_eq_true rfl) (Nat.le_of_ble_eq_true rfl) (Nat.le_of_ble_eq_true rfl) fit0 h (fun r8 S7 h => ?_)
    have g9 := h.1
    have h := h.2
    refine mr_iast C0 dX5_ways_171 (Nat.le_of_ble_eq_true rfl) rfl g9 ?_
    refine mr_iinc (v := (x7 + 1)) (L1 := [some (.ref 0), some (.int x1), none, none, none, none, none, some (.int (x7 + 1))]) C0 dX5_ways_172 rfl rfl (Nat.le_of_ble_eq_true rfl) rfl ?_
    refine mr_goto C0 dX5_ways_175 (tgt := 141) (by decide) ?_
    exact h zp0 zl0 ze0 zs0 zm0 zargs0 zbelow0 zmeth0 zc0 zD0 zad0 zac0 C0 hr0 hk0
set_option maxRecDepth 100000 in
set_option maxHeartbeats 4000000 in
theorem eX5_fair (S : St) (Q : Int32 → St → Prop) (h : (((S.1 1 3) ≤ 0 → Q (-3 : Int32) S) ∧ (¬ (S.1 1 3) ≤ 0 → CallV mdX1_fairColumns [.ref 7] S (qI fun r3 S2 => Q r3 S2)))) : CallV mdX5_fair [.ref 0] S (qI Q) := by
  refine CallV_of mdX5_fair plX5_fair 0 (Nat.le_of_ble_eq_true rfl) rfl ?_
  intro zp0 zl0 ze0 zs0 zm0 zargs0 zbelow0 zmeth0 zc0 zD0 zad0 zac0 C0 hr0 hk0
  refine mr_aload_n C0 dX5_fair_0 rfl (i := 0) rfl ?_
  refine mr_getR C0 dX5_fair_1 fl_X5_14 (Nat.le_of_ble_eq_true rfl) rfl rfl ?_
  refine mr_callVI C0 mdX2_stands dX5_fair_4 clX2_stands ml_X5_100 (Nat.le_of_ble_eq_true rfl) rfl rfl arX2_stands (as := []) rfl (Nat.le_of_ble_eq_true rfl) (Nat.le_of_ble_eq_true rfl) (Nat.le_of_ble_eq_true rfl) fit0 (CallV_of mdX2_stands plX2_stands 0 (Nat.le_of_ble_eq_true rfl) rfl ?_) (fun _ _ h => h)
  intro zp1 zl1 ze1 zs1 zm1 zargs1 zbelow1 zmeth1 zc1 zD1 zad1 zac1 C1 hr1 hk1
  refine mr_aload_n C1 dX2_stands_0 rfl (i := 0) rfl ?_
  refine mr_getI C1 dX2_stands_1 fl_X2_22 (Nat.le_of_ble_eq_true rfl) rfl rfl ?_
  refine mr_if_le C1 dX2_stands_4 (tgt := 11) (by decide) (fun c1 => ?_) (fun c1 => ?_)
  · have h := h.1 c1
    refine mr_iconst (v := 0) C1 dX2_stands_11 (by decide) ?_
    refine mr_zret C1 hr1 hk1 dX2_stands_12 rfl (qI_mk ?_)
    refine mr_if_eq C0 dX5_fair_7 (tgt := 20) (by decide) (fun _ => ?_) (fun q => absurd q (by decide))
    refine mr_bipush (v := (-3)) C0 dX5_fair_20 (by decide) ?_
    refine mr_iret C0 hr0 hk0 dX5_fair_22 (qI_mk ?_)
    exact h
  · have h := h.2 c1
    refine mr_iconst (v := 1) C1 dX2_stands_7 (by decide) ?_
    refine mr_goto C1 dX2_stands_8 (tgt := 12) (by decide) ?_
    refine mr_zret C1 hr1 hk1 dX2_stands_12 rfl (qI_mk ?_)
    refine mr_if_eq C0 dX5_fair_7 (tgt := 20) (by decide) (fun q => absurd q (by decide)) (fun _ => ?_)
    refine mr_aload_n C0 dX5_fair_10 rfl (i := 0) rfl ?_
    refine mr_getR C0 dX5_fair_11 fl_X5_30 (Nat.le_of_ble_eq_true rfl) rfl rfl ?_
    refine mr_callVI C0 mdX1_fairColumns dX5_fair_14 clX1_fairColumns ml_X5_208 (Nat.le_of_ble_eq_true rfl) rfl rfl arX1_fairColumns (as := []) rfl (Nat.le_of_ble_eq_true rfl) (Nat.le_of_ble_eq_true rfl) (Nat.le_of_ble_eq_true rfl) fit0 h (fun r3 S2 h => ?_)
    refine mr_goto C0 dX5_fair_17 (tgt := 22) (by decide) ?_
    refine mr_iret C0 hr0 hk0 dX5_fair_22 (qI_mk ?_)
    exact h
set_option maxRecDepth 100000 in
set_option maxHeartbeats 4000000 in
theorem eX5_sheet (x1 : Int32) (x2 : Int32) (x3 : Int32) (S : St) (Q : Int32 → St → Prop) (h : ((x1 < 0 → Q (-1 : Int32) (sI S 0 6 (0 : Int32))) ∧ (¬ x1 < 0 → (((4 : Int32) ≤ x1 → Q (-1 : Int32) (sI S 0 6 (0 : Int32))) ∧ (¬ (4 : Int32) ≤ x1 → ((x2 < 0 → Q (-2 : Int32) (sI S 0 6 (0 : Int32))) ∧ (¬ x2 < 0 → (((3 : Int32) ≤ x2 → Q (-2 : Int32) (sI S 0 6 (0 : Int32))) ∧ (¬ (3 : Int32) ≤ x2 → ((x3 ≤ (60 : Int32) → ((0 ≤ x3 → (vp_in x1 4) ∧ CallV mdJ7_fill_53178 [.ref ((26 + 2 * x1.toNatClampNeg) + 1), .int (0 : Int32)] (sI (sI (sI (sI S 0 6 (0 : Int32)) (26 + 2 * x1.toNatClampNeg) 1 (1 : Int32)) (26 + 2 * x1.toNatClampNeg) 2 x2) (26 + 2 * x1.toNatClampNeg) 3 x3) (qV fun S8 => Q (1 : Int32) S8)) ∧ (¬ 0 ≤ x3 → Q (-14 : Int32) (sI (sI S 0 6 (0 : Int32)) 0 6 (4 : Int32))))) ∧ (¬ x3 ≤ (60 : Int32) → Q (-2 : Int32) (sI S 0 6 (0 : Int32))))))))))))) : CallV mdX5_sheet [.ref 0, .int x1, .int x2, .int x3] S (qI Q) := by
  refine CallV_of mdX5_sheet plX5_sheet 0 (Nat.le_of_ble_eq_true rfl) rfl ?_
  intro zp0 zl0 ze0 zs0 zm0 zargs0 zbelow0 zmeth0 zc0 zD0 zad0 zac0 C0 hr0 hk0
  refine mr_aload_n C0 dX5_sheet_0 rfl (i := 0) rfl ?_
  refine mr_iconst (v := 0) C0 dX5_sheet_1 (by decide) ?_
  refine mr_putI C0 dX5_sheet_2 fl_X5_52 (Nat.le_of_ble_eq_true rfl) rfl rfl rfl rfl ?_
  refine mr_iload_n C0 dX5_sheet_5 rfl (i := 1) rfl ?_
  refine mr_callSI C0 mdX5_isSheet dX5_sheet_6 clX5_isSheet ml_X5_55 arX5_isSheet (as := [.int x1]) rfl (Nat.le_of_ble_eq_true rfl) (Nat.le_of_ble_eq_true rfl) (Nat.le_of_ble_eq_true rfl) fit0 (CallV_of mdX5_isSheet plX5_isSheet 0 (Nat.le_of_ble_eq_true rfl) rfl ?_) (fun _ _ h => h)
  intro zp1 zl1 ze1 zs1 zm1 zargs1 zbelow1 zmeth1 zc1 zD1 zad1 zac1 C1 hr1 hk1
  refine mr_iload_n C1 dX5_isSheet_0 rfl (i := 0) rfl ?_
  refine mr_if_lt C1 dX5_isSheet_1 (tgt := 13) (by decide) (fun c1 => ?_) (fun c1 => ?_)
  · have h := h.1 c1
    refine mr_iconst (v := 0) C1 dX5_isSheet_13 (by decide) ?_
    refine mr_zret C1 hr1 hk1 dX5_isSheet_14 rfl (qI_mk ?_)
    refine mr_if_ne C0 dX5_sheet_9 (tgt := 14) (by decide) (fun q => absurd q (by decide)) (fun _ => ?_)
    refine mr_iconst (v := (-1)) C0 dX5_sheet_12 (by decide) ?_
    refine mr_iret C0 hr0 hk0 dX5_sheet_13 (qI_mk ?_)
    exact h
  · have h := h.2 c1
    refine mr_iload_n C1 dX5_isSheet_4 rfl (i := 0) rfl ?_
    refine mr_iconst (v := 4) C1 dX5_isSheet_5 (by decide) ?_
    refine mr_icmp_ge C1 dX5_isSheet_6 (tgt := 13) (by decide) (fun c2 => ?_) (fun c2 => ?_)
    · have h := h.1 c2
      refine mr_iconst (v := 0) C1 dX5_isSheet_13 (by decide) ?_
      refine mr_zret C1 hr1 hk1 dX5_isSheet_14 rfl (qI_mk ?_)
      refine mr_if_ne C0 dX5_sheet_9 (tgt := 14) (by decide) (fun q => absurd q (by decide)) (fun _ => ?_)
      refine mr_iconst (v := (-1)) C0 dX5_sheet_12 (by decide) ?_
      refine mr_iret C0 hr0 hk0 dX5_sheet_13 (qI_mk ?_)
      exact h
    · have h := h.2 c2
      refine mr_iconst (v := 1) C1 dX5_isSheet_9 (by decide) ?_
      refine mr_goto C1 dX5_isSheet_10 (tgt := 14) (by decide) ?_
      refine mr_zret C1 hr1 hk1 dX5_isSheet_14 rfl (qI_mk ?_)
      refine mr_if_ne C0 dX5_sheet_9 (tgt := 14) (by decide) (fun _ => ?_) (fun q => absurd q (by decide))
      refine mr_iload_n C0 dX5_sheet_14 rfl (i := 2) rfl ?_
      refine mr_callSI C0 mdX5_isLane dX5_sheet_15 clX5_isLane ml_X5_59 arX5_isLane (as := [.int x2]) rfl (Nat.le_of_ble_eq_true rfl) (Nat.le_of_ble_eq_true rfl) (Nat.le_of_ble_eq_true rfl) fit0 (CallV_of mdX5_isLane plX5_isLane 0 (Nat.le_of_ble_eq_true rfl) rfl ?_) (fun _ _ h => h)
      intro zp2 zl2 ze2 zs2 zm2 zargs2 zbelow2 zmeth2 zc2 zD2 zad2 zac2 C2 hr2 hk2
      refine mr_iload_n C2 dX5_isLane_0 rfl (i := 0) rfl ?_
      refine mr_if_lt C2 dX5_isLane_1 (tgt := 13) (by decide) (fun c3 => ?_) (fun c3 => ?_)
      · have h := h.1 c3
        refine mr_iconst (v := 0) C2 dX5_isLane_13 (by decide) ?_
        refine mr_zret C2 hr2 hk2 dX5_isLane_14 rfl (qI_mk ?_)
        refine mr_if_eq C0 dX5_sheet_18 (tgt := 27) (by decide) (fun _ => ?_) (fun q => absurd q (by decide))
        refine mr_bipush (v := (-2)) C0 dX5_sheet_27 (by decide) ?_
        refine mr_iret C0 hr0 hk0 dX5_sheet_29 (qI_mk ?_)
        exact h
      · have h := h.2 c3
        refine mr_iload_n C2 dX5_isLane_4 rfl (i := 0) rfl ?_
        refine mr_iconst (v := 3) C2 dX5_isLane_5 (by decide) ?_
        refine mr_icmp_ge C2 dX5_isLane_6 (tgt := 13) (by decide) (fun c4 => ?_) (fun c4 => ?_)
        · have h := h.1 c4
          refine mr_iconst (v := 0) C2 dX5_isLane_13 (by decide) ?_
          refine mr_zret C2 hr2 hk2 dX5_isLane_14 rfl (qI_mk ?_)
          refine mr_if_eq C0 dX5_sheet_18 (tgt := 27) (by decide) (fun _ => ?_) (fun q => absurd q (by decide))
          refine mr_bipush (v := (-2)) C0 dX5_sheet_27 (by decide) ?_
          refine mr_iret C0 hr0 hk0 dX5_sheet_29 (qI_mk ?_)
          exact h
        · have h := h.2 c4
          refine mr_iconst (v := 1) C2 dX5_isLane_9 (by decide) ?_
          refine mr_goto C2 dX5_isLane_10 (tgt := 14) (by decide) ?_
          refine mr_zret C2 hr2 hk2 dX5_isLane_14 rfl (qI_mk ?_)
          refine mr_if_eq C0 dX5_sheet_18 (tgt := 27) (by decide) (fun q => absurd q (by decide)) (fun _ => ?_)
          refine mr_iload_n C0 dX5_sheet_21 rfl (i := 3) rfl ?_
          refine mr_bipush (v := 60) C0 dX5_sheet_22 (by decide) ?_
          refine mr_icmp_le C0 dX5_sheet_24 (tgt := 30) (by decide) (fun c5 => ?_) (fun c5 => ?_)
          · have h := h.1 c5
            refine mr_iload_n C0 dX5_sheet_30 rfl (i := 3) rfl ?_
            refine mr_if_ge C0 dX5_sheet_31 (tgt := 40) (by decide) (fun c6 => ?_) (fun c6 => ?_)
            · have h := h.1 c6
              refine mr_aload_n C0 dX5_sheet_40 rfl (i := 0) rfl ?_
              refine mr_getR C0 dX5_sheet_41 fl_X5_43 (Nat.le_of_ble_eq_true rfl) rfl rfl ?_
              refine mr_iload_n C0 dX5_sheet_44 rfl (i := 1) rfl ?_
              have g7 := h.1
              have h := h.2
              refine mr_aald (d := 0) C0 dX5_sheet_45 (Nat.le_of_ble_eq_true rfl) rfl g7 (sh_el g7) ?_
              refine mr_iload_n C0 dX5_sheet_46 rfl (i := 2) rfl ?_
              refine mr_iload_n C0 dX5_sheet_47 rfl (i := 3) rfl ?_
              refine mr_callVV C0 mdX3_renew dX5_sheet_48 clX3_renew ml_X5_211 (sh_lt (sh_in g7)) (sh_lay (sh_in g7)) rfl arX3_renew (as := [.int x2, .int x3]) rfl (Nat.le_of_ble_eq_true rfl) (Nat.le_of_ble_eq_true rfl) (Nat.le_of_ble_eq_true rfl) fit0 (CallV_of mdX3_renew plX3_renew 0 (Nat.le_of_ble_eq_true rfl) rfl ?_) (fun _ h => h)
              intro zp3 zl3 ze3 zs3 zm3 zargs3 zbelow3 zmeth3 zc3 zD3 zad3 zac3 C3 hr3 hk3
              refine mr_aload_n C3 dX3_renew_0 rfl (i := 0) rfl ?_
              refine mr_iconst (v := 1) C3 dX3_renew_1 (by decide) ?_
              refine mr_putI C3 dX3_renew_2 fl_X3_15 (sh_lt (sh_in g7)) (sh_lay (sh_in g7)) rfl rfl rfl ?_
              refine mr_aload_n C3 dX3_renew_5 rfl (i := 0) rfl ?_
              refine mr_iload_n C3 dX3_renew_6 rfl (i := 1) rfl ?_
              refine mr_putI C3 dX3_renew_7 fl_X3_19 (sh_lt (sh_in g7)) (sh_lay (sh_in g7)) rfl rfl rfl ?_
              refine mr_aload_n C3 dX3_renew_10 rfl (i := 0) rfl ?_
              refine mr_iload_n C3 dX3_renew_11 rfl (i := 2) rfl ?_
              refine mr_putI C3 dX3_renew_12 fl_X3_23 (sh_lt (sh_in g7)) (sh_lay (sh_in g7)) rfl rfl rfl ?_
              refine mr_aload_n C3 dX3_renew_15 rfl (i := 0) rfl ?_
              refine mr_getR C3 dX3_renew_16 fl_X3_9 (sh_lt (sh_in g7)) (sh_lay (sh_in g7)) rfl ?_
              refine mr_iconst (v := 0) C3 dX3_renew_19 (by decide) ?_
              refine mr_callSV C3 mdJ7_fill_53178 dX3_renew_20 clJ7_fill_53178 ml_X3_26 arJ7_fill_53178 (as := [.ref ((26 + 2 * x1.toNatClampNeg) + 1), .int (0 : Int32)]) rfl (Nat.le_of_ble_eq_true rfl) (Nat.le_of_ble_eq_true rfl) (Nat.le_of_ble_eq_true rfl) fit0 h (fun S8 h => ?_)
              refine mr_vret C3 hr3 hk3 dX3_renew_23 (qV_mk ?_)
              refine mr_iconst (v := 1) C0 dX5_sheet_51 (by decide) ?_
              refine mr_iret C0 hr0 hk0 dX5_sheet_52 (qI_mk ?_)
              exact h
            · have h := h.2 c6
              refine mr_aload_n C0 dX5_sheet_34 rfl (i := 0) rfl ?_
              refine mr_iconst (v := 4) C0 dX5_sheet_35 (by decide) ?_
              refine mr_callVI C0 mdX5_failed dX5_sheet_36 clX5_failed ml_X5_70 (Nat.le_of_ble_eq_true rfl) rfl rfl arX5_failed (as := [.int (4 : Int32)]) rfl (Nat.le_of_ble_eq_true rfl) (Nat.le_of_ble_eq_true rfl) (Nat.le_of_ble_eq_true rfl) fit0 (CallV_of mdX5_failed plX5_failed 0 (Nat.le_of_ble_eq_true rfl) rfl ?_) (fun _ _ h => h)
              intro zp4 zl4 ze4 zs4 zm4 zargs4 zbelow4 zmeth4 zc4 zD4 zad4 zac4 C4 hr4 hk4
              refine mr_aload_n C4 dX5_failed_0 rfl (i := 0) rfl ?_
              refine mr_iload_n C4 dX5_failed_1 rfl (i := 1) rfl ?_
              refine mr_putI C4 dX5_failed_2 fl_X5_52 (Nat.le_of_ble_eq_true rfl) rfl rfl rfl rfl ?_
              refine mr_bipush (v := (-10)) C4 dX5_failed_5 (by decide) ?_
              refine mr_iload_n C4 dX5_failed_7 rfl (i := 1) rfl ?_
              refine mr_isub C4 dX5_failed_8 ?_
              refine mr_topI (y := (-14 : Int32)) (by decide) ?_
              refine mr_iret C4 hr4 hk4 dX5_failed_9 (qI_mk ?_)
              refine mr_iret C0 hr0 hk0 dX5_sheet_39 (qI_mk ?_)
              exact h
          · have h := h.2 c5
            refine mr_bipush (v := (-2)) C0 dX5_sheet_27 (by decide) ?_
            refine mr_iret C0 hr0 hk0 dX5_sheet_29 (qI_mk ?_)
            exact h
set_option maxRecDepth 100000 in
set_option maxHeartbeats 4000000 in
theorem eX5_lose (x1 : Int32) (S : St) (Q : Int32 → St → Prop) (h : ((x1 < 0 → Q (-1 : Int32) S) ∧ (¬ x1 < 0 → (((4 : Int32) ≤ x1 → Q (-1 : Int32) S) ∧ (¬ (4 : Int32) ≤ x1 → (vp_in x1 4) ∧ (vp_in x1 4) ∧ (((S.1 (26 + 2 * x1.toNatClampNeg) 1) = 0 → Q (0 : Int32) (sI S (26 + 2 * x1.toNatClampNeg) 1 (0 : Int32))) ∧ (¬ (S.1 (26 + 2 * x1.toNatClampNeg) 1) = 0 → Q (1 : Int32) (sI S (26 + 2 * x1.toNatClampNeg) 1 (0 : Int32))))))))) : CallV mdX5_lose [.ref 0, .int x1] S (qI Q) := by
  refine CallV_of mdX5_lose plX5_lose 1 (Nat.le_of_ble_eq_true rfl) rfl ?_
  intro zp0 zl0 ze0 zs0 zm0 zargs0 zbelow0 zmeth0 zc0 zD0 zad0 zac0 C0 hr0 hk0
  refine mr_iload_n C0 dX5_lose_0 rfl (i := 1) rfl ?_
  refine mr_callSI C0 mdX5_isSheet dX5_lose_1 clX5_isSheet ml_X5_55 arX5_isSheet (as := [.int x1]) rfl (Nat.le_of_ble_eq_true rfl) (Nat.le_of_ble_eq_true rfl) (Nat.le_of_ble_eq_true rfl) fit0 (CallV_of mdX5_isSheet plX5_isSheet 0 (Nat.le_of_ble_eq_true rfl) rfl ?_) (fun _ _ h => h)
  intro zp1 zl1 ze1 zs1 zm1 zargs1 zbelow1 zmeth1 zc1 zD1 zad1 zac1 C1 hr1 hk1
  refine mr_iload_n C1 dX5_isSheet_0 rfl (i := 0) rfl ?_
  refine mr_if_lt C1 dX5_isSheet_1 (tgt := 13) (by decide) (fun c1 => ?_) (fun c1 => ?_)
  · have h := h.1 c1
    refine mr_iconst (v := 0) C1 dX5_isSheet_13 (by decide) ?_
    refine mr_zret C1 hr1 hk1 dX5_isSheet_14 rfl (qI_mk ?_)
    refine mr_if_ne C0 dX5_lose_4 (tgt := 9) (by decide) (fun q => absurd q (by decide)) (fun _ => ?_)
    refine mr_iconst (v := (-1)) C0 dX5_lose_7 (by decide) ?_
    refine mr_iret C0 hr0 hk0 dX5_lose_8 (qI_mk ?_)
    exact h
  · have h := h.2 c1
    refine mr_iload_n C1 dX5_isSheet_4 rfl (i := 0) rfl ?_
    refine mr_iconst (v := 4) C1 dX5_isSheet_5 (by decide) ?_
    refine mr_icmp_ge C1 dX5_isSheet_6 (tgt := 13) (by decide) (fun c2 => ?_) (fun c2 => ?_)
    · have h := h.1 c2
      refine mr_iconst (v := 0) C1 dX5_isSheet_13 (by decide) ?_
      refine mr_zret C1 hr1 hk1 dX5_isSheet_14 rfl (qI_mk ?_)
      refine mr_if_ne C0 dX5_lose_4 (tgt := 9) (by decide) (fun q => absurd q (by decide)) (fun _ => ?_)
      refine mr_iconst (v := (-1)) C0 dX5_lose_7 (by decide) ?_
      refine mr_iret C0 hr0 hk0 dX5_lose_8 (qI_mk ?_)
      exact h
    · have h := h.2 c2
      refine mr_iconst (v := 1) C1 dX5_isSheet_9 (by decide) ?_
      refine mr_goto C1 dX5_isSheet_10 (tgt := 14) (by decide) ?_
      refine mr_zret C1 hr1 hk1 dX5_isSheet_14 rfl (qI_mk ?_)
      refine mr_if_ne C0 dX5_lose_4 (tgt := 9) (by decide) (fun _ => ?_) (fun q => absurd q (by decide))
      refine mr_aload_n C0 dX5_lose_9 rfl (i := 0) rfl ?_
      refine mr_getR C0 dX5_lose_10 fl_X5_43 (Nat.le_of_ble_eq_true rfl) rfl rfl ?_
      refine mr_iload_n C0 dX5_lose_13 rfl (i := 1) rfl ?_
      have g3 := h.1
      have h := h.2
      refine mr_aald (d := 0) C0 dX5_lose_14 (Nat.le_of_ble_eq_true rfl) rfl g3 (sh_el g3) ?_
      refine mr_getI C0 dX5_lose_15 fl_X5_214 (sh_lt (sh_in g3)) (sh_lay (sh_in g3)) rfl ?_
      refine mr_istore_n (L1 := [some (.ref 0), some (.int x1), some (.int (S.1 (26 + 2 * x1.toNatClampNeg) 1))]) C0 dX5_lose_18 rfl (Nat.le_of_ble_eq_true rfl) rfl ?_
      refine mr_aload_n C0 dX5_lose_19 rfl (i := 0) rfl ?_
      refine mr_getR C0 dX5_lose_20 fl_X5_43 (Nat.le_of_ble_eq_true rfl) rfl rfl ?_
      refine mr_iload_n C0 dX5_lose_23 rfl (i := 1) rfl ?_
      have g4 := h.1
      have h := h.2
      refine mr_aald (d := 0) C0 dX5_lose_24 (Nat.le_of_ble_eq_true rfl) rfl g4 (sh_el g4) ?_
      refine mr_iconst (v := 0) C0 dX5_lose_25 (by decide) ?_
      refine mr_putI C0 dX5_lose_26 fl_X5_214 (sh_lt (sh_in g4)) (sh_lay (sh_in g4)) rfl rfl rfl ?_
      refine mr_iload_n C0 dX5_lose_29 rfl (i := 2) rfl ?_
      refine mr_if_eq C0 dX5_lose_30 (tgt := 37) (by decide) (fun c5 => ?_) (fun c5 => ?_)
      · have h := h.1 c5
        refine mr_iconst (v := 0) C0 dX5_lose_37 (by decide) ?_
        refine mr_iret C0 hr0 hk0 dX5_lose_38 (qI_mk ?_)
        exact h
      · have h := h.2 c5
        refine mr_iconst (v := 1) C0 dX5_lose_33 (by decide) ?_
        refine mr_goto C0 dX5_lose_34 (tgt := 38) (by decide) ?_
        refine mr_iret C0 hr0 hk0 dX5_lose_38 (qI_mk ?_)
        exact h
set_option maxRecDepth 100000 in
set_option maxHeartbeats 4000000 in
theorem eX5_put (x1 : Int32) (x2 : Int32) (x3 : Int32) (S : St) (Q : Int32 → St → Prop) (h : ((x1 < 0 → Q (-1 : Int32) (sI S 0 6 (0 : Int32))) ∧ (¬ x1 < 0 → (((4 : Int32) ≤ x1 → Q (-1 : Int32) (sI S 0 6 (0 : Int32))) ∧ (¬ (4 : Int32) ≤ x1 → (vp_in x1 4) ∧ ((¬ ((sI S 0 6 (0 : Int32)).1 (26 + 2 * x1.toNatClampNeg) 1) = 0 → (vp_in x1 4) ∧ ((((sI S 0 6 (0 : Int32)).1 (26 + 2 * x1.toNatClampNeg) 1) = 0 → Q (-13 : Int32) (sI (sI S 0 6 (0 : Int32)) 0 6 (3 : Int32))) ∧ (¬ ((sI S 0 6 (0 : Int32)).1 (26 + 2 * x1.toNatClampNeg) 1) = 0 → ((x2 < 0 → Q (-13 : Int32) (sI (sI S 0 6 (0 : Int32)) 0 6 (3 : Int32))) ∧ (¬ x2 < 0 → ((((sI S 0 6 (0 : Int32)).1 (26 + 2 * x1.toNatClampNeg) 3) ≤ x2 → Q (-13 : Int32) (sI (sI S 0 6 (0 : Int32)) 0 6 (3 : Int32))) ∧ (¬ ((sI S 0 6 (0 : Int32)).1 (26 + 2 * x1.toNatClampNeg) 3) ≤ x2 → (vp_in x1 4) ∧ ((((sI S 0 6 (0 : Int32)).1 (26 + 2 * x1.toNatClampNeg) 1) = 0 → Q (1 : Int32) (sI S 0 6 (0 : Int32))) ∧ (¬ ((sI S 0 6 (0 : Int32)).1 (26 + 2 * x1.toNatClampNeg) 1) = 0 → ((x2 < 0 → Q (1 : Int32) (sI S 0 6 (0 : Int32))) ∧ (¬ x2 < 0 → ((((sI S 0 6 (0 : Int32)).1 (26 + 2 * x1.toNatClampNeg) 3) ≤ x2 → Q (1 : Int32) (sI S 0 6 (0 : Int32))) ∧ (¬ ((sI S 0 6 (0 : Int32)).1 (26 + 2 * x1.toNatClampNeg) 3) ≤ x2 → CallV mdX3_cut [.ref (26 + 2 * x1.toNatClampNeg), .int x3] (sI S 0 6 (0 : Int32)) (qI fun r14 S13 => (vp_in x2 60) ∧ Q (1 : Int32) (sI S13 ((26 + 2 * x1.toNatClampNeg) + 1) x2.toNatClampNeg r14))))))))))))))) ∧ (((sI S 0 6 (0 : Int32)).1 (26 + 2 * x1.toNatClampNeg) 1) = 0 → Q (-11 : Int32) (sI (sI S 0 6 (0 : Int32)) 0 6 (1 : Int32))))))))) : CallV mdX5_put [.ref 0, .int x1, .int x2, .int x3] S (qI Q) := by
  refine CallV_of mdX5_put plX5_put 0 (Nat.le_of_ble_eq_true rfl) rfl ?_
  intro zp0 zl0 ze0 zs0 zm0 zargs0 zbelow0 zmeth0 zc0 zD0 zad0 zac0 C0 hr0 hk0
  refine mr_aload_n C0 dX5_put_0 rfl (i := 0) rfl ?_
  refine mr_iconst (v := 0) C0 dX5_put_1 (by decide) ?_
  refine mr_putI C0 dX5_put_2 fl_X5_52 (Nat.le_of_ble_eq_true rfl) rfl rfl rfl rfl ?_
  refine mr_iload_n C0 dX5_put_5 rfl (i := 1) rfl ?_
  refine mr_callSI C0 mdX5_isSheet dX5_put_6 clX5_isSheet ml_X5_55 arX5_isSheet (as := [.int x1]) rfl (Nat.le_of_ble_eq_true rfl) (Nat.le_of_ble_eq_true rfl) (Nat.le_of_ble_eq_true rfl) fit0 (CallV_of mdX5_isSheet plX5_isSheet 0 (Nat.le_of_ble_eq_true rfl) rfl ?_) (fun _ _ h => h)
  intro zp1 zl1 ze1 zs1 zm1 zargs1 zbelow1 zmeth1 zc1 zD1 zad1 zac1 C1 hr1 hk1
  refine mr_iload_n C1 dX5_isSheet_0 rfl (i := 0) rfl ?_
  refine mr_if_lt C1 dX5_isSheet_1 (tgt := 13) (by decide) (fun c1 => ?_) (fun c1 => ?_)
  · have h := h.1 c1
    refine mr_iconst (v := 0) C1 dX5_isSheet_13 (by decide) ?_
    refine mr_zret C1 hr1 hk1 dX5_isSheet_14 rfl (qI_mk ?_)
    refine mr_if_ne C0 dX5_put_9 (tgt := 14) (by decide) (fun q => absurd q (by decide)) (fun _ => ?_)
    refine mr_iconst (v := (-1)) C0 dX5_put_12 (by decide) ?_
    refine mr_iret C0 hr0 hk0 dX5_put_13 (qI_mk ?_)
    exact h
  · have h := h.2 c1
    refine mr_iload_n C1 dX5_isSheet_4 rfl (i := 0) rfl ?_
    refine mr_iconst (v := 4) C1 dX5_isSheet_5 (by decide) ?_
    refine mr_icmp_ge C1 dX5_isSheet_6 (tgt := 13) (by decide) (fun c2 => ?_) (fun c2 => ?_)
    · have h := h.1 c2
      refine mr_iconst (v := 0) C1 dX5_isSheet_13 (by decide) ?_
      refine mr_zret C1 hr1 hk1 dX5_isSheet_14 rfl (qI_mk ?_)
      refine mr_if_ne C0 dX5_put_9 (tgt := 14) (by decide) (fun q => absurd q (by decide)) (fun _ => ?_)
      refine mr_iconst (v := (-1)) C0 dX5_put_12 (by decide) ?_
      refine mr_iret C0 hr0 hk0 dX5_put_13 (qI_mk ?_)
      exact h
    · have h := h.2 c2
      refine mr_iconst (v := 1) C1 dX5_isSheet_9 (by decide) ?_
      refine mr_goto C1 dX5_isSheet_10 (tgt := 14) (by decide) ?_
      refine mr_zret C1 hr1 hk1 dX5_isSheet_14 rfl (qI_mk ?_)
      refine mr_if_ne C0 dX5_put_9 (tgt := 14) (by decide) (fun _ => ?_) (fun q => absurd q (by decide))
      refine mr_aload_n C0 dX5_put_14 rfl (i := 0) rfl ?_
      refine mr_getR C0 dX5_put_15 fl_X5_43 (Nat.le_of_ble_eq_true rfl) rfl rfl ?_
      refine mr_iload_n C0 dX5_put_18 rfl (i := 1) rfl ?_
      have g3 := h.1
      have h := h.2
      refine mr_aald (d := 0) C0 dX5_put_19 (Nat.le_of_ble_eq_true rfl) rfl g3 (sh_el g3) ?_
      refine mr_getI C0 dX5_put_20 fl_X5_214 (sh_lt (sh_in g3)) (sh_lay (sh_in g3)) rfl ?_
      refine mr_if_ne C0 dX5_put_23 (tgt := 32) (by decide) (fun c4 => ?_) (fun c4 => ?_)
      · have h := h.1 c4
        refine mr_aload_n C0 dX5_put_32 rfl (i := 0) rfl ?_
        refine mr_getR C0 dX5_put_33 fl_X5_43 (Nat.le_of_ble_eq_true rfl) rfl rfl ?_
        refine mr_iload_n C0 dX5_put_36 rfl (i := 1) rfl ?_
        have g5 := h.1
        have h := h.2
        refine mr_aald (d := 0) C0 dX5_put_37 (Nat.le_of_ble_eq_true rfl) rfl g5 (sh_el g5) ?_
        refine mr_iload_n C0 dX5_put_38 rfl (i := 2) rfl ?_
        refine mr_callVI C0 mdX3_has dX5_put_39 clX3_has ml_X5_137 (sh_lt (sh_in g5)) (sh_lay (sh_in g5)) rfl arX3_has (as := [.int x2]) rfl (Nat.le_of_ble_eq_true rfl) (Nat.le_of_ble_eq_true rfl) (Nat.le_of_ble_eq_true rfl) fit0 (CallV_of mdX3_has plX3_has 0 (Nat.le_of_ble_eq_true rfl) rfl ?_) (fun _ _ h => h)
        intro zp2 zl2 ze2 zs2 zm2 zargs2 zbelow2 zmeth2 zc2 zD2 zad2 zac2 C2 hr2 hk2
        refine mr_aload_n C2 dX3_has_0 rfl (i := 0) rfl ?_
        refine mr_getI C2 dX3_has_1 fl_X3_15 (sh_lt (sh_in g5)) (sh_lay (sh_in g5)) rfl ?_
        refine mr_if_eq C2 dX3_has_4 (tgt := 23) (by decide) (fun c6 => ?_) (fun c6 => ?_)
        · have h := h.1 c6
          refine mr_iconst (v := 0) C2 dX3_has_23 (by decide) ?_
          refine mr_zret C2 hr2 hk2 dX3_has_24 rfl (qI_mk ?_)
          refine mr_if_ne C0 dX5_put_42 (tgt := 51) (by decide) (fun q => absurd q (by decide)) (fun _ => ?_)
          refine mr_aload_n C0 dX5_put_45 rfl (i := 0) rfl ?_
          refine mr_iconst (v := 3) C0 dX5_put_46 (by decide) ?_
          refine mr_callVI C0 mdX5_failed dX5_put_47 clX5_failed ml_X5_70 (Nat.le_of_ble_eq_true rfl) rfl rfl arX5_failed (as := [.int (3 : Int32)]) rfl (Nat.le_of_ble_eq_true rfl) (Nat.le_of_ble_eq_true rfl) (Nat.le_of_ble_eq_true rfl) fit0 (CallV_of mdX5_failed plX5_failed 0 (Nat.le_of_ble_eq_true rfl) rfl ?_) (fun _ _ h => h)
          intro zp3 zl3 ze3 zs3 zm3 zargs3 zbelow3 zmeth3 zc3 zD3 zad3 zac3 C3 hr3 hk3
          refine mr_aload_n C3 dX5_failed_0 rfl (i := 0) rfl ?_
          refine mr_iload_n C3 dX5_failed_1 rfl (i := 1) rfl ?_
          refine mr_putI C3 dX5_failed_2 fl_X5_52 (Nat.le_of_ble_eq_true rfl) rfl rfl rfl rfl ?_
          refine mr_bipush (v := (-10)) C3 dX5_failed_5 (by decide) ?_
          refine mr_iload_n C3 dX5_failed_7 rfl (i := 1) rfl ?_
          refine mr_isub C3 dX5_failed_8 ?_
          refine mr_topI (y := (-13 : Int32)) (by decide) ?_
          refine mr_iret C3 hr3 hk3 dX5_failed_9 (qI_mk ?_)
          refine mr_iret C0 hr0 hk0 dX5_put_50 (qI_mk ?_)
          exact h
        · have h := h.2 c6
          refine mr_iload_n C2 dX3_has_7 rfl (i := 1) rfl ?_
          refine mr_if_lt C2 dX3_has_8 (tgt := 23) (by decide) (fun c7 => ?_) (fun c7 => ?_)
          · have h := h.1 c7
            refine mr_iconst (v := 0) C2 dX3_has_23 (by decide) ?_
            refine mr_zret C2 hr2 hk2 dX3_has_24 rfl (qI_mk ?_)
            refine mr_if_ne C0 dX5_put_42 (tgt := 51) (by decide) (fun q => absurd q (by decide)) (fun _ => ?_)
            refine mr_aload_n C0 dX5_put_45 rfl (i := 0) rfl ?_
            refine mr_iconst (v := 3) C0 dX5_put_46 (by decide) ?_
            refine mr_callVI C0 mdX5_failed dX5_put_47 clX5_failed ml_X5_70 (Nat.le_of_ble_eq_true rfl) rfl rfl arX5_failed (as := [.int (3 : Int32)]) rfl (Nat.le_of_ble_eq_true rfl) (Nat.le_of_ble_eq_true rfl) (Nat.le_of_ble_eq_true rfl) fit0 (CallV_of mdX5_failed plX5_failed 0 (Nat.le_of_ble_eq_true rfl) rfl ?_) (fun _ _ h => h)
            intro zp4 zl4 ze4 zs4 zm4 zargs4 zbelow4 zmeth4 zc4 zD4 zad4 zac4 C4 hr4 hk4
            refine mr_aload_n C4 dX5_failed_0 rfl (i := 0) rfl ?_
            refine mr_iload_n C4 dX5_failed_1 rfl (i := 1) rfl ?_
            refine mr_putI C4 dX5_failed_2 fl_X5_52 (Nat.le_of_ble_eq_true rfl) rfl rfl rfl rfl ?_
            refine mr_bipush (v := (-10)) C4 dX5_failed_5 (by decide) ?_
            refine mr_iload_n C4 dX5_failed_7 rfl (i := 1) rfl ?_
            refine mr_isub C4 dX5_failed_8 ?_
            refine mr_topI (y := (-13 : Int32)) (by decide) ?_
            refine mr_iret C4 hr4 hk4 dX5_failed_9 (qI_mk ?_)
            refine mr_iret C0 hr0 hk0 dX5_put_50 (qI_mk ?_)
            exact h
          · have h := h.2 c7
            refine mr_iload_n C2 dX3_has_11 rfl (i := 1) rfl ?_
            refine mr_aload_n C2 dX3_has_12 rfl (i := 0) rfl ?_
            refine mr_getI C2 dX3_has_13 fl_X3_23 (sh_lt (sh_in g5)) (sh_lay (sh_in g5)) rfl ?_
            refine mr_icmp_ge C2 dX3_has_16 (tgt := 23) (by decide) (fun c8 => ?_) (fun c8 => ?_)
            · have h := h.1 c8
              refine mr_iconst (v := 0) C2 dX3_has_23 (by decide) ?_
              refine mr_zret C2 hr2 hk2 dX3_has_24 rfl (qI_mk ?_)
              refine mr_if_ne C0 dX5_put_42 (tgt := 51) (by decide) (fun q => absurd q (by decide)) (fun _ => ?_)
              refine mr_aload_n C0 dX5_put_45 rfl (i := 0) rfl ?_
              refine mr_iconst (v := 3) C0 dX5_put_46 (by decide) ?_
              refine mr_callVI C0 mdX5_failed dX5_put_47 clX5_failed ml_X5_70 (Nat.le_of_ble_eq_true rfl) rfl rfl arX5_failed (as := [.int (3 : Int32)]) rfl (Nat.le_of_ble_eq_true rfl) (Nat.le_of_ble_eq_true rfl) (Nat.le_of_ble_eq_true rfl) fit0 (CallV_of mdX5_failed plX5_failed 0 (Nat.le_of_ble_eq_true rfl) rfl ?_) (fun _ _ h => h)
              intro zp5 zl5 ze5 zs5 zm5 zargs5 zbelow5 zmeth5 zc5 zD5 zad5 zac5 C5 hr5 hk5
              refine mr_aload_n C5 dX5_failed_0 rfl (i := 0) rfl ?_
              refine mr_iload_n C5 dX5_failed_1 rfl (i := 1) rfl ?_
              refine mr_putI C5 dX5_failed_2 fl_X5_52 (Nat.le_of_ble_eq_true rfl) rfl rfl rfl rfl ?_
              refine mr_bipush (v := (-10)) C5 dX5_failed_5 (by decide) ?_
              refine mr_iload_n C5 dX5_failed_7 rfl (i := 1) rfl ?_
              refine mr_isub C5 dX5_failed_8 ?_
              refine mr_topI (y := (-13 : Int32)) (by decide) ?_
              refine mr_iret C5 hr5 hk5 dX5_failed_9 (qI_mk ?_)
              refine mr_iret C0 hr0 hk0 dX5_put_50 (qI_mk ?_)
              exact h
            · have h := h.2 c8
              refine mr_iconst (v := 1) C2 dX3_has_19 (by decide) ?_
              refine mr_goto C2 dX3_has_20 (tgt := 24) (by decide) ?_
              refine mr_zret C2 hr2 hk2 dX3_has_24 rfl (qI_mk ?_)
              refine mr_if_ne C0 dX5_put_42 (tgt := 51) (by decide) (fun _ => ?_) (fun q => absurd q (by decide))
              refine mr_aload_n C0 dX5_put_51 rfl (i := 0) rfl ?_
              refine mr_getR C0 dX5_put_52 fl_X5_43 (Nat.le_of_ble_eq_true rfl) rfl rfl ?_
              refine mr_iload_n C0 dX5_put_55 rfl (i := 1) rfl ?_
              have g9 := h.1
              have h := h.2
              refine mr_aald (d := 0) C0 dX5_put_56 (Nat.le_of_ble_eq_true rfl) rfl g9 (sh_el g9) ?_
              refine mr_iload_n C0 dX5_put_57 rfl (i := 2) rfl ?_
              refine mr_iload_n C0 dX5_put_58 rfl (i := 3) rfl ?_
              refine mr_callVV C0 mdX3_write dX5_put_59 clX3_write ml_X5_217 (sh_lt (sh_in g9)) (sh_lay (sh_in g9)) rfl arX3_write (as := [.int x2, .int x3]) rfl (Nat.le_of_ble_eq_true rfl) (Nat.le_of_ble_eq_true rfl) (Nat.le_of_ble_eq_true rfl) fit0 (CallV_of mdX3_write plX3_write 0 (Nat.le_of_ble_eq_true rfl) rfl ?_) (fun _ h => h)
              intro zp6 zl6 ze6 zs6 zm6 zargs6 zbelow6 zmeth6 zc6 zD6 zad6 zac6 C6 hr6 hk6
              refine mr_aload_n C6 dX3_write_0 rfl (i := 0) rfl ?_
              refine mr_iload_n C6 dX3_write_1 rfl (i := 1) rfl ?_
              refine mr_callVI C6 mdX3_has dX3_write_2 clX3_has ml_X3_32 (sh_lt (sh_in g9)) (sh_lay (sh_in g9)) rfl arX3_has (as := [.int x2]) rfl (Nat.le_of_ble_eq_true rfl) (Nat.le_of_ble_eq_true rfl) (Nat.le_of_ble_eq_true rfl) fit0 (CallV_of mdX3_has plX3_has 0 (Nat.le_of_ble_eq_true rfl) rfl ?_) (fun _ _ h => h)
              intro zp7 zl7 ze7 zs7 zm7 zargs7 zbelow7 zmeth7 zc7 zD7 zad7 zac7 C7 hr7 hk7
              refine mr_aload_n C7 dX3_has_0 rfl (i := 0) rfl ?_
              refine mr_getI C7 dX3_has_1 fl_X3_15 (sh_lt (sh_in g9)) (sh_lay (sh_in g9)) rfl ?_
              refine mr_if_eq C7 dX3_has_4 (tgt := 23) (by decide) (fun c10 => ?_) (fun c10 => ?_)
              · have h := h.1 c10
                refine mr_iconst (v := 0) C7 dX3_has_23 (by decide) ?_
                refine mr_zret C7 hr7 hk7 dX3_has_24 rfl (qI_mk ?_)
                refine mr_if_eq C6 dX3_write_5 (tgt := 19) (by decide) (fun _ => ?_) (fun q => absurd q (by decide))
                refine mr_vret C6 hr6 hk6 dX3_write_19 (qV_mk ?_)
                refine mr_iconst (v := 1) C0 dX5_put_62 (by decide) ?_
                refine mr_iret C0 hr0 hk0 dX5_put_63 (qI_mk ?_)
                exact h
              · have h := h.2 c10
                refine mr_iload_n C7 dX3_has_7 rfl (i := 1) rfl ?_
                refine mr_if_lt C7 dX3_has_8 (tgt := 23) (by decide) (fun c11 => ?_) (fun c11 => ?_)
                · have h := h.1 c11
                  refine mr_iconst (v := 0) C7 dX3_has_23 (by decide) ?_
                  refine mr_zret C7 hr7 hk7 dX3_has_24 rfl (qI_mk ?_)
                  refine mr_if_eq C6 dX3_write_5 (tgt := 19) (by decide) (fun _ => ?_) (fun q => absurd q (by decide))
                  refine mr_vret C6 hr6 hk6 dX3_write_19 (qV_mk ?_)
                  refine mr_iconst (v := 1) C0 dX5_put_62 (by decide) ?_
                  refine mr_iret C0 hr0 hk0 dX5_put_63 (qI_mk ?_)
                  exact h
                · have h := h.2 c11
                  refine mr_iload_n C7 dX3_has_11 rfl (i := 1) rfl ?_
                  refine mr_aload_n C7 dX3_has_12 rfl (i := 0) rfl ?_
                  refine mr_getI C7 dX3_has_13 fl_X3_23 (sh_lt (sh_in g9)) (sh_lay (sh_in g9)) rfl ?_
                  refine mr_icmp_ge C7 dX3_has_16 (tgt := 23) (by decide) (fun c12 => ?_) (fun c12 => ?_)
                  · have h := h.1 c12
                    refine mr_iconst (v := 0) C7 dX3_has_23 (by decide) ?_
                    refine mr_zret C7 hr7 hk7 dX3_has_24 rfl (qI_mk ?_)
                    refine mr_if_eq C6 dX3_write_5 (tgt := 19) (by decide) (fun _ => ?_) (fun q => absurd q (by decide))
                    refine mr_vret C6 hr6 hk6 dX3_write_19 (qV_mk ?_)
                    refine mr_iconst (v := 1) C0 dX5_put_62 (by decide) ?_
                    refine mr_iret C0 hr0 hk0 dX5_put_63 (qI_mk ?_)
                    exact h
                  · have h := h.2 c12
                    refine mr_iconst (v := 1) C7 dX3_has_19 (by decide) ?_
                    refine mr_goto C7 dX3_has_20 (tgt := 24) (by decide) ?_
                    refine mr_zret C7 hr7 hk7 dX3_has_24 rfl (qI_mk ?_)
                    refine mr_if_eq C6 dX3_write_5 (tgt := 19) (by decide) (fun q => absurd q (by decide)) (fun _ => ?_)
                    refine mr_aload_n C6 dX3_write_8 rfl (i := 0) rfl ?_
                    refine mr_getR C6 dX3_write_9 fl_X3_9 (sh_lt (sh_in g9)) (sh_lay (sh_in g9)) rfl ?_
                    refine mr_iload_n C6 dX3_write_12 rfl (i := 1) rfl ?_
                    refine mr_aload_n C6 dX3_write_13 rfl (i := 0) rfl ?_
                    refine mr_iload_n C6 dX3_write_14 rfl (i := 2) rfl ?_
                    refine mr_callVI C6 mdX3_cut dX3_write_15 clX3_cut ml_X3_36 (sh_lt (sh_in g9)) (sh_lay (sh_in g9)) rfl arX3_cut (as := [.int x3]) rfl (Nat.le_of_ble_eq_true rfl) (Nat.le_of_ble_eq_true rfl) (Nat.le_of_ble_eq_true rfl) fit0 h (fun r14 S13 h => ?_)
                    have g15 := h.1
                    have h := h.2
                    refine mr_iast C6 dX3_write_18 (sh_lt1 (sh_in g9)) (sh_row (sh_in g9)) g15 ?_
                    refine mr_vret C6 hr6 hk6 dX3_write_19 (qV_mk ?_)
                    refine mr_iconst (v := 1) C0 dX5_put_62 (by decide) ?_
                    refine mr_iret C0 hr0 hk0 dX5_put_63 (qI_mk ?_)
                    exact h
      · have h := h.2 c4
        refine mr_aload_n C0 dX5_put_26 rfl (i := 0) rfl ?_
        refine mr_iconst (v := 1) C0 dX5_put_27 (by decide) ?_
        refine mr_callVI C0 mdX5_failed dX5_put_28 clX5_failed ml_X5_70 (Nat.le_of_ble_eq_true rfl) rfl rfl arX5_failed (as := [.int (1 : Int32)]) rfl (Nat.le_of_ble_eq_true rfl) (Nat.le_of_ble_eq_true rfl) (Nat.le_of_ble_eq_true rfl) fit0 (CallV_of mdX5_failed plX5_failed 0 (Nat.le_of_ble_eq_true rfl) rfl ?_) (fun _ _ h => h)
        intro zp8 zl8 ze8 zs8 zm8 zargs8 zbelow8 zmeth8 zc8 zD8 zad8 zac8 C8 hr8 hk8
        refine mr_aload_n C8 dX5_failed_0 rfl (i := 0) rfl ?_
        refine mr_iload_n C8 dX5_failed_1 rfl (i := 1) rfl ?_
        refine mr_putI C8 dX5_failed_2 fl_X5_52 (Nat.le_of_ble_eq_true rfl) rfl rfl rfl rfl ?_
        refine mr_bipush (v := (-10)) C8 dX5_failed_5 (by decide) ?_
        refine mr_iload_n C8 dX5_failed_7 rfl (i := 1) rfl ?_
        refine mr_isub C8 dX5_failed_8 ?_
        refine mr_topI (y := (-11 : Int32)) (by decide) ?_
        refine mr_iret C8 hr8 hk8 dX5_failed_9 (qI_mk ?_)
        refine mr_iret C0 hr0 hk0 dX5_put_31 (qI_mk ?_)
        exact h
set_option maxRecDepth 100000 in
set_option maxHeartbeats 4000000 in
theorem eX5_cell (x1 : Int32) (x2 : Int32) (x3 : Int32) (S : St) (Q : Int64 → St → Prop) (h : ((x1 < 0 → Q (-9223372036854775808 : Int64) (sI S 0 6 (0 : Int32))) ∧ (¬ x1 < 0 → (((4 : Int32) ≤ x1 → Q (-9223372036854775808 : Int64) (sI S 0 6 (0 : Int32))) ∧ (¬ (4 : Int32) ≤ x1 → ((x3 < 0 → Q (-9223372036854775808 : Int64) (sI S 0 6 (0 : Int32))) ∧ (¬ x3 < 0 → (((3 : Int32) ≤ x3 → Q (-9223372036854775808 : Int64) (sI S 0 6 (0 : Int32))) ∧ (¬ (3 : Int32) ≤ x3 → (vp_in x1 4) ∧ ((¬ ((sI S 0 6 (0 : Int32)).1 (26 + 2 * x1.toNatClampNeg) 1) = 0 → ((¬ ((sI S 0 6 (0 : Int32)).1 (26 + 2 * x1.toNatClampNeg) 2) = x3 → Q (-9223372036854775808 : Int64) (sI (sI S 0 6 (0 : Int32)) 0 6 (2 : Int32))) ∧ (((sI S 0 6 (0 : Int32)).1 (26 + 2 * x1.toNatClampNeg) 2) = x3 → (vp_in x1 4) ∧ ((((sI S 0 6 (0 : Int32)).1 (26 + 2 * x1.toNatClampNeg) 1) = 0 → Q (-9223372036854775808 : Int64) (sI (sI S 0 6 (0 : Int32)) 0 6 (3 : Int32))) ∧ (¬ ((sI S 0 6 (0 : Int32)).1 (26 + 2 * x1.toNatClampNeg) 1) = 0 → ((x2 < 0 → Q (-9223372036854775808 : Int64) (sI (sI S 0 6 (0 : Int32)) 0 6 (3 : Int32))) ∧ (¬ x2 < 0 → ((((sI S 0 6 (0 : Int32)).1 (26 + 2 * x1.toNatClampNeg) 3) ≤ x2 → Q (-9223372036854775808 : Int64) (sI (sI S 0 6 (0 : Int32)) 0 6 (3 : Int32))) ∧ (¬ ((sI S 0 6 (0 : Int32)).1 (26 + 2 * x1.toNatClampNeg) 3) ≤ x2 → (vp_in x1 4) ∧ CallV mdX3_at [.ref (26 + 2 * x1.toNatClampNeg), .int x2] (sI (sI S 0 6 (0 : Int32)) 0 6 (0 : Int32)) (qI fun r14 S13 => Q r14.toInt64 S13)))))))))) ∧ (((sI S 0 6 (0 : Int32)).1 (26 + 2 * x1.toNatClampNeg) 1) = 0 → Q (-9223372036854775808 : Int64) (sI (sI S 0 6 (0 : Int32)) 0 6 (1 : Int32))))))))))))) : CallV mdX5_cell [.ref 0, .int x1, .int x2, .int x3] S (qJ Q) := by
  refine CallV_of mdX5_cell plX5_cell 1 (Nat.le_of_ble_eq_true rfl) rfl ?_
  intro zp0 zl0 ze0 zs0 zm0 zargs0 zbelow0 zmeth0 zc0 zD0 zad0 zac0 C0 hr0 hk0
  refine mr_aload_n C0 dX5_cell_0 rfl (i := 0) rfl ?_
  refine mr_iconst (v := 0) C0 dX5_cell_1 (by decide) ?_
  refine mr_putI C0 dX5_cell_2 fl_X5_52 (Nat.le_of_ble_eq_true rfl) rfl rfl rfl rfl ?_
  refine mr_iload_n C0 dX5_cell_5 rfl (i := 1) rfl ?_
  refine mr_callSI C0 mdX5_isSheet dX5_cell_6 clX5_isSheet ml_X5_55 arX5_isSheet (as := [.int x1]) rfl (Nat.le_of_ble_eq_true rfl) (Nat.le_of_ble_eq_true rfl) (Nat.le_of_ble_eq_true rfl) fit0 (CallV_of mdX5_isSheet plX5_isSheet 0 (Nat.le_of_ble_eq_true rfl) rfl ?_) (fun _ _ h => h)
  intro zp1 zl1 ze1 zs1 zm1 zargs1 zbelow1 zmeth1 zc1 zD1 zad1 zac1 C1 hr1 hk1
  refine mr_iload_n C1 dX5_isSheet_0 rfl (i := 0) rfl ?_
  refine mr_if_lt C1 dX5_isSheet_1 (tgt := 13) (by decide) (fun c1 => ?_) (fun c1 => ?_)
  · have h := h.1 c1
    refine mr_iconst (v := 0) C1 dX5_isSheet_13 (by decide) ?_
    refine mr_zret C1 hr1 hk1 dX5_isSheet_14 rfl (qI_mk ?_)
    refine mr_if_eq C0 dX5_cell_9 (tgt := 19) (by decide) (fun _ => ?_) (fun q => absurd q (by decide))
    refine mr_ldc2 C0 dX5_cell_19 cn_X5_145 ?_
    refine mr_lret C0 hr0 hk0 dX5_cell_22 (qJ_mk ?_)
    exact h
  · have h := h.2 c1
    refine mr_iload_n C1 dX5_isSheet_4 rfl (i := 0) rfl ?_
    refine mr_iconst (v := 4) C1 dX5_isSheet_5 (by decide) ?_
    refine mr_icmp_ge C1 dX5_isSheet_6 (tgt := 13) (by decide) (fun c2 => ?_) (fun c2 => ?_)
    · have h := h.1 c2
      refine mr_iconst (v := 0) C1 dX5_isSheet_13 (by decide) ?_
      refine mr_zret C1 hr1 hk1 dX5_isSheet_14 rfl (qI_mk ?_)
      refine mr_if_eq C0 dX5_cell_9 (tgt := 19) (by decide) (fun _ => ?_) (fun q => absurd q (by decide))
      refine mr_ldc2 C0 dX5_cell_19 cn_X5_145 ?_
      refine mr_lret C0 hr0 hk0 dX5_cell_22 (qJ_mk ?_)
      exact h
    · have h := h.2 c2
      refine mr_iconst (v := 1) C1 dX5_isSheet_9 (by decide) ?_
      refine mr_goto C1 dX5_isSheet_10 (tgt := 14) (by decide) ?_
      refine mr_zret C1 hr1 hk1 dX5_isSheet_14 rfl (qI_mk ?_)
      refine mr_if_eq C0 dX5_cell_9 (tgt := 19) (by decide) (fun q => absurd q (by decide)) (fun _ => ?_)
      refine mr_iload_n C0 dX5_cell_12 rfl (i := 3) rfl ?_
      refine mr_callSI C0 mdX5_isLane dX5_cell_13 clX5_isLane ml_X5_59 arX5_isLane (as := [.int x3]) rfl (Nat.le_of_ble_eq_true rfl) (Nat.le_of_ble_eq_true rfl) (Nat.le_of_ble_eq_true rfl) fit0 (CallV_of mdX5_isLane plX5_isLane 0 (Nat.le_of_ble_eq_true rfl) rfl ?_) (fun _ _ h => h)
      intro zp2 zl2 ze2 zs2 zm2 zargs2 zbelow2 zmeth2 zc2 zD2 zad2 zac2 C2 hr2 hk2
      refine mr_iload_n C2 dX5_isLane_0 rfl (i := 0) rfl ?_
      refine mr_if_lt C2 dX5_isLane_1 (tgt := 13) (by decide) (fun c3 => ?_) (fun c3 => ?_)
      · have h := h.1 c3
        refine mr_iconst (v := 0) C2 dX5_isLane_13 (by decide) ?_
        refine mr_zret C2 hr2 hk2 dX5_isLane_14 rfl (qI_mk ?_)
        refine mr_if_ne C0 dX5_cell_16 (tgt := 23) (by decide) (fun q => absurd q (by decide)) (fun _ => ?_)
        refine mr_ldc2 C0 dX5_cell_19 cn_X5_145 ?_
        refine mr_lret C0 hr0 hk0 dX5_cell_22 (qJ_mk ?_)
        exact h
      · have h := h.2 c3
        refine mr_iload_n C2 dX5_isLane_4 rfl (i := 0) rfl ?_
        refine mr_iconst (v := 3) C2 dX5_isLane_5 (by decide) ?_
        refine mr_icmp_ge C2 dX5_isLane_6 (tgt := 13) (by decide) (fun c4 => ?_) (fun c4 => ?_)
        · have h := h.1 c4
          refine mr_iconst (v := 0) C2 dX5_isLane_13 (by decide) ?_
          refine mr_zret C2 hr2 hk2 dX5_isLane_14 rfl (qI_mk ?_)
          refine mr_if_ne C0 dX5_cell_16 (tgt := 23) (by decide) (fun q => absurd q (by decide)) (fun _ => ?_)
          refine mr_ldc2 C0 dX5_cell_19 cn_X5_145 ?_
          refine mr_lret C0 hr0 hk0 dX5_cell_22 (qJ_mk ?_)
          exact h
        · have h := h.2 c4
          refine mr_iconst (v := 1) C2 dX5_isLane_9 (by decide) ?_
          refine mr_goto C2 dX5_isLane_10 (tgt := 14) (by decide) ?_
          refine mr_zret C2 hr2 hk2 dX5_isLane_14 rfl (qI_mk ?_)
          refine mr_if_ne C0 dX5_cell_16 (tgt := 23) (by decide) (fun _ => ?_) (fun q => absurd q (by decide))
          refine mr_aload_n C0 dX5_cell_23 rfl (i := 0) rfl ?_
          refine mr_getR C0 dX5_cell_24 fl_X5_43 (Nat.le_of_ble_eq_true rfl) rfl rfl ?_
          refine mr_iload_n C0 dX5_cell_27 rfl (i := 1) rfl ?_
          have g5 := h.1
          have h := h.2
          refine mr_aald (d := 0) C0 dX5_cell_28 (Nat.le_of_ble_eq_true rfl) rfl g5 (sh_el g5) ?_
          refine mr_iload_n C0 dX5_cell_29 rfl (i := 3) rfl ?_
          refine mr_callVI C0 mdX3_faultAs dX5_cell_30 clX3_faultAs ml_X5_62 (sh_lt (sh_in g5)) (sh_lay (sh_in g5)) rfl arX3_faultAs (as := [.int x3]) rfl (Nat.le_of_ble_eq_true rfl) (Nat.le_of_ble_eq_true rfl) (Nat.le_of_ble_eq_true rfl) fit0 (CallV_of mdX3_faultAs plX3_faultAs 0 (Nat.le_of_ble_eq_true rfl) rfl ?_) (fun _ _ h => h)
          intro zp3 zl3 ze3 zs3 zm3 zargs3 zbelow3 zmeth3 zc3 zD3 zad3 zac3 C3 hr3 hk3
          refine mr_aload_n C3 dX3_faultAs_0 rfl (i := 0) rfl ?_
          refine mr_getI C3 dX3_faultAs_1 fl_X3_15 (sh_lt (sh_in g5)) (sh_lay (sh_in g5)) rfl ?_
          refine mr_if_ne C3 dX3_faultAs_4 (tgt := 9) (by decide) (fun c6 => ?_) (fun c6 => ?_)
          · have h := h.1 c6
            refine mr_aload_n C3 dX3_faultAs_9 rfl (i := 0) rfl ?_
            refine mr_getI C3 dX3_faultAs_10 fl_X3_19 (sh_lt (sh_in g5)) (sh_lay (sh_in g5)) rfl ?_
            refine mr_iload_n C3 dX3_faultAs_13 rfl (i := 1) rfl ?_
            refine mr_icmp_ne C3 dX3_faultAs_14 (tgt := 21) (by decide) (fun c7 => ?_) (fun c7 => ?_)
            · have h := h.1 c7
              refine mr_iconst (v := 2) C3 dX3_faultAs_21 (by decide) ?_
              refine mr_iret C3 hr3 hk3 dX3_faultAs_22 (qI_mk ?_)
              refine mr_istore (L1 := [some (.ref 0), some (.int x1), some (.int x2), some (.int x3), some (.int (2 : Int32))]) C0 dX5_cell_33 (Nat.le_of_ble_eq_true rfl) rfl ?_
              refine mr_iload C0 dX5_cell_35 rfl ?_
              refine mr_if_ne C0 dX5_cell_37 (tgt := 56) (by decide) (fun _ => ?_) (fun q => absurd q (by decide))
              refine mr_aload_n C0 dX5_cell_56 rfl (i := 0) rfl ?_
              refine mr_iload C0 dX5_cell_57 rfl ?_
              refine mr_putI C0 dX5_cell_59 fl_X5_52 (Nat.le_of_ble_eq_true rfl) rfl rfl rfl rfl ?_
              refine mr_iload C0 dX5_cell_62 rfl ?_
              refine mr_if_ne C0 dX5_cell_64 (tgt := 81) (by decide) (fun _ => ?_) (fun q => absurd q (by decide))
              refine mr_ldc2 C0 dX5_cell_81 cn_X5_145 ?_
              refine mr_lret C0 hr0 hk0 dX5_cell_84 (qJ_mk ?_)
              exact h
            · have h := h.2 c7
              refine mr_iconst (v := 0) C3 dX3_faultAs_17 (by decide) ?_
              refine mr_goto C3 dX3_faultAs_18 (tgt := 22) (by decide) ?_
              refine mr_iret C3 hr3 hk3 dX3_faultAs_22 (qI_mk ?_)
              refine mr_istore (L1 := [some (.ref 0), some (.int x1), some (.int x2), some (.int x3), some (.int (0 : Int32))]) C0 dX5_cell_33 (Nat.le_of_ble_eq_true rfl) rfl ?_
              refine mr_iload C0 dX5_cell_35 rfl ?_
              refine mr_if_ne C0 dX5_cell_37 (tgt := 56) (by decide) (fun q => absurd q (by decide)) (fun _ => ?_)
              refine mr_aload_n C0 dX5_cell_40 rfl (i := 0) rfl ?_
              refine mr_getR C0 dX5_cell_41 fl_X5_43 (Nat.le_of_ble_eq_true rfl) rfl rfl ?_
              refine mr_iload_n C0 dX5_cell_44 rfl (i := 1) rfl ?_
              have g8 := h.1
              have h := h.2
              refine mr_aald (d := 0) C0 dX5_cell_45 (Nat.le_of_ble_eq_true rfl) rfl g8 (sh_el g8) ?_
              refine mr_iload_n C0 dX5_cell_46 rfl (i := 2) rfl ?_
              refine mr_callVI C0 mdX3_has dX5_cell_47 clX3_has ml_X5_137 (sh_lt (sh_in g8)) (sh_lay (sh_in g8)) rfl arX3_has (as := [.int x2]) rfl (Nat.le_of_ble_eq_true rfl) (Nat.le_of_ble_eq_true rfl) (Nat.le_of_ble_eq_true rfl) fit0 (CallV_of mdX3_has plX3_has 0 (Nat.le_of_ble_eq_true rfl) rfl ?_) (fun _ _ h => h)
              intro zp4 zl4 ze4 zs4 zm4 zargs4 zbelow4 zmeth4 zc4 zD4 zad4 zac4 C4 hr4 hk4
              refine mr_aload_n C4 dX3_has_0 rfl (i := 0) rfl ?_
              refine mr_getI C4 dX3_has_1 fl_X3_15 (sh_lt (sh_in g8)) (sh_lay (sh_in g8)) rfl ?_
              refine mr_if_eq C4 dX3_has_4 (tgt := 23) (by decide) (fun c9 => ?_) (fun c9 => ?_)
              · have h := h.1 c9
                refine mr_iconst (v := 0) C4 dX3_has_23 (by decide) ?_
                refine mr_zret C4 hr4 hk4 dX3_has_24 rfl (qI_mk ?_)
                refine mr_if_ne C0 dX5_cell_50 (tgt := 56) (by decide) (fun q => absurd q (by decide)) (fun _ => ?_)
                refine mr_iconst (v := 3) C0 dX5_cell_53 (by decide) ?_
                refine mr_istore (L1 := [some (.ref 0), some (.int x1), some (.int x2), some (.int x3), some (.int (3 : Int32))]) C0 dX5_cell_54 (Nat.le_of_ble_eq_true rfl) rfl ?_
                refine mr_aload_n C0 dX5_cell_56 rfl (i := 0) rfl ?_
                refine mr_iload C0 dX5_cell_57 rfl ?_
                refine mr_putI C0 dX5_cell_59 fl_X5_52 (Nat.le_of_ble_eq_true rfl) rfl rfl rfl rfl ?_
                refine mr_iload C0 dX5_cell_62 rfl ?_
                refine mr_if_ne C0 dX5_cell_64 (tgt := 81) (by decide) (fun _ => ?_) (fun q => absurd q (by decide))
                refine mr_ldc2 C0 dX5_cell_81 cn_X5_145 ?_
                refine mr_lret C0 hr0 hk0 dX5_cell_84 (qJ_mk ?_)
                exact h
              · have h := h.2 c9
                refine mr_iload_n C4 dX3_has_7 rfl (i := 1) rfl ?_
                refine mr_if_lt C4 dX3_has_8 (tgt := 23) (by decide) (fun c10 => ?_) (fun c10 => ?_)
                · have h := h.1 c10
                  refine mr_iconst (v := 0) C4 dX3_has_23 (by decide) ?_
                  refine mr_zret C4 hr4 hk4 dX3_has_24 rfl (qI_mk ?_)
                  refine mr_if_ne C0 dX5_cell_50 (tgt := 56) (by decide) (fun q => absurd q (by decide)) (fun _ => ?_)
                  refine mr_iconst (v := 3) C0 dX5_cell_53 (by decide) ?_
                  refine mr_istore (L1 := [some (.ref 0), some (.int x1), some (.int x2), some (.int x3), some (.int (3 : Int32))]) C0 dX5_cell_54 (Nat.le_of_ble_eq_true rfl) rfl ?_
                  refine mr_aload_n C0 dX5_cell_56 rfl (i := 0) rfl ?_
                  refine mr_iload C0 dX5_cell_57 rfl ?_
                  refine mr_putI C0 dX5_cell_59 fl_X5_52 (Nat.le_of_ble_eq_true rfl) rfl rfl rfl rfl ?_
                  refine mr_iload C0 dX5_cell_62 rfl ?_
                  refine mr_if_ne C0 dX5_cell_64 (tgt := 81) (by decide) (fun _ => ?_) (fun q => absurd q (by decide))
                  refine mr_ldc2 C0 dX5_cell_81 cn_X5_145 ?_
                  refine mr_lret C0 hr0 hk0 dX5_cell_84 (qJ_mk ?_)
                  exact h
                · have h := h.2 c10
                  refine mr_iload_n C4 dX3_has_11 rfl (i := 1) rfl ?_
                  refine mr_aload_n C4 dX3_has_12 rfl (i := 0) rfl ?_
                  refine mr_getI C4 dX3_has_13 fl_X3_23 (sh_lt (sh_in g8)) (sh_lay (sh_in g8)) rfl ?_
                  refine mr_icmp_ge C4 dX3_has_16 (tgt := 23) (by decide) (fun c11 => ?_) (fun c11 => ?_)
                  · have h := h.1 c11
                    refine mr_iconst (v := 0) C4 dX3_has_23 (by decide) ?_
                    refine mr_zret C4 hr4 hk4 dX3_has_24 rfl (qI_mk ?_)
                    refine mr_if_ne C0 dX5_cell_50 (tgt := 56) (by decide) (fun q => absurd q (by decide)) (fun _ => ?_)
                    refine mr_iconst (v := 3) C0 dX5_cell_53 (by decide) ?_
                    refine mr_istore (L1 := [some (.ref 0), some (.int x1), some (.int x2), some (.int x3), some (.int (3 : Int32))]) C0 dX5_cell_54 (Nat.le_of_ble_eq_true rfl) rfl ?_
                    refine mr_aload_n C0 dX5_cell_56 rfl (i := 0) rfl ?_
                    refine mr_iload C0 dX5_cell_57 rfl ?_
                    refine mr_putI C0 dX5_cell_59 fl_X5_52 (Nat.le_of_ble_eq_true rfl) rfl rfl rfl rfl ?_
                    refine mr_iload C0 dX5_cell_62 rfl ?_
                    refine mr_if_ne C0 dX5_cell_64 (tgt := 81) (by decide) (fun _ => ?_) (fun q => absurd q (by decide))
                    refine mr_ldc2 C0 dX5_cell_81 cn_X5_145 ?_
                    refine mr_lret C0 hr0 hk0 dX5_cell_84 (qJ_mk ?_)
                    exact h
                  · have h := h.2 c11
                    refine mr_iconst (v := 1) C4 dX3_has_19 (by decide) ?_
                    refine mr_goto C4 dX3_has_20 (tgt := 24) (by decide) ?_
                    refine mr_zret C4 hr4 hk4 dX3_has_24 rfl (qI_mk ?_)
                    refine mr_if_ne C0 dX5_cell_50 (tgt := 56) (by decide) (fun _ => ?_) (fun q => absurd q (by decide))
                    refine mr_aload_n C0 dX5_cell_56 rfl (i := 0) rfl ?_
                    refine mr_iload C0 dX5_cell_57 rfl ?_
                    refine mr_putI C0 dX5_cell_59 fl_X5_52 (Nat.le_of_ble_eq_true rfl) rfl rfl rfl rfl ?_
                    refine mr_iload C0 dX5_cell_62 rfl ?_
                    refine mr_if_ne C0 dX5_cell_64 (tgt := 81) (by decide) (fun q => absurd q (by decide)) (fun _ => ?_)
                    refine mr_aload_n C0 dX5_cell_67 rfl (i := 0) rfl ?_
                    refine mr_getR C0 dX5_cell_68 fl_X5_43 (Nat.le_of_ble_eq_true rfl) rfl rfl ?_
                    refine mr_iload_n C0 dX5_cell_71 rfl (i := 1) rfl ?_
                    have g12 := h.1
                    have h := h.2
                    refine mr_aald (d := 0) C0 dX5_cell_72 (Nat.le_of_ble_eq_true rfl) rfl g12 (sh_el g12) ?_
                    refine mr_iload_n C0 dX5_cell_73 rfl (i := 2) rfl ?_
                    refine mr_callVI C0 mdX3_at dX5_cell_74 clX3_at ml_X5_138 (sh_lt (sh_in g12)) (sh_lay (sh_in g12)) rfl arX3_at (as := [.int x2]) rfl (Nat.le_of_ble_eq_true rfl) (Nat.le_of_ble_eq_true rfl) (Nat.le_of_ble_eq_true rfl) fit0 h (fun r14 S13 h => ?_)
                    refine mr_i2l C0 dX5_cell_77 ?_
                    refine mr_goto C0 dX5_cell_78 (tgt := 84) (by decide) ?_
                    refine mr_lret C0 hr0 hk0 dX5_cell_84 (qJ_mk ?_)
                    exact h
          · have h := h.2 c6
            refine mr_iconst (v := 1) C3 dX3_faultAs_7 (by decide) ?_
            refine mr_iret C3 hr3 hk3 dX3_faultAs_8 (qI_mk ?_)
            refine mr_istore (L1 := [some (.ref 0), some (.int x1), some (.int x2), some (.int x3), some (.int (1 : Int32))]) C0 dX5_cell_33 (Nat.le_of_ble_eq_true rfl) rfl ?_
            refine mr_iload C0 dX5_cell_35 rfl ?_
            refine mr_if_ne C0 dX5_cell_37 (tgt := 56) (by decide) (fun _ => ?_) (fun q => absurd q (by decide))
            refine mr_aload_n C0 dX5_cell_56 rfl (i := 0) rfl ?_
            refine mr_iload C0 dX5_cell_57 rfl ?_
            refine mr_putI C0 dX5_cell_59 fl_X5_52 (Nat.le_of_ble_eq_true rfl) rfl rfl rfl rfl ?_
            refine mr_iload C0 dX5_cell_62 rfl ?_
            refine mr_if_ne C0 dX5_cell_64 (tgt := 81) (by decide) (fun _ => ?_) (fun q => absurd q (by decide))
            refine mr_ldc2 C0 dX5_cell_81 cn_X5_145 ?_
            refine mr_lret C0 hr0 hk0 dX5_cell_84 (qJ_mk ?_)
            exact h
set_option maxRecDepth 100000 in
set_option maxHeartbeats 4000000 in
theorem eX5_copy (x1 : Int32) (x2 : Int32) (x3 : Int32) (x4 : Int32) (x5 : Int32) (S : St) (Q : Int32 → St → Prop) (h : ((x1 < 0 → Q (-1 : Int32) (sI S 0 6 (0 : Int32))) ∧ (¬ x1 < 0 → (((4 : Int32) ≤ x1 → Q (-1 : Int32) (sI S 0 6 (0 : Int32))) ∧ (¬ (4 : Int32) ≤ x1 → ((x3 < 0 → Q (-1 : Int32) (sI S 0 6 (0 : Int32))) ∧ (¬ x3 < 0 → (((4 : Int32) ≤ x3 → Q (-1 : Int32) (sI S 0 6 (0 : Int32))) ∧ (¬ (4 : Int32) ≤ x3 → (vp_in x1 4) ∧ (vp_in x3 4) ∧ ((((sI S 0 6 (0 : Int32)).1 (26 + 2 * x1.toNatClampNeg) 1) = 0 → Q (-11 : Int32) (sI (sI S 0 6 (0 : Int32)) 0 6 (1 : Int32))) ∧ (¬ ((sI S 0 6 (0 : Int32)).1 (26 + 2 * x1.toNatClampNeg) 1) = 0 → ((¬ ((sI S 0 6 (0 : Int32)).1 (26 + 2 * x3.toNatClampNeg) 1) = 0 → ((((sI S 0 6 (0 : Int32)).1 (26 + 2 * x1.toNatClampNeg) 2) = ((sI S 0 6 (0 : Int32)).1 (26 + 2 * x3.toNatClampNeg) 2) → ((((sI S 0 6 (0 : Int32)).1 (26 + 2 * x1.toNatClampNeg) 1) = 0 → Q (-13 : Int32) (sI (sI S 0 6 (0 : Int32)) 0 6 (3 : Int32))) ∧ (¬ ((sI S 0 6 (0 : Int32)).1 (26 + 2 * x1.toNatClampNeg) 1) = 0 → ((x2 < 0 → Q (-13 : Int32) (sI (sI S 0 6 (0 : Int32)) 0 6 (3 : Int32))) ∧ (¬ x2 < 0 → ((x5 < 0 → Q (-13 : Int32) (sI (sI S 0 6 (0 : Int32)) 0 6 (3 : Int32))) ∧ (¬ x5 < 0 → ((((sI S 0 6 (0 : Int32)).1 (26 + 2 * x1.toNatClampNeg) 3) < x2 → Q (-13 : Int32) (sI (sI S 0 6 (0 : Int32)) 0 6 (3 : Int32))) ∧ (¬ ((sI S 0 6 (0 : Int32)).1 (26 + 2 * x1.toNatClampNeg) 3) < x2 → (((((sI S 0 6 (0 : Int32)).1 (26 + 2 * x1.toNatClampNeg) 3) - x2) < x5 → Q (-13 : Int32) (sI (sI S 0 6 (0 : Int32)) 0 6 (3 : Int32))) ∧ (¬ (((sI S 0 6 (0 : Int32)).1 (26 + 2 * x1.toNatClampNeg) 3) - x2) < x5 → ((((sI S 0 6 (0 : Int32)).1 (26 + 2 * x3.toNatClampNeg) 1) = 0 → Q (-13 : Int32) (sI (sI S 0 6 (0 : Int32)) 0 6 (3 : Int32))) ∧ (¬ ((sI S 0 6 (0 : Int32)).1 (26 + 2 * x3.toNatClampNeg) 1) = 0 → ((x4 < 0 → Q (-13 : Int32) (sI (sI S 0 6 (0 : Int32)) 0 6 (3 : Int32))) ∧ (¬ x4 < 0 → ((x5 < 0 → Q (-13 : Int32) (sI (sI S 0 6 (0 : Int32)) 0 6 (3 : Int32))) ∧ (¬ x5 < 0 → ((((sI S 0 6 (0 : Int32)).1 (26 + 2 * x3.toNatClampNeg) 3) < x4 → Q (-13 : Int32) (sI (sI S 0 6 (0 : Int32)) 0 6 (3 : Int32))) ∧ (¬ ((sI S 0 6 (0 : Int32)).1 (26 + 2 * x3.toNatClampNeg) 3) < x4 → (((((sI S 0 6 (0 : Int32)).1 (26 + 2 * x3.toNatClampNeg) 3) - x4) < x5 → Q (-13 : Int32) (sI (sI S 0 6 (0 : Int32)) 0 6 (3 : Int32))) ∧ (¬ (((sI S 0 6 (0 : Int32)).1 (26 + 2 * x3.toNatClampNeg) 3) - x4) < x5 → (¬ x2 < 0) ∧ (¬ x4 < 0) ∧ (¬ x5 < 0) ∧ (x2.toNatClampNeg + x5.toNatClampNeg ≤ 60) ∧ (x4.toNatClampNeg + x5.toNatClampNeg ≤ 60) ∧ Q x5 (sF (sI S 0 6 (0 : Int32)) ((26 + 2 * x3.toNatClampNeg) + 1) (va_cpy ((sI S 0 6 (0 : Int32)).1 ((26 + 2 * x1.toNatClampNeg) + 1)) ((sI S 0 6 (0 : Int32)).1 ((26 + 2 * x3.toNatClampNeg) + 1)) x2.toNatClampNeg x4.toNatClampNeg x5.toNatClampNeg))))))))))))))))))))))) ∧ (¬ ((sI S 0 6 (0 : Int32)).1 (26 + 2 * x1.toNatClampNeg) 2) = ((sI S 0 6 (0 : Int32)).1 (26 + 2 * x3.toNatClampNeg) 2) → Q (-12 : Int32) (sI (sI S 0 6 (0 : Int32)) 0 6 (2 : Int32))))) ∧ (((sI S 0 6 (0 : Int32)).1 (26 + 2 * x3.toNatClampNeg) 1) = 0 → Q (-11 : Int32) (sI (sI S 0 6 (0 : Int32)) 0 6 (1 : Int32))))))))))))))) : CallV mdX5_copy [.ref 0, .int x1, .int x2, .int x3, .int x4, .int x5] S (qI Q) := by
  refine CallV_of mdX5_copy plX5_copy 2 (Nat.le_of_ble_eq_true rfl) rfl ?_
  intro zp0 zl0 ze0 zs0 zm0 zargs0 zbelow0 zmeth0 zc0 zD0 zad0 zac0 C0 hr0 hk0
  refine mr_aload_n C0 dX5_copy_0 rfl (i := 0) rfl ?_
  refine mr_iconst (v := 0) C0 dX5_copy_1 (by decide) ?_
  refine mr_putI C0 dX5_copy_2 fl_X5_52 (Nat.le_of_ble_eq_true rfl) rfl rfl rfl rfl ?_
  refine mr_iload_n C0 dX5_copy_5 rfl (i := 1) rfl ?_
  refine mr_callSI C0 mdX5_isSheet dX5_copy_6 clX5_isSheet ml_X5_55 arX5_isSheet (as := [.int x1]) rfl (Nat.le_of_ble_eq_true rfl) (Nat.le_of_ble_eq_true rfl) (Nat.le_of_ble_eq_true rfl) fit0 (CallV_of mdX5_isSheet plX5_isSheet 0 (Nat.le_of_ble_eq_true rfl) rfl ?_) (fun _ _ h => h)
  intro zp1 zl1 ze1 zs1 zm1 zargs1 zbelow1 zmeth1 zc1 zD1 zad1 zac1 C1 hr1 hk1
  refine mr_iload_n C1 dX5_isSheet_0 rfl (i := 0) rfl ?_
  refine mr_if_lt C1 dX5_isSheet_1 (tgt := 13) (by decide) (fun c1 => ?_) (fun c1 => ?_)
  · have h := h.1 c1
    refine mr_iconst (v := 0) C1 dX5_isSheet_13 (by decide) ?_
    refine mr_zret C1 hr1 hk1 dX5_isSheet_14 rfl (qI_mk ?_)
    refine mr_if_eq C0 dX5_copy_9 (tgt := 19) (by decide) (fun _ => ?_) (fun q => absurd q (by decide))
    refine mr_iconst (v := (-1)) C0 dX5_copy_19 (by decide) ?_
    refine mr_iret C0 hr0 hk0 dX5_copy_20 (qI_mk ?_)
    exact h
  · have h := h.2 c1
    refine mr_iload_n C1 dX5_isSheet_4 rfl (i := 0) rfl ?_
    refine mr_iconst (v := 4) C1 dX5_isSheet_5 (by decide) ?_
    refine mr_icmp_ge C1 dX5_isSheet_6 (tgt := 13) (by decide) (fun c2 => ?_) (fun c2 => ?_)
    · have h := h.1 c2
      refine mr_iconst (v := 0) C1 dX5_isSheet_13 (by decide) ?_
      refine mr_zret C1 hr1 hk1 dX5_isSheet_14 rfl (qI_mk ?_)
      refine mr_if_eq C0 dX5_copy_9 (tgt := 19) (by decide) (fun _ => ?_) (fun q => absurd q (by decide))
      refine mr_iconst (v := (-1)) C0 dX5_copy_19 (by decide) ?_
      refine mr_iret C0 hr0 hk0 dX5_copy_20 (qI_mk ?_)
      exact h
    · have h := h.2 c2
      refine mr_iconst (v := 1) C1 dX5_isSheet_9 (by decide) ?_
      refine mr_goto C1 dX5_isSheet_10 (tgt := 14) (by decide) ?_
      refine mr_zret C1 hr1 hk1 dX5_isSheet_14 rfl (qI_mk ?_)
      refine mr_if_eq C0 dX5_copy_9 (tgt := 19) (by decide) (fun q => absurd q (by decide)) (fun _ => ?_)
      refine mr_iload_n C0 dX5_copy_12 rfl (i := 3) rfl ?_
      refine mr_callSI C0 mdX5_isSheet dX5_copy_13 clX5_isSheet ml_X5_55 arX5_isSheet (as := [.int x3]) rfl (Nat.le_of_ble_eq_true rfl) (Nat.le_of_ble_eq_true rfl) (Nat.le_of_ble_eq_true rfl) fit0 (CallV_of mdX5_isSheet plX5_isSheet 0 (Nat.le_of_ble_eq_true rfl) rfl ?_) (fun _ _ h => h)
      intro zp2 zl2 ze2 zs2 zm2 zargs2 zbelow2 zmeth2 zc2 zD2 zad2 zac2 C2 hr2 hk2
      refine mr_iload_n C2 dX5_isSheet_0 rfl (i := 0) rfl ?_
      refine mr_if_lt C2 dX5_isSheet_1 (tgt := 13) (by decide) (fun c3 => ?_) (fun c3 => ?_)
      · have h := h.1 c3
        refine mr_iconst (v := 0) C2 dX5_isSheet_13 (by decide) ?_
        refine mr_zret C2 hr2 hk2 dX5_isSheet_14 rfl (qI_mk ?_)
        refine mr_if_ne C0 dX5_copy_16 (tgt := 21) (by decide) (fun q => absurd q (by decide)) (fun _ => ?_)
        refine mr_iconst (v := (-1)) C0 dX5_copy_19 (by decide) ?_
        refine mr_iret C0 hr0 hk0 dX5_copy_20 (qI_mk ?_)
        exact h
      · have h := h.2 c3
        refine mr_iload_n C2 dX5_isSheet_4 rfl (i := 0) rfl ?_
        refine mr_iconst (v := 4) C2 dX5_isSheet_5 (by decide) ?_
        refine mr_icmp_ge C2 dX5_isSheet_6 (tgt := 13) (by decide) (fun c4 => ?_) (fun c4 => ?_)
        · have h := h.1 c4
          refine mr_iconst (v := 0) C2 dX5_isSheet_13 (by decide) ?_
          refine mr_zret C2 hr2 hk2 dX5_isSheet_14 rfl (qI_mk ?_)
          refine mr_if_ne C0 dX5_copy_16 (tgt := 21) (by decide) (fun q => absurd q (by decide)) (fun _ => ?_)
          refine mr_iconst (v := (-1)) C0 dX5_copy_19 (by decide) ?_
          refine mr_iret C0 hr0 hk0 dX5_copy_20 (qI_mk ?_)
          exact h
        · have h := h.2 c4
          refine mr_iconst (v := 1) C2 dX5_isSheet_9 (by decide) ?_
          refine mr_goto C2 dX5_isSheet_10 (tgt := 14) (by decide) ?_
          refine mr_zret C2 hr2 hk2 dX5_isSheet_14 rfl (qI_mk ?_)
          refine mr_if_ne C0 dX5_copy_16 (tgt := 21) (by decide) (fun _ => ?_) (fun q => absurd q (by decide))
          refine mr_aload_n C0 dX5_copy_21 rfl (i := 0) rfl ?_
          refine mr_getR C0 dX5_copy_22 fl_X5_43 (Nat.le_of_ble_eq_true rfl) rfl rfl ?_
          refine mr_iload_n C0 dX5_copy_25 rfl (i := 1) rfl ?_
          have g5 := h.1
          have h := h.2
          refine mr_aald (d := 0) C0 dX5_copy_26 (Nat.le_of_ble_eq_true rfl) rfl g5 (sh_el g5) ?_
          refine mr_astore (L1 := [some (.ref 0), some (.int x1), some (.int x2), some (.int x3), some (.int x4), some (.int x5), some (.ref (26 + 2 * x1.toNatClampNeg)), none]) C0 dX5_copy_27 (Nat.le_of_ble_eq_true rfl) rfl ?_
          refine mr_aload_n C0 dX5_copy_29 rfl (i := 0) rfl ?_
          refine mr_getR C0 dX5_copy_30 fl_X5_43 (Nat.le_of_ble_eq_true rfl) rfl rfl ?_
          refine mr_iload_n C0 dX5_copy_33 rfl (i := 3) rfl ?_
          have g6 := h.1
          have h := h.2
          refine mr_aald (d := 0) C0 dX5_copy_34 (Nat.le_of_ble_eq_true rfl) rfl g6 (sh_el g6) ?_
          refine mr_astore (L1 := [some (.ref 0), some (.int x1), some (.int x2), some (.int x3), some (.int x4), some (.int x5), some (.ref (26 + 2 * x1.toNatClampNeg)), some (.ref (26 + 2 * x3.toNatClampNeg))]) C0 dX5_copy_35 (Nat.le_of_ble_eq_true rfl) rfl ?_
          refine mr_aload C0 dX5_copy_37 rfl ?_
          refine mr_getI C0 dX5_copy_39 fl_X5_214 (sh_lt (sh_in g5)) (sh_lay (sh_in g5)) rfl ?_
          refine mr_if_eq C0 dX5_copy_42 (tgt := 53) (by decide) (fun c7 => ?_) (fun c7 => ?_)
          · have h := h.1 c7
            refine mr_aload_n C0 dX5_copy_53 rfl (i := 0) rfl ?_
            refine mr_iconst (v := 1) C0 dX5_copy_54 (by decide) ?_
            refine mr_callVI C0 mdX5_failed dX5_copy_55 clX5_failed ml_X5_70 (Nat.le_of_ble_eq_true rfl) rfl rfl arX5_failed (as := [.int (1 : Int32)]) rfl (Nat.le_of_ble_eq_true rfl) (Nat.le_of_ble_eq_true rfl) (Nat.le_of_ble_eq_true rfl) fit0 (CallV_of mdX5_failed plX5_failed 0 (Nat.le_of_ble_eq_true rfl) rfl ?_) (fun _ _ h => h)
            intro zp3 zl3 ze3 zs3 zm3 zargs3 zbelow3 zmeth3 zc3 zD3 zad3 zac3 C3 hr3 hk3
            refine mr_aload_n C3 dX5_failed_0 rfl (i := 0) rfl ?_
            refine mr_iload_n C3 dX5_failed_1 rfl (i := 1) rfl ?_
            refine mr_putI C3 dX5_failed_2 fl_X5_52 (Nat.le_of_ble_eq_true rfl) rfl rfl rfl rfl ?_
            refine mr_bipush (v := (-10)) C3 dX5_failed_5 (by decide) ?_
            refine mr_iload_n C3 dX5_failed_7 rfl (i := 1) rfl ?_
            refine mr_isub C3 dX5_failed_8 ?_
            refine mr_topI (y := (-11 : Int32)) (by decide) ?_
            refine mr_iret C3 hr3 hk3 dX5_failed_9 (qI_mk ?_)
            refine mr_iret C0 hr0 hk0 dX5_copy_58 (qI_mk ?_)
            exact h
          · have h := h.2 c7
            refine mr_aload C0 dX5_copy_45 rfl ?_
            refine mr_getI C0 dX5_copy_47 fl_X5_214 (sh_lt (sh_in g6)) (sh_lay (sh_in g6)) rfl ?_
            refine mr_if_ne C0 dX5_copy_50 (tgt := 59) (by decide) (fun c8 => ?_) (fun c8 => ?_)
            · have h := h.1 c8
              refine mr_aload C0 dX5_copy_59 rfl ?_
              refine mr_getI C0 dX5_copy_61 fl_X5_220 (sh_lt (sh_in g5)) (sh_lay (sh_in g5)) rfl ?_
              refine mr_aload C0 dX5_copy_64 rfl ?_
              refine mr_getI C0 dX5_copy_66 fl_X5_220 (sh_lt (sh_in g6)) (sh_lay (sh_in g6)) rfl ?_
              refine mr_icmp_eq C0 dX5_copy_69 (tgt := 78) (by decide) (fun c9 => ?_) (fun c9 => ?_)
              · have h := h.1 c9
                refine mr_aload C0 dX5_copy_78 rfl ?_
                refine mr_iload_n C0 dX5_copy_80 rfl (i := 2) rfl ?_
                refine mr_iload C0 dX5_copy_81 rfl ?_
                refine mr_callVI C0 mdX3_spans dX5_copy_83 clX3_spans ml_X5_66 (sh_lt (sh_in g5)) (sh_lay (sh_in g5)) rfl arX3_spans (as := [.int x2, .int x5]) rfl (Nat.le_of_ble_eq_true rfl) (Nat.le_of_ble_eq_true rfl) (Nat.le_of_ble_eq_true rfl) fit0 (CallV_of mdX3_spans plX3_spans 0 (Nat.le_of_ble_eq_true rfl) rfl ?_) (fun _ _ h => h)
                intro zp4 zl4 ze4 zs4 zm4 zargs4 zbelow4 zmeth4 zc4 zD4 zad4 zac4 C4 hr4 hk4
                refine mr_aload_n C4 dX3_spans_0 rfl (i := 0) rfl ?_
                refine mr_getI C4 dX3_spans_1 fl_X3_15 (sh_lt (sh_in g5)) (sh_lay (sh_in g5)) rfl ?_
                refine mr_if_eq C4 dX3_spans_4 (tgt := 37) (by decide) (fun c10 => ?_) (fun c10 => ?_)
                · have h := h.1 c10
                  refine mr_iconst (v := 0) C4 dX3_spans_37 (by decide) ?_
                  refine mr_zret C4 hr4 hk4 dX3_spans_38 rfl (qI_mk ?_)
                  refine mr_if_eq C0 dX5_copy_86 (tgt := 101) (by decide) (fun _ => ?_) (fun q => absurd q (by decide))
                  refine mr_aload_n C0 dX5_copy_101 rfl (i := 0) rfl ?_
                  refine mr_iconst (v := 3) C0 dX5_copy_102 (by decide) ?_
                  refine mr_callVI C0 mdX5_failed dX5_copy_103 clX5_failed ml_X5_70 (Nat.le_of_ble_eq_true rfl) rfl rfl arX5_failed (as := [.int (3 : Int32)]) rfl (Nat.le_of_ble_eq_true rfl) (Nat.le_of_ble_eq_true rfl) (Nat.le_of_ble_eq_true rfl) fit0 (CallV_of mdX5_failed plX5_failed 0 (Nat.le_of_ble_eq_true rfl) rfl ?_) (fun _ _ h => h)
                  intro zp5 zl5 ze5 zs5 zm5 zargs5 zbelow5 zmeth5 zc5 zD5 zad5 zac5 C5 hr5 hk5
                  refine mr_aload_n C5 dX5_failed_0 rfl (i := 0) rfl ?_
                  refine mr_iload_n C5 dX5_failed_1 rfl (i := 1) rfl ?_
                  refine mr_putI C5 dX5_failed_2 fl_X5_52 (Nat.le_of_ble_eq_true rfl) rfl rfl rfl rfl ?_
                  refine mr_bipush (v := (-10)) C5 dX5_failed_5 (by decide) ?_
                  refine mr_iload_n C5 dX5_failed_7 rfl (i := 1) rfl ?_
                  refine mr_isub C5 dX5_failed_8 ?_
                  refine mr_topI (y := (-13 : Int32)) (by decide) ?_
                  refine mr_iret C5 hr5 hk5 dX5_failed_9 (qI_mk ?_)
                  refine mr_iret C0 hr0 hk0 dX5_copy_106 (qI_mk ?_)
                  exact h
                · have h := h.2 c10
                  refine mr_iload_n C4 dX3_spans_7 rfl (i := 1) rfl ?_
                  refine mr_if_lt C4 dX3_spans_8 (tgt := 37) (by decide) (fun c11 => ?_) (fun c11 => ?_)
                  · have h := h.1 c11
                    refine mr_iconst (v := 0) C4 dX3_spans_37 (by decide) ?_
                    refine mr_zret C4 hr4 hk4 dX3_spans_38 rfl (qI_mk ?_)
                    refine mr_if_eq C0 dX5_copy_86 (tgt := 101) (by decide) (fun _ => ?_) (fun q => absurd q (by decide))
                    refine mr_aload_n C0 dX5_copy_101 rfl (i := 0) rfl ?_
                    refine mr_iconst (v := 3) C0 dX5_copy_102 (by decide) ?_
                    refine mr_callVI C0 mdX5_failed dX5_copy_103 clX5_failed ml_X5_70 (Nat.le_of_ble_eq_true rfl) rfl rfl arX5_failed (as := [.int (3 : Int32)]) rfl (Nat.le_of_ble_eq_true rfl) (Nat.le_of_ble_eq_true rfl) (Nat.le_of_ble_eq_true rfl) fit0 (CallV_of mdX5_failed plX5_failed 0 (Nat.le_of_ble_eq_true rfl) rfl ?_) (fun _ _ h => h)
                    intro zp6 zl6 ze6 zs6 zm6 zargs6 zbelow6 zmeth6 zc6 zD6 zad6 zac6 C6 hr6 hk6
                    refine mr_aload_n C6 dX5_failed_0 rfl (i := 0) rfl ?_
                    refine mr_iload_n C6 dX5_failed_1 rfl (i := 1) rfl ?_
                    refine mr_putI C6 dX5_failed_2 fl_X5_52 (Nat.le_of_ble_eq_true rfl) rfl rfl rfl rfl ?_
                    refine mr_bipush (v := (-10)) C6 dX5_failed_5 (by decide) ?_
                    refine mr_iload_n C6 dX5_failed_7 rfl (i := 1) rfl ?_
                    refine mr_isub C6 dX5_failed_8 ?_
                    refine mr_topI (y := (-13 : Int32)) (by decide) ?_
                    refine mr_iret C6 hr6 hk6 dX5_failed_9 (qI_mk ?_)
                    refine mr_iret C0 hr0 hk0 dX5_copy_106 (qI_mk ?_)
                    exact h
                  · have h := h.2 c11
                    refine mr_iload_n C4 dX3_spans_11 rfl (i := 2) rfl ?_
                    refine mr_if_lt C4 dX3_spans_12 (tgt := 37) (by decide) (fun c12 => ?_) (fun c12 => ?_)
                    · have h := h.1 c12
                      refine mr_iconst (v := 0) C4 dX3_spans_37 (by decide) ?_
                      refine mr_zret C4 hr4 hk4 dX3_spans_38 rfl (qI_mk ?_)
                      refine mr_if_eq C0 dX5_copy_86 (tgt := 101) (by decide) (fun _ => ?_) (fun q => absurd q (by decide))
                      refine mr_aload_n C0 dX5_copy_101 rfl (i := 0) rfl ?_
                      refine mr_iconst (v := 3) C0 dX5_copy_102 (by decide) ?_
                      refine mr_callVI C0 mdX5_failed dX5_copy_103 clX5_failed ml_X5_70 (Nat.le_of_ble_eq_true rfl) rfl rfl arX5_failed (as := [.int (3 : Int32)]) rfl (Nat.le_of_ble_eq_true rfl) (Nat.le_of_ble_eq_true rfl) (Nat.le_of_ble_eq_true rfl) fit0 (CallV_of mdX5_failed plX5_failed 0 (Nat.le_of_ble_eq_true rfl) rfl ?_) (fun _ _ h => h)
                      intro zp7 zl7 ze7 zs7 zm7 zargs7 zbelow7 zmeth7 zc7 zD7 zad7 zac7 C7 hr7 hk7
                      refine mr_aload_n C7 dX5_failed_0 rfl (i := 0) rfl ?_
                      refine mr_iload_n C7 dX5_failed_1 rfl (i := 1) rfl ?_
                      refine mr_putI C7 dX5_failed_2 fl_X5_52 (Nat.le_of_ble_eq_true rfl) rfl rfl rfl rfl ?_
                      refine mr_bipush (v := (-10)) C7 dX5_failed_5 (by decide) ?_
                      refine mr_iload_n C7 dX5_failed_7 rfl (i := 1) rfl ?_
                      refine mr_isub C7 dX5_failed_8 ?_
                      refine mr_topI (y := (-13 : Int32)) (by decide) ?_
                      refine mr_iret C7 hr7 hk7 dX5_failed_9 (qI_mk ?_)
                      refine mr_iret C0 hr0 hk0 dX5_copy_106 (qI_mk ?_)
                      exact h
                    · have h := h.2 c12
                      refine mr_iload_n C4 dX3_spans_15 rfl (i := 1) rfl ?_
                      refine mr_aload_n C4 dX3_spans_16 rfl (i := 0) rfl ?_
                      refine mr_getI C4 dX3_spans_17 fl_X3_23 (sh_lt (sh_in g5)) (sh_lay (sh_in g5)) rfl ?_
                      refine mr_icmp_gt C4 dX3_spans_20 (tgt := 37) (by decide) (fun c13 => ?_) (fun c13 => ?_)
                      · have h := h.1 c13
                        refine mr_iconst (v := 0) C4 dX3_spans_37 (by decide) ?_
                        refine mr_zret C4 hr4 hk4 dX3_spans_38 rfl (qI_mk ?_)
                        refine mr_if_eq C0 dX5_copy_86 (tgt := 101) (by decide) (fun _ => ?_) (fun q => absurd q (by decide))
                        refine mr_aload_n C0 dX5_copy_101 rfl (i := 0) rfl ?_
                        refine mr_iconst (v := 3) C0 dX5_copy_102 (by decide) ?_
                        refine mr_callVI C0 mdX5_failed dX5_copy_103 clX5_failed ml_X5_70 (Nat.le_of_ble_eq_true rfl) rfl rfl arX5_failed (as := [.int (3 : Int32)]) rfl (Nat.le_of_ble_eq_true rfl) (Nat.le_of_ble_eq_true rfl) (Nat.le_of_ble_eq_true rfl) fit0 (CallV_of mdX5_failed plX5_failed 0 (Nat.le_of_ble_eq_true rfl) rfl ?_) (fun _ _ h => h)
                        intro zp8 zl8 ze8 zs8 zm8 zargs8 zbelow8 zmeth8 zc8 zD8 zad8 zac8 C8 hr8 hk8
                        refine mr_aload_n C8 dX5_failed_0 rfl (i := 0) rfl ?_
                        refine mr_iload_n C8 dX5_failed_1 rfl (i := 1) rfl ?_
                        refine mr_putI C8 dX5_failed_2 fl_X5_52 (Nat.le_of_ble_eq_true rfl) rfl rfl rfl rfl ?_
                        refine mr_bipush (v := (-10)) C8 dX5_failed_5 (by decide) ?_
                        refine mr_iload_n C8 dX5_failed_7 rfl (i := 1) rfl ?_
                        refine mr_isub C8 dX5_failed_8 ?_
                        refine mr_topI (y := (-13 : Int32)) (by decide) ?_
                        refine mr_iret C8 hr8 hk8 dX5_failed_9 (qI_mk ?_)
                        refine mr_iret C0 hr0 hk0 dX5_copy_106 (qI_mk ?_)
                        exact h
                      · have h := h.2 c13
                        refine mr_iload_n C4 dX3_spans_23 rfl (i := 2) rfl ?_
                        refine mr_aload_n C4 dX3_spans_24 rfl (i := 0) rfl ?_
                        refine mr_getI C4 dX3_spans_25 fl_X3_23 (sh_lt (sh_in g5)) (sh_lay (sh_in g5)) rfl ?_
                        refine mr_iload_n C4 dX3_spans_28 rfl (i := 1) rfl ?_
                        refine mr_isub C4 dX3_spans_29 ?_
                        refine mr_icmp_gt C4 dX3_spans_30 (tgt := 37) (by decide) (fun c14 => ?_) (fun c14 => ?_)
                        · have h := h.1 c14
                          refine mr_iconst (v := 0) C4 dX3_spans_37 (by decide) ?_
                          refine mr_zret C4 hr4 hk4 dX3_spans_38 rfl (qI_mk ?_)
                          refine mr_if_eq C0 dX5_copy_86 (tgt := 101) (by decide) (fun _ => ?_) (fun q => absurd q (by decide))
                          refine mr_aload_n C0 dX5_copy_101 rfl (i := 0) rfl ?_
                          refine mr_iconst (v := 3) C0 dX5_copy_102 (by decide) ?_
                          refine mr_callVI C0 mdX5_failed dX5_copy_103 clX5_failed ml_X5_70 (Nat.le_of_ble_eq_true rfl) rfl rfl arX5_failed (as := [.int (3 : Int32)]) rfl (Nat.le_of_ble_eq_true rfl) (Nat.le_of_ble_eq_true rfl) (Nat.le_of_ble_eq_true rfl) fit0 (CallV_of mdX5_failed plX5_failed 0 (Nat.le_of_ble_eq_true rfl) rfl ?_) (fun _ _ h => h)
                          intro zp9 zl9 ze9 zs9 zm9 zargs9 zbelow9 zmeth9 zc9 zD9 zad9 zac9 C9 hr9 hk9
                          refine mr_aload_n C9 dX5_failed_0 rfl (i := 0) rfl ?_
                          refine mr_iload_n C9 dX5_failed_1 rfl (i := 1) rfl ?_
                          refine mr_putI C9 dX5_failed_2 fl_X5_52 (Nat.le_of_ble_eq_true rfl) rfl rfl rfl rfl ?_
                          refine mr_bipush (v := (-10)) C9 dX5_failed_5 (by decide) ?_
                          refine mr_iload_n C9 dX5_failed_7 rfl (i := 1) rfl ?_
                          refine mr_isub C9 dX5_failed_8 ?_
                          refine mr_topI (y := (-13 : Int32)) (by decide) ?_
                          refine mr_iret C9 hr9 hk9 dX5_failed_9 (qI_mk ?_)
                          refine mr_iret C0 hr0 hk0 dX5_copy_106 (qI_mk ?_)
                          exact h
                        · have h := h.2 c14
                          refine mr_iconst (v := 1) C4 dX3_spans_33 (by decide) ?_
                          refine mr_goto C4 dX3_spans_34 (tgt := 38) (by decide) ?_
                          refine mr_zret C4 hr4 hk4 dX3_spans_38 rfl (qI_mk ?_)
                          refine mr_if_eq C0 dX5_copy_86 (tgt := 101) (by decide) (fun q => absurd q (by decide)) (fun _ => ?_)
                          refine mr_aload C0 dX5_copy_89 rfl ?_
                          refine mr_iload C0 dX5_copy_91 rfl ?_
                          refine mr_iload C0 dX5_copy_93 rfl ?_
                          refine mr_callVI C0 mdX3_spans dX5_copy_95 clX3_spans ml_X5_66 (sh_lt (sh_in g6)) (sh_lay (sh_in g6)) rfl arX3_spans (as := [.int x4, .int x5]) rfl (Nat.le_of_ble_eq_true rfl) (Nat.le_of_ble_eq_true rfl) (Nat.le_of_ble_eq_true rfl) fit0 (CallV_of mdX3_spans plX3_spans 0 (Nat.le_of_ble_eq_true rfl) rfl ?_) (fun _ _ h => h)
                          intro zp10 zl10 ze10 zs10 zm10 zargs10 zbelow10 zmeth10 zc10 zD10 zad10 zac10 C10 hr10 hk10
                          refine mr_aload_n C10 dX3_spans_0 rfl (i := 0) rfl ?_
                          refine mr_getI C10 dX3_spans_1 fl_X3_15 (sh_lt (sh_in g6)) (sh_lay (sh_in g6)) rfl ?_
                          refine mr_if_eq C10 dX3_spans_4 (tgt := 37) (by decide) (fun c15 => ?_) (fun c15 => ?_)
                          · have h := h.1 c15
                            refine mr_iconst (v := 0) C10 dX3_spans_37 (by decide) ?_
                            refine mr_zret C10 hr10 hk10 dX3_spans_38 rfl (qI_mk ?_)
                            refine mr_if_ne C0 dX5_copy_98 (tgt := 107) (by decide) (fun q => absurd q (by decide)) (fun _ => ?_)
                            refine mr_aload_n C0 dX5_copy_101 rfl (i := 0) rfl ?_
                            refine mr_iconst (v := 3) C0 dX5_copy_102 (by decide) ?_
                            refine mr_callVI C0 mdX5_failed dX5_copy_103 clX5_failed ml_X5_70 (Nat.le_of_ble_eq_true rfl) rfl rfl arX5_failed (as := [.int (3 : Int32)]) rfl (Nat.le_of_ble_eq_true rfl) (Nat.le_of_ble_eq_true rfl) (Nat.le_of_ble_eq_true rfl) fit0 (CallV_of mdX5_failed plX5_failed 0 (Nat.le_of_ble_eq_true rfl) rfl ?_) (fun _ _ h => h)
                            intro zp11 zl11 ze11 zs11 zm11 zargs11 zbelow11 zmeth11 zc11 zD11 zad11 zac11 C11 hr11 hk11
                            refine mr_aload_n C11 dX5_failed_0 rfl (i := 0) rfl ?_
                            refine mr_iload_n C11 dX5_failed_1 rfl (i := 1) rfl ?_
                            refine mr_putI C11 dX5_failed_2 fl_X5_52 (Nat.le_of_ble_eq_true rfl) rfl rfl rfl rfl ?_
                            refine mr_bipush (v := (-10)) C11 dX5_failed_5 (by decide) ?_
                            refine mr_iload_n C11 dX5_failed_7 rfl (i := 1) rfl ?_
                            refine mr_isub C11 dX5_failed_8 ?_
                            refine mr_topI (y := (-13 : Int32)) (by decide) ?_
                            refine mr_iret C11 hr11 hk11 dX5_failed_9 (qI_mk ?_)
                            refine mr_iret C0 hr0 hk0 dX5_copy_106 (qI_mk ?_)
                            exact h
                          · have h := h.2 c15
                            refine mr_iload_n C10 dX3_spans_7 rfl (i := 1) rfl ?_
                            refine mr_if_lt C10 dX3_spans_8 (tgt := 37) (by decide) (fun c16 => ?_) (fun c16 => ?_)
                            · have h := h.1 c16
                              refine mr_iconst (v := 0) C10 dX3_spans_37 (by decide) ?_
                              refine mr_zret C10 hr10 hk10 dX3_spans_38 rfl (qI_mk ?_)
                              refine mr_if_ne C0 dX5_copy_98 (tgt := 107) (by decide) (fun q => absurd q (by decide)) (fun _ => ?_)
                              refine mr_aload_n C0 dX5_copy_101 rfl (i := 0) rfl ?_
                              refine mr_iconst (v := 3) C0 dX5_copy_102 (by decide) ?_
                              refine mr_callVI C0 mdX5_failed dX5_copy_103 clX5_failed ml_X5_70 (Nat.le_of_ble_eq_true rfl) rfl rfl arX5_failed (as := [.int (3 : Int32)]) rfl (Nat.le_of_ble_eq_true rfl) (Nat.le_of_ble_eq_true rfl) (Nat.le_of_ble_eq_true rfl) fit0 (CallV_of mdX5_failed plX5_failed 0 (Nat.le_of_ble_eq_true rfl) rfl ?_) (fun _ _ h => h)
                              intro zp12 zl12 ze12 zs12 zm12 zargs12 zbelow12 zmeth12 zc12 zD12 zad12 zac12 C12 hr12 hk12
                              refine mr_aload_n C12 dX5_failed_0 rfl (i := 0) rfl ?_
                              refine mr_iload_n C12 dX5_failed_1 rfl (i := 1) rfl ?_
                              refine mr_putI C12 dX5_failed_2 fl_X5_52 (Nat.le_of_ble_eq_true rfl) rfl rfl rfl rfl ?_
                              refine mr_bipush (v := (-10)) C12 dX5_failed_5 (by decide) ?_
                              refine mr_iload_n C12 dX5_failed_7 rfl (i := 1) rfl ?_
                              refine mr_isub C12 dX5_failed_8 ?_
                              refine mr_topI (y := (-13 : Int32)) (by decide) ?_
                              refine mr_iret C12 hr12 hk12 dX5_failed_9 (qI_mk ?_)
                              refine mr_iret C0 hr0 hk0 dX5_copy_106 (qI_mk ?_)
                              exact h
                            · have h := h.2 c16
                              refine mr_iload_n C10 dX3_spans_11 rfl (i := 2) rfl ?_
                              refine mr_if_lt C10 dX3_spans_12 (tgt := 37) (by decide) (fun c17 => ?_) (fun c17 => ?_)
                              · have h := h.1 c17
                                refine mr_iconst (v := 0) C10 dX3_spans_37 (by decide) ?_
                                refine mr_zret C10 hr10 hk10 dX3_spans_38 rfl (qI_mk ?_)
                                refine mr_if_ne C0 dX5_copy_98 (tgt := 107) (by decide) (fun q => absurd q (by decide)) (fun _ => ?_)
                                refine mr_aload_n C0 dX5_copy_101 rfl (i := 0) rfl ?_
                                refine mr_iconst (v := 3) C0 dX5_copy_102 (by decide) ?_
                                refine mr_callVI C0 mdX5_failed dX5_copy_103 clX5_failed ml_X5_70 (Nat.le_of_ble_eq_true rfl) rfl rfl arX5_failed (as := [.int (3 : Int32)]) rfl (Nat.le_of_ble_eq_true rfl) (Nat.le_of_ble_eq_true rfl) (Nat.le_of_ble_eq_true rfl) fit0 (CallV_of mdX5_failed plX5_failed 0 (Nat.le_of_ble_eq_true rfl) rfl ?_) (fun _ _ h => h)
                                intro zp13 zl13 ze13 zs13 zm13 zargs13 zbelow13 zmeth13 zc13 zD13 zad13 zac13 C13 hr13 hk13
                                refine mr_aload_n C13 dX5_failed_0 rfl (i := 0) rfl ?_
                                refine mr_iload_n C13 dX5_failed_1 rfl (i := 1) rfl ?_
                                refine mr_putI C13 dX5_failed_2 fl_X5_52 (Nat.le_of_ble_eq_true rfl) rfl rfl rfl rfl ?_
                                refine mr_bipush (v := (-10)) C13 dX5_failed_5 (by decide) ?_
                                refine mr_iload_n C13 dX5_failed_7 rfl (i := 1) rfl ?_
                                refine mr_isub C13 dX5_failed_8 ?_
                                refine mr_topI (y := (-13 : Int32)) (by decide) ?_
                                refine mr_iret C13 hr13 hk13 dX5_failed_9 (qI_mk ?_)
                                refine mr_iret C0 hr0 hk0 dX5_copy_106 (qI_mk ?_)
                                exact h
                              · have h := h.2 c17
                                refine mr_iload_n C10 dX3_spans_15 rfl (i := 1) rfl ?_
                                refine mr_aload_n C10 dX3_spans_16 rfl (i := 0) rfl ?_
                                refine mr_getI C10 dX3_spans_17 fl_X3_23 (sh_lt (sh_in g6)) (sh_lay (sh_in g6)) rfl ?_
                                refine mr_icmp_gt C10 dX3_spans_20 (tgt := 37) (by decide) (fun c18 => ?_) (fun c18 => ?_)
                                · have h := h.1 c18
                                  refine mr_iconst (v := 0) C10 dX3_spans_37 (by decide) ?_
                                  refine mr_zret C10 hr10 hk10 dX3_spans_38 rfl (qI_mk ?_)
                                  refine mr_if_ne C0 dX5_copy_98 (tgt := 107) (by decide) (fun q => absurd q (by decide)) (fun _ => ?_)
                                  refine mr_aload_n C0 dX5_copy_101 rfl (i := 0) rfl ?_
                                  refine mr_iconst (v := 3) C0 dX5_copy_102 (by decide) ?_
                                  refine mr_callVI C0 mdX5_failed dX5_copy_103 clX5_failed ml_X5_70 (Nat.le_of_ble_eq_true rfl) rfl rfl arX5_failed (as := [.int (3 : Int32)]) rfl (Nat.le_of_ble_eq_true rfl) (Nat.le_of_ble_eq_true rfl) (Nat.le_of_ble_eq_true rfl) fit0 (CallV_of mdX5_failed plX5_failed 0 (Nat.le_of_ble_eq_true rfl) rfl ?_) (fun _ _ h => h)
                                  intro zp14 zl14 ze14 zs14 zm14 zargs14 zbelow14 zmeth14 zc14 zD14 zad14 zac14 C14 hr14 hk14
                                  refine mr_aload_n C14 dX5_failed_0 rfl (i := 0) rfl ?_
                                  refine mr_iload_n C14 dX5_failed_1 rfl (i := 1) rfl ?_
                                  refine mr_putI C14 dX5_failed_2 fl_X5_52 (Nat.le_of_ble_eq_true rfl) rfl rfl rfl rfl ?_
                                  refine mr_bipush (v := (-10)) C14 dX5_failed_5 (by decide) ?_
                                  refine mr_iload_n C14 dX5_failed_7 rfl (i := 1) rfl ?_
                                  refine mr_isub C14 dX5_failed_8 ?_
                                  refine mr_topI (y := (-13 : Int32)) (by decide) ?_
                                  refine mr_iret C14 hr14 hk14 dX5_failed_9 (qI_mk ?_)
                                  refine mr_iret C0 hr0 hk0 dX5_copy_106 (qI_mk ?_)
                                  exact h
                                · have h := h.2 c18
                                  refine mr_iload_n C10 dX3_spans_23 rfl (i := 2) rfl ?_
                                  refine mr_aload_n C10 dX3_spans_24 rfl (i := 0) rfl ?_
                                  refine mr_getI C10 dX3_spans_25 fl_X3_23 (sh_lt (sh_in g6)) (sh_lay (sh_in g6)) rfl ?_
                                  refine mr_iload_n C10 dX3_spans_28 rfl (i := 1) rfl ?_
                                  refine mr_isub C10 dX3_spans_29 ?_
                                  refine mr_icmp_gt C10 dX3_spans_30 (tgt := 37) (by decide) (fun c19 => ?_) (fun c19 => ?_)
                                  · have h := h.1 c19
                                    refine mr_iconst (v := 0) C10 dX3_spans_37 (by decide) ?_
                                    refine mr_zret C10 hr10 hk10 dX3_spans_38 rfl (qI_mk ?_)
                                    refine mr_if_ne C0 dX5_copy_98 (tgt := 107) (by decide) (fun q => absurd q (by decide)) (fun _ => ?_)
                                    refine mr_aload_n C0 dX5_copy_101 rfl (i := 0) rfl ?_
                                    refine mr_iconst (v := 3) C0 dX5_copy_102 (by decide) ?_
                                    refine mr_callVI C0 mdX5_failed dX5_copy_103 clX5_failed ml_X5_70 (Nat.le_of_ble_eq_true rfl) rfl rfl arX5_failed (as := [.int (3 : Int32)]) rfl (Nat.le_of_ble_eq_true rfl) (Nat.le_of_ble_eq_true rfl) (Nat.le_of_ble_eq_true rfl) fit0 (CallV_of mdX5_failed plX5_failed 0 (Nat.le_of_ble_eq_true rfl) rfl ?_) (fun _ _ h => h)
                                    intro zp15 zl15 ze15 zs15 zm15 zargs15 zbelow15 zmeth15 zc15 zD15 zad15 zac15 C15 hr15 hk15
                                    refine mr_aload_n C15 dX5_failed_0 rfl (i := 0) rfl ?_
                                    refine mr_iload_n C15 dX5_failed_1 rfl (i := 1) rfl ?_
                                    refine mr_putI C15 dX5_failed_2 fl_X5_52 (Nat.le_of_ble_eq_true rfl) rfl rfl rfl rfl ?_
                                    refine mr_bipush (v := (-10)) C15 dX5_failed_5 (by decide) ?_
                                    refine mr_iload_n C15 dX5_failed_7 rfl (i := 1) rfl ?_
                                    refine mr_isub C15 dX5_failed_8 ?_
                                    refine mr_topI (y := (-13 : Int32)) (by decide) ?_
                                    refine mr_iret C15 hr15 hk15 dX5_failed_9 (qI_mk ?_)
                                    refine mr_iret C0 hr0 hk0 dX5_copy_106 (qI_mk ?_)
                                    exact h
                                  · have h := h.2 c19
                                    refine mr_iconst (v := 1) C10 dX3_spans_33 (by decide) ?_
                                    refine mr_goto C10 dX3_spans_34 (tgt := 38) (by decide) ?_
                                    refine mr_zret C10 hr10 hk10 dX3_spans_38 rfl (qI_mk ?_)
                                    refine mr_if_ne C0 dX5_copy_98 (tgt := 107) (by decide) (fun _ => ?_) (fun q => absurd q (by decide))
                                    refine mr_aload C0 dX5_copy_107 rfl ?_
                                    refine mr_getR C0 dX5_copy_109 fl_X5_223 (sh_lt (sh_in g5)) (sh_lay (sh_in g5)) rfl ?_
                                    refine mr_iload_n C0 dX5_copy_112 rfl (i := 2) rfl ?_
                                    refine mr_aload C0 dX5_copy_113 rfl ?_
                                    refine mr_getR C0 dX5_copy_115 fl_X5_223 (sh_lt (sh_in g6)) (sh_lay (sh_in g6)) rfl ?_
                                    refine mr_iload C0 dX5_copy_118 rfl ?_
                                    refine mr_iload C0 dX5_copy_120 rfl ?_
                                    obtain ⟨k1, k2, k3, k4, k5, h⟩ := h
                                    refine mr_copy C0 dX5_copy_122 ml_X5_226 ac_native ac_static ac_init (Nat.le_of_ble_eq_true rfl) (Nat.le_of_ble_eq_true rfl) (sh_lt1 (sh_in g5)) (sh_lt1 (sh_in g6)) (sh_row (sh_in g5)) (sh_row (sh_in g6)) k1 k2 k3 k4 k5 ?_
                                    refine mr_iload C0 dX5_copy_125 rfl ?_
                                    refine mr_iret C0 hr0 hk0 dX5_copy_127 (qI_mk ?_)
                                    exact h
              · have h := h.2 c9
                refine mr_aload_n C0 dX5_copy_72 rfl (i := 0) rfl ?_
                refine mr_iconst (v := 2) C0 dX5_copy_73 (by decide) ?_
                refine mr_callVI C0 mdX5_failed dX5_copy_74 clX5_failed ml_X5_70 (Nat.le_of_ble_eq_true rfl) rfl rfl arX5_failed (as := [.int (2 : Int32)]) rfl (Nat.le_of_ble_eq_true rfl) (Nat.le_of_ble_eq_true rfl) (Nat.le_of_ble_eq_true rfl) fit0 (CallV_of mdX5_failed plX5_failed 0 (Nat.le_of_ble_eq_true rfl) rfl ?_) (fun _ _ h => h)
                intro zp16 zl16 ze16 zs16 zm16 zargs16 zbelow16 zmeth16 zc16 zD16 zad16 zac16 C16 hr16 hk16
                refine mr_aload_n C16 dX5_failed_0 rfl (i := 0) rfl ?_
                refine mr_iload_n C16 dX5_failed_1 rfl (i := 1) rfl ?_
                refine mr_putI C16 dX5_failed_2 fl_X5_52 (Nat.le_of_ble_eq_true rfl) rfl rfl rfl rfl ?_
                refine mr_bipush (v := (-10)) C16 dX5_failed_5 (by decide) ?_
                refine mr_iload_n C16 dX5_failed_7 rfl (i := 1) rfl ?_
                refine mr_isub C16 dX5_failed_8 ?_
                refine mr_topI (y := (-12 : Int32)) (by decide) ?_
                refine mr_iret C16 hr16 hk16 dX5_failed_9 (qI_mk ?_)
                refine mr_iret C0 hr0 hk0 dX5_copy_77 (qI_mk ?_)
                exact h
            · have h := h.2 c8
              refine mr_aload_n C0 dX5_copy_53 rfl (i := 0) rfl ?_
              refine mr_iconst (v := 1) C0 dX5_copy_54 (by decide) ?_
              refine mr_callVI C0 mdX5_failed dX5_copy_55 clX5_failed ml_X5_70 (Nat.le_of_ble_eq_true rfl) rfl rfl arX5_failed (as := [.int (1 : Int32)]) rfl (Nat.le_of_ble_eq_true rfl) (Nat.le_of_ble_eq_true rfl) (Nat.le_of_ble_eq_true rfl) fit0 (CallV_of mdX5_failed plX5_failed 0 (Nat.le_of_ble_eq_true rfl) rfl ?_) (fun _ _ h => h)
              intro zp17 zl17 ze17 zs17 zm17 zargs17 zbelow17 zmeth17 zc17 zD17 zad17 zac17 C17 hr17 hk17
              refine mr_aload_n C17 dX5_failed_0 rfl (i := 0) rfl ?_
              refine mr_iload_n C17 dX5_failed_1 rfl (i := 1) rfl ?_
              refine mr_putI C17 dX5_failed_2 fl_X5_52 (Nat.le_of_ble_eq_true rfl) rfl rfl rfl rfl ?_
              refine mr_bipush (v := (-10)) C17 dX5_failed_5 (by decide) ?_
              refine mr_iload_n C17 dX5_failed_7 rfl (i := 1) rfl ?_
              refine mr_isub C17 dX5_failed_8 ?_
              refine mr_topI (y := (-11 : Int32)) (by decide) ?_
              refine mr_iret C17 hr17 hk17 dX5_failed_9 (qI_mk ?_)
              refine mr_iret C0 hr0 hk0 dX5_copy_58 (qI_mk ?_)
              exact h
set_option maxRecDepth 100000 in
set_option maxHeartbeats 4000000 in
theorem eX5_tell (x1 : Int32) (S : St) (Q : Int32 → St → Prop) (h : ((x1 < 0 → Q (-1 : Int32) S) ∧ (¬ x1 < 0 → (((S.1 4 2) ≤ x1 → Q (-1 : Int32) S) ∧ (¬ (S.1 4 2) ≤ x1 → (vp_in x1 8) ∧ (((S.1 5 x1.toNatClampNeg) = (1 : Int32) → (vp_in x1 8) ∧ Q ((S.1 6 x1.toNatClampNeg) + (100 : Int32)) (sI (sI S 0 5 (((31 : Int32) * (S.1 0 5)) + (2 : Int32))) 0 5 (((31 : Int32) * (((31 : Int32) * (S.1 0 5)) + (2 : Int32))) + (1 : Int32)))) ∧ (¬ (S.1 5 x1.toNatClampNeg) = (1 : Int32) → (((S.1 5 x1.toNatClampNeg) = (2 : Int32) → (vp_in x1 8) ∧ (vp_in x1 8) ∧ Q (((S.1 6 x1.toNatClampNeg) + (100 : Int32)) + (S.1 6 x1.toNatClampNeg)) (sI (sI (sI (sI S 0 5 (((31 : Int32) * (S.1 0 5)) + (3 : Int32))) 0 5 (((31 : Int32) * (((31 : Int32) * (S.1 0 5)) + (3 : Int32))) + (2 : Int32))) 0 5 (((31 : Int32) * (((31 : Int32) * (((31 : Int32) * (S.1 0 5)) + (3 : Int32))) + (2 : Int32))) + (1 : Int32))) 0 5 (((31 : Int32) * (((31 : Int32) * (((31 : Int32) * (((31 : Int32) * (S.1 0 5)) + (3 : Int32))) + (2 : Int32))) + (1 : Int32))) + (1 : Int32)))) ∧ (¬ (S.1 5 x1.toNatClampNeg) = (2 : Int32) → (vp_in x1 8) ∧ Q (S.1 6 x1.toNatClampNeg) (sI S 0 5 (((31 : Int32) * (S.1 0 5)) + (1 : Int32)))))))))))) : CallV mdX5_tell [.ref 0, .int x1] S (qI Q) := by
  refine CallV_of mdX5_tell plX5_tell 0 (Nat.le_of_ble_eq_true rfl) rfl ?_
  intro zp0 zl0 ze0 zs0 zm0 zargs0 zbelow0 zmeth0 zc0 zD0 zad0 zac0 C0 hr0 hk0
  refine mr_aload_n C0 dX5_tell_0 rfl (i := 0) rfl ?_
  refine mr_getR C0 dX5_tell_1 fl_X5_21 (Nat.le_of_ble_eq_true rfl) rfl rfl ?_
  refine mr_iload_n C0 dX5_tell_4 rfl (i := 1) rfl ?_
  refine mr_callVI C0 mdX4_has dX5_tell_5 clX4_has ml_X5_115 (Nat.le_of_ble_eq_true rfl) rfl rfl arX4_has (as := [.int x1]) rfl (Nat.le_of_ble_eq_true rfl) (Nat.le_of_ble_eq_true rfl) (Nat.le_of_ble_eq_true rfl) fit0 (CallV_of mdX4_has plX4_has 0 (Nat.le_of_ble_eq_true rfl) rfl ?_) (fun _ _ h => h)
  intro zp1 zl1 ze1 zs1 zm1 zargs1 zbelow1 zmeth1 zc1 zD1 zad1 zac1 C1 hr1 hk1
  refine mr_iload_n C1 dX4_has_0 rfl (i := 1) rfl ?_
  refine mr_if_lt C1 dX4_has_1 (tgt := 16) (by decide) (fun c1 => ?_) (fun c1 => ?_)
  · have h := h.1 c1
    refine mr_iconst (v := 0) C1 dX4_has_16 (by decide) ?_
    refine mr_zret C1 hr1 hk1 dX4_has_17 rfl (qI_mk ?_)
    refine mr_if_ne C0 dX5_tell_8 (tgt := 13) (by decide) (fun q => absurd q (by decide)) (fun _ => ?_)
    refine mr_iconst (v := (-1)) C0 dX5_tell_11 (by decide) ?_
    refine mr_iret C0 hr0 hk0 dX5_tell_12 (qI_mk ?_)
    exact h
  · have h := h.2 c1
    refine mr_iload_n C1 dX4_has_4 rfl (i := 1) rfl ?_
    refine mr_aload_n C1 dX4_has_5 rfl (i := 0) rfl ?_
    refine mr_getI C1 dX4_has_6 fl_X4_18 (Nat.le_of_ble_eq_true rfl) rfl rfl ?_
    refine mr_icmp_ge C1 dX4_has_9 (tgt := 16) (by decide) (fun c2 => ?_) (fun c2 => ?_)
    · have h := h.1 c2
      refine mr_iconst (v := 0) C1 dX4_has_16 (by decide) ?_
      refine mr_zret C1 hr1 hk1 dX4_has_17 rfl (qI_mk ?_)
      refine mr_if_ne C0 dX5_tell_8 (tgt := 13) (by decide) (fun q => absurd q (by decide)) (fun _ => ?_)
      refine mr_iconst (v := (-1)) C0 dX5_tell_11 (by decide) ?_
      refine mr_iret C0 hr0 hk0 dX5_tell_12 (qI_mk ?_)
      exact h
    · have h := h.2 c2
      refine mr_iconst (v := 1) C1 dX4_has_12 (by decide) ?_
      refine mr_goto C1 dX4_has_13 (tgt := 17) (by decide) ?_
      refine mr_zret C1 hr1 hk1 dX4_has_17 rfl (qI_mk ?_)
      refine mr_if_ne C0 dX5_tell_8 (tgt := 13) (by decide) (fun _ => ?_) (fun q => absurd q (by decide))
      refine mr_aload_n C0 dX5_tell_13 rfl (i := 0) rfl ?_
      refine mr_getR C0 dX5_tell_14 fl_X5_21 (Nat.le_of_ble_eq_true rfl) rfl rfl ?_
      refine mr_getR C0 dX5_tell_17 fl_X5_118 (Nat.le_of_ble_eq_true rfl) rfl rfl ?_
      refine mr_iload_n C0 dX5_tell_20 rfl (i := 1) rfl ?_
      have g3 := h.1
      have h := h.2
      refine mr_iald C0 dX5_tell_21 (Nat.le_of_ble_eq_true rfl) rfl g3 ?_
      by_cases c4 : (S.1 5 x1.toNatClampNeg) = (1 : Int32)
      · have h := h.1 c4
        refine mr_ls C0 dX5_tell_22 (by decide) (off := 32) (by rw [c4]; decide) (tgt := 54) (by decide) ?_
        refine mr_aload_n C0 dX5_tell_54 rfl (i := 0) rfl ?_
        refine mr_iload_n C0 dX5_tell_55 rfl (i := 1) rfl ?_
        refine mr_callVI C0 mdX5_toldByHeavy dX5_tell_56 clX5_toldByHeavy ml_X5_235 (Nat.le_of_ble_eq_true rfl) rfl rfl arX5_toldByHeavy (as := [.int x1]) rfl (Nat.le_of_ble_eq_true rfl) (Nat.le_of_ble_eq_true rfl) (Nat.le_of_ble_eq_true rfl) fit0 (CallV_of mdX5_toldByHeavy plX5_toldByHeavy 0 (Nat.le_of_ble_eq_true rfl) rfl ?_) (fun _ _ h => h)
        intro zp2 zl2 ze2 zs2 zm2 zargs2 zbelow2 zmeth2 zc2 zD2 zad2 zac2 C2 hr2 hk2
        refine mr_aload_n C2 dX5_toldByHeavy_0 rfl (i := 0) rfl ?_
        refine mr_iconst (v := 2) C2 dX5_toldByHeavy_1 (by decide) ?_
        refine mr_callVV C2 mdX5_leaveTrace dX5_toldByHeavy_2 clX5_leaveTrace ml_X5_241 (Nat.le_of_ble_eq_true rfl) rfl rfl arX5_leaveTrace (as := [.int (2 : Int32)]) rfl (Nat.le_of_ble_eq_true rfl) (Nat.le_of_ble_eq_true rfl) (Nat.le_of_ble_eq_true rfl) fit0 (CallV_of mdX5_leaveTrace plX5_leaveTrace 0 (Nat.le_of_ble_eq_true rfl) rfl ?_) (fun _ h => h)
        intro zp3 zl3 ze3 zs3 zm3 zargs3 zbelow3 zmeth3 zc3 zD3 zad3 zac3 C3 hr3 hk3
        refine mr_aload_n C3 dX5_leaveTrace_0 rfl (i := 0) rfl ?_
        refine mr_bipush (v := 31) C3 dX5_leaveTrace_1 (by decide) ?_
        refine mr_aload_n C3 dX5_leaveTrace_3 rfl (i := 0) rfl ?_
        refine mr_getI C3 dX5_leaveTrace_4 fl_X5_48 (Nat.le_of_ble_eq_true rfl) rfl rfl ?_
        refine mr_imul C3 dX5_leaveTrace_7 ?_
        refine mr_iload_n C3 dX5_leaveTrace_8 rfl (i := 1) rfl ?_
        refine mr_iadd C3 dX5_leaveTrace_9 ?_
        refine mr_putI C3 dX5_leaveTrace_10 fl_X5_48 (Nat.le_of_ble_eq_true rfl) rfl rfl rfl rfl ?_
        refine mr_vret C3 hr3 hk3 dX5_leaveTrace_13 (qV_mk ?_)
        refine mr_aload_n C2 dX5_toldByHeavy_5 rfl (i := 0) rfl ?_
        refine mr_iload_n C2 dX5_toldByHeavy_6 rfl (i := 1) rfl ?_
        refine mr_callVI C2 mdX5_toldByMarble dX5_toldByHeavy_7 clX5_toldByMarble ml_X5_238 (Nat.le_of_ble_eq_true rfl) rfl rfl arX5_toldByMarble (as := [.int x1]) rfl (Nat.le_of_ble_eq_true rfl) (Nat.le_of_ble_eq_true rfl) (Nat.le_of_ble_eq_true rfl) fit0 (CallV_of mdX5_toldByMarble plX5_toldByMarble 0 (Nat.le_of_ble_eq_true rfl) rfl ?_) (fun _ _ h => h)
        intro zp4 zl4 ze4 zs4 zm4 zargs4 zbelow4 zmeth4 zc4 zD4 zad4 zac4 C4 hr4 hk4
        refine mr_aload_n C4 dX5_toldByMarble_0 rfl (i := 0) rfl ?_
        refine mr_iconst (v := 1) C4 dX5_toldByMarble_1 (by decide) ?_
        refine mr_callVV C4 mdX5_leaveTrace dX5_toldByMarble_2 clX5_leaveTrace ml_X5_241 (Nat.le_of_ble_eq_true rfl) rfl rfl arX5_leaveTrace (as := [.int (1 : Int32)]) rfl (Nat.le_of_ble_eq_true rfl) (Nat.le_of_ble_eq_true rfl) (Nat.le_of_ble_eq_true rfl) fit0 (CallV_of mdX5_leaveTrace plX5_leaveTrace 0 (Nat.le_of_ble_eq_true rfl) rfl ?_) (fun _ h => h)
        intro zp5 zl5 ze5 zs5 zm5 zargs5 zbelow5 zmeth5 zc5 zD5 zad5 zac5 C5 hr5 hk5
        refine mr_aload_n C5 dX5_leaveTrace_0 rfl (i := 0) rfl ?_
        refine mr_bipush (v := 31) C5 dX5_leaveTrace_1 (by decide) ?_
        refine mr_aload_n C5 dX5_leaveTrace_3 rfl (i := 0) rfl ?_
        refine mr_getI C5 dX5_leaveTrace_4 fl_X5_48 (Nat.le_of_ble_eq_true rfl) rfl rfl ?_
        refine mr_topI (y := (((31 : Int32) * (S.1 0 5)) + (2 : Int32))) (by first | rfl | simp [sI, sJ, sF, upd, vp_updL]) ?_
        refine mr_imul C5 dX5_leaveTrace_7 ?_
        refine mr_iload_n C5 dX5_leaveTrace_8 rfl (i := 1) rfl ?_
        refine mr_iadd C5 dX5_leaveTrace_9 ?_
        refine mr_putI C5 dX5_leaveTrace_10 fl_X5_48 (Nat.le_of_ble_eq_true rfl) rfl rfl rfl rfl ?_
        refine mr_vret C5 hr5 hk5 dX5_leaveTrace_13 (qV_mk ?_)
        refine mr_aload_n C4 dX5_toldByMarble_5 rfl (i := 0) rfl ?_
        refine mr_getR C4 dX5_toldByMarble_6 fl_X5_21 (Nat.le_of_ble_eq_true rfl) rfl rfl ?_
        refine mr_getR C4 dX5_toldByMarble_9 fl_X5_121 (Nat.le_of_ble_eq_true rfl) rfl rfl ?_
        refine mr_iload_n C4 dX5_toldByMarble_12 rfl (i := 1) rfl ?_
        have g5 := h.1
        have h := h.2
        refine mr_iald C4 dX5_toldByMarble_13 (Nat.le_of_ble_eq_true rfl) rfl g5 ?_
        refine mr_topI (y := (S.1 6 x1.toNatClampNeg)) (by first | rfl | simp [sI, sJ, sF, upd, vp_updL]) ?_
        refine mr_iret C4 hr4 hk4 dX5_toldByMarble_14 (qI_mk ?_)
        refine mr_bipush (v := 100) C2 dX5_toldByHeavy_10 (by decide) ?_
        refine mr_iadd C2 dX5_toldByHeavy_12 ?_
        refine mr_iret C2 hr2 hk2 dX5_toldByHeavy_13 (qI_mk ?_)
        refine mr_iret C0 hr0 hk0 dX5_tell_59 (qI_mk ?_)
        exact h
      · have h := h.2 c4
        by_cases c6 : (S.1 5 x1.toNatClampNeg) = (2 : Int32)
        · have h := h.1 c6
          refine mr_ls C0 dX5_tell_22 (by decide) (off := 26) (by rw [c6]; decide) (tgt := 48) (by decide) ?_
          refine mr_aload_n C0 dX5_tell_48 rfl (i := 0) rfl ?_
          refine mr_iload_n C0 dX5_tell_49 rfl (i := 1) rfl ?_
          refine mr_callVI C0 mdX5_toldByLead dX5_tell_50 clX5_toldByLead ml_X5_232 (Nat.le_of_ble_eq_true rfl) rfl rfl arX5_toldByLead (as := [.int x1]) rfl (Nat.le_of_ble_eq_true rfl) (Nat.le_of_ble_eq_true rfl) (Nat.le_of_ble_eq_true rfl) fit0 (CallV_of mdX5_toldByLead plX5_toldByLead 1 (Nat.le_of_ble_eq_true rfl) rfl ?_) (fun _ _ h => h)
          intro zp6 zl6 ze6 zs6 zm6 zargs6 zbelow6 zmeth6 zc6 zD6 zad6 zac6 C6 hr6 hk6
          refine mr_aload_n C6 dX5_toldByLead_0 rfl (i := 0) rfl ?_
          refine mr_iconst (v := 3) C6 dX5_toldByLead_1 (by decide) ?_
          refine mr_callVV C6 mdX5_leaveTrace dX5_toldByLead_2 clX5_leaveTrace ml_X5_241 (Nat.le_of_ble_eq_true rfl) rfl rfl arX5_leaveTrace (as := [.int (3 : Int32)]) rfl (Nat.le_of_ble_eq_true rfl) (Nat.le_of_ble_eq_true rfl) (Nat.le_of_ble_eq_true rfl) fit0 (CallV_of mdX5_leaveTrace plX5_leaveTrace 0 (Nat.le_of_ble_eq_true rfl) rfl ?_) (fun _ h => h)
          intro zp7 zl7 ze7 zs7 zm7 zargs7 zbelow7 zmeth7 zc7 zD7 zad7 zac7 C7 hr7 hk7
          refine mr_aload_n C7 dX5_leaveTrace_0 rfl (i := 0) rfl ?_
          refine mr_bipush (v := 31) C7 dX5_leaveTrace_1 (by decide) ?_
          refine mr_aload_n C7 dX5_leaveTrace_3 rfl (i := 0) rfl ?_
          refine mr_getI C7 dX5_leaveTrace_4 fl_X5_48 (Nat.le_of_ble_eq_true rfl) rfl rfl ?_
          refine mr_imul C7 dX5_leaveTrace_7 ?_
          refine mr_iload_n C7 dX5_leaveTrace_8 rfl (i := 1) rfl ?_
          refine mr_iadd C7 dX5_leaveTrace_9 ?_
          refine mr_putI C7 dX5_leaveTrace_10 fl_X5_48 (Nat.le_of_ble_eq_true rfl) rfl rfl rfl rfl ?_
          refine mr_vret C7 hr7 hk7 dX5_leaveTrace_13 (qV_mk ?_)
          refine mr_aload_n C6 dX5_toldByLead_5 rfl (i := 0) rfl ?_
          refine mr_iload_n C6 dX5_toldByLead_6 rfl (i := 1) rfl ?_
          refine mr_callVI C6 mdX5_toldByHeavy dX5_toldByLead_7 clX5_toldByHeavy ml_X5_235 (Nat.le_of_ble_eq_true rfl) rfl rfl arX5_toldByHeavy (as := [.int x1]) rfl (Nat.le_of_ble_eq_true rfl) (Nat.le_of_ble_eq_true rfl) (Nat.le_of_ble_eq_true rfl) fit0 (CallV_of mdX5_toldByHeavy plX5_toldByHeavy 0 (Nat.le_of_ble_eq_true rfl) rfl ?_) (fun _ _ h => h)
          intro zp8 zl8 ze8 zs8 zm8 zargs8 zbelow8 zmeth8 zc8 zD8 zad8 zac8 C8 hr8 hk8
          refine mr_aload_n C8 dX5_toldByHeavy_0 rfl (i := 0) rfl ?_
          refine mr_iconst (v := 2) C8 dX5_toldByHeavy_1 (by decide) ?_
          refine mr_callVV C8 mdX5_leaveTrace dX5_toldByHeavy_2 clX5_leaveTrace ml_X5_241 (Nat.le_of_ble_eq_true rfl) rfl rfl arX5_leaveTrace (as := [.int (2 : Int32)]) rfl (Nat.le_of_ble_eq_true rfl) (Nat.le_of_ble_eq_true rfl) (Nat.le_of_ble_eq_true rfl) fit0 (CallV_of mdX5_leaveTrace plX5_leaveTrace 0 (Nat.le_of_ble_eq_true rfl) rfl ?_) (fun _ h => h)
          intro zp9 zl9 ze9 zs9 zm9 zargs9 zbelow9 zmeth9 zc9 zD9 zad9 zac9 C9 hr9 hk9
          refine mr_aload_n C9 dX5_leaveTrace_0 rfl (i := 0) rfl ?_
          refine mr_bipush (v := 31) C9 dX5_leaveTrace_1 (by decide) ?_
          refine mr_aload_n C9 dX5_leaveTrace_3 rfl (i := 0) rfl ?_
          refine mr_getI C9 dX5_leaveTrace_4 fl_X5_48 (Nat.le_of_ble_eq_true rfl) rfl rfl ?_
          refine mr_topI (y := (((31 : Int32) * (S.1 0 5)) + (3 : Int32))) (by first | rfl | simp [sI, sJ, sF, upd, vp_updL]) ?_
          refine mr_imul C9 dX5_leaveTrace_7 ?_
          refine mr_iload_n C9 dX5_leaveTrace_8 rfl (i := 1) rfl ?_
          refine mr_iadd C9 dX5_leaveTrace_9 ?_
          refine mr_putI C9 dX5_leaveTrace_10 fl_X5_48 (Nat.le_of_ble_eq_true rfl) rfl rfl rfl rfl ?_
          refine mr_vret C9 hr9 hk9 dX5_leaveTrace_13 (qV_mk ?_)
          refine mr_aload_n C8 dX5_toldByHeavy_5 rfl (i := 0) rfl ?_
          refine mr_iload_n C8 dX5_toldByHeavy_6 rfl (i := 1) rfl ?_
          refine mr_callVI C8 mdX5_toldByMarble dX5_toldByHeavy_7 clX5_toldByMarble ml_X5_238 (Nat.le_of_ble_eq_true rfl) rfl rfl arX5_toldByMarble (as := [.int x1]) rfl (Nat.le_of_ble_eq_true rfl) (Nat.le_of_ble_eq_true rfl) (Nat.le_of_ble_eq_true rfl) fit0 (CallV_of mdX5_toldByMarble plX5_toldByMarble 0 (Nat.le_of_ble_eq_true rfl) rfl ?_) (fun _ _ h => h)
          intro zp10 zl10 ze10 zs10 zm10 zargs10 zbelow10 zmeth10 zc10 zD10 zad10 zac10 C10 hr10 hk10
          refine mr_aload_n C10 dX5_toldByMarble_0 rfl (i := 0) rfl ?_
          refine mr_iconst (v := 1) C10 dX5_toldByMarble_1 (by decide) ?_
          refine mr_callVV C10 mdX5_leaveTrace dX5_toldByMarble_2 clX5_leaveTrace ml_X5_241 (Nat.le_of_ble_eq_true rfl) rfl rfl arX5_leaveTrace (as := [.int (1 : Int32)]) rfl (Nat.le_of_ble_eq_true rfl) (Nat.le_of_ble_eq_true rfl) (Nat.le_of_ble_eq_true rfl) fit0 (CallV_of mdX5_leaveTrace plX5_leaveTrace 0 (Nat.le_of_ble_eq_true rfl) rfl ?_) (fun _ h => h)
          intro zp11 zl11 ze11 zs11 zm11 zargs11 zbelow11 zmeth11 zc11 zD11 zad11 zac11 C11 hr11 hk11
          refine mr_aload_n C11 dX5_leaveTrace_0 rfl (i := 0) rfl ?_
          refine mr_bipush (v := 31) C11 dX5_leaveTrace_1 (by decide) ?_
          refine mr_aload_n C11 dX5_leaveTrace_3 rfl (i := 0) rfl ?_
          refine mr_getI C11 dX5_leaveTrace_4 fl_X5_48 (Nat.le_of_ble_eq_true rfl) rfl rfl ?_
          refine mr_topI (y := (((31 : Int32) * (((31 : Int32) * (S.1 0 5)) + (3 : Int32))) + (2 : Int32))) (by first | rfl | simp [sI, sJ, sF, upd, vp_updL]) ?_
          refine mr_imul C11 dX5_leaveTrace_7 ?_
          refine mr_iload_n C11 dX5_leaveTrace_8 rfl (i := 1) rfl ?_
          refine mr_iadd C11 dX5_leaveTrace_9 ?_
          refine mr_putI C11 dX5_leaveTrace_10 fl_X5_48 (Nat.le_of_ble_eq_true rfl) rfl rfl rfl rfl ?_
          refine mr_vret C11 hr11 hk11 dX5_leaveTrace_13 (qV_mk ?_)
          refine mr_aload_n C10 dX5_toldByMarble_5 rfl (i := 0) rfl ?_
          refine mr_getR C10 dX5_toldByMarble_6 fl_X5_21 (Nat.le_of_ble_eq_true rfl) rfl rfl ?_
          refine mr_getR C10 dX5_toldByMarble_9 fl_X5_121 (Nat.le_of_ble_eq_true rfl) rfl rfl ?_
          refine mr_iload_n C10 dX5_toldByMarble_12 rfl (i := 1) rfl ?_
          have g7 := h.1
          have h := h.2
          refine mr_iald C10 dX5_toldByMarble_13 (Nat.le_of_ble_eq_true rfl) rfl g7 ?_
          refine mr_topI (y := (S.1 6 x1.toNatClampNeg)) (by first | rfl | simp [sI, sJ, sF, upd, vp_updL]) ?_
          refine mr_iret C10 hr10 hk10 dX5_toldByMarble_14 (qI_mk ?_)
          refine mr_bipush (v := 100) C8 dX5_toldByHeavy_10 (by decide) ?_
          refine mr_iadd C8 dX5_toldByHeavy_12 ?_
          refine mr_iret C8 hr8 hk8 dX5_toldByHeavy_13 (qI_mk ?_)
          refine mr_istore_n (L1 := [some (.ref 0), some (.int x1), some (.int ((S.1 6 x1.toNatClampNeg) + (100 : Int32)))]) C6 dX5_toldByLead_10 rfl (Nat.le_of_ble_eq_true rfl) rfl ?_
          refine mr_iload_n C6 dX5_toldByLead_11 rfl (i := 2) rfl ?_
          refine mr_aload_n C6 dX5_toldByLead_12 rfl (i := 0) rfl ?_
          refine mr_iload_n C6 dX5_toldByLead_13 rfl (i := 1) rfl ?_
          refine mr_callVI C6 mdX5_toldByMarble dX5_toldByLead_14 clX5_toldByMarble ml_X5_238 (Nat.le_of_ble_eq_true rfl) rfl rfl arX5_toldByMarble (as := [.int x1]) rfl (Nat.le_of_ble_eq_true rfl) (Nat.le_of_ble_eq_true rfl) (Nat.le_of_ble_eq_true rfl) fit0 (CallV_of mdX5_toldByMarble plX5_toldByMarble 0 (Nat.le_of_ble_eq_true rfl) rfl ?_) (fun _ _ h => h)
          intro zp12 zl12 ze12 zs12 zm12 zargs12 zbelow12 zmeth12 zc12 zD12 zad12 zac12 C12 hr12 hk12
          refine mr_aload_n C12 dX5_toldByMarble_0 rfl (i := 0) rfl ?_
          refine mr_iconst (v := 1) C12 dX5_toldByMarble_1 (by decide) ?_
          refine mr_callVV C12 mdX5_leaveTrace dX5_toldByMarble_2 clX5_leaveTrace ml_X5_241 (Nat.le_of_ble_eq_true rfl) rfl rfl arX5_leaveTrace (as := [.int (1 : Int32)]) rfl (Nat.le_of_ble_eq_true rfl) (Nat.le_of_ble_eq_true rfl) (Nat.le_of_ble_eq_true rfl) fit0 (CallV_of mdX5_leaveTrace plX5_leaveTrace 0 (Nat.le_of_ble_eq_true rfl) rfl ?_) (fun _ h => h)
          intro zp13 zl13 ze13 zs13 zm13 zargs13 zbelow13 zmeth13 zc13 zD13 zad13 zac13 C13 hr13 hk13
          refine mr_aload_n C13 dX5_leaveTrace_0 rfl (i := 0) rfl ?_
          refine mr_bipush (v := 31) C13 dX5_leaveTrace_1 (by decide) ?_
          refine mr_aload_n C13 dX5_leaveTrace_3 rfl (i := 0) rfl ?_
          refine mr_getI C13 dX5_leaveTrace_4 fl_X5_48 (Nat.le_of_ble_eq_true rfl) rfl rfl ?_
          refine mr_topI (y := (((31 : Int32) * (((31 : Int32) * (((31 : Int32) * (S.1 0 5)) + (3 : Int32))) + (2 : Int32))) + (1 : Int32))) (by first | rfl | simp [sI, sJ, sF, upd, vp_updL]) ?_
          refine mr_imul C13 dX5_leaveTrace_7 ?_
          refine mr_iload_n C13 dX5_leaveTrace_8 rfl (i := 1) rfl ?_
          refine mr_iadd C13 dX5_leaveTrace_9 ?_
          refine mr_putI C13 dX5_leaveTrace_10 fl_X5_48 (Nat.le_of_ble_eq_true rfl) rfl rfl rfl rfl ?_
          refine mr_vret C13 hr13 hk13 dX5_leaveTrace_13 (qV_mk ?_)
          refine mr_aload_n C12 dX5_toldByMarble_5 rfl (i := 0) rfl ?_
          refine mr_getR C12 dX5_toldByMarble_6 fl_X5_21 (Nat.le_of_ble_eq_true rfl) rfl rfl ?_
          refine mr_getR C12 dX5_toldByMarble_9 fl_X5_121 (Nat.le_of_ble_eq_true rfl) rfl rfl ?_
          refine mr_iload_n C12 dX5_toldByMarble_12 rfl (i := 1) rfl ?_
          have g8 := h.1
          have h := h.2
          refine mr_iald C12 dX5_toldByMarble_13 (Nat.le_of_ble_eq_true rfl) rfl g8 ?_
          refine mr_topI (y := (S.1 6 x1.toNatClampNeg)) (by first | rfl | simp [sI, sJ, sF, upd, vp_updL]) ?_
          refine mr_iret C12 hr12 hk12 dX5_toldByMarble_14 (qI_mk ?_)
          refine mr_iadd C6 dX5_toldByLead_17 ?_
          refine mr_iret C6 hr6 hk6 dX5_toldByLead_18 (qI_mk ?_)
          refine mr_iret C0 hr0 hk0 dX5_tell_53 (qI_mk ?_)
          exact h
        · have h := h.2 c6
          refine mr_ls C0 dX5_tell_22 (by decide) (off := 38) (by show Op.lookupswitch.offset [(1, 32), (2, 26)] 38 _ = _; rw [lv_osw c4 (show ((1 : Int32)).toInt = 1 by decide), lv_osw c6 (show ((2 : Int32)).toInt = 2 by decide)]; rfl) (tgt := 60) (by decide) ?_
          refine mr_aload_n C0 dX5_tell_60 rfl (i := 0) rfl ?_
          refine mr_iload_n C0 dX5_tell_61 rfl (i := 1) rfl ?_
          refine mr_callVI C0 mdX5_toldByMarble dX5_tell_62 clX5_toldByMarble ml_X5_238 (Nat.le_of_ble_eq_true rfl) rfl rfl arX5_toldByMarble (as := [.int x1]) rfl (Nat.le_of_ble_eq_true rfl) (Nat.le_of_ble_eq_true rfl) (Nat.le_of_ble_eq_true rfl) fit0 (CallV_of mdX5_toldByMarble plX5_toldByMarble 0 (Nat.le_of_ble_eq_true rfl) rfl ?_) (fun _ _ h => h)
          intro zp14 zl14 ze14 zs14 zm14 zargs14 zbelow14 zmeth14 zc14 zD14 zad14 zac14 C14 hr14 hk14
          refine mr_aload_n C14 dX5_toldByMarble_0 rfl (i := 0) rfl ?_
          refine mr_iconst (v := 1) C14 dX5_toldByMarble_1 (by decide) ?_
          refine mr_callVV C14 mdX5_leaveTrace dX5_toldByMarble_2 clX5_leaveTrace ml_X5_241 (Nat.le_of_ble_eq_true rfl) rfl rfl arX5_leaveTrace (as := [.int (1 : Int32)]) rfl (Nat.le_of_ble_eq_true rfl) (Nat.le_of_ble_eq_true rfl) (Nat.le_of_ble_eq_true rfl) fit0 (CallV_of mdX5_leaveTrace plX5_leaveTrace 0 (Nat.le_of_ble_eq_true rfl) rfl ?_) (fun _ h => h)
          intro zp15 zl15 ze15 zs15 zm15 zargs15 zbelow15 zmeth15 zc15 zD15 zad15 zac15 C15 hr15 hk15
          refine mr_aload_n C15 dX5_leaveTrace_0 rfl (i := 0) rfl ?_
          refine mr_bipush (v := 31) C15 dX5_leaveTrace_1 (by decide) ?_
          refine mr_aload_n C15 dX5_leaveTrace_3 rfl (i := 0) rfl ?_
          refine mr_getI C15 dX5_leaveTrace_4 fl_X5_48 (Nat.le_of_ble_eq_true rfl) rfl rfl ?_
          refine mr_imul C15 dX5_leaveTrace_7 ?_
          refine mr_iload_n C15 dX5_leaveTrace_8 rfl (i := 1) rfl ?_
          refine mr_iadd C15 dX5_leaveTrace_9 ?_
          refine mr_putI C15 dX5_leaveTrace_10 fl_X5_48 (Nat.le_of_ble_eq_true rfl) rfl rfl rfl rfl ?_
          refine mr_vret C15 hr15 hk15 dX5_leaveTrace_13 (qV_mk ?_)
          refine mr_aload_n C14 dX5_toldByMarble_5 rfl (i := 0) rfl ?_
          refine mr_getR C14 dX5_toldByMarble_6 fl_X5_21 (Nat.le_of_ble_eq_true rfl) rfl rfl ?_
          refine mr_getR C14 dX5_toldByMarble_9 fl_X5_121 (Nat.le_of_ble_eq_true rfl) rfl rfl ?_
          refine mr_iload_n C14 dX5_toldByMarble_12 rfl (i := 1) rfl ?_
          have g9 := h.1
          have h := h.2
          refine mr_iald C14 dX5_toldByMarble_13 (Nat.le_of_ble_eq_true rfl) rfl g9 ?_
          refine mr_topI (y := (S.1 6 x1.toNatClampNeg)) (by first | rfl | simp [sI, sJ, sF, upd, vp_updL]) ?_
          refine mr_iret C14 hr14 hk14 dX5_toldByMarble_14 (qI_mk ?_)
          refine mr_iret C0 hr0 hk0 dX5_tell_65 (qI_mk ?_)
          exact h
set_option maxRecDepth 100000 in
set_option maxHeartbeats 4000000 in
theorem eX5_toldByMarble (x1 : Int32) (S : St) (Q : Int32 → St → Prop) (h : (vp_in x1 8) ∧ Q (S.1 6 x1.toNatClampNeg) (sI S 0 5 (((31 : Int32) * (S.1 0 5)) + (1 : Int32)))) : CallV mdX5_toldByMarble [.ref 0, .int x1] S (qI Q) := by
  refine CallV_of mdX5_toldByMarble plX5_toldByMarble 0 (Nat.le_of_ble_eq_true rfl) rfl ?_
  intro zp0 zl0 ze0 zs0 zm0 zargs0 zbelow0 zmeth0 zc0 zD0 zad0 zac0 C0 hr0 hk0
  refine mr_aload_n C0 dX5_toldByMarble_0 rfl (i := 0) rfl ?_
  refine mr_iconst (v := 1) C0 dX5_toldByMarble_1 (by decide) ?_
  refine mr_callVV C0 mdX5_leaveTrace dX5_toldByMarble_2 clX5_leaveTrace ml_X5_241 (Nat.le_of_ble_eq_true rfl) rfl rfl arX5_leaveTrace (as := [.int (1 : Int32)]) rfl (Nat.le_of_ble_eq_true rfl) (Nat.le_of_ble_eq_true rfl) (Nat.le_of_ble_eq_true rfl) fit0 (CallV_of mdX5_leaveTrace plX5_leaveTrace 0 (Nat.le_of_ble_eq_true rfl) rfl ?_) (fun _ h => h)
  intro zp1 zl1 ze1 zs1 zm1 zargs1 zbelow1 zmeth1 zc1 zD1 zad1 zac1 C1 hr1 hk1
  refine mr_aload_n C1 dX5_leaveTrace_0 rfl (i := 0) rfl ?_
  refine mr_bipush (v := 31) C1 dX5_leaveTrace_1 (by decide) ?_
  refine mr_aload_n C1 dX5_leaveTrace_3 rfl (i := 0) rfl ?_
  refine mr_getI C1 dX5_leaveTrace_4 fl_X5_48 (Nat.le_of_ble_eq_true rfl) rfl rfl ?_
  refine mr_imul C1 dX5_leaveTrace_7 ?_
  refine mr_iload_n C1 dX5_leaveTrace_8 rfl (i := 1) rfl ?_
  refine mr_iadd C1 dX5_leaveTrace_9 ?_
  refine mr_putI C1 dX5_leaveTrace_10 fl_X5_48 (Nat.le_of_ble_eq_true rfl) rfl rfl rfl rfl ?_
  refine mr_vret C1 hr1 hk1 dX5_leaveTrace_13 (qV_mk ?_)
  refine mr_aload_n C0 dX5_toldByMarble_5 rfl (i := 0) rfl ?_
  refine mr_getR C0 dX5_toldByMarble_6 fl_X5_21 (Nat.le_of_ble_eq_true rfl) rfl rfl ?_
  refine mr_getR C0 dX5_toldByMarble_9 fl_X5_121 (Nat.le_of_ble_eq_true rfl) rfl rfl ?_
  refine mr_iload_n C0 dX5_toldByMarble_12 rfl (i := 1) rfl ?_
  have g1 := h.1
  have h := h.2
  refine mr_iald C0 dX5_toldByMarble_13 (Nat.le_of_ble_eq_true rfl) rfl g1 ?_
  refine mr_topI (y := (S.1 6 x1.toNatClampNeg)) (by first | rfl | simp [sI, sJ, sF, upd, vp_updL]) ?_
  refine mr_iret C0 hr0 hk0 dX5_toldByMarble_14 (qI_mk ?_)
  exact h
set_option maxRecDepth 100000 in
set_option maxHeartbeats 4000000 in
theorem eX5_toldByHeavy (x1 : Int32) (S : St) (Q : Int32 → St → Prop) (h : (vp_in x1 8) ∧ Q ((S.1 6 x1.toNatClampNeg) + (100 : Int32)) (sI (sI S 0 5 (((31 : Int32) * (S.1 0 5)) + (2 : Int32))) 0 5 (((31 : Int32) * (((31 : Int32) * (S.1 0 5)) + (2 : Int32))) + (1 : Int32)))) : CallV mdX5_toldByHeavy [.ref 0, .int x1] S (qI Q) := by
  refine CallV_of mdX5_toldByHeavy plX5_toldByHeavy 0 (Nat.le_of_ble_eq_true rfl) rfl ?_
  intro zp0 zl0 ze0 zs0 zm0 zargs0 zbelow0 zmeth0 zc0 zD0 zad0 zac0 C0 hr0 hk0
  refine mr_aload_n C0 dX5_toldByHeavy_0 rfl (i := 0) rfl ?_
  refine mr_iconst (v := 2) C0 dX5_toldByHeavy_1 (by decide) ?_
  refine mr_callVV C0 mdX5_leaveTrace dX5_toldByHeavy_2 clX5_leaveTrace ml_X5_241 (Nat.le_of_ble_eq_true rfl) rfl rfl arX5_leaveTrace (as := [.int (2 : Int32)]) rfl (Nat.le_of_ble_eq_true rfl) (Nat.le_of_ble_eq_true rfl) (Nat.le_of_ble_eq_true rfl) fit0 (CallV_of mdX5_leaveTrace plX5_leaveTrace 0 (Nat.le_of_ble_eq_true rfl) rfl ?_) (fun _ h => h)
  intro zp1 zl1 ze1 zs1 zm1 zargs1 zbelow1 zmeth1 zc1 zD1 zad1 zac1 C1 hr1 hk1
  refine mr_aload_n C1 dX5_leaveTrace_0 rfl (i := 0) rfl ?_
  refine mr_bipush (v := 31) C1 dX5_leaveTrace_1 (by decide) ?_
  refine mr_aload_n C1 dX5_leaveTrace_3 rfl (i := 0) rfl ?_
  refine mr_getI C1 dX5_leaveTrace_4 fl_X5_48 (Nat.le_of_ble_eq_true rfl) rfl rfl ?_
  refine mr_imul C1 dX5_leaveTrace_7 ?_
  refine mr_iload_n C1 dX5_leaveTrace_8 rfl (i := 1) rfl ?_
  refine mr_iadd C1 dX5_leaveTrace_9 ?_
  refine mr_putI C1 dX5_leaveTrace_10 fl_X5_48 (Nat.le_of_ble_eq_true rfl) rfl rfl rfl rfl ?_
  refine mr_vret C1 hr1 hk1 dX5_leaveTrace_13 (qV_mk ?_)
  refine mr_aload_n C0 dX5_toldByHeavy_5 rfl (i := 0) rfl ?_
  refine mr_iload_n C0 dX5_toldByHeavy_6 rfl (i := 1) rfl ?_
  refine mr_callVI C0 mdX5_toldByMarble dX5_toldByHeavy_7 clX5_toldByMarble ml_X5_238 (Nat.le_of_ble_eq_true rfl) rfl rfl arX5_toldByMarble (as := [.int x1]) rfl (Nat.le_of_ble_eq_true rfl) (Nat.le_of_ble_eq_true rfl) (Nat.le_of_ble_eq_true rfl) fit0 (CallV_of mdX5_toldByMarble plX5_toldByMarble 0 (Nat.le_of_ble_eq_true rfl) rfl ?_) (fun _ _ h => h)
  intro zp2 zl2 ze2 zs2 zm2 zargs2 zbelow2 zmeth2 zc2 zD2 zad2 zac2 C2 hr2 hk2
  refine mr_aload_n C2 dX5_toldByMarble_0 rfl (i := 0) rfl ?_
  refine mr_iconst (v := 1) C2 dX5_toldByMarble_1 (by decide) ?_
  refine mr_callVV C2 mdX5_leaveTrace dX5_toldByMarble_2 clX5_leaveTrace ml_X5_241 (Nat.le_of_ble_eq_true rfl) rfl rfl arX5_leaveTrace (as := [.int (1 : Int32)]) rfl (Nat.le_of_ble_eq_true rfl) (Nat.le_of_ble_eq_true rfl) (Nat.le_of_ble_eq_true rfl) fit0 (CallV_of mdX5_leaveTrace plX5_leaveTrace 0 (Nat.le_of_ble_eq_true rfl) rfl ?_) (fun _ h => h)
  intro zp3 zl3 ze3 zs3 zm3 zargs3 zbelow3 zmeth3 zc3 zD3 zad3 zac3 C3 hr3 hk3
  refine mr_aload_n C3 dX5_leaveTrace_0 rfl (i := 0) rfl ?_
  refine mr_bipush (v := 31) C3 dX5_leaveTrace_1 (by decide) ?_
  refine mr_aload_n C3 dX5_leaveTrace_3 rfl (i := 0) rfl ?_
  refine mr_getI C3 dX5_leaveTrace_4 fl_X5_48 (Nat.le_of_ble_eq_true rfl) rfl rfl ?_
  refine mr_topI (y := (((31 : Int32) * (S.1 0 5)) + (2 : Int32))) (by first | rfl | simp [sI, sJ, sF, upd, vp_updL]) ?_
  refine mr_imul C3 dX5_leaveTrace_7 ?_
  refine mr_iload_n C3 dX5_leaveTrace_8 rfl (i := 1) rfl ?_
  refine mr_iadd C3 dX5_leaveTrace_9 ?_
  refine mr_putI C3 dX5_leaveTrace_10 fl_X5_48 (Nat.le_of_ble_eq_true rfl) rfl rfl rfl rfl ?_
  refine mr_vret C3 hr3 hk3 dX5_leaveTrace_13 (qV_mk ?_)
  refine mr_aload_n C2 dX5_toldByMarble_5 rfl (i := 0) rfl ?_
  refine mr_getR C2 dX5_toldByMarble_6 fl_X5_21 (Nat.le_of_ble_eq_true rfl) rfl rfl ?_
  refine mr_getR C2 dX5_toldByMarble_9 fl_X5_121 (Nat.le_of_ble_eq_true rfl) rfl rfl ?_
  refine mr_iload_n C2 dX5_toldByMarble_12 rfl (i := 1) rfl ?_
  have g1 := h.1
  have h := h.2
  refine mr_iald C2 dX5_toldByMarble_13 (Nat.le_of_ble_eq_true rfl) rfl g1 ?_
  refine mr_topI (y := (S.1 6 x1.toNatClampNeg)) (by first | rfl | simp [sI, sJ, sF, upd, vp_updL]) ?_
  refine mr_iret C2 hr2 hk2 dX5_toldByMarble_14 (qI_mk ?_)
  refine mr_bipush (v := 100) C0 dX5_toldByHeavy_10 (by decide) ?_
  refine mr_iadd C0 dX5_toldByHeavy_12 ?_
  refine mr_iret C0 hr0 hk0 dX5_toldByHeavy_13 (qI_mk ?_)
  exact h
set_option maxRecDepth 100000 in
set_option maxHeartbeats 4000000 in
theorem eX5_toldByLead (x1 : Int32) (S : St) (Q : Int32 → St → Prop) (h : (vp_in x1 8) ∧ (vp_in x1 8) ∧ Q (((S.1 6 x1.toNatClampNeg) + (100 : Int32)) + (S.1 6 x1.toNatClampNeg)) (sI (sI (sI (sI S 0 5 (((31 : Int32) * (S.1 0 5)) + (3 : Int32))) 0 5 (((31 : Int32) * (((31 : Int32) * (S.1 0 5)) + (3 : Int32))) + (2 : Int32))) 0 5 (((31 : Int32) * (((31 : Int32) * (((31 : Int32) * (S.1 0 5)) + (3 : Int32))) + (2 : Int32))) + (1 : Int32))) 0 5 (((31 : Int32) * (((31 : Int32) * (((31 : Int32) * (((31 : Int32) * (S.1 0 5)) + (3 : Int32))) + (2 : Int32))) + (1 : Int32))) + (1 : Int32)))) : CallV mdX5_toldByLead [.ref 0, .int x1] S (qI Q) := by
  refine CallV_of mdX5_toldByLead plX5_toldByLead 1 (Nat.le_of_ble_eq_true rfl) rfl ?_
  intro zp0 zl0 ze0 zs0 zm0 zargs0 zbelow0 zmeth0 zc0 zD0 zad0 zac0 C0 hr0 hk0
  refine mr_aload_n C0 dX5_toldByLead_0 rfl (i := 0) rfl ?_
  refine mr_iconst (v := 3) C0 dX5_toldByLead_1 (by decide) ?_
  refine mr_callVV C0 mdX5_leaveTrace dX5_toldByLead_2 clX5_leaveTrace ml_X5_241 (Nat.le_of_ble_eq_true rfl) rfl rfl arX5_leaveTrace (as := [.int (3 : Int32)]) rfl (Nat.le_of_ble_eq_true rfl) (Nat.le_of_ble_eq_true rfl) (Nat.le_of_ble_eq_true rfl) fit0 (CallV_of mdX5_leaveTrace plX5_leaveTrace 0 (Nat.le_of_ble_eq_true rfl) rfl ?_) (fun _ h => h)
  intro zp1 zl1 ze1 zs1 zm1 zargs1 zbelow1 zmeth1 zc1 zD1 zad1 zac1 C1 hr1 hk1
  refine mr_aload_n C1 dX5_leaveTrace_0 rfl (i := 0) rfl ?_
  refine mr_bipush (v := 31) C1 dX5_leaveTrace_1 (by decide) ?_
  refine mr_aload_n C1 dX5_leaveTrace_3 rfl (i := 0) rfl ?_
  refine mr_getI C1 dX5_leaveTrace_4 fl_X5_48 (Nat.le_of_ble_eq_true rfl) rfl rfl ?_
  refine mr_imul C1 dX5_leaveTrace_7 ?_
  refine mr_iload_n C1 dX5_leaveTrace_8 rfl (i := 1) rfl ?_
  refine mr_iadd C1 dX5_leaveTrace_9 ?_
  refine mr_putI C1 dX5_leaveTrace_10 fl_X5_48 (Nat.le_of_ble_eq_true rfl) rfl rfl rfl rfl ?_
  refine mr_vret C1 hr1 hk1 dX5_leaveTrace_13 (qV_mk ?_)
  refine mr_aload_n C0 dX5_toldByLead_5 rfl (i := 0) rfl ?_
  refine mr_iload_n C0 dX5_toldByLead_6 rfl (i := 1) rfl ?_
  refine mr_callVI C0 mdX5_toldByHeavy dX5_toldByLead_7 clX5_toldByHeavy ml_X5_235 (Nat.le_of_ble_eq_true rfl) rfl rfl arX5_toldByHeavy (as := [.int x1]) rfl (Nat.le_of_ble_eq_true rfl) (Nat.le_of_ble_eq_true rfl) (Nat.le_of_ble_eq_true rfl) fit0 (CallV_of mdX5_toldByHeavy plX5_toldByHeavy 0 (Nat.le_of_ble_eq_true rfl) rfl ?_) (fun _ _ h => h)
  intro zp2 zl2 ze2 zs2 zm2 zargs2 zbelow2 zmeth2 zc2 zD2 zad2 zac2 C2 hr2 hk2
  refine mr_aload_n C2 dX5_toldByHeavy_0 rfl (i := 0) rfl ?_
  refine mr_iconst (v := 2) C2 dX5_toldByHeavy_1 (by decide) ?_
  refine mr_callVV C2 mdX5_leaveTrace dX5_toldByHeavy_2 clX5_leaveTrace ml_X5_241 (Nat.le_of_ble_eq_true rfl) rfl rfl arX5_leaveTrace (as := [.int (2 : Int32)]) rfl (Nat.le_of_ble_eq_true rfl) (Nat.le_of_ble_eq_true rfl) (Nat.le_of_ble_eq_true rfl) fit0 (CallV_of mdX5_leaveTrace plX5_leaveTrace 0 (Nat.le_of_ble_eq_true rfl) rfl ?_) (fun _ h => h)
  intro zp3 zl3 ze3 zs3 zm3 zargs3 zbelow3 zmeth3 zc3 zD3 zad3 zac3 C3 hr3 hk3
  refine mr_aload_n C3 dX5_leaveTrace_0 rfl (i := 0) rfl ?_
  refine mr_bipush (v := 31) C3 dX5_leaveTrace_1 (by decide) ?_
  refine mr_aload_n C3 dX5_leaveTrace_3 rfl (i := 0) rfl ?_
  refine mr_getI C3 dX5_leaveTrace_4 fl_X5_48 (Nat.le_of_ble_eq_true rfl) rfl rfl ?_
  refine mr_topI (y := (((31 : Int32) * (S.1 0 5)) + (3 : Int32))) (by first | rfl | simp [sI, sJ, sF, upd, vp_updL]) ?_
  refine mr_imul C3 dX5_leaveTrace_7 ?_
  refine mr_iload_n C3 dX5_leaveTrace_8 rfl (i := 1) rfl ?_
  refine mr_iadd C3 dX5_leaveTrace_9 ?_
  refine mr_putI C3 dX5_leaveTrace_10 fl_X5_48 (Nat.le_of_ble_eq_true rfl) rfl rfl rfl rfl ?_
  refine mr_vret C3 hr3 hk3 dX5_leaveTrace_13 (qV_mk ?_)
  refine mr_aload_n C2 dX5_toldByHeavy_5 rfl (i := 0) rfl ?_
  refine mr_iload_n C2 dX5_toldByHeavy_6 rfl (i := 1) rfl ?_
  refine mr_callVI C2 mdX5_toldByMarble dX5_toldByHeavy_7 clX5_toldByMarble ml_X5_238 (Nat.le_of_ble_eq_true rfl) rfl rfl arX5_toldByMarble (as := [.int x1]) rfl (Nat.le_of_ble_eq_true rfl) (Nat.le_of_ble_eq_true rfl) (Nat.le_of_ble_eq_true rfl) fit0 (CallV_of mdX5_toldByMarble plX5_toldByMarble 0 (Nat.le_of_ble_eq_true rfl) rfl ?_) (fun _ _ h => h)
  intro zp4 zl4 ze4 zs4 zm4 zargs4 zbelow4 zmeth4 zc4 zD4 zad4 zac4 C4 hr4 hk4
  refine mr_aload_n C4 dX5_toldByMarble_0 rfl (i := 0) rfl ?_
  refine mr_iconst (v := 1) C4 dX5_toldByMarble_1 (by decide) ?_
  refine mr_callVV C4 mdX5_leaveTrace dX5_toldByMarble_2 clX5_leaveTrace ml_X5_241 (Nat.le_of_ble_eq_true rfl) rfl rfl arX5_leaveTrace (as := [.int (1 : Int32)]) rfl (Nat.le_of_ble_eq_true rfl) (Nat.le_of_ble_eq_true rfl) (Nat.le_of_ble_eq_true rfl) fit0 (CallV_of mdX5_leaveTrace plX5_leaveTrace 0 (Nat.le_of_ble_eq_true rfl) rfl ?_) (fun _ h => h)
  intro zp5 zl5 ze5 zs5 zm5 zargs5 zbelow5 zmeth5 zc5 zD5 zad5 zac5 C5 hr5 hk5
  refine mr_aload_n C5 dX5_leaveTrace_0 rfl (i := 0) rfl ?_
  refine mr_bipush (v := 31) C5 dX5_leaveTrace_1 (by decide) ?_
  refine mr_aload_n C5 dX5_leaveTrace_3 rfl (i := 0) rfl ?_
  refine mr_getI C5 dX5_leaveTrace_4 fl_X5_48 (Nat.le_of_ble_eq_true rfl) rfl rfl ?_
  refine mr_topI (y := (((31 : Int32) * (((31 : Int32) * (S.1 0 5)) + (3 : Int32))) + (2 : Int32))) (by first | rfl | simp [sI, sJ, sF, upd, vp_updL]) ?_
  refine mr_imul C5 dX5_leaveTrace_7 ?_
  refine mr_iload_n C5 dX5_leaveTrace_8 rfl (i := 1) rfl ?_
  refine mr_iadd C5 dX5_leaveTrace_9 ?_
  refine mr_putI C5 dX5_leaveTrace_10 fl_X5_48 (Nat.le_of_ble_eq_true rfl) rfl rfl rfl rfl ?_
  refine mr_vret C5 hr5 hk5 dX5_leaveTrace_13 (qV_mk ?_)
  refine mr_aload_n C4 dX5_toldByMarble_5 rfl (i := 0) rfl ?_
  refine mr_getR C4 dX5_toldByMarble_6 fl_X5_21 (Nat.le_of_ble_eq_true rfl) rfl rfl ?_
  refine mr_getR C4 dX5_toldByMarble_9 fl_X5_121 (Nat.le_of_ble_eq_true rfl) rfl rfl ?_
  refine mr_iload_n C4 dX5_toldByMarble_12 rfl (i := 1) rfl ?_
  have g1 := h.1
  have h := h.2
  refine mr_iald C4 dX5_toldByMarble_13 (Nat.le_of_ble_eq_true rfl) rfl g1 ?_
  refine mr_topI (y := (S.1 6 x1.toNatClampNeg)) (by first | rfl | simp [sI, sJ, sF, upd, vp_updL]) ?_
  refine mr_iret C4 hr4 hk4 dX5_toldByMarble_14 (qI_mk ?_)
  refine mr_bipush (v := 100) C2 dX5_toldByHeavy_10 (by decide) ?_
  refine mr_iadd C2 dX5_toldByHeavy_12 ?_
  refine mr_iret C2 hr2 hk2 dX5_toldByHeavy_13 (qI_mk ?_)
  refine mr_istore_n (L1 := [some (.ref 0), some (.int x1), some (.int ((S.1 6 x1.toNatClampNeg) + (100 : Int32)))]) C0 dX5_toldByLead_10 rfl (Nat.le_of_ble_eq_true rfl) rfl ?_
  refine mr_iload_n C0 dX5_toldByLead_11 rfl (i := 2) rfl ?_
  refine mr_aload_n C0 dX5_toldByLead_12 rfl (i := 0) rfl ?_
  refine mr_iload_n C0 dX5_toldByLead_13 rfl (i := 1) rfl ?_
  refine mr_callVI C0 mdX5_toldByMarble dX5_toldByLead_14 clX5_toldByMarble ml_X5_238 (Nat.le_of_ble_eq_true rfl) rfl rfl arX5_toldByMarble (as := [.int x1]) rfl (Nat.le_of_ble_eq_true rfl) (Nat.le_of_ble_eq_true rfl) (Nat.le_of_ble_eq_true rfl) fit0 (CallV_of mdX5_toldByMarble plX5_toldByMarble 0 (Nat.le_of_ble_eq_true rfl) rfl ?_) (fun _ _ h => h)
  intro zp6 zl6 ze6 zs6 zm6 zargs6 zbelow6 zmeth6 zc6 zD6 zad6 zac6 C6 hr6 hk6
  refine mr_aload_n C6 dX5_toldByMarble_0 rfl (i := 0) rfl ?_
  refine mr_iconst (v := 1) C6 dX5_toldByMarble_1 (by decide) ?_
  refine mr_callVV C6 mdX5_leaveTrace dX5_toldByMarble_2 clX5_leaveTrace ml_X5_241 (Nat.le_of_ble_eq_true rfl) rfl rfl arX5_leaveTrace (as := [.int (1 : Int32)]) rfl (Nat.le_of_ble_eq_true rfl) (Nat.le_of_ble_eq_true rfl) (Nat.le_of_ble_eq_true rfl) fit0 (CallV_of mdX5_leaveTrace plX5_leaveTrace 0 (Nat.le_of_ble_eq_true rfl) rfl ?_) (fun _ h => h)
  intro zp7 zl7 ze7 zs7 zm7 zargs7 zbelow7 zmeth7 zc7 zD7 zad7 zac7 C7 hr7 hk7
  refine mr_aload_n C7 dX5_leaveTrace_0 rfl (i := 0) rfl ?_
  refine mr_bipush (v := 31) C7 dX5_leaveTrace_1 (by decide) ?_
  refine mr_aload_n C7 dX5_leaveTrace_3 rfl (i := 0) rfl ?_
  refine mr_getI C7 dX5_leaveTrace_4 fl_X5_48 (Nat.le_of_ble_eq_true rfl) rfl rfl ?_
  refine mr_topI (y := (((31 : Int32) * (((31 : Int32) * (((31 : Int32) * (S.1 0 5)) + (3 : Int32))) + (2 : Int32))) + (1 : Int32))) (by first | rfl | simp [sI, sJ, sF, upd, vp_updL]) ?_
  refine mr_imul C7 dX5_leaveTrace_7 ?_
  refine mr_iload_n C7 dX5_leaveTrace_8 rfl (i := 1) rfl ?_
  refine mr_iadd C7 dX5_leaveTrace_9 ?_
  refine mr_putI C7 dX5_leaveTrace_10 fl_X5_48 (Nat.le_of_ble_eq_true rfl) rfl rfl rfl rfl ?_
  refine mr_vret C7 hr7 hk7 dX5_leaveTrace_13 (qV_mk ?_)
  refine mr_aload_n C6 dX5_toldByMarble_5 rfl (i := 0) rfl ?_
  refine mr_getR C6 dX5_toldByMarble_6 fl_X5_21 (Nat.le_of_ble_eq_true rfl) rfl rfl ?_
  refine mr_getR C6 dX5_toldByMarble_9 fl_X5_121 (Nat.le_of_ble_eq_true rfl) rfl rfl ?_
  refine mr_iload_n C6 dX5_toldByMarble_12 rfl (i := 1) rfl ?_
  have g2 := h.1
  have h := h.2
  refine mr_iald C6 dX5_toldByMarble_13 (Nat.le_of_ble_eq_true rfl) rfl g2 ?_
  refine mr_topI (y := (S.1 6 x1.toNatClampNeg)) (by first | rfl | simp [sI, sJ, sF, upd, vp_updL]) ?_
  refine mr_iret C6 hr6 hk6 dX5_toldByMarble_14 (qI_mk ?_)
  refine mr_iadd C0 dX5_toldByLead_17 ?_
  refine mr_iret C0 hr0 hk0 dX5_toldByLead_18 (qI_mk ?_)
  exact h
set_option maxRecDepth 100000 in
set_option maxHeartbeats 4000000 in
theorem eX5_weigh (x1 : Int32) (S : St) (Q : Int32 → St → Prop) (h : ((x1 < 0 → Q (-1 : Int32) S) ∧ (¬ x1 < 0 → (((S.1 4 2) ≤ x1 → Q (-1 : Int32) S) ∧ (¬ (S.1 4 2) ≤ x1 → (vp_in x1 8) ∧ ((¬ (S.1 5 x1.toNatClampNeg) = (2 : Int32) → Q x1 (sI S 0 5 (((31 : Int32) * (S.1 0 5)) + (4 : Int32)))) ∧ ((S.1 5 x1.toNatClampNeg) = (2 : Int32) → Q (60 : Int32) (sI S 0 5 (((31 : Int32) * (S.1 0 5)) + (5 : Int32)))))))))) : CallV mdX5_weigh [.ref 0, .int x1] S (qI Q) := by
  refine CallV_of mdX5_weigh plX5_weigh 0 (Nat.le_of_ble_eq_true rfl) rfl ?_
  intro zp0 zl0 ze0 zs0 zm0 zargs0 zbelow0 zmeth0 zc0 zD0 zad0 zac0 C0 hr0 hk0
  refine mr_aload_n C0 dX5_weigh_0 rfl (i := 0) rfl ?_
  refine mr_getR C0 dX5_weigh_1 fl_X5_21 (Nat.le_of_ble_eq_true rfl) rfl rfl ?_
  refine mr_iload_n C0 dX5_weigh_4 rfl (i := 1) rfl ?_
  refine mr_callVI C0 mdX4_has dX5_weigh_5 clX4_has ml_X5_115 (Nat.le_of_ble_eq_true rfl) rfl rfl arX4_has (as := [.int x1]) rfl (Nat.le_of_ble_eq_true rfl) (Nat.le_of_ble_eq_true rfl) (Nat.le_of_ble_eq_true rfl) fit0 (CallV_of mdX4_has plX4_has 0 (Nat.le_of_ble_eq_true rfl) rfl ?_) (fun _ _ h => h)
  intro zp1 zl1 ze1 zs1 zm1 zargs1 zbelow1 zmeth1 zc1 zD1 zad1 zac1 C1 hr1 hk1
  refine mr_iload_n C1 dX4_has_0 rfl (i := 1) rfl ?_
  refine mr_if_lt C1 dX4_has_1 (tgt := 16) (by decide) (fun c1 => ?_) (fun c1 => ?_)
  · have h := h.1 c1
    refine mr_iconst (v := 0) C1 dX4_has_16 (by decide) ?_
    refine mr_zret C1 hr1 hk1 dX4_has_17 rfl (qI_mk ?_)
    refine mr_if_ne C0 dX5_weigh_8 (tgt := 13) (by decide) (fun q => absurd q (by decide)) (fun _ => ?_)
    refine mr_iconst (v := (-1)) C0 dX5_weigh_11 (by decide) ?_
    refine mr_iret C0 hr0 hk0 dX5_weigh_12 (qI_mk ?_)
    exact h
  · have h := h.2 c1
    refine mr_iload_n C1 dX4_has_4 rfl (i := 1) rfl ?_
    refine mr_aload_n C1 dX4_has_5 rfl (i := 0) rfl ?_
    refine mr_getI C1 dX4_has_6 fl_X4_18 (Nat.le_of_ble_eq_true rfl) rfl rfl ?_
    refine mr_icmp_ge C1 dX4_has_9 (tgt := 16) (by decide) (fun c2 => ?_) (fun c2 => ?_)
    · have h := h.1 c2
      refine mr_iconst (v := 0) C1 dX4_has_16 (by decide) ?_
      refine mr_zret C1 hr1 hk1 dX4_has_17 rfl (qI_mk ?_)
      refine mr_if_ne C0 dX5_weigh_8 (tgt := 13) (by decide) (fun q => absurd q (by decide)) (fun _ => ?_)
      refine mr_iconst (v := (-1)) C0 dX5_weigh_11 (by decide) ?_
      refine mr_iret C0 hr0 hk0 dX5_weigh_12 (qI_mk ?_)
      exact h
    · have h := h.2 c2
      refine mr_iconst (v := 1) C1 dX4_has_12 (by decide) ?_
      refine mr_goto C1 dX4_has_13 (tgt := 17) (by decide) ?_
      refine mr_zret C1 hr1 hk1 dX4_has_17 rfl (qI_mk ?_)
      refine mr_if_ne C0 dX5_weigh_8 (tgt := 13) (by decide) (fun _ => ?_) (fun q => absurd q (by decide))
      refine mr_aload_n C0 dX5_weigh_13 rfl (i := 0) rfl ?_
      refine mr_getR C0 dX5_weigh_14 fl_X5_21 (Nat.le_of_ble_eq_true rfl) rfl rfl ?_
      refine mr_getR C0 dX5_weigh_17 fl_X5_118 (Nat.le_of_ble_eq_true rfl) rfl rfl ?_
      refine mr_iload_n C0 dX5_weigh_20 rfl (i := 1) rfl ?_
      have g3 := h.1
      have h := h.2
      refine mr_iald C0 dX5_weigh_21 (Nat.le_of_ble_eq_true rfl) rfl g3 ?_
      refine mr_iconst (v := 2) C0 dX5_weigh_22 (by decide) ?_
      refine mr_icmp_ne C0 dX5_weigh_23 (tgt := 34) (by decide) (fun c4 => ?_) (fun c4 => ?_)
      · have h := h.1 c4
        refine mr_aload_n C0 dX5_weigh_34 rfl (i := 0) rfl ?_
        refine mr_iconst (v := 4) C0 dX5_weigh_35 (by decide) ?_
        refine mr_callVV C0 mdX5_leaveTrace dX5_weigh_36 clX5_leaveTrace ml_X5_241 (Nat.le_of_ble_eq_true rfl) rfl rfl arX5_leaveTrace (as := [.int (4 : Int32)]) rfl (Nat.le_of_ble_eq_true rfl) (Nat.le_of_ble_eq_true rfl) (Nat.le_of_ble_eq_true rfl) fit0 (CallV_of mdX5_leaveTrace plX5_leaveTrace 0 (Nat.le_of_ble_eq_true rfl) rfl ?_) (fun _ h => h)
        intro zp2 zl2 ze2 zs2 zm2 zargs2 zbelow2 zmeth2 zc2 zD2 zad2 zac2 C2 hr2 hk2
        refine mr_aload_n C2 dX5_leaveTrace_0 rfl (i := 0) rfl ?_
        refine mr_bipush (v := 31) C2 dX5_leaveTrace_1 (by decide) ?_
        refine mr_aload_n C2 dX5_leaveTrace_3 rfl (i := 0) rfl ?_
        refine mr_getI C2 dX5_leaveTrace_4 fl_X5_48 (Nat.le_of_ble_eq_true rfl) rfl rfl ?_
        refine mr_imul C2 dX5_leaveTrace_7 ?_
        refine mr_iload_n C2 dX5_leaveTrace_8 rfl (i := 1) rfl ?_
        refine mr_iadd C2 dX5_leaveTrace_9 ?_
        refine mr_putI C2 dX5_leaveTrace_10 fl_X5_48 (Nat.le_of_ble_eq_true rfl) rfl rfl rfl rfl ?_
        refine mr_vret C2 hr2 hk2 dX5_leaveTrace_13 (qV_mk ?_)
        refine mr_iload_n C0 dX5_weigh_39 rfl (i := 1) rfl ?_
        refine mr_iret C0 hr0 hk0 dX5_weigh_40 (qI_mk ?_)
        exact h
      · have h := h.2 c4
        refine mr_aload_n C0 dX5_weigh_26 rfl (i := 0) rfl ?_
        refine mr_iconst (v := 5) C0 dX5_weigh_27 (by decide) ?_
        refine mr_callVV C0 mdX5_leaveTrace dX5_weigh_28 clX5_leaveTrace ml_X5_241 (Nat.le_of_ble_eq_true rfl) rfl rfl arX5_leaveTrace (as := [.int (5 : Int32)]) rfl (Nat.le_of_ble_eq_true rfl) (Nat.le_of_ble_eq_true rfl) (Nat.le_of_ble_eq_true rfl) fit0 (CallV_of mdX5_leaveTrace plX5_leaveTrace 0 (Nat.le_of_ble_eq_true rfl) rfl ?_) (fun _ h => h)
        intro zp3 zl3 ze3 zs3 zm3 zargs3 zbelow3 zmeth3 zc3 zD3 zad3 zac3 C3 hr3 hk3
        refine mr_aload_n C3 dX5_leaveTrace_0 rfl (i := 0) rfl ?_
        refine mr_bipush (v := 31) C3 dX5_leaveTrace_1 (by decide) ?_
        refine mr_aload_n C3 dX5_leaveTrace_3 rfl (i := 0) rfl ?_
        refine mr_getI C3 dX5_leaveTrace_4 fl_X5_48 (Nat.le_of_ble_eq_true rfl) rfl rfl ?_
        refine mr_imul C3 dX5_leaveTrace_7 ?_
        refine mr_iload_n C3 dX5_leaveTrace_8 rfl (i := 1) rfl ?_
        refine mr_iadd C3 dX5_leaveTrace_9 ?_
        refine mr_putI C3 dX5_leaveTrace_10 fl_X5_48 (Nat.le_of_ble_eq_true rfl) rfl rfl rfl rfl ?_
        refine mr_vret C3 hr3 hk3 dX5_leaveTrace_13 (qV_mk ?_)
        refine mr_bipush (v := 60) C0 dX5_weigh_31 (by decide) ?_
        refine mr_iret C0 hr0 hk0 dX5_weigh_33 (qI_mk ?_)
        exact h
set_option maxRecDepth 100000 in
set_option maxHeartbeats 4000000 in
theorem eX5_as (x1 : Int32) (x2 : Int32) (S : St) (Q : Int32 → St → Prop) (h : ((x1 < 0 → Q (-1 : Int32) (sI S 0 6 (0 : Int32))) ∧ (¬ x1 < 0 → (((S.1 4 2) ≤ x1 → Q (-1 : Int32) (sI S 0 6 (0 : Int32))) ∧ (¬ (S.1 4 2) ≤ x1 → ((x2 < 0 → Q (-2 : Int32) (sI S 0 6 (0 : Int32))) ∧ (¬ x2 < 0 → (((3 : Int32) ≤ x2 → Q (-2 : Int32) (sI S 0 6 (0 : Int32))) ∧ (¬ (3 : Int32) ≤ x2 → (vp_in x1 8) ∧ (((S.1 5 x1.toNatClampNeg) < x2 → Q (-12 : Int32) (sI (sI S 0 6 (0 : Int32)) 0 6 (2 : Int32))) ∧ (¬ (S.1 5 x1.toNatClampNeg) < x2 → Q (1 : Int32) (sI S 0 6 (0 : Int32))))))))))))) : CallV mdX5_as [.ref 0, .int x1, .int x2] S (qI Q) := by
  refine CallV_of mdX5_as plX5_as 0 (Nat.le_of_ble_eq_true rfl) rfl ?_
  intro zp0 zl0 ze0 zs0 zm0 zargs0 zbelow0 zmeth0 zc0 zD0 zad0 zac0 C0 hr0 hk0
  refine mr_aload_n C0 dX5_as_0 rfl (i := 0) rfl ?_
  refine mr_iconst (v := 0) C0 dX5_as_1 (by decide) ?_
  refine mr_putI C0 dX5_as_2 fl_X5_52 (Nat.le_of_ble_eq_true rfl) rfl rfl rfl rfl ?_
  refine mr_aload_n C0 dX5_as_5 rfl (i := 0) rfl ?_
  refine mr_getR C0 dX5_as_6 fl_X5_21 (Nat.le_of_ble_eq_true rfl) rfl rfl ?_
  refine mr_iload_n C0 dX5_as_9 rfl (i := 1) rfl ?_
  refine mr_callVI C0 mdX4_has dX5_as_10 clX4_has ml_X5_115 (Nat.le_of_ble_eq_true rfl) rfl rfl arX4_has (as := [.int x1]) rfl (Nat.le_of_ble_eq_true rfl) (Nat.le_of_ble_eq_true rfl) (Nat.le_of_ble_eq_true rfl) fit0 (CallV_of mdX4_has plX4_has 0 (Nat.le_of_ble_eq_true rfl) rfl ?_) (fun _ _ h => h)
  intro zp1 zl1 ze1 zs1 zm1 zargs1 zbelow1 zmeth1 zc1 zD1 zad1 zac1 C1 hr1 hk1
  refine mr_iload_n C1 dX4_has_0 rfl (i := 1) rfl ?_
  refine mr_if_lt C1 dX4_has_1 (tgt := 16) (by decide) (fun c1 => ?_) (fun c1 => ?_)
  · have h := h.1 c1
    refine mr_iconst (v := 0) C1 dX4_has_16 (by decide) ?_
    refine mr_zret C1 hr1 hk1 dX4_has_17 rfl (qI_mk ?_)
    refine mr_if_ne C0 dX5_as_13 (tgt := 18) (by decide) (fun q => absurd q (by decide)) (fun _ => ?_)
    refine mr_iconst (v := (-1)) C0 dX5_as_16 (by decide) ?_
    refine mr_iret C0 hr0 hk0 dX5_as_17 (qI_mk ?_)
    exact h
  · have h := h.2 c1
    refine mr_iload_n C1 dX4_has_4 rfl (i := 1) rfl ?_
    refine mr_aload_n C1 dX4_has_5 rfl (i := 0) rfl ?_
    refine mr_getI C1 dX4_has_6 fl_X4_18 (Nat.le_of_ble_eq_true rfl) rfl rfl ?_
    refine mr_topI (y := (S.1 4 2)) (by first | rfl | simp [sI, sJ, sF, upd, vp_updL]) ?_
    refine mr_icmp_ge C1 dX4_has_9 (tgt := 16) (by decide) (fun c2 => ?_) (fun c2 => ?_)
    · have h := h.1 c2
      refine mr_iconst (v := 0) C1 dX4_has_16 (by decide) ?_
      refine mr_zret C1 hr1 hk1 dX4_has_17 rfl (qI_mk ?_)
      refine mr_if_ne C0 dX5_as_13 (tgt := 18) (by decide) (fun q => absurd q (by decide)) (fun _ => ?_)
      refine mr_iconst (v := (-1)) C0 dX5_as_16 (by decide) ?_
      refine mr_iret C0 hr0 hk0 dX5_as_17 (qI_mk ?_)
      exact h
    · have h := h.2 c2
      refine mr_iconst (v := 1) C1 dX4_has_12 (by decide) ?_
      refine mr_goto C1 dX4_has_13 (tgt := 17) (by decide) ?_
      refine mr_zret C1 hr1 hk1 dX4_has_17 rfl (qI_mk ?_)
      refine mr_if_ne C0 dX5_as_13 (tgt := 18) (by decide) (fun _ => ?_) (fun q => absurd q (by decide))
      refine mr_iload_n C0 dX5_as_18 rfl (i := 2) rfl ?_
      refine mr_callSI C0 mdX5_isKind dX5_as_19 clX5_isKind ml_X5_108 arX5_isKind (as := [.int x2]) rfl (Nat.le_of_ble_eq_true rfl) (Nat.le_of_ble_eq_true rfl) (Nat.le_of_ble_eq_true rfl) fit0 (CallV_of mdX5_isKind plX5_isKind 0 (Nat.le_of_ble_eq_true rfl) rfl ?_) (fun _ _ h => h)
      intro zp2 zl2 ze2 zs2 zm2 zargs2 zbelow2 zmeth2 zc2 zD2 zad2 zac2 C2 hr2 hk2
      refine mr_iload_n C2 dX5_isKind_0 rfl (i := 0) rfl ?_
      refine mr_if_lt C2 dX5_isKind_1 (tgt := 13) (by decide) (fun c3 => ?_) (fun c3 => ?_)
      · have h := h.1 c3
        refine mr_iconst (v := 0) C2 dX5_isKind_13 (by decide) ?_
        refine mr_zret C2 hr2 hk2 dX5_isKind_14 rfl (qI_mk ?_)
        refine mr_if_ne C0 dX5_as_22 (tgt := 28) (by decide) (fun q => absurd q (by decide)) (fun _ => ?_)
        refine mr_bipush (v := (-2)) C0 dX5_as_25 (by decide) ?_
        refine mr_iret C0 hr0 hk0 dX5_as_27 (qI_mk ?_)
        exact h
      · have h := h.2 c3
        refine mr_iload_n C2 dX5_isKind_4 rfl (i := 0) rfl ?_
        refine mr_iconst (v := 3) C2 dX5_isKind_5 (by decide) ?_
        refine mr_icmp_ge C2 dX5_isKind_6 (tgt := 13) (by decide) (fun c4 => ?_) (fun c4 => ?_)
        · have h := h.1 c4
          refine mr_iconst (v := 0) C2 dX5_isKind_13 (by decide) ?_
          refine mr_zret C2 hr2 hk2 dX5_isKind_14 rfl (qI_mk ?_)
          refine mr_if_ne C0 dX5_as_22 (tgt := 28) (by decide) (fun q => absurd q (by decide)) (fun _ => ?_)
          refine mr_bipush (v := (-2)) C0 dX5_as_25 (by decide) ?_
          refine mr_iret C0 hr0 hk0 dX5_as_27 (qI_mk ?_)
          exact h
        · have h := h.2 c4
          refine mr_iconst (v := 1) C2 dX5_isKind_9 (by decide) ?_
          refine mr_goto C2 dX5_isKind_10 (tgt := 14) (by decide) ?_
          refine mr_zret C2 hr2 hk2 dX5_isKind_14 rfl (qI_mk ?_)
          refine mr_if_ne C0 dX5_as_22 (tgt := 28) (by decide) (fun _ => ?_) (fun q => absurd q (by decide))
          refine mr_aload_n C0 dX5_as_28 rfl (i := 0) rfl ?_
          refine mr_getR C0 dX5_as_29 fl_X5_21 (Nat.le_of_ble_eq_true rfl) rfl rfl ?_
          refine mr_getR C0 dX5_as_32 fl_X5_118 (Nat.le_of_ble_eq_true rfl) rfl rfl ?_
          refine mr_iload_n C0 dX5_as_35 rfl (i := 1) rfl ?_
          have g5 := h.1
          have h := h.2
          refine mr_iald C0 dX5_as_36 (Nat.le_of_ble_eq_true rfl) rfl g5 ?_
          refine mr_topI (y := (S.1 5 x1.toNatClampNeg)) (by first | rfl | simp [sI, sJ, sF, upd, vp_updL]) ?_
          refine mr_iload_n C0 dX5_as_37 rfl (i := 2) rfl ?_
          refine mr_icmp_lt C0 dX5_as_38 (tgt := 45) (by decide) (fun c6 => ?_) (fun c6 => ?_)
          · have h := h.1 c6
            refine mr_aload_n C0 dX5_as_45 rfl (i := 0) rfl ?_
            refine mr_iconst (v := 2) C0 dX5_as_46 (by decide) ?_
            refine mr_callVI C0 mdX5_failed dX5_as_47 clX5_failed ml_X5_70 (Nat.le_of_ble_eq_true rfl) rfl rfl arX5_failed (as := [.int (2 : Int32)]) rfl (Nat.le_of_ble_eq_true rfl) (Nat.le_of_ble_eq_true rfl) (Nat.le_of_ble_eq_true rfl) fit0 (CallV_of mdX5_failed plX5_failed 0 (Nat.le_of_ble_eq_true rfl) rfl ?_) (fun _ _ h => h)
            intro zp3 zl3 ze3 zs3 zm3 zargs3 zbelow3 zmeth3 zc3 zD3 zad3 zac3 C3 hr3 hk3
            refine mr_aload_n C3 dX5_failed_0 rfl (i := 0) rfl ?_
            refine mr_iload_n C3 dX5_failed_1 rfl (i := 1) rfl ?_
            refine mr_putI C3 dX5_failed_2 fl_X5_52 (Nat.le_of_ble_eq_true rfl) rfl rfl rfl rfl ?_
            refine mr_bipush (v := (-10)) C3 dX5_failed_5 (by decide) ?_
            refine mr_iload_n C3 dX5_failed_7 rfl (i := 1) rfl ?_
            refine mr_isub C3 dX5_failed_8 ?_
            refine mr_topI (y := (-12 : Int32)) (by decide) ?_
            refine mr_iret C3 hr3 hk3 dX5_failed_9 (qI_mk ?_)
            refine mr_iret C0 hr0 hk0 dX5_as_50 (qI_mk ?_)
            exact h
          · have h := h.2 c6
            refine mr_iconst (v := 1) C0 dX5_as_41 (by decide) ?_
            refine mr_goto C0 dX5_as_42 (tgt := 50) (by decide) ?_
            refine mr_iret C0 hr0 hk0 dX5_as_50 (qI_mk ?_)
            exact h
set_option maxRecDepth 100000 in
set_option maxHeartbeats 4000000 in
theorem eX5_trace (S : St) (Q : Int32 → St → Prop) (h : Q (S.1 0 5) S) : CallV mdX5_trace [.ref 0] S (qI Q) := by
  refine CallV_of mdX5_trace plX5_trace 0 (Nat.le_of_ble_eq_true rfl) rfl ?_
  intro zp0 zl0 ze0 zs0 zm0 zargs0 zbelow0 zmeth0 zc0 zD0 zad0 zac0 C0 hr0 hk0
  refine mr_aload_n C0 dX5_trace_0 rfl (i := 0) rfl ?_
  refine mr_getI C0 dX5_trace_1 fl_X5_48 (Nat.le_of_ble_eq_true rfl) rfl rfl ?_
  refine mr_iret C0 hr0 hk0 dX5_trace_4 (qI_mk ?_)
  exact h
set_option maxRecDepth 100000 in
set_option maxHeartbeats 4000000 in
theorem eX5_fault (S : St) (Q : Int32 → St → Prop) (h : Q (S.1 0 6) S) : CallV mdX5_fault [.ref 0] S (qI Q) := by
  refine CallV_of mdX5_fault plX5_fault 0 (Nat.le_of_ble_eq_true rfl) rfl ?_
  intro zp0 zl0 ze0 zs0 zm0 zargs0 zbelow0 zmeth0 zc0 zD0 zad0 zac0 C0 hr0 hk0
  refine mr_aload_n C0 dX5_fault_0 rfl (i := 0) rfl ?_
  refine mr_getI C0 dX5_fault_1 fl_X5_52 (Nat.le_of_ble_eq_true rfl) rfl rfl ?_
  refine mr_iret C0 hr0 hk0 dX5_fault_4 (qI_mk ?_)
  exact h
set_option maxRecDepth 100000 in
set_option maxHeartbeats 4000000 in
theorem eX5_many (x1 : Int32) (S : St) (Q : Int32 → St → Prop) (h : ((x1 = (0 : Int32) → Q ((S.1 1 2) * (S.1 1 3)) S) ∧ (¬ x1 = (0 : Int32) → ((x1 = (1 : Int32) → Q (S.1 1 3) S) ∧ (¬ x1 = (1 : Int32) → ((x1 = (2 : Int32) → Q (S.1 4 2) S) ∧ (¬ x1 = (2 : Int32) → ((x1 = (3 : Int32) → (((S.1 1 4) = 0 → Q (0 : Int32) S) ∧ (¬ (S.1 1 4) = 0 → Q (1 : Int32) S))) ∧ (¬ x1 = (3 : Int32) → Q (-2 : Int32) S))))))))) : CallV mdX5_many [.ref 0, .int x1] S (qI Q) := by
  refine CallV_of mdX5_many plX5_many 0 (Nat.le_of_ble_eq_true rfl) rfl ?_
  intro zp0 zl0 ze0 zs0 zm0 zargs0 zbelow0 zmeth0 zc0 zD0 zad0 zac0 C0 hr0 hk0
  refine mr_iload_n C0 dX5_many_0 rfl (i := 1) rfl ?_
  by_cases c1 : x1 = (0 : Int32)
  · have h := h.1 c1
    refine mr_tsIn C0 dX5_many_1 (0 : Int32) c1 (by decide) (by decide) rfl (tgt := 32) (by decide) ?_
    refine mr_aload_n C0 dX5_many_32 rfl (i := 0) rfl ?_
    refine mr_getR C0 dX5_many_33 fl_X5_14 (Nat.le_of_ble_eq_true rfl) rfl rfl ?_
    refine mr_callVI C0 mdX2_cells dX5_many_36 clX2_cells ml_X5_83 (Nat.le_of_ble_eq_true rfl) rfl rfl arX2_cells (as := []) rfl (Nat.le_of_ble_eq_true rfl) (Nat.le_of_ble_eq_true rfl) (Nat.le_of_ble_eq_true rfl) fit0 (CallV_of mdX2_cells plX2_cells 0 (Nat.le_of_ble_eq_true rfl) rfl ?_) (fun _ _ h => h)
    intro zp1 zl1 ze1 zs1 zm1 zargs1 zbelow1 zmeth1 zc1 zD1 zad1 zac1 C1 hr1 hk1
    refine mr_aload_n C1 dX2_cells_0 rfl (i := 0) rfl ?_
    refine mr_getI C1 dX2_cells_1 fl_X2_18 (Nat.le_of_ble_eq_true rfl) rfl rfl ?_
    refine mr_aload_n C1 dX2_cells_4 rfl (i := 0) rfl ?_
    refine mr_getI C1 dX2_cells_5 fl_X2_22 (Nat.le_of_ble_eq_true rfl) rfl rfl ?_
    refine mr_imul C1 dX2_cells_8 ?_
    refine mr_iret C1 hr1 hk1 dX2_cells_9 (qI_mk ?_)
    refine mr_iret C0 hr0 hk0 dX5_many_39 (qI_mk ?_)
    exact h
  · have h := h.2 c1
    by_cases c2 : x1 = (1 : Int32)
    · have h := h.1 c2
      refine mr_tsIn C0 dX5_many_1 (1 : Int32) c2 (by decide) (by decide) rfl (tgt := 40) (by decide) ?_
      refine mr_aload_n C0 dX5_many_40 rfl (i := 0) rfl ?_
      refine mr_getR C0 dX5_many_41 fl_X5_14 (Nat.le_of_ble_eq_true rfl) rfl rfl ?_
      refine mr_getI C0 dX5_many_44 fl_X5_189 (Nat.le_of_ble_eq_true rfl) rfl rfl ?_
      refine mr_iret C0 hr0 hk0 dX5_many_47 (qI_mk ?_)
      exact h
    · have h := h.2 c2
      by_cases c3 : x1 = (2 : Int32)
      · have h := h.1 c3
        refine mr_tsIn C0 dX5_many_1 (2 : Int32) c3 (by decide) (by decide) rfl (tgt := 48) (by decide) ?_
        refine mr_aload_n C0 dX5_many_48 rfl (i := 0) rfl ?_
        refine mr_getR C0 dX5_many_49 fl_X5_21 (Nat.le_of_ble_eq_true rfl) rfl rfl ?_
        refine mr_getI C0 dX5_many_52 fl_X5_81 (Nat.le_of_ble_eq_true rfl) rfl rfl ?_
        refine mr_iret C0 hr0 hk0 dX5_many_55 (qI_mk ?_)
        exact h
      · have h := h.2 c3
        by_cases c4 : x1 = (3 : Int32)
        · have h := h.1 c4
          refine mr_tsIn C0 dX5_many_1 (3 : Int32) c4 (by decide) (by decide) rfl (tgt := 56) (by decide) ?_
          refine mr_aload_n C0 dX5_many_56 rfl (i := 0) rfl ?_
          refine mr_getR C0 dX5_many_57 fl_X5_14 (Nat.le_of_ble_eq_true rfl) rfl rfl ?_
          refine mr_getI C0 dX5_many_60 fl_X5_104 (Nat.le_of_ble_eq_true rfl) rfl rfl ?_
          refine mr_if_eq C0 dX5_many_63 (tgt := 70) (by decide) (fun c5 => ?_) (fun c5 => ?_)
          · have h := h.1 c5
            refine mr_iconst (v := 0) C0 dX5_many_70 (by decide) ?_
            refine mr_iret C0 hr0 hk0 dX5_many_71 (qI_mk ?_)
            exact h
          · have h := h.2 c5
            refine mr_iconst (v := 1) C0 dX5_many_66 (by decide) ?_
            refine mr_goto C0 dX5_many_67 (tgt := 71) (by decide) ?_
            refine mr_iret C0 hr0 hk0 dX5_many_71 (qI_mk ?_)
            exact h
        · have h := h.2 c4
          refine mr_tsOut C0 dX5_many_1 (by have c1q := lv_neT c1 (show ((0 : Int32)).toInt = 0 by decide); have c2q := lv_neT c2 (show ((1 : Int32)).toInt = 1 by decide); have c3q := lv_neT c3 (show ((2 : Int32)).toInt = 2 by decide); have c4q := lv_neT c4 (show ((3 : Int32)).toInt = 3 by decide); omega) (tgt := 72) (by decide) ?_
          refine mr_bipush (v := (-2)) C0 dX5_many_72 (by decide) ?_
          refine mr_iret C0 hr0 hk0 dX5_many_74 (qI_mk ?_)
          exact h
set_option maxRecDepth 100000 in
set_option maxHeartbeats 4000000 in
theorem eX5_leaveTrace (x1 : Int32) (S : St) (Q : St → Prop) (h : Q (sI S 0 5 (((31 : Int32) * (S.1 0 5)) + x1))) : CallV mdX5_leaveTrace [.ref 0, .int x1] S (qV Q) := by
  refine CallV_of mdX5_leaveTrace plX5_leaveTrace 0 (Nat.le_of_ble_eq_true rfl) rfl ?_
  intro zp0 zl0 ze0 zs0 zm0 zargs0 zbelow0 zmeth0 zc0 zD0 zad0 zac0 C0 hr0 hk0
  refine mr_aload_n C0 dX5_leaveTrace_0 rfl (i := 0) rfl ?_
  refine mr_bipush (v := 31) C0 dX5_leaveTrace_1 (by decide) ?_
  refine mr_aload_n C0 dX5_leaveTrace_3 rfl (i := 0) rfl ?_
  refine mr_getI C0 dX5_leaveTrace_4 fl_X5_48 (Nat.le_of_ble_eq_true rfl) rfl rfl ?_
  refine mr_imul C0 dX5_leaveTrace_7 ?_
  refine mr_iload_n C0 dX5_leaveTrace_8 rfl (i := 1) rfl ?_
  refine mr_iadd C0 dX5_leaveTrace_9 ?_
  refine mr_putI C0 dX5_leaveTrace_10 fl_X5_48 (Nat.le_of_ble_eq_true rfl) rfl rfl rfl rfl ?_
  refine mr_vret C0 hr0 hk0 dX5_leaveTrace_13 (qV_mk ?_)
  exact h
set_option maxRecDepth 100000 in
set_option maxHeartbeats 4000000 in
theorem eX5_failed (x1 : Int32) (S : St) (Q : Int32 → St → Prop) (h : Q ((-10 : Int32) - x1) (sI S 0 6 x1)) : CallV mdX5_failed [.ref 0, .int x1] S (qI Q) := by
  refine CallV_of mdX5_failed plX5_failed 0 (Nat.le_of_ble_eq_true rfl) rfl ?_
  intro zp0 zl0 ze0 zs0 zm0 zargs0 zbelow0 zmeth0 zc0 zD0 zad0 zac0 C0 hr0 hk0
  refine mr_aload_n C0 dX5_failed_0 rfl (i := 0) rfl ?_
  refine mr_iload_n C0 dX5_failed_1 rfl (i := 1) rfl ?_
  refine mr_putI C0 dX5_failed_2 fl_X5_52 (Nat.le_of_ble_eq_true rfl) rfl rfl rfl rfl ?_
  refine mr_bipush (v := (-10)) C0 dX5_failed_5 (by decide) ?_
  refine mr_iload_n C0 dX5_failed_7 rfl (i := 1) rfl ?_
  refine mr_isub C0 dX5_failed_8 ?_
  refine mr_iret C0 hr0 hk0 dX5_failed_9 (qI_mk ?_)
  exact h
set_option maxRecDepth 100000 in
set_option maxHeartbeats 4000000 in
theorem eX5_isSheet (x0 : Int32) (S : St) (Q : Int32 → St → Prop) (h : ((x0 < 0 → Q (0 : Int32) S) ∧ (¬ x0 < 0 → (((4 : Int32) ≤ x0 → Q (0 : Int32) S) ∧ (¬ (4 : Int32) ≤ x0 → Q (1 : Int32) S))))) : CallV mdX5_isSheet [.int x0] S (qI Q) := by
  refine CallV_of mdX5_isSheet plX5_isSheet 0 (Nat.le_of_ble_eq_true rfl) rfl ?_
  intro zp0 zl0 ze0 zs0 zm0 zargs0 zbelow0 zmeth0 zc0 zD0 zad0 zac0 C0 hr0 hk0
  refine mr_iload_n C0 dX5_isSheet_0 rfl (i := 0) rfl ?_
  refine mr_if_lt C0 dX5_isSheet_1 (tgt := 13) (by decide) (fun c1 => ?_) (fun c1 => ?_)
  · have h := h.1 c1
    refine mr_iconst (v := 0) C0 dX5_isSheet_13 (by decide) ?_
    refine mr_zret C0 hr0 hk0 dX5_isSheet_14 rfl (qI_mk ?_)
    exact h
  · have h := h.2 c1
    refine mr_iload_n C0 dX5_isSheet_4 rfl (i := 0) rfl ?_
    refine mr_iconst (v := 4) C0 dX5_isSheet_5 (by decide) ?_
    refine mr_icmp_ge C0 dX5_isSheet_6 (tgt := 13) (by decide) (fun c2 => ?_) (fun c2 => ?_)
    · have h := h.1 c2
      refine mr_iconst (v := 0) C0 dX5_isSheet_13 (by decide) ?_
      refine mr_zret C0 hr0 hk0 dX5_isSheet_14 rfl (qI_mk ?_)
      exact h
    · have h := h.2 c2
      refine mr_iconst (v := 1) C0 dX5_isSheet_9 (by decide) ?_
      refine mr_goto C0 dX5_isSheet_10 (tgt := 14) (by decide) ?_
      refine mr_zret C0 hr0 hk0 dX5_isSheet_14 rfl (qI_mk ?_)
      exact h
set_option maxRecDepth 100000 in
set_option maxHeartbeats 4000000 in
theorem eX5_isLane (x0 : Int32) (S : St) (Q : Int32 → St → Prop) (h : ((x0 < 0 → Q (0 : Int32) S) ∧ (¬ x0 < 0 → (((3 : Int32) ≤ x0 → Q (0 : Int32) S) ∧ (¬ (3 : Int32) ≤ x0 → Q (1 : Int32) S))))) : CallV mdX5_isLane [.int x0] S (qI Q) := by
  refine CallV_of mdX5_isLane plX5_isLane 0 (Nat.le_of_ble_eq_true rfl) rfl ?_
  intro zp0 zl0 ze0 zs0 zm0 zargs0 zbelow0 zmeth0 zc0 zD0 zad0 zac0 C0 hr0 hk0
  refine mr_iload_n C0 dX5_isLane_0 rfl (i := 0) rfl ?_
  refine mr_if_lt C0 dX5_isLane_1 (tgt := 13) (by decide) (fun c1 => ?_) (fun c1 => ?_)
  · have h := h.1 c1
    refine mr_iconst (v := 0) C0 dX5_isLane_13 (by decide) ?_
    refine mr_zret C0 hr0 hk0 dX5_isLane_14 rfl (qI_mk ?_)
    exact h
  · have h := h.2 c1
    refine mr_iload_n C0 dX5_isLane_4 rfl (i := 0) rfl ?_
    refine mr_iconst (v := 3) C0 dX5_isLane_5 (by decide) ?_
    refine mr_icmp_ge C0 dX5_isLane_6 (tgt := 13) (by decide) (fun c2 => ?_) (fun c2 => ?_)
    · have h := h.1 c2
      refine mr_iconst (v := 0) C0 dX5_isLane_13 (by decide) ?_
      refine mr_zret C0 hr0 hk0 dX5_isLane_14 rfl (qI_mk ?_)
      exact h
    · have h := h.2 c2
      refine mr_iconst (v := 1) C0 dX5_isLane_9 (by decide) ?_
      refine mr_goto C0 dX5_isLane_10 (tgt := 14) (by decide) ?_
      refine mr_zret C0 hr0 hk0 dX5_isLane_14 rfl (qI_mk ?_)
      exact h
set_option maxRecDepth 100000 in
set_option maxHeartbeats 4000000 in
theorem eX5_isKind (x0 : Int32) (S : St) (Q : Int32 → St → Prop) (h : ((x0 < 0 → Q (0 : Int32) S) ∧ (¬ x0 < 0 → (((3 : Int32) ≤ x0 → Q (0 : Int32) S) ∧ (¬ (3 : Int32) ≤ x0 → Q (1 : Int32) S))))) : CallV mdX5_isKind [.int x0] S (qI Q) := by
  refine CallV_of mdX5_isKind plX5_isKind 0 (Nat.le_of_ble_eq_true rfl) rfl ?_
  intro zp0 zl0 ze0 zs0 zm0 zargs0 zbelow0 zmeth0 zc0 zD0 zad0 zac0 C0 hr0 hk0
  refine mr_iload_n C0 dX5_isKind_0 rfl (i := 0) rfl ?_
  refine mr_if_lt C0 dX5_isKind_1 (tgt := 13) (by decide) (fun c1 => ?_) (fun c1 => ?_)
  · have h := h.1 c1
    refine mr_iconst (v := 0) C0 dX5_isKind_13 (by decide) ?_
    refine mr_zret C0 hr0 hk0 dX5_isKind_14 rfl (qI_mk ?_)
    exact h
  · have h := h.2 c1
    refine mr_iload_n C0 dX5_isKind_4 rfl (i := 0) rfl ?_
    refine mr_iconst (v := 3) C0 dX5_isKind_5 (by decide) ?_
    refine mr_icmp_ge C0 dX5_isKind_6 (tgt := 13) (by decide) (fun c2 => ?_) (fun c2 => ?_)
    · have h := h.1 c2
      refine mr_iconst (v := 0) C0 dX5_isKind_13 (by decide) ?_
      refine mr_zret C0 hr0 hk0 dX5_isKind_14 rfl (qI_mk ?_)
      exact h
    · have h := h.2 c2
      refine mr_iconst (v := 1) C0 dX5_isKind_9 (by decide) ?_
      refine mr_goto C0 dX5_isKind_10 (tgt := 14) (by decide) ?_
      refine mr_zret C0 hr0 hk0 dX5_isKind_14 rfl (qI_mk ?_)
      exact h
set_option maxRecDepth 100000 in
set_option maxHeartbeats 4000000 in
theorem eX5_isParty (x0 : Int32) (S : St) (Q : Int32 → St → Prop) (h : ((x0 < 0 → Q (0 : Int32) S) ∧ (¬ x0 < 0 → (((4 : Int32) ≤ x0 → Q (0 : Int32) S) ∧ (¬ (4 : Int32) ≤ x0 → Q (1 : Int32) S))))) : CallV mdX5_isParty [.int x0] S (qI Q) := by
  refine CallV_of mdX5_isParty plX5_isParty 0 (Nat.le_of_ble_eq_true rfl) rfl ?_
  intro zp0 zl0 ze0 zs0 zm0 zargs0 zbelow0 zmeth0 zc0 zD0 zad0 zac0 C0 hr0 hk0
  refine mr_iload_n C0 dX5_isParty_0 rfl (i := 0) rfl ?_
  refine mr_if_lt C0 dX5_isParty_1 (tgt := 13) (by decide) (fun c1 => ?_) (fun c1 => ?_)
  · have h := h.1 c1
    refine mr_iconst (v := 0) C0 dX5_isParty_13 (by decide) ?_
    refine mr_zret C0 hr0 hk0 dX5_isParty_14 rfl (qI_mk ?_)
    exact h
  · have h := h.2 c1
    refine mr_iload_n C0 dX5_isParty_4 rfl (i := 0) rfl ?_
    refine mr_iconst (v := 4) C0 dX5_isParty_5 (by decide) ?_
    refine mr_icmp_ge C0 dX5_isParty_6 (tgt := 13) (by decide) (fun c2 => ?_) (fun c2 => ?_)
    · have h := h.1 c2
      refine mr_iconst (v := 0) C0 dX5_isParty_13 (by decide) ?_
      refine mr_zret C0 hr0 hk0 dX5_isParty_14 rfl (qI_mk ?_)
      exact h
    · have h := h.2 c2
      refine mr_iconst (v := 1) C0 dX5_isParty_9 (by decide) ?_
      refine mr_goto C0 dX5_isParty_10 (tgt := 14) (by decide) ?_
      refine mr_zret C0 hr0 hk0 dX5_isParty_14 rfl (qI_mk ?_)
      exact h
