set_option maxRecDepth 100000 in
set_option maxHeartbeats 4000000 in
theorem ok_roll (x1 x2 x3 x4 : Int32) : OKI mdX5_roll mdX6_roll [.ref 0, .int x1, .int x2, .int x3, .int x4] [.ref 34, .int x1, .int x2, .int x3, .int x4] := by
  intro S hI
  obtain ⟨M, hM, hC, hm, hs, ht, hf⟩ := id hI
  have n8 := hM.n8
  have w6 := hM.w6
  have tn := nI_toInt (n := mN M) (by omega)
  have mi : ∀ f, MI (sI S 0 6 f) M := fun _ => hm
  have ci : ∀ f, CI (sI S 0 6 f) M := fun _ => hC
  apply eX5_roll
  rw [hC.n]
  rcases pk_ix x1 (n := mN M) (by omega) with h | h | ⟨v, hv, rfl⟩
  · refine br_t h ?_
    apply eX6_roll
    rw [(mi 0).n]
    exact br_t (by (try simp only [fa_lt, fa_le, fa_eq, fa_lt64, fa_le64, fa_eq64, Int32.toInt_toInt64, lsub1, Int32.reduceToInt, Int64.reduceToInt, Int32.toInt_zero, Int64.toInt_zero, ti_m1, ti_m2, ti_m3, ti_m4, ti_m9] at *) <;> omega) ⟨rfl, hI.flt 0⟩
  · refine br_f (by (try simp only [fa_lt, fa_le, fa_eq, fa_lt64, fa_le64, fa_eq64, Int32.toInt_toInt64, lsub1, Int32.reduceToInt, Int64.reduceToInt, Int32.toInt_zero, Int64.toInt_zero, ti_m1, ti_m2, ti_m3, ti_m4, ti_m9] at *) <;> omega) (br_t h ?_)
    apply eX6_roll
    rw [(mi 0).n]
    exact br_f (by (try simp only [fa_lt, fa_le, fa_eq, fa_lt64, fa_le64, fa_eq64, Int32.toInt_toInt64, lsub1, Int32.reduceToInt, Int64.reduceToInt, Int32.toInt_zero, Int64.toInt_zero, ti_m1, ti_m2, ti_m3, ti_m4, ti_m9] at *) <;> omega) (br_t (by (try simp only [fa_lt, fa_le, fa_eq, fa_lt64, fa_le64, fa_eq64, Int32.toInt_toInt64, lsub1, Int32.reduceToInt, Int64.reduceToInt, Int32.toInt_zero, Int64.toInt_zero, ti_m1, ti_m2, ti_m3, ti_m4, ti_m9] at *) <;> omega) ⟨rfl, hI.flt 0⟩)
  have tv := nI_toInt (n := v) (by omega)
  have a1 : ¬ (nI v).toInt64 < 0 := (by (try simp only [fa_lt, fa_le, fa_eq, fa_lt64, fa_le64, fa_eq64, Int32.toInt_toInt64, lsub1, Int32.reduceToInt, Int64.reduceToInt, Int32.toInt_zero, Int64.toInt_zero, ti_m1, ti_m2, ti_m3, ti_m4, ti_m9] at *) <;> omega)
  have a2 : ¬ ((nI (mN M)).toInt64 - 1 < (nI v).toInt64) := (by (try simp only [fa_lt, fa_le, fa_eq, fa_lt64, fa_le64, fa_eq64, Int32.toInt_toInt64, lsub1, Int32.reduceToInt, Int64.reduceToInt, Int32.toInt_zero, Int64.toInt_zero, ti_m1, ti_m2, ti_m3, ti_m4, ti_m9] at *) <;> omega)
  refine br_f (by (try simp only [fa_lt, fa_le, fa_eq, fa_lt64, fa_le64, fa_eq64, Int32.toInt_toInt64, lsub1, Int32.reduceToInt, Int64.reduceToInt, Int32.toInt_zero, Int64.toInt_zero, ti_m1, ti_m2, ti_m3, ti_m4, ti_m9] at *) <;> omega) (br_f (by (try simp only [fa_lt, fa_le, fa_eq, fa_lt64, fa_le64, fa_eq64, Int32.toInt_toInt64, lsub1, Int32.reduceToInt, Int64.reduceToInt, Int32.toInt_zero, Int64.toInt_zero, ti_m1, ti_m2, ti_m3, ti_m4, ti_m9] at *) <;> omega) ?_)
  rcases pk_ix x2 (n := 4) (by omega) with h | h | ⟨a, ha, rfl⟩
  · refine br_t h ?_
    apply eX6_roll
    rw [(mi 0).n]
    exact br_f a1 (br_f a2 (br_t (by (try simp only [fa_lt, fa_le, fa_eq, fa_lt64, fa_le64, fa_eq64, Int32.toInt_toInt64, lsub1, Int32.reduceToInt, Int64.reduceToInt, Int32.toInt_zero, Int64.toInt_zero, ti_m1, ti_m2, ti_m3, ti_m4, ti_m9] at *) <;> omega) ⟨rfl, hI.flt 0⟩))
  · have h : (4 : Int32) ≤ x2 := h
    refine br_f (by (try simp only [fa_lt, fa_le, fa_eq, fa_lt64, fa_le64, fa_eq64, Int32.toInt_toInt64, lsub1, Int32.reduceToInt, Int64.reduceToInt, Int32.toInt_zero, Int64.toInt_zero, ti_m1, ti_m2, ti_m3, ti_m4, ti_m9] at *) <;> omega) (br_t h ?_)
    apply eX6_roll
    rw [(mi 0).n]
    exact br_f a1 (br_f a2 (br_f (by (try simp only [fa_lt, fa_le, fa_eq, fa_lt64, fa_le64, fa_eq64, Int32.toInt_toInt64, lsub1, Int32.reduceToInt, Int64.reduceToInt, Int32.toInt_zero, Int64.toInt_zero, ti_m1, ti_m2, ti_m3, ti_m4, ti_m9] at *) <;> omega) (br_t (by (try simp only [fa_lt, fa_le, fa_eq, fa_lt64, fa_le64, fa_eq64, Int32.toInt_toInt64, lsub1, Int32.reduceToInt, Int64.reduceToInt, Int32.toInt_zero, Int64.toInt_zero, ti_m1, ti_m2, ti_m3, ti_m4, ti_m9] at *) <;> omega) ⟨rfl, hI.flt 0⟩)))
  have ta := nI_toInt (n := a) (by omega)
  have a3 : ¬ (nI a).toInt64 < 0 := (by (try simp only [fa_lt, fa_le, fa_eq, fa_lt64, fa_le64, fa_eq64, Int32.toInt_toInt64, lsub1, Int32.reduceToInt, Int64.reduceToInt, Int32.toInt_zero, Int64.toInt_zero, ti_m1, ti_m2, ti_m3, ti_m4, ti_m9] at *) <;> omega)
  have a4 : ¬ ((3 : Int64) < (nI a).toInt64) := (by (try simp only [fa_lt, fa_le, fa_eq, fa_lt64, fa_le64, fa_eq64, Int32.toInt_toInt64, lsub1, Int32.reduceToInt, Int64.reduceToInt, Int32.toInt_zero, Int64.toInt_zero, ti_m1, ti_m2, ti_m3, ti_m4, ti_m9] at *) <;> omega)
  refine br_f (by (try simp only [fa_lt, fa_le, fa_eq, fa_lt64, fa_le64, fa_eq64, Int32.toInt_toInt64, lsub1, Int32.reduceToInt, Int64.reduceToInt, Int32.toInt_zero, Int64.toInt_zero, ti_m1, ti_m2, ti_m3, ti_m4, ti_m9] at *) <;> omega) (br_f (by (try simp only [fa_lt, fa_le, fa_eq, fa_lt64, fa_le64, fa_eq64, Int32.toInt_toInt64, lsub1, Int32.reduceToInt, Int64.reduceToInt, Int32.toInt_zero, Int64.toInt_zero, ti_m1, ti_m2, ti_m3, ti_m4, ti_m9] at *) <;> omega) ?_)
  rcases pk_ix x3 (n := 3) (by omega) with h | h | ⟨la, hla, rfl⟩
  · refine br_t h ?_
    apply eX6_roll
    rw [(mi 0).n]
    exact br_f a1 (br_f a2 (br_f a3 (br_f a4 (br_t (by (try simp only [fa_lt, fa_le, fa_eq, fa_lt64, fa_le64, fa_eq64, Int32.toInt_toInt64, lsub1, Int32.reduceToInt, Int64.reduceToInt, Int32.toInt_zero, Int64.toInt_zero, ti_m1, ti_m2, ti_m3, ti_m4, ti_m9] at *) <;> omega) ⟨rfl, hI.flt 0⟩))))
  · have h : (3 : Int32) ≤ x3 := h
    refine br_f (by (try simp only [fa_lt, fa_le, fa_eq, fa_lt64, fa_le64, fa_eq64, Int32.toInt_toInt64, lsub1, Int32.reduceToInt, Int64.reduceToInt, Int32.toInt_zero, Int64.toInt_zero, ti_m1, ti_m2, ti_m3, ti_m4, ti_m9] at *) <;> omega) (br_t h ?_)
    apply eX6_roll
    rw [(mi 0).n]
    exact br_f a1 (br_f a2 (br_f a3 (br_f a4 (br_f (by (try simp only [fa_lt, fa_le, fa_eq, fa_lt64, fa_le64, fa_eq64, Int32.toInt_toInt64, lsub1, Int32.reduceToInt, Int64.reduceToInt, Int32.toInt_zero, Int64.toInt_zero, ti_m1, ti_m2, ti_m3, ti_m4, ti_m9] at *) <;> omega) (br_t (by (try simp only [fa_lt, fa_le, fa_eq, fa_lt64, fa_le64, fa_eq64, Int32.toInt_toInt64, lsub1, Int32.reduceToInt, Int64.reduceToInt, Int32.toInt_zero, Int64.toInt_zero, ti_m1, ti_m2, ti_m3, ti_m4, ti_m9] at *) <;> omega) ⟨rfl, hI.flt 0⟩)))))
  have tl := nI_toInt (n := la) (by omega)
  have a5 : ¬ (nI la).toInt64 < 0 := (by (try simp only [fa_lt, fa_le, fa_eq, fa_lt64, fa_le64, fa_eq64, Int32.toInt_toInt64, lsub1, Int32.reduceToInt, Int64.reduceToInt, Int32.toInt_zero, Int64.toInt_zero, ti_m1, ti_m2, ti_m3, ti_m4, ti_m9] at *) <;> omega)
  have a6 : ¬ ((2 : Int64) < (nI la).toInt64) := (by (try simp only [fa_lt, fa_le, fa_eq, fa_lt64, fa_le64, fa_eq64, Int32.toInt_toInt64, lsub1, Int32.reduceToInt, Int64.reduceToInt, Int32.toInt_zero, Int64.toInt_zero, ti_m1, ti_m2, ti_m3, ti_m4, ti_m9] at *) <;> omega)
  have ca := nI_clamp (n := a) (by omega)
  refine br_f (by (try simp only [fa_lt, fa_le, fa_eq, fa_lt64, fa_le64, fa_eq64, Int32.toInt_toInt64, lsub1, Int32.reduceToInt, Int64.reduceToInt, Int32.toInt_zero, Int64.toInt_zero, ti_m1, ti_m2, ti_m3, ti_m4, ti_m9] at *) <;> omega) (br_f (by (try simp only [fa_lt, fa_le, fa_eq, fa_lt64, fa_le64, fa_eq64, Int32.toInt_toInt64, lsub1, Int32.reduceToInt, Int64.reduceToInt, Int32.toInt_zero, Int64.toInt_zero, ti_m1, ti_m2, ti_m3, ti_m4, ti_m9] at *) <;> omega) ⟨pk_in a 4 ha, ?_⟩)
  rw [ca]
  simp (disch := omega) only [sI_o, sI_h, sI2]
  have e47 : ∀ f, (sI S 0 6 f).1 47 a = S.1 47 a := fun _ => rfl
  have e48 : ∀ f, (sI S 0 6 f).1 48 a = S.1 48 a := fun _ => rfl
  have into : ∀ {f : Int32} {P : Int32 → St → Prop}, CallV mdX6_cellsBarred [.ref 34, .int (nI a), .int (nI la), .int x4, .long (0 : Int64)] (sI S 0 6 f) (qI fun r8 S7 => (0 ≤ r8 → vp_in (nI v) 8 ∧ vp_in (nI v) 8 ∧ V mdX6_roll 82 [some (.ref 34), none, some (.int (nI a)), none, none, none, some (.int (S7.1 39 (nI v).toNatClampNeg)), some (.int (S7.1 40 (nI v).toNatClampNeg)), some (.int x4), some (.int (0 : Int32)), none, none] [] S7 (qI P)) ∧ (¬ 0 ≤ r8 → P r8 S7)) → CallV mdX6_roll [.ref 34, .int (nI v), .int (nI a), .int (nI la), .int x4] (sI S 0 6 f) (qI P) := fun {f P} h => by
    apply eX6_roll
    rw [(mi f).n]
    exact br_f a1 (br_f a2 (br_f a3 (br_f a4 (br_f a5 (br_f a6 h)))))
  rcases hs.all a ha with ⟨b1, b2⟩ | ⟨b1, n, l, b2, b3, b4, b5, b6, b7, b8⟩
  · refine nb_f b1 (into (c_gone ha (by rw [e47]; exact b2) (br_f (by decide) ⟨rfl, hI.flt 1⟩)))
  · have tn' := nI_toInt (n := n) (by omega)
    rw [b1, b4, b5]
    have bad : nI l = nI la → ¬ (0 ≤ x4.toInt ∧ x4.toInt + (0 : Int32).toInt ≤ n) → CallV mdX6_roll [.ref 34, .int (nI v), .int (nI a), .int (nI la), .int x4] (sI S 0 6 3) (qI fun r2 S2 => (-13 : Int32) = r2 ∧ INV S2) := fun c hb => into (c_barred (z := 0) ha b2 (by rw [e47]; exact b6) (by rw [e48]; exact b7) (fun q => absurd c q) (fun _ q => absurd q (by decide)) (fun _ _ q1 q2 => absurd ⟨q1, q2⟩ hb) (fun _ _ _ => br_f (by decide) ⟨rfl, hI.flt 3⟩))
    have t0 : (0 : Int32).toInt = 0 := rfl
    refine nb_t (by decide) ⟨fun c => ?_, fun c => br_f (by decide) ⟨fun d => bad c (by (try simp only [fa_lt, fa_le, fa_eq, fa_lt64, fa_le64, fa_eq64, Int32.toInt_toInt64, lsub1, Int32.reduceToInt, Int64.reduceToInt, Int32.toInt_zero, Int64.toInt_zero, ti_m1, ti_m2, ti_m3, ti_m4, ti_m9] at *) <;> omega), fun d => ⟨fun d2 => bad c (by (try simp only [fa_lt, fa_le, fa_eq, fa_lt64, fa_le64, fa_eq64, Int32.toInt_toInt64, lsub1, Int32.reduceToInt, Int64.reduceToInt, Int32.toInt_zero, Int64.toInt_zero, ti_m1, ti_m2, ti_m3, ti_m4, ti_m9] at *) <;> omega), fun d2 => ?_⟩⟩⟩
    · exact into (c_barred (z := 0) ha b2 (by rw [e47]; exact b6) (by rw [e48]; exact b7) (fun _ => br_f (by decide) ⟨rfl, hI.flt 2⟩) (fun q => absurd q c) (fun q => absurd q c) (fun q => absurd q c))
    · obtain ⟨i, hi, e⟩ : ∃ i, i ≤ n ∧ x4 = nI i := by
        rcases pk_ix x4 (n := n + 1) (by omega) with h | h | ⟨i, hi, rfl⟩
        · exact absurd h d
        · exact absurd (show nI n < x4 by rw [fa_lt, tn']; rw [fa_le, nI_toInt (by omega)] at h; omega) d2
        · exact ⟨i, by omega, rfl⟩
      subst e
      have ti := nI_toInt (n := i) (by omega)
      have hk := hM.k2 hv
      have hc := hM.cw hv
      have gv : vp_in (nI v) 8 := pk_in v 8 (by omega)
      rw [pk_sub hi]
      refine br_f (by rw [fa_lt, nI_toInt (by omega)]; omega) ?_
      apply eX5_rollBy _ (isSh_k ha)
      rw [nI_clamp (n := v) (by omega), (ci 0).kd hv, (ci 0).co hv]
      have fin : ∀ x f, rl M (mK M v) n (S.1 (26 + 2 * a + 1)) (mH M) 0 (mC M v) i = (x, f) → CallV mdX6_roll [.ref 34, .int (nI v), .int (nI a), .int (nI la), .int (nI i)] (sI S 0 6 f) (qI fun r2 S2 => x = r2 ∧ INV S2) := fun x f e => into (c_barred (z := 0) ha b2 (by rw [e47]; exact b6) (by rw [e48]; exact b7) (fun q => absurd c q) (fun _ q => absurd q (by decide)) (fun _ _ _ _ => br_t (by decide) ⟨gv, gv, by
        rw [nI_clamp (n := v) (by omega), (mi f).kd hv, (mi f).co hv]
        exact mr82 (T := sI S 0 6 f) (P := fun y g => y = x ∧ g = f) hM (mi f) ha hk b2 (rd := S.1 (26 + 2 * a + 1)) b6 b8 (fun y z => ⟨z.1.symm, by rw [z.2]; exact hI.flt f⟩) (fun z => ⟨z.1.symm, by rw [z.2]; exact hI.flt f⟩) (mH M) 0 (mC M v) i (by omega) hc hi (by rw [e]; exact ⟨rfl, rfl⟩)⟩) (fun _ _ q => absurd ⟨by rw [ti]; omega, by rw [ti, t0]; omega⟩ q))
      refine ⟨gv, gv, ?_⟩
      have := rb28 (T := sI S 0 6 0) (Q := fun r S1 => CallV mdX6_roll [.ref 34, .int (nI v), .int (nI a), .int (nI la), .int (nI i)] S1 (qI fun r2 S2 => r = r2 ∧ INV S2)) (P := fun y g => rl M (mK M v) n (S.1 (26 + 2 * a + 1)) (mH M) 0 (mC M v) i = (y, g)) (p := 26 + 2 * a) (n := n) hM (ci 0) (isSh_k ha) hk b2 (by rw [sI_o (by omega)]; exact b1) (by rw [sI_o (by omega)]; exact b5) (fun y z => fin y 0 z) (fun z => by rw [sI2]; exact fin _ 3 z) (mH M) 0 (mC M v) i (by omega) hc hi (by rw [sI_ne _ _ _ (by omega)])
      rw [Nat.zero_mul, Nat.zero_add] at this
      exact this
