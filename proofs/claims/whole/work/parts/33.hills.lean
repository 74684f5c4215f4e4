set_option maxRecDepth 100000 in
set_option maxHeartbeats 4000000 in
theorem m_hill {a la i n l : Nat} {cd : Nat → Int32} {U : St} {P : Int32 → St → Prop} (ha : a < 4) (hla : la < 3) (hl : l ≤ 60) (hin : i + n ≤ l) (e47 : U.1 47 a = nI l) (e48 : U.1 48 a = nI la) (hR : RD U cd (60 * a + i) n) (hok : GT cd n → ∀ F : St, F.1 34 0 = 0 → F.1 34 1 = nI (tR cd) → F.1 34 2 = nI (tC cd) → F.1 34 5 = 0 → F.1 34 11 = 0 → F.1 34 26 = U.1 34 26 → (∀ t, t < tC cd → F.1 35 t = nI (tP cd t)) → (∀ c, c < tR cd * tC cd → F.1 36 c = nI (tS cd c)) → (∀ q, q ≠ 34 → q ≠ 35 → q ≠ 36 → q ≠ 37 → q ≠ 38 → F.1 q = U.1 q) → P (nI (tR cd * tC cd)) F) (hbad : ∀ q T, FF cd n q → ¬ GT cd n → FH U T → P (-100 - nI q) (sI T 34 0 0)) : CallV mdX6_hill [.ref 34, .int (nI a), .int (nI la), .int (nI i), .int (nI n)] U (qI P) := by
  have ta := nI_toInt (n := a) (by omega)
  have tl := nI_toInt (n := la) (by omega)
  have ti := nI_toInt (n := i) (by omega)
  have tn := nI_toInt (n := n) (by omega)
  have t0 : (0 : Int32).toInt = 0 := rfl
  apply eX6_hill
  refine br_f (by (try simp only [fa_lt, fa_le, fa_eq, fa_lt64, fa_le64, fa_eq64, Int32.toInt_toInt64, lsub1, Int32.reduceToInt, Int64.reduceToInt, Int32.toInt_zero, Int64.toInt_zero, ti_m1, ti_m2, ti_m3, ti_m4, ti_m9] at *) <;> omega) (br_f (by (try simp only [fa_lt, fa_le, fa_eq, fa_lt64, fa_le64, fa_eq64, Int32.toInt_toInt64, lsub1, Int32.reduceToInt, Int64.reduceToInt, Int32.toInt_zero, Int64.toInt_zero, ti_m1, ti_m2, ti_m3, ti_m4, ti_m9] at *) <;> omega) (br_f (by (try simp only [fa_lt, fa_le, fa_eq, fa_lt64, fa_le64, fa_eq64, Int32.toInt_toInt64, lsub1, Int32.reduceToInt, Int64.reduceToInt, Int32.toInt_zero, Int64.toInt_zero, ti_m1, ti_m2, ti_m3, ti_m4, ti_m9] at *) <;> omega) (br_f (by (try simp only [fa_lt, fa_le, fa_eq, fa_lt64, fa_le64, fa_eq64, Int32.toInt_toInt64, lsub1, Int32.reduceToInt, Int64.reduceToInt, Int32.toInt_zero, Int64.toInt_zero, ti_m1, ti_m2, ti_m3, ti_m4, ti_m9] at *) <;> omega) (c_barred (z := nI n) ha hl e47 e48 (fun z => absurd rfl z) (fun _ z => ?_) (fun _ _ _ _ => br_t (by decide) ?_) (fun _ _ z => ?_)))))
  · rw [tn] at z
    omega
  · rw [fa_lit 60, pk_mul, nI_add]
    refine c_readsHill hR (by omega) (fun g T f e7 e8 e37 e38 => nb_t (by decide) ?_) (fun q T hF hG hq f e6 => nb_f rfl ?_)
    · obtain ⟨r1, r5, _, c2, c6, _⟩ := GT_n g
      rw [e7, e8]
      refine mh98 (S0 := sI (sI T 34 1 (nI (tR cd))) 34 2 (nI (tC cd))) r5 c6 (by simp (disch := omega) only [sI_o, sI_h, sF_o, sF_h, sJ_1, sI_2, sF_2, sJ_o, sJ_h]) (by simp (disch := omega) only [sI_o, sI_h, sF_o, sF_h, sJ_1, sI_2, sF_2, sJ_o, sJ_h]) (fun t ht => by simp (disch := omega) only [sI_o, sI_h, sF_o, sF_h, sJ_1, sI_2, sF_2, sJ_o, sJ_h]; exact e37 t ht) (fun c hc => by simp (disch := omega) only [sI_o, sI_h, sF_o, sF_h, sJ_1, sI_2, sF_2, sJ_o, sJ_h]; exact e38 c hc) (fun W w k1 k2 => ?_) (tC cd) 0 (by omega) _ (fun _ _ => rfl) (fun x hx => absurd hx (Nat.not_lt_zero _))
      have w34 : ∀ k, W.1 34 k = (sI (sI T 34 1 (nI (tR cd))) 34 2 (nI (tC cd))).1 34 k := fun k => by rw [w 34 (by decide) (by decide)]
      refine hok g _ (sI_h ⟨rfl, rfl⟩) ?_ ?_ ?_ ?_ ?_ (fun t ht => ?_) (fun c hc => ?_) (fun q h1 h2 h3 h4 h5 => ?_)
      · simp (disch := omega) only [sI_o, sI_h, sF_o, sF_h, sJ_1, sI_2, sF_2, sJ_o, sJ_h]
        rw [w34]
        simp (disch := omega) only [sI_o, sI_h, sF_o, sF_h, sJ_1, sI_2, sF_2, sJ_o, sJ_h]
      · simp (disch := omega) only [sI_o, sI_h, sF_o, sF_h, sJ_1, sI_2, sF_2, sJ_o, sJ_h]
        rw [w34]
        simp (disch := omega) only [sI_o, sI_h, sF_o, sF_h, sJ_1, sI_2, sF_2, sJ_o, sJ_h]
      · simp (disch := omega) only [sI_o, sI_h, sF_o, sF_h, sJ_1, sI_2, sF_2, sJ_o, sJ_h]
      · simp (disch := omega) only [sI_o, sI_h, sF_o, sF_h, sJ_1, sI_2, sF_2, sJ_o, sJ_h]
      · simp (disch := omega) only [sI_o, sI_h, sF_o, sF_h, sJ_1, sI_2, sF_2, sJ_o, sJ_h]
        rw [w34]
        simp (disch := omega) only [sI_o, sI_h, sF_o, sF_h, sJ_1, sI_2, sF_2, sJ_o, sJ_h]
        exact f.2.2 26 (by decide) (by decide) (by decide)
      · simp (disch := omega) only [sI_o, sI_h, sF_o, sF_h, sJ_1, sI_2, sF_2, sJ_o, sJ_h]
        exact k1 t ht
      · simp (disch := omega) only [sI_o, sI_h, sF_o, sF_h, sJ_1, sI_2, sF_2, sJ_o, sJ_h]
        exact k2 c hc
      · rw [sI_ne _ _ _ h1, sI_ne _ _ _ h1, sI_ne _ _ _ h1, w q h2 h3, sI_ne _ _ _ h1, sI_ne _ _ _ h1]
        exact f.2.1 q h1 h4 h5
    · rw [e6]
      exact hbad q T hF hG f
  · rw [ti, tn] at z
    omega
set_option maxRecDepth 100000 in
set_option maxHeartbeats 4000000 in
theorem ok_hill (x1 x2 x3 x4 : Int32) : OKI mdX5_hill mdX6_hill [.ref 0, .int x1, .int x2, .int x3, .int x4] [.ref 34, .int x1, .int x2, .int x3, .int x4] := by
  intro S hI
  obtain ⟨M, hM, hC, hm, hs, ht, hf⟩ := id hI
  apply eX5_hill
  rcases pk_ix x1 (n := 4) (by omega) with h | h | ⟨a, ha, rfl⟩
  · refine br_t h ?_
    apply eX6_hill
    exact br_t (by (try simp only [fa_lt, fa_le, fa_eq, fa_lt64, fa_le64, fa_eq64, Int32.toInt_toInt64, lsub1, Int32.reduceToInt, Int64.reduceToInt, Int32.toInt_zero, Int64.toInt_zero, ti_m1, ti_m2, ti_m3, ti_m4, ti_m9] at *) <;> omega) ⟨rfl, hI.flt 0⟩
  · have h : (4 : Int32) ≤ x1 := h
    refine br_f (by (try simp only [fa_lt, fa_le, fa_eq, fa_lt64, fa_le64, fa_eq64, Int32.toInt_toInt64, lsub1, Int32.reduceToInt, Int64.reduceToInt, Int32.toInt_zero, Int64.toInt_zero, ti_m1, ti_m2, ti_m3, ti_m4, ti_m9] at *) <;> omega) (br_t h ?_)
    apply eX6_hill
    exact br_f (by (try simp only [fa_lt, fa_le, fa_eq, fa_lt64, fa_le64, fa_eq64, Int32.toInt_toInt64, lsub1, Int32.reduceToInt, Int64.reduceToInt, Int32.toInt_zero, Int64.toInt_zero, ti_m1, ti_m2, ti_m3, ti_m4, ti_m9] at *) <;> omega) (br_t (by (try simp only [fa_lt, fa_le, fa_eq, fa_lt64, fa_le64, fa_eq64, Int32.toInt_toInt64, lsub1, Int32.reduceToInt, Int64.reduceToInt, Int32.toInt_zero, Int64.toInt_zero, ti_m1, ti_m2, ti_m3, ti_m4, ti_m9] at *) <;> omega) ⟨rfl, hI.flt 0⟩)
  have ta := nI_toInt (n := a) (by omega)
  have a3 : ¬ (nI a).toInt64 < 0 := (by (try simp only [fa_lt, fa_le, fa_eq, fa_lt64, fa_le64, fa_eq64, Int32.toInt_toInt64, lsub1, Int32.reduceToInt, Int64.reduceToInt, Int32.toInt_zero, Int64.toInt_zero, ti_m1, ti_m2, ti_m3, ti_m4, ti_m9] at *) <;> omega)
  have a4 : ¬ ((3 : Int64) < (nI a).toInt64) := (by (try simp only [fa_lt, fa_le, fa_eq, fa_lt64, fa_le64, fa_eq64, Int32.toInt_toInt64, lsub1, Int32.reduceToInt, Int64.reduceToInt, Int32.toInt_zero, Int64.toInt_zero, ti_m1, ti_m2, ti_m3, ti_m4, ti_m9] at *) <;> omega)
  refine br_f (by (try simp only [fa_lt, fa_le, fa_eq, fa_lt64, fa_le64, fa_eq64, Int32.toInt_toInt64, lsub1, Int32.reduceToInt, Int64.reduceToInt, Int32.toInt_zero, Int64.toInt_zero, ti_m1, ti_m2, ti_m3, ti_m4, ti_m9] at *) <;> omega) (br_f (by (try simp only [fa_lt, fa_le, fa_eq, fa_lt64, fa_le64, fa_eq64, Int32.toInt_toInt64, lsub1, Int32.reduceToInt, Int64.reduceToInt, Int32.toInt_zero, Int64.toInt_zero, ti_m1, ti_m2, ti_m3, ti_m4, ti_m9] at *) <;> omega) ?_)
  rcases pk_ix x2 (n := 3) (by omega) with h | h | ⟨la, hla, rfl⟩
  · refine br_t h ?_
    apply eX6_hill
    exact br_f a3 (br_f a4 (br_t (by (try simp only [fa_lt, fa_le, fa_eq, fa_lt64, fa_le64, fa_eq64, Int32.toInt_toInt64, lsub1, Int32.reduceToInt, Int64.reduceToInt, Int32.toInt_zero, Int64.toInt_zero, ti_m1, ti_m2, ti_m3, ti_m4, ti_m9] at *) <;> omega) ⟨rfl, hI.flt 0⟩))
  · have h : (3 : Int32) ≤ x2 := h
    refine br_f (by (try simp only [fa_lt, fa_le, fa_eq, fa_lt64, fa_le64, fa_eq64, Int32.toInt_toInt64, lsub1, Int32.reduceToInt, Int64.reduceToInt, Int32.toInt_zero, Int64.toInt_zero, ti_m1, ti_m2, ti_m3, ti_m4, ti_m9] at *) <;> omega) (br_t h ?_)
    apply eX6_hill
    exact br_f a3 (br_f a4 (br_f (by (try simp only [fa_lt, fa_le, fa_eq, fa_lt64, fa_le64, fa_eq64, Int32.toInt_toInt64, lsub1, Int32.reduceToInt, Int64.reduceToInt, Int32.toInt_zero, Int64.toInt_zero, ti_m1, ti_m2, ti_m3, ti_m4, ti_m9] at *) <;> omega) (br_t (by (try simp only [fa_lt, fa_le, fa_eq, fa_lt64, fa_le64, fa_eq64, Int32.toInt_toInt64, lsub1, Int32.reduceToInt, Int64.reduceToInt, Int32.toInt_zero, Int64.toInt_zero, ti_m1, ti_m2, ti_m3, ti_m4, ti_m9] at *) <;> omega) ⟨rfl, hI.flt 0⟩)))
  have tl := nI_toInt (n := la) (by omega)
  have a5 : ¬ (nI la).toInt64 < 0 := (by (try simp only [fa_lt, fa_le, fa_eq, fa_lt64, fa_le64, fa_eq64, Int32.toInt_toInt64, lsub1, Int32.reduceToInt, Int64.reduceToInt, Int32.toInt_zero, Int64.toInt_zero, ti_m1, ti_m2, ti_m3, ti_m4, ti_m9] at *) <;> omega)
  have a6 : ¬ ((2 : Int64) < (nI la).toInt64) := (by (try simp only [fa_lt, fa_le, fa_eq, fa_lt64, fa_le64, fa_eq64, Int32.toInt_toInt64, lsub1, Int32.reduceToInt, Int64.reduceToInt, Int32.toInt_zero, Int64.toInt_zero, ti_m1, ti_m2, ti_m3, ti_m4, ti_m9] at *) <;> omega)
  have ca := nI_clamp (n := a) (by omega)
  refine br_f (by (try simp only [fa_lt, fa_le, fa_eq, fa_lt64, fa_le64, fa_eq64, Int32.toInt_toInt64, lsub1, Int32.reduceToInt, Int64.reduceToInt, Int32.toInt_zero, Int64.toInt_zero, ti_m1, ti_m2, ti_m3, ti_m4, ti_m9] at *) <;> omega) (br_f (by (try simp only [fa_lt, fa_le, fa_eq, fa_lt64, fa_le64, fa_eq64, Int32.toInt_toInt64, lsub1, Int32.reduceToInt, Int64.reduceToInt, Int32.toInt_zero, Int64.toInt_zero, ti_m1, ti_m2, ti_m3, ti_m4, ti_m9] at *) <;> omega) ⟨pk_in a 4 ha, ?_⟩)
  rw [ca]
  simp (disch := omega) only [sI_o, sI_h, sI2]
  have e47 : ∀ f, (sI S 0 6 f).1 47 a = S.1 47 a := fun _ => rfl
  have e48 : ∀ f, (sI S 0 6 f).1 48 a = S.1 48 a := fun _ => rfl
  have into : ∀ {U : St} {P : Int32 → St → Prop}, CallV mdX6_cellsBarred [.ref 34, .int (nI a), .int (nI la), .int x3, .long x4.toInt64] U (qI fun r6 S5 => (0 ≤ r6 → CallV mdX6_readsHill [.ref 34, .int (60 * nI a + x3), .int x4] S5 (qI fun r9 S8 => (¬ r9 = 0 → V mdX6_hill 98 [some (.ref 34), none, none, none, none, none, some (.int (0 : Int32))] [] (sI (sI S8 34 1 (S8.1 34 7)) 34 2 (S8.1 34 8)) (qI P)) ∧ (r9 = 0 → P (-100 - S8.1 34 6) (sI S8 34 0 0)))) ∧ (¬ 0 ≤ r6 → P r6 S5)) → CallV mdX6_hill [.ref 34, .int (nI a), .int (nI la), .int x3, .int x4] U (qI P) := fun {U P} h => by
    apply eX6_hill
    exact br_f a3 (br_f a4 (br_f a5 (br_f a6 h)))
  rcases hs.all a ha with ⟨b1, b2⟩ | ⟨b1, l, l', b2, b3, b4, b5, b6, b7, b8⟩
  · refine nb_f b1 (into (c_gone ha (by rw [e47]; exact b2) (br_f (by decide) ⟨rfl, hI.flt 1⟩)))
  have tl' := nI_toInt (n := l) (by omega)
  rw [b1, b4, b5]
  have t0 : (0 : Int32).toInt = 0 := rfl
  have bad : nI l' = nI la → 0 ≤ x4.toInt → ¬ (0 ≤ x3.toInt ∧ x3.toInt + x4.toInt ≤ l) → CallV mdX6_hill [.ref 34, .int (nI a), .int (nI la), .int x3, .int x4] (sI S 0 6 3) (qI fun r2 S2 => (-13 : Int32) = r2 ∧ INV S2) := fun c hn hb => into (c_barred (z := x4) ha b2 (by rw [e47]; exact b6) (by rw [e48]; exact b7) (fun q => absurd c q) (fun _ q => absurd q (by omega)) (fun _ _ q1 q2 => absurd ⟨q1, q2⟩ hb) (fun _ _ _ => br_f (by decide) ⟨rfl, hI.flt 3⟩))
  refine nb_t (by decide) ⟨fun c => ?_, fun c => ⟨fun hn => br_f (by decide) ⟨fun d => bad c (by (try simp only [fa_lt, fa_le, fa_eq, fa_lt64, fa_le64, fa_eq64, Int32.toInt_toInt64, lsub1, Int32.reduceToInt, Int64.reduceToInt, Int32.toInt_zero, Int64.toInt_zero, ti_m1, ti_m2, ti_m3, ti_m4, ti_m9] at *) <;> omega) (by (try simp only [fa_lt, fa_le, fa_eq, fa_lt64, fa_le64, fa_eq64, Int32.toInt_toInt64, lsub1, Int32.reduceToInt, Int64.reduceToInt, Int32.toInt_zero, Int64.toInt_zero, ti_m1, ti_m2, ti_m3, ti_m4, ti_m9] at *) <;> omega), fun d => br_f (by (try simp only [fa_lt, fa_le, fa_eq, fa_lt64, fa_le64, fa_eq64, Int32.toInt_toInt64, lsub1, Int32.reduceToInt, Int64.reduceToInt, Int32.toInt_zero, Int64.toInt_zero, ti_m1, ti_m2, ti_m3, ti_m4, ti_m9] at *) <;> omega) ⟨fun d2 => bad c (by (try simp only [fa_lt, fa_le, fa_eq, fa_lt64, fa_le64, fa_eq64, Int32.toInt_toInt64, lsub1, Int32.reduceToInt, Int64.reduceToInt, Int32.toInt_zero, Int64.toInt_zero, ti_m1, ti_m2, ti_m3, ti_m4, ti_m9] at *) <;> omega) (by (try simp only [fa_lt, fa_le, fa_eq, fa_lt64, fa_le64, fa_eq64, Int32.toInt_toInt64, lsub1, Int32.reduceToInt, Int64.reduceToInt, Int32.toInt_zero, Int64.toInt_zero, ti_m1, ti_m2, ti_m3, ti_m4, ti_m9] at *) <;> omega), fun d2 => ?_⟩⟩, fun hn => ?_⟩⟩
  · exact into (c_barred (z := x4) ha b2 (by rw [e47]; exact b6) (by rw [e48]; exact b7) (fun _ => br_f (by decide) ⟨rfl, hI.flt 2⟩) (fun q => absurd q c) (fun q => absurd q c) (fun q => absurd q c))
  · obtain ⟨i, hi, e⟩ : ∃ i, i ≤ l ∧ x3 = nI i := by
      rcases pk_ix x3 (n := l + 1) (by omega) with h | h | ⟨i, hi, rfl⟩
      · exact absurd h d
      · exact absurd (show nI l < x3 by rw [fa_lt, tl']; rw [fa_le, nI_toInt (by omega)] at h; omega) d2
      · exact ⟨i, by omega, rfl⟩
    subst e
    have ti := nI_toInt (n := i) (by omega)
    rw [pk_sub hi]
    have tli := nI_toInt (n := l - i) (by omega)
    refine ⟨fun d3 => bad c (by (try simp only [fa_lt, fa_le, fa_eq, fa_lt64, fa_le64, fa_eq64, Int32.toInt_toInt64, lsub1, Int32.reduceToInt, Int64.reduceToInt, Int32.toInt_zero, Int64.toInt_zero, ti_m1, ti_m2, ti_m3, ti_m4, ti_m9] at *) <;> omega) (by (try simp only [fa_lt, fa_le, fa_eq, fa_lt64, fa_le64, fa_eq64, Int32.toInt_toInt64, lsub1, Int32.reduceToInt, Int64.reduceToInt, Int32.toInt_zero, Int64.toInt_zero, ti_m1, ti_m2, ti_m3, ti_m4, ti_m9] at *) <;> omega), fun d3 => ?_⟩
    obtain ⟨n, hnl, e⟩ : ∃ n, i + n ≤ l ∧ x4 = nI n := by
      rcases pk_ix x4 (n := l - i + 1) (by omega) with h | h | ⟨n, hn', rfl⟩
      · exact absurd hn (by (try simp only [fa_lt, fa_le, fa_eq, fa_lt64, fa_le64, fa_eq64, Int32.toInt_toInt64, lsub1, Int32.reduceToInt, Int64.reduceToInt, Int32.toInt_zero, Int64.toInt_zero, ti_m1, ti_m2, ti_m3, ti_m4, ti_m9] at *) <;> omega)
      · exact absurd (show nI (l - i) < x4 by rw [fa_lt, tli]; rw [fa_le, nI_toInt (by omega)] at h; omega) d3
      · exact ⟨n, by omega, rfl⟩
    subst e
    have hX : TX (sI S 0 6 0) (fun q => S.1 (26 + 2 * a + 1) (i + q)) (26 + 2 * a) i n l := ⟨isSh_k ha, b2, hnl, by rw [sI_o (by omega)]; exact b1, by rw [sI_o (by omega)]; exact b5, fun q hq => by rw [sI_o (by omega)]⟩
    rw [nI_eq (by omega) (by omega)] at c
    have hRD : ∀ U : St, U.1 49 = S.1 49 → RD U (fun q => S.1 (26 + 2 * a + 1) (i + q)) (60 * a + i) n := fun U u => ⟨by omega, fun q hq => by rw [u, Nat.add_assoc]; exact (b8 (i + q) (by omega)).symm⟩
    apply eX2_firstFault hX.1
    refine ff9 (cd := fun q => S.1 (26 + 2 * a + 1) (i + q)) hX.1 b2 hnl hX.2.2.2.1 hX.2.2.2.2.1 hX.2.2.2.2.2 (fun g => br_t (by decide) ?_) (fun q hF hG hq => br_f (by rw [fa_lt, nI_toInt (by omega)]; omega) ?_) n 0 (by omega) (fun p hp => absurd hp (Nat.not_lt_zero _))
    · refine c_build hX g (fun T f hB es => ?_)
      obtain ⟨r1, r5, _, c2, c6, _⟩ := GT_n g
      rw [hB.1, hB.2.1, pk_mul]
      have uq : ∀ q, q ≠ 0 → q ≠ 1 → q ≠ 2 → q ≠ 3 → q ≠ 4 → (sI T 4 2 0).1 q = S.1 q := fun q h0 h1 h2 h3 h4 => by rw [sI_ne _ _ _ h4, f.2 q h1 h2 h3, sI_ne _ _ _ h0]
      refine m_hill (cd := fun q => S.1 (26 + 2 * a + 1) (i + q)) ha hla b2 hnl (by rw [uq 47 (by decide) (by decide) (by decide) (by decide) (by decide)]; exact b6) (by rw [uq 48 (by decide) (by decide) (by decide) (by decide) (by decide), ← c]; exact b7) (hRD _ (uq 49 (by decide) (by decide) (by decide) (by decide) (by decide))) (fun _ F k0 k1 k2 k5 k11 k26 kp ks kq => ⟨rfl, tM M (fun q => S.1 (26 + 2 * a + 1) (i + q)), tM_ok g, ?_, ?_, ?_, ?_, ?_⟩) (fun q T' _ hG => absurd g hG)
      · have f1 : F.1 1 = T.1 1 := by rw [kq 1 (by decide) (by decide) (by decide) (by decide) (by decide), sI_ne _ _ _ (by decide)]
        have f2 : F.1 2 = T.1 2 := by rw [kq 2 (by decide) (by decide) (by decide) (by decide) (by decide), sI_ne _ _ _ (by decide)]
        have f3 : F.1 3 = T.1 3 := by rw [kq 3 (by decide) (by decide) (by decide) (by decide) (by decide), sI_ne _ _ _ (by decide)]
        have f4 : F.1 4 2 = 0 := by rw [kq 4 (by decide) (by decide) (by decide) (by decide) (by decide), sI_h ⟨rfl, rfl⟩]
        refine ⟨?_, ?_, ?_, f4, ?_, ?_, fun v hv => absurd hv (Nat.not_lt_zero _), fun v hv => absurd hv (Nat.not_lt_zero _)⟩
        · rw [f1]; exact hB.1
        · rw [f1]; exact hB.2.1
        · rw [f1]; exact hB.2.2.1
        · rw [f2]; exact es
        · rw [f3]; exact hB.2.2.2
      · exact ⟨k1, k2, k5, k11, ks, kp, fun v hv => absurd hv (Nat.not_lt_zero _), fun v hv => absurd hv (Nat.not_lt_zero _)⟩
      · exact hs.eqs (fun q hq => by rw [kq q (by omega) (by omega) (by omega) (by omega) (by omega)]; exact uq q (by omega) (by omega) (by omega) (by omega) (by omega))
      · rw [k26, kq 0 (by decide) (by decide) (by decide) (by decide) (by decide), uq 34 (by decide) (by decide) (by decide) (by decide) (by decide), sI_ne _ _ _ (by decide), f.2 0 (by decide) (by decide) (by decide), sI_o (by decide)]
        exact ht
      · rw [k0, kq 0 (by decide) (by decide) (by decide) (by decide) (by decide), sI_ne _ _ _ (by decide), f.2 0 (by decide) (by decide) (by decide), sI_h ⟨rfl, rfl⟩]
    · refine m_hill (cd := fun q => S.1 (26 + 2 * a + 1) (i + q)) ha hla b2 hnl (by rw [e47]; exact b6) (by rw [e48, ← c]; exact b7) (hRD _ (sI_ne _ _ _ (by decide))) (fun g => absurd g hG) (fun q' T hF' _ f => ⟨by rw [FF_one hF hF'], M, hM, ?_, ?_, ?_, ?_, ?_⟩)
      · refine hC.pw (fun p i h1 h6 => ?_)
        rw [sI_ne _ _ _ (by omega), f.2.1 p (by omega) (by omega) (by omega), sI_ne _ _ _ (by omega)]
      · refine hm.pw (fun i h => ?_) (fun p i h => ?_)
        · rw [sI_o (by omega), f.2.2 i (by omega) (by omega) (by omega), sI_ne _ _ _ (by omega)]
        · rw [sI_ne _ _ _ (by omega), f.2.1 p (by omega) (by omega) (by omega), sI_ne _ _ _ (by omega)]
      · exact hs.eqs (fun q hq => by rw [sI_ne _ _ _ (by omega), f.2.1 q (by omega) (by omega) (by omega), sI_ne _ _ _ (by omega)])
      · rw [sI_ne _ _ _ (by decide), f.2.1 0 (by decide) (by decide) (by decide), sI_o (by decide), sI_o (by decide), f.2.2 26 (by decide) (by decide) (by decide), sI_ne _ _ _ (by decide)]
        exact ht
      · rw [sI_ne _ _ _ (by decide), f.2.1 0 (by decide) (by decide) (by decide), sI_h ⟨rfl, rfl⟩, sI_h ⟨rfl, rfl⟩]
  · exact into (c_barred (z := x4) ha b2 (by rw [e47]; exact b6) (by rw [e48]; exact b7) (fun q => absurd c q) (fun _ _ => br_f (by decide) ⟨rfl, hI.flt 4⟩) (fun _ z => absurd z (by rw [fa_le] at hn; omega)) (fun _ z => absurd z (by rw [fa_le] at hn; omega)))
