/-! ===== ways ===== -/
set_option maxRecDepth 100000 in
set_option maxHeartbeats 4000000 in
theorem cw141 {M : MS} {T : Nat → Nat} {S0 : St} {Q : Int32 → St → Prop} {x1 : Int32} (hM : OKM M) (hC0 : CI S0 M) (hT : ∀ e, e < 7 → S0.1 20 e = nI (T e)) (htot : tot T = mN M) (hA : x1 = -1 → ∀ S', FrR 9 26 S0 S' → Q (nI (WS (vE M) 7 (mN M) al T)) S') (hB : ∀ v, v < mN M → x1 = nI v → ∀ S', FrR 9 26 S0 S' → Q (nI (msk 7 (wE (vE M) T (mN M) v 7))) S') (hx : x1 = -1 ∨ ∃ v, v < mN M ∧ x1 = nI v) : ∀ d i, i + d = mN M → ∀ S, FrR 9 22 S0 S → S.1 20 = S0.1 20 → (∀ v, v < i → S.1 21 v = nI (msk 7 (vE M v))) → V mdX5_ways 141 [some (.ref 0), some (.int x1), none, none, none, none, none, some (.int (nI i))] [] S (qI Q) := by
  have n8 := hM.n8
  intro d
  induction d with
  | zero =>
    intro i hi S f e20 k
    have hC := hC0.fr f (by omega)
    have : i = mN M := by omega
    subst this
    apply eX5_ways_141
    rw [hC.n]
    refine br_t (nI_le (Nat.le_refl _) (by omega)) ?_
    by_cases q : x1 = -1
    · refine nb_f q (c_rows (fun e he => by rw [e20]; exact hT e he) k htot n8 (fun S' g => hA q S' ⟨g.1.trans f.1, fun p hp => (g.2 p (by omega) (by omega) (by omega)).trans (f.2 p (by omega))⟩))
    · obtain ⟨v, hv, e⟩ := hx.resolve_left q
      refine nb_t q ?_
      rw [e]
      exact c_endsOfRows hv (fun e he => by rw [e20]; exact hT e he) k htot n8 (fun S' g2 g => hB v hv e S' ⟨g2.trans f.1, fun p hp => (g p (by omega) (by omega) (by omega) (by omega)).trans (f.2 p (by omega))⟩)
  | succ d ih =>
    intro i hi S f e20 k
    have hC := hC0.fr f (by omega)
    apply eX5_ways_141
    rw [hC.n, nI_1 i, nI_clamp (n := i) (by omega)]
    refine br_f (nI_ge (by omega) (by omega)) (c_endsOf hM hC (by omega) (fun S' g => ⟨pk_in i 8 (by omega), ih (i + 1) (by omega) _ ((f.tr (g.mono (by omega) (by omega))).tr (FrR.put (by omega) (by omega))) ?_ (fun v hv => ?_)⟩))
    · rw [sI_ne _ _ _ (by decide), g.2 20 (by omega)]
      exact e20
    · by_cases z : v = i
      · subst z
        rw [sI_h ⟨rfl, rfl⟩]
      · rw [sI_o (Or.inr z), g.at (by omega)]
        exact k v (by omega)
def okv (M : MS) (x : Int32) : Prop := x = -1 ∨ ∃ v, v < mN M ∧ x = nI v
theorem INV.wy {U F : St} {M : MS} (hM : OKM M) (hC : CI U M) (hm : MI U M) (hs : SHS U) (ht : U.1 0 5 = U.1 34 26) (f0 : F.1 34 0 = U.1 0 6) (fo : ∀ q, q ≠ 34 → q ≠ 44 → q ≠ 45 → q ≠ 46 → F.1 q = U.1 q) (fi : ∀ i, i ≠ 0 → F.1 34 i = U.1 34 i) : INV F := by
  refine ⟨M, hM, hC.pw (fun p i h1 h6 => by rw [fo p (by omega) (by omega) (by omega) (by omega)]), hm.pw (fun i hi => fi i (by omega)) (fun p i hp => by rw [fo p (by omega) (by omega) (by omega) (by omega)]), hs.eqs (fun q hq => fo q (by omega) (by omega) (by omega) (by omega)), ?_, ?_⟩
  · rw [fo 0 (by decide) (by decide) (by decide) (by decide), fi 26 (by decide)]
    exact ht
  · rw [fo 0 (by decide) (by decide) (by decide) (by decide), f0]
set_option maxRecDepth 100000 in
set_option maxHeartbeats 4000000 in
theorem ok_ways (x1 x2 x3 x4 : Int32) : OKI mdX5_ways mdX6_ways [.ref 0, .int x1, .int x2, .int x3, .int x4] [.ref 34, .int x1, .int x2, .int x3, .int x4] := by
  intro S hI
  obtain ⟨M, hM, hC, hm, hs, ht, hf⟩ := id hI
  have n8 := hM.n8
  have w6 := hM.w6
  have h5 := hM.h5
  have hwh := hM.hw
  have tn := nI_toInt (n := mN M) (by omega)
  have tw := nI_toInt (n := mW M) (by omega)
  have t0 : (0 : Int32).toInt = 0 := rfl
  have tm1 : (-1 : Int32).toInt = -1 := rfl
  have mi : ∀ f, MI (sI S 0 6 f) M := fun _ => hm
  have pre : ∀ {U : St} {P : Int32 → St → Prop}, MI U M → okv M x1 → ((x2.toInt64 < (0 : Int64) → P (-1 : Int32) (sI U 34 0 (0 : Int32))) ∧ (¬ x2.toInt64 < (0 : Int64) → (((3 : Int64) < x2.toInt64 → P (-1 : Int32) (sI U 34 0 (0 : Int32))) ∧ (¬ (3 : Int64) < x2.toInt64 → ((x3.toInt64 < (0 : Int64) → P (-2 : Int32) (sI U 34 0 (0 : Int32))) ∧ (¬ x3.toInt64 < (0 : Int64) → (((2 : Int64) < x3.toInt64 → P (-2 : Int32) (sI U 34 0 (0 : Int32))) ∧ (¬ (2 : Int64) < x3.toInt64 → ((¬ (U.1 34 1) = 0 → CallV mdX6_cellsBarred [.ref 34, .int x2, .int x3, .int x4, .long ((U.1 34 2).toInt64 + (1 : Int64))] U (qI fun r8 S7 => ((0 ≤ r8 → CallV mdX6_layCan [.ref 34] S7 (qV fun S10 => ((0 ≤ x1 → V mdX6_ways 114 [some (.ref 34), some (.int x1), some (.int x2), none, some (.int x4), none, some (.int (0 : Int32)), some (.int (0 : Int32)), none] [] S10 (qI P)) ∧ (¬ 0 ≤ x1 → CallV mdX6_waysBy [.ref 34, .int (((60 : Int32) * x2) + x4)] S10 (qI fun r13 S12 => P r13 (sI S12 34 0 (0 : Int32))))))) ∧ (¬ 0 ≤ r8 → P r8 S7)))) ∧ ((U.1 34 1) = 0 → P (-3 : Int32) (sI U 34 0 (0 : Int32)))))))))))) → CallV mdX6_ways [.ref 34, .int x1, .int x2, .int x3, .int x4] U (qI P) := fun {U P} hu hx h => by
    apply eX6_ways
    rw [hu.n]
    by_cases q : x1 = -1
    · exact br_t q h
    · obtain ⟨v, hv, e⟩ := Or.resolve_left hx q
      have tv := nI_toInt (n := v) (by omega)
      rw [← e] at tv
      exact br_f q (br_f (by (try simp only [fa_lt, fa_le, fa_eq, fa_lt64, fa_le64, fa_eq64, Int32.toInt_toInt64, lsub1, Int32.reduceToInt, Int64.reduceToInt, Int32.toInt_zero, Int64.toInt_zero, ti_m1, ti_m2, ti_m3, ti_m4, ti_m9] at *) <;> omega) (br_f (by (try simp only [fa_lt, fa_le, fa_eq, fa_lt64, fa_le64, fa_eq64, Int32.toInt_toInt64, lsub1, Int32.reduceToInt, Int64.reduceToInt, Int32.toInt_zero, Int64.toInt_zero, ti_m1, ti_m2, ti_m3, ti_m4, ti_m9] at *) <;> omega) h))
  by_cases hbad : ¬ (x1 = -1) ∧ (x1 < 0 ∨ nI (mN M) ≤ x1)
  · apply eX5_ways
    rw [hC.n]
    obtain ⟨q, h | h⟩ := hbad
    · refine br_f q (br_t h ?_)
      apply eX6_ways
      rw [(mi 0).n]
      exact br_f q (br_t (by (try simp only [fa_lt, fa_le, fa_eq, fa_lt64, fa_le64, fa_eq64, Int32.toInt_toInt64, lsub1, Int32.reduceToInt, Int64.reduceToInt, Int32.toInt_zero, Int64.toInt_zero, ti_m1, ti_m2, ti_m3, ti_m4, ti_m9] at *) <;> omega) ⟨rfl, hI.flt 0⟩)
    · refine br_f q (br_f (by (try simp only [fa_lt, fa_le, fa_eq, fa_lt64, fa_le64, fa_eq64, Int32.toInt_toInt64, lsub1, Int32.reduceToInt, Int64.reduceToInt, Int32.toInt_zero, Int64.toInt_zero, ti_m1, ti_m2, ti_m3, ti_m4, ti_m9] at *) <;> omega) (br_t h ?_))
      apply eX6_ways
      rw [(mi 0).n]
      exact br_f q (br_f (by (try simp only [fa_lt, fa_le, fa_eq, fa_lt64, fa_le64, fa_eq64, Int32.toInt_toInt64, lsub1, Int32.reduceToInt, Int64.reduceToInt, Int32.toInt_zero, Int64.toInt_zero, ti_m1, ti_m2, ti_m3, ti_m4, ti_m9] at *) <;> omega) (br_t (by (try simp only [fa_lt, fa_le, fa_eq, fa_lt64, fa_le64, fa_eq64, Int32.toInt_toInt64, lsub1, Int32.reduceToInt, Int64.reduceToInt, Int32.toInt_zero, Int64.toInt_zero, ti_m1, ti_m2, ti_m3, ti_m4, ti_m9] at *) <;> omega) ⟨rfl, hI.flt 0⟩))
  have hx : okv M x1 := by
    by_cases q : x1 = -1
    · exact Or.inl q
    · refine Or.inr ?_
      rcases pk_ix x1 (n := mN M) (by omega) with h | h | ⟨v, hv, e⟩
      · exact absurd ⟨q, Or.inl h⟩ hbad
      · exact absurd ⟨q, Or.inr h⟩ hbad
      · exact ⟨v, hv, e⟩
  have pr : ∀ f, MI (sI S 0 6 f) M := mi
  apply eX5_ways
  rw [hC.n]
  by_cases hx1 : x1 = -1
  · refine br_t hx1 ?_
    rcases pk_ix x2 (n := 4) (by omega) with h | h | ⟨a, ha, rfl⟩
    · exact br_t h (pre (pr 0) hx (br_t (by (try simp only [fa_lt, fa_le, fa_eq, fa_lt64, fa_le64, fa_eq64, Int32.toInt_toInt64, lsub1, Int32.reduceToInt, Int64.reduceToInt, Int32.toInt_zero, Int64.toInt_zero, ti_m1, ti_m2, ti_m3, ti_m4, ti_m9] at *) <;> omega) ⟨rfl, hI.flt 0⟩))
    · have h : (4 : Int32) ≤ x2 := h
      exact br_f (by (try simp only [fa_lt, fa_le, fa_eq, fa_lt64, fa_le64, fa_eq64, Int32.toInt_toInt64, lsub1, Int32.reduceToInt, Int64.reduceToInt, Int32.toInt_zero, Int64.toInt_zero, ti_m1, ti_m2, ti_m3, ti_m4, ti_m9] at *) <;> omega) (br_t h (pre (pr 0) hx (br_f (by (try simp only [fa_lt, fa_le, fa_eq, fa_lt64, fa_le64, fa_eq64, Int32.toInt_toInt64, lsub1, Int32.reduceToInt, Int64.reduceToInt, Int32.toInt_zero, Int64.toInt_zero, ti_m1, ti_m2, ti_m3, ti_m4, ti_m9] at *) <;> omega) (br_t (by (try simp only [fa_lt, fa_le, fa_eq, fa_lt64, fa_le64, fa_eq64, Int32.toInt_toInt64, lsub1, Int32.reduceToInt, Int64.reduceToInt, Int32.toInt_zero, Int64.toInt_zero, ti_m1, ti_m2, ti_m3, ti_m4, ti_m9] at *) <;> omega) ⟨rfl, hI.flt 0⟩))))
    have ta := nI_toInt (n := a) (by omega)
    have a3 : ¬ (nI a).toInt64 < 0 := (by (try simp only [fa_lt, fa_le, fa_eq, fa_lt64, fa_le64, fa_eq64, Int32.toInt_toInt64, lsub1, Int32.reduceToInt, Int64.reduceToInt, Int32.toInt_zero, Int64.toInt_zero, ti_m1, ti_m2, ti_m3, ti_m4, ti_m9] at *) <;> omega)
    have a4 : ¬ ((3 : Int64) < (nI a).toInt64) := (by (try simp only [fa_lt, fa_le, fa_eq, fa_lt64, fa_le64, fa_eq64, Int32.toInt_toInt64, lsub1, Int32.reduceToInt, Int64.reduceToInt, Int32.toInt_zero, Int64.toInt_zero, ti_m1, ti_m2, ti_m3, ti_m4, ti_m9] at *) <;> omega)
    refine br_f (by (try simp only [fa_lt, fa_le, fa_eq, fa_lt64, fa_le64, fa_eq64, Int32.toInt_toInt64, lsub1, Int32.reduceToInt, Int64.reduceToInt, Int32.toInt_zero, Int64.toInt_zero, ti_m1, ti_m2, ti_m3, ti_m4, ti_m9] at *) <;> omega) (br_f (by (try simp only [fa_lt, fa_le, fa_eq, fa_lt64, fa_le64, fa_eq64, Int32.toInt_toInt64, lsub1, Int32.reduceToInt, Int64.reduceToInt, Int32.toInt_zero, Int64.toInt_zero, ti_m1, ti_m2, ti_m3, ti_m4, ti_m9] at *) <;> omega) ?_)
    rcases pk_ix x3 (n := 3) (by omega) with h | h | ⟨la, hla, rfl⟩
    · exact br_t h (pre (pr 0) hx (br_f a3 (br_f a4 (br_t (by (try simp only [fa_lt, fa_le, fa_eq, fa_lt64, fa_le64, fa_eq64, Int32.toInt_toInt64, lsub1, Int32.reduceToInt, Int64.reduceToInt, Int32.toInt_zero, Int64.toInt_zero, ti_m1, ti_m2, ti_m3, ti_m4, ti_m9] at *) <;> omega) ⟨rfl, hI.flt 0⟩))))
    · have h : (3 : Int32) ≤ x3 := h
      exact br_f (by (try simp only [fa_lt, fa_le, fa_eq, fa_lt64, fa_le64, fa_eq64, Int32.toInt_toInt64, lsub1, Int32.reduceToInt, Int64.reduceToInt, Int32.toInt_zero, Int64.toInt_zero, ti_m1, ti_m2, ti_m3, ti_m4, ti_m9] at *) <;> omega) (br_t h (pre (pr 0) hx (br_f a3 (br_f a4 (br_f (by (try simp only [fa_lt, fa_le, fa_eq, fa_lt64, fa_le64, fa_eq64, Int32.toInt_toInt64, lsub1, Int32.reduceToInt, Int64.reduceToInt, Int32.toInt_zero, Int64.toInt_zero, ti_m1, ti_m2, ti_m3, ti_m4, ti_m9] at *) <;> omega) (br_t (by (try simp only [fa_lt, fa_le, fa_eq, fa_lt64, fa_le64, fa_eq64, Int32.toInt_toInt64, lsub1, Int32.reduceToInt, Int64.reduceToInt, Int32.toInt_zero, Int64.toInt_zero, ti_m1, ti_m2, ti_m3, ti_m4, ti_m9] at *) <;> omega) ⟨rfl, hI.flt 0⟩))))))
    have tl := nI_toInt (n := la) (by omega)
    have a5 : ¬ (nI la).toInt64 < 0 := (by (try simp only [fa_lt, fa_le, fa_eq, fa_lt64, fa_le64, fa_eq64, Int32.toInt_toInt64, lsub1, Int32.reduceToInt, Int64.reduceToInt, Int32.toInt_zero, Int64.toInt_zero, ti_m1, ti_m2, ti_m3, ti_m4, ti_m9] at *) <;> omega)
    have a6 : ¬ ((2 : Int64) < (nI la).toInt64) := (by (try simp only [fa_lt, fa_le, fa_eq, fa_lt64, fa_le64, fa_eq64, Int32.toInt_toInt64, lsub1, Int32.reduceToInt, Int64.reduceToInt, Int32.toInt_zero, Int64.toInt_zero, ti_m1, ti_m2, ti_m3, ti_m4, ti_m9] at *) <;> omega)
    have ca := nI_clamp (n := a) (by omega)
    refine br_f (by (try simp only [fa_lt, fa_le, fa_eq, fa_lt64, fa_le64, fa_eq64, Int32.toInt_toInt64, lsub1, Int32.reduceToInt, Int64.reduceToInt, Int32.toInt_zero, Int64.toInt_zero, ti_m1, ti_m2, ti_m3, ti_m4, ti_m9] at *) <;> omega) (br_f (by (try simp only [fa_lt, fa_le, fa_eq, fa_lt64, fa_le64, fa_eq64, Int32.toInt_toInt64, lsub1, Int32.reduceToInt, Int64.reduceToInt, Int32.toInt_zero, Int64.toInt_zero, ti_m1, ti_m2, ti_m3, ti_m4, ti_m9] at *) <;> omega) ?_)
    rw [hC.w]
    by_cases h0 : mW M = 0
    · refine br_t (by rw [h0]; decide) (pre (pr 0) hx (br_f a3 (br_f a4 (br_f a5 (br_f a6 ?_)))))
      rw [(mi 0).h]
      exact nb_f (by rw [hwh.2 h0]; rfl) ⟨rfl, hI.flt 0⟩
    have hH : ¬ nI (mH M) = 0 := by
      rw [fa_lit 0, nI_eq (by omega) (by omega)]
      omega
    refine br_f (by (try simp only [fa_lt, fa_le, fa_eq, fa_lt64, fa_le64, fa_eq64, Int32.toInt_toInt64, lsub1, Int32.reduceToInt, Int64.reduceToInt, Int32.toInt_zero, Int64.toInt_zero, ti_m1, ti_m2, ti_m3, ti_m4, ti_m9] at *) <;> omega) ⟨pk_in a 4 ha, ?_⟩
    rw [ca, nI_1 (mW M)]
    simp (disch := omega) only [sI_o, sI_h, sI2]
    have e47 : ∀ f, (sI S 0 6 f).1 47 a = S.1 47 a := fun _ => rfl
    have e48 : ∀ f, (sI S 0 6 f).1 48 a = S.1 48 a := fun _ => rfl
    have into : ∀ {U : St} {P : Int32 → St → Prop}, MI U M → CallV mdX6_cellsBarred [.ref 34, .int (nI a), .int (nI la), .int x4, .long (nI (mW M + 1)).toInt64] U (qI fun r8 S7 => ((0 ≤ r8 → CallV mdX6_layCan [.ref 34] S7 (qV fun S10 => ((0 ≤ x1 → V mdX6_ways 114 [some (.ref 34), some (.int x1), some (.int (nI a)), none, some (.int x4), none, some (.int (0 : Int32)), some (.int (0 : Int32)), none] [] S10 (qI P)) ∧ (¬ 0 ≤ x1 → CallV mdX6_waysBy [.ref 34, .int (((60 : Int32) * nI a) + x4)] S10 (qI fun r13 S12 => P r13 (sI S12 34 0 (0 : Int32))))))) ∧ (¬ 0 ≤ r8 → P r8 S7))) → CallV mdX6_ways [.ref 34, .int x1, .int (nI a), .int (nI la), .int x4] U (qI P) := fun {U P} hu h => by
      refine pre hu hx (br_f a3 (br_f a4 (br_f a5 (br_f a6 ?_))))
      rw [hu.h, hu.w, nI_l (by omega), fa_litL 1, lN_add, ← nI_l (by omega)]
      exact nb_t hH h
    have tw1 := nI_toInt (n := mW M + 1) (by omega)
    rcases hs.all a ha with ⟨b1, b2⟩ | ⟨b1, l, l', b2, b3, b4, b5, b6, b7, b8⟩
    · exact nb_f b1 (into (pr 1) (c_gone ha (by rw [e47]; exact b2) (br_f (by decide) ⟨rfl, hI.flt 1⟩)))
    have tl' := nI_toInt (n := l) (by omega)
    rw [b1, b4, b5]
    have bad : nI l' = nI la → ¬ (0 ≤ x4.toInt ∧ x4.toInt + (nI (mW M + 1)).toInt ≤ l) → CallV mdX6_ways [.ref 34, .int x1, .int (nI a), .int (nI la), .int x4] (sI S 0 6 3) (qI fun r2 S2 => (-13 : Int32) = r2 ∧ INV S2) := fun c hb => into (pr 3) (c_barred (z := nI (mW M + 1)) ha b2 (by rw [e47]; exact b6) (by rw [e48]; exact b7) (fun q => absurd c q) (fun _ q => absurd q (by omega)) (fun _ _ q1 q2 => absurd ⟨q1, q2⟩ hb) (fun _ _ _ => br_f (by decide) ⟨rfl, hI.flt 3⟩))
    refine nb_t (by decide) ⟨fun c => ?_, fun c => br_f (by decide) ⟨fun d => bad c (by (try simp only [fa_lt, fa_le, fa_eq, fa_lt64, fa_le64, fa_eq64, Int32.toInt_toInt64, lsub1, Int32.reduceToInt, Int64.reduceToInt, Int32.toInt_zero, Int64.toInt_zero, ti_m1, ti_m2, ti_m3, ti_m4, ti_m9] at *) <;> omega), fun d => br_f (by (try simp only [fa_lt, fa_le, fa_eq, fa_lt64, fa_le64, fa_eq64, Int32.toInt_toInt64, lsub1, Int32.reduceToInt, Int64.reduceToInt, Int32.toInt_zero, Int64.toInt_zero, ti_m1, ti_m2, ti_m3, ti_m4, ti_m9] at *) <;> omega) ⟨fun d2 => bad c (by (try simp only [fa_lt, fa_le, fa_eq, fa_lt64, fa_le64, fa_eq64, Int32.toInt_toInt64, lsub1, Int32.reduceToInt, Int64.reduceToInt, Int32.toInt_zero, Int64.toInt_zero, ti_m1, ti_m2, ti_m3, ti_m4, ti_m9] at *) <;> omega), fun d2 => ?_⟩⟩⟩
    · exact into (pr 2) (c_barred (z := nI (mW M + 1)) ha b2 (by rw [e47]; exact b6) (by rw [e48]; exact b7) (fun _ => br_f (by decide) ⟨rfl, hI.flt 2⟩) (fun q => absurd q c) (fun q => absurd q c) (fun q => absurd q c))
    obtain ⟨i, hi, e⟩ : ∃ i, i ≤ l ∧ x4 = nI i := by
      rcases pk_ix x4 (n := l + 1) (by omega) with h | h | ⟨i, hi, rfl⟩
      · exact absurd h d
      · exact absurd (show nI l < x4 by rw [fa_lt, tl']; rw [fa_le, nI_toInt (by omega)] at h; omega) d2
      · exact ⟨i, by omega, rfl⟩
    subst e
    have ti := nI_toInt (n := i) (by omega)
    rw [pk_sub hi]
    have tli := nI_toInt (n := l - i) (by omega)
    refine ⟨fun d3 => bad c (by (try simp only [fa_lt, fa_le, fa_eq, fa_lt64, fa_le64, fa_eq64, Int32.toInt_toInt64, lsub1, Int32.reduceToInt, Int64.reduceToInt, Int32.toInt_zero, Int64.toInt_zero, ti_m1, ti_m2, ti_m3, ti_m4, ti_m9] at *) <;> omega), fun d3 => ?_⟩
    have hil : i + (mW M + 1) ≤ l := by
      rw [fa_lt, tli, tw1] at d3
      omega
    have hX : TX (sI S 0 6 0) (fun q => S.1 (26 + 2 * a + 1) (i + q)) (26 + 2 * a) i (mW M + 1) l := ⟨isSh_k ha, b2, hil, by rw [sI_o (by omega)]; exact b1, by rw [sI_o (by omega)]; exact b5, fun q hq => by rw [sI_o (by omega)]⟩
    have okb : ∀ {U : St} {P : Int32 → St → Prop}, MI U M → U.1 47 a = S.1 47 a → U.1 48 a = S.1 48 a → CallV mdX6_layCan [.ref 34] U (qV fun S10 => ((0 ≤ x1 → V mdX6_ways 114 [some (.ref 34), some (.int x1), some (.int (nI a)), none, some (.int (nI i)), none, some (.int (0 : Int32)), some (.int (0 : Int32)), none] [] S10 (qI P)) ∧ (¬ 0 ≤ x1 → CallV mdX6_waysBy [.ref 34, .int (((60 : Int32) * nI a) + nI i)] S10 (qI fun r13 S12 => P r13 (sI S12 34 0 (0 : Int32)))))) → CallV mdX6_ways [.ref 34, .int x1, .int (nI a), .int (nI la), .int (nI i)] U (qI P) := fun {U P} hu u1 u2 h => into hu (c_barred (z := nI (mW M + 1)) ha b2 (by rw [u1]; exact b6) (by rw [u2]; exact b7) (fun q => absurd c q) (fun _ q => absurd q (by omega)) (fun _ _ _ _ => br_t (by decide) h) (fun _ _ q => absurd ⟨by omega, by omega⟩ q))
    have model : ∀ (U : St), CI U M → SHS U → U.1 0 5 = U.1 34 26 → MI U M → U.1 0 6 = 0 → (∀ q, 26 ≤ q → U.1 q = S.1 q) → ∀ (r : Int32), (x1 = -1 → r = nI (WS (Ej (vE M) (mW M)) (mW M + 1) (mN M) al (Tj (fun q => S.1 (26 + 2 * a + 1) (i + q))))) → (∀ v, v < mN M → x1 = nI v → r = nI (msk 7 (xB (bE2 (vE M) (mW M) (mN M) v (Tj (fun q => S.1 (26 + 2 * a + 1) (i + q)))) 7))) → CallV mdX6_ways [.ref 34, .int x1, .int (nI a), .int (nI la), .int (nI i)] U (qI fun r2 S2 => r = r2 ∧ INV S2) := fun U hCU hSU htU hu u06 uq r hA hB => okb hu (by rw [uq 47 (by omega)]) (by rw [uq 48 (by omega)]) (c_layCan hM hu (fun T t1 t2 => by
      have hmT : MI T M := hu.pw (fun i _ => by rw [t1 34 (by decide)]) (fun p i hp => by rw [t1 p (by omega)])
      have hcd : ∀ j, j ≤ mW M → T.1 49 (60 * a + i + j) = S.1 (26 + 2 * a + 1) (i + j) := fun j hj => by
        rw [t1 49 (by decide), uq 49 (by omega), Nat.add_assoc]
        exact (b8 (i + j) (by omega)).symm
      rcases hx with q | ⟨v, hv, q⟩
      · refine br_f (by rw [q]; decide) ?_
        rw [fa_lit 60, pk_mul, nI_add]
        refine c_waysBy (E := vE M) (cd := fun q => S.1 (26 + 2 * a + 1) (i + q)) n8 w6 (by omega) hmT.n ⟨hmT.w, t2, hcd⟩ (fun F f => ⟨hA q, INV.wy hM hCU hu hSU htU (by rw [sI_h ⟨rfl, rfl⟩, u06]) (fun p h1 h2 h3 h4 => by rw [sI_ne _ _ _ h1, f.2 p h3 h4, t1 p h2]) (fun i hi => by rw [sI_o (Or.inr hi), f.2 34 (by decide) (by decide), t1 34 (by decide)])⟩)
      · refine br_t (by rw [q, fa_lit 0]; exact nI_le (by omega) (by omega)) ?_
        rw [q]
        have := mw114 (M := M) (a := a) (i := i) (v := v) (cd := fun q => S.1 (26 + 2 * a + 1) (i + q)) (S0 := T) (Q := fun r2 S2 => r = r2 ∧ INV S2) hM hmT ha (by omega) hv hcd (fun F f => ⟨hB v hv q, INV.wy hM hCU hu hSU htU (by rw [sI_h ⟨rfl, rfl⟩, u06]) (fun p h1 h2 h3 h4 => by rw [sI_ne _ _ _ h1, f p h2 h3 h4, t1 p h2]) (fun i hi => by rw [sI_o (Or.inr hi), f 34 (by decide) (by decide) (by decide), t1 34 (by decide)])⟩) 7 0 (by omega) T (fun _ _ _ _ => rfl) t2
        rw [show msk 7 (xB (bE2 (vE M) (mW M) (mN M) v (Tj (fun q => S.1 (26 + 2 * a + 1) (i + q)))) 0) = 0 from sm_zero (fun x _ => if_neg (by unfold xB; simp))] at this
        exact this))
    have ci0 : CI (sI S 0 6 0) M := hC
    have go : ∀ {S' : St}, FrR 9 26 (sI S 0 6 0) S' → ∀ (r : Int32), (x1 = -1 → r = nI (WS (Ej (vE M) (mW M)) (mW M + 1) (mN M) al (Tj (fun q => S.1 (26 + 2 * a + 1) (i + q))))) → (∀ v, v < mN M → x1 = nI v → r = nI (msk 7 (xB (bE2 (vE M) (mW M) (mN M) v (Tj (fun q => S.1 (26 + 2 * a + 1) (i + q)))) 7))) → CallV mdX6_ways [.ref 34, .int x1, .int (nI a), .int (nI la), .int (nI i)] S' (qI fun r2 S2 => r = r2 ∧ INV S2) := fun {S'} f => model S' (ci0.fr f (by omega)) (hs.eqs (fun q hq => by rw [f.2 q (by omega), sI_ne _ _ _ (by omega)])) (by rw [f.at (by omega), f.at (by omega), sI_o (by decide), sI_o (by decide)]; exact ht) ((mi 0).fr f (by omega)) (by rw [f.at (by omega), sI_h ⟨rfl, rfl⟩]) (fun q hq => by
      rcases Nat.lt_or_ge q 26 with z | z
      · omega
      · rw [f.2 q (by omega), sI_ne _ _ _ (by omega)])
    have vm : ∀ v, v < mN M → ¬ (nI v = -1) := fun v hv z => by
      rw [fa_eq, nI_toInt (by omega)] at z
      omega
    refine c_take (cd := fun q => S.1 (26 + 2 * a + 1) (i + q)) hX w6 n8 (fun hs1 S1 f1 k1 => nb_t (by decide) ?_) (fun hs0 S1 f1 => nb_f rfl ?_)
    · refine cw141 (T := tT (mW M) (Tj (fun q => S.1 (26 + 2 * a + 1) (i + q)))) hM (ci0.fr f1 (by omega)) k1 ((tT_sum w6).trans hs1) (fun q S' g => go ((f1.mono (by omega) (by omega)).tr g) _ (fun _ => by rw [WS_tT w6]) (fun v hv e => absurd (e.symm.trans q) (vm v hv))) (fun v hv e S' g => go ((f1.mono (by omega) (by omega)).tr g) _ (fun q => absurd (e.symm.trans q) (vm v hv)) (fun v' hv' e' => ?_)) hx (mN M) 0 (by omega) S1 FrR.rfl rfl (fun v hv => absurd hv (Nat.not_lt_zero _))
      have ev : v' = v := by
        have := e'.symm.trans e
        rw [nI_eq (by omega) (by omega)] at this
        exact this
      subst ev
      refine congrArg nI (msk_eq (fun y _ => ?_))
      unfold wE xB bE2
      rw [WS_tT w6]
    · have z0 : ∀ E, WS E (mW M + 1) (mN M) al (Tj (fun q => S.1 (26 + 2 * a + 1) (i + q))) = 0 := fun E => WS_bal _ _ hs0
      refine go (f1.mono (by omega) (by omega)) _ (fun _ => by rw [z0]; rfl) (fun v hv e => ?_)
      rw [show msk 7 (xB (bE2 (vE M) (mW M) (mN M) v (Tj (fun q => S.1 (26 + 2 * a + 1) (i + q)))) 7) = 0 from sm_zero (fun x _ => if_neg (by unfold xB bE2; rw [z0]; simp))]
      rfl
  · obtain ⟨v1, hv1, ev1⟩ := Or.resolve_left hx hx1
    have tv1 := nI_toInt (n := v1) (by omega)
    rw [← ev1] at tv1
    refine br_f hx1 (br_f (by (try simp only [fa_lt, fa_le, fa_eq, fa_lt64, fa_le64, fa_eq64, Int32.toInt_toInt64, lsub1, Int32.reduceToInt, Int64.reduceToInt, Int32.toInt_zero, Int64.toInt_zero, ti_m1, ti_m2, ti_m3, ti_m4, ti_m9] at *) <;> omega) (br_f (by (try simp only [fa_lt, fa_le, fa_eq, fa_lt64, fa_le64, fa_eq64, Int32.toInt_toInt64, lsub1, Int32.reduceToInt, Int64.reduceToInt, Int32.toInt_zero, Int64.toInt_zero, ti_m1, ti_m2, ti_m3, ti_m4, ti_m9] at *) <;> omega) ?_))
    rcases pk_ix x2 (n := 4) (by omega) with h | h | ⟨a, ha, rfl⟩
    · exact br_t h (pre (pr 0) hx (br_t (by (try simp only [fa_lt, fa_le, fa_eq, fa_lt64, fa_le64, fa_eq64, Int32.toInt_toInt64, lsub1, Int32.reduceToInt, Int64.reduceToInt, Int32.toInt_zero, Int64.toInt_zero, ti_m1, ti_m2, ti_m3, ti_m4, ti_m9] at *) <;> omega) ⟨rfl, hI.flt 0⟩))
    · have h : (4 : Int32) ≤ x2 := h
      exact br_f (by (try simp only [fa_lt, fa_le, fa_eq, fa_lt64, fa_le64, fa_eq64, Int32.toInt_toInt64, lsub1, Int32.reduceToInt, Int64.reduceToInt, Int32.toInt_zero, Int64.toInt_zero, ti_m1, ti_m2, ti_m3, ti_m4, ti_m9] at *) <;> omega) (br_t h (pre (pr 0) hx (br_f (by (try simp only [fa_lt, fa_le, fa_eq, fa_lt64, fa_le64, fa_eq64, Int32.toInt_toInt64, lsub1, Int32.reduceToInt, Int64.reduceToInt, Int32.toInt_zero, Int64.toInt_zero, ti_m1, ti_m2, ti_m3, ti_m4, ti_m9] at *) <;> omega) (br_t (by (try simp only [fa_lt, fa_le, fa_eq, fa_lt64, fa_le64, fa_eq64, Int32.toInt_toInt64, lsub1, Int32.reduceToInt, Int64.reduceToInt, Int32.toInt_zero, Int64.toInt_zero, ti_m1, ti_m2, ti_m3, ti_m4, ti_m9] at *) <;> omega) ⟨rfl, hI.flt 0⟩))))
    have ta := nI_toInt (n := a) (by omega)
    have a3 : ¬ (nI a).toInt64 < 0 := (by (try simp only [fa_lt, fa_le, fa_eq, fa_lt64, fa_le64, fa_eq64, Int32.toInt_toInt64, lsub1, Int32.reduceToInt, Int64.reduceToInt, Int32.toInt_zero, Int64.toInt_zero, ti_m1, ti_m2, ti_m3, ti_m4, ti_m9] at *) <;> omega)
    have a4 : ¬ ((3 : Int64) < (nI a).toInt64) := (by (try simp only [fa_lt, fa_le, fa_eq, fa_lt64, fa_le64, fa_eq64, Int32.toInt_toInt64, lsub1, Int32.reduceToInt, Int64.reduceToInt, Int32.toInt_zero, Int64.toInt_zero, ti_m1, ti_m2, ti_m3, ti_m4, ti_m9] at *) <;> omega)
    refine br_f (by (try simp only [fa_lt, fa_le, fa_eq, fa_lt64, fa_le64, fa_eq64, Int32.toInt_toInt64, lsub1, Int32.reduceToInt, Int64.reduceToInt, Int32.toInt_zero, Int64.toInt_zero, ti_m1, ti_m2, ti_m3, ti_m4, ti_m9] at *) <;> omega) (br_f (by (try simp only [fa_lt, fa_le, fa_eq, fa_lt64, fa_le64, fa_eq64, Int32.toInt_toInt64, lsub1, Int32.reduceToInt, Int64.reduceToInt, Int32.toInt_zero, Int64.toInt_zero, ti_m1, ti_m2, ti_m3, ti_m4, ti_m9] at *) <;> omega) ?_)
    rcases pk_ix x3 (n := 3) (by omega) with h | h | ⟨la, hla, rfl⟩
    · exact br_t h (pre (pr 0) hx (br_f a3 (br_f a4 (br_t (by (try simp only [fa_lt, fa_le, fa_eq, fa_lt64, fa_le64, fa_eq64, Int32.toInt_toInt64, lsub1, Int32.reduceToInt, Int64.reduceToInt, Int32.toInt_zero, Int64.toInt_zero, ti_m1, ti_m2, ti_m3, ti_m4, ti_m9] at *) <;> omega) ⟨rfl, hI.flt 0⟩))))
    · have h : (3 : Int32) ≤ x3 := h
      exact br_f (by (try simp only [fa_lt, fa_le, fa_eq, fa_lt64, fa_le64, fa_eq64, Int32.toInt_toInt64, lsub1, Int32.reduceToInt, Int64.reduceToInt, Int32.toInt_zero, Int64.toInt_zero, ti_m1, ti_m2, ti_m3, ti_m4, ti_m9] at *) <;> omega) (br_t h (pre (pr 0) hx (br_f a3 (br_f a4 (br_f (by (try simp only [fa_lt, fa_le, fa_eq, fa_lt64, fa_le64, fa_eq64, Int32.toInt_toInt64, lsub1, Int32.reduceToInt, Int64.reduceToInt, Int32.toInt_zero, Int64.toInt_zero, ti_m1, ti_m2, ti_m3, ti_m4, ti_m9] at *) <;> omega) (br_t (by (try simp only [fa_lt, fa_le, fa_eq, fa_lt64, fa_le64, fa_eq64, Int32.toInt_toInt64, lsub1, Int32.reduceToInt, Int64.reduceToInt, Int32.toInt_zero, Int64.toInt_zero, ti_m1, ti_m2, ti_m3, ti_m4, ti_m9] at *) <;> omega) ⟨rfl, hI.flt 0⟩))))))
    have tl := nI_toInt (n := la) (by omega)
    have a5 : ¬ (nI la).toInt64 < 0 := (by (try simp only [fa_lt, fa_le, fa_eq, fa_lt64, fa_le64, fa_eq64, Int32.toInt_toInt64, lsub1, Int32.reduceToInt, Int64.reduceToInt, Int32.toInt_zero, Int64.toInt_zero, ti_m1, ti_m2, ti_m3, ti_m4, ti_m9] at *) <;> omega)
    have a6 : ¬ ((2 : Int64) < (nI la).toInt64) := (by (try simp only [fa_lt, fa_le, fa_eq, fa_lt64, fa_le64, fa_eq64, Int32.toInt_toInt64, lsub1, Int32.reduceToInt, Int64.reduceToInt, Int32.toInt_zero, Int64.toInt_zero, ti_m1, ti_m2, ti_m3, ti_m4, ti_m9] at *) <;> omega)
    have ca := nI_clamp (n := a) (by omega)
    refine br_f (by (try simp only [fa_lt, fa_le, fa_eq, fa_lt64, fa_le64, fa_eq64, Int32.toInt_toInt64, lsub1, Int32.reduceToInt, Int64.reduceToInt, Int32.toInt_zero, Int64.toInt_zero, ti_m1, ti_m2, ti_m3, ti_m4, ti_m9] at *) <;> omega) (br_f (by (try simp only [fa_lt, fa_le, fa_eq, fa_lt64, fa_le64, fa_eq64, Int32.toInt_toInt64, lsub1, Int32.reduceToInt, Int64.reduceToInt, Int32.toInt_zero, Int64.toInt_zero, ti_m1, ti_m2, ti_m3, ti_m4, ti_m9] at *) <;> omega) ?_)
    rw [hC.w]
    by_cases h0 : mW M = 0
    · refine br_t (by rw [h0]; decide) (pre (pr 0) hx (br_f a3 (br_f a4 (br_f a5 (br_f a6 ?_)))))
      rw [(mi 0).h]
      exact nb_f (by rw [hwh.2 h0]; rfl) ⟨rfl, hI.flt 0⟩
    have hH : ¬ nI (mH M) = 0 := by
      rw [fa_lit 0, nI_eq (by omega) (by omega)]
      omega
    refine br_f (by (try simp only [fa_lt, fa_le, fa_eq, fa_lt64, fa_le64, fa_eq64, Int32.toInt_toInt64, lsub1, Int32.reduceToInt, Int64.reduceToInt, Int32.toInt_zero, Int64.toInt_zero, ti_m1, ti_m2, ti_m3, ti_m4, ti_m9] at *) <;> omega) ⟨pk_in a 4 ha, ?_⟩
    rw [ca, nI_1 (mW M)]
    simp (disch := omega) only [sI_o, sI_h, sI2]
    have e47 : ∀ f, (sI S 0 6 f).1 47 a = S.1 47 a := fun _ => rfl
    have e48 : ∀ f, (sI S 0 6 f).1 48 a = S.1 48 a := fun _ => rfl
    have into : ∀ {U : St} {P : Int32 → St → Prop}, MI U M → CallV mdX6_cellsBarred [.ref 34, .int (nI a), .int (nI la), .int x4, .long (nI (mW M + 1)).toInt64] U (qI fun r8 S7 => ((0 ≤ r8 → CallV mdX6_layCan [.ref 34] S7 (qV fun S10 => ((0 ≤ x1 → V mdX6_ways 114 [some (.ref 34), some (.int x1), some (.int (nI a)), none, some (.int x4), none, some (.int (0 : Int32)), some (.int (0 : Int32)), none] [] S10 (qI P)) ∧ (¬ 0 ≤ x1 → CallV mdX6_waysBy [.ref 34, .int (((60 : Int32) * nI a) + x4)] S10 (qI fun r13 S12 => P r13 (sI S12 34 0 (0 : Int32))))))) ∧ (¬ 0 ≤ r8 → P r8 S7))) → CallV mdX6_ways [.ref 34, .int x1, .int (nI a), .int (nI la), .int x4] U (qI P) := fun {U P} hu h => by
      refine pre hu hx (br_f a3 (br_f a4 (br_f a5 (br_f a6 ?_))))
      rw [hu.h, hu.w, nI_l (by omega), fa_litL 1, lN_add, ← nI_l (by omega)]
      exact nb_t hH h
    have tw1 := nI_toInt (n := mW M + 1) (by omega)
    rcases hs.all a ha with ⟨b1, b2⟩ | ⟨b1, l, l', b2, b3, b4, b5, b6, b7, b8⟩
    · exact nb_f b1 (into (pr 1) (c_gone ha (by rw [e47]; exact b2) (br_f (by decide) ⟨rfl, hI.flt 1⟩)))
    have tl' := nI_toInt (n := l) (by omega)
    rw [b1, b4, b5]
    have bad : nI l' = nI la → ¬ (0 ≤ x4.toInt ∧ x4.toInt + (nI (mW M + 1)).toInt ≤ l) → CallV mdX6_ways [.ref 34, .int x1, .int (nI a), .int (nI la), .int x4] (sI S 0 6 3) (qI fun r2 S2 => (-13 : Int32) = r2 ∧ INV S2) := fun c hb => into (pr 3) (c_barred (z := nI (mW M + 1)) ha b2 (by rw [e47]; exact b6) (by rw [e48]; exact b7) (fun q => absurd c q) (fun _ q => absurd q (by omega)) (fun _ _ q1 q2 => absurd ⟨q1, q2⟩ hb) (fun _ _ _ => br_f (by decide) ⟨rfl, hI.flt 3⟩))
    refine nb_t (by decide) ⟨fun c => ?_, fun c => br_f (by decide) ⟨fun d => bad c (by (try simp only [fa_lt, fa_le, fa_eq, fa_lt64, fa_le64, fa_eq64, Int32.toInt_toInt64, lsub1, Int32.reduceToInt, Int64.reduceToInt, Int32.toInt_zero, Int64.toInt_zero, ti_m1, ti_m2, ti_m3, ti_m4, ti_m9] at *) <;> omega), fun d => br_f (by (try simp only [fa_lt, fa_le, fa_eq, fa_lt64, fa_le64, fa_eq64, Int32.toInt_toInt64, lsub1, Int32.reduceToInt, Int64.reduceToInt, Int32.toInt_zero, Int64.toInt_zero, ti_m1, ti_m2, ti_m3, ti_m4, ti_m9] at *) <;> omega) ⟨fun d2 => bad c (by (try simp only [fa_lt, fa_le, fa_eq, fa_lt64, fa_le64, fa_eq64, Int32.toInt_toInt64, lsub1, Int32.reduceToInt, Int64.reduceToInt, Int32.toInt_zero, Int64.toInt_zero, ti_m1, ti_m2, ti_m3, ti_m4, ti_m9] at *) <;> omega), fun d2 => ?_⟩⟩⟩
    · exact into (pr 2) (c_barred (z := nI (mW M + 1)) ha b2 (by rw [e47]; exact b6) (by rw [e48]; exact b7) (fun _ => br_f (by decide) ⟨rfl, hI.flt 2⟩) (fun q => absurd q c) (fun q => absurd q c) (fun q => absurd q c))
    obtain ⟨i, hi, e⟩ : ∃ i, i ≤ l ∧ x4 = nI i := by
      rcases pk_ix x4 (n := l + 1) (by omega) with h | h | ⟨i, hi, rfl⟩
      · exact absurd h d
      · exact absurd (show nI l < x4 by rw [fa_lt, tl']; rw [fa_le, nI_toInt (by omega)] at h; omega) d2
      · exact ⟨i, by omega, rfl⟩
    subst e
    have ti := nI_toInt (n := i) (by omega)
    rw [pk_sub hi]
    have tli := nI_toInt (n := l - i) (by omega)
    refine ⟨fun d3 => bad c (by (try simp only [fa_lt, fa_le, fa_eq, fa_lt64, fa_le64, fa_eq64, Int32.toInt_toInt64, lsub1, Int32.reduceToInt, Int64.reduceToInt, Int32.toInt_zero, Int64.toInt_zero, ti_m1, ti_m2, ti_m3, ti_m4, ti_m9] at *) <;> omega), fun d3 => ?_⟩
    have hil : i + (mW M + 1) ≤ l := by
      rw [fa_lt, tli, tw1] at d3
      omega
    have hX : TX (sI S 0 6 0) (fun q => S.1 (26 + 2 * a + 1) (i + q)) (26 + 2 * a) i (mW M + 1) l := ⟨isSh_k ha, b2, hil, by rw [sI_o (by omega)]; exact b1, by rw [sI_o (by omega)]; exact b5, fun q hq => by rw [sI_o (by omega)]⟩
    have okb : ∀ {U : St} {P : Int32 → St → Prop}, MI U M → U.1 47 a = S.1 47 a → U.1 48 a = S.1 48 a → CallV mdX6_layCan [.ref 34] U (qV fun S10 => ((0 ≤ x1 → V mdX6_ways 114 [some (.ref 34), some (.int x1), some (.int (nI a)), none, some (.int (nI i)), none, some (.int (0 : Int32)), some (.int (0 : Int32)), none] [] S10 (qI P)) ∧ (¬ 0 ≤ x1 → CallV mdX6_waysBy [.ref 34, .int (((60 : Int32) * nI a) + nI i)] S10 (qI fun r13 S12 => P r13 (sI S12 34 0 (0 : Int32)))))) → CallV mdX6_ways [.ref 34, .int x1, .int (nI a), .int (nI la), .int (nI i)] U (qI P) := fun {U P} hu u1 u2 h => into hu (c_barred (z := nI (mW M + 1)) ha b2 (by rw [u1]; exact b6) (by rw [u2]; exact b7) (fun q => absurd c q) (fun _ q => absurd q (by omega)) (fun _ _ _ _ => br_t (by decide) h) (fun _ _ q => absurd ⟨by omega, by omega⟩ q))
    have model : ∀ (U : St), CI U M → SHS U → U.1 0 5 = U.1 34 26 → MI U M → U.1 0 6 = 0 → (∀ q, 26 ≤ q → U.1 q = S.1 q) → ∀ (r : Int32), (x1 = -1 → r = nI (WS (Ej (vE M) (mW M)) (mW M + 1) (mN M) al (Tj (fun q => S.1 (26 + 2 * a + 1) (i + q))))) → (∀ v, v < mN M → x1 = nI v → r = nI (msk 7 (xB (bE2 (vE M) (mW M) (mN M) v (Tj (fun q => S.1 (26 + 2 * a + 1) (i + q)))) 7))) → CallV mdX6_ways [.ref 34, .int x1, .int (nI a), .int (nI la), .int (nI i)] U (qI fun r2 S2 => r = r2 ∧ INV S2) := fun U hCU hSU htU hu u06 uq r hA hB => okb hu (by rw [uq 47 (by omega)]) (by rw [uq 48 (by omega)]) (c_layCan hM hu (fun T t1 t2 => by
      have hmT : MI T M := hu.pw (fun i _ => by rw [t1 34 (by decide)]) (fun p i hp => by rw [t1 p (by omega)])
      have hcd : ∀ j, j ≤ mW M → T.1 49 (60 * a + i + j) = S.1 (26 + 2 * a + 1) (i + j) := fun j hj => by
        rw [t1 49 (by decide), uq 49 (by omega), Nat.add_assoc]
        exact (b8 (i + j) (by omega)).symm
      rcases hx with q | ⟨v, hv, q⟩
      · refine br_f (by rw [q]; decide) ?_
        rw [fa_lit 60, pk_mul, nI_add]
        refine c_waysBy (E := vE M) (cd := fun q => S.1 (26 + 2 * a + 1) (i + q)) n8 w6 (by omega) hmT.n ⟨hmT.w, t2, hcd⟩ (fun F f => ⟨hA q, INV.wy hM hCU hu hSU htU (by rw [sI_h ⟨rfl, rfl⟩, u06]) (fun p h1 h2 h3 h4 => by rw [sI_ne _ _ _ h1, f.2 p h3 h4, t1 p h2]) (fun i hi => by rw [sI_o (Or.inr hi), f.2 34 (by decide) (by decide), t1 34 (by decide)])⟩)
      · refine br_t (by rw [q, fa_lit 0]; exact nI_le (by omega) (by omega)) ?_
        rw [q]
        have := mw114 (M := M) (a := a) (i := i) (v := v) (cd := fun q => S.1 (26 + 2 * a + 1) (i + q)) (S0 := T) (Q := fun r2 S2 => r = r2 ∧ INV S2) hM hmT ha (by omega) hv hcd (fun F f => ⟨hB v hv q, INV.wy hM hCU hu hSU htU (by rw [sI_h ⟨rfl, rfl⟩, u06]) (fun p h1 h2 h3 h4 => by rw [sI_ne _ _ _ h1, f p h2 h3 h4, t1 p h2]) (fun i hi => by rw [sI_o (Or.inr hi), f 34 (by decide) (by decide) (by decide), t1 34 (by decide)])⟩) 7 0 (by omega) T (fun _ _ _ _ => rfl) t2
        rw [show msk 7 (xB (bE2 (vE M) (mW M) (mN M) v (Tj (fun q => S.1 (26 + 2 * a + 1) (i + q)))) 0) = 0 from sm_zero (fun x _ => if_neg (by unfold xB; simp))] at this
        exact this))
    have ci0 : CI (sI S 0 6 0) M := hC
    have go : ∀ {S' : St}, FrR 9 26 (sI S 0 6 0) S' → ∀ (r : Int32), (x1 = -1 → r = nI (WS (Ej (vE M) (mW M)) (mW M + 1) (mN M) al (Tj (fun q => S.1 (26 + 2 * a + 1) (i + q))))) → (∀ v, v < mN M → x1 = nI v → r = nI (msk 7 (xB (bE2 (vE M) (mW M) (mN M) v (Tj (fun q => S.1 (26 + 2 * a + 1) (i + q)))) 7))) → CallV mdX6_ways [.ref 34, .int x1, .int (nI a), .int (nI la), .int (nI i)] S' (qI fun r2 S2 => r = r2 ∧ INV S2) := fun {S'} f => model S' (ci0.fr f (by omega)) (hs.eqs (fun q hq => by rw [f.2 q (by omega), sI_ne _ _ _ (by omega)])) (by rw [f.at (by omega), f.at (by omega), sI_o (by decide), sI_o (by decide)]; exact ht) ((mi 0).fr f (by omega)) (by rw [f.at (by omega), sI_h ⟨rfl, rfl⟩]) (fun q hq => by
      rcases Nat.lt_or_ge q 26 with z | z
      · omega
      · rw [f.2 q (by omega), sI_ne _ _ _ (by omega)])
    have vm : ∀ v, v < mN M → ¬ (nI v = -1) := fun v hv z => by
      rw [fa_eq, nI_toInt (by omega)] at z
      omega
    refine c_take (cd := fun q => S.1 (26 + 2 * a + 1) (i + q)) hX w6 n8 (fun hs1 S1 f1 k1 => nb_t (by decide) ?_) (fun hs0 S1 f1 => nb_f rfl ?_)
    · refine cw141 (T := tT (mW M) (Tj (fun q => S.1 (26 + 2 * a + 1) (i + q)))) hM (ci0.fr f1 (by omega)) k1 ((tT_sum w6).trans hs1) (fun q S' g => go ((f1.mono (by omega) (by omega)).tr g) _ (fun _ => by rw [WS_tT w6]) (fun v hv e => absurd (e.symm.trans q) (vm v hv))) (fun v hv e S' g => go ((f1.mono (by omega) (by omega)).tr g) _ (fun q => absurd (e.symm.trans q) (vm v hv)) (fun v' hv' e' => ?_)) hx (mN M) 0 (by omega) S1 FrR.rfl rfl (fun v hv => absurd hv (Nat.not_lt_zero _))
      have ev : v' = v := by
        have := e'.symm.trans e
        rw [nI_eq (by omega) (by omega)] at this
        exact this
      subst ev
      refine congrArg nI (msk_eq (fun y _ => ?_))
      unfold wE xB bE2
      rw [WS_tT w6]
    · have z0 : ∀ E, WS E (mW M + 1) (mN M) al (Tj (fun q => S.1 (26 + 2 * a + 1) (i + q))) = 0 := fun E => WS_bal _ _ hs0
      refine go (f1.mono (by omega) (by omega)) _ (fun _ => by rw [z0]; rfl) (fun v hv e => ?_)
      rw [show msk 7 (xB (bE2 (vE M) (mW M) (mN M) v (Tj (fun q => S.1 (26 + 2 * a + 1) (i + q)))) 7) = 0 from sm_zero (fun x _ => if_neg (by unfold xB bE2; rw [z0]; simp))]
      rfl
