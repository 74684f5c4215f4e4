theorem INV.flt3 {S : St} (h : INV S) (u v w : Int32) : INV (sI (sI (sI (sI S 0 6 u) 0 6 v) 34 0 w) 34 0 v) := by
  rw [sI2]
  exact h.flt2 u v
theorem INV.flt4 {S : St} (h : INV S) (v w : Int32) : INV (sI (sI (sI S 0 6 v) 34 0 w) 34 0 v) := by
  rw [sI2]
  exact h.flt v
set_option maxRecDepth 100000 in
set_option maxHeartbeats 4000000 in
theorem c_at {p n : Nat} (hp : isSh p) {x : Int32} {S : St} {Q : Int32 → St → Prop} (hn : n ≤ 60) (e1 : S.1 p 1 = 1) (e3 : S.1 p 3 = nI n) (h1 : ¬ (0 ≤ x.toInt ∧ x.toInt < n) → Q 0 S) (h2 : ∀ i, i < n → x = nI i → Q (S.1 (p + 1) i) S) : CallV mdX3_at [.ref p, .int x] S (qI Q) := by
  have tn := nI_toInt (n := n) (by omega)
  apply eX3_at hp
  rw [e1, e3]
  refine br_f (by decide) ⟨fun c => h1 (by (try simp only [fa_lt, fa_le, fa_eq, fa_lt64, fa_le64, fa_eq64, Int32.toInt_toInt64, lsub1, Int32.reduceToInt, Int64.reduceToInt, Int32.toInt_zero, Int64.toInt_zero, ti_m1, ti_m2, ti_m3, ti_m4, ti_m9] at *) <;> omega), fun c => ⟨fun d => h1 (by (try simp only [fa_lt, fa_le, fa_eq, fa_lt64, fa_le64, fa_eq64, Int32.toInt_toInt64, lsub1, Int32.reduceToInt, Int64.reduceToInt, Int32.toInt_zero, Int64.toInt_zero, ti_m1, ti_m2, ti_m3, ti_m4, ti_m9] at *) <;> omega), fun d => ?_⟩⟩
  rcases pk_ix x (n := n) (by omega) with q | q | ⟨i, hi, rfl⟩
  · exact absurd q c
  · exact absurd q d
  · rw [nI_clamp (by omega)]
    exact ⟨pk_in i 60 (by omega), h2 i hi rfl⟩
set_option maxRecDepth 100000 in
set_option maxHeartbeats 4000000 in
theorem ok_cell (x1 x2 x3 : Int32) : OKJ mdX5_cell mdX6_cell [.ref 0, .int x1, .int x2, .int x3] [.ref 34, .int x1, .int x2, .int x3] := by
  intro S hI
  obtain ⟨M, hM, hC, hm, hs, ht, hf⟩ := id hI
  apply eX5_cell
  rcases pk_ix x1 (n := 4) (by omega) with h | h | ⟨k, hk, rfl⟩
  · refine br_t h ?_
    apply eX6_cell
    exact br_t (by (try simp only [fa_lt, fa_le, fa_eq, fa_lt64, fa_le64, fa_eq64, Int32.toInt_toInt64, lsub1, Int32.reduceToInt, Int64.reduceToInt, Int32.toInt_zero, Int64.toInt_zero, ti_m1, ti_m2, ti_m3, ti_m4, ti_m9] at *) <;> omega) ⟨rfl, hI.flt 0⟩
  · have h : (4 : Int32) ≤ x1 := h
    refine br_f (by (try simp only [fa_lt, fa_le, fa_eq, fa_lt64, fa_le64, fa_eq64, Int32.toInt_toInt64, lsub1, Int32.reduceToInt, Int64.reduceToInt, Int32.toInt_zero, Int64.toInt_zero, ti_m1, ti_m2, ti_m3, ti_m4, ti_m9] at *) <;> omega) (br_t h ?_)
    apply eX6_cell
    exact br_f (by (try simp only [fa_lt, fa_le, fa_eq, fa_lt64, fa_le64, fa_eq64, Int32.toInt_toInt64, lsub1, Int32.reduceToInt, Int64.reduceToInt, Int32.toInt_zero, Int64.toInt_zero, ti_m1, ti_m2, ti_m3, ti_m4, ti_m9] at *) <;> omega) (br_t (by (try simp only [fa_lt, fa_le, fa_eq, fa_lt64, fa_le64, fa_eq64, Int32.toInt_toInt64, lsub1, Int32.reduceToInt, Int64.reduceToInt, Int32.toInt_zero, Int64.toInt_zero, ti_m1, ti_m2, ti_m3, ti_m4, ti_m9] at *) <;> omega) ⟨rfl, hI.flt 0⟩)
  · have tk := nI_toInt (n := k) (by omega)
    have g4 : vp_in (nI k) 4 := pk_in k 4 hk
    have a1 : ¬ (nI k).toInt64 < 0 := (by (try simp only [fa_lt, fa_le, fa_eq, fa_lt64, fa_le64, fa_eq64, Int32.toInt_toInt64, lsub1, Int32.reduceToInt, Int64.reduceToInt, Int32.toInt_zero, Int64.toInt_zero, ti_m1, ti_m2, ti_m3, ti_m4, ti_m9] at *) <;> omega)
    have a2 : ¬ ((3 : Int64) < (nI k).toInt64) := (by (try simp only [fa_lt, fa_le, fa_eq, fa_lt64, fa_le64, fa_eq64, Int32.toInt_toInt64, lsub1, Int32.reduceToInt, Int64.reduceToInt, Int32.toInt_zero, Int64.toInt_zero, ti_m1, ti_m2, ti_m3, ti_m4, ti_m9] at *) <;> omega)
    refine br_f (by (try simp only [fa_lt, fa_le, fa_eq, fa_lt64, fa_le64, fa_eq64, Int32.toInt_toInt64, lsub1, Int32.reduceToInt, Int64.reduceToInt, Int32.toInt_zero, Int64.toInt_zero, ti_m1, ti_m2, ti_m3, ti_m4, ti_m9] at *) <;> omega) (br_f (by (try simp only [fa_lt, fa_le, fa_eq, fa_lt64, fa_le64, fa_eq64, Int32.toInt_toInt64, lsub1, Int32.reduceToInt, Int64.reduceToInt, Int32.toInt_zero, Int64.toInt_zero, ti_m1, ti_m2, ti_m3, ti_m4, ti_m9] at *) <;> omega) ?_)
    rcases pk_ix x3 (n := 3) (by omega) with h | h | ⟨la, hla, rfl⟩
    · refine br_t h ?_
      apply eX6_cell
      exact br_f a1 (br_f a2 (br_t (by (try simp only [fa_lt, fa_le, fa_eq, fa_lt64, fa_le64, fa_eq64, Int32.toInt_toInt64, lsub1, Int32.reduceToInt, Int64.reduceToInt, Int32.toInt_zero, Int64.toInt_zero, ti_m1, ti_m2, ti_m3, ti_m4, ti_m9] at *) <;> omega) ⟨rfl, hI.flt 0⟩))
    · have h : (3 : Int32) ≤ x3 := h
      refine br_f (by (try simp only [fa_lt, fa_le, fa_eq, fa_lt64, fa_le64, fa_eq64, Int32.toInt_toInt64, lsub1, Int32.reduceToInt, Int64.reduceToInt, Int32.toInt_zero, Int64.toInt_zero, ti_m1, ti_m2, ti_m3, ti_m4, ti_m9] at *) <;> omega) (br_t h ?_)
      apply eX6_cell
      exact br_f a1 (br_f a2 (br_f (by (try simp only [fa_lt, fa_le, fa_eq, fa_lt64, fa_le64, fa_eq64, Int32.toInt_toInt64, lsub1, Int32.reduceToInt, Int64.reduceToInt, Int32.toInt_zero, Int64.toInt_zero, ti_m1, ti_m2, ti_m3, ti_m4, ti_m9] at *) <;> omega) (br_t (by (try simp only [fa_lt, fa_le, fa_eq, fa_lt64, fa_le64, fa_eq64, Int32.toInt_toInt64, lsub1, Int32.reduceToInt, Int64.reduceToInt, Int32.toInt_zero, Int64.toInt_zero, ti_m1, ti_m2, ti_m3, ti_m4, ti_m9] at *) <;> omega) ⟨rfl, hI.flt 0⟩)))
    · have tl := nI_toInt (n := la) (by omega)
      have a3 : ¬ (nI la).toInt64 < 0 := (by (try simp only [fa_lt, fa_le, fa_eq, fa_lt64, fa_le64, fa_eq64, Int32.toInt_toInt64, lsub1, Int32.reduceToInt, Int64.reduceToInt, Int32.toInt_zero, Int64.toInt_zero, ti_m1, ti_m2, ti_m3, ti_m4, ti_m9] at *) <;> omega)
      have a4 : ¬ ((2 : Int64) < (nI la).toInt64) := (by (try simp only [fa_lt, fa_le, fa_eq, fa_lt64, fa_le64, fa_eq64, Int32.toInt_toInt64, lsub1, Int32.reduceToInt, Int64.reduceToInt, Int32.toInt_zero, Int64.toInt_zero, ti_m1, ti_m2, ti_m3, ti_m4, ti_m9] at *) <;> omega)
      have ck := nI_clamp (n := k) (by omega)
      refine br_f (by (try simp only [fa_lt, fa_le, fa_eq, fa_lt64, fa_le64, fa_eq64, Int32.toInt_toInt64, lsub1, Int32.reduceToInt, Int64.reduceToInt, Int32.toInt_zero, Int64.toInt_zero, ti_m1, ti_m2, ti_m3, ti_m4, ti_m9] at *) <;> omega) (br_f (by (try simp only [fa_lt, fa_le, fa_eq, fa_lt64, fa_le64, fa_eq64, Int32.toInt_toInt64, lsub1, Int32.reduceToInt, Int64.reduceToInt, Int32.toInt_zero, Int64.toInt_zero, ti_m1, ti_m2, ti_m3, ti_m4, ti_m9] at *) <;> omega) ⟨g4, ?_⟩)
      rw [ck]
      simp (disch := omega) only [sI_o, sI_h, sI2]
      have hs1 : ∀ u v, SHS (sI (sI S 0 6 u) 34 0 v) := fun u v => hs
      have e47 : ∀ v, (sI S 0 6 v).1 47 = S.1 47 := fun _ => rfl
      have e48 : ∀ v, (sI S 0 6 v).1 48 = S.1 48 := fun _ => rfl
      rcases hs.all k hk with ⟨b1, b2⟩ | ⟨b1, n, l, b2, b3, b4, b5, b6, b7, b8⟩
      · refine nb_f b1 ?_
        apply eX6_cell
        refine br_f a1 (br_f a2 (br_f a3 (br_f a4 ⟨g4, ?_⟩)))
        rw [ck, e47, b2]
        refine br_t (by decide) (c_noCell_ hk (hs1 1 0) (fun _ => br_f (by decide) (c_noCell_ hk (hs1 1 0) (fun _ => ⟨rfl, hI.flt4 1 0⟩) (fun n hn e => absurd (b2.symm.trans e) ?_))) (fun n hn e => absurd (b2.symm.trans e) ?_))
        · have tn := nI_toInt (n := n) (by omega)
          exact (by (try simp only [fa_lt, fa_le, fa_eq, fa_lt64, fa_le64, fa_eq64, Int32.toInt_toInt64, lsub1, Int32.reduceToInt, Int64.reduceToInt, Int32.toInt_zero, Int64.toInt_zero, ti_m1, ti_m2, ti_m3, ti_m4, ti_m9] at *) <;> omega)
        · have tn := nI_toInt (n := n) (by omega)
          exact (by (try simp only [fa_lt, fa_le, fa_eq, fa_lt64, fa_le64, fa_eq64, Int32.toInt_toInt64, lsub1, Int32.reduceToInt, Int64.reduceToInt, Int32.toInt_zero, Int64.toInt_zero, ti_m1, ti_m2, ti_m3, ti_m4, ti_m9] at *) <;> omega)
      · have tn := nI_toInt (n := n) (by omega)
        have tl2 := nI_toInt (n := l) (by omega)
        rw [b1, b4, b5]
        have c47 : ¬ S.1 47 k < 0 := by rw [b6]; exact nI_pos (by omega)
        refine nb_t (by decide) ⟨fun c => ?_, fun c => ⟨g4, br_f (by decide) ?_⟩⟩
        · apply eX6_cell
          refine br_f a1 (br_f a2 (br_f a3 (br_f a4 ⟨g4, ?_⟩)))
          rw [ck, e47, e48, b6, b7]
          exact br_f (nI_pos (by omega)) ⟨g4, br_f c ⟨rfl, by rw [sI2]; exact hI.flt 2⟩⟩
        · have bad : ¬ (0 ≤ x2.toInt ∧ x2.toInt < n) → CallV mdX6_cell [.ref 34, .int (nI k), .int x2, .int (nI la)] (sI S 0 6 3) (qJ fun r2 S2 => (-9223372036854775808 : Int64) = r2 ∧ INV S2) := by
            intro hb
            apply eX6_cell
            refine br_f a1 (br_f a2 (br_f a3 (br_f a4 ⟨g4, ?_⟩)))
            rw [ck, e47, e48, b6, b7]
            have same : ∀ n' : Nat, n' ≤ 60 → S.1 47 k = nI n' → n' = n := fun n' h1 h2 => by
              have e9 : nI n = nI n' := b6.symm.trans h2
              rw [nI_eq (by omega) (by omega)] at e9
              exact e9.symm
            refine br_f (nI_pos (by omega)) ⟨g4, br_t c (c_noCell_ hk (hs1 3 0) (fun e => absurd (e.symm.trans b6) (by (try simp only [fa_lt, fa_le, fa_eq, fa_lt64, fa_le64, fa_eq64, Int32.toInt_toInt64, lsub1, Int32.reduceToInt, Int64.reduceToInt, Int32.toInt_zero, Int64.toInt_zero, ti_m1, ti_m2, ti_m3, ti_m4, ti_m9] at *) <;> omega)) (fun n' hn' e' => ⟨fun q => absurd ?_ hb, fun _ => br_f (by decide) (c_noCell_ hk (hs1 3 0) (fun e => absurd (e.symm.trans b6) (by (try simp only [fa_lt, fa_le, fa_eq, fa_lt64, fa_le64, fa_eq64, Int32.toInt_toInt64, lsub1, Int32.reduceToInt, Int64.reduceToInt, Int32.toInt_zero, Int64.toInt_zero, ti_m1, ti_m2, ti_m3, ti_m4, ti_m9] at *) <;> omega)) (fun n' hn' e' => ⟨fun q => absurd ?_ hb, fun _ => ⟨rfl, hI.flt4 3 0⟩⟩))⟩))⟩
            · rw [same n' hn' e'] at q
              exact q
            · rw [same n' hn' e'] at q
              exact q
          refine ⟨fun d => bad (by intro q; exact (by (try simp only [fa_lt, fa_le, fa_eq, fa_lt64, fa_le64, fa_eq64, Int32.toInt_toInt64, lsub1, Int32.reduceToInt, Int64.reduceToInt, Int32.toInt_zero, Int64.toInt_zero, ti_m1, ti_m2, ti_m3, ti_m4, ti_m9] at *) <;> omega)), fun d => ⟨fun f => bad (by intro q; exact (by (try simp only [fa_lt, fa_le, fa_eq, fa_lt64, fa_le64, fa_eq64, Int32.toInt_toInt64, lsub1, Int32.reduceToInt, Int64.reduceToInt, Int32.toInt_zero, Int64.toInt_zero, ti_m1, ti_m2, ti_m3, ti_m4, ti_m9] at *) <;> omega)), fun f => ⟨g4, ?_⟩⟩⟩
          refine c_at (isSh_k hk) b2 (by simp (disch := omega) only [sI_o, sI_h, sF_o, sF_h, sJ_1, sI_2, sF_2, sJ_o, sJ_h]; exact b1) (by simp (disch := omega) only [sI_o, sI_h, sF_o, sF_h, sJ_1, sI_2, sF_2, sJ_o, sJ_h]; exact b5) (fun q => absurd ?_ q) (fun i hi hxi => ?_)
          · exact ⟨(by (try simp only [fa_lt, fa_le, fa_eq, fa_lt64, fa_le64, fa_eq64, Int32.toInt_toInt64, lsub1, Int32.reduceToInt, Int64.reduceToInt, Int32.toInt_zero, Int64.toInt_zero, ti_m1, ti_m2, ti_m3, ti_m4, ti_m9] at *) <;> omega), (by (try simp only [fa_lt, fa_le, fa_eq, fa_lt64, fa_le64, fa_eq64, Int32.toInt_toInt64, lsub1, Int32.reduceToInt, Int64.reduceToInt, Int32.toInt_zero, Int64.toInt_zero, ti_m1, ti_m2, ti_m3, ti_m4, ti_m9] at *) <;> omega)⟩
          · subst hxi
            have tii := nI_toInt (n := i) (by omega)
            apply eX6_cell
            refine br_f a1 (br_f a2 (br_f a3 (br_f a4 ⟨g4, ?_⟩)))
            rw [ck, e47, e48, b6, b7]
            have eidx : (60 : Int32) * nI k + nI i = nI (60 * k + i) := by rw [fa_lit 60, pk_mul, nI_add]
            rw [eidx, nI_clamp (n := 60 * k + i) (by omega)]
            refine br_f (nI_pos (by omega)) ⟨g4, br_t c (c_noCell_ hk (hs1 0 0) (fun e => absurd (e.symm.trans b6) (by (try simp only [fa_lt, fa_le, fa_eq, fa_lt64, fa_le64, fa_eq64, Int32.toInt_toInt64, lsub1, Int32.reduceToInt, Int64.reduceToInt, Int32.toInt_zero, Int64.toInt_zero, ti_m1, ti_m2, ti_m3, ti_m4, ti_m9] at *) <;> omega)) (fun n' hn' e' => ⟨fun _ => br_t (by decide) ⟨pk_in (60 * k + i) 240 (by omega), ?_, hI.flt 0⟩, fun q => absurd ?_ q⟩))⟩
            · simp (disch := omega) only [sI_o, sI_h, sF_o, sF_h, sJ_1, sI_2, sF_2, sJ_o, sJ_h]
              rw [b8 i hi]
            · have e9 : nI n = nI n' := b6.symm.trans e'
              rw [nI_eq (by omega) (by omega)] at e9
              omega
/-! a run of cells of the reference's sheets -/
def rz (S : St) (b i : Nat) (f : Nat → Int32) : St := sF S 49 (fun j => if b ≤ j ∧ j < b + i then f (j - b) else S.1 49 j)
theorem rz_0 (S : St) (b : Nat) (f : Nat → Int32) : rz S b 0 f = S := by
  refine Prod.ext (funext fun x => ?_) rfl
  show (if x = 49 then _ else _) = _
  split
  · subst x
    funext j
    rw [if_neg (by omega)]
  · rfl
theorem rz_s (S : St) (b i : Nat) (f : Nat → Int32) : sI (rz S b i f) 49 (b + i) (f i) = rz S b (i + 1) f := by
  refine Prod.ext (funext fun x => ?_) rfl
  show (if x = 49 then upd (if x = 49 then _ else _) (b + i) (f i) else if x = 49 then _ else _) = if x = 49 then _ else _
  by_cases hx : x = 49
  · simp only [if_pos hx]
    funext j
    unfold upd
    by_cases hj : j = b + i
    · rw [if_pos hj, if_pos (by omega), show j - b = i by omega]
    · rw [if_neg hj]
      show (if b ≤ j ∧ j < b + i then f (j - b) else S.1 49 j) = _
      by_cases h2 : b ≤ j ∧ j < b + i
      · rw [if_pos h2, if_pos (by omega)]
      · rw [if_neg h2, if_neg (by omega)]
  · simp only [if_neg hx]
theorem rz_o {S : St} {b i q j : Nat} {f : Nat → Int32} (h : q ≠ 49) : (rz S b i f).1 q j = S.1 q j := sF_o h
theorem rz_in {S : St} {b i j : Nat} {f : Nat → Int32} (h : b ≤ j ∧ j < b + i) : (rz S b i f).1 49 j = f (j - b) := by
  unfold rz
  rw [sF_h rfl, if_pos h]
theorem rz_out {S : St} {b i j : Nat} {f : Nat → Int32} (h : j < b ∨ b + i ≤ j) : (rz S b i f).1 49 j = S.1 49 j := by
  unfold rz
  rw [sF_h rfl, if_neg (by omega)]
set_option maxRecDepth 100000 in
set_option maxHeartbeats 4000000 in
theorem c_sheet65 {k n : Nat} (hk : k < 4) (hn : n ≤ 60) {S : St} {Q : Int32 → St → Prop} (h : Q 1 (sI (rz S (60 * k) n (fun _ => 0)) 34 0 0)) : ∀ d i, i + d = n → V mdX6_sheet 65 [some (.ref 34), some (.int (nI k)), none, some (.int (nI n)), some (.int (nI i))] [] (rz S (60 * k) i (fun _ => 0)) (qI Q) := by
  intro d
  induction d with
  | zero =>
    intro i hi
    have : i = n := by omega
    subst this
    apply eX6_sheet_65
    exact br_t (nI_le (Nat.le_refl _) (by omega)) h
  | succ d ih =>
    intro i hi
    apply eX6_sheet_65
    have eidx : (60 : Int32) * nI k + nI i = nI (60 * k + i) := by rw [fa_lit 60, pk_mul, nI_add]
    rw [eidx, nI_clamp (n := 60 * k + i) (by omega), nI_1]
    refine br_f (nI_ge (by omega) (by omega)) ⟨pk_in (60 * k + i) 240 (by omega), ?_⟩
    rw [rz_s S (60 * k) i (fun _ => 0)]
    exact ih (i + 1) (by omega)
set_option maxRecDepth 100000 in
set_option maxHeartbeats 4000000 in
theorem ok_sheet (x1 x2 x3 : Int32) : OKI mdX5_sheet mdX6_sheet [.ref 0, .int x1, .int x2, .int x3] [.ref 34, .int x1, .int x2, .int x3] := by
  intro S hI
  obtain ⟨M, hM, hC, hm, hs, ht, hf⟩ := id hI
  apply eX5_sheet
  rcases pk_ix x1 (n := 4) (by omega) with h | h | ⟨k, hk, rfl⟩
  · refine br_t h ?_
    apply eX6_sheet
    exact br_t (by (try simp only [fa_lt, fa_le, fa_eq, fa_lt64, fa_le64, fa_eq64, Int32.toInt_toInt64, lsub1, Int32.reduceToInt, Int64.reduceToInt, Int32.toInt_zero, Int64.toInt_zero, ti_m1, ti_m2, ti_m3, ti_m4, ti_m9] at *) <;> omega) ⟨rfl, hI.flt 0⟩
  · have h : (4 : Int32) ≤ x1 := h
    refine br_f (by (try simp only [fa_lt, fa_le, fa_eq, fa_lt64, fa_le64, fa_eq64, Int32.toInt_toInt64, lsub1, Int32.reduceToInt, Int64.reduceToInt, Int32.toInt_zero, Int64.toInt_zero, ti_m1, ti_m2, ti_m3, ti_m4, ti_m9] at *) <;> omega) (br_t h ?_)
    apply eX6_sheet
    exact br_f (by (try simp only [fa_lt, fa_le, fa_eq, fa_lt64, fa_le64, fa_eq64, Int32.toInt_toInt64, lsub1, Int32.reduceToInt, Int64.reduceToInt, Int32.toInt_zero, Int64.toInt_zero, ti_m1, ti_m2, ti_m3, ti_m4, ti_m9] at *) <;> omega) (br_t (by (try simp only [fa_lt, fa_le, fa_eq, fa_lt64, fa_le64, fa_eq64, Int32.toInt_toInt64, lsub1, Int32.reduceToInt, Int64.reduceToInt, Int32.toInt_zero, Int64.toInt_zero, ti_m1, ti_m2, ti_m3, ti_m4, ti_m9] at *) <;> omega) ⟨rfl, hI.flt 0⟩)
  · have tk := nI_toInt (n := k) (by omega)
    have g4 : vp_in (nI k) 4 := pk_in k 4 hk
    have a1 : ¬ (nI k).toInt64 < 0 := (by (try simp only [fa_lt, fa_le, fa_eq, fa_lt64, fa_le64, fa_eq64, Int32.toInt_toInt64, lsub1, Int32.reduceToInt, Int64.reduceToInt, Int32.toInt_zero, Int64.toInt_zero, ti_m1, ti_m2, ti_m3, ti_m4, ti_m9] at *) <;> omega)
    have a2 : ¬ ((3 : Int64) < (nI k).toInt64) := (by (try simp only [fa_lt, fa_le, fa_eq, fa_lt64, fa_le64, fa_eq64, Int32.toInt_toInt64, lsub1, Int32.reduceToInt, Int64.reduceToInt, Int32.toInt_zero, Int64.toInt_zero, ti_m1, ti_m2, ti_m3, ti_m4, ti_m9] at *) <;> omega)
    refine br_f (by (try simp only [fa_lt, fa_le, fa_eq, fa_lt64, fa_le64, fa_eq64, Int32.toInt_toInt64, lsub1, Int32.reduceToInt, Int64.reduceToInt, Int32.toInt_zero, Int64.toInt_zero, ti_m1, ti_m2, ti_m3, ti_m4, ti_m9] at *) <;> omega) (br_f (by (try simp only [fa_lt, fa_le, fa_eq, fa_lt64, fa_le64, fa_eq64, Int32.toInt_toInt64, lsub1, Int32.reduceToInt, Int64.reduceToInt, Int32.toInt_zero, Int64.toInt_zero, ti_m1, ti_m2, ti_m3, ti_m4, ti_m9] at *) <;> omega) ?_)
    rcases pk_ix x2 (n := 3) (by omega) with h | h | ⟨la, hla, rfl⟩
    · refine br_t h ?_
      apply eX6_sheet
      exact br_f a1 (br_f a2 (br_t (by (try simp only [fa_lt, fa_le, fa_eq, fa_lt64, fa_le64, fa_eq64, Int32.toInt_toInt64, lsub1, Int32.reduceToInt, Int64.reduceToInt, Int32.toInt_zero, Int64.toInt_zero, ti_m1, ti_m2, ti_m3, ti_m4, ti_m9] at *) <;> omega) ⟨rfl, hI.flt 0⟩))
    · have h : (3 : Int32) ≤ x2 := h
      refine br_f (by (try simp only [fa_lt, fa_le, fa_eq, fa_lt64, fa_le64, fa_eq64, Int32.toInt_toInt64, lsub1, Int32.reduceToInt, Int64.reduceToInt, Int32.toInt_zero, Int64.toInt_zero, ti_m1, ti_m2, ti_m3, ti_m4, ti_m9] at *) <;> omega) (br_t h ?_)
      apply eX6_sheet
      exact br_f a1 (br_f a2 (br_f (by (try simp only [fa_lt, fa_le, fa_eq, fa_lt64, fa_le64, fa_eq64, Int32.toInt_toInt64, lsub1, Int32.reduceToInt, Int64.reduceToInt, Int32.toInt_zero, Int64.toInt_zero, ti_m1, ti_m2, ti_m3, ti_m4, ti_m9] at *) <;> omega) (br_t (by (try simp only [fa_lt, fa_le, fa_eq, fa_lt64, fa_le64, fa_eq64, Int32.toInt_toInt64, lsub1, Int32.reduceToInt, Int64.reduceToInt, Int32.toInt_zero, Int64.toInt_zero, ti_m1, ti_m2, ti_m3, ti_m4, ti_m9] at *) <;> omega) ⟨rfl, hI.flt 0⟩)))
    · have tl := nI_toInt (n := la) (by omega)
      have a3 : ¬ (nI la).toInt64 < 0 := (by (try simp only [fa_lt, fa_le, fa_eq, fa_lt64, fa_le64, fa_eq64, Int32.toInt_toInt64, lsub1, Int32.reduceToInt, Int64.reduceToInt, Int32.toInt_zero, Int64.toInt_zero, ti_m1, ti_m2, ti_m3, ti_m4, ti_m9] at *) <;> omega)
      have a4 : ¬ ((2 : Int64) < (nI la).toInt64) := (by (try simp only [fa_lt, fa_le, fa_eq, fa_lt64, fa_le64, fa_eq64, Int32.toInt_toInt64, lsub1, Int32.reduceToInt, Int64.reduceToInt, Int32.toInt_zero, Int64.toInt_zero, ti_m1, ti_m2, ti_m3, ti_m4, ti_m9] at *) <;> omega)
      have ck := nI_clamp (n := k) (by omega)
      refine br_f (by (try simp only [fa_lt, fa_le, fa_eq, fa_lt64, fa_le64, fa_eq64, Int32.toInt_toInt64, lsub1, Int32.reduceToInt, Int64.reduceToInt, Int32.toInt_zero, Int64.toInt_zero, ti_m1, ti_m2, ti_m3, ti_m4, ti_m9] at *) <;> omega) (br_f (by (try simp only [fa_lt, fa_le, fa_eq, fa_lt64, fa_le64, fa_eq64, Int32.toInt_toInt64, lsub1, Int32.reduceToInt, Int64.reduceToInt, Int32.toInt_zero, Int64.toInt_zero, ti_m1, ti_m2, ti_m3, ti_m4, ti_m9] at *) <;> omega) ⟨fun c => ⟨fun d => ⟨g4, ?_⟩, fun d => ?_⟩, fun c => ?_⟩)
      · obtain ⟨n, hn, rfl⟩ : ∃ n, n ≤ 60 ∧ x3 = nI n := nI_of2 (M := 60) (by decide) (by exact (by (try simp only [fa_lt, fa_le, fa_eq, fa_lt64, fa_le64, fa_eq64, Int32.toInt_toInt64, lsub1, Int32.reduceToInt, Int64.reduceToInt, Int32.toInt_zero, Int64.toInt_zero, ti_m1, ti_m2, ti_m3, ti_m4, ti_m9] at *) <;> omega)) c
        have tn := nI_toInt (n := n) (by omega)
        rw [ck]
        refine c_fill (sh_lt1 (isSh_k hk)) (sh_row (isSh_k hk)) (by omega) 0 _ _ ?_
        apply eX6_sheet
        refine br_f a1 (br_f a2 (br_f a3 (br_f a4 (br_t c (br_t d ⟨g4, g4, ?_⟩)))))
        rw [ck]
        have := c_sheet65 (Q := fun r2 S2 => (1 : Int32) = r2 ∧ INV S2) hk hn (S := sI (sI (sF (sI (sI (sI (sI S 0 6 0) (26 + 2 * k) 1 1) (26 + 2 * k) 2 (nI la)) (26 + 2 * k) 3 (nI n)) (26 + 2 * k + 1) (fun j => if j < 60 then 0 else (sI (sI (sI (sI S 0 6 0) (26 + 2 * k) 1 1) (26 + 2 * k) 2 (nI la)) (26 + 2 * k) 3 (nI n)).1 (26 + 2 * k + 1) j)) 47 k (nI n)) 48 k (nI la)) ⟨rfl, ?_⟩ n 0 (by omega)
        · rw [rz_0] at this
          exact this
        · refine hI.sh k (fun p i _ _ => by simp (disch := omega) only [rz_o, sI_o, sF_o]) (by simp (disch := omega) only [rz_o, sI_o, sF_o]) (by simp (disch := omega) only [rz_o, sI_o, sI_h, sF_o]) (fun i hi => by simp (disch := omega) only [rz_o, sI_o, sF_o]) (fun p i hp => by simp (disch := omega) only [rz_o, sI_o, sF_o]) (fun j hj hjk => ⟨fun i => by simp (disch := omega) only [rz_o, sI_o, sF_o], fun i => by simp (disch := omega) only [rz_o, sI_o, sF_o], by simp (disch := omega) only [rz_o, sI_o, sF_o], by simp (disch := omega) only [rz_o, sI_o, sF_o], fun i hi => by simp (disch := omega) only [rz_out, sI_o, sF_o]⟩) (Or.inr ⟨by simp (disch := omega) only [rz_o, sI_o, sI_h, sF_o], n, la, hn, by omega, by simp (disch := omega) only [rz_o, sI_o, sI_h, sF_o], by simp (disch := omega) only [rz_o, sI_o, sI_h, sF_o], by simp (disch := omega) only [rz_o, sI_o, sI_h, sF_o], by simp (disch := omega) only [rz_o, sI_o, sI_h, sF_o], fun i hi => ?_⟩)
          simp (disch := omega) only [rz_o, sI_o, sI_h, sF_o, sF_h, rz_in]
          rw [if_pos (by omega)]
      · apply eX6_sheet
        exact br_f a1 (br_f a2 (br_f a3 (br_f a4 (br_t c (br_f d ⟨rfl, hI.flt2 0 4⟩)))))
      · apply eX6_sheet
        exact br_f a1 (br_f a2 (br_f a3 (br_f a4 (br_f c ⟨rfl, hI.flt 0⟩))))

/-! copy: the reference's two loops -/
def hdz (S : St) (b i : Nat) : St := sF S 50 (fun j => if j < i then S.1 49 (b + j) else S.1 50 j)
theorem hz_0 (S : St) (b : Nat) : hdz S b 0 = S := by
  refine Prod.ext (funext fun x => ?_) rfl
  show (if x = 50 then _ else _) = _
  split
  · subst x
    funext j
    rw [if_neg (by omega)]
  · rfl
theorem hz_s (S : St) (b i : Nat) : sI (hdz S b i) 50 i (S.1 49 (b + i)) = hdz S b (i + 1) := by
  refine Prod.ext (funext fun x => ?_) rfl
  show (if x = 50 then upd (if x = 50 then _ else _) i _ else if x = 50 then _ else _) = if x = 50 then _ else _
  by_cases hx : x = 50
  · simp only [if_pos hx]
    funext j
    unfold upd
    by_cases hj : j = i
    · rw [if_pos hj, if_pos (by omega), hj]
    · rw [if_neg hj]
      show (if j < i then S.1 49 (b + j) else S.1 50 j) = _
      by_cases h2 : j < i
      · rw [if_pos h2, if_pos (by omega)]
      · rw [if_neg h2, if_neg (by omega)]
  · simp only [if_neg hx]
theorem hz_o {S : St} {b i q j : Nat} (h : q ≠ 50) : (hdz S b i).1 q j = S.1 q j := sF_o h
theorem hz_in {S : St} {b i j : Nat} (h : j < i) : (hdz S b i).1 50 j = S.1 49 (b + j) := by
  unfold hdz
  rw [sF_h rfl, if_pos h]
set_option maxRecDepth 100000 in
set_option maxHeartbeats 4000000 in
theorem c_copy144 {o j n : Nat} (ho : o < 4) (hj : j + n ≤ 60) {S : St} {Q : Int32 → St → Prop} (h : Q (nI n) (sI (rz S (60 * o + j) n (S.1 50)) 34 0 0)) : ∀ d i, i + d = n → V mdX6_copy 144 [some (.ref 34), none, none, some (.int (nI o)), some (.int (nI j)), some (.int (nI n)), some (.int (nI i))] [] (rz S (60 * o + j) i (S.1 50)) (qI Q) := by
  intro d
  induction d with
  | zero =>
    intro i hi
    have : i = n := by omega
    subst this
    apply eX6_copy_144
    exact br_t (nI_le (Nat.le_refl _) (by omega)) h
  | succ d ih =>
    intro i hi
    apply eX6_copy_144
    have eidx : (60 : Int32) * nI o + nI j + nI i = nI (60 * o + j + i) := by rw [fa_lit 60, pk_mul, nI_add, nI_add]
    rw [eidx, nI_clamp (n := 60 * o + j + i) (by omega), nI_clamp (n := i) (by omega), nI_1]
    refine br_f (nI_ge (by omega) (by omega)) ⟨pk_in i 60 (by omega), pk_in (60 * o + j + i) 240 (by omega), ?_⟩
    rw [rz_o (by omega), rz_s S (60 * o + j) i (S.1 50)]
    exact ih (i + 1) (by omega)
set_option maxRecDepth 100000 in
set_option maxHeartbeats 4000000 in
theorem c_copy107 {k a o j n : Nat} (hk : k < 4) (ha : a + n ≤ 60) {S : St} {Q : Int32 → St → Prop} (h : V mdX6_copy 144 [some (.ref 34), none, none, some (.int (nI o)), some (.int (nI j)), some (.int (nI n)), some (.int 0)] [] (hdz S (60 * k + a) n) (qI Q)) : ∀ d i, i + d = n → V mdX6_copy 107 [some (.ref 34), some (.int (nI k)), some (.int (nI a)), some (.int (nI o)), some (.int (nI j)), some (.int (nI n)), some (.int (nI i))] [] (hdz S (60 * k + a) i) (qI Q) := by
  intro d
  induction d with
  | zero =>
    intro i hi
    have : i = n := by omega
    subst this
    apply eX6_copy_107
    exact br_t (nI_le (Nat.le_refl _) (by omega)) h
  | succ d ih =>
    intro i hi
    apply eX6_copy_107
    have eidx : (60 : Int32) * nI k + nI a + nI i = nI (60 * k + a + i) := by rw [fa_lit 60, pk_mul, nI_add, nI_add]
    rw [eidx, nI_clamp (n := 60 * k + a + i) (by omega), nI_clamp (n := i) (by omega), nI_1]
    refine br_f (nI_ge (by omega) (by omega)) ⟨pk_in (60 * k + a + i) 240 (by omega), pk_in i 60 (by omega), ?_⟩
    rw [hz_o (by omega), hz_s S (60 * k + a) i]
    exact ih (i + 1) (by omega)
set_option maxRecDepth 100000 in
set_option maxHeartbeats 4000000 in
theorem m_copyA {k o : Nat} (hk : k < 4) (ho : o < 4) {x2 x4 x5 : Int32} {S : St} {Q : Int32 → St → Prop} (hq : (S.1 47 k < 0 → Q (-11) (sI S 34 0 1)) ∧ (¬ S.1 47 k < 0 → vp_in (nI o) 4 ∧ (0 ≤ S.1 47 o → vp_in (nI k) 4 ∧ vp_in (nI o) 4 ∧ (S.1 48 k = S.1 48 o → vp_in (nI k) 4 ∧ CallV mdX6_isBeyond [.int x2, .long x5.toInt64, .int (S.1 47 k)] S (qI fun r14 S13 => (¬ r14 = 0 → Q (-13) (sI S13 34 0 3)) ∧ (r14 = 0 → vp_in (nI o) 4 ∧ CallV mdX6_isBeyond [.int x4, .long x5.toInt64, .int (S13.1 47 o)] S13 (qI fun r18 S17 => (r18 = 0 → V mdX6_copy 107 [some (.ref 34), some (.int (nI k)), some (.int x2), some (.int (nI o)), some (.int x4), some (.int x5), some (.int 0)] [] S17 (qI Q)) ∧ (¬ r18 = 0 → Q (-13) (sI S17 34 0 3)))))) ∧ (¬ S.1 48 k = S.1 48 o → Q (-12) (sI S 34 0 2))) ∧ (¬ 0 ≤ S.1 47 o → Q (-11) (sI S 34 0 1)))) : CallV mdX6_copy [.ref 34, .int (nI k), .int x2, .int (nI o), .int x4, .int x5] S (qI Q) := by
  have tk := nI_toInt (n := k) (by omega)
  have to := nI_toInt (n := o) (by omega)
  apply eX6_copy
  refine br_f (by (try simp only [fa_lt, fa_le, fa_eq, fa_lt64, fa_le64, fa_eq64, Int32.toInt_toInt64, lsub1, Int32.reduceToInt, Int64.reduceToInt, Int32.toInt_zero, Int64.toInt_zero, ti_m1, ti_m2, ti_m3, ti_m4, ti_m9] at *) <;> omega) (br_f (by (try simp only [fa_lt, fa_le, fa_eq, fa_lt64, fa_le64, fa_eq64, Int32.toInt_toInt64, lsub1, Int32.reduceToInt, Int64.reduceToInt, Int32.toInt_zero, Int64.toInt_zero, ti_m1, ti_m2, ti_m3, ti_m4, ti_m9] at *) <;> omega) (br_f (by (try simp only [fa_lt, fa_le, fa_eq, fa_lt64, fa_le64, fa_eq64, Int32.toInt_toInt64, lsub1, Int32.reduceToInt, Int64.reduceToInt, Int32.toInt_zero, Int64.toInt_zero, ti_m1, ti_m2, ti_m3, ti_m4, ti_m9] at *) <;> omega) (br_f (by (try simp only [fa_lt, fa_le, fa_eq, fa_lt64, fa_le64, fa_eq64, Int32.toInt_toInt64, lsub1, Int32.reduceToInt, Int64.reduceToInt, Int32.toInt_zero, Int64.toInt_zero, ti_m1, ti_m2, ti_m3, ti_m4, ti_m9] at *) <;> omega) ⟨pk_in k 4 hk, ?_⟩)))
  rw [nI_clamp (n := k) (by omega), nI_clamp (n := o) (by omega)]
  exact hq
set_option maxRecDepth 100000 in
set_option maxHeartbeats 4000000 in
theorem m_copyB {k o n l n' l' : Nat} (hk : k < 4) (ho : o < 4) (hn : n < 2 ^ 31) (hn' : n' < 2 ^ 31) {x2 x4 x5 : Int32} {S : St} {Q : Int32 → St → Prop} (b6 : S.1 47 k = nI n) (b7 : S.1 48 k = nI l) (d6 : S.1 47 o = nI n') (d7 : S.1 48 o = nI l') (hq : (nI l = nI l' → CallV mdX6_isBeyond [.int x2, .long x5.toInt64, .int (nI n)] S (qI fun r14 S13 => (¬ r14 = 0 → Q (-13) (sI S13 34 0 3)) ∧ (r14 = 0 → vp_in (nI o) 4 ∧ CallV mdX6_isBeyond [.int x4, .long x5.toInt64, .int (S13.1 47 o)] S13 (qI fun r18 S17 => (r18 = 0 → V mdX6_copy 107 [some (.ref 34), some (.int (nI k)), some (.int x2), some (.int (nI o)), some (.int x4), some (.int x5), some (.int 0)] [] S17 (qI Q)) ∧ (¬ r18 = 0 → Q (-13) (sI S17 34 0 3)))))) ∧ (¬ nI l = nI l' → Q (-12) (sI S 34 0 2))) : CallV mdX6_copy [.ref 34, .int (nI k), .int x2, .int (nI o), .int x4, .int x5] S (qI Q) := by
  refine m_copyA hk ho ?_
  rw [b6, b7, d6, d7]
  exact br_f (nI_pos hn) ⟨pk_in o 4 ho, br_t (nI_pos' hn') ⟨pk_in k 4 hk, pk_in o 4 ho, ⟨fun c => ⟨pk_in k 4 hk, hq.1 c⟩, hq.2⟩⟩⟩
set_option maxRecDepth 100000 in
set_option maxHeartbeats 4000000 in
theorem ok_copy (x1 x2 x3 x4 x5 : Int32) : OKI mdX5_copy mdX6_copy [.ref 0, .int x1, .int x2, .int x3, .int x4, .int x5] [.ref 34, .int x1, .int x2, .int x3, .int x4, .int x5] := by
  intro S hI
  obtain ⟨M, hM, hC, hm, hs, ht, hf⟩ := id hI
  apply eX5_copy
  rcases pk_ix x1 (n := 4) (by omega) with h | h | ⟨k, hk, rfl⟩
  · refine br_t h ?_
    apply eX6_copy
    exact br_t (by (try simp only [fa_lt, fa_le, fa_eq, fa_lt64, fa_le64, fa_eq64, Int32.toInt_toInt64, lsub1, Int32.reduceToInt, Int64.reduceToInt, Int32.toInt_zero, Int64.toInt_zero, ti_m1, ti_m2, ti_m3, ti_m4, ti_m9] at *) <;> omega) ⟨rfl, hI.flt 0⟩
  · have h : (4 : Int32) ≤ x1 := h
    refine br_f (by (try simp only [fa_lt, fa_le, fa_eq, fa_lt64, fa_le64, fa_eq64, Int32.toInt_toInt64, lsub1, Int32.reduceToInt, Int64.reduceToInt, Int32.toInt_zero, Int64.toInt_zero, ti_m1, ti_m2, ti_m3, ti_m4, ti_m9] at *) <;> omega) (br_t h ?_)
    apply eX6_copy
    exact br_f (by (try simp only [fa_lt, fa_le, fa_eq, fa_lt64, fa_le64, fa_eq64, Int32.toInt_toInt64, lsub1, Int32.reduceToInt, Int64.reduceToInt, Int32.toInt_zero, Int64.toInt_zero, ti_m1, ti_m2, ti_m3, ti_m4, ti_m9] at *) <;> omega) (br_t (by (try simp only [fa_lt, fa_le, fa_eq, fa_lt64, fa_le64, fa_eq64, Int32.toInt_toInt64, lsub1, Int32.reduceToInt, Int64.reduceToInt, Int32.toInt_zero, Int64.toInt_zero, ti_m1, ti_m2, ti_m3, ti_m4, ti_m9] at *) <;> omega) ⟨rfl, hI.flt 0⟩)
  have tk := nI_toInt (n := k) (by omega)
  have g4 : vp_in (nI k) 4 := pk_in k 4 hk
  have a1 : ¬ (nI k).toInt64 < 0 := (by (try simp only [fa_lt, fa_le, fa_eq, fa_lt64, fa_le64, fa_eq64, Int32.toInt_toInt64, lsub1, Int32.reduceToInt, Int64.reduceToInt, Int32.toInt_zero, Int64.toInt_zero, ti_m1, ti_m2, ti_m3, ti_m4, ti_m9] at *) <;> omega)
  have a2 : ¬ ((3 : Int64) < (nI k).toInt64) := (by (try simp only [fa_lt, fa_le, fa_eq, fa_lt64, fa_le64, fa_eq64, Int32.toInt_toInt64, lsub1, Int32.reduceToInt, Int64.reduceToInt, Int32.toInt_zero, Int64.toInt_zero, ti_m1, ti_m2, ti_m3, ti_m4, ti_m9] at *) <;> omega)
  have ck := nI_clamp (n := k) (by omega)
  refine br_f (by (try simp only [fa_lt, fa_le, fa_eq, fa_lt64, fa_le64, fa_eq64, Int32.toInt_toInt64, lsub1, Int32.reduceToInt, Int64.reduceToInt, Int32.toInt_zero, Int64.toInt_zero, ti_m1, ti_m2, ti_m3, ti_m4, ti_m9] at *) <;> omega) (br_f (by (try simp only [fa_lt, fa_le, fa_eq, fa_lt64, fa_le64, fa_eq64, Int32.toInt_toInt64, lsub1, Int32.reduceToInt, Int64.reduceToInt, Int32.toInt_zero, Int64.toInt_zero, ti_m1, ti_m2, ti_m3, ti_m4, ti_m9] at *) <;> omega) ?_)
  rcases pk_ix x3 (n := 4) (by omega) with h | h | ⟨o, ho, rfl⟩
  · refine br_t h ?_
    apply eX6_copy
    exact br_f a1 (br_f a2 (br_t (by (try simp only [fa_lt, fa_le, fa_eq, fa_lt64, fa_le64, fa_eq64, Int32.toInt_toInt64, lsub1, Int32.reduceToInt, Int64.reduceToInt, Int32.toInt_zero, Int64.toInt_zero, ti_m1, ti_m2, ti_m3, ti_m4, ti_m9] at *) <;> omega) ⟨rfl, hI.flt 0⟩))
  · have h : (4 : Int32) ≤ x3 := h
    refine br_f (by (try simp only [fa_lt, fa_le, fa_eq, fa_lt64, fa_le64, fa_eq64, Int32.toInt_toInt64, lsub1, Int32.reduceToInt, Int64.reduceToInt, Int32.toInt_zero, Int64.toInt_zero, ti_m1, ti_m2, ti_m3, ti_m4, ti_m9] at *) <;> omega) (br_t h ?_)
    apply eX6_copy
    exact br_f a1 (br_f a2 (br_f (by (try simp only [fa_lt, fa_le, fa_eq, fa_lt64, fa_le64, fa_eq64, Int32.toInt_toInt64, lsub1, Int32.reduceToInt, Int64.reduceToInt, Int32.toInt_zero, Int64.toInt_zero, ti_m1, ti_m2, ti_m3, ti_m4, ti_m9] at *) <;> omega) (br_t (by (try simp only [fa_lt, fa_le, fa_eq, fa_lt64, fa_le64, fa_eq64, Int32.toInt_toInt64, lsub1, Int32.reduceToInt, Int64.reduceToInt, Int32.toInt_zero, Int64.toInt_zero, ti_m1, ti_m2, ti_m3, ti_m4, ti_m9] at *) <;> omega) ⟨rfl, hI.flt 0⟩)))
  have to := nI_toInt (n := o) (by omega)
  have g4o : vp_in (nI o) 4 := pk_in o 4 ho
  have a3 : ¬ (nI o).toInt64 < 0 := (by (try simp only [fa_lt, fa_le, fa_eq, fa_lt64, fa_le64, fa_eq64, Int32.toInt_toInt64, lsub1, Int32.reduceToInt, Int64.reduceToInt, Int32.toInt_zero, Int64.toInt_zero, ti_m1, ti_m2, ti_m3, ti_m4, ti_m9] at *) <;> omega)
  have a4 : ¬ ((3 : Int64) < (nI o).toInt64) := (by (try simp only [fa_lt, fa_le, fa_eq, fa_lt64, fa_le64, fa_eq64, Int32.toInt_toInt64, lsub1, Int32.reduceToInt, Int64.reduceToInt, Int32.toInt_zero, Int64.toInt_zero, ti_m1, ti_m2, ti_m3, ti_m4, ti_m9] at *) <;> omega)
  have co := nI_clamp (n := o) (by omega)
  refine br_f (by (try simp only [fa_lt, fa_le, fa_eq, fa_lt64, fa_le64, fa_eq64, Int32.toInt_toInt64, lsub1, Int32.reduceToInt, Int64.reduceToInt, Int32.toInt_zero, Int64.toInt_zero, ti_m1, ti_m2, ti_m3, ti_m4, ti_m9] at *) <;> omega) (br_f (by (try simp only [fa_lt, fa_le, fa_eq, fa_lt64, fa_le64, fa_eq64, Int32.toInt_toInt64, lsub1, Int32.reduceToInt, Int64.reduceToInt, Int32.toInt_zero, Int64.toInt_zero, ti_m1, ti_m2, ti_m3, ti_m4, ti_m9] at *) <;> omega) ⟨g4, g4o, ?_⟩)
  rw [ck, co]
  simp (disch := omega) only [sI_o, sI_h, sI2]
  have e47 : ∀ v, (sI S 0 6 v).1 47 = S.1 47 := fun _ => rfl
  have e48 : ∀ v, (sI S 0 6 v).1 48 = S.1 48 := fun _ => rfl
  have start : ∀ (v : Int32) (Q : Int32 → St → Prop), _ → CallV mdX6_copy [.ref 34, .int (nI k), .int x2, .int (nI o), .int x4, .int x5] (sI S 0 6 v) (qI Q) := fun v Q hq => m_copyA hk ho (S := sI S 0 6 v) hq
  rcases hs.all k hk with ⟨b1, b2⟩ | ⟨b1, n, l, b2, b3, b4, b5, b6, b7, b8⟩
  · refine br_t b1 (start 1 _ ?_)
    exact br_t (by rw [e47, b2]; decide) ⟨rfl, hI.flt 1⟩
  have tn := nI_toInt (n := n) (by omega)
  rw [b1, b4, b5]
  refine br_f (by decide) ?_
  rcases hs.all o ho with ⟨d1, d2⟩ | ⟨d1, n', l', d2, d3, d4, d5, d6, d7, d8⟩
  · refine nb_f d1 (start 1 _ ?_)
    exact br_f (by rw [e47, b6]; exact nI_pos (by omega)) ⟨g4o, br_f (by rw [e47, d2]; decide) ⟨rfl, hI.flt 1⟩⟩
  have tn' := nI_toInt (n := n') (by omega)
  rw [d1, d4, d5]
  have start2 : ∀ (v : Int32) (Q : Int32 → St → Prop), _ → CallV mdX6_copy [.ref 34, .int (nI k), .int x2, .int (nI o), .int x4, .int x5] (sI S 0 6 v) (qI Q) := fun v Q hq => m_copyB hk ho (by omega) (by omega) (S := sI S 0 6 v) b6 b7 d6 d7 hq
  refine nb_t (by decide) ⟨fun c => br_f (by decide) ?_, fun c => start2 2 _ ⟨fun q => absurd q c, fun _ => ⟨rfl, hI.flt 2⟩⟩⟩
  have bad1 : ¬ (0 ≤ x2.toInt ∧ 0 ≤ x5.toInt ∧ x2.toInt + x5.toInt ≤ n) → CallV mdX6_copy [.ref 34, .int (nI k), .int x2, .int (nI o), .int x4, .int x5] (sI S 0 6 3) (qI fun r2 S2 => (-13 : Int32) = r2 ∧ INV S2) := fun hb => start2 3 _ ⟨fun _ => c_isBeyond (fun q1 q2 q3 => absurd ⟨q1, q2, by rw [tn] at q3; exact q3⟩ hb) (fun _ => nb_t (by decide) ⟨rfl, hI.flt 3⟩), fun q => absurd c q⟩
  have bad2 : 0 ≤ x2.toInt ∧ 0 ≤ x5.toInt ∧ x2.toInt + x5.toInt ≤ n → ¬ (0 ≤ x4.toInt ∧ 0 ≤ x5.toInt ∧ x4.toInt + x5.toInt ≤ n') → CallV mdX6_copy [.ref 34, .int (nI k), .int x2, .int (nI o), .int x4, .int x5] (sI S 0 6 3) (qI fun r2 S2 => (-13 : Int32) = r2 ∧ INV S2) := fun hg hb => start2 3 _ ⟨fun _ => c_isBeyond (fun q1 q2 q3 => nb_f rfl ⟨g4o, by
      rw [e47, d6]
      exact c_isBeyond (fun q1 q2 q3 => absurd ⟨q1, q2, by rw [tn'] at q3; exact q3⟩ hb) (fun _ => br_f (by decide) ⟨rfl, hI.flt 3⟩)⟩) (fun q => absurd ⟨hg.1, hg.2.1, by rw [tn]; exact hg.2.2⟩ q), fun q => absurd c q⟩
  refine ⟨fun f1 => bad1 (by intro q; exact (by (try simp only [fa_lt, fa_le, fa_eq, fa_lt64, fa_le64, fa_eq64, Int32.toInt_toInt64, lsub1, Int32.reduceToInt, Int64.reduceToInt, Int32.toInt_zero, Int64.toInt_zero, ti_m1, ti_m2, ti_m3, ti_m4, ti_m9] at *) <;> omega)), fun f1 => ⟨fun f2 => bad1 (by intro q; exact (by (try simp only [fa_lt, fa_le, fa_eq, fa_lt64, fa_le64, fa_eq64, Int32.toInt_toInt64, lsub1, Int32.reduceToInt, Int64.reduceToInt, Int32.toInt_zero, Int64.toInt_zero, ti_m1, ti_m2, ti_m3, ti_m4, ti_m9] at *) <;> omega)), fun f2 => ?_⟩⟩
  obtain ⟨y, hy, rfl⟩ := nI_of f1
  obtain ⟨z, hzz, rfl⟩ := nI_of f2
  have ty := nI_toInt hy
  have tz := nI_toInt hzz
  refine ⟨fun f3 => bad1 (by intro q; exact (by (try simp only [fa_lt, fa_le, fa_eq, fa_lt64, fa_le64, fa_eq64, Int32.toInt_toInt64, lsub1, Int32.reduceToInt, Int64.reduceToInt, Int32.toInt_zero, Int64.toInt_zero, ti_m1, ti_m2, ti_m3, ti_m4, ti_m9] at *) <;> omega)), fun f3 => ?_⟩
  have f3' : y ≤ n := by
    rw [nI_ltI (by omega) hy] at f3
    omega
  rw [pk_sub f3']
  refine ⟨fun f4 => bad1 ?_, fun f4 => br_f (by decide) ?_⟩
  · rw [nI_ltI (by omega) hzz] at f4
    omega
  have f4' : y + z ≤ n := by
    rw [nI_ltI (by omega) hzz] at f4
    omega
  have good1 : 0 ≤ (nI y).toInt ∧ 0 ≤ (nI z).toInt ∧ (nI y).toInt + (nI z).toInt ≤ n := by omega
  refine ⟨fun f5 => bad2 good1 (by intro q; exact (by (try simp only [fa_lt, fa_le, fa_eq, fa_lt64, fa_le64, fa_eq64, Int32.toInt_toInt64, lsub1, Int32.reduceToInt, Int64.reduceToInt, Int32.toInt_zero, Int64.toInt_zero, ti_m1, ti_m2, ti_m3, ti_m4, ti_m9] at *) <;> omega)), fun f5 => br_f f2 ?_⟩
  obtain ⟨u, hu, rfl⟩ := nI_of f5
  have tu := nI_toInt hu
  refine ⟨fun f6 => bad2 good1 (by intro q; exact (by (try simp only [fa_lt, fa_le, fa_eq, fa_lt64, fa_le64, fa_eq64, Int32.toInt_toInt64, lsub1, Int32.reduceToInt, Int64.reduceToInt, Int32.toInt_zero, Int64.toInt_zero, ti_m1, ti_m2, ti_m3, ti_m4, ti_m9] at *) <;> omega)), fun f6 => ?_⟩
  have f6' : u ≤ n' := by
    rw [nI_ltI (by omega) hu] at f6
    omega
  rw [pk_sub f6']
  refine ⟨fun f7 => bad2 good1 ?_, fun f7 => ?_⟩
  · rw [nI_ltI (by omega) hzz] at f7
    omega
  have f7' : u + z ≤ n' := by
    rw [nI_ltI (by omega) hzz] at f7
    omega
  rw [nI_clamp hy, nI_clamp hzz, nI_clamp hu]
  refine ⟨f1, f5, f2, by omega, by omega, ?_⟩
  refine m_copyB (n := n) (l := l) (n' := n') (l' := l') hk ho (by omega) (by omega) (by simp (disch := omega) only [sI_o, sI_h, sF_o, sF_h, sJ_1, sI_2, sF_2, sJ_o, sJ_h]; exact b6) (by simp (disch := omega) only [sI_o, sI_h, sF_o, sF_h, sJ_1, sI_2, sF_2, sJ_o, sJ_h]; exact b7) (by simp (disch := omega) only [sI_o, sI_h, sF_o, sF_h, sJ_1, sI_2, sF_2, sJ_o, sJ_h]; exact d6) (by simp (disch := omega) only [sI_o, sI_h, sF_o, sF_h, sJ_1, sI_2, sF_2, sJ_o, sJ_h]; exact d7) (br_t c (c_isBeyond (fun _ _ _ => nb_f rfl ⟨g4o, ?_⟩) (fun q => absurd ⟨by omega, by omega, by omega⟩ q)))
  simp (disch := omega) only [sF_o, sI_o]
  rw [d6]
  refine c_isBeyond (fun _ _ _ => br_t rfl ?_) (fun q => absurd ⟨by omega, by omega, by omega⟩ q)
  generalize hS1 : sF (sI S 0 6 0) (26 + 2 * o + 1) (va_cpy ((sI S 0 6 0).1 (26 + 2 * k + 1)) ((sI S 0 6 0).1 (26 + 2 * o + 1)) y u z) = S1
  have r1 := c_copy107 (k := k) (a := y) (o := o) (j := u) (n := z) hk (by omega) (S := S1) (Q := fun r2 S2 => nI z = r2 ∧ INV S2) (by
    have r2 := c_copy144 (o := o) (j := u) (n := z) ho (by omega) (S := hdz S1 (60 * k + y) z) (Q := fun r2 S2 => nI z = r2 ∧ INV S2) ⟨rfl, ?_⟩ z 0 (by omega)
    · rw [rz_0] at r2
      exact r2
    · refine hI.sh o (fun p i _ _ => ?_) ?_ ?_ (fun i hi => ?_) (fun p i hp => ?_) (fun j hj hjk => ⟨fun i => ?_, fun i => ?_, ?_, ?_, fun i hi => ?_⟩) (Or.inr ⟨?_, n', l', d2, d3, ?_, ?_, ?_, ?_, fun i hi => ?_⟩)
      · subst hS1; simp (disch := omega) only [rz_o, hz_o, sI_o, sF_o]
      · subst hS1; simp (disch := omega) only [rz_o, hz_o, sI_o, sF_o]
      · subst hS1; simp (disch := omega) only [rz_o, hz_o, sI_o, sI_h, sF_o]
      · subst hS1; simp (disch := omega) only [rz_o, hz_o, sI_o, sF_o]
      · subst hS1; simp (disch := omega) only [rz_o, hz_o, sI_o, sF_o]
      · subst hS1; simp (disch := omega) only [rz_o, hz_o, sI_o, sF_o]
      · subst hS1; simp (disch := omega) only [rz_o, hz_o, sI_o, sF_o]
      · subst hS1; simp (disch := omega) only [rz_o, hz_o, sI_o, sF_o]
      · subst hS1; simp (disch := omega) only [rz_o, hz_o, sI_o, sF_o]
      · subst hS1; simp (disch := omega) only [rz_out, hz_o, sI_o, sF_o]
      · subst hS1; simp (disch := omega) only [rz_o, hz_o, sI_o, sF_o]; exact d1
      · subst hS1; simp (disch := omega) only [rz_o, hz_o, sI_o, sF_o]; exact d4
      · subst hS1; simp (disch := omega) only [rz_o, hz_o, sI_o, sF_o]; exact d5
      · subst hS1; simp (disch := omega) only [rz_o, hz_o, sI_o, sF_o]; exact d6
      · subst hS1; simp (disch := omega) only [rz_o, hz_o, sI_o, sF_o]; exact d7
      · by_cases hin : u ≤ i ∧ i < u + z
        · subst hS1
          simp (disch := omega) only [rz_in, rz_o, hz_o, hz_in, sI_o, sF_o, sF_h]
          unfold va_cpy
          rw [if_pos hin]
          simp (disch := omega) only [sI_o]
          rw [b8 (y + (i - u)) (by omega), show 60 * k + (y + (i - u)) = 60 * k + y + (60 * o + i - (60 * o + u)) by omega]
        · subst hS1
          simp (disch := omega) only [rz_out, rz_o, hz_o, sI_o, sF_o, sF_h]
          unfold va_cpy
          rw [if_neg hin]
          simp (disch := omega) only [sI_o]
          exact d8 i hi) z 0 (by omega)
  rw [hz_0] at r1
  exact r1
