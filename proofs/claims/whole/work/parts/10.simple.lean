/-! ===== parts of eight ===== -/
def lf (t k : Nat) : Nat := if k = 2 then 0 else (if k = 0 then 4 else 2) + t
def rf (t k : Nat) : Nat := if k = 2 then 0 else (if k = 0 then 4 else 2) - t
def pL (t k s : Nat) : Nat := if k = 2 then 0 else if s = 1 then lf t k else if s = 2 then 8 else 0
def pR (t k s : Nat) : Nat := if k = 2 then 0 else if s = 1 then rf t k else if s = 3 then 8 else 0
theorem pLR {t k s : Nat} (ht : t ≤ 1) : pL t k s + pR t k s ≤ 8 := by
  unfold pL pR lf rf
  repeat' split
  all_goals omega
set_option maxRecDepth 100000 in
set_option maxHeartbeats 4000000 in
theorem c_partsLeft {t k s : Nat} {S : St} {Q : Int32 → St → Prop} (ht : t ≤ 1) (hk : k ≤ 2) (hs : s < 2 ^ 31) (e : S.1 1 4 = nI t) (h : Q (nI (pL t k s)) S) : CallV mdX2_partsLeft [.ref 1, .int (nI s), .int (nI k)] S (qI Q) := by
  have tt := nI_toInt (n := t) (by omega)
  have tk := nI_toInt (n := k) (by omega)
  have ts := nI_toInt (n := s) (by omega)
  apply eX2_partsLeft
  rw [e]
  unfold pL lf at h
  rcases (by omega : t = 0 ∨ t = 1) with h1 | h1 <;> rcases (by omega : k = 0 ∨ k = 1 ∨ k = 2) with h2 | h2 | h2 <;> rcases (by omega : s = 1 ∨ s = 2 ∨ (s ≠ 1 ∧ s ≠ 2)) with h3 | h3 | h3 <;> simp [h1, h2, h3] at h <;>
    refine ⟨fun _ => ⟨fun _ => ⟨fun _ => ?_, fun _ => ?_⟩, fun _ => ⟨fun _ => ⟨fun _ => ?_, fun _ => ?_⟩, fun _ => ⟨fun _ => ?_, fun _ => ?_⟩⟩⟩, fun _ => ?_⟩ <;>
    first | exact h | (exfalso; exact (by (try simp only [fa_lt, fa_le, fa_eq, fa_lt64, fa_le64, fa_eq64, Int32.toInt_toInt64, lsub1, Int32.reduceToInt, Int64.reduceToInt, Int32.toInt_zero, Int64.toInt_zero, ti_m1, ti_m2, ti_m3, ti_m4, ti_m9] at *) <;> omega))
set_option maxRecDepth 100000 in
set_option maxHeartbeats 4000000 in
theorem c_partsRight {t k s : Nat} {S : St} {Q : Int32 → St → Prop} (ht : t ≤ 1) (hk : k ≤ 2) (hs : s < 2 ^ 31) (e : S.1 1 4 = nI t) (h : Q (nI (pR t k s)) S) : CallV mdX2_partsRight [.ref 1, .int (nI s), .int (nI k)] S (qI Q) := by
  have tt := nI_toInt (n := t) (by omega)
  have tk := nI_toInt (n := k) (by omega)
  have ts := nI_toInt (n := s) (by omega)
  apply eX2_partsRight
  rw [e]
  unfold pR rf at h
  rcases (by omega : t = 0 ∨ t = 1) with h1 | h1 <;> rcases (by omega : k = 0 ∨ k = 1 ∨ k = 2) with h2 | h2 | h2 <;> rcases (by omega : s = 1 ∨ s = 3 ∨ (s ≠ 1 ∧ s ≠ 3)) with h3 | h3 | h3 <;> simp [h1, h2, h3] at h <;>
    refine ⟨fun _ => ⟨fun _ => ⟨fun _ => ?_, fun _ => ?_⟩, fun _ => ⟨fun _ => ⟨fun _ => ?_, fun _ => ?_⟩, fun _ => ⟨fun _ => ?_, fun _ => ?_⟩⟩⟩, fun _ => ?_⟩ <;>
    first | exact h | (exfalso; exact (by (try simp only [fa_lt, fa_le, fa_eq, fa_lt64, fa_le64, fa_eq64, Int32.toInt_toInt64, lsub1, Int32.reduceToInt, Int64.reduceToInt, Int32.toInt_zero, Int64.toInt_zero, ti_m1, ti_m2, ti_m3, ti_m4, ti_m9] at *) <;> omega))
set_option maxRecDepth 100000 in
set_option maxHeartbeats 4000000 in
theorem c_leftOf {t k : Nat} {S : St} {Q : Int32 → St → Prop} (ht : t ≤ 1) (hk : k ≤ 2) (e : S.1 34 5 = nI t) (h : Q (nI (lf t k)) S) : CallV mdX6_leftOf [.ref 34, .int (nI k)] S (qI Q) := by
  have tt := nI_toInt (n := t) (by omega)
  have tk := nI_toInt (n := k) (by omega)
  apply eX6_leftOf
  rw [e]
  unfold lf at h
  rcases (by omega : t = 0 ∨ t = 1) with h1 | h1 <;> rcases (by omega : k = 0 ∨ k = 1 ∨ k = 2) with h2 | h2 | h2 <;> simp [h1, h2] at h <;>
    refine ⟨fun _ => ⟨fun _ => ⟨fun _ => ?_, fun _ => ?_⟩, fun _ => ⟨fun _ => ?_, fun _ => ?_⟩⟩, fun _ => ?_⟩ <;>
    first | exact h | (exfalso; exact (by (try simp only [fa_lt, fa_le, fa_eq, fa_lt64, fa_le64, fa_eq64, Int32.toInt_toInt64, lsub1, Int32.reduceToInt, Int64.reduceToInt, Int32.toInt_zero, Int64.toInt_zero, ti_m1, ti_m2, ti_m3, ti_m4, ti_m9] at *) <;> omega))
set_option maxRecDepth 100000 in
set_option maxHeartbeats 4000000 in
theorem c_rightOf {t k : Nat} {S : St} {Q : Int32 → St → Prop} (ht : t ≤ 1) (hk : k ≤ 2) (e : S.1 34 5 = nI t) (h : Q (nI (rf t k)) S) : CallV mdX6_rightOf [.ref 34, .int (nI k)] S (qI Q) := by
  have tt := nI_toInt (n := t) (by omega)
  have tk := nI_toInt (n := k) (by omega)
  apply eX6_rightOf
  rw [e]
  unfold rf at h
  rcases (by omega : t = 0 ∨ t = 1) with h1 | h1 <;> rcases (by omega : k = 0 ∨ k = 1 ∨ k = 2) with h2 | h2 | h2 <;> simp [h1, h2] at h <;>
    refine ⟨fun _ => ⟨fun _ => ⟨fun _ => ?_, fun _ => ?_⟩, fun _ => ⟨fun _ => ?_, fun _ => ?_⟩⟩, fun _ => ?_⟩ <;>
    first | exact h | (exfalso; exact (by (try simp only [fa_lt, fa_le, fa_eq, fa_lt64, fa_le64, fa_eq64, Int32.toInt_toInt64, lsub1, Int32.reduceToInt, Int64.reduceToInt, Int32.toInt_zero, Int64.toInt_zero, ti_m1, ti_m2, ti_m3, ti_m4, ti_m9] at *) <;> omega))
/-! ===== Arrays.fill ===== -/
set_option maxRecDepth 100000 in
set_option maxHeartbeats 4000000 in
theorem c_fill5 {q n : Nat} {rs : List Nat} (hq : q < NC) (hl : lay q = .inr (0, n, rs)) (hn : n < 2 ^ 31) (v : Int32) (S : St) (Q : St → Prop) (h : Q (sF S q (fun j => if j < n then v else S.1 q j))) : ∀ d i, i + d = n → V mdJ7_fill_53178 5 [some (.ref q), some (.int v), some (.int (nI i)), some (.int (nI n))] [] (sF S q (fun j => if j < i then v else S.1 q j)) (qV Q) := by
  intro d
  induction d with
  | zero =>
    intro i hi p l e s m args below meth c D ad ac C hr hk
    have : i = n := by omega
    subst this
    refine mr_iload_n C dJ7_fill_53178_5 rfl (i := 2) rfl ?_
    refine mr_iload_n C dJ7_fill_53178_6 rfl (i := 3) rfl ?_
    refine mr_icmp_ge C dJ7_fill_53178_7 (tgt := 20) (by decide) (fun _ => ?_) (fun q => absurd (nI_le (Nat.le_refl _) hn) q)
    exact mr_vret C hr hk dJ7_fill_53178_20 (qV_mk h)
  | succ d ih =>
    intro i hi p l e s m args below meth c D ad ac C hr hk
    refine mr_iload_n C dJ7_fill_53178_5 rfl (i := 2) rfl ?_
    refine mr_iload_n C dJ7_fill_53178_6 rfl (i := 3) rfl ?_
    refine mr_icmp_ge C dJ7_fill_53178_7 (tgt := 20) (by decide) (fun q => absurd q (nI_ge (by omega) hn)) (fun _ => ?_)
    refine mr_aload_n C dJ7_fill_53178_10 rfl (i := 0) rfl ?_
    refine mr_iload_n C dJ7_fill_53178_11 rfl (i := 2) rfl ?_
    refine mr_iload_n C dJ7_fill_53178_12 rfl (i := 1) rfl ?_
    refine mr_iast C dJ7_fill_53178_13 hq hl (vp_in_nI (by omega) hn) ?_
    refine mr_iinc (v := nI (i + 1)) (L1 := [some (.ref q), some (.int v), some (.int (nI (i + 1))), some (.int (nI n))]) C dJ7_fill_53178_14 rfl (nI_1 i) (Nat.le_of_ble_eq_true rfl) rfl ?_
    refine mr_goto C dJ7_fill_53178_17 (tgt := 5) (by decide) ?_
    refine mr_st (S1 := sF S q (fun j => if j < i + 1 then v else S.1 q j)) ?_ (ih (i + 1) (by omega) p l e s m args below meth c D ad ac C hr hk)
    rw [nI_clamp (by omega)]
    refine Prod.ext (funext fun x => ?_) rfl
    show (if x = q then upd (if x = q then _ else _) i v else if x = q then _ else _) = if x = q then _ else _
    by_cases hx : x = q
    · simp only [if_pos hx]
      funext j
      unfold upd
      by_cases hj : j = i
      · simp [hj]
      · by_cases hj2 : j < i
        · simp [hj, hj2, Nat.lt_succ_of_lt hj2]
        · simp [hj, hj2, show ¬ j < i + 1 by omega]
    · simp only [if_neg hx]
set_option maxRecDepth 100000 in
set_option maxHeartbeats 4000000 in
theorem c_fill {q n : Nat} {rs : List Nat} (hq : q < NC) (hl : lay q = .inr (0, n, rs)) (hn : n < 2 ^ 31) (v : Int32) (S : St) (Q : St → Prop) (h : Q (sF S q (fun j => if j < n then v else S.1 q j))) : CallV mdJ7_fill_53178 [.ref q, .int v] S (qV Q) := by
  refine CallV_of mdJ7_fill_53178 plJ7_fill_53178 2 (Nat.le_of_ble_eq_true rfl) rfl ?_
  intro p l e s m args below meth c D ad ac C hr hk
  refine mr_iconst (v := 0) C dJ7_fill_53178_0 (by decide) ?_
  refine mr_istore_n (L1 := [some (.ref q), some (.int v), some (.int 0), none]) C dJ7_fill_53178_1 rfl (Nat.le_of_ble_eq_true rfl) rfl ?_
  refine mr_aload_n C dJ7_fill_53178_2 rfl (i := 0) rfl ?_
  refine mr_alen C dJ7_fill_53178_3 hq hl ?_
  refine mr_istore_n (L1 := [some (.ref q), some (.int v), some (.int 0), some (.int (nI n))]) C dJ7_fill_53178_4 rfl (Nat.le_of_ble_eq_true rfl) rfl ?_
  refine mr_st (S1 := sF S q (fun j => if j < 0 then v else S.1 q j)) ?_ (c_fill5 hq hl hn v S Q h n 0 (by omega) p l e s m args below meth c D ad ac C hr hk)
  refine Prod.ext (funext fun x => ?_) rfl
  show S.1 x = if x = q then _ else _
  by_cases hx : x = q
  · rw [if_pos hx, hx]
    funext j
    simp
  · rw [if_neg hx]
/-! ===== votes ===== -/
set_option maxRecDepth 100000 in
set_option maxHeartbeats 4000000 in
theorem ok_ofVote (x1 x2 : Int32) : OKI mdX5_ofVote mdX6_ofVote [.ref 0, .int x1, .int x2] [.ref 34, .int x1, .int x2] := by
  intro S hI
  obtain ⟨M, hM, hC, hm, hs, ht, hf⟩ := id hI
  have n8 := hM.n8
  have tn := nI_toInt (n := mN M) (by omega)
  apply eX5_ofVote
  rw [hC.n]
  rcases pk_ix x1 (n := mN M) (by omega) with h | h | ⟨j, hj, rfl⟩
  · refine br_t h ?_
    apply eX6_ofVote
    rw [hm.n]
    exact br_t (by (try simp only [fa_lt, fa_le, fa_eq, fa_lt64, fa_le64, fa_eq64, Int32.toInt_toInt64, lsub1, Int32.reduceToInt, Int64.reduceToInt, Int32.toInt_zero, Int64.toInt_zero, ti_m1, ti_m2, ti_m3, ti_m4, ti_m9] at *) <;> omega) ⟨rfl, hI⟩
  · refine br_f (by (try simp only [fa_lt, fa_le, fa_eq, fa_lt64, fa_le64, fa_eq64, Int32.toInt_toInt64, lsub1, Int32.reduceToInt, Int64.reduceToInt, Int32.toInt_zero, Int64.toInt_zero, ti_m1, ti_m2, ti_m3, ti_m4, ti_m9] at *) <;> omega) (br_t h ?_)
    apply eX6_ofVote
    rw [hm.n]
    exact br_f (by (try simp only [fa_lt, fa_le, fa_eq, fa_lt64, fa_le64, fa_eq64, Int32.toInt_toInt64, lsub1, Int32.reduceToInt, Int64.reduceToInt, Int32.toInt_zero, Int64.toInt_zero, ti_m1, ti_m2, ti_m3, ti_m4, ti_m9] at *) <;> omega) (br_t (by (try simp only [fa_lt, fa_le, fa_eq, fa_lt64, fa_le64, fa_eq64, Int32.toInt_toInt64, lsub1, Int32.reduceToInt, Int64.reduceToInt, Int32.toInt_zero, Int64.toInt_zero, ti_m1, ti_m2, ti_m3, ti_m4, ti_m9] at *) <;> omega) ⟨rfl, hI⟩)
  · have tj := nI_toInt (n := j) (by omega)
    refine br_f (by (try simp only [fa_lt, fa_le, fa_eq, fa_lt64, fa_le64, fa_eq64, Int32.toInt_toInt64, lsub1, Int32.reduceToInt, Int64.reduceToInt, Int32.toInt_zero, Int64.toInt_zero, ti_m1, ti_m2, ti_m3, ti_m4, ti_m9] at *) <;> omega) (br_f (by (try simp only [fa_lt, fa_le, fa_eq, fa_lt64, fa_le64, fa_eq64, Int32.toInt_toInt64, lsub1, Int32.reduceToInt, Int64.reduceToInt, Int32.toInt_zero, Int64.toInt_zero, ti_m1, ti_m2, ti_m3, ti_m4, ti_m9] at *) <;> omega) ?_)
    rw [pk_cl j, hC.kd hj, hC.co hj]
    have g8 : vp_in (nI j) 8 := pk_in j 8 (by omega)
    have a1 : ¬ (nI j).toInt64 < 0 := (by (try simp only [fa_lt, fa_le, fa_eq, fa_lt64, fa_le64, fa_eq64, Int32.toInt_toInt64, lsub1, Int32.reduceToInt, Int64.reduceToInt, Int32.toInt_zero, Int64.toInt_zero, ti_m1, ti_m2, ti_m3, ti_m4, ti_m9] at *) <;> omega)
    have a2 : ¬ ((nI (mN M)).toInt64 - 1 < (nI j).toInt64) := (by (try simp only [fa_lt, fa_le, fa_eq, fa_lt64, fa_le64, fa_eq64, Int32.toInt_toInt64, lsub1, Int32.reduceToInt, Int64.reduceToInt, Int32.toInt_zero, Int64.toInt_zero, ti_m1, ti_m2, ti_m3, ti_m4, ti_m9] at *) <;> omega)
    have k2 := hM.k2 hj
    refine ⟨fun e => ⟨g8, ?_⟩, fun b0 => ⟨fun e => ⟨g8, ?_⟩, fun b1 => ⟨fun e => ⟨g8, ?_⟩, fun b2 => ⟨fun e => ⟨g8, ?_⟩, fun b3 => ?_⟩⟩⟩⟩
    · apply eX6_ofVote
      rw [hm.n, pk_cl j, hm.kd hj]
      exact br_f a1 (br_f a2 (br_t e ⟨g8, rfl, hI⟩))
    · apply eX6_ofVote
      rw [hm.n, pk_cl j, hm.kd hj, hm.co hj]
      exact br_f a1 (br_f a2 (br_f b0 (br_t e ⟨g8, rfl, hI⟩)))
    · refine c_partsLeft (s := 1) (t := mT M) hM.t1 k2 (by omega) hC.t ?_
      apply eX6_ofVote
      rw [hm.n, pk_cl j, hm.kd hj, hm.co hj]
      exact br_f a1 (br_f a2 (br_f b0 (br_f b1 (br_t e ⟨g8, c_leftOf (t := mT M) hM.t1 k2 hm.t ⟨by unfold pL lf; split <;> simp, hI⟩⟩))))
    · refine c_partsRight (s := 1) (t := mT M) hM.t1 k2 (by omega) hC.t ?_
      apply eX6_ofVote
      rw [hm.n, pk_cl j, hm.kd hj, hm.co hj]
      exact br_f a1 (br_f a2 (br_f b0 (br_f b1 (br_f b2 (br_t e ⟨g8, c_rightOf (t := mT M) hM.t1 k2 hm.t ⟨by unfold pR rf; split <;> simp, hI⟩⟩)))))
    · apply eX6_ofVote
      rw [hm.n, pk_cl j, hm.kd hj, hm.co hj]
      exact br_f a1 (br_f a2 (br_f b0 (br_f b1 (br_f b2 (br_f b3 ⟨rfl, hI⟩)))))
theorem INV.trc {S : St} (h : INV S) {u v : Int32} (e : u = v) : INV (sI (sI S 0 5 u) 34 26 v) := by
  obtain ⟨M, h1, h2, h3, h4, h5, h6⟩ := h
  exact ⟨M, h1, h2, h3, h4, e, h6⟩
theorem sI2 (S : St) (p k : Nat) (a b : Int32) : sI (sI S p k a) p k b = sI S p k b := by
  refine Prod.ext (funext fun x => ?_) rfl
  show (if x = p then upd (if x = p then _ else _) k b else if x = p then _ else _) = if x = p then _ else _
  by_cases hx : x = p
  · simp only [if_pos hx]
    funext j
    unfold upd
    split <;> simp [*]
  · simp only [if_neg hx]
set_option maxRecDepth 100000 in
set_option maxHeartbeats 4000000 in
theorem ok_weigh (x1 : Int32) : OKI mdX5_weigh mdX6_weigh [.ref 0, .int x1] [.ref 34, .int x1] := by
  intro S hI
  obtain ⟨M, hM, hC, hm, hs, ht, hf⟩ := id hI
  have n8 := hM.n8
  have tn := nI_toInt (n := mN M) (by omega)
  apply eX5_weigh
  rw [hC.n]
  rcases pk_ix x1 (n := mN M) (by omega) with h | h | ⟨j, hj, rfl⟩
  · refine br_t h ?_
    apply eX6_weigh
    rw [hm.n]
    exact br_t (by (try simp only [fa_lt, fa_le, fa_eq, fa_lt64, fa_le64, fa_eq64, Int32.toInt_toInt64, lsub1, Int32.reduceToInt, Int64.reduceToInt, Int32.toInt_zero, Int64.toInt_zero, ti_m1, ti_m2, ti_m3, ti_m4, ti_m9] at *) <;> omega) ⟨rfl, hI⟩
  · refine br_f (by (try simp only [fa_lt, fa_le, fa_eq, fa_lt64, fa_le64, fa_eq64, Int32.toInt_toInt64, lsub1, Int32.reduceToInt, Int64.reduceToInt, Int32.toInt_zero, Int64.toInt_zero, ti_m1, ti_m2, ti_m3, ti_m4, ti_m9] at *) <;> omega) (br_t h ?_)
    apply eX6_weigh
    rw [hm.n]
    exact br_f (by (try simp only [fa_lt, fa_le, fa_eq, fa_lt64, fa_le64, fa_eq64, Int32.toInt_toInt64, lsub1, Int32.reduceToInt, Int64.reduceToInt, Int32.toInt_zero, Int64.toInt_zero, ti_m1, ti_m2, ti_m3, ti_m4, ti_m9] at *) <;> omega) (br_t (by (try simp only [fa_lt, fa_le, fa_eq, fa_lt64, fa_le64, fa_eq64, Int32.toInt_toInt64, lsub1, Int32.reduceToInt, Int64.reduceToInt, Int32.toInt_zero, Int64.toInt_zero, ti_m1, ti_m2, ti_m3, ti_m4, ti_m9] at *) <;> omega) ⟨rfl, hI⟩)
  · have tj := nI_toInt (n := j) (by omega)
    refine br_f (by (try simp only [fa_lt, fa_le, fa_eq, fa_lt64, fa_le64, fa_eq64, Int32.toInt_toInt64, lsub1, Int32.reduceToInt, Int64.reduceToInt, Int32.toInt_zero, Int64.toInt_zero, ti_m1, ti_m2, ti_m3, ti_m4, ti_m9] at *) <;> omega) (br_f (by (try simp only [fa_lt, fa_le, fa_eq, fa_lt64, fa_le64, fa_eq64, Int32.toInt_toInt64, lsub1, Int32.reduceToInt, Int64.reduceToInt, Int32.toInt_zero, Int64.toInt_zero, ti_m1, ti_m2, ti_m3, ti_m4, ti_m9] at *) <;> omega) ?_)
    rw [pk_cl j, hC.kd hj]
    have g8 : vp_in (nI j) 8 := pk_in j 8 (by omega)
    have a1 : ¬ (nI j).toInt64 < 0 := (by (try simp only [fa_lt, fa_le, fa_eq, fa_lt64, fa_le64, fa_eq64, Int32.toInt_toInt64, lsub1, Int32.reduceToInt, Int64.reduceToInt, Int32.toInt_zero, Int64.toInt_zero, ti_m1, ti_m2, ti_m3, ti_m4, ti_m9] at *) <;> omega)
    have a2 : ¬ ((nI (mN M)).toInt64 - 1 < (nI j).toInt64) := (by (try simp only [fa_lt, fa_le, fa_eq, fa_lt64, fa_le64, fa_eq64, Int32.toInt_toInt64, lsub1, Int32.reduceToInt, Int64.reduceToInt, Int32.toInt_zero, Int64.toInt_zero, ti_m1, ti_m2, ti_m3, ti_m4, ti_m9] at *) <;> omega)
    refine ⟨g8, fun e => ?_, fun e => ?_⟩
    · apply eX6_weigh
      rw [show (sI S 0 5 (31 * S.1 0 5 + 4)).1 34 = S.1 34 from rfl, show (sI S 0 5 (31 * S.1 0 5 + 4)).1 39 = S.1 39 from rfl, hm.n, pk_cl j, hm.kd hj]
      exact br_f a1 (br_f a2 ⟨g8, ⟨fun _ => ⟨g8, ⟨fun _ => ⟨rfl, hI.trc (by rw [ht])⟩, fun q => absurd q e⟩⟩, fun q => absurd q e⟩⟩)
    · apply eX6_weigh
      rw [show (sI S 0 5 (31 * S.1 0 5 + 5)).1 34 = S.1 34 from rfl, show (sI S 0 5 (31 * S.1 0 5 + 5)).1 39 = S.1 39 from rfl, hm.n, pk_cl j, hm.kd hj]
      exact br_f a1 (br_f a2 ⟨g8, ⟨fun q => absurd e q, fun _ => ⟨g8, ⟨fun q => absurd e q, fun _ => ⟨rfl, hI.trc (by rw [ht])⟩⟩⟩⟩⟩)
set_option maxRecDepth 100000 in
set_option maxHeartbeats 4000000 in
theorem ok_tell (x1 : Int32) : OKI mdX5_tell mdX6_tell [.ref 0, .int x1] [.ref 34, .int x1] := by
  intro S hI
  obtain ⟨M, hM, hC, hm, hs, ht, hf⟩ := id hI
  have n8 := hM.n8
  have tn := nI_toInt (n := mN M) (by omega)
  apply eX5_tell
  rw [hC.n]
  rcases pk_ix x1 (n := mN M) (by omega) with h | h | ⟨j, hj, rfl⟩
  · refine br_t h ?_
    apply eX6_tell
    rw [hm.n]
    exact br_t (by (try simp only [fa_lt, fa_le, fa_eq, fa_lt64, fa_le64, fa_eq64, Int32.toInt_toInt64, lsub1, Int32.reduceToInt, Int64.reduceToInt, Int32.toInt_zero, Int64.toInt_zero, ti_m1, ti_m2, ti_m3, ti_m4, ti_m9] at *) <;> omega) ⟨rfl, hI⟩
  · refine br_f (by (try simp only [fa_lt, fa_le, fa_eq, fa_lt64, fa_le64, fa_eq64, Int32.toInt_toInt64, lsub1, Int32.reduceToInt, Int64.reduceToInt, Int32.toInt_zero, Int64.toInt_zero, ti_m1, ti_m2, ti_m3, ti_m4, ti_m9] at *) <;> omega) (br_t h ?_)
    apply eX6_tell
    rw [hm.n]
    exact br_f (by (try simp only [fa_lt, fa_le, fa_eq, fa_lt64, fa_le64, fa_eq64, Int32.toInt_toInt64, lsub1, Int32.reduceToInt, Int64.reduceToInt, Int32.toInt_zero, Int64.toInt_zero, ti_m1, ti_m2, ti_m3, ti_m4, ti_m9] at *) <;> omega) (br_t (by (try simp only [fa_lt, fa_le, fa_eq, fa_lt64, fa_le64, fa_eq64, Int32.toInt_toInt64, lsub1, Int32.reduceToInt, Int64.reduceToInt, Int32.toInt_zero, Int64.toInt_zero, ti_m1, ti_m2, ti_m3, ti_m4, ti_m9] at *) <;> omega) ⟨rfl, hI⟩)
  · have tj := nI_toInt (n := j) (by omega)
    refine br_f (by (try simp only [fa_lt, fa_le, fa_eq, fa_lt64, fa_le64, fa_eq64, Int32.toInt_toInt64, lsub1, Int32.reduceToInt, Int64.reduceToInt, Int32.toInt_zero, Int64.toInt_zero, ti_m1, ti_m2, ti_m3, ti_m4, ti_m9] at *) <;> omega) (br_f (by (try simp only [fa_lt, fa_le, fa_eq, fa_lt64, fa_le64, fa_eq64, Int32.toInt_toInt64, lsub1, Int32.reduceToInt, Int64.reduceToInt, Int32.toInt_zero, Int64.toInt_zero, ti_m1, ti_m2, ti_m3, ti_m4, ti_m9] at *) <;> omega) ?_)
    have k2 := hM.k2 hj
    have ekx := hC.kd hj
    have ekm := hm.kd hj
    rw [pk_cl j, ekx, hC.co hj]
    have g8 : vp_in (nI j) 8 := pk_in j 8 (by omega)
    have a1 : ¬ (nI j).toInt64 < 0 := (by (try simp only [fa_lt, fa_le, fa_eq, fa_lt64, fa_le64, fa_eq64, Int32.toInt_toInt64, lsub1, Int32.reduceToInt, Int64.reduceToInt, Int32.toInt_zero, Int64.toInt_zero, ti_m1, ti_m2, ti_m3, ti_m4, ti_m9] at *) <;> omega)
    have a2 : ¬ ((nI (mN M)).toInt64 - 1 < (nI j).toInt64) := (by (try simp only [fa_lt, fa_le, fa_eq, fa_lt64, fa_le64, fa_eq64, Int32.toInt_toInt64, lsub1, Int32.reduceToInt, Int64.reduceToInt, Int32.toInt_zero, Int64.toInt_zero, ti_m1, ti_m2, ti_m3, ti_m4, ti_m9] at *) <;> omega)
    simp only [sI2]
    rcases (by omega : mK M j = 0 ∨ mK M j = 1 ∨ mK M j = 2) with e | e | e
    · rw [e] at ekm ⊢
      refine ⟨g8, br_f (by decide) (br_f (by decide) ⟨g8, ?_⟩)⟩
      apply eX6_tell
      simp only [show ∀ v, (sI S 0 5 v).1 34 = S.1 34 from fun _ => rfl, show ∀ v, (sI S 0 5 v).1 39 = S.1 39 from fun _ => rfl, show ∀ v, (sI S 0 5 v).1 40 = S.1 40 from fun _ => rfl, hm.n, pk_cl j, ekm, hm.co hj, sI2]
      exact br_f a1 (br_f a2 ⟨g8, nb_t (by decide) (br_t (by decide) (nb_t (by decide) ⟨g8, nb_f rfl ⟨by trivial, hI.trc (by rw [ht])⟩⟩))⟩)
    · rw [e] at ekm ⊢
      refine ⟨g8, br_t (by decide) ⟨g8, ?_⟩⟩
      apply eX6_tell
      simp only [show ∀ v, (sI S 0 5 v).1 34 = S.1 34 from fun _ => rfl, show ∀ v, (sI S 0 5 v).1 39 = S.1 39 from fun _ => rfl, show ∀ v, (sI S 0 5 v).1 40 = S.1 40 from fun _ => rfl, hm.n, pk_cl j, ekm, hm.co hj, sI2]
      exact br_f a1 (br_f a2 ⟨g8, nb_t (by decide) (br_f (by decide) (nb_t (by decide) ⟨g8, nb_t (by decide) (nb_f rfl ⟨by trivial, hI.trc (by rw [ht])⟩)⟩))⟩)
    · rw [e] at ekm ⊢
      refine ⟨g8, br_f (by decide) (br_t (by decide) ⟨g8, g8, ?_⟩)⟩
      apply eX6_tell
      simp only [show ∀ v, (sI S 0 5 v).1 34 = S.1 34 from fun _ => rfl, show ∀ v, (sI S 0 5 v).1 39 = S.1 39 from fun _ => rfl, show ∀ v, (sI S 0 5 v).1 40 = S.1 40 from fun _ => rfl, hm.n, pk_cl j, ekm, hm.co hj, sI2]
      refine br_f a1 (br_f a2 ⟨g8, nb_f rfl (br_f (by decide) (nb_f rfl ⟨g8, nb_t (by decide) (nb_t (by decide) ⟨?_, hI.trc (by rw [ht])⟩)⟩))⟩)
      have c6 := hM.cw hj
      have w6 := hM.w6
      rw [fa_lit 100, fa_lit 2, nI_add, nI_add, pk_mul, nI_add]
      congr 1
      omega
set_option maxRecDepth 100000 in
set_option maxHeartbeats 4000000 in
theorem ok_as (x1 x2 : Int32) : OKI mdX5_as mdX6_as [.ref 0, .int x1, .int x2] [.ref 34, .int x1, .int x2] := by
  intro S hI
  obtain ⟨M, hM, hC, hm, hs, ht, hf⟩ := id hI
  have n8 := hM.n8
  have tn := nI_toInt (n := mN M) (by omega)
  apply eX5_as
  rw [hC.n]
  rcases pk_ix x1 (n := mN M) (by omega) with h | h | ⟨j, hj, rfl⟩
  · refine br_t h ?_
    apply eX6_as
    rw [show (sI S 0 6 0).1 34 = S.1 34 from rfl, hm.n]
    exact br_t (by (try simp only [fa_lt, fa_le, fa_eq, fa_lt64, fa_le64, fa_eq64, Int32.toInt_toInt64, lsub1, Int32.reduceToInt, Int64.reduceToInt, Int32.toInt_zero, Int64.toInt_zero, ti_m1, ti_m2, ti_m3, ti_m4, ti_m9] at *) <;> omega) ⟨rfl, hI.flt 0⟩
  · refine br_f (by (try simp only [fa_lt, fa_le, fa_eq, fa_lt64, fa_le64, fa_eq64, Int32.toInt_toInt64, lsub1, Int32.reduceToInt, Int64.reduceToInt, Int32.toInt_zero, Int64.toInt_zero, ti_m1, ti_m2, ti_m3, ti_m4, ti_m9] at *) <;> omega) (br_t h ?_)
    apply eX6_as
    rw [show (sI S 0 6 0).1 34 = S.1 34 from rfl, hm.n]
    exact br_f (by (try simp only [fa_lt, fa_le, fa_eq, fa_lt64, fa_le64, fa_eq64, Int32.toInt_toInt64, lsub1, Int32.reduceToInt, Int64.reduceToInt, Int32.toInt_zero, Int64.toInt_zero, ti_m1, ti_m2, ti_m3, ti_m4, ti_m9] at *) <;> omega) (br_t (by (try simp only [fa_lt, fa_le, fa_eq, fa_lt64, fa_le64, fa_eq64, Int32.toInt_toInt64, lsub1, Int32.reduceToInt, Int64.reduceToInt, Int32.toInt_zero, Int64.toInt_zero, ti_m1, ti_m2, ti_m3, ti_m4, ti_m9] at *) <;> omega) ⟨rfl, hI.flt 0⟩)
  · have tj := nI_toInt (n := j) (by omega)
    refine br_f (by (try simp only [fa_lt, fa_le, fa_eq, fa_lt64, fa_le64, fa_eq64, Int32.toInt_toInt64, lsub1, Int32.reduceToInt, Int64.reduceToInt, Int32.toInt_zero, Int64.toInt_zero, ti_m1, ti_m2, ti_m3, ti_m4, ti_m9] at *) <;> omega) (br_f (by (try simp only [fa_lt, fa_le, fa_eq, fa_lt64, fa_le64, fa_eq64, Int32.toInt_toInt64, lsub1, Int32.reduceToInt, Int64.reduceToInt, Int32.toInt_zero, Int64.toInt_zero, ti_m1, ti_m2, ti_m3, ti_m4, ti_m9] at *) <;> omega) ?_)
    have a1 : ¬ (nI j).toInt64 < 0 := (by (try simp only [fa_lt, fa_le, fa_eq, fa_lt64, fa_le64, fa_eq64, Int32.toInt_toInt64, lsub1, Int32.reduceToInt, Int64.reduceToInt, Int32.toInt_zero, Int64.toInt_zero, ti_m1, ti_m2, ti_m3, ti_m4, ti_m9] at *) <;> omega)
    have a2 : ¬ ((nI (mN M)).toInt64 - 1 < (nI j).toInt64) := (by (try simp only [fa_lt, fa_le, fa_eq, fa_lt64, fa_le64, fa_eq64, Int32.toInt_toInt64, lsub1, Int32.reduceToInt, Int64.reduceToInt, Int32.toInt_zero, Int64.toInt_zero, ti_m1, ti_m2, ti_m3, ti_m4, ti_m9] at *) <;> omega)
    have g8 : vp_in (nI j) 8 := pk_in j 8 (by omega)
    rw [pk_cl j, hC.kd hj]
    have k2 := hM.k2 hj
    have tk := nI_toInt (n := mK M j) (by omega)
    rcases pk_ix x2 (n := 3) (by omega) with g | g | ⟨k, hk, rfl⟩
    · refine br_t g ?_
      apply eX6_as
      rw [show (sI S 0 6 0).1 34 = S.1 34 from rfl, hm.n]
      exact br_f a1 (br_f a2 (br_t (by (try simp only [fa_lt, fa_le, fa_eq, fa_lt64, fa_le64, fa_eq64, Int32.toInt_toInt64, lsub1, Int32.reduceToInt, Int64.reduceToInt, Int32.toInt_zero, Int64.toInt_zero, ti_m1, ti_m2, ti_m3, ti_m4, ti_m9] at *) <;> omega) ⟨rfl, hI.flt 0⟩))
    · have g : (3 : Int32) ≤ x2 := g
      refine br_f (by (try simp only [fa_lt, fa_le, fa_eq, fa_lt64, fa_le64, fa_eq64, Int32.toInt_toInt64, lsub1, Int32.reduceToInt, Int64.reduceToInt, Int32.toInt_zero, Int64.toInt_zero, ti_m1, ti_m2, ti_m3, ti_m4, ti_m9] at *) <;> omega) (br_t g ?_)
      apply eX6_as
      rw [show (sI S 0 6 0).1 34 = S.1 34 from rfl, hm.n]
      exact br_f a1 (br_f a2 (br_f (by (try simp only [fa_lt, fa_le, fa_eq, fa_lt64, fa_le64, fa_eq64, Int32.toInt_toInt64, lsub1, Int32.reduceToInt, Int64.reduceToInt, Int32.toInt_zero, Int64.toInt_zero, ti_m1, ti_m2, ti_m3, ti_m4, ti_m9] at *) <;> omega) (br_t (by (try simp only [fa_lt, fa_le, fa_eq, fa_lt64, fa_le64, fa_eq64, Int32.toInt_toInt64, lsub1, Int32.reduceToInt, Int64.reduceToInt, Int32.toInt_zero, Int64.toInt_zero, ti_m1, ti_m2, ti_m3, ti_m4, ti_m9] at *) <;> omega) ⟨rfl, hI.flt 0⟩)))
    · have tk := nI_toInt (n := k) (by omega)
      refine br_f (by (try simp only [fa_lt, fa_le, fa_eq, fa_lt64, fa_le64, fa_eq64, Int32.toInt_toInt64, lsub1, Int32.reduceToInt, Int64.reduceToInt, Int32.toInt_zero, Int64.toInt_zero, ti_m1, ti_m2, ti_m3, ti_m4, ti_m9] at *) <;> omega) (br_f (by (try simp only [fa_lt, fa_le, fa_eq, fa_lt64, fa_le64, fa_eq64, Int32.toInt_toInt64, lsub1, Int32.reduceToInt, Int64.reduceToInt, Int32.toInt_zero, Int64.toInt_zero, ti_m1, ti_m2, ti_m3, ti_m4, ti_m9] at *) <;> omega) ⟨g8, fun g => ?_, fun g => ?_⟩)
      · apply eX6_as
        rw [show (sI (sI S 0 6 0) 0 6 2).1 34 = S.1 34 from rfl, show (sI (sI S 0 6 0) 0 6 2).1 39 = S.1 39 from rfl, hm.n, pk_cl j, hm.kd hj]
        exact br_f a1 (br_f a2 (br_f (by (try simp only [fa_lt, fa_le, fa_eq, fa_lt64, fa_le64, fa_eq64, Int32.toInt_toInt64, lsub1, Int32.reduceToInt, Int64.reduceToInt, Int32.toInt_zero, Int64.toInt_zero, ti_m1, ti_m2, ti_m3, ti_m4, ti_m9] at *) <;> omega) (br_f (by (try simp only [fa_lt, fa_le, fa_eq, fa_lt64, fa_le64, fa_eq64, Int32.toInt_toInt64, lsub1, Int32.reduceToInt, Int64.reduceToInt, Int32.toInt_zero, Int64.toInt_zero, ti_m1, ti_m2, ti_m3, ti_m4, ti_m9] at *) <;> omega) ⟨g8, br_t g ⟨rfl, hI.flt2 0 2⟩⟩)))
      · apply eX6_as
        rw [show (sI S 0 6 0).1 34 = S.1 34 from rfl, show (sI S 0 6 0).1 39 = S.1 39 from rfl, hm.n, pk_cl j, hm.kd hj]
        exact br_f a1 (br_f a2 (br_f (by (try simp only [fa_lt, fa_le, fa_eq, fa_lt64, fa_le64, fa_eq64, Int32.toInt_toInt64, lsub1, Int32.reduceToInt, Int64.reduceToInt, Int32.toInt_zero, Int64.toInt_zero, ti_m1, ti_m2, ti_m3, ti_m4, ti_m9] at *) <;> omega) (br_f (by (try simp only [fa_lt, fa_le, fa_eq, fa_lt64, fa_le64, fa_eq64, Int32.toInt_toInt64, lsub1, Int32.reduceToInt, Int64.reduceToInt, Int32.toInt_zero, Int64.toInt_zero, ti_m1, ti_m2, ti_m3, ti_m4, ti_m9] at *) <;> omega) ⟨g8, br_f g ⟨rfl, hI.flt 0⟩⟩)))
set_option maxRecDepth 100000 in
set_option maxHeartbeats 4000000 in
theorem ok_many (x1 : Int32) : OKI mdX5_many mdX6_many [.ref 0, .int x1] [.ref 34, .int x1] := by
  intro S hI
  obtain ⟨M, hM, hC, hm, hs, ht, hf⟩ := id hI
  apply eX5_many
  rw [hC.N, hC.w, hC.n, hC.t]
  refine ⟨fun e => ?_, fun b0 => ⟨fun e => ?_, fun b1 => ⟨fun e => ?_, fun b2 => ⟨fun e => ⟨fun g => ?_, fun g => ?_⟩, fun b3 => ?_⟩⟩⟩⟩
  · apply eX6_many
    rw [hm.N]
    exact br_t e ⟨rfl, hI⟩
  · apply eX6_many
    rw [hm.w]
    exact br_f b0 (br_t e ⟨rfl, hI⟩)
  · apply eX6_many
    rw [hm.n]
    exact br_f b0 (br_f b1 (br_t e ⟨rfl, hI⟩))
  · apply eX6_many
    rw [hm.t]
    exact br_f b0 (br_f b1 (br_f b2 (br_t e (br_t g ⟨rfl, hI⟩))))
  · apply eX6_many
    rw [hm.t]
    exact br_f b0 (br_f b1 (br_f b2 (br_t e (br_f g ⟨rfl, hI⟩))))
  · apply eX6_many
    exact br_f b0 (br_f b1 (br_f b2 (br_f b3 ⟨rfl, hI⟩)))
