/-! ===== tally, winner: the reference ===== -/
set_option maxRecDepth 100000 in
set_option maxHeartbeats 4000000 in
theorem to5 {M : MS} {S0 : St} {Q : Int32 → St → Prop} (hM : OKM M) (hm0 : MI S0 M) (hw : 0 < mW M) {o : Int32} {p : Nat} (hp : p ≤ 3) (h : ∀ S, S.1 = S0.1 → Q (nI (tl M o (mN M) p)) S) : ∀ d i, i + d = mN M → ∀ S, S.1 = S0.1 → V mdX6_tallyOf 5 [some (.ref 34), some (.int (nI p)), some (.int o), some (.int (nI (tl M o i p))), some (.int (nI i)), none] [] S (qI Q) := by
  have n8 := hM.n8
  have w6 := hM.w6
  intro d
  induction d with
  | zero =>
    intro i hi S e
    have : i = mN M := by omega
    subst this
    apply eX6_tallyOf_5
    rw [(hm0.of1 e).n]
    exact br_t (nI_le (Nat.le_refl _) (by omega)) (h S e)
  | succ d ih =>
    intro i hi S e
    have hm := hm0.of1 e
    have hv : i < mN M := by omega
    have hb := bE_lt (M := M) (v := i) hw
    have same : ∀ T : St, T.1 = S0.1 → ¬ (¬ nI i = o ∧ ln M i = p) → V mdX6_tallyOf 5 [some (.ref 34), some (.int (nI p)), some (.int o), some (.int (nI (tl M o i p) + 0)), some (.int (nI (i + 1))), none] [] T (qI Q) := fun T t z => by
      have := ih (i + 1) (by omega) T t
      rw [tl_s, if_neg z, Nat.add_zero] at this
      rw [Int32.add_zero]
      exact this
    apply eX6_tallyOf_5
    rw [hm.n, nI_1 i]
    refine br_f (nI_ge (by omega) (by omega)) ⟨fun q => ?_, fun q => same S e (fun z => z.1 q)⟩
    refine c_likeliestOf hM hm hv (fun T t z => br_t (by decide) (same T (t.trans e) (fun y => ?_))) (fun T t z => br_f ?_ ?_)
    · have := ln_t z
      omega
    · rw [fa_lt, nI_toInt (by omega)]
      have : (0 : Int32).toInt = 0 := rfl
      omega
    · rw [nI_clamp (n := bE M i) (by omega), (hm.of1 t).pa hb, nI_eq (by have := hM.p3 hb; omega) (by omega)]
      refine ⟨pk_in _ 6 (show bE M i < 6 by omega), fun y => same T (t.trans e) (fun y' => y (by rw [← ln_f z]; exact y'.2)), fun y => ?_⟩
      have := ih (i + 1) (by omega) T (t.trans e)
      rw [tl_s, if_pos ⟨q, by rw [ln_f z]; exact y⟩] at this
      rw [nI_1]
      exact this
set_option maxRecDepth 100000 in
set_option maxHeartbeats 4000000 in
theorem c_tallyOf {M : MS} {S : St} {Q : Int32 → St → Prop} (hM : OKM M) (hm : MI S M) (hw : 0 < mW M) {o : Int32} {p : Nat} (hp : p ≤ 3) (h : ∀ S', S'.1 = S.1 → Q (nI (tl M o (mN M) p)) S') : CallV mdX6_tallyOf [.ref 34, .int (nI p), .int o] S (qI Q) := by
  apply eX6_tallyOf
  exact to5 hM hm hw hp h (mN M) 0 (by omega) S rfl
theorem nI_nn {n : Nat} (h : n < 2 ^ 31) : ¬ nI n ≤ -1 := by
  rw [fa_le, nI_toInt h]
  have : (-1 : Int32).toInt = -1 := rfl
  omega
set_option maxRecDepth 100000 in
set_option maxHeartbeats 4000000 in
theorem wb7 {M : MS} {S0 : St} {Q : Int32 → St → Prop} (hM : OKM M) (hm0 : MI S0 M) (hw : 0 < mW M) {o : Int32} (h : ∀ S, S.1 = S0.1 → Q (nI (wn M o)) S) : ∀ d i, i + d = 4 → 0 < i → ∀ S, S.1 = S0.1 → V mdX6_winnerBut 7 [some (.ref 34), some (.int o), some (.int (nI (am (tl M o (mN M)) i))), some (.int (nI (tl M o (mN M) (am (tl M o (mN M)) i)))), some (.int (nI i)), none] [] S (qI Q) := by
  have n8 := hM.n8
  intro d
  induction d with
  | zero =>
    intro i hi h0 S e
    have : i = 4 := by omega
    subst this
    apply eX6_winnerBut_7
    exact br_t (nI_le (a := 4) (by omega) (by omega)) (h S e)
  | succ d ih =>
    intro i hi h0 S e
    have ha := am_lt (tl M o (mN M)) i h0
    have b1 := tl_le (M := M) (o := o) (p := i) (mN M)
    have b2 := tl_le (M := M) (o := o) (p := am (tl M o (mN M)) i) (mN M)
    apply eX6_winnerBut_7
    rw [nI_1 i]
    refine br_f (nI_ge (b := 4) (by omega) (by omega)) (c_tallyOf hM (hm0.of1 e) hw (by omega) (fun T t => ?_))
    have nx := ih (i + 1) (by omega) (by omega) T (t.trans e)
    rw [show am (tl M o (mN M)) (i + 1) = if tl M o (mN M) i ≤ tl M o (mN M) (am (tl M o (mN M)) i) then am (tl M o (mN M)) i else i from rfl] at nx
    rw [nI_leI (by omega) (by omega)]
    by_cases q : tl M o (mN M) i ≤ tl M o (mN M) (am (tl M o (mN M)) i)
    · rw [if_pos q] at nx
      exact br_t q (br_t q nx)
    · rw [if_neg q] at nx
      exact br_f q (br_f q nx)
set_option maxRecDepth 100000 in
set_option maxHeartbeats 4000000 in
theorem c_winnerBut {M : MS} {S : St} {Q : Int32 → St → Prop} (hM : OKM M) (hm : MI S M) (hw : 0 < mW M) {o : Int32} (h : ∀ S', S'.1 = S.1 → Q (nI (wn M o)) S') : CallV mdX6_winnerBut [.ref 34, .int o] S (qI Q) := by
  have n8 := hM.n8
  have b1 := tl_le (M := M) (o := o) (p := 0) (mN M)
  apply eX6_winnerBut
  apply eX6_winnerBut_7
  refine br_f (by decide) (c_tallyOf (p := 0) hM hm hw (by omega) (fun T t => br_f (nI_nn (by omega)) (br_f (nI_nn (by omega)) ?_)))
  have := wb7 (Q := Q) (o := o) hM hm hw h 3 1 (by omega) (by omega) T t
  rw [am_1] at this
  exact this
/-- the votes it hangs on -/
def hgO (M : MS) : Nat → Int32
  | 0 => 0
  | v + 1 => if wn M (nI v) = wn M (-9) then hgO M v else hgO M v ||| ((1 : Int32) <<< (nI v &&& 31))
set_option maxRecDepth 100000 in
set_option maxHeartbeats 4000000 in
theorem vh15 {M : MS} {S0 : St} {Q : Int32 → St → Prop} (hM : OKM M) (hC0 : CI S0 M) (hL : LN S0 M (mN M)) (h : ∀ S, FrR 17 18 S0 S → Q (hgO M (mN M)) S) : ∀ d i, i + d = mN M → ∀ S, FrR 17 18 S0 S → V mdX1_votesItHangsOn 15 [some (.ref 7), some (.int (nI (wn M (-9)))), some (.int (hgO M i)), some (.int (nI i))] [] S (qI Q) := by
  have n8 := hM.n8
  have w4 := wn_lt (M := M) (o := -9)
  intro d
  induction d with
  | zero =>
    intro i hi S f
    have : i = mN M := by omega
    subst this
    apply eX1_votesItHangsOn_15
    rw [(hC0.fr f (by omega)).n]
    exact br_t (nI_le (Nat.le_refl _) (by omega)) (h S f)
  | succ d ih =>
    intro i hi S f
    have w4' := wn_lt (M := M) (o := nI i)
    apply eX1_votesItHangsOn_15
    rw [(hC0.fr f (by omega)).n, nI_1 i]
    refine br_f (nI_ge (by omega) (by omega)) (c_winnerWithout hM (hC0.fr f (by omega)) (fun v hv => by rw [f.at (by omega)]; exact hL v hv) (fun S' g => ?_))
    have nx := ih (i + 1) (by omega) S' (f.tr g)
    rw [show hgO M (i + 1) = if wn M (nI i) = wn M (-9) then hgO M i else hgO M i ||| ((1 : Int32) <<< (nI i &&& 31)) from rfl] at nx
    rw [nI_eq (by omega) (by omega)]
    refine ⟨fun q => ?_, fun q => ?_⟩
    · rw [if_pos q] at nx
      exact nx
    · rw [if_neg q] at nx
      exact nx
set_option maxRecDepth 100000 in
set_option maxHeartbeats 4000000 in
theorem wi41 {M : MS} {S0 : St} {Q : Int32 → St → Prop} (hM : OKM M) (hm0 : MI S0 M) (hw : 0 < mW M) (h : ∀ S, S.1 = S0.1 → Q (hgO M (mN M)) S) : ∀ d i, i + d = mN M → ∀ S, S.1 = S0.1 → V mdX6_winner 41 [some (.ref 34), none, some (.int (nI (wn M (-9)))), some (.int (hgO M i)), some (.int (nI i))] [] S (qI Q) := by
  have n8 := hM.n8
  have w4 := wn_lt (M := M) (o := -9)
  intro d
  induction d with
  | zero =>
    intro i hi S e
    have : i = mN M := by omega
    subst this
    apply eX6_winner_41
    rw [(hm0.of1 e).n]
    exact br_t (nI_le (Nat.le_refl _) (by omega)) (h S e)
  | succ d ih =>
    intro i hi S e
    have w4' := wn_lt (M := M) (o := nI i)
    apply eX6_winner_41
    rw [(hm0.of1 e).n, nI_1 i]
    refine br_f (nI_ge (by omega) (by omega)) (c_winnerBut hM (hm0.of1 e) hw (fun T t => ?_))
    have nx := ih (i + 1) (by omega) T (t.trans e)
    rw [show hgO M (i + 1) = if wn M (nI i) = wn M (-9) then hgO M i else hgO M i ||| ((1 : Int32) <<< (nI i &&& 31)) from rfl] at nx
    rw [nI_eq (by omega) (by omega)]
    refine ⟨fun q => ?_, fun q => ?_⟩
    · rw [if_neg q] at nx
      exact nx
    · rw [if_pos q] at nx
      rw [Int32.or_zero]
      exact nx
set_option maxRecDepth 100000 in
set_option maxHeartbeats 4000000 in
theorem ok_tally (x1 : Int32) : OKI mdX5_tally mdX6_tally [.ref 0, .int x1] [.ref 34, .int x1] := by
  intro S hI
  obtain ⟨M, hM, hC, hm, hs, ht, hf⟩ := id hI
  have w6 := hM.w6
  have h5 := hM.h5
  have hwh := hM.hw
  apply eX5_tally
  rcases pk_ix x1 (n := 4) (by omega) with h | h | ⟨p, hp, rfl⟩
  · refine br_t h ?_
    apply eX6_tally
    exact br_t (by (try simp only [fa_lt, fa_le, fa_eq, fa_lt64, fa_le64, fa_eq64, Int32.toInt_toInt64, lsub1, Int32.reduceToInt, Int64.reduceToInt, Int32.toInt_zero, Int64.toInt_zero, ti_m1, ti_m2, ti_m3, ti_m4, ti_m9] at *) <;> omega) ⟨rfl, hI⟩
  · have h : (4 : Int32) ≤ x1 := h
    refine br_f (by (try simp only [fa_lt, fa_le, fa_eq, fa_lt64, fa_le64, fa_eq64, Int32.toInt_toInt64, lsub1, Int32.reduceToInt, Int64.reduceToInt, Int32.toInt_zero, Int64.toInt_zero, ti_m1, ti_m2, ti_m3, ti_m4, ti_m9] at *) <;> omega) (br_t h ?_)
    apply eX6_tally
    exact br_f (by (try simp only [fa_lt, fa_le, fa_eq, fa_lt64, fa_le64, fa_eq64, Int32.toInt_toInt64, lsub1, Int32.reduceToInt, Int64.reduceToInt, Int32.toInt_zero, Int64.toInt_zero, ti_m1, ti_m2, ti_m3, ti_m4, ti_m9] at *) <;> omega) (br_t (by (try simp only [fa_lt, fa_le, fa_eq, fa_lt64, fa_le64, fa_eq64, Int32.toInt_toInt64, lsub1, Int32.reduceToInt, Int64.reduceToInt, Int32.toInt_zero, Int64.toInt_zero, ti_m1, ti_m2, ti_m3, ti_m4, ti_m9] at *) <;> omega) ⟨rfl, hI⟩)
  have tp := nI_toInt (n := p) (by omega)
  refine br_f (by (try simp only [fa_lt, fa_le, fa_eq, fa_lt64, fa_le64, fa_eq64, Int32.toInt_toInt64, lsub1, Int32.reduceToInt, Int64.reduceToInt, Int32.toInt_zero, Int64.toInt_zero, ti_m1, ti_m2, ti_m3, ti_m4, ti_m9] at *) <;> omega) (br_f (by (try simp only [fa_lt, fa_le, fa_eq, fa_lt64, fa_le64, fa_eq64, Int32.toInt_toInt64, lsub1, Int32.reduceToInt, Int64.reduceToInt, Int32.toInt_zero, Int64.toInt_zero, ti_m1, ti_m2, ti_m3, ti_m4, ti_m9] at *) <;> omega) ?_)
  rw [hC.w]
  by_cases h0 : mW M = 0
  · refine br_t (by rw [h0]; decide) ?_
    apply eX6_tally
    rw [hm.h]
    exact br_f (by (try simp only [fa_lt, fa_le, fa_eq, fa_lt64, fa_le64, fa_eq64, Int32.toInt_toInt64, lsub1, Int32.reduceToInt, Int64.reduceToInt, Int32.toInt_zero, Int64.toInt_zero, ti_m1, ti_m2, ti_m3, ti_m4, ti_m9] at *) <;> omega) (br_f (by (try simp only [fa_lt, fa_le, fa_eq, fa_lt64, fa_le64, fa_eq64, Int32.toInt_toInt64, lsub1, Int32.reduceToInt, Int64.reduceToInt, Int32.toInt_zero, Int64.toInt_zero, ti_m1, ti_m2, ti_m3, ti_m4, ti_m9] at *) <;> omega) (nb_f (by rw [hwh.2 h0]; rfl) ⟨rfl, hI⟩))
  · have tw := nI_toInt (n := mW M) (by omega)
    refine br_f (by (try simp only [fa_lt, fa_le, fa_eq, fa_lt64, fa_le64, fa_eq64, Int32.toInt_toInt64, lsub1, Int32.reduceToInt, Int64.reduceToInt, Int32.toInt_zero, Int64.toInt_zero, ti_m1, ti_m2, ti_m3, ti_m4, ti_m9] at *) <;> omega) (c_findLeanings hM hC (fun S1 f1 hL => c_tallyWithout hM (hC.fr f1 (by omega)) hL (fun S2 f2 e => ⟨pk_in p 4 (by omega), ?_⟩)))
    have f3 := f1.mono (a' := 9) (b' := 18) (by omega) (by omega) |>.tr (f2.mono (by omega) (by omega))
    have hm' := hm.fr f3 (by omega)
    have hI' := hI.fr f3 (by omega) (by omega)
    rw [nI_clamp (n := p) (by omega), e p (by omega)]
    apply eX6_tally
    rw [hm'.h]
    exact br_f (by (try simp only [fa_lt, fa_le, fa_eq, fa_lt64, fa_le64, fa_eq64, Int32.toInt_toInt64, lsub1, Int32.reduceToInt, Int64.reduceToInt, Int32.toInt_zero, Int64.toInt_zero, ti_m1, ti_m2, ti_m3, ti_m4, ti_m9] at *) <;> omega) (br_f (by (try simp only [fa_lt, fa_le, fa_eq, fa_lt64, fa_le64, fa_eq64, Int32.toInt_toInt64, lsub1, Int32.reduceToInt, Int64.reduceToInt, Int32.toInt_zero, Int64.toInt_zero, ti_m1, ti_m2, ti_m3, ti_m4, ti_m9] at *) <;> omega) (nb_t (by rw [fa_lit 0, nI_eq (by omega) (by omega)]; omega) (c_tallyOf hM hm' (by omega) (by omega) (fun T t => ⟨rfl, hI'.of1 t⟩))))
set_option maxRecDepth 100000 in
set_option maxHeartbeats 4000000 in
theorem ok_winner (x1 : Int32) : OKI mdX5_winner mdX6_winner [.ref 0, .int x1] [.ref 34, .int x1] := by
  intro S hI
  obtain ⟨M, hM, hC, hm, hs, ht, hf⟩ := id hI
  have w6 := hM.w6
  have h5 := hM.h5
  have hwh := hM.hw
  apply eX5_winner
  rcases pk_ix x1 (n := 2) (by omega) with h | h | ⟨p, hp, rfl⟩
  · refine br_t h ?_
    apply eX6_winner
    exact br_t (by (try simp only [fa_lt, fa_le, fa_eq, fa_lt64, fa_le64, fa_eq64, Int32.toInt_toInt64, lsub1, Int32.reduceToInt, Int64.reduceToInt, Int32.toInt_zero, Int64.toInt_zero, ti_m1, ti_m2, ti_m3, ti_m4, ti_m9] at *) <;> omega) ⟨rfl, hI⟩
  · have h : (2 : Int32) ≤ x1 := h
    refine br_f (by (try simp only [fa_lt, fa_le, fa_eq, fa_lt64, fa_le64, fa_eq64, Int32.toInt_toInt64, lsub1, Int32.reduceToInt, Int64.reduceToInt, Int32.toInt_zero, Int64.toInt_zero, ti_m1, ti_m2, ti_m3, ti_m4, ti_m9] at *) <;> omega) (br_f (by (try simp only [fa_lt, fa_le, fa_eq, fa_lt64, fa_le64, fa_eq64, Int32.toInt_toInt64, lsub1, Int32.reduceToInt, Int64.reduceToInt, Int32.toInt_zero, Int64.toInt_zero, ti_m1, ti_m2, ti_m3, ti_m4, ti_m9] at *) <;> omega) ?_)
    apply eX6_winner
    exact br_f (by (try simp only [fa_lt, fa_le, fa_eq, fa_lt64, fa_le64, fa_eq64, Int32.toInt_toInt64, lsub1, Int32.reduceToInt, Int64.reduceToInt, Int32.toInt_zero, Int64.toInt_zero, ti_m1, ti_m2, ti_m3, ti_m4, ti_m9] at *) <;> omega) (br_t (by (try simp only [fa_lt, fa_le, fa_eq, fa_lt64, fa_le64, fa_eq64, Int32.toInt_toInt64, lsub1, Int32.reduceToInt, Int64.reduceToInt, Int32.toInt_zero, Int64.toInt_zero, ti_m1, ti_m2, ti_m3, ti_m4, ti_m9] at *) <;> omega) ⟨rfl, hI⟩)
  have tp := nI_toInt (n := p) (by omega)
  refine br_f (by (try simp only [fa_lt, fa_le, fa_eq, fa_lt64, fa_le64, fa_eq64, Int32.toInt_toInt64, lsub1, Int32.reduceToInt, Int64.reduceToInt, Int32.toInt_zero, Int64.toInt_zero, ti_m1, ti_m2, ti_m3, ti_m4, ti_m9] at *) <;> omega) (br_t (by (try simp only [fa_lt, fa_le, fa_eq, fa_lt64, fa_le64, fa_eq64, Int32.toInt_toInt64, lsub1, Int32.reduceToInt, Int64.reduceToInt, Int32.toInt_zero, Int64.toInt_zero, ti_m1, ti_m2, ti_m3, ti_m4, ti_m9] at *) <;> omega) ?_)
  rw [hC.w]
  by_cases h0 : mW M = 0
  · refine br_t (by rw [h0]; decide) ?_
    apply eX6_winner
    rw [hm.h]
    exact br_f (by (try simp only [fa_lt, fa_le, fa_eq, fa_lt64, fa_le64, fa_eq64, Int32.toInt_toInt64, lsub1, Int32.reduceToInt, Int64.reduceToInt, Int32.toInt_zero, Int64.toInt_zero, ti_m1, ti_m2, ti_m3, ti_m4, ti_m9] at *) <;> omega) (br_f (by (try simp only [fa_lt, fa_le, fa_eq, fa_lt64, fa_le64, fa_eq64, Int32.toInt_toInt64, lsub1, Int32.reduceToInt, Int64.reduceToInt, Int32.toInt_zero, Int64.toInt_zero, ti_m1, ti_m2, ti_m3, ti_m4, ti_m9] at *) <;> omega) (nb_f (by rw [hwh.2 h0]; rfl) ⟨rfl, hI⟩))
  have tw := nI_toInt (n := mW M) (by omega)
  have hw0 : 0 < mW M := by omega
  have hH : ¬ nI (mH M) = 0 := by
    rw [fa_lit 0, nI_eq (by omega) (by omega)]
    omega
  refine br_f (by (try simp only [fa_lt, fa_le, fa_eq, fa_lt64, fa_le64, fa_eq64, Int32.toInt_toInt64, lsub1, Int32.reduceToInt, Int64.reduceToInt, Int32.toInt_zero, Int64.toInt_zero, ti_m1, ti_m2, ti_m3, ti_m4, ti_m9] at *) <;> omega) ?_
  by_cases hp0 : nI p = 0
  · refine nb_f hp0 (c_findLeanings hM hC (fun S1 f1 hL => c_winnerWithout hM (hC.fr f1 (by omega)) hL (fun S2 f2 => ?_)))
    have f3 := f1.mono (a' := 9) (b' := 18) (by omega) (by omega) |>.tr (f2.mono (by omega) (by omega))
    have hm' := hm.fr f3 (by omega)
    have hI' := hI.fr f3 (by omega) (by omega)
    apply eX6_winner
    rw [hm'.h]
    exact br_f (by (try simp only [fa_lt, fa_le, fa_eq, fa_lt64, fa_le64, fa_eq64, Int32.toInt_toInt64, lsub1, Int32.reduceToInt, Int64.reduceToInt, Int32.toInt_zero, Int64.toInt_zero, ti_m1, ti_m2, ti_m3, ti_m4, ti_m9] at *) <;> omega) (br_f (by (try simp only [fa_lt, fa_le, fa_eq, fa_lt64, fa_le64, fa_eq64, Int32.toInt_toInt64, lsub1, Int32.reduceToInt, Int64.reduceToInt, Int32.toInt_zero, Int64.toInt_zero, ti_m1, ti_m2, ti_m3, ti_m4, ti_m9] at *) <;> omega) (nb_t hH (c_winnerBut hM hm' hw0 (fun T t => nb_f hp0 ⟨rfl, hI'.of1 t⟩))))
  · refine nb_t hp0 ?_
    apply eX1_votesItHangsOn
    refine c_findLeanings hM hC (fun S1 f1 hL => c_winnerWithout hM (hC.fr f1 (by omega)) hL (fun S2 f2 => ?_))
    have f3 := f1.mono (a' := 9) (b' := 18) (by omega) (by omega) |>.tr (f2.mono (by omega) (by omega))
    refine vh15 hM (hC.fr f3 (by omega)) (fun v hv => by rw [f2.at (by omega)]; exact hL v hv) (fun S3 f4 => ?_) (mN M) 0 (by omega) S2 FrR.rfl
    have f5 := f3.tr (f4.mono (by omega) (by omega))
    have hm' := hm.fr f5 (by omega)
    have hI' := hI.fr f5 (by omega) (by omega)
    apply eX6_winner
    rw [hm'.h]
    refine br_f (by (try simp only [fa_lt, fa_le, fa_eq, fa_lt64, fa_le64, fa_eq64, Int32.toInt_toInt64, lsub1, Int32.reduceToInt, Int64.reduceToInt, Int32.toInt_zero, Int64.toInt_zero, ti_m1, ti_m2, ti_m3, ti_m4, ti_m9] at *) <;> omega) (br_f (by (try simp only [fa_lt, fa_le, fa_eq, fa_lt64, fa_le64, fa_eq64, Int32.toInt_toInt64, lsub1, Int32.reduceToInt, Int64.reduceToInt, Int32.toInt_zero, Int64.toInt_zero, ti_m1, ti_m2, ti_m3, ti_m4, ti_m9] at *) <;> omega) (nb_t hH (c_winnerBut hM hm' hw0 (fun T t => nb_t hp0 ?_))))
    exact wi41 (Q := fun r2 S2 => hgO M (mN M) = r2 ∧ INV S2) hM (hm'.of1 t) hw0 (fun U u => ⟨rfl, hI'.of1 (u.trans t)⟩) (mN M) 0 (by omega) T rfl
