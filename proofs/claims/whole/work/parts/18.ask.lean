/-! ===== what is expected; where to start ===== -/
theorem eA_small {M : MS} (hM : OKM M) {p : Nat} : eA M p ≤ 262144 := by
  have := Nat.le_mul_of_pos_right (eA M p) (show 0 < 8 ^ (5 - mH M) from Nat.pow_pos (by decide))
  have := eA_le hM (p := p)
  omega
set_option maxRecDepth 100000 in
set_option maxHeartbeats 4000000 in
theorem ok_expects (x1 x2 : Int32) : OKJ mdX5_expects mdX6_expects [.ref 0, .int x1, .int x2] [.ref 34, .int x1, .int x2] := by
  intro S hI
  obtain ⟨M, hM, hC, hm, hs, ht, hf⟩ := id hI
  have w6 := hM.w6
  have h5 := hM.h5
  have n8 := hM.n8
  have hwh := hM.hw
  have tw := nI_toInt (n := mW M) (by omega)
  apply eX5_expects
  rcases pk_ix x1 (n := 4) (by omega) with h | h | ⟨p, hp, rfl⟩
  · refine br_t h ?_
    apply eX6_expects
    exact br_t (by (try simp only [fa_lt, fa_le, fa_eq, fa_lt64, fa_le64, fa_eq64, Int32.toInt_toInt64, lsub1, Int32.reduceToInt, Int64.reduceToInt, Int32.toInt_zero, Int64.toInt_zero, ti_m1, ti_m2, ti_m3, ti_m4, ti_m9] at *) <;> omega) ⟨rfl, hI⟩
  · have h : (4 : Int32) ≤ x1 := h
    refine br_f (by (try simp only [fa_lt, fa_le, fa_eq, fa_lt64, fa_le64, fa_eq64, Int32.toInt_toInt64, lsub1, Int32.reduceToInt, Int64.reduceToInt, Int32.toInt_zero, Int64.toInt_zero, ti_m1, ti_m2, ti_m3, ti_m4, ti_m9] at *) <;> omega) (br_t h ?_)
    apply eX6_expects
    exact br_f (by (try simp only [fa_lt, fa_le, fa_eq, fa_lt64, fa_le64, fa_eq64, Int32.toInt_toInt64, lsub1, Int32.reduceToInt, Int64.reduceToInt, Int32.toInt_zero, Int64.toInt_zero, ti_m1, ti_m2, ti_m3, ti_m4, ti_m9] at *) <;> omega) (br_t (by (try simp only [fa_lt, fa_le, fa_eq, fa_lt64, fa_le64, fa_eq64, Int32.toInt_toInt64, lsub1, Int32.reduceToInt, Int64.reduceToInt, Int32.toInt_zero, Int64.toInt_zero, ti_m1, ti_m2, ti_m3, ti_m4, ti_m9] at *) <;> omega) ⟨rfl, hI⟩)
  have tp := nI_toInt (n := p) (by omega)
  refine br_f (by (try simp only [fa_lt, fa_le, fa_eq, fa_lt64, fa_le64, fa_eq64, Int32.toInt_toInt64, lsub1, Int32.reduceToInt, Int64.reduceToInt, Int32.toInt_zero, Int64.toInt_zero, ti_m1, ti_m2, ti_m3, ti_m4, ti_m9] at *) <;> omega) (br_f (by (try simp only [fa_lt, fa_le, fa_eq, fa_lt64, fa_le64, fa_eq64, Int32.toInt_toInt64, lsub1, Int32.reduceToInt, Int64.reduceToInt, Int32.toInt_zero, Int64.toInt_zero, ti_m1, ti_m2, ti_m3, ti_m4, ti_m9] at *) <;> omega) ?_)
  rcases pk_ix x2 (n := 2) (by omega) with h | h | ⟨wh, hw, rfl⟩
  · refine br_t h ?_
    apply eX6_expects
    exact br_f (by (try simp only [fa_lt, fa_le, fa_eq, fa_lt64, fa_le64, fa_eq64, Int32.toInt_toInt64, lsub1, Int32.reduceToInt, Int64.reduceToInt, Int32.toInt_zero, Int64.toInt_zero, ti_m1, ti_m2, ti_m3, ti_m4, ti_m9] at *) <;> omega) (br_f (by (try simp only [fa_lt, fa_le, fa_eq, fa_lt64, fa_le64, fa_eq64, Int32.toInt_toInt64, lsub1, Int32.reduceToInt, Int64.reduceToInt, Int32.toInt_zero, Int64.toInt_zero, ti_m1, ti_m2, ti_m3, ti_m4, ti_m9] at *) <;> omega) (br_t (by (try simp only [fa_lt, fa_le, fa_eq, fa_lt64, fa_le64, fa_eq64, Int32.toInt_toInt64, lsub1, Int32.reduceToInt, Int64.reduceToInt, Int32.toInt_zero, Int64.toInt_zero, ti_m1, ti_m2, ti_m3, ti_m4, ti_m9] at *) <;> omega) ⟨rfl, hI⟩))
  · have h : (2 : Int32) ≤ x2 := h
    refine br_f (by (try simp only [fa_lt, fa_le, fa_eq, fa_lt64, fa_le64, fa_eq64, Int32.toInt_toInt64, lsub1, Int32.reduceToInt, Int64.reduceToInt, Int32.toInt_zero, Int64.toInt_zero, ti_m1, ti_m2, ti_m3, ti_m4, ti_m9] at *) <;> omega) (br_t (by (try simp only [fa_lt, fa_le, fa_eq, fa_lt64, fa_le64, fa_eq64, Int32.toInt_toInt64, lsub1, Int32.reduceToInt, Int64.reduceToInt, Int32.toInt_zero, Int64.toInt_zero, ti_m1, ti_m2, ti_m3, ti_m4, ti_m9] at *) <;> omega) ?_)
    apply eX6_expects
    exact br_f (by (try simp only [fa_lt, fa_le, fa_eq, fa_lt64, fa_le64, fa_eq64, Int32.toInt_toInt64, lsub1, Int32.reduceToInt, Int64.reduceToInt, Int32.toInt_zero, Int64.toInt_zero, ti_m1, ti_m2, ti_m3, ti_m4, ti_m9] at *) <;> omega) (br_f (by (try simp only [fa_lt, fa_le, fa_eq, fa_lt64, fa_le64, fa_eq64, Int32.toInt_toInt64, lsub1, Int32.reduceToInt, Int64.reduceToInt, Int32.toInt_zero, Int64.toInt_zero, ti_m1, ti_m2, ti_m3, ti_m4, ti_m9] at *) <;> omega) (br_f (by (try simp only [fa_lt, fa_le, fa_eq, fa_lt64, fa_le64, fa_eq64, Int32.toInt_toInt64, lsub1, Int32.reduceToInt, Int64.reduceToInt, Int32.toInt_zero, Int64.toInt_zero, ti_m1, ti_m2, ti_m3, ti_m4, ti_m9] at *) <;> omega) (br_t (by (try simp only [fa_lt, fa_le, fa_eq, fa_lt64, fa_le64, fa_eq64, Int32.toInt_toInt64, lsub1, Int32.reduceToInt, Int64.reduceToInt, Int32.toInt_zero, Int64.toInt_zero, ti_m1, ti_m2, ti_m3, ti_m4, ti_m9] at *) <;> omega) ⟨rfl, hI⟩)))
  have twh := nI_toInt (n := wh) (by omega)
  refine br_f (by (try simp only [fa_lt, fa_le, fa_eq, fa_lt64, fa_le64, fa_eq64, Int32.toInt_toInt64, lsub1, Int32.reduceToInt, Int64.reduceToInt, Int32.toInt_zero, Int64.toInt_zero, ti_m1, ti_m2, ti_m3, ti_m4, ti_m9] at *) <;> omega) (br_f (by (try simp only [fa_lt, fa_le, fa_eq, fa_lt64, fa_le64, fa_eq64, Int32.toInt_toInt64, lsub1, Int32.reduceToInt, Int64.reduceToInt, Int32.toInt_zero, Int64.toInt_zero, ti_m1, ti_m2, ti_m3, ti_m4, ti_m9] at *) <;> omega) ?_)
  rw [hC.w]
  by_cases h0 : mW M = 0
  · refine br_t (by rw [h0]; decide) ?_
    apply eX6_expects
    rw [hm.h]
    exact br_f (by (try simp only [fa_lt, fa_le, fa_eq, fa_lt64, fa_le64, fa_eq64, Int32.toInt_toInt64, lsub1, Int32.reduceToInt, Int64.reduceToInt, Int32.toInt_zero, Int64.toInt_zero, ti_m1, ti_m2, ti_m3, ti_m4, ti_m9] at *) <;> omega) (br_f (by (try simp only [fa_lt, fa_le, fa_eq, fa_lt64, fa_le64, fa_eq64, Int32.toInt_toInt64, lsub1, Int32.reduceToInt, Int64.reduceToInt, Int32.toInt_zero, Int64.toInt_zero, ti_m1, ti_m2, ti_m3, ti_m4, ti_m9] at *) <;> omega) (br_f (by (try simp only [fa_lt, fa_le, fa_eq, fa_lt64, fa_le64, fa_eq64, Int32.toInt_toInt64, lsub1, Int32.reduceToInt, Int64.reduceToInt, Int32.toInt_zero, Int64.toInt_zero, ti_m1, ti_m2, ti_m3, ti_m4, ti_m9] at *) <;> omega) (br_f (by (try simp only [fa_lt, fa_le, fa_eq, fa_lt64, fa_le64, fa_eq64, Int32.toInt_toInt64, lsub1, Int32.reduceToInt, Int64.reduceToInt, Int32.toInt_zero, Int64.toInt_zero, ti_m1, ti_m2, ti_m3, ti_m4, ti_m9] at *) <;> omega) (nb_f (by rw [hwh.2 h0]; rfl) ⟨rfl, hI⟩))))
  · have hw0 : 0 < mW M := by omega
    refine br_f (by (try simp only [fa_lt, fa_le, fa_eq, fa_lt64, fa_le64, fa_eq64, Int32.toInt_toInt64, lsub1, Int32.reduceToInt, Int64.reduceToInt, Int32.toInt_zero, Int64.toInt_zero, ti_m1, ti_m2, ti_m3, ti_m4, ti_m9] at *) <;> omega) (c_expected hM hC hw0 (by omega) (fun S' f => ?_))
    have hm' := hm.fr f (by omega)
    have hI' := hI.fr f (by omega) (by omega)
    have hA := eA_le hM (p := p)
    have hA2 := eA_small hM (p := p)
    refine c_leastTerms (by omega) (by omega) ?_
    apply eX6_expects
    rw [hm'.h]
    refine br_f (by (try simp only [fa_lt, fa_le, fa_eq, fa_lt64, fa_le64, fa_eq64, Int32.toInt_toInt64, lsub1, Int32.reduceToInt, Int64.reduceToInt, Int32.toInt_zero, Int64.toInt_zero, ti_m1, ti_m2, ti_m3, ti_m4, ti_m9] at *) <;> omega) (br_f (by (try simp only [fa_lt, fa_le, fa_eq, fa_lt64, fa_le64, fa_eq64, Int32.toInt_toInt64, lsub1, Int32.reduceToInt, Int64.reduceToInt, Int32.toInt_zero, Int64.toInt_zero, ti_m1, ti_m2, ti_m3, ti_m4, ti_m9] at *) <;> omega) (br_f (by (try simp only [fa_lt, fa_le, fa_eq, fa_lt64, fa_le64, fa_eq64, Int32.toInt_toInt64, lsub1, Int32.reduceToInt, Int64.reduceToInt, Int32.toInt_zero, Int64.toInt_zero, ti_m1, ti_m2, ti_m3, ti_m4, ti_m9] at *) <;> omega) (br_f (by (try simp only [fa_lt, fa_le, fa_eq, fa_lt64, fa_le64, fa_eq64, Int32.toInt_toInt64, lsub1, Int32.reduceToInt, Int64.reduceToInt, Int32.toInt_zero, Int64.toInt_zero, ti_m1, ti_m2, ti_m3, ti_m4, ti_m9] at *) <;> omega) (nb_t (by rw [fa_lit 0, nI_eq (by omega) (by omega)]; omega) (c_expectsNow hM hm' (by omega) (fun T t1 t2 => ?_))))))
    have hmT := hm'.of1 t1
    rw [hmT.n]
    by_cases hn : mN M = 0
    · have e0 : eA M p = 0 := by
        unfold eA
        rw [hn]
        rfl
      refine nb_f (by rw [hn]; rfl) ⟨?_, hI'.of1 t1⟩
      rw [e0, Nat.zero_mul]
      rcases (by omega : wh = 0 ∨ wh = 1) with rfl | rfl <;> rfl
    · refine nb_t (by rw [fa_lit 0, nI_eq (by omega) (by omega)]; omega) ?_
      rw [t2 (by omega)]
      refine m_told hM (by omega) hA2 ⟨?_, hI'.of1 t1⟩
      rw [rdc_eq hM]
      have hp := pow8_le (r := mH M) h5
      have := rdc_le (wh := wh) (u := eA M p) (l := 8 ^ mH M)
      exact nI_l (by omega)
/-- the first of the greatest -/
def am (f : Nat → Nat) : Nat → Nat
  | 0 => 0
  | n + 1 => if f n ≤ f (am f n) then am f n else n
theorem am_lt (f : Nat → Nat) : ∀ n, 0 < n → am f n < n
  | 0, h => by omega
  | n + 1, _ => by
    show (if f n ≤ f (am f n) then am f n else n) < n + 1
    split
    · rcases Nat.eq_zero_or_pos n with rfl | h
      · exact Nat.one_pos
      · have := am_lt f n h
        omega
    · omega
theorem am_1 (f : Nat → Nat) : am f 1 = 0 := by
  show (if f 0 ≤ f 0 then 0 else 0) = 0
  split <;> rfl
set_option maxRecDepth 100000 in
set_option maxHeartbeats 4000000 in
theorem bs11 {M : MS} {S : St} {Q : Int32 → St → Prop} (hM : OKM M) (hC : CI S M) {k p : Nat} (hk : k ≤ 2) (hW : WR S M k p 0) (h : Q (nI (am (bM M k p (mH M)) (mW M))) S) : ∀ d i, i + d = mW M → 0 < i → V mdX1_bestStart 11 [some (.ref 7), some (.int (nI k)), none, some (.int (nI (am (bM M k p (mH M)) i))), some (.int (nI i))] [] S (qI Q) := by
  have w6 := hM.w6
  have h5 := hM.h5
  intro d
  induction d with
  | zero =>
    intro i hi h0
    have : i = mW M := by omega
    subst this
    apply eX1_bestStart_11
    rw [hC.w]
    exact br_t (nI_le (Nat.le_refl _) (by omega)) h
  | succ d ih =>
    intro i hi h0
    have ha := am_lt (bM M k p (mH M)) i h0
    have e1 := hW i (by omega)
    have e2 := hW _ (show am (bM M k p (mH M)) i < mW M by omega)
    rw [Nat.zero_mul, Nat.zero_add, Nat.sub_zero] at e1 e2
    have b1 := bM_le hM (k := k) (p := p) (i := mH M) (c := i) (by omega)
    have b2 := bM_le hM (k := k) (p := p) (i := mH M) (c := am (bM M k p (mH M)) i) (by omega)
    have hp : 8 ^ mH M * 8 ^ (5 - mH M) = 32768 := by rw [← Nat.pow_add, show mH M + (5 - mH M) = 5 by omega]
    have b3 := Nat.mul_le_mul_right (8 ^ (5 - mH M)) b1
    have b4 := Nat.mul_le_mul_right (8 ^ (5 - mH M)) b2
    have hp0 : 0 < 8 ^ (5 - mH M) := Nat.pow_pos (by decide)
    have := ih (i + 1) (by omega) (by omega)
    rw [show am (bM M k p (mH M)) (i + 1) = if bM M k p (mH M) i ≤ bM M k p (mH M) (am (bM M k p (mH M)) i) then am (bM M k p (mH M)) i else i from rfl] at this
    apply eX1_bestStart_11
    rw [hC.w, nI_clamp (n := k) (by omega), nI_clamp (n := i) (by omega), nI_clamp (n := am (bM M k p (mH M)) i) (by omega), e1, e2, nI_1]
    refine br_f (nI_ge (by omega) (by omega)) ⟨pk_in k 3 (by omega), pk_in i 36 (by omega), pk_in k 3 (by omega), pk_in _ 36 (show am (bM M k p (mH M)) i < 36 by omega), ?_⟩
    rw [nI_leI (by omega) (by omega)]
    refine ⟨fun q => ?_, fun q => ?_⟩
    · rw [if_pos (Nat.le_of_mul_le_mul_right q hp0)] at this
      exact this
    · rw [if_neg (fun z => q (Nat.mul_le_mul_right _ z))] at this
      exact this
set_option maxRecDepth 100000 in
set_option maxHeartbeats 4000000 in
theorem c_bestStart {M : MS} {S : St} {Q : Int32 → St → Prop} (hM : OKM M) (hC : CI S M) (hw : 0 < mW M) {k p : Nat} (hk : k ≤ 2) (hp : p ≤ 3) (h : ∀ S', FrR 13 16 S S' → Q (nI (am (bM M k p (mH M)) (mW M))) S') : CallV mdX1_bestStart [.ref 7, .int (nI k), .int (nI p)] S (qI Q) := by
  apply eX1_bestStart
  refine c_appraise hM hC hw hk hp (fun S' f hW => ?_)
  have := bs11 (Q := Q) hM (hC.fr f (by omega)) hk (hW 0 (Nat.zero_le _)) (h S' (f.mono (by omega) (by omega))) (mW M - 1) 1 (by omega) (by omega)
  rw [am_1] at this
  exact this
set_option maxRecDepth 100000 in
set_option maxHeartbeats 4000000 in
theorem ms27 {M : MS} {S0 : St} {Q : Int32 → St → Prop} (hM : OKM M) (hm0 : MI S0 M) {v p : Nat} (hv : v < mN M) (hp : p ≤ 3) (h : ∀ S, S.1 = S0.1 → Q (nI (am (fun c => eM M (mK M v) c p) (mW M))) S) : ∀ d i, i + d = mW M → 0 < i → ∀ S, S.1 = S0.1 → V mdX6_start 27 [some (.ref 34), some (.int (nI v)), some (.int (nI p)), some (.int (nI (am (fun c => eM M (mK M v) c p) i))), some (.long (lN (eM M (mK M v) (am (fun c => eM M (mK M v) c p) i) p))), none, some (.int (nI i)), none, none] [] S (qI Q) := by
  have w6 := hM.w6
  have h5 := hM.h5
  have n8 := hM.n8
  have hk := hM.k2 hv
  intro d
  induction d with
  | zero =>
    intro i hi h0 S e
    have hm := hm0.of1 e
    have : i = mW M := by omega
    subst this
    apply eX6_start_27
    rw [hm.w]
    exact br_t (nI_le (Nat.le_refl _) (by omega)) (h S e)
  | succ d ih =>
    intro i hi h0 S e
    have hm := hm0.of1 e
    have ha := am_lt (fun c => eM M (mK M v) c p) i h0
    have pw := pow8_le (r := mH M) h5
    have b1 := bM_le hM (k := mK M v) (p := p) (i := mH M) (c := i) (by omega)
    have b2 := bM_le hM (k := mK M v) (p := p) (i := mH M) (c := am (fun c => eM M (mK M v) c p) i) (by omega)
    rw [← eM_b (by omega)] at b1 b2
    apply eX6_start_27
    rw [hm.w, nI_clamp (n := v) (by omega), hm.kd hv, nI_1]
    refine br_f (nI_ge (by omega) (by omega)) ⟨pk_in v 8 (by omega), c_layChances hM hm hk (by omega) (fun T t1 t2 => c_partsFor hM (hm.of1 t1) hp t2 ?_)⟩
    have := ih (i + 1) (by omega) (by omega) T (t1.trans e)
    rw [show am (fun c => eM M (mK M v) c p) (i + 1) = if eM M (mK M v) i p ≤ eM M (mK M v) (am (fun c => eM M (mK M v) c p) i) p then am (fun c => eM M (mK M v) c p) i else i from rfl] at this
    rw [pk_lLE (by omega) (by omega)]
    by_cases q : eM M (mK M v) i p ≤ eM M (mK M v) (am (fun c => eM M (mK M v) c p) i) p
    · rw [if_pos q] at this
      exact br_t q (br_t q this)
    · rw [if_neg q] at this
      exact br_f q (br_f q this)
theorem lN_nn {n : Nat} (h : n < 2 ^ 31) : ¬ lN n ≤ -1 := by
  rw [fa_le64, lN_toInt h]
  have : (-1 : Int64).toInt = -1 := rfl
  omega
theorem am_cong {f g : Nat → Nat} : ∀ n, (∀ i, i < n → f i = g i) → am f n = am g n
  | 0, _ => rfl
  | n + 1, h => by
    have e := am_cong n (fun i hi => h i (by omega))
    show (if f n ≤ f (am f n) then am f n else n) = (if g n ≤ g (am g n) then am g n else n)
    rw [e, h n (by omega)]
    rcases Nat.eq_zero_or_pos n with rfl | hn
    · rw [show am g 0 = 0 from rfl, h 0 (by omega)]
    · rw [h (am g n) (by have := am_lt g n hn; omega)]
set_option maxRecDepth 100000 in
set_option maxHeartbeats 4000000 in
theorem ok_start (x1 x2 : Int32) : OKI mdX5_start mdX6_start [.ref 0, .int x1, .int x2] [.ref 34, .int x1, .int x2] := by
  intro S hI
  obtain ⟨M, hM, hC, hm, hs, ht, hf⟩ := id hI
  have n8 := hM.n8
  have w6 := hM.w6
  have tn := nI_toInt (n := mN M) (by omega)
  apply eX5_start
  rw [hC.n]
  rcases pk_ix x1 (n := mN M) (by omega) with h | h | ⟨v, hv, rfl⟩
  · refine br_t h ?_
    apply eX6_start
    rw [hm.n]
    exact br_t (by (try simp only [fa_lt, fa_le, fa_eq, fa_lt64, fa_le64, fa_eq64, Int32.toInt_toInt64, lsub1, Int32.reduceToInt, Int64.reduceToInt, Int32.toInt_zero, Int64.toInt_zero, ti_m1, ti_m2, ti_m3, ti_m4, ti_m9] at *) <;> omega) ⟨rfl, hI⟩
  · refine br_f (by (try simp only [fa_lt, fa_le, fa_eq, fa_lt64, fa_le64, fa_eq64, Int32.toInt_toInt64, lsub1, Int32.reduceToInt, Int64.reduceToInt, Int32.toInt_zero, Int64.toInt_zero, ti_m1, ti_m2, ti_m3, ti_m4, ti_m9] at *) <;> omega) (br_t h ?_)
    apply eX6_start
    rw [hm.n]
    exact br_f (by (try simp only [fa_lt, fa_le, fa_eq, fa_lt64, fa_le64, fa_eq64, Int32.toInt_toInt64, lsub1, Int32.reduceToInt, Int64.reduceToInt, Int32.toInt_zero, Int64.toInt_zero, ti_m1, ti_m2, ti_m3, ti_m4, ti_m9] at *) <;> omega) (br_t (by (try simp only [fa_lt, fa_le, fa_eq, fa_lt64, fa_le64, fa_eq64, Int32.toInt_toInt64, lsub1, Int32.reduceToInt, Int64.reduceToInt, Int32.toInt_zero, Int64.toInt_zero, ti_m1, ti_m2, ti_m3, ti_m4, ti_m9] at *) <;> omega) ⟨rfl, hI⟩)
  have tv := nI_toInt (n := v) (by omega)
  refine br_f (by (try simp only [fa_lt, fa_le, fa_eq, fa_lt64, fa_le64, fa_eq64, Int32.toInt_toInt64, lsub1, Int32.reduceToInt, Int64.reduceToInt, Int32.toInt_zero, Int64.toInt_zero, ti_m1, ti_m2, ti_m3, ti_m4, ti_m9] at *) <;> omega) (br_f (by (try simp only [fa_lt, fa_le, fa_eq, fa_lt64, fa_le64, fa_eq64, Int32.toInt_toInt64, lsub1, Int32.reduceToInt, Int64.reduceToInt, Int32.toInt_zero, Int64.toInt_zero, ti_m1, ti_m2, ti_m3, ti_m4, ti_m9] at *) <;> omega) ?_)
  rcases pk_ix x2 (n := 4) (by omega) with h | h | ⟨p, hp, rfl⟩
  · refine br_t h ?_
    apply eX6_start
    rw [hm.n]
    exact br_f (by (try simp only [fa_lt, fa_le, fa_eq, fa_lt64, fa_le64, fa_eq64, Int32.toInt_toInt64, lsub1, Int32.reduceToInt, Int64.reduceToInt, Int32.toInt_zero, Int64.toInt_zero, ti_m1, ti_m2, ti_m3, ti_m4, ti_m9] at *) <;> omega) (br_f (by (try simp only [fa_lt, fa_le, fa_eq, fa_lt64, fa_le64, fa_eq64, Int32.toInt_toInt64, lsub1, Int32.reduceToInt, Int64.reduceToInt, Int32.toInt_zero, Int64.toInt_zero, ti_m1, ti_m2, ti_m3, ti_m4, ti_m9] at *) <;> omega) (br_t (by (try simp only [fa_lt, fa_le, fa_eq, fa_lt64, fa_le64, fa_eq64, Int32.toInt_toInt64, lsub1, Int32.reduceToInt, Int64.reduceToInt, Int32.toInt_zero, Int64.toInt_zero, ti_m1, ti_m2, ti_m3, ti_m4, ti_m9] at *) <;> omega) ⟨rfl, hI⟩))
  · have h : (4 : Int32) ≤ x2 := h
    refine br_f (by (try simp only [fa_lt, fa_le, fa_eq, fa_lt64, fa_le64, fa_eq64, Int32.toInt_toInt64, lsub1, Int32.reduceToInt, Int64.reduceToInt, Int32.toInt_zero, Int64.toInt_zero, ti_m1, ti_m2, ti_m3, ti_m4, ti_m9] at *) <;> omega) (br_t h ?_)
    apply eX6_start
    rw [hm.n]
    exact br_f (by (try simp only [fa_lt, fa_le, fa_eq, fa_lt64, fa_le64, fa_eq64, Int32.toInt_toInt64, lsub1, Int32.reduceToInt, Int64.reduceToInt, Int32.toInt_zero, Int64.toInt_zero, ti_m1, ti_m2, ti_m3, ti_m4, ti_m9] at *) <;> omega) (br_f (by (try simp only [fa_lt, fa_le, fa_eq, fa_lt64, fa_le64, fa_eq64, Int32.toInt_toInt64, lsub1, Int32.reduceToInt, Int64.reduceToInt, Int32.toInt_zero, Int64.toInt_zero, ti_m1, ti_m2, ti_m3, ti_m4, ti_m9] at *) <;> omega) (br_f (by (try simp only [fa_lt, fa_le, fa_eq, fa_lt64, fa_le64, fa_eq64, Int32.toInt_toInt64, lsub1, Int32.reduceToInt, Int64.reduceToInt, Int32.toInt_zero, Int64.toInt_zero, ti_m1, ti_m2, ti_m3, ti_m4, ti_m9] at *) <;> omega) (br_t (by (try simp only [fa_lt, fa_le, fa_eq, fa_lt64, fa_le64, fa_eq64, Int32.toInt_toInt64, lsub1, Int32.reduceToInt, Int64.reduceToInt, Int32.toInt_zero, Int64.toInt_zero, ti_m1, ti_m2, ti_m3, ti_m4, ti_m9] at *) <;> omega) ⟨rfl, hI⟩)))
  have tp := nI_toInt (n := p) (by omega)
  have hk := hM.k2 hv
  have hc := hM.cw hv
  have hw0 : 0 < mW M := by omega
  refine br_f (by (try simp only [fa_lt, fa_le, fa_eq, fa_lt64, fa_le64, fa_eq64, Int32.toInt_toInt64, lsub1, Int32.reduceToInt, Int64.reduceToInt, Int32.toInt_zero, Int64.toInt_zero, ti_m1, ti_m2, ti_m3, ti_m4, ti_m9] at *) <;> omega) (br_f (by (try simp only [fa_lt, fa_le, fa_eq, fa_lt64, fa_le64, fa_eq64, Int32.toInt_toInt64, lsub1, Int32.reduceToInt, Int64.reduceToInt, Int32.toInt_zero, Int64.toInt_zero, ti_m1, ti_m2, ti_m3, ti_m4, ti_m9] at *) <;> omega) ⟨pk_in v 8 (by omega), ?_⟩)
  rw [nI_clamp (n := v) (by omega), hC.kd hv]
  refine c_bestStart hM hC hw0 hk (by omega) (fun S' f => ?_)
  have hm' := hm.fr f (by omega)
  have hI' := hI.fr f (by omega) (by omega)
  apply eX6_start
  rw [hm'.n]
  refine br_f (by (try simp only [fa_lt, fa_le, fa_eq, fa_lt64, fa_le64, fa_eq64, Int32.toInt_toInt64, lsub1, Int32.reduceToInt, Int64.reduceToInt, Int32.toInt_zero, Int64.toInt_zero, ti_m1, ti_m2, ti_m3, ti_m4, ti_m9] at *) <;> omega) (br_f (by (try simp only [fa_lt, fa_le, fa_eq, fa_lt64, fa_le64, fa_eq64, Int32.toInt_toInt64, lsub1, Int32.reduceToInt, Int64.reduceToInt, Int32.toInt_zero, Int64.toInt_zero, ti_m1, ti_m2, ti_m3, ti_m4, ti_m9] at *) <;> omega) (br_f (by (try simp only [fa_lt, fa_le, fa_eq, fa_lt64, fa_le64, fa_eq64, Int32.toInt_toInt64, lsub1, Int32.reduceToInt, Int64.reduceToInt, Int32.toInt_zero, Int64.toInt_zero, ti_m1, ti_m2, ti_m3, ti_m4, ti_m9] at *) <;> omega) (br_f (by (try simp only [fa_lt, fa_le, fa_eq, fa_lt64, fa_le64, fa_eq64, Int32.toInt_toInt64, lsub1, Int32.reduceToInt, Int64.reduceToInt, Int32.toInt_zero, Int64.toInt_zero, ti_m1, ti_m2, ti_m3, ti_m4, ti_m9] at *) <;> omega) ?_)))
  apply eX6_start_27
  have b1 := bM_le hM (k := mK M v) (p := p) (i := mH M) (c := 0) (by omega)
  have pw := pow8_le (r := mH M) hM.h5
  rw [← eM_b (by omega)] at b1
  rw [hm'.w, nI_clamp (n := v) (by omega), hm'.kd hv]
  refine br_f (nI_ge (a := 0) (by omega) (by omega)) ⟨pk_in v 8 (by omega), c_layChances (c0 := 0) hM hm' hk (by omega) (fun T t1 t2 => c_partsFor hM (hm'.of1 t1) (by omega) t2 ?_)⟩
  refine br_f (lN_nn (by omega)) (br_f (lN_nn (by omega)) ?_)
  have := ms27 (M := M) (S0 := S') (v := v) (p := p) (Q := fun r2 S2 => nI (am (bM M (mK M v) p (mH M)) (mW M)) = r2 ∧ INV S2) hM hm' hv (by omega) (fun U e => ⟨?_, hI'.of1 e⟩) (mW M - 1) 1 (by omega) (by omega) T t1
  · rw [am_1] at this
    exact this
  · rw [am_cong (mW M) (fun i hi => (eM_b (M := M) (k := mK M v) (p := p) hi).symm)]
