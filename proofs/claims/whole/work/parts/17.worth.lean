/-! ===== what a place is worth to a party ===== -/
def bM (M : MS) (k p : Nat) : Nat → Nat → Nat := bw (mW M) (mT M) k (mS M) (mH M) (uP M p)
theorem bM_le {M : MS} (hM : OKM M) {k p i c : Nat} (hc : c < mW M) : bM M k p i c ≤ 8 ^ i := bw_le hM.t1 (fun c _ => by unfold uP; split <;> omega) i c hc
theorem bM_s {M : MS} {k p i c : Nat} : bM M k p (i + 1) c = wu (mW M) (mT M) k (mS M ((mH M - (i + 1)) * mW M + c)) (bM M k p i) c := rfl
theorem wu_le {w t k s : Nat} {b : Nat → Nat} {i c : Nat} (ht : t ≤ 1) (hb : ∀ c, c < w → b c ≤ 8 ^ i) (hc : c < w) : wu w t k s b c ≤ 8 ^ (i + 1) := by
  unfold wu
  split
  · exact Nat.zero_le _
  · have h4 := pLMR (t := t) (k := k) (s := s) ht
    have a1 := Nat.mul_le_mul_left (pL t k s) (hb _ (cl_lt hc))
    have a2 := Nat.mul_le_mul_left (pR t k s) (hb _ (cr_lt hc))
    have a3 := Nat.mul_le_mul_left (pM t k s) (hb _ hc)
    have a4 : pL t k s * 8 ^ i + pR t k s * 8 ^ i + pM t k s * 8 ^ i = 8 ^ (i + 1) := by
      rw [← Nat.add_mul, ← Nat.add_mul, h4, Nat.pow_succ, Nat.mul_comm]
    omega
/-- one row of worths -/
def WR (S : St) (M : MS) (k p r : Nat) : Prop := ∀ c, c < mW M → S.1 (13 + k) (r * mW M + c) = nI (bM M k p (mH M - r) c * 8 ^ (5 - (mH M - r)))
set_option maxRecDepth 100000 in
set_option maxHeartbeats 4000000 in
theorem c_worthUnder {M : MS} {S : St} (hM : OKM M) (hC : CI S M) {k p r i j s : Nat} (hk : k ≤ 2) (hr : r + (i + 1) = mH M) (hj : j < mW M) (hs : s ≤ 4) (hW : WR S M k p (r + 1)) {Q : Int32 → St → Prop} (h : Q (nI (wu (mW M) (mT M) k s (bM M k p i) j * 8 ^ (4 - i))) S) : CallV mdX1_worthUnder [.ref 7, .int (nI (r * mW M + j)), .int (nI s), .int (nI k)] S (qI Q) := by
  have w6 := hM.w6
  have h5 := hM.h5
  have n36 := hM.n36
  have er1 := Nat.mul_le_mul_right (mW M) (show r + 1 ≤ mH M by omega)
  have es : (r + 1) * mW M = r * mW M + mW M := Nat.succ_mul _ _
  have hcl := cl_lt hj
  have hcr := cr_lt hj
  have ck := nI_clamp (n := k) (by omega)
  have ts := nI_toInt (n := s) (by omega)
  have ei : mH M - (r + 1) = i := by omega
  apply eX1_worthUnder
  rw [ck]
  by_cases h4 : s = 4
  · refine nb_f (by rw [h4]; rfl) ?_
    unfold wu at h
    rw [if_pos h4, Nat.zero_mul] at h
    exact h
  · refine nb_t (by (try simp only [fa_lt, fa_le, fa_eq, fa_lt64, fa_le64, fa_eq64, Int32.toInt_toInt64, lsub1, Int32.reduceToInt, Int64.reduceToInt, Int32.toInt_zero, Int64.toInt_zero, ti_m1, ti_m2, ti_m3, ti_m4, ti_m9] at *) <;> omega) ⟨pk_in k 3 (by omega), c_partsLeft (t := mT M) hM.t1 hk (by omega) hC.t (c_partsRight (t := mT M) hM.t1 hk (by omega) hC.t (c_belowLeft hM hC (by omega) hj ⟨vp_in_nI (by omega) (by omega), c_belowRight hM hC (by omega) hj ⟨vp_in_nI (by omega) (by omega), ?_⟩⟩))⟩
    rw [hC.w, nI_add, nI_clamp (n := (r + 1) * mW M + cl j) (by omega), nI_clamp (n := (r + 1) * mW M + cr (mW M) j) (by omega), nI_clamp (n := r * mW M + j + mW M) (by omega), show r * mW M + j + mW M = (r + 1) * mW M + j by omega, hW _ hcl, hW _ hcr, hW _ hj, ei]
    refine ⟨pk_in _ 36 (show (r + 1) * mW M + j < 36 by omega), ?_⟩
    have hLR := pLR (t := mT M) (k := k) (s := s) hM.t1
    have b1 := bM_le hM (k := k) (p := p) (i := i) hcl
    have b2 := bM_le hM (k := k) (p := p) (i := i) hcr
    have b3 := bM_le hM (k := k) (p := p) (i := i) hj
    have hp : 8 ^ (5 - i) = 8 ^ (4 - i) * 8 := by rw [← Nat.pow_succ, show (4 - i).succ = 5 - i by omega]
    have hp2 : 8 ^ i * 8 ^ (4 - i) = 4096 := by rw [← Nat.pow_add, show i + (4 - i) = 4 by omega]
    have hw := wu_le (w := mW M) (t := mT M) (k := k) (s := s) (b := bM M k p i) (i := i) hM.t1 (fun c hc => bM_le hM hc) hj
    have hwb : wu (mW M) (mT M) k s (bM M k p i) j * 8 ^ (4 - i) ≤ 32768 := by
      have := Nat.mul_le_mul_right (8 ^ (4 - i)) hw
      rw [Nat.pow_succ, Nat.mul_right_comm, hp2] at this
      exact this
    have e8 : (8 : Int32) - nI (pL (mT M) k s) - nI (pR (mT M) k s) = nI (pM (mT M) k s) := by
      rw [fa_lit 8, pk_sub (by omega), pk_sub (by omega)]
      rfl
    have etot : pL (mT M) k s * (bM M k p i (cl j) * 8 ^ (5 - i)) + pR (mT M) k s * (bM M k p i (cr (mW M) j) * 8 ^ (5 - i)) + pM (mT M) k s * (bM M k p i j * 8 ^ (5 - i)) = wu (mW M) (mT M) k s (bM M k p i) j * 8 ^ (4 - i) * 8 := by
      unfold wu
      rw [if_neg h4, hp]
      simp only [Nat.add_mul, Nat.mul_assoc]
    rw [e8, pk_mul, pk_mul, pk_mul, nI_add, nI_add, etot, fa_lit 8, pk_div (by omega) (by omega) (by omega), Nat.mul_div_cancel _ (by decide)]
    exact h
set_option maxRecDepth 100000 in
set_option maxHeartbeats 4000000 in
theorem ap11 {M : MS} {S0 : St} {Q : St → Prop} (hM : OKM M) (hC0 : CI S0 M) {k p : Nat} (hk : k ≤ 2) (hp : p ≤ 3) (h : ∀ S, FrR (13 + k) (14 + k) S0 S → WR S M k p (mH M) → V mdX1_appraise 65 [some (.ref 7), some (.int (nI k)), none, none, some (.int (nI (mH M * mW M) - 1))] [] S (qV Q)) : ∀ d i, i + d = mW M → ∀ S, FrR (13 + k) (14 + k) S0 S → (∀ c, c < i → S.1 (13 + k) (mH M * mW M + c) = nI (uP M p c * 32768)) → V mdX1_appraise 11 [some (.ref 7), some (.int (nI k)), some (.int (nI p)), some (.int (nI (mH M * mW M))), some (.int (nI i))] [] S (qV Q) := by
  have w6 := hM.w6
  have n36 := hM.n36
  intro d
  induction d with
  | zero =>
    intro i hi S f e
    apply eX1_appraise_11
    rw [(hC0.fr f (by omega)).w]
    refine br_t (nI_le (by omega) (by omega)) (h S f (fun c hc => ?_))
    rw [e c (by omega), Nat.sub_self]
    rfl
  | succ d ih =>
    intro i hi S f e
    have hC := hC0.fr f (by omega)
    have hp3 := hM.p3 (t := i) (by omega)
    apply eX1_appraise_11
    rw [hC.w, nI_clamp (n := i) (by omega), nI_clamp (n := k) (by omega), nI_1, nI_add, nI_clamp (n := mH M * mW M + i) (by omega), hC.pa (by omega)]
    refine br_f (nI_ge (by omega) (by omega)) ⟨pk_in k 3 (by omega), pk_in i 6 (by omega), ⟨fun q => ⟨pk_in _ 36 (show mH M * mW M + i < 36 by omega), ?_⟩, fun q => ⟨pk_in _ 36 (show mH M * mW M + i < 36 by omega), ?_⟩⟩⟩
    · rw [nI_eq (by omega) (by omega)] at q
      refine ih (i + 1) (by omega) _ (f.tr (FrR.put (by omega) (by omega))) (fun c hc => ?_)
      by_cases hci : c = i
      · subst hci
        simp (disch := omega) only [sI_o, sI_h, sF_o, sF_h, sJ_1, sI_2, sF_2, sJ_o, sJ_h]
        unfold uP
        rw [if_neg q]
        rfl
      · simp (disch := omega) only [sI_o, sI_h, sF_o, sF_h, sJ_1, sI_2, sF_2, sJ_o, sJ_h]
        exact e c (by omega)
    · rw [nI_eq (by omega) (by omega)] at q
      refine ih (i + 1) (by omega) _ (f.tr (FrR.put (by omega) (by omega))) (fun c hc => ?_)
      by_cases hci : c = i
      · subst hci
        simp (disch := omega) only [sI_o, sI_h, sF_o, sF_h, sJ_1, sI_2, sF_2, sJ_o, sJ_h]
        unfold uP
        rw [if_pos q]
        rfl
      · simp (disch := omega) only [sI_o, sI_h, sF_o, sF_h, sJ_1, sI_2, sF_2, sJ_o, sJ_h]
        exact e c (by omega)
set_option maxRecDepth 100000 in
set_option maxHeartbeats 4000000 in
theorem ap65 {M : MS} {S0 : St} {Q : St → Prop} (hM : OKM M) (hC0 : CI S0 M) (hw : 0 < mW M) {k p : Nat} (hk : k ≤ 2) (h : ∀ S, FrR (13 + k) (14 + k) S0 S → (∀ r, r ≤ mH M → WR S M k p r) → Q S) : ∀ n, n ≤ mH M * mW M → ∀ S, FrR (13 + k) (14 + k) S0 S → (∀ r c, r ≤ mH M → c < mW M → n ≤ r * mW M + c → S.1 (13 + k) (r * mW M + c) = nI (bM M k p (mH M - r) c * 8 ^ (5 - (mH M - r)))) → V mdX1_appraise 65 [some (.ref 7), some (.int (nI k)), none, none, some (.int (nI n - 1))] [] S (qV Q) := by
  have w6 := hM.w6
  have h5 := hM.h5
  have n30 := hM.n30
  intro n
  induction n with
  | zero =>
    intro hn S f e
    apply eX1_appraise_65
    exact br_t (by decide) (h S f (fun r hr c hc => e r c hr hc (Nat.zero_le _)))
  | succ n ih =>
    intro hn S f e
    have hC := hC0.fr f (by omega)
    obtain ⟨r, j, hj, hx⟩ := rw_div (x := n) hw
    have hr := rw_row (h := mH M) (r := r) hj (by omega)
    have hs4 := hM.s4 (c := n) (by omega)
    apply eX1_appraise_65
    rw [nI_pred, nI_clamp (n := n) (by omega), nI_clamp (n := k) (by omega), hC.sg (by omega)]
    refine br_f (nI_pos (by omega)) ⟨pk_in k 3 (by omega), pk_in n 30 (by omega), ?_⟩
    have es : (r + 1) * mW M = r * mW M + mW M := Nat.succ_mul _ _
    have := c_worthUnder (p := p) (r := r) (i := mH M - r - 1) (j := j) (s := mS M n) hM hC hk (by omega) hj hs4 (fun c hc => e (r + 1) c (by omega) hc (by omega)) (Q := fun r5 S4 => vp_in (nI n) 36 ∧ V mdX1_appraise 65 [some (.ref 7), some (.int (nI k)), none, none, some (.int (nI n + (-1)))] [] (sI S4 (13 + k) n r5) (qV Q)) ⟨pk_in n 36 (by omega), ?_⟩
    · rw [← hx] at this
      exact this
    · rw [← Int32.sub_eq_add_neg]
      refine ih (by omega) _ (f.tr (FrR.put (by omega) (by omega))) (fun r' c hr' hc hge => ?_)
      by_cases hxx : r' * mW M + c = n
      · obtain ⟨g1, g2⟩ := rw_inj hc hj (hxx.trans hx)
        subst g1
        subst g2
        rw [sI_h ⟨rfl, by omega⟩]
        have e1 : mH M - r' = (mH M - r' - 1) + 1 := by omega
        rw [e1, bM_s, ← e1, show mH M - (mH M - r') = r' by omega, hxx, show 5 - (mH M - r') = 4 - (mH M - r' - 1) by omega]
      · rw [sI_o (Or.inr (by omega))]
        exact e r' c hr' hc (by omega)
set_option maxRecDepth 100000 in
set_option maxHeartbeats 4000000 in
theorem c_appraise {M : MS} {S : St} {Q : St → Prop} (hM : OKM M) (hC : CI S M) (hw : 0 < mW M) {k p : Nat} (hk : k ≤ 2) (hp : p ≤ 3) (h : ∀ S', FrR (13 + k) (14 + k) S S' → (∀ r, r ≤ mH M → WR S' M k p r) → Q S') : CallV mdX1_appraise [.ref 7, .int (nI k), .int (nI p)] S (qV Q) := by
  apply eX1_appraise
  rw [hC.N]
  refine ap11 hM hC hk hp (fun T f e => ?_) (mW M) 0 (by omega) S FrR.rfl (fun c hc => by omega)
  refine ap65 hM hC hw hk h (mH M * mW M) (Nat.le_refl _) T f (fun r c hr hc hge => ?_)
  have : r = mH M := by
    rcases Nat.lt_or_ge r (mH M) with g | g
    · have := rw_lt g hc
      omega
    · omega
  subst this
  exact e c hc
set_option maxRecDepth 100000 in
set_option maxHeartbeats 4000000 in
theorem c_appraiseAll {M : MS} {S : St} {Q : St → Prop} (hM : OKM M) (hC : CI S M) (hw : 0 < mW M) {p : Nat} (hp : p ≤ 3) (h : ∀ S', FrR 13 16 S S' → (∀ k r, k ≤ 2 → r ≤ mH M → WR S' M k p r) → Q S') : CallV mdX1_appraiseAll [.ref 7, .int (nI p)] S (qV Q) := by
  apply eX1_appraiseAll
  apply eX1_appraiseAll_2
  refine br_f (by decide) ?_
  refine c_appraise (k := 0) hM hC hw (by omega) hp (fun S1 f1 w1 => ?_)
  have hC1 := hC.fr f1 (by omega)
  apply eX1_appraiseAll_2
  refine br_f (by decide) ?_
  refine c_appraise (k := 1) hM hC1 hw (by omega) hp (fun S2 f2 w2 => ?_)
  have hC2 := hC1.fr f2 (by omega)
  apply eX1_appraiseAll_2
  refine br_f (by decide) ?_
  refine c_appraise (k := 2) hM hC2 hw (by omega) hp (fun S3 f3 w3 => ?_)
  apply eX1_appraiseAll_2
  refine br_t (by decide) (h S3 (((f1.mono (by omega) (by omega)).tr (f2.mono (by omega) (by omega))).tr (f3.mono (by omega) (by omega))) (fun k r hk hr c hc => ?_))
  rcases (by omega : k = 0 ∨ k = 1 ∨ k = 2) with rfl | rfl | rfl
  · rw [f3.at (by omega), f2.at (by omega)]
    exact w1 r hr c hc
  · rw [f3.at (by omega)]
    exact w2 r hr c hc
  · exact w3 r hr c hc
/-- what is expected of a vote is what its column is worth -/
theorem eM_b {M : MS} {k c0 p : Nat} (hc : c0 < mW M) : eM M k c0 p = bM M k p (mH M) c0 := by
  have h := dual (w := mW M) (t := mT M) (k := k) (h := mH M) (sg := mS M) (d := d1 c0) (u := uP M p) (mH M) 0 (by omega)
  show sm (mW M) (fun t => fw (mW M) (mT M) k (mS M) (d1 c0) (mH M) t * uP M p t) = _
  rw [h]
  show sm (mW M) (fun c => d1 c0 c * bw (mW M) (mT M) k (mS M) (mH M) (uP M p) (mH M) c) = _
  rw [sm_cong (g := fun c => if c0 = c then bw (mW M) (mT M) k (mS M) (mH M) (uP M p) (mH M) c else 0) (fun c _ => by
    unfold d1
    by_cases e : c = c0
    · rw [if_pos e, if_pos e.symm, Nat.one_mul]
    · rw [if_neg e, if_neg (Ne.symm e), Nat.zero_mul])]
  exact sm_one hc
theorem eM_le {M : MS} (hM : OKM M) {k c0 p : Nat} (hc : c0 < mW M) : eM M k c0 p * 8 ^ (5 - mH M) ≤ 32768 := by
  have h5 := hM.h5
  rw [eM_b hc]
  have a := Nat.mul_le_mul_right (8 ^ (5 - mH M)) (bM_le hM (k := k) (p := p) (i := mH M) hc)
  rw [← Nat.pow_add, show mH M + (5 - mH M) = 5 by omega] at a
  exact a
theorem sm_bd {f : Nat → Nat} {a : Nat} : ∀ {n : Nat}, (∀ i, i < n → f i ≤ a) → sm n f ≤ n * a
  | 0, _ => Nat.zero_le _
  | n + 1, h => by
    have := sm_bd (f := f) (a := a) (n := n) (fun i hi => h i (by omega))
    have := h n (by omega)
    rw [Nat.succ_mul]
    show sm n f + f n ≤ _
    omega
theorem eA_le {M : MS} (hM : OKM M) {p : Nat} : eA M p * 8 ^ (5 - mH M) ≤ 262144 := by
  have n8 := hM.n8
  unfold eA
  rw [← sm_mul]
  have := sm_bd (f := fun v => eM M (mK M v) (mC M v) p * 8 ^ (5 - mH M)) (a := 32768) (n := mN M) (fun v hv => eM_le hM (hM.cw hv))
  have := Nat.mul_le_mul_right 32768 n8
  omega
set_option maxRecDepth 100000 in
set_option maxHeartbeats 4000000 in
theorem exp9 {M : MS} {S : St} {Q : Int32 → St → Prop} (hM : OKM M) (hC : CI S M) {p : Nat} (hW : ∀ k, k ≤ 2 → WR S M k p 0) (h : Q (nI (eA M p * 8 ^ (5 - mH M))) S) : ∀ d i, i + d = mN M → V mdX1_expected 9 [some (.ref 7), none, some (.int (nI (sm i (fun v => eM M (mK M v) (mC M v) p) * 8 ^ (5 - mH M)))), some (.int (nI i))] [] S (qI Q) := by
  have n8 := hM.n8
  have w6 := hM.w6
  intro d
  induction d with
  | zero =>
    intro i hi
    have : i = mN M := by omega
    subst this
    apply eX1_expected_9
    rw [hC.n]
    exact br_t (nI_le (Nat.le_refl _) (by omega)) h
  | succ d ih =>
    intro i hi
    have hv : i < mN M := by omega
    have hk := hM.k2 hv
    have hc := hM.cw hv
    apply eX1_expected_9
    rw [hC.n, nI_clamp (n := i) (by omega), nI_1, hC.kd hv, hC.co hv, nI_clamp (n := mK M i) (by omega), nI_clamp (n := mC M i) (by omega)]
    have e := hW (mK M i) hk (mC M i) hc
    rw [Nat.zero_mul, Nat.zero_add, Nat.sub_zero, ← eM_b hc] at e
    rw [e, nI_add, ← Nat.add_mul]
    exact br_f (nI_ge (by omega) (by omega)) ⟨pk_in i 8 (by omega), pk_in _ 3 (show mK M i < 3 by omega), pk_in i 8 (by omega), pk_in _ 36 (show mC M i < 36 by omega), ih (i + 1) (by omega)⟩
set_option maxRecDepth 100000 in
set_option maxHeartbeats 4000000 in
theorem c_expected {M : MS} {S : St} {Q : Int32 → St → Prop} (hM : OKM M) (hC : CI S M) (hw : 0 < mW M) {p : Nat} (hp : p ≤ 3) (h : ∀ S', FrR 13 16 S S' → Q (nI (eA M p * 8 ^ (5 - mH M))) S') : CallV mdX1_expected [.ref 7, .int (nI p)] S (qI Q) := by
  apply eX1_expected
  refine c_appraiseAll hM hC hw hp (fun S' f w => ?_)
  have := exp9 (Q := Q) hM (hC.fr f (by omega)) (fun k hk => w k 0 hk (Nat.zero_le _)) (h S' f) (mN M) 0 (by omega)
  rw [show nI (sm 0 (fun v => eM M (mK M v) (mC M v) p) * 8 ^ (5 - mH M)) = 0 by
    show nI (0 * _) = 0
    rw [Nat.zero_mul]
    rfl] at this
  exact this
