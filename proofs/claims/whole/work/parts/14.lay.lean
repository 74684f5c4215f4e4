/-! ===== starting texts of the kit: longs by their bits ===== -/
theorem wb_tb (n : Nat) : (lN n).toBitVec = BitVec.ofNat 64 n := rfl
theorem wb_inj {a b : Int64} (h : a.toBitVec = b.toBitVec) : a = b := Int64.toBitVec_inj.mp h
theorem wb_tn {n : Nat} (h : n < 2 ^ 64) : (lN n).toBitVec.toNat = n := by rw [wb_tb, BitVec.toNat_ofNat, Nat.mod_eq_of_lt h]
theorem wb_c : ∀ k, k < 64 → ((nI k).toInt64 &&& 63) = lN k := by decide +kernel
theorem wb_sm : ∀ k, k < 64 → (BitVec.ofNat 64 k).smod 64 = BitVec.ofNat 64 k := by decide +kernel
theorem wb_shl (n : Nat) {k : Nat} (hk : k < 64) : lN n <<< ((nI k).toInt64 &&& 63) = lN (n * 2 ^ k) := by
  rw [wb_c k hk]
  apply wb_inj
  rw [Int64.toBitVec_shiftLeft, wb_tb, wb_tb, wb_tb, wb_sm k hk]
  apply BitVec.eq_of_toNat_eq
  rw [BitVec.shiftLeft_eq', BitVec.toNat_shiftLeft, BitVec.toNat_ofNat, BitVec.toNat_ofNat, BitVec.toNat_ofNat, Nat.mod_eq_of_lt (show k < 2 ^ 64 by omega), Nat.shiftLeft_eq, Nat.mul_mod, Nat.mod_mod, ← Nat.mul_mod]
theorem wb_and {a b : Nat} (ha : a < 2 ^ 64) (hb : b < 2 ^ 64) : lN a &&& lN b = lN (a &&& b) := by
  apply wb_inj
  rw [Int64.toBitVec_and, wb_tb, wb_tb, wb_tb]
  apply BitVec.eq_of_toNat_eq
  rw [BitVec.toNat_and, BitVec.toNat_ofNat, BitVec.toNat_ofNat, BitVec.toNat_ofNat, Nat.mod_eq_of_lt ha, Nat.mod_eq_of_lt hb, Nat.mod_eq_of_lt (Nat.and_lt_two_pow _ hb)]
theorem wb_or {a b : Nat} (ha : a < 2 ^ 64) (hb : b < 2 ^ 64) : lN a ||| lN b = lN (a ||| b) := by
  apply wb_inj
  rw [Int64.toBitVec_or, wb_tb, wb_tb, wb_tb]
  apply BitVec.eq_of_toNat_eq
  rw [BitVec.toNat_or, BitVec.toNat_ofNat, BitVec.toNat_ofNat, BitVec.toNat_ofNat, Nat.mod_eq_of_lt ha, Nat.mod_eq_of_lt hb, Nat.mod_eq_of_lt (Nat.or_lt_two_pow ha hb)]
/-! ===== sets told as bits ===== -/
def msk (n : Nat) (P : Nat → Bool) : Nat := sm n (fun i => if P i = true then 2 ^ i else 0)
theorem msk_lt (P : Nat → Bool) : ∀ n, msk n P < 2 ^ n
  | 0 => Nat.one_pos
  | n + 1 => by
    have := msk_lt P n
    show msk n P + (if P n = true then 2 ^ n else 0) < 2 ^ (n + 1)
    rw [Nat.pow_succ]
    split <;> omega
theorem msk_or (P : Nat → Bool) (n : Nat) (b : Bool) (hb : b = P n) : (if b = true then msk n P ||| 2 ^ n else msk n P) = msk (n + 1) P := by
  show _ = msk n P + (if P n = true then 2 ^ n else 0)
  rw [hb]
  split
  · have := Nat.two_pow_add_eq_or_of_lt (msk_lt P n) 1
    rw [Nat.mul_one] at this
    rw [Nat.or_comm, ← this]
    omega
  · rfl
theorem msk_bit (P : Nat → Bool) (j : Nat) : ∀ n, (msk n P).testBit j = (decide (j < n) && P j)
  | 0 => by simp [msk, sm]
  | n + 1 => by
    rw [← msk_or P n (P n) rfl]
    cases hP : P n with
    | false =>
      rw [if_neg (by decide), msk_bit P j n]
      by_cases h : j = n
      · subst h
        simp [hP]
      · have : decide (j < n + 1) = decide (j < n) := decide_eq_decide.mpr (by omega)
        rw [this]
    | true =>
      rw [if_pos rfl, Nat.testBit_or, msk_bit P j n, Nat.testBit_two_pow]
      by_cases h : j = n
      · subst h
        simp [hP]
      · have : decide (j < n + 1) = decide (j < n) := decide_eq_decide.mpr (by omega)
        rw [this]
        simp [Ne.symm h]
/-! ===== the reference: from a column to the next ones ===== -/
set_option maxRecDepth 100000 in
set_option maxHeartbeats 4000000 in
theorem c_leftBy {c : Nat} (hc : c < 2 ^ 30) {S : St} {Q : Int32 → St → Prop} (h : Q (nI (cl c)) S) : CallV mdX6_leftBy [.ref 34, .int (nI c)] S (qI Q) := by
  have tc := nI_toInt (n := c) (by omega)
  apply eX6_leftBy
  unfold cl at h
  by_cases h0 : 0 < c
  · rw [if_pos h0] at h
    refine br_f (by (try simp only [fa_lt, fa_le, fa_eq, fa_lt64, fa_le64, fa_eq64, Int32.toInt_toInt64, lsub1, Int32.reduceToInt, Int64.reduceToInt, Int32.toInt_zero, Int64.toInt_zero, ti_m1, ti_m2, ti_m3, ti_m4, ti_m9] at *) <;> omega) ?_
    rw [fa_lit 1, pk_sub h0]
    exact h
  · rw [if_neg h0] at h
    exact br_t (by (try simp only [fa_lt, fa_le, fa_eq, fa_lt64, fa_le64, fa_eq64, Int32.toInt_toInt64, lsub1, Int32.reduceToInt, Int64.reduceToInt, Int32.toInt_zero, Int64.toInt_zero, ti_m1, ti_m2, ti_m3, ti_m4, ti_m9] at *) <;> omega) h
set_option maxRecDepth 100000 in
set_option maxHeartbeats 4000000 in
theorem c_rightBy {c w : Nat} (hc : c < 2 ^ 30) (hw : w < 2 ^ 30) {S : St} {Q : Int32 → St → Prop} (e : S.1 34 2 = nI w) (h : Q (nI (cr w c)) S) : CallV mdX6_rightBy [.ref 34, .int (nI c)] S (qI Q) := by
  apply eX6_rightBy
  rw [e, nI_1]
  unfold cr at h
  exact pk_le w (c + 1) (fun q => by rw [if_neg (by omega)] at h; exact h) (fun q => by rw [if_pos q] at h; exact h)
def gO (w k s c : Nat) : Nat := if k = 2 ∨ s = 0 then c else if s = 2 then cl c else cr w c
theorem gO_lt {w k s c : Nat} (hc : c < w) : gO w k s c < w := by
  unfold gO
  split
  · exact hc
  · split
    · exact cl_lt hc
    · exact cr_lt hc
theorem tw_gO {w t k s c d : Nat} (h4 : s ≤ 4) (n1 : s ≠ 1) (n4 : s ≠ 4) : tw w t k s c d = if gO w k s c = d then 8 else 0 := by
  unfold tw gO pM pL pR
  rw [if_neg n4]
  by_cases hk : k = 2
  · simp [hk]
  · rcases (by omega : s = 0 ∨ s = 2 ∨ s = 3) with rfl | rfl | rfl <;> simp [hk]
set_option maxRecDepth 100000 in
set_option maxHeartbeats 4000000 in
theorem c_goesOn {s k c w : Nat} (hc : c < w) (hw : w ≤ 6) (hk : k ≤ 2) (hs : s ≤ 4) {S : St} {Q : Int32 → St → Prop} (e : S.1 34 2 = nI w) (h : Q (nI (gO w k s c)) S) : CallV mdX6_goesOn [.ref 34, .int (nI s), .int (nI k), .int (nI c)] S (qI Q) := by
  have tk := nI_toInt (n := k) (by omega)
  have ts := nI_toInt (n := s) (by omega)
  apply eX6_goesOn
  unfold gO at h
  refine ⟨fun q => ?_, fun q => ⟨fun q0 => ⟨fun q2 => ?_, fun q2 => ?_⟩, fun q0 => ?_⟩⟩
  · rw [if_pos (Or.inl (by (try simp only [fa_lt, fa_le, fa_eq, fa_lt64, fa_le64, fa_eq64, Int32.toInt_toInt64, lsub1, Int32.reduceToInt, Int64.reduceToInt, Int32.toInt_zero, Int64.toInt_zero, ti_m1, ti_m2, ti_m3, ti_m4, ti_m9] at *) <;> omega))] at h
    exact h
  · rw [if_neg (show ¬ (k = 2 ∨ s = 0) by intro z; rcases z with z | z <;> exact (by (try simp only [fa_lt, fa_le, fa_eq, fa_lt64, fa_le64, fa_eq64, Int32.toInt_toInt64, lsub1, Int32.reduceToInt, Int64.reduceToInt, Int32.toInt_zero, Int64.toInt_zero, ti_m1, ti_m2, ti_m3, ti_m4, ti_m9] at *) <;> omega)), if_neg (show ¬ s = 2 from (by (try simp only [fa_lt, fa_le, fa_eq, fa_lt64, fa_le64, fa_eq64, Int32.toInt_toInt64, lsub1, Int32.reduceToInt, Int64.reduceToInt, Int32.toInt_zero, Int64.toInt_zero, ti_m1, ti_m2, ti_m3, ti_m4, ti_m9] at *) <;> omega))] at h
    exact c_rightBy (by omega) (by omega) e h
  · rw [if_neg (show ¬ (k = 2 ∨ s = 0) by intro z; rcases z with z | z <;> exact (by (try simp only [fa_lt, fa_le, fa_eq, fa_lt64, fa_le64, fa_eq64, Int32.toInt_toInt64, lsub1, Int32.reduceToInt, Int64.reduceToInt, Int32.toInt_zero, Int64.toInt_zero, ti_m1, ti_m2, ti_m3, ti_m4, ti_m9] at *) <;> omega)), if_pos (show s = 2 from (by (try simp only [fa_lt, fa_le, fa_eq, fa_lt64, fa_le64, fa_eq64, Int32.toInt_toInt64, lsub1, Int32.reduceToInt, Int64.reduceToInt, Int32.toInt_zero, Int64.toInt_zero, ti_m1, ti_m2, ti_m3, ti_m4, ti_m9] at *) <;> omega))] at h
    exact c_leftBy (by omega) h
  · rw [if_pos (Or.inr (by (try simp only [fa_lt, fa_le, fa_eq, fa_lt64, fa_le64, fa_eq64, Int32.toInt_toInt64, lsub1, Int32.reduceToInt, Int64.reduceToInt, Int32.toInt_zero, Int64.toInt_zero, ti_m1, ti_m2, ti_m3, ti_m4, ti_m9] at *) <;> omega))] at h
    exact h
/-! ===== the reference: how likely ===== -/
def d1 (c0 : Nat) : Nat → Nat := fun c => if c = c0 then 1 else 0
def fM (M : MS) (k c0 : Nat) : Nat → Nat → Nat := fw (mW M) (mT M) k (mS M) (d1 c0)
def kM (M : MS) (k c0 : Nat) : Nat → Nat := stk (mW M) (mT M) k (mS M) (d1 c0)
def vM (M : MS) (k c0 : Nat) : Nat → Bool := fun x => decide (0 < fM M k c0 (x / mW M) (x % mW M))
def LC (S : St) (M : MS) (k c0 : Nat) : Prop := (∀ c, c < mW M → S.2 43 c = lN (fM M k c0 (mH M) c)) ∧ S.2 43 6 = lN (kM M k c0 (mH M)) ∧ S.2 34 17 = lN (8 ^ mH M) ∧ S.2 34 18 = lN (msk (mH M * mW M) (vM M k c0))
theorem d1_sum {c0 w : Nat} (h : c0 < w) : sm w (d1 c0) = 1 := by
  have e : sm w (d1 c0) = sm w (fun i => if c0 = i then 1 else 0) := sm_cong (fun i _ => by
    unfold d1
    by_cases hi : i = c0
    · rw [if_pos hi, if_pos hi.symm]
    · rw [if_neg hi, if_neg (Ne.symm hi)])
  rw [e, sm_one h]
theorem fM_le {M : MS} (hM : OKM M) {k c0 r c : Nat} (hc : c < mW M) (h0 : c0 < mW M) : fM M k c0 r c ≤ 8 ^ r := by
  have := fw_le (w := mW M) (t := mT M) (k := k) (sg := mS M) (d := d1 c0) hM.t1 r hc
  rw [d1_sum h0] at this
  unfold fM
  omega
theorem pow8_le {r : Nat} (h : r ≤ 5) : 8 ^ r ≤ 32768 := Nat.pow_le_pow_right (by decide) h
section LAYC
variable {M : MS} {k c0 : Nat} {S0 : St} {Q : St → Prop}
set_option maxRecDepth 100000 in
set_option maxHeartbeats 4000000 in
theorem lay373 (hM : OKM M) (hm : MI S0 M) (h : ∀ S', S'.1 = S0.1 → LC S' M k c0 → Q S') : ∀ d i, i + d = mW M → ∀ S, S.1 = S0.1 → (∀ c, c < mW M → S.2 41 c = lN (fM M k c0 (mH M) c)) → S.2 43 6 = lN (kM M k c0 (mH M)) → S.2 34 17 = lN (8 ^ mH M) → S.2 34 18 = lN (msk (mH M * mW M) (vM M k c0)) → (∀ c, c < i → S.2 43 c = lN (fM M k c0 (mH M) c)) → V mdX6_layChances 373 [some (.ref 34), none, none, some (.int (nI i)), none, none, none, none] [] S (qV Q) := by
  have w6 := hM.w6
  intro d
  induction d with
  | zero =>
    intro i hi S e1 e2 e3 e4 e5 e6
    apply eX6_layChances_373
    rw [e1, hm.w]
    exact br_t (nI_le (by omega) (by omega)) (h S e1 ⟨fun c hc => e6 c (by omega), e3, e4, e5⟩)
  | succ d ih =>
    intro i hi S e1 e2 e3 e4 e5 e6
    apply eX6_layChances_373
    rw [e1, hm.w, nI_clamp (n := i) (by omega), nI_1]
    refine br_f (nI_ge (by omega) (by omega)) ⟨pk_in i 6 (by omega), pk_in i 7 (by omega), ?_⟩
    refine ih (i + 1) (by omega) _ e1 (fun c hc => by simp (disch := omega) only [sI_o, sI_h, sF_o, sF_h, sJ_1, sI_2, sF_2, sJ_o, sJ_h]; exact e2 c hc) (by simp (disch := omega) only [sI_o, sI_h, sF_o, sF_h, sJ_1, sI_2, sF_2, sJ_o, sJ_h]; exact e3) (by simp (disch := omega) only [sI_o, sI_h, sF_o, sF_h, sJ_1, sI_2, sF_2, sJ_o, sJ_h]; exact e4) (by simp (disch := omega) only [sI_o, sI_h, sF_o, sF_h, sJ_1, sI_2, sF_2, sJ_o, sJ_h]; exact e5) (fun c hc => ?_)
    by_cases hci : c = i
    · subst hci
      simp (disch := omega) only [sI_o, sI_h, sF_o, sF_h, sJ_1, sI_2, sF_2, sJ_o, sJ_h]
      exact e2 c (by omega)
    · simp (disch := omega) only [sI_o, sI_h, sF_o, sF_h, sJ_1, sI_2, sF_2, sJ_o, sJ_h]
      exact e6 c (by omega)
set_option maxRecDepth 100000 in
set_option maxHeartbeats 4000000 in
theorem lay336 (hM : OKM M) (hm : MI S0 M) {r : Nat} (h : ∀ S, S.1 = S0.1 → (∀ c, c < mW M → S.2 41 c = lN (fM M k c0 (r + 1) c)) → S.2 43 6 = lN (kM M k c0 (r + 1)) → S.2 34 17 = lN (8 ^ (r + 1)) → S.2 34 18 = lN (msk ((r + 1) * mW M) (vM M k c0)) → V mdX6_layChances 50 [some (.ref 34), some (.int (nI k)), none, some (.int (nI (r + 1))), none, none, none, none] [] S (qV Q)) : ∀ d i, i + d = mW M → ∀ S, S.1 = S0.1 → (∀ c, c < mW M → S.2 42 c = lN (fM M k c0 (r + 1) c)) → S.2 43 6 = lN (kM M k c0 (r + 1)) → S.2 34 17 = lN (8 ^ (r + 1)) → S.2 34 18 = lN (msk ((r + 1) * mW M) (vM M k c0)) → (∀ c, c < i → S.2 41 c = lN (fM M k c0 (r + 1) c)) → V mdX6_layChances 336 [some (.ref 34), some (.int (nI k)), none, some (.int (nI r)), some (.int (nI i)), none, none, none] [] S (qV Q) := by
  have w6 := hM.w6
  intro d
  induction d with
  | zero =>
    intro i hi S e1 e2 e3 e4 e5 e6
    apply eX6_layChances_336
    rw [e1, hm.w, nI_1]
    exact br_t (nI_le (by omega) (by omega)) (h S e1 (fun c hc => e6 c (by omega)) e3 e4 e5)
  | succ d ih =>
    intro i hi S e1 e2 e3 e4 e5 e6
    apply eX6_layChances_336
    rw [e1, hm.w, nI_clamp (n := i) (by omega), nI_1 i]
    refine br_f (nI_ge (by omega) (by omega)) ⟨pk_in i 6 (by omega), pk_in i 6 (by omega), ?_⟩
    refine ih (i + 1) (by omega) _ e1 (fun c hc => by simp (disch := omega) only [sI_o, sI_h, sF_o, sF_h, sJ_1, sI_2, sF_2, sJ_o, sJ_h]; exact e2 c hc) (by simp (disch := omega) only [sI_o, sI_h, sF_o, sF_h, sJ_1, sI_2, sF_2, sJ_o, sJ_h]; exact e3) (by simp (disch := omega) only [sI_o, sI_h, sF_o, sF_h, sJ_1, sI_2, sF_2, sJ_o, sJ_h]; exact e4) (by simp (disch := omega) only [sI_o, sI_h, sF_o, sF_h, sJ_1, sI_2, sF_2, sJ_o, sJ_h]; exact e5) (fun c hc => ?_)
    by_cases hci : c = i
    · subst hci
      simp (disch := omega) only [sI_o, sI_h, sF_o, sF_h, sJ_1, sI_2, sF_2, sJ_o, sJ_h]
      exact e2 c (by omega)
    · simp (disch := omega) only [sI_o, sI_h, sF_o, sF_h, sJ_1, sI_2, sF_2, sJ_o, sJ_h]
      exact e6 c (by omega)
theorem mul_ite0 (a x : Nat) (p : Prop) [Decidable p] : a * (if p then x else 0) = if p then x * a else 0 := by
  split
  · exact Nat.mul_comm _ _
  · rfl
theorem acc {S : St} {w g v : Nat} {X : Nat → Nat} {x : Int64} (hX : ∀ c, c < w → S.2 42 c = lN (X c)) (hx : x = lN (X g + v)) : ∀ c, c < w → (sJ S 42 g x).2 42 c = lN (X c + if g = c then v else 0) := by
  intro c hc
  by_cases h : g = c
  · subst h
    rw [sJ_h ⟨rfl, rfl⟩, if_pos rfl, hx]
  · rw [sJ_o (Or.inr (Ne.symm h)), if_neg h, hX c hc]
    rfl
set_option maxRecDepth 100000 in
set_option maxHeartbeats 4000000 in
theorem lay112 (hM : OKM M) (hm : MI S0 M) (hk : k ≤ 2) (hc0 : c0 < mW M) {r : Nat} (hr : r < mH M) (h : ∀ S, S.1 = S0.1 → (∀ c, c < mW M → S.2 42 c = lN (fM M k c0 (r + 1) c)) → S.2 43 6 = lN (kM M k c0 (r + 1)) → S.2 34 17 = lN (8 ^ (r + 1)) → S.2 34 18 = lN (msk ((r + 1) * mW M) (vM M k c0)) → V mdX6_layChances 336 [some (.ref 34), some (.int (nI k)), none, some (.int (nI r)), some (.int 0), none, none, none] [] S (qV Q)) : ∀ d i, i + d = mW M → ∀ S, S.1 = S0.1 → (∀ c, c < mW M → S.2 41 c = lN (fM M k c0 r c)) → (∀ c, c < mW M → S.2 42 c = lN (sm i (fun x => fM M k c0 r x * tw (mW M) (mT M) k (mS M (r * mW M + x)) x c))) → S.2 43 6 = lN (kM M k c0 r * 8 + sm i (fun x => if mS M (r * mW M + x) = 4 then fM M k c0 r x * 8 else 0)) → S.2 34 17 = lN (8 ^ (r + 1)) → S.2 34 18 = lN (msk (r * mW M + i) (vM M k c0)) → V mdX6_layChances 112 [some (.ref 34), some (.int (nI k)), none, some (.int (nI r)), some (.int (nI i)), none, none, none] [] S (qV Q) := by
  have w6 := hM.w6
  have h5 := hM.h5
  intro d
  induction d with
  | zero =>
    intro i hi S e1 e2 e3 e4 e5 e6
    have : i = mW M := by omega
    subst this
    apply eX6_layChances_112
    rw [e1, hm.w]
    exact br_t (nI_le (Nat.le_refl _) (by omega)) (h S e1 e3 e4 e5 (by rw [Nat.succ_mul]; exact e6))
  | succ d ih =>
    intro i hi S e1 e2 e3 e4 e5 e6
    have hiw : i < mW M := by omega
    have hcell : r * mW M + i < mH M * mW M := rw_lt hr hiw
    have n30 := hM.n30
    have hs4 := hM.s4 hcell
    have a8 := fM_le hM (k := k) (r := r) hiw hc0
    have p8 := pow8_le (show r ≤ 5 by omega)
    have eidx : nI r * nI (mW M) + nI i = nI (r * mW M + i) := by rw [pk_mul, nI_add]
    have hvis : vM M k c0 (r * mW M + i) = decide (0 < fM M k c0 r i) := by
      unfold vM
      rw [rw_dv hiw, rw_mod hiw]
    apply eX6_layChances_112
    rw [e1, hm.w, eidx, nI_clamp (n := i) (by omega), nI_clamp (n := r * mW M + i) (by omega), nI_1, e2 i hiw, hm.sg hcell]
    refine br_f (nI_ge (by omega) (by omega)) ⟨pk_in i 6 (by omega), ⟨fun q => ?_, fun q => ⟨pk_in (r * mW M + i) 30 (by omega), ?_⟩⟩⟩
    · have hz : fM M k c0 r i = 0 := by
        rw [fa_litL 0, pk_lLE (by omega) (by omega)] at q
        omega
      refine ih (i + 1) (by omega) S e1 e2 (fun c hc => ?_) ?_ e5 ?_
      · rw [e3 c hc]
        show _ = lN (_ + fM M k c0 r i * _)
        rw [hz, Nat.zero_mul]
        rfl
      · rw [e4]
        show _ = lN (_ + (_ + if mS M (r * mW M + i) = 4 then fM M k c0 r i * 8 else 0))
        rw [hz]
        simp
      · have := msk_or (vM M k c0) (r * mW M + i) false (by rw [hvis, hz]; rfl)
        rw [e6, ← Nat.add_assoc, ← this]
        rfl
    · have hz : 0 < fM M k c0 r i := by
        rw [fa_litL 0, pk_lLE (by omega) (by omega)] at q
        omega
      have emsk : (S.2 34 18 ||| ((1 : Int64) <<< ((nI (r * mW M + i)).toInt64 &&& 63))) = lN (msk (r * mW M + (i + 1)) (vM M k c0)) := by
        have hb := msk_lt (vM M k c0) (r * mW M + i)
        have hp : 2 ^ (r * mW M + i) < 2 ^ 64 := Nat.pow_lt_pow_right (by decide) (by omega)
        rw [e6, fa_litL 1, wb_shl 1 (by omega), Nat.one_mul, wb_or (by omega) hp, ← Nat.add_assoc, ← msk_or (vM M k c0) (r * mW M + i) true (by rw [hvis]; exact (decide_eq_true hz).symm)]
        rfl
      rw [emsk]
      have f2 : ∀ c, c < mW M → (sJ S 34 18 (lN (msk (r * mW M + (i + 1)) (vM M k c0)))).2 41 c = lN (fM M k c0 r c) := fun c hc => by
        simp (disch := omega) only [sI_o, sI_h, sF_o, sF_h, sJ_1, sI_2, sF_2, sJ_o, sJ_h]
        exact e2 c hc
      have f3 : ∀ c, c < mW M → (sJ S 34 18 (lN (msk (r * mW M + (i + 1)) (vM M k c0)))).2 42 c = lN (sm i (fun x => fM M k c0 r x * tw (mW M) (mT M) k (mS M (r * mW M + x)) x c)) := fun c hc => by
        simp (disch := omega) only [sI_o, sI_h, sF_o, sF_h, sJ_1, sI_2, sF_2, sJ_o, sJ_h]
        exact e3 c hc
      have f4 : (sJ S 34 18 (lN (msk (r * mW M + (i + 1)) (vM M k c0)))).2 43 6 = lN (kM M k c0 r * 8 + sm i (fun x => if mS M (r * mW M + x) = 4 then fM M k c0 r x * 8 else 0)) := by
        simp (disch := omega) only [sI_o, sI_h, sF_o, sF_h, sJ_1, sI_2, sF_2, sJ_o, sJ_h]
        exact e4
      have f5 : (sJ S 34 18 (lN (msk (r * mW M + (i + 1)) (vM M k c0)))).2 34 17 = lN (8 ^ (r + 1)) := by
        simp (disch := omega) only [sI_o, sI_h, sF_o, sF_h, sJ_1, sI_2, sF_2, sJ_o, sJ_h]
        exact e5
      have f6 : (sJ S 34 18 (lN (msk (r * mW M + (i + 1)) (vM M k c0)))).2 34 18 = lN (msk (r * mW M + (i + 1)) (vM M k c0)) := by
        simp (disch := omega) only [sI_o, sI_h, sF_o, sF_h, sJ_1, sI_2, sF_2, sJ_o, sJ_h]
      have f1 : (sJ S 34 18 (lN (msk (r * mW M + (i + 1)) (vM M k c0)))).1 = S0.1 := e1
      rw [show S.2 43 6 = (sJ S 34 18 (lN (msk (r * mW M + (i + 1)) (vM M k c0)))).2 43 6 by simp (disch := omega) only [sI_o, sI_h, sF_o, sF_h, sJ_1, sI_2, sF_2, sJ_o, sJ_h], f4]
      generalize sJ S 34 18 (lN (msk (r * mW M + (i + 1)) (vM M k c0))) = T at f1 f2 f3 f4 f5 f6 ⊢
      have g6 : vp_in (nI i) 6 := pk_in i 6 (by omega)
      refine ⟨fun n4 => ⟨fun n1 => ?_, fun s1 => ?_⟩, fun s4 => ⟨g6, ?_⟩⟩
      · have n4' : mS M (r * mW M + i) ≠ 4 := fun z => n4 (by rw [z]; rfl)
        have n1' : mS M (r * mW M + i) ≠ 1 := fun z => n1 (by rw [z]; rfl)
        have hg := gO_lt (k := k) (s := mS M (r * mW M + i)) hiw
        refine c_goesOn (w := mW M) hiw w6 hk hs4 (by rw [f1]; exact hm.w) ⟨vp_in_nI (by omega) (by omega), g6, vp_in_nI (by omega) (by omega), ?_⟩
        rw [nI_clamp (n := gO (mW M) k (mS M (r * mW M + i)) i) (by omega)]
        refine ih (i + 1) (by omega) _ f1 (fun c hc => by simp (disch := omega) only [sI_o, sI_h, sF_o, sF_h, sJ_1, sI_2, sF_2, sJ_o, sJ_h]; exact f2 c hc) ?_ ?_ (by simp (disch := omega) only [sI_o, sI_h, sF_o, sF_h, sJ_1, sI_2, sF_2, sJ_o, sJ_h]; exact f5) (by simp (disch := omega) only [sI_o, sI_h, sF_o, sF_h, sJ_1, sI_2, sF_2, sJ_o, sJ_h]; exact f6)
        · have := acc (g := gO (mW M) k (mS M (r * mW M + i)) i) (v := 8 * fM M k c0 r i) (x := T.2 42 (gO (mW M) k (mS M (r * mW M + i)) i) + 8 * T.2 41 i) f3 (by rw [f3 _ hg, f2 i hiw, fa_litL 8, lN_mul, lN_add])
          intro c hc
          rw [this c hc]
          show _ = lN (_ + fM M k c0 r i * tw (mW M) (mT M) k (mS M (r * mW M + i)) i c)
          rw [tw_gO hs4 n1' n4']
          congr 2
          split <;> omega
        · simp (disch := omega) only [sI_o, sI_h, sF_o, sF_h, sJ_1, sI_2, sF_2, sJ_o, sJ_h]
          rw [f4]
          show _ = lN (_ + (_ + if mS M (r * mW M + i) = 4 then fM M k c0 r i * 8 else 0))
          rw [if_neg n4']
          rfl
      · have s1' : mS M (r * mW M + i) = 1 := by
          have s1 : nI (mS M (r * mW M + i)) = nI 1 := s1
          rw [nI_eq (by omega) (by omega)] at s1
          exact s1
        have ht5 : T.1 34 5 = nI (mT M) := by rw [f1]; exact hm.t
        have hl1 := cl_lt hiw
        have hr1 := cr_lt hiw
        have hlr : lf (mT M) k + rf (mT M) k ≤ 8 := by
          have := pLR (t := mT M) (k := k) (s := 1) hM.t1
          unfold pL pR at this
          by_cases hk2 : k = 2
          · simp [lf, rf, hk2]
          · simpa [hk2] using this
        refine c_leftOf (t := mT M) hM.t1 hk ht5 (c_rightOf (t := mT M) hM.t1 hk ht5 (c_leftBy (by omega) ⟨vp_in_nI (by omega) (by omega), g6, vp_in_nI (by omega) (by omega), ?_⟩))
        refine c_rightBy (w := mW M) (by omega) (by omega) (by show T.1 34 2 = _; rw [f1]; exact hm.w) ⟨vp_in_nI (by omega) (by omega), g6, vp_in_nI (by omega) (by omega), g6, g6, g6, ?_⟩
        rw [nI_clamp (n := cl i) (by omega), nI_clamp (n := cr (mW M) i) (by omega)]
        have lfl : lf (mT M) k ≤ 8 := by omega
        have rfl8 : rf (mT M) k ≤ 8 := by omega
        have a1 := acc (g := cl i) (v := lf (mT M) k * fM M k c0 r i) (x := T.2 42 (cl i) + (nI (lf (mT M) k)).toInt64 * T.2 41 i) f3 (by rw [f3 _ hl1, f2 i hiw, nI_l (by omega), lN_mul, lN_add])
        generalize hT1 : sJ T 42 (cl i) (T.2 42 (cl i) + (nI (lf (mT M) k)).toInt64 * T.2 41 i) = T1 at a1 ⊢
        have b1 : T1.1 = S0.1 := by subst hT1; exact f1
        have b2 : ∀ c, c < mW M → T1.2 41 c = lN (fM M k c0 r c) := fun c hc => by subst hT1; simp (disch := omega) only [sI_o, sI_h, sF_o, sF_h, sJ_1, sI_2, sF_2, sJ_o, sJ_h]; exact f2 c hc
        have b4 : T1.2 43 6 = T.2 43 6 := by subst hT1; simp (disch := omega) only [sI_o, sI_h, sF_o, sF_h, sJ_1, sI_2, sF_2, sJ_o, sJ_h]
        have b5 : T1.2 34 17 = T.2 34 17 := by subst hT1; simp (disch := omega) only [sI_o, sI_h, sF_o, sF_h, sJ_1, sI_2, sF_2, sJ_o, sJ_h]
        have b6 : T1.2 34 18 = T.2 34 18 := by subst hT1; simp (disch := omega) only [sI_o, sI_h, sF_o, sF_h, sJ_1, sI_2, sF_2, sJ_o, sJ_h]
        have a2 := acc (g := cr (mW M) i) (v := rf (mT M) k * fM M k c0 r i) (x := T1.2 42 (cr (mW M) i) + (nI (rf (mT M) k)).toInt64 * T1.2 41 i) a1 (by rw [a1 _ hr1, b2 i hiw, nI_l (by omega), lN_mul, lN_add])
        generalize hT2 : sJ T1 42 (cr (mW M) i) (T1.2 42 (cr (mW M) i) + (nI (rf (mT M) k)).toInt64 * T1.2 41 i) = T2 at a2 ⊢
        have d1 : T2.1 = S0.1 := by subst hT2; exact b1
        have d2 : ∀ c, c < mW M → T2.2 41 c = lN (fM M k c0 r c) := fun c hc => by subst hT2; simp (disch := omega) only [sI_o, sI_h, sF_o, sF_h, sJ_1, sI_2, sF_2, sJ_o, sJ_h]; exact b2 c hc
        have d4 : T2.2 43 6 = T.2 43 6 := by subst hT2; simp (disch := omega) only [sI_o, sI_h, sF_o, sF_h, sJ_1, sI_2, sF_2, sJ_o, sJ_h]; exact b4
        have d5 : T2.2 34 17 = T.2 34 17 := by subst hT2; simp (disch := omega) only [sI_o, sI_h, sF_o, sF_h, sJ_1, sI_2, sF_2, sJ_o, sJ_h]; exact b5
        have d6 : T2.2 34 18 = T.2 34 18 := by subst hT2; simp (disch := omega) only [sI_o, sI_h, sF_o, sF_h, sJ_1, sI_2, sF_2, sJ_o, sJ_h]; exact b6
        have e88 : (8 : Int32) - nI (lf (mT M) k) - nI (rf (mT M) k) = nI (8 - lf (mT M) k - rf (mT M) k) := by rw [fa_lit 8, pk_sub lfl, pk_sub (by omega)]
        have a3 := acc (g := i) (v := (8 - lf (mT M) k - rf (mT M) k) * fM M k c0 r i) (x := T2.2 42 i + ((8 : Int32) - nI (lf (mT M) k) - nI (rf (mT M) k)).toInt64 * T1.2 41 i) a2 (by rw [a2 _ hiw, b2 i hiw, e88, nI_l (by omega), lN_mul, lN_add])
        refine ih (i + 1) (by omega) _ d1 (fun c hc => by simp (disch := omega) only [sI_o, sI_h, sF_o, sF_h, sJ_1, sI_2, sF_2, sJ_o, sJ_h]; exact d2 c hc) ?_ ?_ (by simp (disch := omega) only [sI_o, sI_h, sF_o, sF_h, sJ_1, sI_2, sF_2, sJ_o, sJ_h]; rw [d5]; exact f5) (by simp (disch := omega) only [sI_o, sI_h, sF_o, sF_h, sJ_1, sI_2, sF_2, sJ_o, sJ_h]; rw [d6]; exact f6)
        · intro c hc
          rw [a3 c hc]
          show _ = lN (_ + fM M k c0 r i * tw (mW M) (mT M) k (mS M (r * mW M + i)) i c)
          congr 1
          unfold tw pM pL pR
          rw [s1']
          by_cases hk2 : k = 2
          · simp [hk2, lf, rf]
            split <;> omega
          · simp only [hk2, if_false, if_true, show ¬ (1 : Nat) = 4 by decide]
            generalize fM M k c0 r i = a
            generalize lf (mT M) k = L1
            generalize rf (mT M) k = R1
            rw [Nat.mul_add, Nat.mul_add, mul_ite0, mul_ite0, mul_ite0]
            omega
        · simp (disch := omega) only [sI_o, sI_h, sF_o, sF_h, sJ_1, sI_2, sF_2, sJ_o, sJ_h]
          rw [d4, f4]
          show _ = lN (_ + (_ + if mS M (r * mW M + i) = 4 then fM M k c0 r i * 8 else 0))
          rw [if_neg (by omega)]
          rfl
      · have s4' : mS M (r * mW M + i) = 4 := by
          have s4 : nI (mS M (r * mW M + i)) = nI 4 := s4
          rw [nI_eq (by omega) (by omega)] at s4
          exact s4
        rw [fa_litL 8, lN_mul, lN_add]
        refine ih (i + 1) (by omega) _ f1 (fun c hc => by simp (disch := omega) only [sI_o, sI_h, sF_o, sF_h, sJ_1, sI_2, sF_2, sJ_o, sJ_h]; exact f2 c hc) (fun c hc => ?_) ?_ (by simp (disch := omega) only [sI_o, sI_h, sF_o, sF_h, sJ_1, sI_2, sF_2, sJ_o, sJ_h]; exact f5) (by simp (disch := omega) only [sI_o, sI_h, sF_o, sF_h, sJ_1, sI_2, sF_2, sJ_o, sJ_h]; exact f6)
        · simp (disch := omega) only [sI_o, sI_h, sF_o, sF_h, sJ_1, sI_2, sF_2, sJ_o, sJ_h]
          rw [f3 c hc]
          show _ = lN (_ + fM M k c0 r i * tw (mW M) (mT M) k (mS M (r * mW M + i)) i c)
          unfold tw
          rw [if_pos s4', Nat.mul_zero]
          rfl
        · simp (disch := omega) only [sI_o, sI_h, sF_o, sF_h, sJ_1, sI_2, sF_2, sJ_o, sJ_h]
          show _ = lN (_ + (_ + if mS M (r * mW M + i) = 4 then fM M k c0 r i * 8 else 0))
          rw [if_pos s4']
          congr 1
          omega
set_option maxRecDepth 100000 in
set_option maxHeartbeats 4000000 in
theorem lay86 (hM : OKM M) (hm : MI S0 M) {r : Nat} (h : ∀ S, S.1 = S0.1 → (∀ c, c < mW M → S.2 41 c = lN (fM M k c0 r c)) → (∀ c, c < mW M → S.2 42 c = lN 0) → S.2 43 6 = lN (kM M k c0 r * 8) → S.2 34 17 = lN (8 ^ (r + 1)) → S.2 34 18 = lN (msk (r * mW M) (vM M k c0)) → V mdX6_layChances 112 [some (.ref 34), some (.int (nI k)), none, some (.int (nI r)), some (.int 0), none, none, none] [] S (qV Q)) : ∀ d i, i + d = mW M → ∀ S, S.1 = S0.1 → (∀ c, c < mW M → S.2 41 c = lN (fM M k c0 r c)) → (∀ c, c < i → S.2 42 c = lN 0) → S.2 43 6 = lN (kM M k c0 r * 8) → S.2 34 17 = lN (8 ^ (r + 1)) → S.2 34 18 = lN (msk (r * mW M) (vM M k c0)) → V mdX6_layChances 86 [some (.ref 34), some (.int (nI k)), none, some (.int (nI r)), some (.int (nI i)), none, none, none] [] S (qV Q) := by
  have w6 := hM.w6
  intro d
  induction d with
  | zero =>
    intro i hi S e1 e2 e3 e4 e5 e6
    apply eX6_layChances_86
    rw [e1, hm.w]
    exact br_t (nI_le (by omega) (by omega)) (h S e1 e2 (fun c hc => e3 c (by omega)) e4 e5 e6)
  | succ d ih =>
    intro i hi S e1 e2 e3 e4 e5 e6
    apply eX6_layChances_86
    rw [e1, hm.w, nI_clamp (n := i) (by omega), nI_1 i]
    refine br_f (nI_ge (by omega) (by omega)) ⟨pk_in i 6 (by omega), ?_⟩
    refine ih (i + 1) (by omega) _ e1 (fun c hc => by simp (disch := omega) only [sI_o, sI_h, sF_o, sF_h, sJ_1, sI_2, sF_2, sJ_o, sJ_h]; exact e2 c hc) (fun c hc => ?_) (by simp (disch := omega) only [sI_o, sI_h, sF_o, sF_h, sJ_1, sI_2, sF_2, sJ_o, sJ_h]; exact e4) (by simp (disch := omega) only [sI_o, sI_h, sF_o, sF_h, sJ_1, sI_2, sF_2, sJ_o, sJ_h]; exact e5) (by simp (disch := omega) only [sI_o, sI_h, sF_o, sF_h, sJ_1, sI_2, sF_2, sJ_o, sJ_h]; exact e6)
    by_cases hci : c = i
    · subst hci
      simp (disch := omega) only [sI_o, sI_h, sF_o, sF_h, sJ_1, sI_2, sF_2, sJ_o, sJ_h]
      rfl
    · simp (disch := omega) only [sI_o, sI_h, sF_o, sF_h, sJ_1, sI_2, sF_2, sJ_o, sJ_h]
      exact e3 c (by omega)
set_option maxRecDepth 100000 in
set_option maxHeartbeats 4000000 in
theorem lay50 (hM : OKM M) (hm : MI S0 M) (hk : k ≤ 2) (hc0 : c0 < mW M) (h : ∀ S', S'.1 = S0.1 → LC S' M k c0 → Q S') : ∀ d r, r + d = mH M → ∀ S, S.1 = S0.1 → (∀ c, c < mW M → S.2 41 c = lN (fM M k c0 r c)) → S.2 43 6 = lN (kM M k c0 r) → S.2 34 17 = lN (8 ^ r) → S.2 34 18 = lN (msk (r * mW M) (vM M k c0)) → V mdX6_layChances 50 [some (.ref 34), some (.int (nI k)), none, some (.int (nI r)), none, none, none, none] [] S (qV Q) := by
  have w6 := hM.w6
  have h5 := hM.h5
  intro d
  induction d with
  | zero =>
    intro r hr S e1 e2 e3 e4 e5
    have : r = mH M := by omega
    subst this
    apply eX6_layChances_50
    rw [e1, hm.h]
    exact br_t (nI_le (Nat.le_refl _) (by omega)) (lay373 hM hm h (mW M) 0 (by omega) S e1 e2 e3 e4 e5 (fun c hc => by omega))
  | succ d ih =>
    intro r hr S e1 e2 e3 e4 e5
    apply eX6_layChances_50
    rw [e1, hm.h]
    refine br_f (nI_ge (by omega) (by omega)) ?_
    refine lay86 hM hm (r := r) (fun T t1 t2 t3 t4 t5 t6 => ?_) (mW M) 0 (by omega) _ e1 (fun c hc => by simp (disch := omega) only [sI_o, sI_h, sF_o, sF_h, sJ_1, sI_2, sF_2, sJ_o, sJ_h]; exact e2 c hc) (fun c hc => by omega) ?_ ?_ (by simp (disch := omega) only [sI_o, sI_h, sF_o, sF_h, sJ_1, sI_2, sF_2, sJ_o, sJ_h]; exact e5)
    · refine lay112 hM hm hk hc0 (r := r) (by omega) (fun T' s1 s2 s3 s4 s5 => ?_) (mW M) 0 (by omega) T t1 t2 t3 ?_ t5 t6
      · exact lay336 hM hm (r := r) (fun T'' u1 u2 u3 u4 u5 => ih (r + 1) (by omega) T'' u1 u2 u3 u4 u5) (mW M) 0 (by omega) T' s1 s2 s3 s4 s5 (fun c hc => by omega)
      · rw [t4]
        rfl
    · simp (disch := omega) only [sI_o, sI_h, sF_o, sF_h, sJ_1, sI_2, sF_2, sJ_o, sJ_h]
      rw [e3, fa_litL 8, lN_mul]
    · simp (disch := omega) only [sI_o, sI_h, sF_o, sF_h, sJ_1, sI_2, sF_2, sJ_o, sJ_h]
      rw [e4, fa_litL 8, lN_mul, Nat.pow_succ]
set_option maxRecDepth 100000 in
set_option maxHeartbeats 4000000 in
theorem lay2 (hM : OKM M) (hm : MI S0 M) (hk : k ≤ 2) (hc0 : c0 < mW M) (h : ∀ S', S'.1 = S0.1 → LC S' M k c0 → Q S') : ∀ d i, i + d = 6 → ∀ S, S.1 = S0.1 → (∀ c, c < i → S.2 41 c = lN (d1 c0 c)) → V mdX6_layChances 2 [some (.ref 34), some (.int (nI k)), some (.int (nI c0)), some (.int (nI i)), none, none, none, none] [] S (qV Q) := by
  have w6 := hM.w6
  have h5 := hM.h5
  intro d
  induction d with
  | zero =>
    intro i hi S e1 e2
    have : i = 6 := by omega
    subst this
    apply eX6_layChances_2
    refine br_t (nI_le (Nat.le_refl _) (by omega)) ?_
    refine lay50 hM hm hk hc0 h (mH M) 0 (by omega) _ e1 (fun c hc => ?_) ?_ ?_ ?_
    · simp (disch := omega) only [sI_o, sI_h, sF_o, sF_h, sJ_1, sI_2, sF_2, sJ_o, sJ_h]
      exact e2 c (by omega)
    · simp (disch := omega) only [sI_o, sI_h, sF_o, sF_h, sJ_1, sI_2, sF_2, sJ_o, sJ_h]
      rfl
    · simp (disch := omega) only [sI_o, sI_h, sF_o, sF_h, sJ_1, sI_2, sF_2, sJ_o, sJ_h]
      rfl
    · simp (disch := omega) only [sI_o, sI_h, sF_o, sF_h, sJ_1, sI_2, sF_2, sJ_o, sJ_h]
      rw [Nat.zero_mul]
      rfl
  | succ d ih =>
    intro i hi S e1 e2
    apply eX6_layChances_2
    rw [nI_clamp (n := i) (by omega), nI_1 i]
    refine br_f (nI_ge (a := i) (b := 6) (by omega) (by omega)) ⟨fun q => ⟨pk_in i 6 (by omega), ?_⟩, fun q => ⟨pk_in i 6 (by omega), ?_⟩⟩
    · rw [nI_eq (by omega) (by omega)] at q
      refine ih (i + 1) (by omega) _ e1 (fun c hc => ?_)
      by_cases hci : c = i
      · subst hci
        simp (disch := omega) only [sI_o, sI_h, sF_o, sF_h, sJ_1, sI_2, sF_2, sJ_o, sJ_h]
        unfold d1
        rw [if_neg q]
        rfl
      · simp (disch := omega) only [sI_o, sI_h, sF_o, sF_h, sJ_1, sI_2, sF_2, sJ_o, sJ_h]
        exact e2 c (by omega)
    · rw [nI_eq (by omega) (by omega)] at q
      refine ih (i + 1) (by omega) _ e1 (fun c hc => ?_)
      by_cases hci : c = i
      · subst hci
        simp (disch := omega) only [sI_o, sI_h, sF_o, sF_h, sJ_1, sI_2, sF_2, sJ_o, sJ_h]
        unfold d1
        rw [if_pos q]
        rfl
      · simp (disch := omega) only [sI_o, sI_h, sF_o, sF_h, sJ_1, sI_2, sF_2, sJ_o, sJ_h]
        exact e2 c (by omega)
set_option maxRecDepth 100000 in
set_option maxHeartbeats 4000000 in
theorem c_layChances (hM : OKM M) (hm : MI S0 M) (hk : k ≤ 2) (hc0 : c0 < mW M) (h : ∀ S', S'.1 = S0.1 → LC S' M k c0 → Q S') : CallV mdX6_layChances [.ref 34, .int (nI k), .int (nI c0)] S0 (qV Q) := by
  apply eX6_layChances
  exact lay2 hM hm hk hc0 h 6 0 (by omega) S0 rfl (fun c hc => by omega)
set_option maxRecDepth 100000 in
set_option maxHeartbeats 4000000 in
theorem c_layVote (hM : OKM M) (hm : MI S0 M) {v : Nat} (hv : v < mN M) (h : ∀ S', S'.1 = S0.1 → LC S' M (mK M v) (mC M v) → Q S') : CallV mdX6_layVote [.ref 34, .int (nI v)] S0 (qV Q) := by
  have n8 := hM.n8
  apply eX6_layVote
  rw [nI_clamp (n := v) (by omega), hm.kd hv, hm.co hv]
  exact ⟨pk_in v 8 (by omega), pk_in v 8 (by omega), c_layChances hM hm (hM.k2 hv) (hM.cw hv) h⟩
end LAYC
/-! what comes to a party's troughs -/
def uP (M : MS) (p : Nat) : Nat → Nat := fun t => if mP M t = p then 1 else 0
def eM (M : MS) (k c0 p : Nat) : Nat := sm (mW M) (fun t => fM M k c0 (mH M) t * uP M p t)
set_option maxRecDepth 100000 in
set_option maxHeartbeats 4000000 in
theorem pf5 {M : MS} {k c0 p : Nat} {S : St} {Q : Int64 → St → Prop} (hM : OKM M) (hm : MI S M) (hp : p ≤ 3) (hL : LC S M k c0) (h : Q (lN (eM M k c0 p)) S) : ∀ d i, i + d = mW M → V mdX6_partsFor 5 [some (.ref 34), some (.int (nI p)), some (.long (lN (sm i (fun t => fM M k c0 (mH M) t * uP M p t)))), none, some (.int (nI i))] [] S (qJ Q) := by
  have w6 := hM.w6
  intro d
  induction d with
  | zero =>
    intro i hi
    have : i = mW M := by omega
    subst this
    apply eX6_partsFor_5
    rw [hm.w]
    exact br_t (nI_le (Nat.le_refl _) (by omega)) h
  | succ d ih =>
    intro i hi
    have hp3 := hM.p3 (t := i) (by omega)
    apply eX6_partsFor_5
    rw [hm.w, nI_clamp (n := i) (by omega), nI_1 i, hm.pa (by omega), hL.1 i (by omega)]
    refine br_f (nI_ge (by omega) (by omega)) ⟨pk_in i 6 (by omega), ⟨fun q => ?_, fun q => ⟨pk_in i 7 (by omega), ?_⟩⟩⟩
    · rw [nI_eq (by omega) (by omega)] at q
      have := ih (i + 1) (by omega)
      rw [show sm (i + 1) (fun t => fM M k c0 (mH M) t * uP M p t) = sm i (fun t => fM M k c0 (mH M) t * uP M p t) + 0 by
        show _ + fM M k c0 (mH M) i * uP M p i = _
        unfold uP
        rw [if_neg q, Nat.mul_zero]] at this
      rw [fa_litL 0, lN_add]
      exact this
    · rw [nI_eq (by omega) (by omega)] at q
      have := ih (i + 1) (by omega)
      rw [show sm (i + 1) (fun t => fM M k c0 (mH M) t * uP M p t) = sm i (fun t => fM M k c0 (mH M) t * uP M p t) + fM M k c0 (mH M) i by
        show _ + fM M k c0 (mH M) i * uP M p i = _
        unfold uP
        rw [if_pos q, Nat.mul_one]] at this
      rw [lN_add]
      exact this
set_option maxRecDepth 100000 in
set_option maxHeartbeats 4000000 in
theorem c_partsFor {M : MS} {k c0 p : Nat} {S : St} {Q : Int64 → St → Prop} (hM : OKM M) (hm : MI S M) (hp : p ≤ 3) (hL : LC S M k c0) (h : Q (lN (eM M k c0 p)) S) : CallV mdX6_partsFor [.ref 34, .int (nI p)] S (qJ Q) := by
  apply eX6_partsFor
  exact pf5 hM hm hp hL h (mW M) 0 (by omega)
/-- what a party expects, of all votes -/
def eA (M : MS) (p : Nat) : Nat := sm (mN M) (fun v => eM M (mK M v) (mC M v) p)
theorem MI.of1 {S S' : St} {M : MS} (h : MI S M) (e : S'.1 = S.1) : MI S' M := by
  unfold MI at h ⊢
  rw [e]
  exact h
theorem CI.of1 {S S' : St} {M : MS} (h : CI S M) (e : S'.1 = S.1) : CI S' M := by
  unfold CI at h ⊢
  rw [e]
  exact h
theorem INV.of1 {S S' : St} (h : INV S) (e : S'.1 = S.1) : INV S' := by
  obtain ⟨M, h1, h2, h3, h4, h5, h6⟩ := h
  refine ⟨M, h1, h2.of1 e, h3.of1 e, ?_, by rw [e]; exact h5, by rw [e]; exact h6⟩
  unfold SHS at h4 ⊢
  rw [e]
  exact h4
set_option maxRecDepth 100000 in
set_option maxHeartbeats 4000000 in
theorem ex5 {M : MS} {p : Nat} {S0 : St} {Q : Int64 → St → Prop} (hM : OKM M) (hm : MI S0 M) (hp : p ≤ 3) (h : ∀ S', S'.1 = S0.1 → (0 < mN M → S'.2 34 17 = lN (8 ^ mH M)) → Q (lN (eA M p)) S') : ∀ d i, i + d = mN M → ∀ S, S.1 = S0.1 → (0 < i → S.2 34 17 = lN (8 ^ mH M)) → V mdX6_expectsNow 5 [some (.ref 34), some (.int (nI p)), some (.long (lN (sm i (fun v => eM M (mK M v) (mC M v) p)))), none, some (.int (nI i))] [] S (qJ Q) := by
  have n8 := hM.n8
  intro d
  induction d with
  | zero =>
    intro i hi S e1 e2
    have : i = mN M := by omega
    subst this
    apply eX6_expectsNow_5
    rw [e1, hm.n]
    exact br_t (nI_le (Nat.le_refl _) (by omega)) (h S e1 e2)
  | succ d ih =>
    intro i hi S e1 e2
    have hmS := hm.of1 e1
    apply eX6_expectsNow_5
    rw [hmS.n, nI_clamp (n := i) (by omega), nI_1 i, hmS.kd (by omega), hmS.co (by omega)]
    refine br_f (nI_ge (by omega) (by omega)) ⟨pk_in i 8 (by omega), pk_in i 8 (by omega), ?_⟩
    refine c_layChances hM hmS (hM.k2 (by omega)) (hM.cw (by omega)) (fun T t1 t2 => c_partsFor hM (hmS.of1 t1) hp t2 ?_)
    rw [lN_add]
    exact ih (i + 1) (by omega) T (t1.trans e1) (fun _ => t2.2.2.1)
set_option maxRecDepth 100000 in
set_option maxHeartbeats 4000000 in
theorem c_expectsNow {M : MS} {p : Nat} {S : St} {Q : Int64 → St → Prop} (hM : OKM M) (hm : MI S M) (hp : p ≤ 3) (h : ∀ S', S'.1 = S.1 → (0 < mN M → S'.2 34 17 = lN (8 ^ mH M)) → Q (lN (eA M p)) S') : CallV mdX6_expectsNow [.ref 34, .int (nI p)] S (qJ Q) := by
  apply eX6_expectsNow
  exact ex5 hM hm hp h (mN M) 0 (by omega) S rfl (fun q => by omega)
