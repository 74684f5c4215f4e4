/-! ===== dams: which are reached ===== -/
theorem wb_shr {n k : Nat} (hn : n < 2 ^ 63) (hk : k < 64) : lN n >>> ((nI k).toInt64 &&& 63) = lN (n / 2 ^ k) := by
  rw [wb_c k hk]
  apply wb_inj
  rw [Int64.toBitVec_shiftRight, wb_tb, wb_tb, wb_tb, wb_sm k hk]
  have e : (BitVec.ofNat 64 n).msb = false := by
    rw [BitVec.msb_eq_decide, BitVec.toNat_ofNat, Nat.mod_eq_of_lt (by omega)]
    exact decide_eq_false (by omega)
  apply BitVec.eq_of_toNat_eq
  rw [BitVec.sshiftRight_eq', BitVec.sshiftRight_eq_of_msb_false e, BitVec.toNat_ushiftRight, BitVec.toNat_ofNat, BitVec.toNat_ofNat, BitVec.toNat_ofNat, Nat.mod_eq_of_lt (show k < 2 ^ 64 by omega), Nat.mod_eq_of_lt (show n < 2 ^ 64 by omega), Nat.shiftRight_eq_div_pow, Nat.mod_eq_of_lt]
  have := Nat.div_le_self n (2 ^ k)
  omega
theorem wb_bit {n k : Nat} (hn : n < 2 ^ 63) (hk : k < 64) : ((lN n >>> ((nI k).toInt64 &&& 63)) &&& 1 = 1) ↔ n.testBit k = true := by
  have := Nat.div_le_self n (2 ^ k)
  rw [wb_shr hn hk, fa_litL 1, wb_and (by omega) (by omega), Nat.and_one_is_mod, pk_lEQ (by omega) (by omega), Nat.testBit_eq_decide_div_mod_eq, decide_eq_true_iff]
theorem msk_eq {n : Nat} {P Q : Nat → Bool} (h : ∀ x, x < n → P x = Q x) : msk n P = msk n Q := sm_cong (fun x hx => by rw [h x hx])
theorem msk_uni {n : Nat} {P Q : Nat → Bool} : msk n P ||| msk n Q = msk n (fun x => P x || Q x) := by
  apply Nat.eq_of_testBit_eq
  intro j
  rw [Nat.testBit_or, msk_bit, msk_bit, msk_bit, Bool.and_or_distrib_left]
theorem msk_int {n : Nat} {P Q : Nat → Bool} : msk n P &&& msk n Q = msk n (fun x => P x && Q x) := by
  apply Nat.eq_of_testBit_eq
  intro j
  rw [Nat.testBit_and, msk_bit, msk_bit, msk_bit]
  cases decide (j < n) <;> simp
theorem msk_0 {n : Nat} {P : Nat → Bool} (h : msk n P = 0) : ∀ x, x < n → P x = false := by
  intro x hx
  have := msk_bit P x n
  rw [h, Nat.zero_testBit, decide_eq_true hx, Bool.true_and] at this
  exact this.symm
theorem msk_30 {M : MS} (hM : OKM M) (P : Nat → Bool) : msk (mH M * mW M) P < 2 ^ 30 := Nat.lt_of_lt_of_le (msk_lt P _) (Nat.pow_le_pow_right (by decide) hM.n30)
/-- some vote can come to a place -/
def rV (M : MS) (sg : Nat → Nat) (x : Nat) : Prop := ∃ v, v < mN M ∧ 0 < fw (mW M) (mT M) (mK M v) sg (d1 (mC M v)) (x / mW M) (x % mW M)
theorem fw_some {M : MS} {sg : Nat → Nat} {k r j : Nat} (hj : j < mW M) : ∀ n, 0 < fw (mW M) (mT M) k sg (dK M n k) r j ↔ ∃ v, v < n ∧ mK M v = k ∧ 0 < fw (mW M) (mT M) k sg (d1 (mC M v)) r j
  | 0 => by
    rw [show dK M 0 k = (fun _ => 0) from rfl, fw_z]
    exact ⟨fun h => absurd h (by omega), fun ⟨v, hv, _⟩ => absurd hv (Nat.not_lt_zero _)⟩
  | n + 1 => by
    have ih := fw_some (sg := sg) (k := k) (r := r) hj n
    rw [show dK M (n + 1) k = (fun c => dK M n k c + (fun c => if mK M n = k ∧ mC M n = c then 1 else 0) c) from rfl, fw_lin]
    have e2 : fw (mW M) (mT M) k sg (fun c => if mK M n = k ∧ mC M n = c then 1 else 0) r j = if mK M n = k then fw (mW M) (mT M) k sg (d1 (mC M n)) r j else 0 := by
      by_cases q : mK M n = k
      · rw [if_pos q]
        refine fw_cong r j (fun _ _ => rfl) (fun x _ => ?_) hj
        show (if mK M n = k ∧ mC M n = x then 1 else 0) = (if x = mC M n then 1 else 0)
        simp only [q, true_and, eq_comm]
      · rw [if_neg q]
        have : (fun c => if mK M n = k ∧ mC M n = c then 1 else 0) = (fun _ : Nat => 0) := funext fun c => if_neg (fun z => q z.1)
        rw [this]
        exact fw_z r j
    rw [e2]
    constructor
    · intro h
      by_cases q : mK M n = k ∧ 0 < fw (mW M) (mT M) k sg (d1 (mC M n)) r j
      · exact ⟨n, by omega, q⟩
      · have : 0 < fw (mW M) (mT M) k sg (dK M n k) r j := by
          by_cases z : mK M n = k
          · rw [if_pos z] at h
            have := fun y => q ⟨z, y⟩
            have e3 : fw (mW M) (mT M) k sg (fun c => dK M n k c) r j = fw (mW M) (mT M) k sg (dK M n k) r j := rfl
            omega
          · rw [if_neg z] at h
            exact h
        obtain ⟨v, hv, h'⟩ := ih.1 this
        exact ⟨v, by omega, h'⟩
    · intro ⟨v, hv, hk, hf⟩
      by_cases q : v = n
      · subst q
        rw [if_pos hk]
        omega
      · have := ih.2 ⟨v, by omega, hk, hf⟩
        have e3 : fw (mW M) (mT M) k sg (fun c => dK M n k c) r j = fw (mW M) (mT M) k sg (dK M n k) r j := rfl
        omega
def pH (M : MS) (hold k x : Nat) : Nat := fw (mW M) (mT M) k (ud hold (mS M)) (dK M (mN M) k) (x / mW M) (x % mW M)
def dG (M : MS) (hold x : Nat) : Bool := decide (mS M x = 4 ∧ (0 < pH M hold 0 x ∨ 0 < pH M hold 1 x ∨ 0 < pH M hold 2 x))
theorem dG_iff {M : MS} (hM : OKM M) (hw : 0 < mW M) {hold x : Nat} : dG M hold x = true ↔ mS M x = 4 ∧ rV M (ud hold (mS M)) x := by
  unfold dG
  rw [decide_eq_true_iff]
  have hj := Nat.mod_lt x hw
  refine and_congr_right (fun _ => ?_)
  constructor
  · rintro (h | h | h) <;> obtain ⟨v, hv, hk, hf⟩ := (fw_some hj (mN M)).1 h <;> exact ⟨v, hv, by rw [hk]; exact hf⟩
  · rintro ⟨v, hv, hf⟩
    have hk := hM.k2 hv
    have := (fw_some (sg := ud hold (mS M)) (k := mK M v) hj (mN M)).2 ⟨v, hv, rfl, hf⟩
    rcases (by omega : mK M v = 0 ∨ mK M v = 1 ∨ mK M v = 2) with q | q | q <;> rw [q] at this
    · exact Or.inl this
    · exact Or.inr (Or.inl this)
    · exact Or.inr (Or.inr this)
theorem nI_p {n : Nat} (h : n < 2 ^ 31) : (0 < nI n) ↔ 0 < n := by
  rw [fa_lit 0, nI_ltI (by omega) h]
set_option maxRecDepth 100000 in
set_option maxHeartbeats 4000000 in
theorem dr10 {M : MS} {S : St} {Q : Int64 → St → Prop} (hM : OKM M) (hC : CI S M) (hw : 0 < mW M) {hold : Nat} (hD : ∀ k, k ≤ 2 → DR S M hold k) (h : Q (lN (msk (mH M * mW M) (dG M hold))) S) : ∀ d i, i + d = mH M * mW M → V mdX1_damsReached 10 [some (.ref 7), none, some (.long (lN (msk i (dG M hold)))), none, some (.int (nI i)), none] [] S (qJ Q) := by
  have n30 := hM.n30
  have n8 := hM.n8
  have h5 := hM.h5
  intro d
  induction d with
  | zero =>
    intro i hi
    have : i = mH M * mW M := by omega
    subst this
    apply eX1_damsReached_10
    rw [hC.N]
    exact br_t (nI_le (Nat.le_refl _) (by omega)) h
  | succ d ih =>
    intro i hi
    have s4 := hM.s4 (c := i) (by omega)
    obtain ⟨r, j, hj, hx⟩ := rw_div (x := i) hw
    have hr := rw_row (h := mH M) (r := r) hj (by omega)
    have rd : ∀ k, k ≤ 2 → S.1 (9 + k) i = nI (pH M hold k i * 8 ^ (5 - r)) := fun k hk => by
      rw [hx, hD k hk r j (by omega) hj]
      unfold pH
      rw [rw_dv hj, rw_mod hj]
    have bd : ∀ k, k ≤ 2 → pH M hold k i * 8 ^ (5 - r) ≤ 262144 := fun k hk => by
      have a := fw_le (k := k) (sg := ud hold (mS M)) (d := dK M (mN M) k) hM.t1 r hj
      have b := dK_sum (M := M) (w := mW M) (k := k) (mN M) (fun v hv => hM.cw hv)
      have c := Nat.mul_le_mul_right (8 ^ r) (show sm (mW M) (dK M (mN M) k) ≤ 8 by omega)
      have e := Nat.mul_le_mul_right (8 ^ (5 - r)) (Nat.le_trans a c)
      rw [Nat.mul_assoc, ← Nat.pow_add, show r + (5 - r) = 5 by omega] at e
      unfold pH
      rw [hx, rw_dv hj, rw_mod hj]
      exact e
    have hp0 : 0 < 8 ^ (5 - r) := Nat.pow_pos (by decide)
    have pos : ∀ k, k ≤ 2 → (0 < S.1 (9 + k) i ↔ 0 < pH M hold k i) := fun k hk => by
      have := bd k hk
      rw [rd k hk, nI_p (by omega)]
      exact ⟨fun z => Nat.pos_of_mul_pos_right z, fun z => Nat.mul_pos z hp0⟩
    have p0 := pos 0 (by omega)
    have p1 := pos 1 (by omega)
    have p2 := pos 2 (by omega)
    have sd : (S.1 2 i = 4) ↔ mS M i = 4 := by
      rw [hC.sg (by omega), fa_lit 4, nI_eq (by omega) (by omega)]
    have nle : (S.1 11 i ≤ 0) ↔ ¬ 0 < pH M hold 2 i := by
      rw [← p2, fa_lt, fa_le]
      show (S.1 11 i).toInt ≤ _ ↔ ¬ (_ < (S.1 11 i).toInt)
      omega
    have nx := ih (i + 1) (by omega)
    have hm := msk_or (dG M hold) i (dG M hold i) rfl
    have l1 := msk_lt (dG M hold) i
    have p30 : 2 ^ i ≤ 2 ^ 30 := Nat.pow_le_pow_right (by decide) (by omega)
    have yes : mS M i = 4 → (0 < pH M hold 0 i ∨ 0 < pH M hold 1 i ∨ 0 < pH M hold 2 i) → V mdX1_damsReached 10 [some (.ref 7), none, some (.long (lN (msk i (dG M hold)) ||| ((1 : Int64) <<< ((nI i).toInt64 &&& 63)))), none, some (.int (nI (i + 1))), none] [] S (qJ Q) := fun a b => by
      rw [show dG M hold i = true from decide_eq_true ⟨a, b⟩, if_pos rfl] at hm
      rw [fa_litL 1, wb_shl 1 (by omega), wb_or (by omega) (by omega), Nat.one_mul, hm]
      exact nx
    have no : ¬ (mS M i = 4 ∧ (0 < pH M hold 0 i ∨ 0 < pH M hold 1 i ∨ 0 < pH M hold 2 i)) → V mdX1_damsReached 10 [some (.ref 7), none, some (.long (lN (msk i (dG M hold)))), none, some (.int (nI (i + 1))), none] [] S (qJ Q) := fun a => by
      rw [show dG M hold i = false from decide_eq_false a, if_neg (by decide)] at hm
      rw [hm]
      exact nx
    have g36 : vp_in (nI i) 36 := pk_in i 36 (by omega)
    have g30 : vp_in (nI i) 30 := pk_in i 30 (by omega)
    apply eX1_damsReached_10
    rw [hC.N, nI_clamp (n := i) (by omega), nI_1 i, show S.1 9 i = S.1 (9 + 0) i from rfl, show S.1 10 i = S.1 (9 + 1) i from rfl, p0, p1, nle, sd]
    refine br_f (nI_ge (by omega) (by omega)) ⟨g36, fun a => ⟨g30, fun b => no (fun z => b z.1), fun b => yes b (Or.inl a)⟩, fun a => ⟨g36, fun a1 => ⟨g30, fun b => no (fun z => b z.1), fun b => yes b (Or.inr (Or.inl a1))⟩, fun a1 => ⟨g36, fun a2 => ⟨g30, fun b => no (fun z => b z.1), fun b => no (fun z => by omega)⟩, fun a2 => ⟨g30, fun b => no (fun z => b z.1), fun b => yes b (Or.inr (Or.inr (by omega)))⟩⟩⟩⟩
set_option maxRecDepth 100000 in
set_option maxHeartbeats 4000000 in
theorem c_damsReached {M : MS} {S : St} {Q : Int64 → St → Prop} (hM : OKM M) (hC : CI S M) (hw : 0 < mW M) {hold : Nat} (hh : hold ≤ 1) (h : ∀ S', FrR 9 12 S S' → Q (lN (msk (mH M * mW M) (dG M hold))) S') : CallV mdX1_damsReached [.ref 7, .int (nI hold)] S (qJ Q) := by
  apply eX1_damsReached
  exact c_dropAll hM hC hw hh (fun S' f e => dr10 hM (hC.fr f (by omega)) hw e (h S' f) (mH M * mW M) 0 (by omega))
/-! the reference -/
def vA (M : MS) : Nat → Nat → Bool
  | 0, _ => false
  | n + 1, x => vA M n x || vM M (mK M n) (mC M n) x
def hN (M : MS) (x : Nat) : Bool := vA M (mN M) x && decide (mS M x = 4)
theorem vA_iff {M : MS} {x : Nat} : ∀ n, vA M n x = true ↔ ∃ v, v < n ∧ 0 < fM M (mK M v) (mC M v) (x / mW M) (x % mW M)
  | 0 => ⟨fun h => absurd h (by decide : ¬ false = true), fun ⟨v, hv, _⟩ => absurd hv (Nat.not_lt_zero _)⟩
  | n + 1 => by
    show (vA M n x || decide (0 < fM M (mK M n) (mC M n) (x / mW M) (x % mW M))) = true ↔ _
    rw [Bool.or_eq_true, vA_iff n, decide_eq_true_iff]
    constructor
    · rintro (⟨v, hv, h⟩ | h)
      · exact ⟨v, by omega, h⟩
      · exact ⟨n, by omega, h⟩
    · rintro ⟨v, hv, h⟩
      by_cases q : v = n
      · subst q
        exact Or.inr h
      · exact Or.inl ⟨v, by omega, h⟩
theorem hN_iff {M : MS} {x : Nat} : hN M x = true ↔ mS M x = 4 ∧ rV M (mS M) x := by
  unfold hN
  rw [Bool.and_eq_true, vA_iff, decide_eq_true_iff, and_comm]
  rfl
set_option maxRecDepth 100000 in
set_option maxHeartbeats 4000000 in
theorem hn47 {M : MS} {S0 : St} {Q : Int64 → St → Prop} (hM : OKM M) (hm0 : MI S0 M) (h : ∀ S, S.1 = S0.1 → Q (lN (msk (mH M * mW M) (hN M))) S) : ∀ d i, i + d = mN M → ∀ S, S.1 = S0.1 → V mdX6_holdsNow 47 [some (.ref 34), some (.long (lN (msk (mH M * mW M) (fun x => decide (mS M x = 4))))), none, some (.long (lN (msk (mH M * mW M) (fun x => vA M i x && decide (mS M x = 4))))), none, some (.int (nI i))] [] S (qJ Q) := by
  have n8 := hM.n8
  intro d
  induction d with
  | zero =>
    intro i hi S e
    have : i = mN M := by omega
    subst this
    apply eX6_holdsNow_47
    rw [(hm0.of1 e).n]
    exact br_t (nI_le (Nat.le_refl _) (by omega)) (h S e)
  | succ d ih =>
    intro i hi S e
    have hm := hm0.of1 e
    have hv : i < mN M := by omega
    apply eX6_holdsNow_47
    rw [hm.n, nI_1 i, nI_clamp (n := i) (by omega), hm.kd hv, hm.co hv]
    refine br_f (nI_ge (by omega) (by omega)) ⟨pk_in i 8 (by omega), pk_in i 8 (by omega), c_layChances hM hm (hM.k2 hv) (hM.cw hv) (fun T t hL => ?_)⟩
    have b1 := msk_30 hM (vM M (mK M i) (mC M i))
    have b2 := msk_30 hM (fun x => decide (mS M x = 4))
    have b3 := msk_30 hM (fun x => vA M i x && decide (mS M x = 4))
    have nx := ih (i + 1) (by omega) T (t.trans e)
    rw [hL.2.2.2, wb_and (by omega) (by omega), msk_int]
    have b4 := msk_30 hM (fun x => vM M (mK M i) (mC M i) x && decide (mS M x = 4))
    rw [wb_or (by omega) (by omega), msk_uni, msk_eq (P := fun x => vA M i x && decide (mS M x = 4) || vM M (mK M i) (mC M i) x && decide (mS M x = 4)) (Q := fun x => vA M (i + 1) x && decide (mS M x = 4)) (fun x _ => by
      show (vA M i x && decide (mS M x = 4) || vM M (mK M i) (mC M i) x && decide (mS M x = 4)) = ((vA M i x || vM M (mK M i) (mC M i) x) && decide (mS M x = 4))
      rw [Bool.and_or_distrib_right])]
    exact nx
set_option maxRecDepth 100000 in
set_option maxHeartbeats 4000000 in
theorem hn7 {M : MS} {S : St} {Q : Int64 → St → Prop} (hM : OKM M) (hm : MI S M) (h : V mdX6_holdsNow 47 [some (.ref 34), some (.long (lN (msk (mH M * mW M) (fun x => decide (mS M x = 4))))), none, some (.long (lN 0)), none, some (.int (nI 0))] [] S (qJ Q)) : ∀ d i, i + d = mH M * mW M → V mdX6_holdsNow 7 [some (.ref 34), some (.long (lN (msk i (fun x => decide (mS M x = 4))))), none, some (.long (lN 0)), none, some (.int (nI i))] [] S (qJ Q) := by
  have n30 := hM.n30
  intro d
  induction d with
  | zero =>
    intro i hi
    have : i = mH M * mW M := by omega
    subst this
    apply eX6_holdsNow_7
    rw [hm.N]
    exact br_t (nI_le (Nat.le_refl _) (by omega)) h
  | succ d ih =>
    intro i hi
    have s4 := hM.s4 (c := i) (by omega)
    have l1 := msk_lt (fun x => decide (mS M x = 4)) i
    have p30 : 2 ^ i ≤ 2 ^ 30 := Nat.pow_le_pow_right (by decide) (by omega)
    have nx := ih (i + 1) (by omega)
    have hm' := msk_or (fun x => decide (mS M x = 4)) i (decide (mS M i = 4)) rfl
    apply eX6_holdsNow_7
    rw [hm.N, nI_1 i, nI_clamp (n := i) (by omega), hm.sg (by omega), fa_lit 4, nI_eq (by omega) (by omega)]
    refine br_f (nI_ge (by omega) (by omega)) ⟨pk_in i 30 (by omega), fun q => ?_, fun q => ?_⟩
    · rw [decide_eq_false q, if_neg (by decide)] at hm'
      rw [Int64.or_zero, hm']
      exact nx
    · rw [decide_eq_true q, if_pos rfl] at hm'
      rw [fa_litL 1, wb_shl 1 (by omega), wb_or (by omega) (by omega), Nat.one_mul, hm']
      exact nx
set_option maxRecDepth 100000 in
set_option maxHeartbeats 4000000 in
theorem c_holdsNow {M : MS} {S : St} {Q : Int64 → St → Prop} (hM : OKM M) (hm : MI S M) (h : ∀ S', S'.1 = S.1 → Q (lN (msk (mH M * mW M) (hN M))) S') : CallV mdX6_holdsNow [.ref 34] S (qJ Q) := by
  apply eX6_holdsNow
  refine hn7 hM hm ?_ (mH M * mW M) 0 (by omega)
  have := hn47 (Q := Q) hM hm h (mN M) 0 (by omega) S rfl
  rw [show msk (mH M * mW M) (fun x => vA M 0 x && decide (mS M x = 4)) = 0 from sm_zero (fun x _ => if_neg (by show ¬ (false && _) = true; rw [Bool.false_and]; decide))] at this
  exact this
