/-! ===== the reference counts by sets ===== -/
theorem wi_xor {a b : Nat} (ha : a < 2 ^ 32) (hb : b < 2 ^ 32) : nI a ^^^ nI b = nI (a ^^^ b) := by
  apply wi_inj
  rw [Int32.toBitVec_xor, wi_tb, wi_tb, wi_tb]
  apply BitVec.eq_of_toNat_eq
  rw [BitVec.toNat_xor, BitVec.toNat_ofNat, BitVec.toNat_ofNat, BitVec.toNat_ofNat, Nat.mod_eq_of_lt ha, Nat.mod_eq_of_lt hb, Nat.mod_eq_of_lt (Nat.xor_lt_two_pow ha hb)]
theorem wi_m1 : (-1 : Int32) = nI (2 ^ 32 - 1) := by decide
/-- one set without another -/
def dm (y x : Nat) : Nat := y &&& (x ^^^ (2 ^ 32 - 1))
theorem dm_le {y x : Nat} : dm y x ≤ y := Nat.and_le_left
theorem dm_tb {y x i : Nat} (hi : i < 32) : (dm y x).testBit i = (y.testBit i && !x.testBit i) := by
  unfold dm
  rw [Nat.testBit_and, Nat.testBit_xor, Nat.testBit_two_pow_sub_one, decide_eq_true hi, Bool.xor_true]
theorem wi_dm {y x : Nat} (hy : y < 2 ^ 31) (hx : x < 2 ^ 31) : nI y &&& (nI x ^^^ -1) = nI (dm y x) := by
  rw [wi_m1, wi_xor (by omega) (by omega), wi_and (by omega) (Nat.xor_lt_two_pow (by omega) (by omega))]
  rfl
theorem sbB_iff {x : Nat} {P : Nat → Bool} : ∀ k, sbB k x P = true ↔ ∀ i, i < k → x.testBit i = true → P i = true
  | 0 => ⟨fun _ i hi => absurd hi (Nat.not_lt_zero _), fun _ => rfl⟩
  | k + 1 => by
    show ((!x.testBit k || P k) && sbB k x P) = true ↔ _
    rw [Bool.and_eq_true, sbB_iff k]
    constructor
    · rintro ⟨a, b⟩ i hi h
      by_cases q : i = k
      · subst q
        rw [h] at a
        simpa using a
      · exact b i (by omega) h
    · intro h
      refine ⟨?_, fun i hi => h i (by omega)⟩
      cases q : x.testBit k
      · rfl
      · rw [h k (by omega) q]
        rfl
theorem sb_dm {k x y : Nat} (hk : k ≤ 31) (hx : x < 2 ^ k) : dm x y = 0 ↔ sbB k x (fun i => y.testBit i) = true := by
  rw [sbB_iff]
  constructor
  · intro h i hi hb
    have := congrArg (fun m => m.testBit i) h
    simp only [Nat.zero_testBit] at this
    rw [dm_tb (by omega), hb, Bool.true_and] at this
    simpa using this
  · intro h
    apply Nat.eq_of_testBit_eq
    intro i
    rw [Nat.zero_testBit]
    by_cases q : i < k
    · rw [dm_tb (by omega)]
      cases w : x.testBit i
      · rfl
      · rw [h i q w]
        rfl
    · have : dm x y < 2 ^ i := Nat.lt_of_le_of_lt dm_le (Nat.lt_of_lt_of_le hx (Nat.pow_le_pow_right (by decide) (by omega)))
      exact Nat.testBit_lt_two_pow this
theorem sb_le {k x y : Nat} (hx : x < 2 ^ k) (h : sbB k x (fun i => y.testBit i) = true) : x ≤ y := by
  have e : x &&& y = x := by
    apply Nat.eq_of_testBit_eq
    intro i
    rw [Nat.testBit_and]
    by_cases q : i < k
    · cases w : x.testBit i
      · rfl
      · rw [(sbB_iff k).1 h i q w]
        rfl
    · rw [Nat.testBit_lt_two_pow (Nat.lt_of_lt_of_le hx (Nat.pow_le_pow_right (by decide) (by omega)))]
      rfl
  rw [← e]
  exact Nat.and_le_right
theorem pop_8 {k x : Nat} (hk : k ≤ 8) (hx : x < 2 ^ k) : pop 8 x = pop k x := by
  have := sm_gap (f := fun i => if x.testBit i = true then 1 else 0) (w := k) (8 - k) (fun e h1 h2 => by
    rw [Nat.testBit_lt_two_pow (Nat.lt_of_lt_of_le hx (Nat.pow_le_pow_right (by decide) h1))]
    rfl)
  rw [show k + (8 - k) = 8 by omega] at this
  exact this
theorem pop_half {k x : Nat} : pop (k + 1) x = x % 2 + pop k (x / 2) := by
  unfold pop
  rw [Nat.add_comm k 1, sm_split]
  congr 1
  · show 0 + (if x.testBit 0 = true then 1 else 0) = x % 2
    rw [Nat.testBit_zero]
    by_cases q : x % 2 = 1
    · rw [q]
      rfl
    · rw [decide_eq_false q, if_neg (by decide)]
      omega
  · refine sm_cong (fun i _ => ?_)
    rw [Nat.add_comm 1 i, Nat.testBit_add_one]
theorem pop_z {k : Nat} : pop k 0 = 0 := sm_zero (fun i _ => by rw [Nat.zero_testBit]; rfl)
set_option maxRecDepth 100000 in
set_option maxHeartbeats 4000000 in
theorem bi4 {S : St} {Q : Int32 → St → Prop} : ∀ k x acc, k ≤ 8 → x < 2 ^ k → Q (nI (acc + pop k x)) S → V mdX6_bits 4 [none, some (.int (nI acc)), some (.int (nI x))] [] S (qI Q) := by
  intro k
  induction k with
  | zero =>
    intro x acc hk hx h
    have : x = 0 := by
      have : 2 ^ 0 = 1 := rfl
      omega
    subst this
    apply eX6_bits_4
    exact br_t (by decide) h
  | succ k ih =>
    intro x acc hk hx h
    have hx8 : x < 2 ^ 8 := Nat.lt_of_lt_of_le hx (Nat.pow_le_pow_right (by decide) hk)
    apply eX6_bits_4
    by_cases q : x = 0
    · subst q
      rw [pop_z] at h
      exact br_t (by decide) h
    · refine br_f (by rw [fa_lit 0]; exact nI_ge (by omega) (by omega)) ?_
      rw [fa_lit 1, wi_and (by omega) (by omega), wi_shr (by omega) (by omega), nI_add, Nat.and_one_is_mod]
      refine ih (x / 2 ^ 1) _ (by omega) ?_ ?_
      · rw [Nat.pow_succ] at hx
        omega
      · rw [pop_half] at h
        rw [Nat.add_assoc]
        exact h
set_option maxRecDepth 100000 in
set_option maxHeartbeats 4000000 in
theorem c_bits {S : St} {Q : Int32 → St → Prop} {x : Nat} (hx : x < 256) (h : Q (nI (pop 8 x)) S) : CallV mdX6_bits [.int (nI x)] S (qI Q) := by
  apply eX6_bits
  have := bi4 (Q := Q) (S := S) 8 x 0 (by omega) hx
  rw [Nat.zero_add] at this
  exact this h
def tb (s : Nat) : Nat → Bool := fun i => s.testBit i
theorem WS_J1 {E : Nat → Nat → Bool} {u : Nat → Nat} {P : Nat → Bool} : ∀ k, (∀ i, i < k → P i = false) → WS E 0 k P u = 1
  | 0, _ => rfl
  | k + 1, h => by rw [WS_n (h k (by omega)), WS_J1 k (fun i hi => h i (by omega))]
theorem WS_J0 {E : Nat → Nat → Bool} {u : Nat → Nat} {P : Nat → Bool} : ∀ k, (∃ i, i < k ∧ P i = true) → WS E 0 k P u = 0
  | 0, ⟨i, hi, _⟩ => absurd hi (Nat.not_lt_zero _)
  | k + 1, ⟨i, hi, h⟩ => by
    cases q : P k
    · rw [WS_n q]
      refine WS_J0 k ⟨i, ?_, h⟩
      by_cases z : i = k
      · subst z
        rw [q] at h
        exact absurd h (by decide)
      · omega
    · rw [WS_y q]
      rfl
theorem WS_st {E : Nat → Nat → Bool} {u : Nat → Nat} {k s : Nat} (hs : s < 2 ^ k) : WS E 0 k (tb s) u = if s = 0 then 1 else 0 := by
  by_cases q : s = 0
  · subst q
    rw [if_pos rfl]
    exact WS_J1 k (fun i _ => Nat.zero_testBit i)
  · rw [if_neg q]
    refine WS_J0 k ?_
    rcases Classical.em (∃ i, i < k ∧ tb s i = true) with h | h
    · exact h
    · exfalso
      apply q
      apply Nat.eq_of_testBit_eq
      intro i
      rw [Nat.zero_testBit]
      by_cases z : i < k
      · cases y : s.testBit i
        · rfl
        · exact absurd ⟨i, z, y⟩ h
      · exact Nat.testBit_lt_two_pow (Nat.lt_of_lt_of_le hs (Nat.pow_le_pow_right (by decide) (by omega)))
/-- what the reference's count rests on -/
def RT (S : St) (E : Nat → Nat → Bool) (cd : Nat → Int32) (w n b : Nat) : Prop := S.1 34 2 = nI w ∧ (∀ e, e < 7 → S.1 44 e = nI (msk n (fun v => E v e))) ∧ (∀ j, j ≤ w → S.1 49 (b + j) = cd j)
def F45 (S T : St) : Prop := T.2 = S.2 ∧ ∀ q, q ≠ 45 → q ≠ 46 → T.1 q = S.1 q
theorem F45.put {S T : St} (h : F45 S T) {p k : Nat} {v : Int32} (hp : p = 45 ∨ p = 46) : F45 S (sI T p k v) := ⟨h.1, fun q a b => by rw [sI_ne _ _ _ (by omega)]; exact h.2 q a b⟩
def Ej (E : Nat → Nat → Bool) (w : Nat) : Nat → Nat → Bool := fun v j => E v (en w j)
def Tj (cd : Nat → Int32) : Nat → Nat := fun j => cnt (cd j)
def WJ (E : Nat → Nat → Bool) (cd : Nat → Int32) (w n j s : Nat) : Nat := WS (Ej E w) j n (tb s) (Tj cd)
def Zj (E : Nat → Nat → Bool) (cd : Nat → Int32) (w n j s : Nat) : Nat → Nat := Zt n (tb s) (fun v => Ej E w v j) (Tj cd j) (fun x => WS (Ej E w) j n (mi (tb s) x) (Tj cd))
theorem Zj_sum {E : Nat → Nat → Bool} {cd : Nat → Int32} {w n j s : Nat} (hs : s < 2 ^ n) : sm (s + 1) (Zj E cd w n j s) = WJ E cd w n (j + 1) s := by
  unfold WJ
  rw [WSD]
  unfold Z
  have := sm_gap (f := Zj E cd w n j s) (w := s + 1) (2 ^ n - (s + 1)) (fun x h1 h2 => by
    unfold Zj Zt
    rw [if_neg]
    rintro ⟨a, _⟩
    have := sb_le (by omega) a
    omega)
  rw [show s + 1 + (2 ^ n - (s + 1)) = 2 ^ n by omega] at this
  exact this.symm
