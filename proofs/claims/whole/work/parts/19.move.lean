/-! ===== all votes run down ===== -/
def dK (M : MS) (n k c : Nat) : Nat := sm n (fun v => if mK M v = k ∧ mC M v = c then 1 else 0)
theorem dK_s {M : MS} {n k c : Nat} : dK M (n + 1) k c = dK M n k c + (if mK M n = k ∧ mC M n = c then 1 else 0) := rfl
theorem dK_sum {M : MS} {w k : Nat} : ∀ n, (∀ v, v < n → mC M v < w) → sm w (dK M n k) ≤ n
  | 0, _ => by
    rw [sm_zero (fun c _ => show dK M 0 k c = 0 from rfl)]
    exact Nat.le_refl _
  | n + 1, h => by
    have := dK_sum (k := k) n (fun v hv => h v (by omega))
    rw [show dK M (n + 1) k = (fun c => dK M n k c + (if mK M n = k ∧ mC M n = c then 1 else 0)) from rfl, sm_add]
    have e : sm w (fun c => if mK M n = k ∧ mC M n = c then 1 else 0) ≤ 1 := by
      by_cases q : mK M n = k
      · rw [sm_cong (g := fun c => if mC M n = c then 1 else 0) (fun c _ => by simp only [q, true_and])]
        rw [sm_one (f := fun _ => 1) (h n (by omega))]
        exact Nat.le_refl _
      · rw [sm_zero (fun c _ => if_neg (fun z => q z.1))]
        exact Nat.zero_le _
    have e2 : sm w (fun c => dK M n k c) = sm w (dK M n k) := rfl
    omega
def DR (S : St) (M : MS) (hold k : Nat) : Prop := ∀ r c, r ≤ mH M → c < mW M → S.1 (9 + k) (r * mW M + c) = nI (fw (mW M) (mT M) k (ud hold (mS M)) (dK M (mN M) k) r c * 8 ^ (5 - r))
set_option maxRecDepth 100000 in
set_option maxHeartbeats 4000000 in
theorem da73 {M : MS} {S0 : St} {Q : St → Prop} (hM : OKM M) (hC0 : CI S0 M) (hw : 0 < mW M) {hold : Nat} (hh : hold ≤ 1) (h : ∀ S', FrR 9 12 S0 S' → (∀ k, k ≤ 2 → DR S' M hold k) → Q S') : ∀ d i, i + d = 3 → ∀ S, FrR 9 12 S0 S → (∀ k, k < i → DR S M hold k) → (∀ k x, i ≤ k → k ≤ 2 → x < 36 → S.1 (9 + k) x = nI (if x < mW M then dK M (mN M) k x * 32768 else 0)) → V mdX1_dropAll 73 [some (.ref 7), some (.int (nI hold)), some (.int (nI i))] [] S (qV Q) := by
  have n8 := hM.n8
  intro d
  induction d with
  | zero =>
    intro i hi S f e1 e2
    apply eX1_dropAll_73
    exact br_t (nI_le (a := 3) (by omega) (by omega)) (h S f (fun k hk => e1 k (by omega)))
  | succ d ih =>
    intro i hi S f e1 e2
    apply eX1_dropAll_73
    rw [nI_1]
    refine br_f (nI_ge (b := 3) (by omega) (by omega)) (c_runDown (d := dK M (mN M) i) hM (hC0.fr f (by omega)) hw (by omega) hh ?_ (fun x hx => e2 i x (Nat.le_refl _) (by omega) hx) (fun S' g e => ?_))
    · have := dK_sum (M := M) (w := mW M) (k := i) (mN M) (fun v hv => hM.cw hv)
      omega
    · refine ih (i + 1) (by omega) S' (f.tr (g.mono (by omega) (by omega))) (fun k hk => ?_) (fun k x h1 h2 h3 => ?_)
      · by_cases q : k = i
        · subst q
          exact e
        · intro r c hr hc
          rw [g.at (by omega)]
          exact e1 k (by omega) r c hr hc
      · rw [g.at (by omega)]
        exact e2 k x (by omega) h2 h3
set_option maxRecDepth 100000 in
set_option maxHeartbeats 4000000 in
theorem da25 {M : MS} {S0 : St} {Q : St → Prop} (hM : OKM M) (hC0 : CI S0 M) {hold : Nat} (h : ∀ S, FrR 9 12 S0 S → (∀ k x, k ≤ 2 → x < 36 → S.1 (9 + k) x = nI (if x < mW M then dK M (mN M) k x * 32768 else 0)) → V mdX1_dropAll 73 [some (.ref 7), some (.int (nI hold)), some (.int (nI 0))] [] S (qV Q)) : ∀ d i, i + d = mN M → ∀ S, FrR 9 12 S0 S → (∀ k x, k ≤ 2 → x < 36 → S.1 (9 + k) x = nI (if x < mW M then dK M i k x * 32768 else 0)) → V mdX1_dropAll 25 [some (.ref 7), some (.int (nI hold)), some (.int (nI i))] [] S (qV Q) := by
  have n8 := hM.n8
  have w6 := hM.w6
  intro d
  induction d with
  | zero =>
    intro i hi S f e
    have : i = mN M := by omega
    subst this
    apply eX1_dropAll_25
    rw [(hC0.fr f (by omega)).n]
    exact br_t (nI_le (Nat.le_refl _) (by omega)) (h S f e)
  | succ d ih =>
    intro i hi S f e
    have hC := hC0.fr f (by omega)
    have hv : i < mN M := by omega
    have hk := hM.k2 hv
    have hc := hM.cw hv
    apply eX1_dropAll_25
    rw [hC.n, nI_clamp (n := i) (by omega), hC.kd hv, hC.co hv, nI_clamp (n := mK M i) (by omega), nI_clamp (n := mC M i) (by omega), nI_1, e _ _ hk (by omega), if_pos hc, fa_lit 32768, nI_add]
    refine br_f (nI_ge (by omega) (by omega)) ⟨pk_in i 8 (by omega), pk_in _ 3 (show mK M i < 3 by omega), pk_in i 8 (by omega), pk_in _ 36 (show mC M i < 36 by omega), pk_in _ 36 (show mC M i < 36 by omega), ih (i + 1) (by omega) _ (f.tr (FrR.put (by omega) (by omega))) (fun k x h1 h2 => ?_)⟩
    by_cases q : mK M i = k ∧ mC M i = x
    · obtain ⟨rfl, rfl⟩ := q
      simp (disch := omega) only [sI_o, sI_h, sF_o, sF_h, sJ_1, sI_2, sF_2, sJ_o, sJ_h]
      rw [if_pos hc, dK_s, if_pos ⟨rfl, rfl⟩, Nat.add_mul, Nat.one_mul]
    · rw [sI_o (by omega), e k x h1 h2, dK_s, if_neg q, Nat.add_zero]
set_option maxRecDepth 100000 in
set_option maxHeartbeats 4000000 in
theorem da2 {M : MS} {S0 : St} {Q : St → Prop} {hold : Nat} (h : ∀ S, FrR 9 12 S0 S → (∀ k x, k ≤ 2 → x < 36 → S.1 (9 + k) x = 0) → V mdX1_dropAll 25 [some (.ref 7), some (.int (nI hold)), some (.int (nI 0))] [] S (qV Q)) : ∀ d i, i + d = 3 → ∀ S, FrR 9 12 S0 S → (∀ k x, k < i → x < 36 → S.1 (9 + k) x = 0) → V mdX1_dropAll 2 [some (.ref 7), some (.int (nI hold)), some (.int (nI i))] [] S (qV Q) := by
  intro d
  induction d with
  | zero =>
    intro i hi S f e
    apply eX1_dropAll_2
    exact br_t (nI_le (a := 3) (by omega) (by omega)) (h S f (fun k x hk hx => e k x (by omega) hx))
  | succ d ih =>
    intro i hi S f e
    apply eX1_dropAll_2
    rw [nI_1, nI_clamp (n := i) (by omega)]
    refine br_f (nI_ge (b := 3) (by omega) (by omega)) ⟨pk_in i 3 (by omega), c_fill (n := 36) (rs := []) (pa_lt (isPa_k (by omega))) (pa_lay (isPa_k (by omega))) (by omega) 0 _ _ (ih (i + 1) (by omega) _ (f.tr (FrR.fill (by omega) (by omega))) (fun k x h1 h2 => ?_))⟩
    by_cases q : k = i
    · subst q
      rw [sF_h rfl, if_pos h2]
    · rw [sF_o (by omega)]
      exact e k x (by omega) h2
set_option maxRecDepth 100000 in
set_option maxHeartbeats 4000000 in
theorem c_dropAll {M : MS} {S : St} {Q : St → Prop} (hM : OKM M) (hC : CI S M) (hw : 0 < mW M) {hold : Nat} (hh : hold ≤ 1) (h : ∀ S', FrR 9 12 S S' → (∀ k, k ≤ 2 → DR S' M hold k) → Q S') : CallV mdX1_dropAll [.ref 7, .int (nI hold)] S (qV Q) := by
  apply eX1_dropAll
  refine da2 (M := M) (S0 := S) (fun S1 f1 e1 => ?_) 3 0 (by omega) S FrR.rfl (fun k x hk => absurd hk (Nat.not_lt_zero _))
  refine da25 hM hC (fun S2 f2 e2 => ?_) (mN M) 0 (by omega) S1 f1 (fun k x hk hx => ?_)
  · exact da73 hM hC hw hh h 3 0 (by omega) S2 f2 (fun k hk => absurd hk (Nat.not_lt_zero _)) (fun k x _ h2 h3 => e2 k x h2 h3)
  · rw [e1 k x hk hx, show dK M 0 k x = 0 from rfl, Nat.zero_mul]
    split <;> rfl
/-! ===== what a sign gains ===== -/
def mset (M : MS) (c s : Nat) : MS := (mH M, mW M, mT M, (fun x => if x = c then s else mS M x), mP M, mN M, mK M, mC M)
theorem mset_ok {M : MS} (hM : OKM M) {c s : Nat} (hs : s ≤ 4) : OKM (mset M c s) := by
  obtain ⟨a1, a2, a3, a4, a5, a6⟩ := hM
  refine ⟨a1, a2, fun x hx => ?_, a4, a5, a6⟩
  show (if x = c then s else mS M x) ≤ 4
  split
  · exact hs
  · exact a3 x hx
def pK (M : MS) (r j n k : Nat) : Nat := fw (mW M) (mT M) k (mS M) (dK M n k) r j
theorem pK_0 {M : MS} {r j k : Nat} : pK M r j 0 k = 0 := fw_z r j
theorem pK_s {M : MS} {r j n k : Nat} (hj : j < mW M) : pK M r j (n + 1) k = pK M r j n k + (if mK M n = k then fM M k (mC M n) r j else 0) := by
  unfold pK
  rw [show dK M (n + 1) k = (fun c => dK M n k c + (fun c => if mK M n = k ∧ mC M n = c then 1 else 0) c) from rfl, fw_lin]
  congr 1
  by_cases q : mK M n = k
  · rw [if_pos q]
    refine fw_cong r j (fun _ _ => rfl) (fun x _ => ?_) hj
    show (if mK M n = k ∧ mC M n = x then 1 else 0) = (if x = mC M n then 1 else 0)
    simp only [q, true_and, eq_comm]
  · rw [if_neg q]
    have : (fun c => if mK M n = k ∧ mC M n = c then 1 else 0) = (fun _ : Nat => 0) := funext fun c => if_neg (fun z => q z.1)
    rw [this]
    exact fw_z r j
theorem by_kind {M : MS} {r j : Nat} (hj : j < mW M) (X : Nat → Nat) : ∀ n, (∀ v, v < n → mK M v ≤ 2) → sm n (fun v => fM M (mK M v) (mC M v) r j * X (mK M v)) = sm 3 (fun k => pK M r j n k * X k)
  | 0, _ => by
    show 0 = 0 + pK M r j 0 0 * X 0 + pK M r j 0 1 * X 1 + pK M r j 0 2 * X 2
    simp only [pK_0, Nat.zero_mul]
  | n + 1, h => by
    have ih := by_kind (M := M) (r := r) hj X n (fun v hv => h v (by omega))
    have hk := h n (by omega)
    show sm n _ + fM M (mK M n) (mC M n) r j * X (mK M n) = 0 + pK M r j (n + 1) 0 * X 0 + pK M r j (n + 1) 1 * X 1 + pK M r j (n + 1) 2 * X 2
    have ih2 : sm 3 (fun k => pK M r j n k * X k) = 0 + pK M r j n 0 * X 0 + pK M r j n 1 * X 1 + pK M r j n 2 * X 2 := rfl
    rw [ih, ih2, pK_s hj, pK_s hj, pK_s hj]
    rcases (by omega : mK M n = 0 ∨ mK M n = 1 ∨ mK M n = 2) with q | q | q <;> rw [q] <;> simp (decide := true) only [if_true, if_false, Nat.add_mul, Nat.zero_mul, Nat.add_zero, Nat.zero_add] <;> omega
theorem eA_gain {M : MS} (hM : OKM M) {p r i j s : Nat} (hr : r + (i + 1) = mH M) (hj : j < mW M) : eA (mset M (r * mW M + j) s) p + sm 3 (fun k => pK M r j (mN M) k * bM M k p (i + 1) j) = eA M p + sm 3 (fun k => pK M r j (mN M) k * wu (mW M) (mT M) k s (bM M k p i) j) := by
  rw [← by_kind hj (fun k => bM M k p (i + 1) j) (mN M) (fun v hv => hM.k2 hv), ← by_kind hj (fun k => wu (mW M) (mT M) k s (bM M k p i) j) (mN M) (fun v hv => hM.k2 hv)]
  unfold eA
  show sm (mN M) _ + _ = _
  rw [← sm_add, ← sm_add]
  refine sm_cong (fun v hv => ?_)
  exact gain_eq (u := uP M p) hr hj
/-- longs of ints -/
def lZ (z : Int) : Int64 := Int64.ofInt z
theorem lZ_add (a b : Int) : lZ a + lZ b = lZ (a + b) := (Int64.ofInt_add a b).symm
theorem lZ_mul (a b : Int) : lZ a * lZ b = lZ (a * b) := (Int64.ofInt_mul a b).symm
theorem lZ_toInt {z : Int} (h : -2 ^ 62 ≤ z) (h' : z < 2 ^ 62) : (lZ z).toInt = z := Int64.toInt_ofInt_of_le (by omega) (by omega)
theorem lZ_of (x : Int32) : x.toInt64 = lZ x.toInt := by
  have a := Int32.toInt_lt x
  have b := Int32.le_toInt x
  rw [fa_eq64, lZ_toInt (by omega) (by omega)]
  exact Int32.toInt_toInt64 x
theorem lZ_nI {n : Nat} (h : n < 2 ^ 31) : (nI n).toInt64 = lZ n := by rw [lZ_of, nI_toInt h]
