/-! ===== the best sign ===== -/
def gA (M : MS) (p r i j s k : Nat) : Nat := pK M r j (mN M) k * 8 ^ (5 - r) * (wu (mW M) (mT M) k s (bM M k p i) j * 8 ^ (4 - i))
def gB (M : MS) (p r i j k : Nat) : Nat := pK M r j (mN M) k * 8 ^ (5 - r) * (bM M k p (i + 1) j * 8 ^ (4 - i))
theorem pK_le {M : MS} (hM : OKM M) {r j k : Nat} (hj : j < mW M) (hr : r ≤ 5) : pK M r j (mN M) k * 8 ^ (5 - r) ≤ 262144 := by
  have n8 := hM.n8
  have a := fw_le (k := k) (sg := mS M) (d := dK M (mN M) k) hM.t1 r hj
  have b := dK_sum (M := M) (w := mW M) (k := k) (mN M) (fun v hv => hM.cw hv)
  have c := Nat.mul_le_mul_right (8 ^ r) (show sm (mW M) (dK M (mN M) k) ≤ 8 by omega)
  have e := Nat.mul_le_mul_right (8 ^ (5 - r)) (Nat.le_trans a c)
  rw [Nat.mul_assoc, ← Nat.pow_add, show r + (5 - r) = 5 by omega] at e
  exact e
theorem nI_subZ {a b : Nat} (ha : a < 2 ^ 30) (hb : b < 2 ^ 30) : (nI a - nI b).toInt64 = lZ ((a : Int) - b) := by rw [lZ_of, pk_sub_toInt ha hb]
set_option maxRecDepth 100000 in
set_option maxHeartbeats 4000000 in
theorem ga5 {M : MS} {S : St} {Q : Int64 → St → Prop} (hM : OKM M) (hC : CI S M) {p r i j s : Nat} (hr : r + (i + 1) = mH M) (hj : j < mW M) (hs : s ≤ 4) (hD : ∀ k, k ≤ 2 → DR S M 1 k) (hW : ∀ k r, k ≤ 2 → r ≤ mH M → WR S M k p r) (h : Q (lZ ((sm 3 (gA M p r i j s) : Int) - (sm 3 (gB M p r i j) : Int))) S) : ∀ d m, m + d = 3 → V mdX1_gain 5 [some (.ref 7), some (.int (nI (r * mW M + j))), some (.int (nI s)), some (.long (lZ ((sm m (gA M p r i j s) : Int) - (sm m (gB M p r i j) : Int)))), none, some (.int (nI m)), none, none] [] S (qJ Q) := by
  have w6 := hM.w6
  have h5 := hM.h5
  have n36 := hM.n36
  have er1 := Nat.mul_le_mul_right (mW M) (show r + 1 ≤ mH M by omega)
  have es : (r + 1) * mW M = r * mW M + mW M := Nat.succ_mul _ _
  intro d
  induction d with
  | zero =>
    intro m hm
    have : m = 3 := by omega
    subst this
    apply eX1_gain_5
    exact br_t (nI_le (a := 3) (by omega) (by omega)) h
  | succ d ih =>
    intro m hm
    have eD := hD m (by omega) r j (by omega) hj
    rw [ud1] at eD
    have eD : S.1 (9 + m) (r * mW M + j) = nI (pK M r j (mN M) m * 8 ^ (5 - r)) := eD
    have bD := pK_le hM (r := r) (k := m) hj (by omega)
    have eW := hW m r (by omega) (by omega) j hj
    rw [show mH M - r = i + 1 by omega, show 5 - (i + 1) = 4 - i by omega] at eW
    have hp2 : 8 ^ i * 8 ^ (4 - i) = 4096 := by rw [← Nat.pow_add, show i + (4 - i) = 4 by omega]
    have bw := Nat.mul_le_mul_right (8 ^ (4 - i)) (wu_le (w := mW M) (t := mT M) (k := m) (s := s) (b := bM M m p i) (i := i) hM.t1 (fun c hc => bM_le hM hc) hj)
    rw [Nat.pow_succ, Nat.mul_right_comm, hp2] at bw
    have bb := Nat.mul_le_mul_right (8 ^ (4 - i)) (bM_le hM (k := m) (p := p) (i := i + 1) hj)
    rw [Nat.pow_succ, Nat.mul_right_comm, hp2] at bb
    have nx := ih (m + 1) (by omega)
    rw [show sm (m + 1) (gA M p r i j s) = sm m (gA M p r i j s) + pK M r j (mN M) m * 8 ^ (5 - r) * (wu (mW M) (mT M) m s (bM M m p i) j * 8 ^ (4 - i)) from rfl, show sm (m + 1) (gB M p r i j) = sm m (gB M p r i j) + pK M r j (mN M) m * 8 ^ (5 - r) * (bM M m p (i + 1) j * 8 ^ (4 - i)) from rfl] at nx
    have g36 : vp_in (nI (r * mW M + j)) 36 := pk_in _ 36 (show r * mW M + j < 36 by omega)
    have g3 : vp_in (nI m) 3 := pk_in m 3 (by omega)
    apply eX1_gain_5
    rw [nI_clamp (n := m) (by omega), nI_clamp (n := r * mW M + j) (by omega), nI_1, eD, fa_lit 0, nI_leI (by omega) (by omega)]
    refine br_f (nI_ge (b := 3) (by omega) (by omega)) ⟨g3, g36, fun q => ?_, fun q => ?_⟩
    · rw [show pK M r j (mN M) m * 8 ^ (5 - r) = 0 by omega, Nat.zero_mul, Nat.zero_mul, Nat.add_zero, Nat.add_zero] at nx
      exact nx
    · refine c_worthUnder hM hC (by omega) hr hj hs (hW m (r + 1) (by omega) (by omega)) ⟨g3, g36, g3, g36, ?_⟩
      rw [eD, eW, lZ_nI (by omega), nI_subZ (by omega) (by omega), lZ_mul, lZ_add]
      have e : (sm m (gA M p r i j s) : Int) - (sm m (gB M p r i j) : Int) + ((pK M r j (mN M) m * 8 ^ (5 - r) : Nat) : Int) * (((wu (mW M) (mT M) m s (bM M m p i) j * 8 ^ (4 - i) : Nat) : Int) - ((bM M m p (i + 1) j * 8 ^ (4 - i) : Nat) : Int)) = ((sm m (gA M p r i j s) + pK M r j (mN M) m * 8 ^ (5 - r) * (wu (mW M) (mT M) m s (bM M m p i) j * 8 ^ (4 - i)) : Nat) : Int) - ((sm m (gB M p r i j) + pK M r j (mN M) m * 8 ^ (5 - r) * (bM M m p (i + 1) j * 8 ^ (4 - i)) : Nat) : Int) := by
        rw [Int.mul_sub, Int.natCast_add, Int.natCast_add, Int.natCast_mul (_ * _) (_ * _), Int.natCast_mul (_ * _) (_ * _)]
        omega
      rw [e]
      exact nx
def gG (M : MS) : Nat := 8 ^ (10 - mH M)
set_option maxRecDepth 100000 in
set_option maxHeartbeats 4000000 in
theorem c_gain {M : MS} {S : St} {Q : Int64 → St → Prop} (hM : OKM M) (hC : CI S M) {p n s : Nat} (hn : n < mH M * mW M) (hs : s ≤ 4) (hD : ∀ k, k ≤ 2 → DR S M 1 k) (hW : ∀ k r, k ≤ 2 → r ≤ mH M → WR S M k p r) (h : Q (lZ ((eA (mset M n s) p * gG M : Nat) - (eA M p * gG M : Nat) : Int)) S) : CallV mdX1_gain [.ref 7, .int (nI n), .int (nI s)] S (qJ Q) := by
  have h5 := hM.h5
  have hw0 : 0 < mW M := by
    rcases Nat.eq_zero_or_pos (mW M) with z | z
    · rw [z, Nat.mul_zero] at hn
      omega
    · exact z
  obtain ⟨r, j, hj, hx⟩ := rw_div (x := n) hw0
  subst hx
  have hr := rw_row (h := mH M) (r := r) hj hn
  have hri : r + (mH M - r - 1 + 1) = mH M := by omega
  have key := eA_gain hM (p := p) (s := s) hri hj
  have eG : gG M = 8 ^ (5 - r) * 8 ^ (4 - (mH M - r - 1)) := by
    unfold gG
    rw [← Nat.pow_add]
    congr 1
    omega
  apply eX1_gain
  have := ga5 (Q := Q) hM hC hri hj hs hD hW ?_ 3 0 (by omega)
  · exact this
  have eAA : sm 3 (gA M p r (mH M - r - 1) j s) = sm 3 (fun k => pK M r j (mN M) k * wu (mW M) (mT M) k s (bM M k p (mH M - r - 1)) j) * gG M := by
    rw [← sm_mul]
    refine sm_cong (fun k _ => ?_)
    unfold gA
    rw [eG, Nat.mul_mul_mul_comm]
  have eBB : sm 3 (gB M p r (mH M - r - 1) j) = sm 3 (fun k => pK M r j (mN M) k * bM M k p (mH M - r - 1 + 1) j) * gG M := by
    rw [← sm_mul]
    refine sm_cong (fun k _ => ?_)
    unfold gB
    rw [eG, Nat.mul_mul_mul_comm]
  have key2 := congrArg (· * gG M) key
  rw [Nat.add_mul, Nat.add_mul] at key2
  rw [eAA, eBB, show ((sm 3 (fun k => pK M r j (mN M) k * wu (mW M) (mT M) k s (bM M k p (mH M - r - 1)) j) * gG M : Nat) : Int) - ((sm 3 (fun k => pK M r j (mN M) k * bM M k p (mH M - r - 1 + 1) j) * gG M : Nat) : Int) = (eA (mset M (r * mW M + j) s) p * gG M : Nat) - (eA M p * gG M : Nat) by omega]
  exact h
/-- the best so far, over the signs of a cell, over the cells -/
def mvS (e : Nat → Nat → Nat) (c s : Nat) (st : Nat × Int32) : Nat × Int32 := if e c s ≤ st.1 then st else (e c s, nI (10 * c + s))
def mvI (e : Nat → Nat → Nat) (c : Nat) : Nat → Nat × Int32 → Nat × Int32
  | 0, st => st
  | s + 1, st => mvS e c s (mvI e c s st)
def mvO (e : Nat → Nat → Nat) (st : Nat × Int32) : Nat → Nat × Int32
  | 0 => st
  | c + 1 => mvI e c 5 (mvO e st c)
theorem mvI_le {e : Nat → Nat → Nat} {B : Nat} (he : ∀ c s, s ≤ 4 → e c s ≤ B) {c : Nat} {st : Nat × Int32} (h : st.1 ≤ B) : ∀ s, s ≤ 5 → (mvI e c s st).1 ≤ B
  | 0, _ => h
  | s + 1, hs => by
    show (mvS e c s (mvI e c s st)).1 ≤ B
    unfold mvS
    split
    · exact mvI_le he h s (by omega)
    · exact he c s (by omega)
theorem mvO_le {e : Nat → Nat → Nat} {B : Nat} (he : ∀ c s, s ≤ 4 → e c s ≤ B) {st : Nat × Int32} (h : st.1 ≤ B) : ∀ n, (mvO e st n).1 ≤ B
  | 0 => h
  | n + 1 => mvI_le he (mvO_le he h n) 5 (Nat.le_refl _)
def mvG (n : Nat) (x : Int32) : Prop := x = -9 ∨ ∃ c s, c < n ∧ s ≤ 4 ∧ x = nI (10 * c + s)
theorem mvI_g {e : Nat → Nat → Nat} {c n : Nat} {st : Nat × Int32} (hc : c < n) (h : mvG n st.2) : ∀ s, s ≤ 5 → mvG n (mvI e c s st).2
  | 0, _ => h
  | s + 1, hs => by
    show mvG n (mvS e c s (mvI e c s st)).2
    unfold mvS
    split
    · exact mvI_g hc h s (by omega)
    · exact Or.inr ⟨c, s, hc, by omega, rfl⟩
theorem mvO_g {e : Nat → Nat → Nat} {n : Nat} {st : Nat × Int32} (h : mvG n st.2) : ∀ i, i ≤ n → mvG n (mvO e st i).2
  | 0, _ => h
  | i + 1, hi => mvI_g (by omega) (mvO_g h i (by omega)) 5 (Nat.le_refl _)
def eMv (M : MS) (p : Nat) : Nat → Nat → Nat := fun c s => eA (mset M c s) p
def mv (M : MS) (p : Nat) : Int32 := (mvO (eMv M p) (eA M p, -9) (mH M * mW M)).2
theorem mv_g {M : MS} {p : Nat} : mvG (mH M * mW M) (mv M p) := mvO_g (Or.inl rfl) _ (Nat.le_refl _)
theorem eMv_le {M : MS} (hM : OKM M) {p : Nat} : ∀ c s, s ≤ 4 → eMv M p c s * gG M ≤ 2 ^ 34 := by
  intro c s hs
  have h5 := hM.h5
  have a : eA (mset M c s) p * 8 ^ (5 - mH M) ≤ 262144 := eA_le (mset_ok hM hs) (p := p)
  have b := Nat.mul_le_mul_right (8 ^ 5) a
  rw [Nat.mul_assoc, ← Nat.pow_add, show 5 - mH M + 5 = 10 - mH M by omega] at b
  unfold eMv gG
  omega
theorem eA_leG {M : MS} (hM : OKM M) {p : Nat} : eA M p * gG M ≤ 2 ^ 34 := by
  have h5 := hM.h5
  have a : eA M p * 8 ^ (5 - mH M) ≤ 262144 := eA_le hM (p := p)
  have b := Nat.mul_le_mul_right (8 ^ 5) a
  rw [Nat.mul_assoc, ← Nat.pow_add, show 5 - mH M + 5 = 10 - mH M by omega] at b
  unfold gG
  omega
theorem bm_cmp {a b c G : Nat} (hG : 0 < G) (ha : a * G ≤ 2 ^ 34) (hb : b * G ≤ 2 ^ 34) (hc : c * G ≤ 2 ^ 34) : (lZ ((a * G : Nat) - (c * G : Nat) : Int) ≤ lZ ((b * G : Nat) - (c * G : Nat) : Int)) ↔ a ≤ b := by
  rw [fa_le64, lZ_toInt (by omega) (by omega), lZ_toInt (by omega) (by omega)]
  constructor
  · intro q
    exact Nat.le_of_mul_le_mul_right (show a * G ≤ b * G by omega) hG
  · intro q
    have := Nat.mul_le_mul_right G q
    omega
theorem mvI_leG {M : MS} {p : Nat} (hM : OKM M) {c : Nat} {st : Nat × Int32} (h : st.1 * gG M ≤ 2 ^ 34) : ∀ s, s ≤ 5 → (mvI (eMv M p) c s st).1 * gG M ≤ 2 ^ 34
  | 0, _ => h
  | s + 1, hs => by
    show (mvS (eMv M p) c s (mvI (eMv M p) c s st)).1 * gG M ≤ 2 ^ 34
    unfold mvS
    split
    · exact mvI_leG hM h s (by omega)
    · exact eMv_le hM c s (by omega)
set_option maxRecDepth 100000 in
set_option maxHeartbeats 4000000 in
theorem bm34 {M : MS} {S : St} {Q : Int32 → St → Prop} (hM : OKM M) (hC : CI S M) {p c : Nat} (hc : c < mH M * mW M) (hD : ∀ k, k ≤ 2 → DR S M 1 k) (hW : ∀ k r, k ≤ 2 → r ≤ mH M → WR S M k p r) {st : Nat × Int32} (hst : st.1 * gG M ≤ 2 ^ 34) (h : V mdX1_bestMove 19 [some (.ref 7), none, some (.long (lZ (((mvI (eMv M p) c 5 st).1 * gG M : Nat) - (eA M p * gG M : Nat) : Int))), none, some (.int (mvI (eMv M p) c 5 st).2), some (.int (nI (c + 1))), none, none, none] [] S (qI Q)) : ∀ d s, s + d = 5 → V mdX1_bestMove 34 [some (.ref 7), none, some (.long (lZ (((mvI (eMv M p) c s st).1 * gG M : Nat) - (eA M p * gG M : Nat) : Int))), none, some (.int (mvI (eMv M p) c s st).2), some (.int (nI c)), some (.int (nI s)), none, none] [] S (qI Q) := by
  have n30 := hM.n30
  have hG : 0 < gG M := Nat.pow_pos (by decide)
  intro d
  induction d with
  | zero =>
    intro s hs
    have : s = 5 := by omega
    subst this
    apply eX1_bestMove_34
    rw [nI_1]
    exact br_t (nI_le (a := 5) (by omega) (by omega)) h
  | succ d ih =>
    intro s hs
    have nx := ih (s + 1) (by omega)
    rw [show mvI (eMv M p) c (s + 1) st = (if eMv M p c s ≤ (mvI (eMv M p) c s st).1 then mvI (eMv M p) c s st else (eMv M p c s, nI (10 * c + s))) from rfl] at nx
    apply eX1_bestMove_34
    rw [nI_1 s, fa_lit 10, pk_mul, nI_add]
    refine br_f (nI_ge (b := 5) (by omega) (by omega)) (c_gain hM hC hc (by omega) hD hW ?_)
    rw [show eA (mset M c s) p = eMv M p c s from rfl, bm_cmp hG (eMv_le hM (p := p) c s (by omega)) (mvI_leG hM hst s (by omega)) (eA_leG hM)]
    refine ⟨fun q => ?_, fun q => ?_⟩
    · rw [if_pos q] at nx
      exact nx
    · rw [if_neg q] at nx
      exact nx
theorem mvO_leG {M : MS} {p : Nat} (hM : OKM M) {st : Nat × Int32} (h : st.1 * gG M ≤ 2 ^ 34) : ∀ n, (mvO (eMv M p) st n).1 * gG M ≤ 2 ^ 34
  | 0 => h
  | n + 1 => mvI_leG hM (mvO_leG hM h n) 5 (Nat.le_refl _)
set_option maxRecDepth 100000 in
set_option maxHeartbeats 4000000 in
theorem bm19 {M : MS} {S : St} {Q : Int32 → St → Prop} (hM : OKM M) (hC : CI S M) {p : Nat} (hD : ∀ k, k ≤ 2 → DR S M 1 k) (hW : ∀ k r, k ≤ 2 → r ≤ mH M → WR S M k p r) (h : Q (mv M p) S) : ∀ d c, c + d = mH M * mW M → V mdX1_bestMove 19 [some (.ref 7), none, some (.long (lZ (((mvO (eMv M p) (eA M p, -9) c).1 * gG M : Nat) - (eA M p * gG M : Nat) : Int))), none, some (.int (mvO (eMv M p) (eA M p, -9) c).2), some (.int (nI c)), none, none, none] [] S (qI Q) := by
  have n30 := hM.n30
  intro d
  induction d with
  | zero =>
    intro c hc
    have : c = mH M * mW M := by omega
    subst this
    apply eX1_bestMove_19
    rw [hC.N]
    exact br_t (nI_le (Nat.le_refl _) (by omega)) h
  | succ d ih =>
    intro c hc
    apply eX1_bestMove_19
    rw [hC.N]
    exact br_f (nI_ge (by omega) (by omega)) (bm34 hM hC (by omega) hD hW (mvO_leG hM (eA_leG hM) c) (ih (c + 1) (by omega)) 5 0 (by omega))
set_option maxRecDepth 100000 in
set_option maxHeartbeats 4000000 in
theorem c_bestMove {M : MS} {S : St} {Q : Int32 → St → Prop} (hM : OKM M) (hC : CI S M) (hw : 0 < mW M) {p : Nat} (hp : p ≤ 3) (h : ∀ S', FrR 9 16 S S' → Q (mv M p) S') : CallV mdX1_bestMove [.ref 7, .int (nI p)] S (qI Q) := by
  apply eX1_bestMove
  refine c_dropAll (hold := 1) hM hC hw (by omega) (fun S1 f1 e1 => ?_)
  have hC1 := hC.fr f1 (by omega)
  refine c_appraiseAll hM hC1 hw hp (fun S2 f2 e2 => ?_)
  have := bm19 (Q := Q) (p := p) hM (hC1.fr f2 (by omega)) (fun k hk r c hr hc => ?_) e2 (h S2 ((f1.mono (by omega) (by omega)).tr (f2.mono (by omega) (by omega)))) (mH M * mW M) 0 (by omega)
  · rw [show (mvO (eMv M p) (eA M p, -9) 0) = (eA M p, -9) from rfl, Int.sub_self] at this
    exact this
  · rw [f2.at (by omega)]
    exact e1 k hk r c hr hc
