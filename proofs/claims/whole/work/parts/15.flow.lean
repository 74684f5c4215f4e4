/-! ===== what a method leaves: only places a .. b - 1 are written ===== -/
def FrR (a b : Nat) (S S' : St) : Prop := S'.2 = S.2 ∧ ∀ q, q < a ∨ b ≤ q → S'.1 q = S.1 q
theorem FrR.rfl {a b : Nat} {S : St} : FrR a b S S := ⟨Eq.refl _, fun _ _ => Eq.refl _⟩
theorem FrR.tr {a b : Nat} {S T U : St} (h : FrR a b S T) (g : FrR a b T U) : FrR a b S U := ⟨g.1.trans h.1, fun q hq => (g.2 q hq).trans (h.2 q hq)⟩
theorem FrR.mono {a b a' b' : Nat} {S T : St} (h : FrR a b S T) (h1 : a' ≤ a) (h2 : b ≤ b') : FrR a' b' S T := ⟨h.1, fun q hq => h.2 q (by omega)⟩
theorem FrR.put {a b p k : Nat} {S : St} {v : Int32} (h1 : a ≤ p) (h2 : p < b) : FrR a b S (sI S p k v) := ⟨Eq.refl _, fun q hq => funext fun j => sI_o (Or.inl (by omega))⟩
theorem FrR.fill {a b p : Nat} {S : St} {f : Nat → Int32} (h1 : a ≤ p) (h2 : p < b) : FrR a b S (sF S p f) := ⟨Eq.refl _, fun q hq => funext fun j => sF_o (by omega)⟩
theorem FrR.at {a b q k : Nat} {S T : St} (h : FrR a b S T) (hq : q < a ∨ b ≤ q) : T.1 q k = S.1 q k := by rw [h.2 q hq]
theorem CI.fr {a b : Nat} {S T : St} {M : MS} (h : CI S M) (f : FrR a b S T) (ha : 7 ≤ a) : CI T M := h.pw (fun p i _ _ => by rw [f.2 p (by omega)])
theorem MI.fr {a b : Nat} {S T : St} {M : MS} (h : MI S M) (f : FrR a b S T) (hb : b ≤ 34) : MI T M := h.pw (fun i _ => by rw [f.2 34 (by omega)]) (fun p i hp => by rw [f.2 p (by omega)])
theorem INV.fr {a b : Nat} {S T : St} (h : INV S) (f : FrR a b S T) (ha : 7 ≤ a) (hb : b ≤ 26) : INV T := by
  refine h.eq ?_ ?_
  · unfold EqC
    simp only [f.2 0 (by omega), f.2 1 (by omega), f.2 2 (by omega), f.2 3 (by omega), f.2 4 (by omega), f.2 5 (by omega), f.2 6 (by omega), f.2 26 (by omega), f.2 27 (by omega), f.2 28 (by omega), f.2 29 (by omega), f.2 30 (by omega), f.2 31 (by omega), f.2 32 (by omega), f.2 33 (by omega), and_self]
  · unfold EqM
    simp only [f.2 34 (by omega), f.2 35 (by omega), f.2 36 (by omega), f.2 39 (by omega), f.2 40 (by omega), f.2 47 (by omega), f.2 48 (by omega), f.2 49 (by omega), and_self]
theorem OKM.hp {M : MS} (h : OKM M) (hw : 0 < mW M) : 1 ≤ mH M ∧ 2 ≤ mW M := by rcases h.1 with h | h <;> omega
theorem OKM.n36 {M : MS} (h : OKM M) : mH M * mW M + mW M ≤ 36 := by
  have := Nat.mul_le_mul (show mH M + 1 ≤ 6 by have := h.h5; omega) h.w6
  rw [Nat.succ_mul] at this
  exact this
/-! ===== the class: from a cell to the next ones ===== -/
set_option maxRecDepth 100000 in
set_option maxHeartbeats 4000000 in
theorem c_belowLeft {M : MS} (hM : OKM M) {S : St} (hC : CI S M) {r j : Nat} (hr : r < mH M) (hj : j < mW M) {Q : Int32 → St → Prop} (h : Q (nI ((r + 1) * mW M + cl j)) S) : CallV mdX2_belowLeft [.ref 1, .int (nI (r * mW M + j))] S (qI Q) := by
  have w6 := hM.w6
  have n36 := hM.n36
  have hc := rw_lt hr hj
  have e : (r + 1) * mW M = r * mW M + mW M := Nat.succ_mul _ _
  have tw := nI_toInt (n := mW M) (by omega)
  apply eX2_belowLeft
  rw [hC.w, pk_rem (by omega) (by omega) (by omega), rw_mod hj, nI_add]
  have tj := nI_toInt (n := j) (by omega)
  unfold cl at h
  refine br_f (by (try simp only [fa_lt, fa_le, fa_eq, fa_lt64, fa_le64, fa_eq64, Int32.toInt_toInt64, lsub1, Int32.reduceToInt, Int64.reduceToInt, Int32.toInt_zero, Int64.toInt_zero, ti_m1, ti_m2, ti_m3, ti_m4, ti_m9] at *) <;> omega) ⟨(by (try simp only [fa_lt, fa_le, fa_eq, fa_lt64, fa_le64, fa_eq64, Int32.toInt_toInt64, lsub1, Int32.reduceToInt, Int64.reduceToInt, Int32.toInt_zero, Int64.toInt_zero, ti_m1, ti_m2, ti_m3, ti_m4, ti_m9] at *) <;> omega), ⟨fun q => ?_, fun q => ?_⟩⟩
  · rw [if_neg (by (try simp only [fa_lt, fa_le, fa_eq, fa_lt64, fa_le64, fa_eq64, Int32.toInt_toInt64, lsub1, Int32.reduceToInt, Int64.reduceToInt, Int32.toInt_zero, Int64.toInt_zero, ti_m1, ti_m2, ti_m3, ti_m4, ti_m9] at *) <;> omega), e] at h
    rw [show r * mW M + j + mW M = r * mW M + mW M + j by omega]
    exact h
  · have hj0 : 0 < j := (by (try simp only [fa_lt, fa_le, fa_eq, fa_lt64, fa_le64, fa_eq64, Int32.toInt_toInt64, lsub1, Int32.reduceToInt, Int64.reduceToInt, Int32.toInt_zero, Int64.toInt_zero, ti_m1, ti_m2, ti_m3, ti_m4, ti_m9] at *) <;> omega)
    rw [if_pos hj0, e] at h
    rw [fa_lit 1, pk_sub (by omega), show r * mW M + j + mW M - 1 = r * mW M + mW M + (j - 1) by omega]
    exact h
set_option maxRecDepth 100000 in
set_option maxHeartbeats 4000000 in
theorem c_belowRight {M : MS} (hM : OKM M) {S : St} (hC : CI S M) {r j : Nat} (hr : r < mH M) (hj : j < mW M) {Q : Int32 → St → Prop} (h : Q (nI ((r + 1) * mW M + cr (mW M) j)) S) : CallV mdX2_belowRight [.ref 1, .int (nI (r * mW M + j))] S (qI Q) := by
  have w6 := hM.w6
  have n36 := hM.n36
  have hc := rw_lt hr hj
  have e : (r + 1) * mW M = r * mW M + mW M := Nat.succ_mul _ _
  have tw := nI_toInt (n := mW M) (by omega)
  have tw1 := nI_toInt (n := mW M - 1) (by omega)
  apply eX2_belowRight
  rw [hC.w, pk_rem (by omega) (by omega) (by omega), rw_mod hj, nI_add, fa_lit 1, pk_sub (show 1 ≤ mW M by omega), nI_add]
  have tj := nI_toInt (n := j) (by omega)
  unfold cr at h
  refine br_f (by (try simp only [fa_lt, fa_le, fa_eq, fa_lt64, fa_le64, fa_eq64, Int32.toInt_toInt64, lsub1, Int32.reduceToInt, Int64.reduceToInt, Int32.toInt_zero, Int64.toInt_zero, ti_m1, ti_m2, ti_m3, ti_m4, ti_m9] at *) <;> omega) ⟨(by (try simp only [fa_lt, fa_le, fa_eq, fa_lt64, fa_le64, fa_eq64, Int32.toInt_toInt64, lsub1, Int32.reduceToInt, Int64.reduceToInt, Int32.toInt_zero, Int64.toInt_zero, ti_m1, ti_m2, ti_m3, ti_m4, ti_m9] at *) <;> omega), ⟨fun q => ?_, fun q => ?_⟩⟩
  · rw [if_neg (by (try simp only [fa_lt, fa_le, fa_eq, fa_lt64, fa_le64, fa_eq64, Int32.toInt_toInt64, lsub1, Int32.reduceToInt, Int64.reduceToInt, Int32.toInt_zero, Int64.toInt_zero, ti_m1, ti_m2, ti_m3, ti_m4, ti_m9] at *) <;> omega), e] at h
    rw [show r * mW M + j + mW M = r * mW M + mW M + j by omega]
    exact h
  · rw [if_pos (by (try simp only [fa_lt, fa_le, fa_eq, fa_lt64, fa_le64, fa_eq64, Int32.toInt_toInt64, lsub1, Int32.reduceToInt, Int64.reduceToInt, Int32.toInt_zero, Int64.toInt_zero, ti_m1, ti_m2, ti_m3, ti_m4, ti_m9] at *) <;> omega), e] at h
    rw [show r * mW M + j + mW M + 1 = r * mW M + mW M + (j + 1) by omega]
    exact h
theorem ite_iff {p q : Prop} [Decidable p] [Decidable q] {x y : Nat} (h : p ↔ q) : (if p then x else y) = if q then x else y := by
  by_cases hp : p
  · rw [if_pos hp, if_pos (h.mp hp)]
  · rw [if_neg hp, if_neg (fun z => hp (h.mpr z))]
/-! ===== weights run down ===== -/
def ud (hold : Nat) (sg : Nat → Nat) : Nat → Nat := fun c => if hold = 0 ∧ sg c = 4 then 0 else sg c
/-- the weights when the cells of r rows and j more have sent theirs on -/
def RI (h w t k : Nat) (sg d : Nat → Nat) (r j : Nat) (X : Nat → Nat) : Prop :=
  (∀ r' c, r' ≤ r → c < w → X (r' * w + c) = fw w t k sg d r' c * 8 ^ (5 - r')) ∧ (r < h → ∀ c, c < w → X ((r + 1) * w + c) = sm j (fun i => fw w t k sg d r i * tw w t k (sg (r * w + i)) i c) * 8 ^ (4 - r)) ∧ (∀ r' c, r + 2 ≤ r' → r' ≤ h → c < w → X (r' * w + c) = 0)
theorem RI.next {h w t k r : Nat} {sg d X : Nat → Nat} (hX : RI h w t k sg d r w X) (hr : r < h) : RI h w t k sg d (r + 1) 0 X := by
  obtain ⟨h1, h2, h3⟩ := hX
  refine ⟨fun r' c hr' hc => ?_, fun hh c hc => ?_, fun r' c a b hc => h3 r' c (by omega) b hc⟩
  · by_cases e : r' = r + 1
    · subst e
      rw [h2 hr c hc, show 5 - (r + 1) = 4 - r by omega]
      rfl
    · exact h1 r' c (by omega) hc
  · rw [h3 (r + 1 + 1) c (by omega) (by omega) hc]
    simp [sm]
theorem RI.same {h w t k r j : Nat} {sg d X : Nat → Nat} (hX : RI h w t k sg d r j X) (hz : ∀ c, c < w → fw w t k sg d r j * tw w t k (sg (r * w + j)) j c = 0) : RI h w t k sg d r (j + 1) X := by
  obtain ⟨h1, h2, h3⟩ := hX
  refine ⟨h1, fun hh c hc => ?_, h3⟩
  rw [h2 hh c hc]
  show _ = (_ + fw w t k sg d r j * tw w t k (sg (r * w + j)) j c) * _
  rw [hz c hc, Nat.add_zero]
theorem RI.step {h w t k r j s A : Nat} {sg d X : Nat → Nat} (ht : t ≤ 1) (h5 : h ≤ 5) (hr : r < h) (hj : j < w) (hX : RI h w t k sg d r j X) (hA : A = X (r * w + j)) (hs : sg (r * w + j) ≠ 4) (hL : pL t k s = pL t k (sg (r * w + j))) (hR : pR t k s = pR t k (sg (r * w + j))) :
    RI h w t k sg d r (j + 1) (fun x => X x + (if (r + 1) * w + cl j = x then A / 8 * pL t k s else 0) + (if (r + 1) * w + cr w j = x then A / 8 * pR t k s else 0) + (if r * w + j + w = x then A - A / 8 * pL t k s - A / 8 * pR t k s else 0)) := by
  obtain ⟨h1, h2, h3⟩ := hX
  have e : (r + 1) * w = r * w + w := Nat.succ_mul _ _
  have hA2 : A = fw w t k sg d r j * 8 ^ (4 - r) * 8 := by
    rw [hA, h1 r j (Nat.le_refl _) hj, show 5 - r = (4 - r) + 1 by omega, Nat.pow_succ, Nat.mul_assoc]
  generalize hF : fw w t k sg d r j * 8 ^ (4 - r) = F at hA2
  have hA8 : A / 8 = F := by omega
  have hc1 := cl_lt hj
  have hc2 := cr_lt hj
  have far : ∀ r' c, c < w → r' ≠ r + 1 → ¬ ((r + 1) * w + cl j = r' * w + c) ∧ ¬ ((r + 1) * w + cr w j = r' * w + c) ∧ ¬ (r * w + j + w = r' * w + c) := fun r' c hc hn => ⟨fun q => hn (rw_inj hc1 hc q).1.symm, fun q => hn (rw_inj hc2 hc q).1.symm, fun q => hn (rw_inj hj hc (show (r + 1) * w + j = r' * w + c by omega)).1.symm⟩
  refine ⟨fun r' c hr' hc => ?_, fun hh c hc => ?_, fun r' c a b hc => ?_⟩
  · obtain ⟨g1, g2, g3⟩ := far r' c hc (by omega)
    show X (r' * w + c) + _ + _ + _ = _
    rw [if_neg g1, if_neg g2, if_neg g3, h1 r' c hr' hc]
    omega
  · show X ((r + 1) * w + c) + _ + _ + _ = (sm j (fun i => fw w t k sg d r i * tw w t k (sg (r * w + i)) i c) + fw w t k sg d r j * tw w t k (sg (r * w + j)) j c) * _
    rw [h2 hr c hc]
    have q1 : ((r + 1) * w + cl j = (r + 1) * w + c) ↔ cl j = c := by omega
    have q2 : ((r + 1) * w + cr w j = (r + 1) * w + c) ↔ cr w j = c := by omega
    have q3 : (r * w + j + w = (r + 1) * w + c) ↔ j = c := by omega
    rw [ite_iff q1, ite_iff q2, ite_iff q3, Nat.add_mul]
    have hM := pLMR (t := t) (k := k) (s := sg (r * w + j)) ht
    unfold tw
    rw [if_neg hs, hL, hR, hA8]
    generalize hl : pL t k (sg (r * w + j)) = l at *
    generalize hrr : pR t k (sg (r * w + j)) = rr at *
    generalize hmm : pM t k (sg (r * w + j)) = mm at *
    have hsplit : A - F * l - F * rr = F * mm := by
      have : F * l + F * rr + F * mm = A := by
        rw [← Nat.mul_add, ← Nat.mul_add, hM, hA2]
      omega
    rw [hsplit]
    have e2 : fw w t k sg d r j * ((if cl j = c then l else 0) + (if cr w j = c then rr else 0) + (if j = c then mm else 0)) * 8 ^ (4 - r) = F * ((if cl j = c then l else 0) + (if cr w j = c then rr else 0) + (if j = c then mm else 0)) := by
      rw [← hF, Nat.mul_right_comm]
    rw [e2, Nat.mul_add, Nat.mul_add, mul_ite0, mul_ite0, mul_ite0]
    simp only [Nat.mul_comm _ F]
    omega
  · obtain ⟨g1, g2, g3⟩ := far r' c hc (by omega)
    show X (r' * w + c) + _ + _ + _ = _
    rw [if_neg g1, if_neg g2, if_neg g3, h3 r' c a b hc]
theorem accI {S : St} {p N g v : Nat} {X : Nat → Nat} {x : Int32} (hX : ∀ i, i < N → S.1 p i = nI (X i)) (hx : x = nI (X g + v)) : ∀ i, i < N → (sI S p g x).1 p i = nI (X i + if g = i then v else 0) := by
  intro i hi
  by_cases h : g = i
  · subst h
    rw [sI_h ⟨rfl, rfl⟩, if_pos rfl, hx]
  · rw [sI_o (Or.inr (Ne.symm h)), if_neg h, hX i hi]
    rfl
theorem isPa_k {k : Nat} (hk : k ≤ 2) : isPa (9 + k) := by unfold isPa; omega
theorem isWo_k {k : Nat} (hk : k ≤ 2) : isWo (13 + k) := by unfold isWo; omega
set_option maxRecDepth 100000 in
set_option maxHeartbeats 4000000 in
theorem rd10 {M : MS} {S0 : St} {Q : St → Prop} (hM : OKM M) (hC0 : CI S0 M) {k hold : Nat} {d : Nat → Nat} (hk : k ≤ 2) (hh : hold ≤ 1) (hD : sm (mW M) d ≤ 8) (h : ∀ S', FrR (9 + k) (10 + k) S0 S' → (∀ r c, r ≤ mH M → c < mW M → S'.1 (9 + k) (r * mW M + c) = nI (fw (mW M) (mT M) k (ud hold (mS M)) d r c * 8 ^ (5 - r))) → Q S') :
    ∀ n r j, r * mW M + j + n = mH M * mW M → j < mW M → r < mH M → ∀ S X, FrR (9 + k) (10 + k) S0 S → (∀ x, x < 36 → S.1 (9 + k) x = nI (X x)) → RI (mH M) (mW M) (mT M) k (ud hold (mS M)) d r j X → V mdX1_runDown 10 [some (.ref 7), some (.int (nI k)), some (.int (nI hold)), some (.ref (9 + k)), some (.int (nI (r * mW M + j))), none, none, none] [] S (qV Q) := by
  have w6 := hM.w6
  have h5 := hM.h5
  have n30 := hM.n30
  have n36 := hM.n36
  intro n
  induction n with
  | zero =>
    intro r j e hj hr
    have := rw_lt hr hj
    omega
  | succ n ih =>
    intro r j e hj hr S X f hX hR
    have hC := hC0.fr f (by omega)
    have hcell := rw_lt hr hj
    have hs4 := hM.s4 hcell
    have es : (r + 1) * mW M = r * mW M + mW M := Nat.succ_mul _ _
    have cont : ∀ T Y, FrR (9 + k) (10 + k) S0 T → (∀ x, x < 36 → T.1 (9 + k) x = nI (Y x)) → RI (mH M) (mW M) (mT M) k (ud hold (mS M)) d r (j + 1) Y → V mdX1_runDown 10 [some (.ref 7), some (.int (nI k)), some (.int (nI hold)), some (.ref (9 + k)), some (.int (nI (r * mW M + j + 1))), none, none, none] [] T (qV Q) := by
      intro T Y g hY hY2
      by_cases hj1 : j + 1 < mW M
      · exact ih r (j + 1) (by omega) hj1 hr T Y g hY hY2
      · have hjw : j + 1 = mW M := by omega
        rw [hjw] at hY2
        by_cases hr1 : r + 1 < mH M
        · have := ih (r + 1) 0 (by omega) (by omega) hr1 T Y g hY (hY2.next hr)
          rw [show r * mW M + j + 1 = (r + 1) * mW M + 0 by omega]
          exact this
        · have hrh : r + 1 = mH M := by omega
          have hY3 := hY2.next hr
          apply eX1_runDown_10 _ _ (isPa_k hk)
          rw [(hC0.fr g (by omega)).N]
          refine br_t (nI_le (by rw [← hrh]; omega) (by omega)) (h T g (fun r' c hr' hc => ?_))
          have : r' * mW M + c < 36 := by
            have := Nat.mul_le_mul_right (mW M) hr'
            omega
          rw [hY _ this, hY3.1 r' c (by omega) hc]
    have hA0 := hR.1 r j (Nat.le_refl _) hj
    have hfw := fw_le (w := mW M) (t := mT M) (k := k) (sg := ud hold (mS M)) (d := d) hM.t1 r hj
    have hAb : X (r * mW M + j) ≤ 262144 := by
      rw [hA0]
      have a1 := Nat.mul_le_mul_right (8 ^ (5 - r)) (Nat.le_trans hfw (Nat.mul_le_mul_right (8 ^ r) hD))
      rw [Nat.mul_assoc, ← Nat.pow_add, show r + (5 - r) = 5 by omega] at a1
      omega
    apply eX1_runDown_10 _ _ (isPa_k hk)
    rw [hC.N, nI_clamp (n := r * mW M + j) (by omega), hX _ (show r * mW M + j < 36 by omega), hC.sg hcell, nI_1]
    have g36 : vp_in (nI (r * mW M + j)) 36 := pk_in _ 36 (show r * mW M + j < 36 by omega)
    refine br_f (nI_ge hcell (by omega)) ⟨pk_in (r * mW M + j) 30 (by omega), g36, ⟨fun q => ?_, fun q => ⟨fun n4 => ?_, fun s4 => ⟨fun hz => ?_, fun hz => ?_⟩⟩⟩⟩
    · have hA : X (r * mW M + j) = 0 := by
        rw [fa_lit 0, nI_eq (by omega) (by omega)] at q
        exact q
      refine cont S X f hX (hR.same (fun c hc => ?_))
      rw [hA] at hA0
      have : fw (mW M) (mT M) k (ud hold (mS M)) d r j = 0 := by
        rcases Nat.mul_eq_zero.mp hA0.symm with z | z
        · exact z
        · exact absurd z (Nat.pos_iff_ne_zero.mp (Nat.pow_pos (by decide)))
      rw [this, Nat.zero_mul]
    · have n4' : mS M (r * mW M + j) ≠ 4 := fun z => n4 (by rw [z]; rfl)
      have hu : ud hold (mS M) (r * mW M + j) = mS M (r * mW M + j) := if_neg (fun z => n4' z.2)
      have hs : ud hold (mS M) (r * mW M + j) ≠ 4 := by rw [hu]; exact n4'
      have hL : pL (mT M) k (mS M (r * mW M + j)) = pL (mT M) k (ud hold (mS M) (r * mW M + j)) := by rw [hu]
      have hR2 : pR (mT M) k (mS M (r * mW M + j)) = pR (mT M) k (ud hold (mS M) (r * mW M + j)) := by rw [hu]
      have hcl := cl_lt hj
      have er1 := Nat.mul_le_mul_right (mW M) (show r + 1 ≤ mH M by omega)
      have hXc := hX (r * mW M + j) (by omega)
      have hcr := cr_lt hj
      have hblt : (r + 1) * mW M + cl j < 36 := by omega
      have hbrt : (r + 1) * mW M + cr (mW M) j < 36 := by omega
      refine ⟨g36, c_partsLeft (t := mT M) hM.t1 hk (by omega) hC.t ⟨g36, c_partsRight (t := mT M) hM.t1 hk (by omega) hC.t (c_belowLeft hM hC hr hj ⟨vp_in_nI hblt (by omega), vp_in_nI hblt (by omega), ?_⟩)⟩⟩
      simp only [hXc]
      have hst := RI.step hM.t1 h5 hr hj hR rfl hs hL hR2
      have hLR := pLR (t := mT M) (k := k) (s := mS M (r * mW M + j)) hM.t1
      generalize hLg : pL (mT M) k (mS M (r * mW M + j)) = L at hst hLR ⊢
      generalize hRg : pR (mT M) k (mS M (r * mW M + j)) = R at hst hLR ⊢
      generalize hAg : X (r * mW M + j) = A at hst hAb ⊢
      have eL : nI A / 8 * nI L = nI (A / 8 * L) := by rw [fa_lit 8, pk_div (by omega) (by omega) (by omega), pk_mul]
      have eR : nI A / 8 * nI R = nI (A / 8 * R) := by rw [fa_lit 8, pk_div (by omega) (by omega) (by omega), pk_mul]
      have hsum : A / 8 * L + A / 8 * R ≤ A := by
        rw [← Nat.mul_add]
        exact Nat.le_trans (Nat.mul_le_mul_left _ hLR) (by omega)
      rw [nI_clamp (n := (r + 1) * mW M + cl j) (by omega), eL, eR]
      have x1 := accI (g := (r + 1) * mW M + cl j) (v := A / 8 * L) (x := S.1 (9 + k) ((r + 1) * mW M + cl j) + nI (A / 8 * L)) hX (by rw [hX _ hblt, nI_add])
      have f1 : FrR (9 + k) (10 + k) S0 (sI S (9 + k) ((r + 1) * mW M + cl j) (S.1 (9 + k) ((r + 1) * mW M + cl j) + nI (A / 8 * L))) := f.tr (FrR.put (by omega) (by omega))
      generalize sI S (9 + k) ((r + 1) * mW M + cl j) (S.1 (9 + k) ((r + 1) * mW M + cl j) + nI (A / 8 * L)) = T1 at x1 f1 ⊢
      have hC1 := hC0.fr f1 (by omega)
      refine c_belowRight hM hC1 hr hj ⟨vp_in_nI hbrt (by omega), vp_in_nI hbrt (by omega), ?_⟩
      rw [nI_clamp (n := (r + 1) * mW M + cr (mW M) j) (by omega)]
      have x2 := accI (g := (r + 1) * mW M + cr (mW M) j) (v := A / 8 * R) (x := T1.1 (9 + k) ((r + 1) * mW M + cr (mW M) j) + nI (A / 8 * R)) x1 (by rw [x1 _ hbrt, nI_add])
      have f2 : FrR (9 + k) (10 + k) S0 (sI T1 (9 + k) ((r + 1) * mW M + cr (mW M) j) (T1.1 (9 + k) ((r + 1) * mW M + cr (mW M) j) + nI (A / 8 * R))) := f1.tr (FrR.put (by omega) (by omega))
      generalize sI T1 (9 + k) ((r + 1) * mW M + cr (mW M) j) (T1.1 (9 + k) ((r + 1) * mW M + cr (mW M) j) + nI (A / 8 * R)) = T2 at x2 f2 ⊢
      have hC2 := hC0.fr f2 (by omega)
      have hdn : r * mW M + j + mW M < 36 := by omega
      have self : T2.1 (9 + k) (r * mW M + j) = nI A := by
        rw [x2 _ (by omega), if_neg (by omega), if_neg (by omega), hAg]
        rfl
      rw [hC2.w, nI_add, nI_clamp (n := r * mW M + j + mW M) (by omega), self, pk_sub (by omega), pk_sub (by omega)]
      have gd : vp_in (nI (r * mW M + j + mW M)) 36 := pk_in _ 36 hdn
      refine ⟨gd, g36, gd, ?_⟩
      have x3 := accI (g := r * mW M + j + mW M) (v := A - A / 8 * L - A / 8 * R) (x := T2.1 (9 + k) (r * mW M + j + mW M) + nI (A - A / 8 * L - A / 8 * R)) x2 (by rw [x2 _ hdn, nI_add])
      exact cont _ _ (f2.tr (FrR.put (by omega) (by omega))) x3 hst
    · have s4' : mS M (r * mW M + j) = 4 := by
        rw [fa_lit 4, nI_eq (by omega) (by omega)] at s4
        exact s4
      have hz' : hold = 0 := by
        rw [fa_lit 0, nI_eq (by omega) (by omega)] at hz
        exact hz
      have hu : ud hold (mS M) (r * mW M + j) = 0 := if_pos ⟨hz', s4'⟩
      have hs : ud hold (mS M) (r * mW M + j) ≠ 4 := by rw [hu]; decide
      have hL : pL (mT M) k (mS M (r * mW M + j)) = pL (mT M) k (ud hold (mS M) (r * mW M + j)) := by rw [hu, s4']; unfold pL; simp
      have hR2 : pR (mT M) k (mS M (r * mW M + j)) = pR (mT M) k (ud hold (mS M) (r * mW M + j)) := by rw [hu, s4']; unfold pR; simp
      have hcl := cl_lt hj
      have er1 := Nat.mul_le_mul_right (mW M) (show r + 1 ≤ mH M by omega)
      have hXc := hX (r * mW M + j) (by omega)
      have hcr := cr_lt hj
      have hblt : (r + 1) * mW M + cl j < 36 := by omega
      have hbrt : (r + 1) * mW M + cr (mW M) j < 36 := by omega
      refine ⟨g36, c_partsLeft (t := mT M) hM.t1 hk (by omega) hC.t ⟨g36, c_partsRight (t := mT M) hM.t1 hk (by omega) hC.t (c_belowLeft hM hC hr hj ⟨vp_in_nI hblt (by omega), vp_in_nI hblt (by omega), ?_⟩)⟩⟩
      simp only [hXc]
      have hst := RI.step hM.t1 h5 hr hj hR rfl hs hL hR2
      have hLR := pLR (t := mT M) (k := k) (s := mS M (r * mW M + j)) hM.t1
      generalize hLg : pL (mT M) k (mS M (r * mW M + j)) = L at hst hLR ⊢
      generalize hRg : pR (mT M) k (mS M (r * mW M + j)) = R at hst hLR ⊢
      generalize hAg : X (r * mW M + j) = A at hst hAb ⊢
      have eL : nI A / 8 * nI L = nI (A / 8 * L) := by rw [fa_lit 8, pk_div (by omega) (by omega) (by omega), pk_mul]
      have eR : nI A / 8 * nI R = nI (A / 8 * R) := by rw [fa_lit 8, pk_div (by omega) (by omega) (by omega), pk_mul]
      have hsum : A / 8 * L + A / 8 * R ≤ A := by
        rw [← Nat.mul_add]
        exact Nat.le_trans (Nat.mul_le_mul_left _ hLR) (by omega)
      rw [nI_clamp (n := (r + 1) * mW M + cl j) (by omega), eL, eR]
      have x1 := accI (g := (r + 1) * mW M + cl j) (v := A / 8 * L) (x := S.1 (9 + k) ((r + 1) * mW M + cl j) + nI (A / 8 * L)) hX (by rw [hX _ hblt, nI_add])
      have f1 : FrR (9 + k) (10 + k) S0 (sI S (9 + k) ((r + 1) * mW M + cl j) (S.1 (9 + k) ((r + 1) * mW M + cl j) + nI (A / 8 * L))) := f.tr (FrR.put (by omega) (by omega))
      generalize sI S (9 + k) ((r + 1) * mW M + cl j) (S.1 (9 + k) ((r + 1) * mW M + cl j) + nI (A / 8 * L)) = T1 at x1 f1 ⊢
      have hC1 := hC0.fr f1 (by omega)
      refine c_belowRight hM hC1 hr hj ⟨vp_in_nI hbrt (by omega), vp_in_nI hbrt (by omega), ?_⟩
      rw [nI_clamp (n := (r + 1) * mW M + cr (mW M) j) (by omega)]
      have x2 := accI (g := (r + 1) * mW M + cr (mW M) j) (v := A / 8 * R) (x := T1.1 (9 + k) ((r + 1) * mW M + cr (mW M) j) + nI (A / 8 * R)) x1 (by rw [x1 _ hbrt, nI_add])
      have f2 : FrR (9 + k) (10 + k) S0 (sI T1 (9 + k) ((r + 1) * mW M + cr (mW M) j) (T1.1 (9 + k) ((r + 1) * mW M + cr (mW M) j) + nI (A / 8 * R))) := f1.tr (FrR.put (by omega) (by omega))
      generalize sI T1 (9 + k) ((r + 1) * mW M + cr (mW M) j) (T1.1 (9 + k) ((r + 1) * mW M + cr (mW M) j) + nI (A / 8 * R)) = T2 at x2 f2 ⊢
      have hC2 := hC0.fr f2 (by omega)
      have hdn : r * mW M + j + mW M < 36 := by omega
      have self : T2.1 (9 + k) (r * mW M + j) = nI A := by
        rw [x2 _ (by omega), if_neg (by omega), if_neg (by omega), hAg]
        rfl
      rw [hC2.w, nI_add, nI_clamp (n := r * mW M + j + mW M) (by omega), self, pk_sub (by omega), pk_sub (by omega)]
      have gd : vp_in (nI (r * mW M + j + mW M)) 36 := pk_in _ 36 hdn
      refine ⟨gd, g36, gd, ?_⟩
      have x3 := accI (g := r * mW M + j + mW M) (v := A - A / 8 * L - A / 8 * R) (x := T2.1 (9 + k) (r * mW M + j + mW M) + nI (A - A / 8 * L - A / 8 * R)) x2 (by rw [x2 _ hdn, nI_add])
      exact cont _ _ (f2.tr (FrR.put (by omega) (by omega))) x3 hst
    · have s4' : mS M (r * mW M + j) = 4 := by
        rw [fa_lit 4, nI_eq (by omega) (by omega)] at s4
        exact s4
      have hz' : ¬ hold = 0 := by
        rw [fa_lit 0, nI_eq (by omega) (by omega)] at hz
        exact hz
      refine cont S X f hX (hR.same (fun c hc => ?_))
      have hu : ud hold (mS M) (r * mW M + j) = 4 := by
        unfold ud
        rw [if_neg (fun z => hz' z.1), s4']
      rw [hu]
      unfold tw
      rw [if_pos rfl, Nat.mul_zero]
set_option maxRecDepth 100000 in
set_option maxHeartbeats 4000000 in
theorem c_runDown {M : MS} {S0 : St} {Q : St → Prop} (hM : OKM M) (hC0 : CI S0 M) (hw : 0 < mW M) {k hold : Nat} {d : Nat → Nat} (hk : k ≤ 2) (hh : hold ≤ 1) (hD : sm (mW M) d ≤ 8) (h0 : ∀ x, x < 36 → S0.1 (9 + k) x = nI (if x < mW M then d x * 32768 else 0)) (h : ∀ S', FrR (9 + k) (10 + k) S0 S' → (∀ r c, r ≤ mH M → c < mW M → S'.1 (9 + k) (r * mW M + c) = nI (fw (mW M) (mT M) k (ud hold (mS M)) d r c * 8 ^ (5 - r))) → Q S') : CallV mdX1_runDown [.ref 7, .int (nI k), .int (nI hold)] S0 (qV Q) := by
  have hp := hM.hp hw
  apply eX1_runDown
  rw [nI_clamp (n := k) (by omega)]
  refine ⟨pk_in k 3 (by omega), ?_⟩
  have := rd10 hM hC0 hk hh hD h (mH M * mW M) 0 0 (by omega) hw (by omega) S0 (fun x => if x < mW M then d x * 32768 else 0) FrR.rfl h0 ⟨fun r' c hr' hc => ?_, fun _ c hc => ?_, fun r' c a b hc => ?_⟩
  · rw [show (0 : Int32) = nI (0 * mW M + 0) by rw [Nat.zero_mul]; rfl]
    exact this
  · have : r' = 0 := by omega
    subst this
    dsimp only
    rw [Nat.zero_mul, Nat.zero_add, if_pos hc]
    rfl
  · dsimp only
    rw [if_neg (by rw [Nat.succ_mul]; omega)]
    simp [sm]
  · dsimp only
    rw [if_neg]
    have := Nat.mul_le_mul_right (mW M) (show 1 ≤ r' by omega)
    omega
