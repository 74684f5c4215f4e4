/-! ===== likeliest, tally, winner ===== -/
def bE (M : MS) (v : Nat) : Nat := am (fM M (mK M v) (mC M v) (mH M)) (mW M)
def stV (M : MS) (v : Nat) : Prop := fM M (mK M v) (mC M v) (mH M) (bE M v) < kM M (mK M v) (mC M v) (mH M)
theorem bE_lt {M : MS} {v : Nat} (hw : 0 < mW M) : bE M v < mW M := am_lt _ _ hw
set_option maxRecDepth 100000 in
set_option maxHeartbeats 4000000 in
theorem le29 {M : MS} {S : St} {Q : Int32 → St → Prop} (hM : OKM M) (hC : CI S M) {v : Nat} (hv : v < mN M) (hD : DP S M (mK M v) (mC M v)) (h1 : stV M v → Q 6 S) (h2 : ¬ stV M v → Q (nI (bE M v)) S) : ∀ d i, i + d = mW M → 0 < i → V mdX1_likeliestEnd 29 [some (.ref 7), none, some (.int (nI (mK M v))), some (.int (nI (am (fM M (mK M v) (mC M v) (mH M)) i))), some (.int (nI i))] [] S (qI Q) := by
  have w6 := hM.w6
  have h5 := hM.h5
  have hk := hM.k2 hv
  have hc := hM.cw hv
  have hp0 : 0 < 8 ^ (5 - mH M) := Nat.pow_pos (by decide)
  intro d
  induction d with
  | zero =>
    intro i hi h0
    have : i = mW M := by omega
    subst this
    have hb := bE_lt (M := M) (v := v) h0
    have b1 := DP.fM8 hM (k := mK M v) (r := mH M) hb hc h5
    have b2 := kM_le hM (k := mK M v) hc
    apply eX1_likeliestEnd_29
    rw [hC.w]
    refine br_t (nI_le (Nat.le_refl _) (by omega)) (c_stuck hM hC hk hc hD (c_arrived hM hC hk hb hD ?_))
    rw [nI_leI (by omega) (by omega)]
    refine ⟨fun q => h2 (fun z => ?_), fun q => h1 ?_⟩
    · have := Nat.le_of_mul_le_mul_right q hp0
      unfold stV at z
      omega
    · unfold stV
      rcases Nat.lt_or_ge (fM M (mK M v) (mC M v) (mH M) (bE M v)) (kM M (mK M v) (mC M v) (mH M)) with z | z
      · exact z
      · exact absurd (Nat.mul_le_mul_right _ z) q
  | succ d ih =>
    intro i hi h0
    have ha := am_lt (fM M (mK M v) (mC M v) (mH M)) i h0
    have b1 := DP.fM8 hM (k := mK M v) (r := mH M) (show i < mW M by omega) hc h5
    have b2 := DP.fM8 hM (k := mK M v) (r := mH M) (show am (fM M (mK M v) (mC M v) (mH M)) i < mW M by omega) hc h5
    have nx := ih (i + 1) (by omega) (by omega)
    rw [show am (fM M (mK M v) (mC M v) (mH M)) (i + 1) = if fM M (mK M v) (mC M v) (mH M) i ≤ fM M (mK M v) (mC M v) (mH M) (am (fM M (mK M v) (mC M v) (mH M)) i) then am (fM M (mK M v) (mC M v) (mH M)) i else i from rfl] at nx
    apply eX1_likeliestEnd_29
    rw [hC.w, nI_1]
    refine br_f (nI_ge (by omega) (by omega)) (c_arrived hM hC hk (by omega) hD (c_arrived hM hC hk (by omega) hD ?_))
    rw [nI_leI (by omega) (by omega)]
    refine ⟨fun q => ?_, fun q => ?_⟩
    · rw [if_pos (Nat.le_of_mul_le_mul_right q hp0)] at nx
      exact nx
    · rw [if_neg (fun z => q (Nat.mul_le_mul_right _ z))] at nx
      exact nx
set_option maxRecDepth 100000 in
set_option maxHeartbeats 4000000 in
theorem c_likeliestEnd {M : MS} {S : St} {Q : Int32 → St → Prop} (hM : OKM M) (hC : CI S M) {v : Nat} (hv : v < mN M) (h1 : ∀ S', FrR 9 12 S S' → stV M v → Q 6 S') (h2 : ∀ S', FrR 9 12 S S' → ¬ stV M v → Q (nI (bE M v)) S') : CallV mdX1_likeliestEnd [.ref 7, .int (nI v)] S (qI Q) := by
  have n8 := hM.n8
  have w6 := hM.w6
  have hk := hM.k2 hv
  have hc := hM.cw hv
  have g8 : vp_in (nI v) 8 := pk_in v 8 (by omega)
  apply eX1_likeliestEnd
  rw [nI_clamp (n := v) (by omega), hC.kd hv, hC.co hv, nI_clamp (n := mK M v) (by omega), nI_clamp (n := mC M v) (by omega)]
  refine ⟨g8, g8, pk_in _ 3 (show mK M v < 3 by omega), c_dropT hM hC hk hc (fun S' f hD => ?_)⟩
  have := le29 (Q := Q) hM (hC.fr f (by omega)) hv hD (fun z => h1 S' (f.mono (by omega) (by omega)) z) (fun z => h2 S' (f.mono (by omega) (by omega)) z) (mW M - 1) 1 (by omega) (by omega)
  rw [am_1] at this
  exact this
set_option maxRecDepth 100000 in
set_option maxHeartbeats 4000000 in
theorem lo9 {M : MS} {S : St} {Q : Int32 → St → Prop} (hM : OKM M) (hm : MI S M) {v : Nat} (hv : v < mN M) (hL : LC S M (mK M v) (mC M v)) (h1 : stV M v → Q (-9) S) (h2 : ¬ stV M v → Q (nI (bE M v)) S) : ∀ d i, i + d = mW M → 0 < i → V mdX6_likeliestOf 9 [some (.ref 34), none, some (.int (nI (am (fM M (mK M v) (mC M v) (mH M)) i))), some (.int (nI i))] [] S (qI Q) := by
  have w6 := hM.w6
  have h5 := hM.h5
  have hk := hM.k2 hv
  have hc := hM.cw hv
  have hp0 : 0 < 8 ^ (5 - mH M) := Nat.pow_pos (by decide)
  have pw := pow8_le (r := mH M) h5
  intro d
  induction d with
  | zero =>
    intro i hi h0
    have : i = mW M := by omega
    subst this
    have hb := bE_lt (M := M) (v := v) h0
    have hb' : am (fM M (mK M v) (mC M v) (mH M)) (mW M) < mW M := hb
    have b1 := fM_le hM (k := mK M v) (r := mH M) hb hc
    have b2 := kM_le hM (k := mK M v) hc
    have b3 := Nat.le_mul_of_pos_right (kM M (mK M v) (mC M v) (mH M)) hp0
    apply eX6_likeliestOf_9
    rw [hm.w, nI_clamp (n := am (fM M (mK M v) (mC M v) (mH M)) (mW M)) (by omega), hL.1 _ hb', hL.2.1, pk_lLE (by omega) (by show fM M (mK M v) (mC M v) (mH M) (bE M v) < _; omega)]
    refine br_t (nI_le (Nat.le_refl _) (by omega)) ⟨pk_in _ 7 (show am (fM M (mK M v) (mC M v) (mH M)) (mW M) < 7 by omega), fun q => h2 (fun z => ?_), fun q => h1 ?_⟩
    · unfold stV at z
      have q : kM M (mK M v) (mC M v) (mH M) ≤ fM M (mK M v) (mC M v) (mH M) (bE M v) := q
      omega
    · unfold stV
      have q : ¬ kM M (mK M v) (mC M v) (mH M) ≤ fM M (mK M v) (mC M v) (mH M) (bE M v) := q
      omega
  | succ d ih =>
    intro i hi h0
    have ha := am_lt (fM M (mK M v) (mC M v) (mH M)) i h0
    have b1 := fM_le hM (k := mK M v) (r := mH M) (show i < mW M by omega) hc
    have b2 := fM_le hM (k := mK M v) (r := mH M) (show am (fM M (mK M v) (mC M v) (mH M)) i < mW M by omega) hc
    have nx := ih (i + 1) (by omega) (by omega)
    rw [show am (fM M (mK M v) (mC M v) (mH M)) (i + 1) = if fM M (mK M v) (mC M v) (mH M) i ≤ fM M (mK M v) (mC M v) (mH M) (am (fM M (mK M v) (mC M v) (mH M)) i) then am (fM M (mK M v) (mC M v) (mH M)) i else i from rfl] at nx
    apply eX6_likeliestOf_9
    rw [hm.w, nI_clamp (n := am (fM M (mK M v) (mC M v) (mH M)) i) (by omega), nI_clamp (n := i) (by omega), hL.1 _ (show am (fM M (mK M v) (mC M v) (mH M)) i < mW M by omega), hL.1 i (by omega), pk_lLE (by omega) (by omega), nI_1]
    refine br_f (nI_ge (by omega) (by omega)) ⟨pk_in i 7 (by omega), pk_in _ 7 (show am (fM M (mK M v) (mC M v) (mH M)) i < 7 by omega), fun q => ?_, fun q => ?_⟩
    · rw [if_pos q] at nx
      exact nx
    · rw [if_neg q] at nx
      exact nx
set_option maxRecDepth 100000 in
set_option maxHeartbeats 4000000 in
theorem c_likeliestOf {M : MS} {S : St} {Q : Int32 → St → Prop} (hM : OKM M) (hm : MI S M) {v : Nat} (hv : v < mN M) (h1 : ∀ S', S'.1 = S.1 → stV M v → Q (-9) S') (h2 : ∀ S', S'.1 = S.1 → ¬ stV M v → Q (nI (bE M v)) S') : CallV mdX6_likeliestOf [.ref 34, .int (nI v)] S (qI Q) := by
  have n8 := hM.n8
  have w6 := hM.w6
  have hk := hM.k2 hv
  have hc := hM.cw hv
  have g8 : vp_in (nI v) 8 := pk_in v 8 (by omega)
  apply eX6_likeliestOf
  rw [nI_clamp (n := v) (by omega), hm.kd hv, hm.co hv]
  refine ⟨g8, g8, c_layChances hM hm hk hc (fun S' e hL => ?_)⟩
  have := lo9 (Q := Q) hM (hm.of1 e) hv hL (h1 S' e) (h2 S' e) (mW M - 1) 1 (by omega) (by omega)
  rw [am_1] at this
  exact this
theorem nI_ne6 {n : Nat} (h : n < 6) : ¬ nI n = 6 := by
  rw [fa_lit 6, nI_eq (by omega) (by omega)]
  omega
set_option maxRecDepth 100000 in
set_option maxHeartbeats 4000000 in
theorem ok_likeliest (x1 : Int32) : OKI mdX5_likeliest mdX6_likeliest [.ref 0, .int x1] [.ref 34, .int x1] := by
  intro S hI
  obtain ⟨M, hM, hC, hm, hs, ht, hf⟩ := id hI
  have n8 := hM.n8
  have w6 := hM.w6
  have tn := nI_toInt (n := mN M) (by omega)
  apply eX5_likeliest
  rw [hC.n]
  rcases pk_ix x1 (n := mN M) (by omega) with h | h | ⟨v, hv, rfl⟩
  · refine br_t h ?_
    apply eX6_likeliest
    rw [hm.n]
    exact br_t (by (try simp only [fa_lt, fa_le, fa_eq, fa_lt64, fa_le64, fa_eq64, Int32.toInt_toInt64, lsub1, Int32.reduceToInt, Int64.reduceToInt, Int32.toInt_zero, Int64.toInt_zero, ti_m1, ti_m2, ti_m3, ti_m4, ti_m9] at *) <;> omega) ⟨rfl, hI⟩
  · refine br_f (by (try simp only [fa_lt, fa_le, fa_eq, fa_lt64, fa_le64, fa_eq64, Int32.toInt_toInt64, lsub1, Int32.reduceToInt, Int64.reduceToInt, Int32.toInt_zero, Int64.toInt_zero, ti_m1, ti_m2, ti_m3, ti_m4, ti_m9] at *) <;> omega) (br_t h ?_)
    apply eX6_likeliest
    rw [hm.n]
    exact br_f (by (try simp only [fa_lt, fa_le, fa_eq, fa_lt64, fa_le64, fa_eq64, Int32.toInt_toInt64, lsub1, Int32.reduceToInt, Int64.reduceToInt, Int32.toInt_zero, Int64.toInt_zero, ti_m1, ti_m2, ti_m3, ti_m4, ti_m9] at *) <;> omega) (br_t (by (try simp only [fa_lt, fa_le, fa_eq, fa_lt64, fa_le64, fa_eq64, Int32.toInt_toInt64, lsub1, Int32.reduceToInt, Int64.reduceToInt, Int32.toInt_zero, Int64.toInt_zero, ti_m1, ti_m2, ti_m3, ti_m4, ti_m9] at *) <;> omega) ⟨rfl, hI⟩)
  have tv := nI_toInt (n := v) (by omega)
  have hc := hM.cw hv
  have hb := bE_lt (M := M) (v := v) (by omega)
  refine br_f (by (try simp only [fa_lt, fa_le, fa_eq, fa_lt64, fa_le64, fa_eq64, Int32.toInt_toInt64, lsub1, Int32.reduceToInt, Int64.reduceToInt, Int32.toInt_zero, Int64.toInt_zero, ti_m1, ti_m2, ti_m3, ti_m4, ti_m9] at *) <;> omega) (br_f (by (try simp only [fa_lt, fa_le, fa_eq, fa_lt64, fa_le64, fa_eq64, Int32.toInt_toInt64, lsub1, Int32.reduceToInt, Int64.reduceToInt, Int32.toInt_zero, Int64.toInt_zero, ti_m1, ti_m2, ti_m3, ti_m4, ti_m9] at *) <;> omega) (c_likeliestEnd hM hC hv (fun S' f z => nb_f rfl ?_) (fun S' f z => nb_t (nI_ne6 (by omega)) ?_)))
  · apply eX6_likeliest
    rw [(hm.fr f (by omega)).n]
    exact br_f (by (try simp only [fa_lt, fa_le, fa_eq, fa_lt64, fa_le64, fa_eq64, Int32.toInt_toInt64, lsub1, Int32.reduceToInt, Int64.reduceToInt, Int32.toInt_zero, Int64.toInt_zero, ti_m1, ti_m2, ti_m3, ti_m4, ti_m9] at *) <;> omega) (br_f (by (try simp only [fa_lt, fa_le, fa_eq, fa_lt64, fa_le64, fa_eq64, Int32.toInt_toInt64, lsub1, Int32.reduceToInt, Int64.reduceToInt, Int32.toInt_zero, Int64.toInt_zero, ti_m1, ti_m2, ti_m3, ti_m4, ti_m9] at *) <;> omega) (c_likeliestOf hM (hm.fr f (by omega)) hv (fun T t _ => ⟨rfl, (hI.fr f (by omega) (by omega)).of1 t⟩) (fun T t z' => absurd z z')))
  · apply eX6_likeliest
    rw [(hm.fr f (by omega)).n]
    exact br_f (by (try simp only [fa_lt, fa_le, fa_eq, fa_lt64, fa_le64, fa_eq64, Int32.toInt_toInt64, lsub1, Int32.reduceToInt, Int64.reduceToInt, Int32.toInt_zero, Int64.toInt_zero, ti_m1, ti_m2, ti_m3, ti_m4, ti_m9] at *) <;> omega) (br_f (by (try simp only [fa_lt, fa_le, fa_eq, fa_lt64, fa_le64, fa_eq64, Int32.toInt_toInt64, lsub1, Int32.reduceToInt, Int64.reduceToInt, Int32.toInt_zero, Int64.toInt_zero, ti_m1, ti_m2, ti_m3, ti_m4, ti_m9] at *) <;> omega) (c_likeliestOf hM (hm.fr f (by omega)) hv (fun T t z' => absurd z' z) (fun T t _ => ⟨rfl, (hI.fr f (by omega) (by omega)).of1 t⟩)))
/-- the tally but for one -/
def ln (M : MS) (v : Nat) : Nat := if fM M (mK M v) (mC M v) (mH M) (bE M v) < kM M (mK M v) (mC M v) (mH M) then 9 else mP M (bE M v)
theorem ln_t {M : MS} {v : Nat} (h : stV M v) : ln M v = 9 := if_pos h
theorem ln_f {M : MS} {v : Nat} (h : ¬ stV M v) : ln M v = mP M (bE M v) := if_neg h
theorem ln_c {M : MS} (hM : OKM M) (hw : 0 < mW M) (v : Nat) : ln M v = 9 ∨ ln M v ≤ 3 := by
  by_cases z : stV M v
  · exact Or.inl (ln_t z)
  · rw [ln_f z]
    exact Or.inr (hM.p3 (bE_lt hw))
def tl (M : MS) (o : Int32) (n p : Nat) : Nat := sm n (fun v => if ¬ nI v = o ∧ ln M v = p then 1 else 0)
theorem tl_s {M : MS} {o : Int32} {n p : Nat} : tl M o (n + 1) p = tl M o n p + (if ¬ nI n = o ∧ ln M n = p then 1 else 0) := rfl
theorem tl_le {M : MS} {o : Int32} {p : Nat} : ∀ n, tl M o n p ≤ n
  | 0 => Nat.le_refl _
  | n + 1 => by
    have := tl_le (M := M) (o := o) (p := p) n
    rw [tl_s]
    split <;> omega
def wn (M : MS) (o : Int32) : Nat := am (tl M o (mN M)) 4
theorem wn_lt {M : MS} {o : Int32} : wn M o < 4 := am_lt _ _ (by decide)
/-- the leanings, as the class keeps them -/
def LN (S : St) (M : MS) (n : Nat) : Prop := ∀ v, v < n → (ln M v = 9 ∧ S.1 16 v = -9) ∨ (ln M v ≤ 3 ∧ S.1 16 v = nI (ln M v))
set_option maxRecDepth 100000 in
set_option maxHeartbeats 4000000 in
theorem fl2 {M : MS} {S0 : St} {Q : St → Prop} (hM : OKM M) (hC0 : CI S0 M) (h : ∀ S, FrR 9 17 S0 S → LN S M (mN M) → Q S) : ∀ d i, i + d = mN M → ∀ S, FrR 9 17 S0 S → LN S M i → V mdX1_findLeanings 2 [some (.ref 7), some (.int (nI i)), none] [] S (qV Q) := by
  have n8 := hM.n8
  have w6 := hM.w6
  intro d
  induction d with
  | zero =>
    intro i hi S f e
    have : i = mN M := by omega
    subst this
    apply eX1_findLeanings_2
    rw [(hC0.fr f (by omega)).n]
    exact br_t (nI_le (Nat.le_refl _) (by omega)) (h S f e)
  | succ d ih =>
    intro i hi S f e
    have hC := hC0.fr f (by omega)
    have hv : i < mN M := by omega
    have hb := bE_lt (M := M) (v := i) (by have := hM.cw hv; omega)
    have hp := hM.p3 hb
    have step : ∀ S' x, FrR 9 12 S S' → ((ln M i = 9 ∧ x = -9) ∨ (ln M i ≤ 3 ∧ x = nI (ln M i))) → V mdX1_findLeanings 2 [some (.ref 7), some (.int (nI (i + 1))), none] [] (sI S' 16 i x) (qV Q) := fun S' x g hx => ih (i + 1) (by omega) _ ((f.tr (g.mono (by omega) (by omega))).tr (FrR.put (by omega) (by omega))) (fun v hv' => by
      by_cases q : v = i
      · subst q
        rw [sI_h ⟨rfl, rfl⟩]
        exact hx
      · rw [sI_o (Or.inr q), g.at (by omega)]
        exact e v (by omega))
    apply eX1_findLeanings_2
    rw [hC.n, nI_1, nI_clamp (n := i) (by omega)]
    refine br_f (nI_ge (by omega) (by omega)) (c_likeliestEnd hM hC hv (fun S' g z => nb_f rfl ⟨pk_in i 8 (by omega), step S' _ g (Or.inl ⟨ln_t z, rfl⟩)⟩) (fun S' g z => nb_t (nI_ne6 (by omega)) ⟨pk_in _ 6 (show bE M i < 6 by omega), pk_in i 8 (by omega), step S' _ g (Or.inr ?_)⟩))
    rw [ln_f z, nI_clamp (n := bE M i) (by omega), (hC.fr g (by omega)).pa hb]
    exact ⟨hp, rfl⟩
set_option maxRecDepth 100000 in
set_option maxHeartbeats 4000000 in
theorem c_findLeanings {M : MS} {S : St} {Q : St → Prop} (hM : OKM M) (hC : CI S M) (h : ∀ S', FrR 9 17 S S' → LN S' M (mN M) → Q S') : CallV mdX1_findLeanings [.ref 7] S (qV Q) := by
  apply eX1_findLeanings
  exact fl2 hM hC h (mN M) 0 (by omega) S FrR.rfl (fun v hv => absurd hv (Nat.not_lt_zero _))
set_option maxRecDepth 100000 in
set_option maxHeartbeats 4000000 in
theorem tw10 {M : MS} {S0 : St} {Q : St → Prop} (hM : OKM M) (hC0 : CI S0 M) {o : Int32} (hL : LN S0 M (mN M)) (h : ∀ S, FrR 17 18 S0 S → (∀ p, p ≤ 3 → S.1 17 p = nI (tl M o (mN M) p)) → Q S) : ∀ d i, i + d = mN M → ∀ S, FrR 17 18 S0 S → (∀ p, p ≤ 3 → S.1 17 p = nI (tl M o i p)) → V mdX1_tallyWithout 10 [some (.ref 7), some (.int o), some (.int (nI i))] [] S (qV Q) := by
  have n8 := hM.n8
  intro d
  induction d with
  | zero =>
    intro i hi S f e
    have : i = mN M := by omega
    subst this
    apply eX1_tallyWithout_10
    rw [(hC0.fr f (by omega)).n]
    exact br_t (nI_le (Nat.le_refl _) (by omega)) (h S f e)
  | succ d ih =>
    intro i hi S f e
    apply eX1_tallyWithout_10
    rw [(hC0.fr f (by omega)).n, nI_clamp (n := i) (by omega), nI_1 i]
    refine br_f (nI_ge (by omega) (by omega)) ⟨fun q => ?_, fun q => ⟨pk_in i 8 (by omega), ?_⟩⟩
    · refine ih (i + 1) (by omega) S f (fun p hp => ?_)
      rw [tl_s, if_neg (fun z => z.1 q), e p hp, Nat.add_zero]
    · rw [f.at (by omega)]
      rcases hL i (by omega) with ⟨z, z'⟩ | ⟨z, z'⟩
      · rw [z']
        refine br_t rfl (ih (i + 1) (by omega) S f (fun p hp => ?_))
        rw [tl_s, if_neg (fun y => by omega), e p hp, Nat.add_zero]
      · rw [z', nI_clamp (n := ln M i) (by omega), e _ z, nI_1]
        have g4 : vp_in (nI (ln M i)) 4 := pk_in _ 4 (show ln M i < 4 by omega)
        refine br_f (fun y => ?_) ⟨pk_in i 8 (by omega), g4, g4, ih (i + 1) (by omega) _ (f.tr (FrR.put (by omega) (by omega))) (fun p hp => ?_)⟩
        · rw [fa_eq, nI_toInt (by omega)] at y
          have : (-9 : Int32).toInt = -9 := rfl
          omega
        · by_cases w : p = ln M i
          · subst w
            rw [sI_h ⟨rfl, rfl⟩, tl_s, if_pos ⟨q, rfl⟩]
          · rw [sI_o (Or.inr w), e p hp, tl_s, if_neg (fun y => w y.2.symm), Nat.add_zero]
set_option maxRecDepth 100000 in
set_option maxHeartbeats 4000000 in
theorem c_tallyWithout {M : MS} {S : St} {Q : St → Prop} (hM : OKM M) (hC : CI S M) {o : Int32} (hL : LN S M (mN M)) (h : ∀ S', FrR 17 18 S S' → (∀ p, p ≤ 3 → S'.1 17 p = nI (tl M o (mN M) p)) → Q S') : CallV mdX1_tallyWithout [.ref 7, .int o] S (qV Q) := by
  apply eX1_tallyWithout
  refine c_fill (q := 17) (n := 4) (rs := []) (by decide) rfl (by omega) 0 _ _ ?_
  refine tw10 hM hC hL h (mN M) 0 (by omega) _ (FrR.fill (by omega) (by omega)) (fun p hp => ?_)
  rw [sF_h rfl, if_pos (by omega)]
  rfl
set_option maxRecDepth 100000 in
set_option maxHeartbeats 4000000 in
theorem ww9 {M : MS} {S : St} {Q : Int32 → St → Prop} (hM : OKM M) {o : Int32} (hT : ∀ p, p ≤ 3 → S.1 17 p = nI (tl M o (mN M) p)) (h : Q (nI (wn M o)) S) : ∀ d i, i + d = 4 → 0 < i → V mdX1_winnerWithout 9 [some (.ref 7), none, some (.int (nI (am (tl M o (mN M)) i))), some (.int (nI i))] [] S (qI Q) := by
  have n8 := hM.n8
  intro d
  induction d with
  | zero =>
    intro i hi h0
    have : i = 4 := by omega
    subst this
    apply eX1_winnerWithout_9
    exact br_t (nI_le (a := 4) (by omega) (by omega)) h
  | succ d ih =>
    intro i hi h0
    have ha := am_lt (tl M o (mN M)) i h0
    have b1 := tl_le (M := M) (o := o) (p := i) (mN M)
    have b2 := tl_le (M := M) (o := o) (p := am (tl M o (mN M)) i) (mN M)
    have nx := ih (i + 1) (by omega) (by omega)
    rw [show am (tl M o (mN M)) (i + 1) = if tl M o (mN M) i ≤ tl M o (mN M) (am (tl M o (mN M)) i) then am (tl M o (mN M)) i else i from rfl] at nx
    apply eX1_winnerWithout_9
    rw [nI_1, nI_clamp (n := i) (by omega), nI_clamp (n := am (tl M o (mN M)) i) (by omega), hT i (by omega), hT _ (show am (tl M o (mN M)) i ≤ 3 by omega), nI_leI (by omega) (by omega)]
    refine br_f (nI_ge (b := 4) (by omega) (by omega)) ⟨pk_in i 4 (by omega), pk_in _ 4 (show am (tl M o (mN M)) i < 4 by omega), fun q => ?_, fun q => ?_⟩
    · rw [if_pos q] at nx
      exact nx
    · rw [if_neg q] at nx
      exact nx
set_option maxRecDepth 100000 in
set_option maxHeartbeats 4000000 in
theorem c_winnerWithout {M : MS} {S : St} {Q : Int32 → St → Prop} (hM : OKM M) (hC : CI S M) {o : Int32} (hL : LN S M (mN M)) (h : ∀ S', FrR 17 18 S S' → Q (nI (wn M o)) S') : CallV mdX1_winnerWithout [.ref 7, .int o] S (qI Q) := by
  apply eX1_winnerWithout
  refine c_tallyWithout hM hC hL (fun S' f e => ?_)
  have := ww9 (Q := Q) hM e (h S' f) 3 1 (by omega) (by omega)
  rw [am_1] at this
  exact this
