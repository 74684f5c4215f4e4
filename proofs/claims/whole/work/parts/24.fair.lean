/-! ===== fair columns ===== -/
def fB (M : MS) (c : Nat) : Nat → Bool
  | 0 => true
  | n + 1 => fB M c n && decide (eM M 0 c (mP M n) = eM M 0 c (mP M 0))
theorem fB_iff {M : MS} {c : Nat} : ∀ n, fB M c n = true ↔ ∀ t, t < n → eM M 0 c (mP M t) = eM M 0 c (mP M 0)
  | 0 => ⟨fun _ t ht => absurd ht (Nat.not_lt_zero _), fun _ => rfl⟩
  | n + 1 => by
    show (fB M c n && decide (eM M 0 c (mP M n) = eM M 0 c (mP M 0))) = true ↔ _
    rw [Bool.and_eq_true, fB_iff n, decide_eq_true_iff]
    constructor
    · intro h t ht
      by_cases q : t = n
      · subst q
        exact h.2
      · exact h.1 t (by omega)
    · intro h
      exact ⟨fun t ht => h t (by omega), h n (by omega)⟩
def bI (b : Bool) : Int32 := if b = true then 1 else 0
def fO (M : MS) : Nat → Int32
  | 0 => 0
  | c + 1 => if fB M c (mW M) = true then fO M c ||| ((1 : Int32) <<< (nI c &&& 31)) else fO M c
/-- shares while they are gathered -/
def shr (M : MS) (c n p : Nat) : Nat := sm n (fun t => fM M 0 c (mH M) t * uP M p t)
theorem shr_s {M : MS} {c n p : Nat} : shr M c (n + 1) p = shr M c n p + fM M 0 c (mH M) n * uP M p n := rfl
set_option maxRecDepth 100000 in
set_option maxHeartbeats 4000000 in
theorem c_hasTrough {M : MS} {S : St} {Q : Int32 → St → Prop} (hM : OKM M) (hC : CI S M) {p : Nat} (hp : p ≤ 3) (h1 : (∃ t, t < mW M ∧ mP M t = p) → Q 1 S) (h0 : (∀ t, t < mW M → ¬ mP M t = p) → Q 0 S) : CallV mdX2_hasTroughOf [.ref 1, .int (nI p)] S (qI Q) := by
  have w6 := hM.w6
  have lp : ∀ d i, i + d = mW M → (∀ t, t < i → ¬ mP M t = p) → V mdX2_hasTroughOf 2 [some (.ref 1), some (.int (nI p)), some (.int (nI i))] [] S (qI Q) := by
    intro d
    induction d with
    | zero =>
      intro i hi e
      have : i = mW M := by omega
      subst this
      apply eX2_hasTroughOf_2
      rw [hC.w]
      exact br_t (nI_le (Nat.le_refl _) (by omega)) (h0 e)
    | succ d ih =>
      intro i hi e
      have hp3 := hM.p3 (show i < mW M by omega)
      apply eX2_hasTroughOf_2
      rw [hC.w, nI_clamp (n := i) (by omega), hC.pa (by omega), nI_1, nI_eq (by omega) (by omega)]
      refine br_f (nI_ge (by omega) (by omega)) ⟨pk_in i 6 (by omega), fun q => ih (i + 1) (by omega) (fun t ht => ?_), fun q => h1 ⟨i, by omega, q⟩⟩
      by_cases z : t = i
      · subst z
        exact q
      · exact e t (by omega)
  apply eX2_hasTroughOf
  exact lp (mW M) 0 (by omega) (fun t ht => absurd ht (Nat.not_lt_zero _))
set_option maxRecDepth 100000 in
set_option maxHeartbeats 4000000 in
theorem if73 {M : MS} {S : St} {Q : Int32 → St → Prop} (hM : OKM M) (hC : CI S M) (hw : 0 < mW M) {c : Nat} (hc : c < mW M) (hS : ∀ p, p ≤ 3 → S.1 18 p = nI (eM M 0 c p * 8 ^ (5 - mH M))) (h : Q (bI (fB M c (mW M))) S) : ∀ d i, i + d = 4 → (∀ t, t < mW M → mP M t < i → eM M 0 c (mP M t) = eM M 0 c (mP M 0)) → V mdX1_isFair 73 [some (.ref 7), none, some (.int (nI (eM M 0 c (mP M 0) * 8 ^ (5 - mH M)))), some (.int (nI i))] [] S (qI Q) := by
  have hp0 : 0 < 8 ^ (5 - mH M) := Nat.pow_pos (by decide)
  have b0 := eM_le hM (k := 0) (p := mP M 0) hc
  intro d
  induction d with
  | zero =>
    intro i hi e
    apply eX1_isFair_73
    have : fB M c (mW M) = true := (fB_iff _).2 (fun t ht => e t ht (by have := hM.p3 ht; omega))
    rw [this] at h
    exact br_t (nI_le (a := 4) (by omega) (by omega)) h
  | succ d ih =>
    intro i hi e
    have bi := eM_le hM (k := 0) (p := i) hc
    apply eX1_isFair_73
    rw [nI_1]
    refine br_f (nI_ge (b := 4) (by omega) (by omega)) (c_hasTrough hM hC (by omega) (fun q => br_f (by decide) ⟨pk_in i 4 (by omega), ?_⟩) (fun q => br_t rfl (ih (i + 1) (by omega) (fun t ht h' => e t ht ?_))))
    · rw [nI_clamp (n := i) (by omega), hS i (by omega), nI_eq (by omega) (by omega)]
      refine ⟨fun z => ih (i + 1) (by omega) (fun t ht h' => ?_), fun z => ?_⟩
      · by_cases w : mP M t = i
        · rw [w]
          exact Nat.eq_of_mul_eq_mul_right hp0 z
        · exact e t ht (by omega)
      · obtain ⟨t, ht, q⟩ := q
        have : fB M c (mW M) = false := by
          rw [← Bool.not_eq_true]
          intro w
          have := (fB_iff _).1 w t ht
          rw [q] at this
          exact z (by rw [this])
        rw [this] at h
        exact h
    · have := q t ht
      omega
set_option maxRecDepth 100000 in
set_option maxHeartbeats 4000000 in
theorem if16 {M : MS} {S0 : St} {Q : Int32 → St → Prop} (hM : OKM M) (hC0 : CI S0 M) (hw : 0 < mW M) {c : Nat} (hc : c < mW M) (hD : DP S0 M 0 c) (h : ∀ S, FrR 18 19 S0 S → Q (bI (fB M c (mW M))) S) : ∀ d i, i + d = mW M → ∀ S, FrR 18 19 S0 S → (∀ p, p ≤ 3 → S.1 18 p = nI (shr M c i p * 8 ^ (5 - mH M))) → V mdX1_isFair 16 [some (.ref 7), none, some (.int (nI i)), none] [] S (qI Q) := by
  have w6 := hM.w6
  intro d
  induction d with
  | zero =>
    intro i hi S f e
    have hC := hC0.fr f (by omega)
    have : i = mW M := by omega
    subst this
    have hp3 := hM.p3 hw
    apply eX1_isFair_16
    rw [hC.w, hC.pa hw, nI_clamp (n := mP M 0) (by omega), e _ hp3]
    exact br_t (nI_le (Nat.le_refl _) (by omega)) ⟨pk_in _ 4 (show mP M 0 < 4 by omega), if73 hM hC hw hc e (h S f) 4 0 (by omega) (fun t ht h' => absurd h' (Nat.not_lt_zero _))⟩
  | succ d ih =>
    intro i hi S f e
    have hC := hC0.fr f (by omega)
    have hp3 := hM.p3 (show i < mW M by omega)
    have g4 : vp_in (nI (mP M i)) 4 := pk_in _ 4 (show mP M i < 4 by omega)
    apply eX1_isFair_16
    rw [hC.w, nI_clamp (n := i) (by omega), hC.pa (c := i) (by omega), nI_clamp (n := mP M i) (by omega), nI_1, e _ hp3]
    refine br_f (nI_ge (by omega) (by omega)) ⟨pk_in i 6 (by omega), g4, c_arrived hM hC (k := 0) (by omega) (by omega) (fun r x h1 h2 => by rw [f.at (by omega)]; exact hD r x h1 h2) ⟨g4, ?_⟩⟩
    rw [nI_add]
    refine ih (i + 1) (by omega) _ (f.tr (FrR.put (by omega) (by omega))) (fun p hp => ?_)
    by_cases q : p = mP M i
    · subst q
      rw [sI_h ⟨rfl, rfl⟩, shr_s, show uP M (mP M i) i = 1 from if_pos rfl, Nat.mul_one, Nat.add_mul]
    · rw [sI_o (Or.inr q), e p hp, shr_s, show uP M p i = 0 from if_neg (fun z => q z.symm), Nat.mul_zero, Nat.add_zero]
set_option maxRecDepth 100000 in
set_option maxHeartbeats 4000000 in
theorem c_drop0 {M : MS} {S : St} (hM : OKM M) (hC : CI S M) {c0 : Nat} (hc : c0 < mW M) {P : St → Prop} (h : ∀ S', FrR 9 10 S S' → DP S' M 0 c0 → P S') : CallV mdJ7_fill_53178 [.ref 9, .int 0] S (qV fun S4 => vp_in (nI c0) 36 ∧ CallV mdX1_runDown [.ref 7, .int 0, .int 1] (sI S4 9 c0 32768) (qV P)) := by
  have w6 := hM.w6
  refine c_fill (n := 36) (rs := []) (pa_lt (isPa_k (k := 0) (by omega))) (pa_lay (isPa_k (k := 0) (by omega))) (by omega) 0 _ _ ⟨pk_in c0 36 (by omega), ?_⟩
  have f1 : FrR 9 10 S (sI (sF S 9 (fun j => if j < 36 then 0 else S.1 9 j)) 9 c0 32768) := (FrR.fill (by omega) (by omega)).tr (FrR.put (by omega) (by omega))
  have := c_runDown (Q := P) (k := 0) (hold := 1) (d := d1 c0) hM (hC.fr f1 (by omega)) (by omega) (by omega) (by omega) (by rw [d1_sum hc]; omega) (fun x hx => ?_) (fun S' g1 g2 => h S' (f1.tr g1) (by rw [ud1] at g2; exact g2))
  · exact this
  · by_cases hxc : x = c0
    · subst hxc
      simp (disch := omega) only [sI_o, sI_h, sF_o, sF_h, sJ_1, sI_2, sF_2, sJ_o, sJ_h]
      rw [if_pos hc]
      unfold d1
      rw [if_pos rfl]
      rfl
    · simp (disch := omega) only [sI_o, sI_h, sF_o, sF_h, sJ_1, sI_2, sF_2, sJ_o, sJ_h]
      rw [if_pos hx]
      unfold d1
      rw [if_neg hxc]
      split <;> rfl
set_option maxRecDepth 100000 in
set_option maxHeartbeats 4000000 in
theorem c_isFair {M : MS} {S : St} {Q : Int32 → St → Prop} (hM : OKM M) (hC : CI S M) {c : Nat} (hc : c < mW M) (h : ∀ S', FrR 9 19 S S' → Q (bI (fB M c (mW M))) S') : CallV mdX1_isFair [.ref 7, .int (nI c)] S (qI Q) := by
  have w6 := hM.w6
  have hw : 0 < mW M := by omega
  apply eX1_isFair
  rw [nI_clamp (n := c) (by omega)]
  refine c_drop0 hM hC hc (fun S1 f1 hD => c_fill (q := 18) (n := 4) (rs := []) (by decide) rfl (by omega) 0 _ _ (if16 hM ((hC.fr f1 (by omega)).fr (FrR.fill (a := 18) (b := 19) (by omega) (by omega)) (by omega)) hw hc (fun r x h1 h2 => by rw [sF_o (by omega)]; exact hD r x h1 h2) (fun S2 f2 => h S2 ((f1.mono (by omega) (by omega)).tr ((FrR.fill (by omega) (by omega)).tr (f2.mono (by omega) (by omega))))) (mW M) 0 (by omega) _ FrR.rfl (fun p hp => ?_)))
  rw [sF_h rfl, if_pos (by omega), show shr M c 0 p = 0 from rfl, Nat.zero_mul]
  rfl
set_option maxRecDepth 100000 in
set_option maxHeartbeats 4000000 in
theorem fc4 {M : MS} {S0 : St} {Q : Int32 → St → Prop} (hM : OKM M) (hC0 : CI S0 M) (h : ∀ S, FrR 9 19 S0 S → Q (fO M (mW M)) S) : ∀ d i, i + d = mW M → ∀ S, FrR 9 19 S0 S → V mdX1_fairColumns 4 [some (.ref 7), some (.int (fO M i)), some (.int (nI i))] [] S (qI Q) := by
  have w6 := hM.w6
  intro d
  induction d with
  | zero =>
    intro i hi S f
    have : i = mW M := by omega
    subst this
    apply eX1_fairColumns_4
    rw [(hC0.fr f (by omega)).w]
    exact br_t (nI_le (Nat.le_refl _) (by omega)) (h S f)
  | succ d ih =>
    intro i hi S f
    have hC := hC0.fr f (by omega)
    apply eX1_fairColumns_4
    rw [hC.w, nI_1 i]
    refine br_f (nI_ge (by omega) (by omega)) (c_isFair hM hC (by omega) (fun S' g => ?_))
    have nx := ih (i + 1) (by omega) S' (f.tr g)
    rw [show fO M (i + 1) = if fB M i (mW M) = true then fO M i ||| ((1 : Int32) <<< (nI i &&& 31)) else fO M i from rfl] at nx
    cases q : fB M i (mW M)
    · rw [if_neg (by rw [q]; decide)] at nx
      exact br_t rfl nx
    · rw [if_pos q] at nx
      exact br_f (by decide) nx
/-! the reference -/
set_option maxRecDepth 100000 in
set_option maxHeartbeats 4000000 in
theorem mf45 {M : MS} {S0 : St} {Q : Int32 → St → Prop} (hM : OKM M) (hm0 : MI S0 M) {c : Nat} (hc : c < mW M) (hL : LC S0 M 0 c) (h : ∀ S, S = S0 → V mdX6_fair 14 [some (.ref 34), some (.int (fO M (c + 1))), some (.int (nI (c + 1))), none, none, none, none] [] S (qI Q)) : ∀ d i, i + d = mW M → V mdX6_fair 45 [some (.ref 34), some (.int (fO M c)), some (.int (nI c)), some (.long (lN (eM M 0 c (mP M 0)))), none, some (.int (bI (fB M c i))), some (.int (nI i))] [] S0 (qI Q) := by
  have w6 := hM.w6
  have b0 := eM_le hM (k := 0) (p := mP M 0) hc
  have hp0 : 0 < 8 ^ (5 - mH M) := Nat.pow_pos (by decide)
  have b0' := Nat.le_mul_of_pos_right (eM M 0 c (mP M 0)) hp0
  intro d
  induction d with
  | zero =>
    intro i hi
    have : i = mW M := by omega
    subst this
    have nx := h S0 rfl
    rw [show fO M (c + 1) = if fB M c (mW M) = true then fO M c ||| ((1 : Int32) <<< (nI c &&& 31)) else fO M c from rfl] at nx
    apply eX6_fair_45
    rw [hm0.w, nI_1 c]
    refine br_t (nI_le (Nat.le_refl _) (by omega)) ?_
    cases q : fB M c (mW M)
    · rw [if_neg (by rw [q]; decide)] at nx
      refine br_t rfl ?_
      rw [Int32.or_zero]
      exact nx
    · rw [if_pos q] at nx
      exact br_f (by decide) nx
  | succ d ih =>
    intro i hi
    have hp3 := hM.p3 (show i < mW M by omega)
    have b1 := eM_le hM (k := 0) (p := mP M i) hc
    have b1' := Nat.le_mul_of_pos_right (eM M 0 c (mP M i)) hp0
    have nx := ih (i + 1) (by omega)
    rw [show fB M c (i + 1) = (fB M c i && decide (eM M 0 c (mP M i) = eM M 0 c (mP M 0))) from rfl] at nx
    apply eX6_fair_45
    rw [hm0.w, nI_1 i, nI_clamp (n := i) (by omega), hm0.pa (by omega)]
    refine br_f (nI_ge (by omega) (by omega)) ?_
    cases q : fB M c i
    · rw [q, Bool.false_and] at nx
      exact br_t rfl nx
    · rw [q, Bool.true_and] at nx
      refine br_f (by decide) ⟨pk_in i 6 (by omega), c_partsFor hM hm0 hp3 hL ?_⟩
      rw [pk_lEQ (by omega) (by omega)]
      refine ⟨fun z => ?_, fun z => ?_⟩
      · rw [decide_eq_false z] at nx
        exact nx
      · rw [decide_eq_true z] at nx
        exact nx
set_option maxRecDepth 100000 in
set_option maxHeartbeats 4000000 in
theorem mf14 {M : MS} {S0 : St} {Q : Int32 → St → Prop} (hM : OKM M) (hm0 : MI S0 M) (h : ∀ S, S.1 = S0.1 → Q (fO M (mW M)) S) : ∀ d i, i + d = mW M → ∀ S, S.1 = S0.1 → V mdX6_fair 14 [some (.ref 34), some (.int (fO M i)), some (.int (nI i)), none, none, none, none] [] S (qI Q) := by
  have w6 := hM.w6
  intro d
  induction d with
  | zero =>
    intro i hi S e
    have : i = mW M := by omega
    subst this
    apply eX6_fair_14
    rw [(hm0.of1 e).w]
    exact br_t (nI_le (Nat.le_refl _) (by omega)) (h S e)
  | succ d ih =>
    intro i hi S e
    have hm := hm0.of1 e
    have hw : 0 < mW M := by omega
    apply eX6_fair_14
    rw [hm.w]
    refine br_f (nI_ge (by omega) (by omega)) (c_layChances (k := 0) hM hm (by omega) (by omega) (fun T t hL => ?_))
    rw [(hm.of1 t).pa hw]
    refine c_partsFor hM (hm.of1 t) (hM.p3 hw) hL ?_
    have := mf45 (Q := Q) (c := i) hM (hm.of1 t) (by omega) hL (fun U u => ih (i + 1) (by omega) U (by rw [u]; exact t.trans e)) (mW M - 1) 1 (by omega)
    rw [show bI (fB M i 1) = 1 by
      show bI (true && decide (eM M 0 i (mP M 0) = eM M 0 i (mP M 0))) = 1
      rw [decide_eq_true rfl]
      rfl] at this
    exact this
set_option maxRecDepth 100000 in
set_option maxHeartbeats 4000000 in
theorem ok_fair : OKI mdX5_fair mdX6_fair [.ref 0] [.ref 34] := by
  intro S hI
  obtain ⟨M, hM, hC, hm, hs, ht, hf⟩ := id hI
  have w6 := hM.w6
  have h5 := hM.h5
  have hwh := hM.hw
  apply eX5_fair
  rw [hC.w]
  by_cases h0 : mW M = 0
  · refine br_t (by rw [h0]; decide) ?_
    apply eX6_fair
    rw [hm.h]
    exact nb_f (by rw [hwh.2 h0]; rfl) ⟨rfl, hI⟩
  · have tw := nI_toInt (n := mW M) (by omega)
    refine br_f (by (try simp only [fa_lt, fa_le, fa_eq, fa_lt64, fa_le64, fa_eq64, Int32.toInt_toInt64, lsub1, Int32.reduceToInt, Int64.reduceToInt, Int32.toInt_zero, Int64.toInt_zero, ti_m1, ti_m2, ti_m3, ti_m4, ti_m9] at *) <;> omega) ?_
    apply eX1_fairColumns
    refine fc4 hM hC (fun S' f => ?_) (mW M) 0 (by omega) S FrR.rfl
    have hm' := hm.fr f (by omega)
    have hI' := hI.fr f (by omega) (by omega)
    apply eX6_fair
    rw [hm'.h]
    refine nb_t (by rw [fa_lit 0, nI_eq (by omega) (by omega)]; omega) ?_
    exact mf14 (Q := fun r2 S2 => fO M (mW M) = r2 ∧ INV S2) hM hm' (fun T t => ⟨rfl, hI'.of1 t⟩) (mW M) 0 (by omega) S' rfl
