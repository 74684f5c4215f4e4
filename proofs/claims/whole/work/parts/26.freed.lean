/-! ===== dams: which are freed ===== -/
theorem fw_mono {w t k : Nat} {sg sg' d : Nat → Nat} : ∀ r c, (∀ x, x < r * w → sg x = 4 ∨ sg x = sg' x) → fw w t k sg d r c ≤ fw w t k sg' d r c
  | 0, c, _ => Nat.le_refl _
  | r + 1, c', h => by
    show sm w (fun c => fw w t k sg d r c * tw w t k (sg (r * w + c)) c c') ≤ sm w (fun c => fw w t k sg' d r c * tw w t k (sg' (r * w + c)) c c')
    refine sm_le (fun c hc => ?_)
    have es : (r + 1) * w = r * w + w := Nat.succ_mul _ _
    have ih := fw_mono (w := w) (sg := sg) (sg' := sg') (t := t) (k := k) (d := d) r c (fun x hx => h x (by omega))
    rcases h (r * w + c) (by omega) with q | q
    · rw [q, show tw w t k 4 c c' = 0 from if_pos rfl, Nat.mul_zero]
      exact Nat.zero_le _
    · rw [q]
      exact Nat.mul_le_mul_right _ ih
theorem fw_same {w t k : Nat} {sg sg' d : Nat → Nat} : ∀ r c, c < w → (∀ x, x < r * w → sg x = sg' x ∨ fw w t k sg d (x / w) (x % w) = 0) → fw w t k sg' d r c = fw w t k sg d r c
  | 0, c, _, _ => rfl
  | r + 1, c', hc', h => by
    show sm w (fun c => fw w t k sg' d r c * tw w t k (sg' (r * w + c)) c c') = sm w (fun c => fw w t k sg d r c * tw w t k (sg (r * w + c)) c c')
    refine sm_cong (fun c hc => ?_)
    have es : (r + 1) * w = r * w + w := Nat.succ_mul _ _
    have ih := fw_same (w := w) (sg := sg) (sg' := sg') (t := t) (k := k) (d := d) r c hc (fun x hx => h x (by omega))
    rcases h (r * w + c) (by omega) with q | q
    · rw [q, ih]
    · rw [rw_dv hc, rw_mod hc] at q
      rw [ih, q, Nat.zero_mul, Nat.zero_mul]
def zap (M : MS) (F : Nat → Bool) : MS := (mH M, mW M, mT M, (fun x => if F x = true then 0 else mS M x), mP M, mN M, mK M, mC M)
theorem zap_s {M : MS} {F : Nat → Bool} {x : Nat} : mS (zap M F) x = if F x = true then 0 else mS M x := rfl
theorem zap_ok {M : MS} (hM : OKM M) {F : Nat → Bool} : OKM (zap M F) := by
  obtain ⟨a1, a2, a3, a4, a5, a6⟩ := hM
  refine ⟨a1, a2, fun x hx => ?_, a4, a5, a6⟩
  rw [zap_s]
  split
  · omega
  · exact a3 x hx
def zF (M : MS) (F : Nat → Bool) : Prop := ∀ x, x < mH M * mW M → F x = true → mS M x = 4 ∧ rV M (ud 0 (mS M)) x
theorem ud0 {sg : Nat → Nat} {x : Nat} : ud 0 sg x = if sg x = 4 then 0 else sg x := by
  unfold ud
  simp only [true_and]
theorem dm_lt {w x n : Nat} {y : Nat} (hx : x < n) (hy : y < x / w * w) : y < n := by
  have := Nat.div_mul_le_self x w
  omega
theorem zap_up {M : MS} (hM : OKM M) (hw : 0 < mW M) {F : Nat → Bool} (hF : zF M F) {x : Nat} (hx : x < mH M * mW M) (h : rV (zap M F) (mS (zap M F)) x) : rV M (ud 0 (mS M)) x := by
  obtain ⟨v, hv, hf⟩ := h
  refine ⟨v, hv, Nat.lt_of_lt_of_le hf (fw_mono (x / mW M) (x % mW M) (fun y hy => ?_))⟩
  rw [zap_s, ud0]
  cases q : F y
  · rw [if_neg (by decide)]
    by_cases z : mS M y = 4
    · exact Or.inl z
    · rw [if_neg z]
      exact Or.inr rfl
  · rw [if_pos rfl, if_pos (hF y (dm_lt hx hy) q).1]
    exact Or.inr rfl
theorem zap_dn {M : MS} (hM : OKM M) (hw : 0 < mW M) {F : Nat → Bool} (hF : zF M F) (h0 : ∀ x, x < mH M * mW M → hN (zap M F) x = false) {x : Nat} (hx : x < mH M * mW M) (h : rV M (ud 0 (mS M)) x) : rV (zap M F) (mS (zap M F)) x := by
  obtain ⟨v, hv, hf⟩ := h
  refine ⟨v, hv, ?_⟩
  rw [fw_same (sg := mS (zap M F)) (x / mW M) (x % mW M) (Nat.mod_lt x hw) (fun y hy => ?_)] at hf
  · exact hf
  have hy' := dm_lt hx hy
  rw [zap_s, ud0]
  cases q : F y
  · rw [if_neg (by decide)]
    by_cases z : mS M y = 4
    · refine Or.inr ?_
      rcases Nat.eq_zero_or_pos (fw (mW M) (mT M) (mK M v) (mS (zap M F)) (d1 (mC M v)) (y / mW M) (y % mW M)) with e | e
      · exact e
      · have := hN_iff (M := zap M F) (x := y) |>.2 ⟨by rw [zap_s, if_neg (by rw [q]; decide)]; exact z, v, hv, e⟩
        rw [h0 y hy'] at this
        exact absurd this (by decide)
    · rw [if_neg z]
      exact Or.inl rfl
  · rw [if_pos rfl, if_pos (hF y hy' q).1]
    exact Or.inl rfl
/-- what was freed in the end -/
theorem zap_end {M : MS} (hM : OKM M) (hw : 0 < mW M) {F : Nat → Bool} (hF : zF M F) (h0 : msk (mH M * mW M) (hN (zap M F)) = 0) : msk (mH M * mW M) F = msk (mH M * mW M) (dG M 0) := by
  have h0' := msk_0 h0
  refine msk_eq (fun x hx => ?_)
  rw [Bool.eq_iff_iff, dG_iff hM hw]
  constructor
  · exact hF x hx
  · intro ⟨h4, hr⟩
    cases q : F x
    · have := hN_iff (M := zap M F) (x := x) |>.2 ⟨by rw [zap_s, if_neg (by rw [q]; decide)]; exact h4, zap_dn hM hw hF h0' hx hr⟩
      rw [h0' x hx] at this
      exact absurd this (by decide)
    · rfl
theorem zap_add {M : MS} (hM : OKM M) (hw : 0 < mW M) {F : Nat → Bool} (hF : zF M F) : zF M (fun x => F x || hN (zap M F) x) := by
  intro x hx h
  rw [Bool.or_eq_true] at h
  rcases h with h | h
  · exact hF x hx h
  · obtain ⟨a, b⟩ := hN_iff.1 h
    rw [zap_s] at a
    cases q : F x
    · rw [if_neg (by rw [q]; decide)] at a
      exact ⟨a, zap_up hM hw hF hx b⟩
    · rw [if_pos q] at a
      omega
def cF (n : Nat) (F : Nat → Bool) : Nat := sm n (fun x => if F x = true then 1 else 0)
theorem cF_le {F : Nat → Bool} : ∀ n, cF n F ≤ n
  | 0 => Nat.le_refl _
  | n + 1 => by
    have := cF_le (F := F) n
    show cF n F + (if F n = true then 1 else 0) ≤ n + 1
    split <;> omega
theorem sm_lt {f g : Nat → Nat} : ∀ {n}, (∀ i, i < n → f i ≤ g i) → (∃ j, j < n ∧ f j < g j) → sm n f < sm n g
  | 0, _, ⟨j, hj, _⟩ => absurd hj (Nat.not_lt_zero _)
  | n + 1, h, ⟨j, hj, hl⟩ => by
    show sm n f + f n < sm n g + g n
    have a := sm_le (f := f) (g := g) (n := n) (fun i hi => h i (by omega))
    have b := h n (by omega)
    by_cases q : j = n
    · subst q
      omega
    · have := sm_lt (f := f) (g := g) (n := n) (fun i hi => h i (by omega)) ⟨j, by omega, hl⟩
      omega
theorem cF_up {M : MS} {F : Nat → Bool} (h : ¬ msk (mH M * mW M) (hN (zap M F)) = 0) : cF (mH M * mW M) F < cF (mH M * mW M) (fun x => F x || hN (zap M F) x) := by
  have hp : 0 < sm (mH M * mW M) (fun i => if hN (zap M F) i = true then 2 ^ i else 0) := by
    have : msk (mH M * mW M) (hN (zap M F)) = sm (mH M * mW M) (fun i => if hN (zap M F) i = true then 2 ^ i else 0) := rfl
    omega
  obtain ⟨x, hx, hq⟩ := sm_pos hp
  have hx1 : hN (zap M F) x = true := by
    cases q : hN (zap M F) x
    · rw [q, if_neg (by decide)] at hq
      omega
    · rfl
  have hx2 : F x = false := by
    obtain ⟨a, _⟩ := hN_iff.1 hx1
    rw [zap_s] at a
    cases q : F x
    · rfl
    · rw [if_pos q] at a
      omega
  refine sm_lt (fun i _ => ?_) ⟨x, hx, ?_⟩
  · show (if F i = true then 1 else 0) ≤ (if (F i || hN (zap M F) i) = true then 1 else 0)
    cases F i
    · rw [if_neg (by decide)]
      exact Nat.zero_le _
    · simp
  · show (if F x = true then 1 else 0) < (if (F x || hN (zap M F) x) = true then 1 else 0)
    rw [hx2, hx1, if_neg (by decide), if_pos (by decide)]
    omega
set_option maxRecDepth 100000 in
set_option maxHeartbeats 4000000 in
theorem sa3 {S : St} {Q : St → Prop} {m : Nat} (hm : m < 2 ^ 62) {v : Int32} (h : ∀ T, (∀ q, q ≠ 36 → T.1 q = S.1 q) → (∀ c, c < 30 → T.1 36 c = if m.testBit c = true then v else S.1 36 c) → Q T) : ∀ d i, i + d = 30 → ∀ T, (∀ q, q ≠ 36 → T.1 q = S.1 q) → (∀ c, T.1 36 c = if c < i ∧ m.testBit c = true then v else S.1 36 c) → V mdX6_setAll 3 [some (.ref 34), some (.long (lN m)), none, some (.int v), some (.int (nI i))] [] T (qV Q) := by
  intro d
  induction d with
  | zero =>
    intro i hi T e1 e2
    apply eX6_setAll_3
    refine br_t (nI_le (a := 30) (by omega) (by omega)) (h T e1 (fun c hc => ?_))
    rw [e2 c]
    simp only [show c < i by omega, true_and]
  | succ d ih =>
    intro i hi T e1 e2
    apply eX6_setAll_3
    have g := pk_in (x := nI i) i 30 (by omega) rfl
    rw [wb_bit (by omega) (by omega), nI_clamp (n := i) (by omega), nI_1]
    refine br_f (nI_ge (b := 30) (by omega) (by omega)) ⟨fun q => ⟨g, g, ih (i + 1) (by omega) _ (fun p hp => by rw [sI_ne _ _ _ hp]; exact e1 p hp) (fun c => ?_)⟩, fun q => ⟨g, ih (i + 1) (by omega) _ (fun p hp => by rw [sI_ne _ _ _ hp]; exact e1 p hp) (fun c => ?_)⟩⟩
    · by_cases z : c = i
      · subst z
        rw [sI_h ⟨rfl, rfl⟩, e2 c, if_neg (by omega), if_neg (fun y => q y.2)]
      · rw [sI_o (Or.inr z), e2 c]
        simp only [show (c < i + 1) = (c < i) from propext (by omega)]
    · by_cases z : c = i
      · subst z
        rw [sI_h ⟨rfl, rfl⟩, if_pos ⟨by omega, q⟩]
      · rw [sI_o (Or.inr z), e2 c]
        simp only [show (c < i + 1) = (c < i) from propext (by omega)]
set_option maxRecDepth 100000 in
set_option maxHeartbeats 4000000 in
theorem c_setAll {S : St} {Q : St → Prop} {m : Nat} (hm : m < 2 ^ 62) {v : Int32} (h : ∀ T, (∀ q, q ≠ 36 → T.1 q = S.1 q) → (∀ c, c < 30 → T.1 36 c = if m.testBit c = true then v else S.1 36 c) → Q T) : CallV mdX6_setAll [.ref 34, .long (lN m), .int v] S (qV Q) := by
  apply eX6_setAll
  exact sa3 hm h 30 0 (by omega) S (fun _ _ => rfl) (fun c => (if_neg (fun z => absurd z.1 (Nat.not_lt_zero _))).symm)
theorem MI.q36 {S T : St} {M M' : MS} (hm : MI S M) (e : ∀ q, q ≠ 36 → T.1 q = S.1 q) (h1 : mH M' = mH M) (h2 : mW M' = mW M) (h3 : mT M' = mT M) (h4 : mN M' = mN M) (h5 : mP M' = mP M) (h6 : mK M' = mK M) (h7 : mC M' = mC M) (hs : ∀ c, c < mH M * mW M → T.1 36 c = nI (mS M' c)) : MI T M' := by
  obtain ⟨a1, a2, a3, a4, a5, a6, a7, a8⟩ := hm
  refine ⟨?_, ?_, ?_, ?_, ?_, ?_, ?_, ?_⟩
  · rw [e 34 (by decide), h1]; exact a1
  · rw [e 34 (by decide), h2]; exact a2
  · rw [e 34 (by decide), h3]; exact a3
  · rw [e 34 (by decide), h4]; exact a4
  · rw [h1, h2]; exact hs
  · rw [e 35 (by decide), h2, h5]; exact a6
  · rw [e 39 (by decide), h4, h6]; exact a7
  · rw [e 40 (by decide), h4, h7]; exact a8
set_option maxRecDepth 100000 in
set_option maxHeartbeats 4000000 in
theorem da38 {M : MS} {S0 : St} {Q : Int64 → St → Prop} (hM : OKM M) (hw : 0 < mW M) (h : ∀ S, (∀ q, q ≠ 36 → S.1 q = S0.1 q) → MI S M → Q (lN (msk (mH M * mW M) (dG M 0))) S) : ∀ m F S, 31 ≤ cF (mH M * mW M) F + m → zF M F → (∀ q, q ≠ 36 → S.1 q = S0.1 q) → MI S (zap M F) → V mdX6_dams 38 [some (.ref 34), none, none, none, some (.long (lN (msk (mH M * mW M) F))), none, some (.long (lN (msk (mH M * mW M) (hN (zap M F))))), none] [] S (qJ Q) := by
  have n30 := hM.n30
  intro m
  induction m with
  | zero =>
    intro F S hc
    have := cF_le (F := F) (mH M * mW M)
    omega
  | succ m ih =>
    intro F S hc hF e hm
    have b1 := msk_30 hM F
    have b2 := msk_30 hM (hN (zap M F))
    apply eX6_dams_38
    by_cases q : msk (mH M * mW M) (hN (zap M F)) = 0
    · refine br_t (by rw [q]; rfl) (c_setAll (by omega) (fun T e1 e2 => ?_))
      rw [zap_end hM hw hF q]
      refine h T (fun p hp => (e1 p hp).trans (e p hp)) (hm.q36 e1 rfl rfl rfl rfl rfl rfl rfl (fun c hc => ?_))
      have hc : c < mH M * mW M := hc
      rw [e2 c (by omega), hm.sg hc, zap_s, msk_bit, decide_eq_true hc, Bool.true_and]
      cases z : F c
      · rw [if_neg (by decide), if_neg (by decide)]
      · rw [if_pos rfl, (hF c hc z).1]
        rfl
    · refine br_f (by rw [fa_litL 0, pk_lEQ (by omega) (by omega)]; exact q) ?_
      rw [wb_or (by omega) (by omega), msk_uni]
      have b3 := msk_30 hM (fun x => F x || hN (zap M F) x)
      have hup := cF_up q
      refine c_setAll (by omega) (fun T e1 e2 => ?_)
      have hmT : MI T (zap M (fun x => F x || hN (zap M F) x)) := hm.q36 e1 rfl rfl rfl rfl rfl rfl rfl (fun c hc => by
        have hc : c < mH M * mW M := hc
        rw [e2 c (by omega), hm.sg hc, zap_s, zap_s, msk_bit, decide_eq_true hc, Bool.true_and]
        cases z : F c
        · cases y : hN (zap M F) c
          · simp
          · simp
            rfl
        · simp
          rfl)
      exact c_holdsNow (zap_ok hM) hmT (fun U u => ih _ U (by omega) (zap_add hM hw hF) (fun p hp => by rw [u, e1 p hp]; exact e p hp) (hmT.of1 u))
theorem SHS.q36 {S T : St} (h : SHS S) (e : ∀ q, q ≠ 36 → T.1 q = S.1 q) : SHS T := by
  unfold SHS at h ⊢
  rw [e 26 (by decide), e 27 (by decide), e 28 (by decide), e 29 (by decide), e 30 (by decide), e 31 (by decide), e 32 (by decide), e 33 (by decide), e 47 (by decide), e 48 (by decide), e 49 (by decide)]
  exact h
set_option maxRecDepth 100000 in
set_option maxHeartbeats 4000000 in
theorem ok_dams (x1 : Int32) : OKJ mdX5_dams mdX6_dams [.ref 0, .int x1] [.ref 34, .int x1] := by
  intro S hI
  obtain ⟨M, hM, hC, hm, hs, ht, hf⟩ := id hI
  have w6 := hM.w6
  have h5 := hM.h5
  have hwh := hM.hw
  apply eX5_dams
  rcases pk_ix x1 (n := 2) (by omega) with h | h | ⟨p, hp, rfl⟩
  · refine br_t h ?_
    apply eX6_dams
    exact br_t (by (try simp only [fa_lt, fa_le, fa_eq, fa_lt64, fa_le64, fa_eq64, Int32.toInt_toInt64, lsub1, Int32.reduceToInt, Int64.reduceToInt, Int32.toInt_zero, Int64.toInt_zero, ti_m1, ti_m2, ti_m3, ti_m4, ti_m9] at *) <;> omega) ⟨rfl, hI⟩
  · have h : (2 : Int32) ≤ x1 := h
    refine br_f (by (try simp only [fa_lt, fa_le, fa_eq, fa_lt64, fa_le64, fa_eq64, Int32.toInt_toInt64, lsub1, Int32.reduceToInt, Int64.reduceToInt, Int32.toInt_zero, Int64.toInt_zero, ti_m1, ti_m2, ti_m3, ti_m4, ti_m9] at *) <;> omega) (br_t (by (try simp only [fa_lt, fa_le, fa_eq, fa_lt64, fa_le64, fa_eq64, Int32.toInt_toInt64, lsub1, Int32.reduceToInt, Int64.reduceToInt, Int32.toInt_zero, Int64.toInt_zero, ti_m1, ti_m2, ti_m3, ti_m4, ti_m9] at *) <;> omega) ?_)
    apply eX6_dams
    exact br_f (by (try simp only [fa_lt, fa_le, fa_eq, fa_lt64, fa_le64, fa_eq64, Int32.toInt_toInt64, lsub1, Int32.reduceToInt, Int64.reduceToInt, Int32.toInt_zero, Int64.toInt_zero, ti_m1, ti_m2, ti_m3, ti_m4, ti_m9] at *) <;> omega) (br_t (by (try simp only [fa_lt, fa_le, fa_eq, fa_lt64, fa_le64, fa_eq64, Int32.toInt_toInt64, lsub1, Int32.reduceToInt, Int64.reduceToInt, Int32.toInt_zero, Int64.toInt_zero, ti_m1, ti_m2, ti_m3, ti_m4, ti_m9] at *) <;> omega) ⟨rfl, hI⟩)
  have tp := nI_toInt (n := p) (by omega)
  refine br_f (by (try simp only [fa_lt, fa_le, fa_eq, fa_lt64, fa_le64, fa_eq64, Int32.toInt_toInt64, lsub1, Int32.reduceToInt, Int64.reduceToInt, Int32.toInt_zero, Int64.toInt_zero, ti_m1, ti_m2, ti_m3, ti_m4, ti_m9] at *) <;> omega) (br_f (by (try simp only [fa_lt, fa_le, fa_eq, fa_lt64, fa_le64, fa_eq64, Int32.toInt_toInt64, lsub1, Int32.reduceToInt, Int64.reduceToInt, Int32.toInt_zero, Int64.toInt_zero, ti_m1, ti_m2, ti_m3, ti_m4, ti_m9] at *) <;> omega) ?_)
  rw [hC.w]
  by_cases h0 : mW M = 0
  · refine br_t (by rw [h0]; decide) ?_
    apply eX6_dams
    rw [hm.h]
    exact br_f (by (try simp only [fa_lt, fa_le, fa_eq, fa_lt64, fa_le64, fa_eq64, Int32.toInt_toInt64, lsub1, Int32.reduceToInt, Int64.reduceToInt, Int32.toInt_zero, Int64.toInt_zero, ti_m1, ti_m2, ti_m3, ti_m4, ti_m9] at *) <;> omega) (br_f (by (try simp only [fa_lt, fa_le, fa_eq, fa_lt64, fa_le64, fa_eq64, Int32.toInt_toInt64, lsub1, Int32.reduceToInt, Int64.reduceToInt, Int32.toInt_zero, Int64.toInt_zero, ti_m1, ti_m2, ti_m3, ti_m4, ti_m9] at *) <;> omega) (nb_f (by rw [hwh.2 h0]; rfl) ⟨rfl, hI⟩))
  have tw := nI_toInt (n := mW M) (by omega)
  have hw0 : 0 < mW M := by omega
  have hH : ¬ nI (mH M) = 0 := by
    rw [fa_lit 0, nI_eq (by omega) (by omega)]
    omega
  refine br_f (by (try simp only [fa_lt, fa_le, fa_eq, fa_lt64, fa_le64, fa_eq64, Int32.toInt_toInt64, lsub1, Int32.reduceToInt, Int64.reduceToInt, Int32.toInt_zero, Int64.toInt_zero, ti_m1, ti_m2, ti_m3, ti_m4, ti_m9] at *) <;> omega) ?_
  by_cases hp0 : nI p = 0
  · refine nb_f hp0 (c_damsReached (hold := 1) hM hC hw0 (by omega) (fun S' f => ?_))
    have hm' := hm.fr f (by omega)
    have hI' := hI.fr f (by omega) (by omega)
    apply eX6_dams
    rw [hm'.h]
    refine br_f (by (try simp only [fa_lt, fa_le, fa_eq, fa_lt64, fa_le64, fa_eq64, Int32.toInt_toInt64, lsub1, Int32.reduceToInt, Int64.reduceToInt, Int32.toInt_zero, Int64.toInt_zero, ti_m1, ti_m2, ti_m3, ti_m4, ti_m9] at *) <;> omega) (br_f (by (try simp only [fa_lt, fa_le, fa_eq, fa_lt64, fa_le64, fa_eq64, Int32.toInt_toInt64, lsub1, Int32.reduceToInt, Int64.reduceToInt, Int32.toInt_zero, Int64.toInt_zero, ti_m1, ti_m2, ti_m3, ti_m4, ti_m9] at *) <;> omega) (nb_t hH (c_holdsNow hM hm' (fun T t => nb_f hp0 ⟨?_, hI'.of1 t⟩))))
    rw [msk_eq (Q := hN M) (fun x hx => by rw [Bool.eq_iff_iff, dG_iff hM hw0, hN_iff, ud1])]
  · refine nb_t hp0 (c_damsReached (hold := 0) hM hC hw0 (by omega) (fun S' f => ?_))
    have hm' := hm.fr f (by omega)
    have hI' := hI.fr f (by omega) (by omega)
    apply eX6_dams
    rw [hm'.h]
    refine br_f (by (try simp only [fa_lt, fa_le, fa_eq, fa_lt64, fa_le64, fa_eq64, Int32.toInt_toInt64, lsub1, Int32.reduceToInt, Int64.reduceToInt, Int32.toInt_zero, Int64.toInt_zero, ti_m1, ti_m2, ti_m3, ti_m4, ti_m9] at *) <;> omega) (br_f (by (try simp only [fa_lt, fa_le, fa_eq, fa_lt64, fa_le64, fa_eq64, Int32.toInt_toInt64, lsub1, Int32.reduceToInt, Int64.reduceToInt, Int32.toInt_zero, Int64.toInt_zero, ti_m1, ti_m2, ti_m3, ti_m4, ti_m9] at *) <;> omega) (nb_t hH (c_holdsNow hM hm' (fun T t => nb_t hp0 ?_))))
    have := da38 (Q := fun r2 S2 => lN (msk (mH M * mW M) (dG M 0)) = r2 ∧ INV S2) (S0 := S') hM hw0 (fun U u um => ⟨rfl, M, hM, (hC.fr f (by omega)).pw (fun p i h1 h6 => by rw [u p (by omega)]), um, ?_⟩) 31 (fun _ => false) T (by omega) (fun x _ z => (Bool.false_ne_true z).elim) (fun q _ => by rw [t]) (hm'.of1 t)
    · rw [show msk (mH M * mW M) (fun _ => false) = 0 from sm_zero (fun x _ => if_neg Bool.false_ne_true)] at this
      exact this
    · obtain ⟨M2, -, -, -, hs', ht', hf'⟩ := hI'
      refine ⟨hs'.q36 u, ?_, ?_⟩
      · rw [u 0 (by decide), u 34 (by decide)]
        exact ht'
      · rw [u 0 (by decide), u 34 (by decide)]
        exact hf'
