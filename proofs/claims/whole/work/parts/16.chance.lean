/-! ===== least terms ===== -/
theorem gcd_half {u e : Nat} (h : u % 2 = 0) : Nat.gcd u (2 ^ (e + 1)) = 2 * Nat.gcd (u / 2) (2 ^ e) := by
  have h1 : u = 2 * (u / 2) := by omega
  conv => lhs; rw [h1, Nat.pow_succ, Nat.mul_comm (2 ^ e) 2]
  exact Nat.gcd_mul_left 2 _ _
theorem gcd_odd {u : Nat} (h : ¬ u % 2 = 0) : ∀ e, Nat.gcd u (2 ^ e) = 1
  | 0 => by simp
  | e + 1 => by
    have h1 : Nat.Coprime u 2 := by
      have h2 : Nat.gcd u 2 ∣ 2 := Nat.gcd_dvd_right _ _
      have h3 : Nat.gcd u 2 ∣ u := Nat.gcd_dvd_left _ _
      have h4 : Nat.gcd u 2 ≤ 2 := Nat.le_of_dvd (by decide) h2
      rcases (by omega : Nat.gcd u 2 = 0 ∨ Nat.gcd u 2 = 1 ∨ Nat.gcd u 2 = 2) with g | g | g
      · rw [g] at h2
        omega
      · exact g
      · rw [g] at h3
        omega
    exact Nat.Coprime.pow_right _ h1
set_option maxRecDepth 100000 in
set_option maxHeartbeats 4000000 in
theorem lt5 {wh : Nat} {S : St} {Q : Int32 → St → Prop} (hw : wh ≤ 1) : ∀ e u, u < 2 ^ 31 → e ≤ 15 → Q (nI (if wh = 0 then u / Nat.gcd u (2 ^ e) else 2 ^ e / Nat.gcd u (2 ^ e))) S → V mdX5_leastTerms 5 [none, some (.int (nI wh)), some (.int (nI u)), some (.int (nI (2 ^ e)))] [] S (qI Q) := by
  intro e
  induction e with
  | zero =>
    intro u hu he h
    apply eX5_leastTerms_5
    refine br_t (by decide) ?_
    rw [Nat.pow_zero, Nat.gcd_one_right, Nat.div_one] at h
    rcases (by omega : wh = 0 ∨ wh = 1) with z | z
    · rw [if_pos z] at h
      rw [z]
      exact nb_f rfl h
    · rw [if_neg (by omega)] at h
      rw [z]
      exact nb_t (by decide) h
  | succ e ih =>
    intro u hu he h
    have hp : 2 ^ e ≤ 2 ^ 14 := Nat.pow_le_pow_right (by decide) (by omega)
    have hp2 : 2 ^ (e + 1) = 2 ^ e * 2 := Nat.pow_succ 2 e
    have hp0 : 0 < 2 ^ e := Nat.pow_pos (by decide)
    apply eX5_leastTerms_5
    rw [fa_lit 2, pk_rem hu (by omega) (by omega), pk_div hu (by omega) (by omega), pk_div (by omega) (by omega) (by omega)]
    refine br_f (nI_ge (a := 1) (by omega) (by omega)) ⟨fun q => ?_, fun q => ?_⟩
    · have q' : ¬ u % 2 = 0 := fun z => q (by rw [z]; rfl)
      rw [gcd_odd q', Nat.div_one, Nat.div_one] at h
      rcases (by omega : wh = 0 ∨ wh = 1) with z | z
      · rw [if_pos z] at h
        rw [z]
        exact nb_f rfl h
      · rw [if_neg (by omega)] at h
        rw [z]
        exact nb_t (by decide) h
    · have q' : u % 2 = 0 := by
        rw [fa_lit 0, nI_eq (by omega) (by omega)] at q
        exact q
      rw [show 2 ^ (e + 1) / 2 = 2 ^ e by omega]
      refine ih (u / 2) (by omega) (by omega) ?_
      rw [gcd_half q', ← Nat.div_div_eq_div_mul, ← Nat.div_div_eq_div_mul, show 2 ^ (e + 1) / 2 = 2 ^ e by omega] at h
      exact h
def rdc (wh u l : Nat) : Nat := if wh = 0 then u / Nat.gcd u l else l / Nat.gcd u l
set_option maxRecDepth 100000 in
set_option maxHeartbeats 4000000 in
theorem c_leastTerms {wh u : Nat} {S : St} {Q : Int32 → St → Prop} (hw : wh ≤ 1) (hu : u < 2 ^ 31) (h : Q (nI (rdc wh u 32768)) S) : CallV mdX5_leastTerms [.int (nI u), .int (nI wh)] S (qI Q) := by
  apply eX5_leastTerms
  exact lt5 hw 15 u hu (by omega) h
theorem rdc_mul {wh u l a : Nat} (ha : 0 < a) : rdc wh (u * a) (l * a) = rdc wh u l := by
  unfold rdc
  rw [Nat.gcd_mul_right, Nat.mul_div_mul_right _ _ ha, Nat.mul_div_mul_right _ _ ha]
set_option maxRecDepth 100000 in
set_option maxHeartbeats 4000000 in
theorem told6 {wh N D : Nat} {S : St} {Q : Int64 → St → Prop} (hw : wh ≤ 1) (hN : N < 2 ^ 62) (hD0 : 0 < D) (hD : D < 2 ^ 62) (h : Q (lN (rdc wh N D)) S) : ∀ n y x, y < n → y < 2 ^ 62 → x < 2 ^ 62 → Nat.gcd x y = Nat.gcd N D → V mdX6_told 6 [some (.long (lN N)), none, some (.long (lN D)), none, some (.int (nI wh)), some (.long (lN x)), none, some (.long (lN y)), none, none, none] [] S (qJ Q) := by
  intro n
  induction n with
  | zero =>
    intro y x hy
    exact absurd hy (Nat.not_lt_zero _)
  | succ n ih =>
    intro y x hy hyb hxb hg
    apply eX6_told_6
    by_cases hy0 : y = 0
    · subst hy0
      rw [Nat.gcd_zero_right] at hg
      have hg0 : 0 < x := by
        rw [hg]
        exact Nat.gcd_pos_of_pos_right _ hD0
      have hx0 : ¬ lN x = 0 := by
        rw [fa_litL 0, pk_lEQ (by omega) (by omega)]
        omega
      refine br_t rfl ?_
      unfold rdc at h
      rcases (by omega : wh = 0 ∨ wh = 1) with z | z
      · rw [if_pos z, ← hg] at h
        rw [z]
        exact nb_f rfl ⟨hx0, by rw [pk_lDiv (by omega) hg0 (by omega)]; exact h⟩
      · rw [if_neg (by omega), ← hg] at h
        rw [z]
        exact nb_t (by decide) ⟨hx0, by rw [pk_lDiv (by omega) hg0 (by omega)]; exact h⟩
    · have hy1 : ¬ lN y = 0 := by
        rw [fa_litL 0, pk_lEQ (by omega) (by omega)]
        exact hy0
      refine br_f hy1 ⟨hy1, ?_⟩
      rw [pk_lRem (by omega) (by omega) (by omega)]
      have hm := Nat.mod_lt x (show 0 < y by omega)
      refine ih (x % y) y (by omega) (by omega) hyb ?_
      rw [← hg, Nat.gcd_comm x y, Nat.gcd_rec y x, Nat.gcd_comm]
set_option maxRecDepth 100000 in
set_option maxHeartbeats 4000000 in
theorem c_told {wh N D : Nat} {S : St} {Q : Int64 → St → Prop} (hw : wh ≤ 1) (hN : N < 2 ^ 62) (hD0 : 0 < D) (hD : D < 2 ^ 62) (h : Q (lN (rdc wh N D)) S) : CallV mdX6_told [.long (lN N), .long (lN D), .int (nI wh)] S (qJ Q) := by
  apply eX6_told
  exact told6 hw hN hD0 hD h (D + 1) D N (by omega) hD hN rfl
theorem rdc_le {wh u l : Nat} : rdc wh u l ≤ u + l := by
  unfold rdc
  have a := Nat.div_le_self u (Nat.gcd u l)
  have b := Nat.div_le_self l (Nat.gcd u l)
  split <;> omega
/-! ===== one vote runs down ===== -/
def DP (S : St) (M : MS) (k c0 : Nat) : Prop := ∀ r c, r ≤ mH M → c < mW M → S.1 (9 + k) (r * mW M + c) = nI (fM M k c0 r c * 8 ^ (5 - r))
theorem ud1 (sg : Nat → Nat) : ud 1 sg = sg := funext fun c => if_neg (fun z => by omega)
set_option maxRecDepth 100000 in
set_option maxHeartbeats 4000000 in
theorem c_dropT {M : MS} {S : St} (hM : OKM M) (hC : CI S M) {k c0 : Nat} (hk : k ≤ 2) (hc : c0 < mW M) {P : St → Prop} (h : ∀ S', FrR (9 + k) (10 + k) S S' → DP S' M k c0 → P S') : CallV mdJ7_fill_53178 [.ref (9 + k), .int 0] S (qV fun S4 => vp_in (nI k) 3 ∧ vp_in (nI c0) 36 ∧ CallV mdX1_runDown [.ref 7, .int (nI k), .int 1] (sI S4 (9 + k) c0 32768) (qV P)) := by
  have w6 := hM.w6
  refine c_fill (n := 36) (rs := []) (pa_lt (isPa_k hk)) (pa_lay (isPa_k hk)) (by omega) 0 _ _ ⟨pk_in k 3 (by omega), pk_in c0 36 (by omega), ?_⟩
  have f1 : FrR (9 + k) (10 + k) S (sI (sF S (9 + k) (fun j => if j < 36 then 0 else S.1 (9 + k) j)) (9 + k) c0 32768) := (FrR.fill (by omega) (by omega)).tr (FrR.put (by omega) (by omega))
  have := c_runDown (Q := P) (k := k) (hold := 1) (d := d1 c0) hM (hC.fr f1 (by omega)) (by omega) hk (by omega) (by rw [d1_sum hc]; omega) (fun x hx => ?_) (fun S' g1 g2 => h S' (f1.tr g1) (by rw [ud1] at g2; exact g2))
  · exact this
  · by_cases hxc : x = c0
    · subst hxc
      simp (disch := omega) only [sI_o, sI_h, sF_o, sF_h, sJ_1, sI_2, sF_2, sJ_o, sJ_h]
      rw [if_pos hc]
      unfold d1
      rw [if_pos rfl]
      rfl
    · simp (disch := omega) only [sI_o, sI_h, sF_o, sF_h, sJ_1, sI_2, sF_2, sJ_o, sJ_h]
      rw [if_pos hx]
      unfold d1
      rw [if_neg hxc]
      split <;> rfl
theorem DP.fM8 {M : MS} (hM : OKM M) {k c0 r c : Nat} (hc : c < mW M) (h0 : c0 < mW M) (hr : r ≤ 5) : fM M k c0 r c * 8 ^ (5 - r) ≤ 32768 := by
  have a := Nat.mul_le_mul_right (8 ^ (5 - r)) (fM_le hM (k := k) (r := r) hc h0)
  rw [← Nat.pow_add, show r + (5 - r) = 5 by omega] at a
  exact a
set_option maxRecDepth 100000 in
set_option maxHeartbeats 4000000 in
theorem c_arrived {M : MS} {S : St} (hM : OKM M) (hC : CI S M) {k c0 t : Nat} (hk : k ≤ 2) (ht : t < mW M) (hD : DP S M k c0) {Q : Int32 → St → Prop} (h : Q (nI (fM M k c0 (mH M) t * 8 ^ (5 - mH M))) S) : CallV mdX1_arrived [.ref 7, .int (nI k), .int (nI t)] S (qI Q) := by
  have n36 := hM.n36
  apply eX1_arrived
  rw [hC.N, nI_add, nI_clamp (n := k) (by omega), nI_clamp (n := mH M * mW M + t) (by omega), hD (mH M) t (Nat.le_refl _) ht]
  exact ⟨pk_in k 3 (by omega), pk_in _ 36 (show mH M * mW M + t < 36 by omega), h⟩
theorem stk_eq {M : MS} (hM : OKM M) {k c0 : Nat} (h0 : c0 < mW M) : sm (mW M) (fun t => fM M k c0 (mH M) t * 8 ^ (5 - mH M)) + kM M k c0 (mH M) * 8 ^ (5 - mH M) = 32768 := by
  have h5 := hM.h5
  have := fw_all (w := mW M) (k := k) (sg := mS M) (d := d1 c0) hM.t1 (mH M)
  rw [d1_sum h0, Nat.one_mul] at this
  rw [sm_mul, ← Nat.add_mul]
  show (sm (mW M) (fw (mW M) (mT M) k (mS M) (d1 c0) (mH M)) + stk (mW M) (mT M) k (mS M) (d1 c0) (mH M)) * _ = _
  rw [this, ← Nat.pow_add, show mH M + (5 - mH M) = 5 by omega]
set_option maxRecDepth 100000 in
set_option maxHeartbeats 4000000 in
theorem st5 {M : MS} {S : St} (hM : OKM M) (hC : CI S M) {k c0 : Nat} (hk : k ≤ 2) (h0 : c0 < mW M) (hD : DP S M k c0) {Q : Int32 → St → Prop} (h : Q (nI (kM M k c0 (mH M) * 8 ^ (5 - mH M))) S) : ∀ d i, i + d = mW M → V mdX1_stuck 5 [some (.ref 7), some (.int (nI k)), some (.int (nI (32768 - sm i (fun t => fM M k c0 (mH M) t * 8 ^ (5 - mH M))))), some (.int (nI i))] [] S (qI Q) := by
  have w6 := hM.w6
  have key := stk_eq hM (k := k) h0
  intro d
  induction d with
  | zero =>
    intro i hi
    have : i = mW M := by omega
    subst this
    apply eX1_stuck_5
    rw [hC.w]
    refine br_t (nI_le (Nat.le_refl _) (by omega)) ?_
    rw [show 32768 - sm (mW M) (fun t => fM M k c0 (mH M) t * 8 ^ (5 - mH M)) = kM M k c0 (mH M) * 8 ^ (5 - mH M) by omega]
    exact h
  | succ d ih =>
    intro i hi
    have hle : sm (i + 1) (fun t => fM M k c0 (mH M) t * 8 ^ (5 - mH M)) ≤ sm (mW M) (fun t => fM M k c0 (mH M) t * 8 ^ (5 - mH M)) := sm_mono (by omega)
    have hs : sm (i + 1) (fun t => fM M k c0 (mH M) t * 8 ^ (5 - mH M)) = sm i (fun t => fM M k c0 (mH M) t * 8 ^ (5 - mH M)) + fM M k c0 (mH M) i * 8 ^ (5 - mH M) := rfl
    apply eX1_stuck_5
    rw [hC.w, nI_1]
    refine br_f (nI_ge (by omega) (by omega)) (c_arrived hM hC hk (by omega) hD ?_)
    rw [pk_sub (by omega)]
    have := ih (i + 1) (by omega)
    rw [show 32768 - sm (i + 1) (fun t => fM M k c0 (mH M) t * 8 ^ (5 - mH M)) = 32768 - sm i (fun t => fM M k c0 (mH M) t * 8 ^ (5 - mH M)) - fM M k c0 (mH M) i * 8 ^ (5 - mH M) by omega] at this
    exact this
set_option maxRecDepth 100000 in
set_option maxHeartbeats 4000000 in
theorem c_stuck {M : MS} {S : St} (hM : OKM M) (hC : CI S M) {k c0 : Nat} (hk : k ≤ 2) (h0 : c0 < mW M) (hD : DP S M k c0) {Q : Int32 → St → Prop} (h : Q (nI (kM M k c0 (mH M) * 8 ^ (5 - mH M))) S) : CallV mdX1_stuck [.ref 7, .int (nI k)] S (qI Q) := by
  apply eX1_stuck
  exact st5 hM hC hk h0 hD h (mW M) 0 (by omega)

theorem rdc_eq {M : MS} (hM : OKM M) (wh N : Nat) : rdc wh (N * 8 ^ (5 - mH M)) 32768 = rdc wh N (8 ^ mH M) := by
  have h5 := hM.h5
  rw [← rdc_mul (a := 8 ^ (5 - mH M)) (u := N) (l := 8 ^ mH M) (Nat.pow_pos (by decide)), ← Nat.pow_add, show mH M + (5 - mH M) = 5 by omega]
set_option maxRecDepth 100000 in
set_option maxHeartbeats 4000000 in
theorem both_told {M : MS} (hM : OKM M) {S : St} {wh N : Nat} (hw : wh ≤ 1) (hN : N * 8 ^ (5 - mH M) ≤ 262144) {Qm : St → Prop} {ym : MD} {am : List Value} (hcall : ∀ (S : St) (Q : Int64 → St → Prop), Qm S → (∀ S', S'.1 = S.1 → Q (lN (rdc wh N (8 ^ mH M))) S') → CallV ym am S (qJ Q)) (hq : Qm S) (hI : INV S) : CallV mdX5_leastTerms [.int (nI (N * 8 ^ (5 - mH M))), .int (nI wh)] S (qI fun r S2 => CallV ym am S2 (qJ fun r2 S3 => r.toInt64 = r2 ∧ INV S3)) := by
  have h5 := hM.h5
  have hp := pow8_le (r := mH M) h5
  have hp0 : 0 < 8 ^ (5 - mH M) := Nat.pow_pos (by decide)
  have hNN : N ≤ 262144 := Nat.le_trans (Nat.le_mul_of_pos_right _ hp0) hN
  refine c_leastTerms hw (by omega) ?_
  refine hcall S _ hq (fun S' e => ⟨?_, hI.of1 e⟩)
  rw [rdc_eq hM]
  have := rdc_le (wh := wh) (u := N) (l := 8 ^ mH M)
  exact nI_l (by omega)
set_option maxRecDepth 100000 in
set_option maxHeartbeats 4000000 in
theorem m_told {M : MS} (hM : OKM M) {S : St} {wh N : Nat} (hw : wh ≤ 1) (hN : N ≤ 262144) {Q : Int64 → St → Prop} (h : Q (lN (rdc wh N (8 ^ mH M))) S) : CallV mdX6_told [.long (lN N), .long (lN (8 ^ mH M)), .int (nI wh)] S (qJ Q) := by
  have hp := pow8_le (r := mH M) hM.h5
  exact c_told hw (by omega) (Nat.pow_pos (by decide)) (by omega) h
theorem kM_le {M : MS} (hM : OKM M) {k c0 : Nat} (h0 : c0 < mW M) : kM M k c0 (mH M) * 8 ^ (5 - mH M) ≤ 32768 := by
  have := stk_eq hM (k := k) h0
  omega
set_option maxRecDepth 100000 in
set_option maxHeartbeats 4000000 in
theorem ok_chance (x1 x2 x3 : Int32) : OKJ mdX5_chance mdX6_chance [.ref 0, .int x1, .int x2, .int x3] [.ref 34, .int x1, .int x2, .int x3] := by
  intro S hI
  obtain ⟨M, hM, hC, hm, hs, ht, hf⟩ := id hI
  have n8 := hM.n8
  have w6 := hM.w6
  have h5 := hM.h5
  have tn := nI_toInt (n := mN M) (by omega)
  have tw := nI_toInt (n := mW M) (by omega)
  apply eX5_chance
  rw [hC.n, hC.w]
  rcases pk_ix x1 (n := mN M) (by omega) with h | h | ⟨v, hv, rfl⟩
  · refine br_t h ?_
    apply eX6_chance
    rw [hm.n]
    exact br_t (by (try simp only [fa_lt, fa_le, fa_eq, fa_lt64, fa_le64, fa_eq64, Int32.toInt_toInt64, lsub1, Int32.reduceToInt, Int64.reduceToInt, Int32.toInt_zero, Int64.toInt_zero, ti_m1, ti_m2, ti_m3, ti_m4, ti_m9] at *) <;> omega) ⟨rfl, hI⟩
  · refine br_f (by (try simp only [fa_lt, fa_le, fa_eq, fa_lt64, fa_le64, fa_eq64, Int32.toInt_toInt64, lsub1, Int32.reduceToInt, Int64.reduceToInt, Int32.toInt_zero, Int64.toInt_zero, ti_m1, ti_m2, ti_m3, ti_m4, ti_m9] at *) <;> omega) (br_t h ?_)
    apply eX6_chance
    rw [hm.n]
    exact br_f (by (try simp only [fa_lt, fa_le, fa_eq, fa_lt64, fa_le64, fa_eq64, Int32.toInt_toInt64, lsub1, Int32.reduceToInt, Int64.reduceToInt, Int32.toInt_zero, Int64.toInt_zero, ti_m1, ti_m2, ti_m3, ti_m4, ti_m9] at *) <;> omega) (br_t (by (try simp only [fa_lt, fa_le, fa_eq, fa_lt64, fa_le64, fa_eq64, Int32.toInt_toInt64, lsub1, Int32.reduceToInt, Int64.reduceToInt, Int32.toInt_zero, Int64.toInt_zero, ti_m1, ti_m2, ti_m3, ti_m4, ti_m9] at *) <;> omega) ⟨rfl, hI⟩)
  have tv := nI_toInt (n := v) (by omega)
  have a1 : ¬ (nI v).toInt64 < 0 := (by (try simp only [fa_lt, fa_le, fa_eq, fa_lt64, fa_le64, fa_eq64, Int32.toInt_toInt64, lsub1, Int32.reduceToInt, Int64.reduceToInt, Int32.toInt_zero, Int64.toInt_zero, ti_m1, ti_m2, ti_m3, ti_m4, ti_m9] at *) <;> omega)
  have a2 : ¬ ((nI (mN M)).toInt64 - 1 < (nI v).toInt64) := (by (try simp only [fa_lt, fa_le, fa_eq, fa_lt64, fa_le64, fa_eq64, Int32.toInt_toInt64, lsub1, Int32.reduceToInt, Int64.reduceToInt, Int32.toInt_zero, Int64.toInt_zero, ti_m1, ti_m2, ti_m3, ti_m4, ti_m9] at *) <;> omega)
  have g8 : vp_in (nI v) 8 := pk_in v 8 (by omega)
  have cv := nI_clamp (n := v) (by omega)
  have hk := hM.k2 hv
  have hc := hM.cw hv
  refine br_f (by (try simp only [fa_lt, fa_le, fa_eq, fa_lt64, fa_le64, fa_eq64, Int32.toInt_toInt64, lsub1, Int32.reduceToInt, Int64.reduceToInt, Int32.toInt_zero, Int64.toInt_zero, ti_m1, ti_m2, ti_m3, ti_m4, ti_m9] at *) <;> omega) (br_f (by (try simp only [fa_lt, fa_le, fa_eq, fa_lt64, fa_le64, fa_eq64, Int32.toInt_toInt64, lsub1, Int32.reduceToInt, Int64.reduceToInt, Int32.toInt_zero, Int64.toInt_zero, ti_m1, ti_m2, ti_m3, ti_m4, ti_m9] at *) <;> omega) ?_)
  rw [cv, hC.kd hv, hC.co hv]
  have ckk := nI_clamp (n := mK M v) (by omega)
  have ckc := nI_clamp (n := mC M v) (by omega)
  rw [ckk, ckc]
  have g3 : vp_in (nI (mK M v)) 3 := pk_in _ 3 (show mK M v < 3 by omega)
  have dropped : ∀ {P : St → Prop}, (∀ S', FrR (9 + mK M v) (10 + mK M v) S S' → DP S' M (mK M v) (mC M v) → P S') → CallV mdJ7_fill_53178 [.ref (9 + mK M v), .int 0] S (qV fun S4 => vp_in (nI (mK M v)) 3 ∧ vp_in (nI (mC M v)) 36 ∧ CallV mdX1_runDown [.ref 7, .int (nI (mK M v)), .int 1] (sI S4 (9 + mK M v) (mC M v) 32768) (qV P)) := fun h => c_dropT hM hC hk hc h
  by_cases e1 : x2 = -1
  · refine br_t e1 ?_
    rcases pk_ix x3 (n := 2) (by omega) with h | h | ⟨wh, hwh, rfl⟩
    · refine br_t h ?_
      apply eX6_chance
      rw [hm.n]
      exact br_f a1 (br_f a2 (br_t e1 (br_t (by (try simp only [fa_lt, fa_le, fa_eq, fa_lt64, fa_le64, fa_eq64, Int32.toInt_toInt64, lsub1, Int32.reduceToInt, Int64.reduceToInt, Int32.toInt_zero, Int64.toInt_zero, ti_m1, ti_m2, ti_m3, ti_m4, ti_m9] at *) <;> omega) ⟨rfl, hI⟩)))
    · have h : (2 : Int32) ≤ x3 := h
      refine br_f (by (try simp only [fa_lt, fa_le, fa_eq, fa_lt64, fa_le64, fa_eq64, Int32.toInt_toInt64, lsub1, Int32.reduceToInt, Int64.reduceToInt, Int32.toInt_zero, Int64.toInt_zero, ti_m1, ti_m2, ti_m3, ti_m4, ti_m9] at *) <;> omega) (br_f (by (try simp only [fa_lt, fa_le, fa_eq, fa_lt64, fa_le64, fa_eq64, Int32.toInt_toInt64, lsub1, Int32.reduceToInt, Int64.reduceToInt, Int32.toInt_zero, Int64.toInt_zero, ti_m1, ti_m2, ti_m3, ti_m4, ti_m9] at *) <;> omega) ?_)
      apply eX6_chance
      rw [hm.n]
      exact br_f a1 (br_f a2 (br_t e1 (br_f (by (try simp only [fa_lt, fa_le, fa_eq, fa_lt64, fa_le64, fa_eq64, Int32.toInt_toInt64, lsub1, Int32.reduceToInt, Int64.reduceToInt, Int32.toInt_zero, Int64.toInt_zero, ti_m1, ti_m2, ti_m3, ti_m4, ti_m9] at *) <;> omega) (br_t (by (try simp only [fa_lt, fa_le, fa_eq, fa_lt64, fa_le64, fa_eq64, Int32.toInt_toInt64, lsub1, Int32.reduceToInt, Int64.reduceToInt, Int32.toInt_zero, Int64.toInt_zero, ti_m1, ti_m2, ti_m3, ti_m4, ti_m9] at *) <;> omega) ⟨rfl, hI⟩))))
    have twh := nI_toInt (n := wh) (by omega)
    refine br_f (by (try simp only [fa_lt, fa_le, fa_eq, fa_lt64, fa_le64, fa_eq64, Int32.toInt_toInt64, lsub1, Int32.reduceToInt, Int64.reduceToInt, Int32.toInt_zero, Int64.toInt_zero, ti_m1, ti_m2, ti_m3, ti_m4, ti_m9] at *) <;> omega) (br_t (by (try simp only [fa_lt, fa_le, fa_eq, fa_lt64, fa_le64, fa_eq64, Int32.toInt_toInt64, lsub1, Int32.reduceToInt, Int64.reduceToInt, Int32.toInt_zero, Int64.toInt_zero, ti_m1, ti_m2, ti_m3, ti_m4, ti_m9] at *) <;> omega) ⟨g8, g8, g3, dropped (fun S' f hD => ?_)⟩)
    have hC' := hC.fr f (by omega)
    have hm' := hm.fr f (by omega)
    have hI' := hI.fr f (by omega) (by omega)
    refine nb_f e1 ⟨g8, ?_⟩
    rw [hC'.kd hv]
    refine c_stuck hM hC' hk hc hD ?_
    refine both_told hM (wh := wh) (by omega) (by have := kM_le hM (k := mK M v) hc; omega) (Qm := fun S => MI S M) (fun S2 Q h2 hq => ?_) hm' hI'
    apply eX6_chance
    rw [h2.n, cv, h2.kd hv, h2.co hv]
    refine br_f a1 (br_f a2 (br_t e1 (br_f (by (try simp only [fa_lt, fa_le, fa_eq, fa_lt64, fa_le64, fa_eq64, Int32.toInt_toInt64, lsub1, Int32.reduceToInt, Int64.reduceToInt, Int32.toInt_zero, Int64.toInt_zero, ti_m1, ti_m2, ti_m3, ti_m4, ti_m9] at *) <;> omega) (br_f (by (try simp only [fa_lt, fa_le, fa_eq, fa_lt64, fa_le64, fa_eq64, Int32.toInt_toInt64, lsub1, Int32.reduceToInt, Int64.reduceToInt, Int32.toInt_zero, Int64.toInt_zero, ti_m1, ti_m2, ti_m3, ti_m4, ti_m9] at *) <;> omega) ⟨g8, g8, c_layChances hM h2 hk hc (fun T t1 t2 => br_f (by rw [e1]; decide) ?_)⟩))))
    rw [t2.2.1, t2.2.2.1]
    refine m_told hM (by omega) ?_ (hq T t1)
    have := kM_le hM (k := mK M v) hc
    have hp0 : 0 < 8 ^ (5 - mH M) := Nat.pow_pos (by decide)
    have := Nat.le_mul_of_pos_right (kM M (mK M v) (mC M v) (mH M)) hp0
    omega
  · refine br_f e1 ?_
    rcases pk_ix x2 (n := mW M) (by omega) with h | h | ⟨t, htw, rfl⟩
    · refine br_t h ?_
      apply eX6_chance
      rw [hm.n, hm.w]
      exact br_f a1 (br_f a2 (br_f e1 (br_t (by (try simp only [fa_lt, fa_le, fa_eq, fa_lt64, fa_le64, fa_eq64, Int32.toInt_toInt64, lsub1, Int32.reduceToInt, Int64.reduceToInt, Int32.toInt_zero, Int64.toInt_zero, ti_m1, ti_m2, ti_m3, ti_m4, ti_m9] at *) <;> omega) ⟨rfl, hI⟩)))
    · refine br_f (by (try simp only [fa_lt, fa_le, fa_eq, fa_lt64, fa_le64, fa_eq64, Int32.toInt_toInt64, lsub1, Int32.reduceToInt, Int64.reduceToInt, Int32.toInt_zero, Int64.toInt_zero, ti_m1, ti_m2, ti_m3, ti_m4, ti_m9] at *) <;> omega) (br_t h ?_)
      apply eX6_chance
      rw [hm.n, hm.w]
      exact br_f a1 (br_f a2 (br_f e1 (br_f (by (try simp only [fa_lt, fa_le, fa_eq, fa_lt64, fa_le64, fa_eq64, Int32.toInt_toInt64, lsub1, Int32.reduceToInt, Int64.reduceToInt, Int32.toInt_zero, Int64.toInt_zero, ti_m1, ti_m2, ti_m3, ti_m4, ti_m9] at *) <;> omega) (br_t (by (try simp only [fa_lt, fa_le, fa_eq, fa_lt64, fa_le64, fa_eq64, Int32.toInt_toInt64, lsub1, Int32.reduceToInt, Int64.reduceToInt, Int32.toInt_zero, Int64.toInt_zero, ti_m1, ti_m2, ti_m3, ti_m4, ti_m9] at *) <;> omega) ⟨rfl, hI⟩))))
    have ttt := nI_toInt (n := t) (by omega)
    have a3 : ¬ (nI t).toInt64 < 0 := (by (try simp only [fa_lt, fa_le, fa_eq, fa_lt64, fa_le64, fa_eq64, Int32.toInt_toInt64, lsub1, Int32.reduceToInt, Int64.reduceToInt, Int32.toInt_zero, Int64.toInt_zero, ti_m1, ti_m2, ti_m3, ti_m4, ti_m9] at *) <;> omega)
    have a4 : ¬ ((nI (mW M)).toInt64 - 1 < (nI t).toInt64) := (by (try simp only [fa_lt, fa_le, fa_eq, fa_lt64, fa_le64, fa_eq64, Int32.toInt_toInt64, lsub1, Int32.reduceToInt, Int64.reduceToInt, Int32.toInt_zero, Int64.toInt_zero, ti_m1, ti_m2, ti_m3, ti_m4, ti_m9] at *) <;> omega)
    refine br_f (by (try simp only [fa_lt, fa_le, fa_eq, fa_lt64, fa_le64, fa_eq64, Int32.toInt_toInt64, lsub1, Int32.reduceToInt, Int64.reduceToInt, Int32.toInt_zero, Int64.toInt_zero, ti_m1, ti_m2, ti_m3, ti_m4, ti_m9] at *) <;> omega) (br_f (by (try simp only [fa_lt, fa_le, fa_eq, fa_lt64, fa_le64, fa_eq64, Int32.toInt_toInt64, lsub1, Int32.reduceToInt, Int64.reduceToInt, Int32.toInt_zero, Int64.toInt_zero, ti_m1, ti_m2, ti_m3, ti_m4, ti_m9] at *) <;> omega) ?_)
    rcases pk_ix x3 (n := 2) (by omega) with h | h | ⟨wh, hwh, rfl⟩
    · refine br_t h ?_
      apply eX6_chance
      rw [hm.n, hm.w]
      exact br_f a1 (br_f a2 (br_f e1 (br_f a3 (br_f a4 (br_t (by (try simp only [fa_lt, fa_le, fa_eq, fa_lt64, fa_le64, fa_eq64, Int32.toInt_toInt64, lsub1, Int32.reduceToInt, Int64.reduceToInt, Int32.toInt_zero, Int64.toInt_zero, ti_m1, ti_m2, ti_m3, ti_m4, ti_m9] at *) <;> omega) ⟨rfl, hI⟩)))))
    · have h : (2 : Int32) ≤ x3 := h
      refine br_f (by (try simp only [fa_lt, fa_le, fa_eq, fa_lt64, fa_le64, fa_eq64, Int32.toInt_toInt64, lsub1, Int32.reduceToInt, Int64.reduceToInt, Int32.toInt_zero, Int64.toInt_zero, ti_m1, ti_m2, ti_m3, ti_m4, ti_m9] at *) <;> omega) (br_f (by (try simp only [fa_lt, fa_le, fa_eq, fa_lt64, fa_le64, fa_eq64, Int32.toInt_toInt64, lsub1, Int32.reduceToInt, Int64.reduceToInt, Int32.toInt_zero, Int64.toInt_zero, ti_m1, ti_m2, ti_m3, ti_m4, ti_m9] at *) <;> omega) ?_)
      apply eX6_chance
      rw [hm.n, hm.w]
      exact br_f a1 (br_f a2 (br_f e1 (br_f a3 (br_f a4 (br_f (by (try simp only [fa_lt, fa_le, fa_eq, fa_lt64, fa_le64, fa_eq64, Int32.toInt_toInt64, lsub1, Int32.reduceToInt, Int64.reduceToInt, Int32.toInt_zero, Int64.toInt_zero, ti_m1, ti_m2, ti_m3, ti_m4, ti_m9] at *) <;> omega) (br_t (by (try simp only [fa_lt, fa_le, fa_eq, fa_lt64, fa_le64, fa_eq64, Int32.toInt_toInt64, lsub1, Int32.reduceToInt, Int64.reduceToInt, Int32.toInt_zero, Int64.toInt_zero, ti_m1, ti_m2, ti_m3, ti_m4, ti_m9] at *) <;> omega) ⟨rfl, hI⟩))))))
    have twh := nI_toInt (n := wh) (by omega)
    refine br_f (by (try simp only [fa_lt, fa_le, fa_eq, fa_lt64, fa_le64, fa_eq64, Int32.toInt_toInt64, lsub1, Int32.reduceToInt, Int64.reduceToInt, Int32.toInt_zero, Int64.toInt_zero, ti_m1, ti_m2, ti_m3, ti_m4, ti_m9] at *) <;> omega) (br_t (by (try simp only [fa_lt, fa_le, fa_eq, fa_lt64, fa_le64, fa_eq64, Int32.toInt_toInt64, lsub1, Int32.reduceToInt, Int64.reduceToInt, Int32.toInt_zero, Int64.toInt_zero, ti_m1, ti_m2, ti_m3, ti_m4, ti_m9] at *) <;> omega) ⟨g8, g8, g3, dropped (fun S' f hD => ?_)⟩)
    have hC' := hC.fr f (by omega)
    have hm' := hm.fr f (by omega)
    have hI' := hI.fr f (by omega) (by omega)
    refine nb_t e1 ⟨g8, ?_⟩
    rw [hC'.kd hv]
    have hb := DP.fM8 hM (k := mK M v) (r := mH M) htw hc h5
    have hp0 : 0 < 8 ^ (5 - mH M) := Nat.pow_pos (by decide)
    have hb2 := Nat.le_mul_of_pos_right (fM M (mK M v) (mC M v) (mH M) t) hp0
    refine c_arrived hM hC' hk htw hD ?_
    refine both_told hM (wh := wh) (by omega) (by omega) (Qm := fun S => MI S M) (fun S2 Q h2 hq => ?_) hm' hI'
    apply eX6_chance
    rw [h2.n, h2.w, cv, h2.kd hv, h2.co hv]
    refine br_f a1 (br_f a2 (br_f e1 (br_f a3 (br_f a4 (br_f (by (try simp only [fa_lt, fa_le, fa_eq, fa_lt64, fa_le64, fa_eq64, Int32.toInt_toInt64, lsub1, Int32.reduceToInt, Int64.reduceToInt, Int32.toInt_zero, Int64.toInt_zero, ti_m1, ti_m2, ti_m3, ti_m4, ti_m9] at *) <;> omega) (br_f (by (try simp only [fa_lt, fa_le, fa_eq, fa_lt64, fa_le64, fa_eq64, Int32.toInt_toInt64, lsub1, Int32.reduceToInt, Int64.reduceToInt, Int32.toInt_zero, Int64.toInt_zero, ti_m1, ti_m2, ti_m3, ti_m4, ti_m9] at *) <;> omega) ⟨g8, g8, c_layChances hM h2 hk hc (fun T t1 t2 => br_t (nI_pos' (by omega)) ⟨pk_in t 7 (by omega), ?_⟩)⟩))))))
    rw [nI_clamp (n := t) (by omega), t2.1 t htw, t2.2.2.1]
    exact m_told hM (by omega) (by omega) (hq T t1)
