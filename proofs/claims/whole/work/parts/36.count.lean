/-! ===== ints by their bits ===== -/
theorem wi_inj {a b : Int32} (h : a.toBitVec = b.toBitVec) : a = b := Int32.toBitVec_inj.mp h
theorem wi_tb (n : Nat) : (nI n).toBitVec = BitVec.ofNat 32 n := rfl
theorem wi_c : ∀ k, k < 32 → (nI k &&& 31) = nI k := by decide +kernel
theorem wi_sm : ∀ k, k < 32 → (BitVec.ofNat 32 k).smod 32 = BitVec.ofNat 32 k := by decide +kernel
theorem wi_1 : ∀ k, k < 31 → (1 : Int32) <<< (nI k &&& 31) = nI (2 ^ k) := by decide +kernel
theorem wi_and {a b : Nat} (ha : a < 2 ^ 32) (hb : b < 2 ^ 32) : nI a &&& nI b = nI (a &&& b) := by
  apply wi_inj
  rw [Int32.toBitVec_and, wi_tb, wi_tb, wi_tb]
  apply BitVec.eq_of_toNat_eq
  rw [BitVec.toNat_and, BitVec.toNat_ofNat, BitVec.toNat_ofNat, BitVec.toNat_ofNat, Nat.mod_eq_of_lt ha, Nat.mod_eq_of_lt hb, Nat.mod_eq_of_lt (Nat.and_lt_two_pow _ hb)]
theorem wi_or {a b : Nat} (ha : a < 2 ^ 32) (hb : b < 2 ^ 32) : nI a ||| nI b = nI (a ||| b) := by
  apply wi_inj
  rw [Int32.toBitVec_or, wi_tb, wi_tb, wi_tb]
  apply BitVec.eq_of_toNat_eq
  rw [BitVec.toNat_or, BitVec.toNat_ofNat, BitVec.toNat_ofNat, BitVec.toNat_ofNat, Nat.mod_eq_of_lt ha, Nat.mod_eq_of_lt hb, Nat.mod_eq_of_lt (Nat.or_lt_two_pow ha hb)]
theorem wi_shr {n k : Nat} (hn : n < 2 ^ 31) (hk : k < 32) : nI n >>> (nI k &&& 31) = nI (n / 2 ^ k) := by
  rw [wi_c k hk]
  apply wi_inj
  rw [Int32.toBitVec_shiftRight, wi_tb, wi_tb, wi_tb, wi_sm k hk]
  have e : (BitVec.ofNat 32 n).msb = false := by
    rw [BitVec.msb_eq_decide, BitVec.toNat_ofNat, Nat.mod_eq_of_lt (by omega)]
    exact decide_eq_false (by omega)
  apply BitVec.eq_of_toNat_eq
  rw [BitVec.sshiftRight_eq', BitVec.sshiftRight_eq_of_msb_false e, BitVec.toNat_ushiftRight, BitVec.toNat_ofNat, BitVec.toNat_ofNat, BitVec.toNat_ofNat, Nat.mod_eq_of_lt (show k < 2 ^ 32 by omega), Nat.mod_eq_of_lt (show n < 2 ^ 32 by omega), Nat.shiftRight_eq_div_pow, Nat.mod_eq_of_lt]
  have := Nat.div_le_self n (2 ^ k)
  omega
theorem wi_bit {n k : Nat} (hn : n < 2 ^ 31) (hk : k < 32) : ((nI n >>> (nI k &&& 31)) &&& 1 = 1) ↔ n.testBit k = true := by
  have := Nat.div_le_self n (2 ^ k)
  rw [wi_shr hn hk, fa_lit 1, wi_and (by omega) (by omega), Nat.and_one_is_mod, nI_eq (by omega) (by omega), Nat.testBit_eq_decide_div_mod_eq, decide_eq_true_iff]
theorem m7_lt {P : Nat → Bool} : msk 7 P < 128 := msk_lt P 7
theorem m7_bit {P : Nat → Bool} {e : Nat} (h : e < 7) : (msk 7 P).testBit e = P e := by
  rw [msk_bit, decide_eq_true h, Bool.true_and]
theorem m7_or {P Q : Nat → Bool} {t : Nat} (ht : t < 7) (h : ∀ e, e < 7 → Q e = (P e || decide (e = t))) : msk 7 P ||| 2 ^ t = msk 7 Q := by
  apply Nat.eq_of_testBit_eq
  intro j
  rw [Nat.testBit_or, msk_bit, msk_bit, Nat.testBit_two_pow]
  by_cases q : j < 7
  · rw [decide_eq_true q, h j q]
    simp [eq_comm]
  · rw [decide_eq_false q]
    simp
    omega
/-! ===== where a vote can come to ===== -/
def vE (M : MS) (v e : Nat) : Bool := if e = 6 then decide (0 < kM M (mK M v) (mC M v) (mH M)) else (decide (e < mW M) && decide (0 < fM M (mK M v) (mC M v) (mH M) e))
def vEt (M : MS) (v t e : Nat) : Bool := (decide (e < t) || decide (e = 6)) && vE M v e
theorem vEt_s {M : MS} {v t : Nat} (hw : mW M ≤ 6) (ht : t < mW M) (h : vE M v t = true) : ∀ e, e < 7 → vEt M v (t + 1) e = (vEt M v t e || decide (e = t)) := by
  intro e he
  unfold vEt
  by_cases q : e = t
  · subst q
    rw [h]
    simp
  · have : decide (e < t + 1) = decide (e < t) := decide_eq_decide.mpr (by omega)
    rw [this, decide_eq_false q, Bool.or_false]
theorem vEt_n {M : MS} {v t : Nat} (h : vE M v t = false) : ∀ e, e < 7 → vEt M v (t + 1) e = vEt M v t e := by
  intro e he
  unfold vEt
  by_cases q : e = t
  · subst q
    rw [h, Bool.and_false, Bool.and_false]
  · have : decide (e < t + 1) = decide (e < t) := decide_eq_decide.mpr (by omega)
    rw [this]
theorem vEt_W {M : MS} {v : Nat} : ∀ e, e < 7 → vEt M v (mW M) e = vE M v e := by
  intro e he
  unfold vEt
  by_cases q : e = 6
  · rw [decide_eq_true q, Bool.or_true, Bool.true_and]
  · rw [decide_eq_false q, Bool.or_false]
    unfold vE
    rw [if_neg q]
    cases decide (e < mW M) <;> simp
set_option maxRecDepth 100000 in
set_option maxHeartbeats 4000000 in
theorem eo42 {M : MS} {S : St} {Q : Int32 → St → Prop} (hM : OKM M) (hC : CI S M) {v : Nat} (hv : v < mN M) (hD : DP S M (mK M v) (mC M v)) (h : Q (nI (msk 7 (vE M v))) S) : ∀ d t, t + d = mW M → V mdX1_endsOf 42 [some (.ref 7), none, some (.int (nI (mK M v))), some (.int (nI (msk 7 (vEt M v t)))), some (.int (nI t))] [] S (qI Q) := by
  have w6 := hM.w6
  have h5 := hM.h5
  have hk := hM.k2 hv
  have hc := hM.cw hv
  have hp0 : 0 < 8 ^ (5 - mH M) := Nat.pow_pos (by decide)
  intro d
  induction d with
  | zero =>
    intro t ht
    have : t = mW M := by omega
    subst this
    apply eX1_endsOf_42
    rw [hC.w, msk_eq vEt_W]
    exact br_t (nI_le (Nat.le_refl _) (by omega)) h
  | succ d ih =>
    intro t ht
    have b1 := DP.fM8 hM (k := mK M v) (r := mH M) (c := t) (by omega) hc h5
    have nx := ih (t + 1) (by omega)
    have ev : vE M v t = decide (0 < fM M (mK M v) (mC M v) (mH M) t) := by
      unfold vE
      rw [if_neg (by omega), decide_eq_true (by omega), Bool.true_and]
    have l7 := m7_lt (P := vEt M v t)
    have p7 : 2 ^ t ≤ 2 ^ 6 := Nat.pow_le_pow_right (by decide) (by omega)
    apply eX1_endsOf_42
    rw [hC.w, nI_1]
    refine br_f (nI_ge (by omega) (by omega)) (c_arrived hM hC hk (by omega) hD ?_)
    rw [fa_lit 0, nI_leI (by omega) (by omega)]
    refine ⟨fun q => ?_, fun q => ?_⟩
    · have q0 : ¬ 0 < fM M (mK M v) (mC M v) (mH M) t := fun z => by
        have := Nat.mul_pos z hp0
        omega
      rw [decide_eq_false q0] at ev
      rw [← msk_eq (vEt_n ev)]
      exact nx
    · have q0 : 0 < fM M (mK M v) (mC M v) (mH M) t := Nat.pos_of_mul_pos_right (show 0 < fM M (mK M v) (mC M v) (mH M) t * 8 ^ (5 - mH M) by omega)
      rw [decide_eq_true q0] at ev
      rw [wi_1 t (by omega), wi_or (by omega) (by omega), m7_or (by omega) (vEt_s w6 (by omega) ev)]
      exact nx
set_option maxRecDepth 100000 in
set_option maxHeartbeats 4000000 in
theorem c_endsOf {M : MS} {S : St} {Q : Int32 → St → Prop} (hM : OKM M) (hC : CI S M) {v : Nat} (hv : v < mN M) (h : ∀ S', FrR 9 12 S S' → Q (nI (msk 7 (vE M v))) S') : CallV mdX1_endsOf [.ref 7, .int (nI v)] S (qI Q) := by
  have n8 := hM.n8
  have w6 := hM.w6
  have h5 := hM.h5
  have hk := hM.k2 hv
  have hc := hM.cw hv
  have g8 : vp_in (nI v) 8 := pk_in v 8 (by omega)
  apply eX1_endsOf
  rw [nI_clamp (n := v) (by omega), hC.kd hv, hC.co hv, nI_clamp (n := mK M v) (by omega), nI_clamp (n := mC M v) (by omega)]
  refine ⟨g8, g8, pk_in _ 3 (show mK M v < 3 by omega), c_dropT hM hC hk hc (fun S' f hD => c_stuck hM (hC.fr f (by omega)) hk hc hD ?_)⟩
  have b2 := kM_le hM (k := mK M v) hc
  have hp0 : 0 < 8 ^ (5 - mH M) := Nat.pow_pos (by decide)
  have key := eo42 (Q := Q) hM (hC.fr f (by omega)) hv hD (h S' (f.mono (by omega) (by omega))) (mW M) 0 (by omega)
  have e6 : vE M v 6 = decide (0 < kM M (mK M v) (mC M v) (mH M)) := if_pos rfl
  rw [fa_lit 0, nI_leI (by omega) (by omega)]
  have e0 : ∀ e, e < 7 → vEt M v 0 e = (decide (e = 6) && vE M v 6) := fun e he => by
    unfold vEt
    by_cases q : e = 6
    · subst q
      simp
    · rw [decide_eq_false q, decide_eq_false (by omega)]
      simp
  rw [msk_eq e0] at key
  refine ⟨fun q => ?_, fun q => ?_⟩
  · have q0 : ¬ 0 < kM M (mK M v) (mC M v) (mH M) := fun z => by
      have := Nat.mul_pos z hp0
      omega
    rw [e6, decide_eq_false q0] at key
    exact key
  · have q0 : 0 < kM M (mK M v) (mC M v) (mH M) := Nat.pos_of_mul_pos_right (show 0 < kM M (mK M v) (mC M v) (mH M) * 8 ^ (5 - mH M) by omega)
    rw [e6, decide_eq_true q0] at key
    exact key
/-! ===== the class counts ===== -/
def tot (u : Nat → Nat) : Nat := sm 7 u
theorem tot_dn {u : Nat → Nat} {e : Nat} (he : e < 7) (h : 0 < u e) : tot (dn u e) + 1 = tot u := by
  unfold tot
  have e1 : sm 7 u = sm 7 (fun x => dn u e x + (if e = x then 1 else 0)) := sm_cong (fun x _ => by
    unfold dn
    by_cases q : x = e
    · subst q
      rw [if_pos rfl, if_pos rfl]
      omega
    · rw [if_neg q, if_neg (Ne.symm q), Nat.add_zero])
  rw [e1, sm_add, sm_one (f := fun _ => 1) he]
def al : Nat → Bool := fun _ => true
/-- one way into a state -/
def tm (E : Nat → Nat → Bool) (T : Nat → Nat) (t e : Nat) : Nat := WS E 7 (tot (dg T t) - 1) al (dn (dg T t) e)
def RIn (E : Nat → Nat → Bool) (T : Nat → Nat) (s e0 t : Nat) : Nat := (if t = 0 then 1 else 0) + sm 7 (fun e => if 0 < dg T t e ∧ E (tot (dg T t) - 1) e = true ∧ (t - st T e < s ∨ (t - st T e = s ∧ e < e0)) then tm E T t e else 0)
theorem RIn_7 {E : Nat → Nat → Bool} {T : Nat → Nat} {s t : Nat} : RIn E T s 7 t = RIn E T (s + 1) 0 t := by
  unfold RIn
  congr 1
  refine sm_cong (fun e he => ?_)
  have : (t - st T e < s ∨ (t - st T e = s ∧ e < 7)) ↔ (t - st T e < s + 1 ∨ (t - st T e = s + 1 ∧ e < 0)) := by omega
  simp only [this]
theorem RIn_s {E : Nat → Nat → Bool} {T : Nat → Nat} {s e0 t : Nat} (he : e0 < 7) : RIn E T s (e0 + 1) t = RIn E T s e0 t + (if 0 < dg T t e0 ∧ E (tot (dg T t) - 1) e0 = true ∧ t - st T e0 = s then tm E T t e0 else 0) := by
  unfold RIn
  rw [Nat.add_assoc, ← sm_one (f := fun e => if 0 < dg T t e ∧ E (tot (dg T t) - 1) e = true ∧ t - st T e = s then tm E T t e else 0) he, ← sm_add]
  congr 1
  refine sm_cong (fun e _ => ?_)
  by_cases q : e0 = e
  · subst q
    rw [if_pos rfl]
    by_cases a : 0 < dg T t e0 ∧ E (tot (dg T t) - 1) e0 = true
    · by_cases b : t - st T e0 = s
      · rw [if_pos ⟨a.1, a.2, Or.inr ⟨b, by omega⟩⟩, if_neg (fun z => by omega), if_pos ⟨a.1, a.2, b⟩, Nat.zero_add]
      · rw [if_neg (c := 0 < dg T t e0 ∧ E (tot (dg T t) - 1) e0 = true ∧ t - st T e0 = s) (fun z => b z.2.2)]
        have : (t - st T e0 < s ∨ (t - st T e0 = s ∧ e0 < e0 + 1)) ↔ (t - st T e0 < s ∨ (t - st T e0 = s ∧ e0 < e0)) := by omega
        simp only [this, Nat.add_zero]
    · rw [if_neg (fun z => a ⟨z.1, z.2.1⟩), if_neg (fun z => a ⟨z.1, z.2.1⟩), if_neg (fun z => a ⟨z.1, z.2.1⟩)]
  · rw [if_neg q]
    have : (t - st T e < s ∨ (t - st T e = s ∧ e < e0 + 1)) ↔ (t - st T e < s ∨ (t - st T e = s ∧ e < e0)) := by omega
    simp only [this, Nat.add_zero]
theorem RIn_own {E : Nat → Nat → Bool} {T : Nat → Nat} {s e0 : Nat} : RIn E T s e0 s = RIn E T s 0 s := by
  unfold RIn
  congr 1
  refine sm_cong (fun e _ => ?_)
  by_cases a : 0 < dg T s e
  · have h1 := (dg_dn a).1
    have h2 := st_pos (T := T) e
    have : (s - st T e < s ∨ (s - st T e = s ∧ e < e0)) ↔ (s - st T e < s ∨ (s - st T e = s ∧ e < 0)) := by omega
    simp only [this]
  · rw [if_neg (fun z => a z.1), if_neg (fun z => a z.1)]
theorem dg_all0 {T : Nat → Nat} {s : Nat} : ∀ e, (∀ x, x < e → dg T s x = 0) → s = st T e * (s / st T e)
  | 0, _ => by
    show s = 1 * (s / 1)
    rw [Nat.div_one, Nat.one_mul]
  | e + 1, h => by
    have ih := dg_all0 (T := T) (s := s) e (fun x hx => h x (by omega))
    have hd := h e (by omega)
    unfold dg at hd
    have := Nat.div_add_mod (s / st T e) (T e + 1)
    rw [hd, Nat.add_zero] at this
    rw [q_s, show st T (e + 1) = st T e * (T e + 1) from rfl, Nat.mul_assoc, this]
    exact ih
theorem sm_z {f : Nat → Nat} : ∀ {n}, sm n f = 0 → ∀ i, i < n → f i = 0
  | 0, _, i, hi => absurd hi (Nat.not_lt_zero _)
  | n + 1, h, i, hi => by
    have h : sm n f + f n = 0 := h
    by_cases q : i = n
    · subst q
      omega
    · exact sm_z (n := n) (by omega) i (by omega)
theorem RIn_val {E : Nat → Nat → Bool} {T : Nat → Nat} {s : Nat} (hs : s < st T 7) : RIn E T s 0 s = WS E 7 (tot (dg T s)) al (dg T s) := by
  by_cases q : tot (dg T s) = 0
  · have h0 := sm_z (n := 7) (f := dg T s) q
    have := dg_all0 7 h0
    rw [Nat.div_eq_of_lt hs, Nat.mul_zero] at this
    rw [q, WS_0, if_pos (show sm 7 (dg T s) = 0 from q)]
    unfold RIn
    rw [if_pos this, sm_zero (fun e he => if_neg (fun z => by have := h0 e he; omega))]
  · obtain ⟨m, hm⟩ : ∃ m, tot (dg T s) = m + 1 := ⟨tot (dg T s) - 1, by omega⟩
    have hs0 : s ≠ 0 := fun z => by
      subst z
      exact q (sm_zero (fun e _ => dg_0))
    rw [hm, WS_y (show al m = true from rfl)]
    unfold RIn tm
    rw [if_neg hs0, Nat.zero_add, hm, Nat.add_sub_cancel]
    refine sm_cong (fun e _ => ?_)
    have h2 := st_pos (T := T) e
    have : (0 < dg T s e ∧ E m e = true ∧ (s - st T e < s ∨ (s - st T e = s ∧ e < 0))) ↔ (0 < dg T s e ∧ E m e = true) := ⟨fun z => ⟨z.1, z.2.1⟩, fun z => ⟨z.1, z.2, Or.inl (by omega)⟩⟩
    simp only [this]
/-- one step of the count -/
theorem RIn_in {E : Nat → Nat → Bool} {T : Nat → Nat} {s e : Nat} (he : e < 7) (h : dg T s e < T e) (hE : E (tot (dg T s)) e = true) : RIn E T s (e + 1) (s + st T e) = RIn E T s e (s + st T e) + WS E 7 (tot (dg T s)) al (dg T s) := by
  have hu := dg_up h
  have h1 : 0 < dg T (s + st T e) e := by rw [hu, if_pos rfl]; omega
  have hd := (dg_dn h1).2.2
  rw [Nat.add_sub_cancel] at hd
  have ht := tot_dn he h1
  have ht2 : tot (dn (dg T (s + st T e)) e) = tot (dg T s) := sm_cong (fun x _ => (hd x).symm)
  rw [RIn_s he, if_pos ⟨h1, by rw [show tot (dg T (s + st T e)) - 1 = tot (dg T s) by omega]; exact hE, Nat.add_sub_cancel _ _⟩]
  unfold tm
  rw [show tot (dg T (s + st T e)) - 1 = tot (dg T s) by omega, WS_u (u := dn (dg T (s + st T e)) e) (u' := dg T s) (fun x _ => (hd x).symm)]
theorem RIn_out {E : Nat → Nat → Bool} {T : Nat → Nat} {s e t : Nat} (he : e < 7) (h : ¬ (dg T s e < T e ∧ E (tot (dg T s)) e = true ∧ t = s + st T e)) : RIn E T s (e + 1) t = RIn E T s e t := by
  rw [RIn_s he, if_neg, Nat.add_zero]
  rintro ⟨a, b, c⟩
  obtain ⟨d1, d2, d3⟩ := dg_dn a
  have ht := tot_dn he a
  rw [c] at d2 d3
  have ht2 : tot (dn (dg T t) e) = tot (dg T s) := sm_cong (fun x _ => (d3 x).symm)
  refine h ⟨d2, ?_, by omega⟩
  rw [show tot (dg T s) = tot (dg T t) - 1 by omega]
  exact b
