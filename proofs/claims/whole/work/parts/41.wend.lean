/-! ===== ways: both counts meet ===== -/
theorem sm_dn {u : Nat → Nat} {e J : Nat} (he : e < J) (h : 0 < u e) : sm J (dn u e) + 1 = sm J u := by
  have e1 : sm J u = sm J (fun x => dn u e x + (if e = x then 1 else 0)) := sm_cong (fun x _ => by
    unfold dn
    by_cases q : x = e
    · subst q
      rw [if_pos rfl, if_pos rfl]
      omega
    · rw [if_neg q, if_neg (Ne.symm q), Nat.add_zero])
  rw [e1, sm_add, sm_one (f := fun _ => 1) he]
theorem WS_bal {E : Nat → Nat → Bool} {J : Nat} : ∀ (k : Nat) (u : Nat → Nat), sm J u ≠ k → WS E J k al u = 0
  | 0, u, h => by rw [WS_0, if_neg h]
  | k + 1, u, h => by
    rw [WS_y (show al k = true from rfl)]
    refine sm_zero (fun e he => ?_)
    by_cases q : 0 < u e ∧ E k e = true
    · rw [if_pos q]
      exact WS_bal k _ (fun z => h (by have := sm_dn he q.1; omega))
    · rw [if_neg q]
theorem WS_tT {E : Nat → Nat → Bool} {w n : Nat} {P : Nat → Bool} {c : Nat → Nat} (hw : w ≤ 6) : WS E 7 n P (tT w c) = WS (Ej E w) (w + 1) n P c := by
  rw [WS_en hw n P (tT w c) (fun e h1 h2 => by unfold tT; rw [if_neg (by omega), if_neg (by omega)])]
  refine WS_u (fun j hj => ?_)
  unfold tT en
  by_cases q : j < w
  · rw [if_pos q, if_pos q]
  · rw [if_neg q, if_neg (by omega), if_pos rfl, show w = j by omega]
/-- can a vote come to an end by some rows: the reference's way -/
def bE2 (E : Nat → Nat → Bool) (w n v : Nat) (c : Nat → Nat) (e : Nat) : Bool := E v e && decide (0 < WS (Ej (rE E v e) w) (w + 1) n al c)
def xB (B : Nat → Bool) (t e : Nat) : Bool := decide (e < t) && B e
theorem xB_s {B : Nat → Bool} {t : Nat} (h : B t = true) : ∀ e, e < 7 → xB B (t + 1) e = (xB B t e || decide (e = t)) := by
  intro e he
  unfold xB
  by_cases q : e = t
  · subst q
    rw [h]
    simp
  · have : decide (e < t + 1) = decide (e < t) := decide_eq_decide.mpr (by omega)
    rw [this, decide_eq_false q, Bool.or_false]
theorem xB_n {B : Nat → Bool} {t : Nat} (h : B t = false) : ∀ e, e < 7 → xB B (t + 1) e = xB B t e := by
  intro e he
  unfold xB
  by_cases q : e = t
  · subst q
    rw [h, Bool.and_false, Bool.and_false]
  · have : decide (e < t + 1) = decide (e < t) := decide_eq_decide.mpr (by omega)
    rw [this]
theorem WS_J31 {E : Nat → Nat → Bool} {w n : Nat} {P : Nat → Bool} {T : Nat → Nat} (hw : w ≤ 6) (hn : n ≤ 8) : WS E (w + 1) n P T < 2 ^ 31 := by
  have a := WS_le (E := E) (J := w + 1) (by omega) n P T
  have b : (w + 1) ^ n ≤ 7 ^ n := Nat.pow_le_pow_left (by omega) n
  have c : 7 ^ n ≤ 7 ^ 8 := Nat.pow_le_pow_right (by decide) hn
  omega
def F46 (S T : St) : Prop := ∀ q, q ≠ 44 → q ≠ 45 → q ≠ 46 → T.1 q = S.1 q
theorem dm_one {n v : Nat} {P : Nat → Bool} (hn : n ≤ 8) (hv : v < n) : dm (msk n P) (2 ^ v) = msk n (fun x => P x && !decide (x = v)) := by
  apply Nat.eq_of_testBit_eq
  intro i
  have h8 := p2_le hn
  have m1 := msk_lt P n
  by_cases q : i < n
  · rw [dm_tb (by omega), msk_bit, msk_bit, Nat.testBit_two_pow, decide_eq_true q]
    simp [eq_comm]
  · rw [msk_bit, decide_eq_false q, Bool.false_and]
    exact Nat.testBit_lt_two_pow (Nat.lt_of_le_of_lt dm_le (Nat.lt_of_lt_of_le m1 (Nat.pow_le_pow_right (by decide) (by omega))))
set_option maxRecDepth 100000 in
set_option maxHeartbeats 4000000 in
theorem mw138 {M : MS} {a i v e : Nat} {cd : Nat → Int32} {S0 : St} {Q : Int32 → St → Prop} (hM : OKM M) (hm0 : MI S0 M) (ha : a < 4) (hi : i + mW M < 60) (hv : v < mN M) (he : e < 7) (hE : vE M v e = true) (hcd : ∀ j, j ≤ mW M → S0.1 49 (60 * a + i + j) = cd j) (h : ∀ T, F46 S0 T → (∀ x, x < 7 → T.1 44 x = nI (msk (mN M) (fun y => vE M y x))) → V mdX6_ways 114 [some (.ref 34), some (.int (nI v)), some (.int (nI a)), none, some (.int (nI i)), none, some (.int (nI (msk 7 (xB (bE2 (vE M) (mW M) (mN M) v (Tj cd)) (e + 1))))), some (.int (nI (e + 1))), none] [] T (qI Q)) : ∀ d x, x + d = 7 → ∀ T, F46 S0 T → (∀ y, y < x → T.1 44 y = nI (msk (mN M) (fun u => rE (vE M) v e u y))) → (∀ y, x ≤ y → y < 7 → T.1 44 y = nI (msk (mN M) (fun u => vE M u y))) → V mdX6_ways 138 [some (.ref 34), some (.int (nI v)), some (.int (nI a)), none, some (.int (nI i)), none, some (.int (nI (msk 7 (xB (bE2 (vE M) (mW M) (mN M) v (Tj cd)) e)))), some (.int (nI e)), some (.int (nI x))] [] T (qI Q) := by
  have n8 := hM.n8
  have w6 := hM.w6
  intro d
  induction d with
  | zero =>
    intro x hx T f k k'
    have : x = 7 := by omega
    subst this
    have hm : MI T M := hm0.pw (fun i _ => by rw [f 34 (by decide) (by decide) (by decide)]) (fun p i hp => by rw [f p (by omega) (by omega) (by omega)])
    have m1 := m7_lt (P := xB (bE2 (vE M) (mW M) (mN M) v (Tj cd)) e)
    have p7 : 2 ^ e ≤ 2 ^ 6 := Nat.pow_le_pow_right (by decide) (by omega)
    have hW := WS_J31 (E := Ej (rE (vE M) v e) (mW M)) (P := al) (T := Tj cd) w6 n8
    apply eX6_ways_138
    rw [fa_lit 60, pk_mul, nI_add]
    refine br_t (nI_le (a := 7) (by omega) (by omega)) (c_waysBy (E := rE (vE M) v e) (cd := cd) n8 w6 (by omega) hm.n ⟨hm.w, k, fun j hj => by rw [f 49 (by decide) (by decide) (by decide)]; exact hcd j hj⟩ (fun U u => ?_))
    have hmU : MI U M := hm.pw (fun i _ => by rw [u.2 34 (by decide) (by decide)]) (fun p i hp => by rw [u.2 p (by omega) (by omega)])
    rw [fa_lit 0, nI_leI (by omega) (by omega)]
    refine ⟨fun q => c_layCan hM hmU (fun W w1 w2 => ?_), fun q => c_layCan hM hmU (fun W w1 w2 => ?_)⟩
    · have := h W (fun q a b c => by rw [w1 q a, u.2 q b c]; exact f q a b c) w2
      rw [msk_eq (xB_n (by
        unfold bE2
        rw [hE, Bool.true_and]
        exact decide_eq_false (by omega)))] at this
      rw [← fa_lit 0, Int32.or_zero, nI_1]
      exact this
    · have := h W (fun q a b c => by rw [w1 q a, u.2 q b c]; exact f q a b c) w2
      rw [wi_1 e (by omega), wi_or (by omega) (by omega), m7_or he (xB_s (B := bE2 (vE M) (mW M) (mN M) v (Tj cd)) (by
        unfold bE2
        rw [hE, Bool.true_and]
        exact decide_eq_true (by omega))), nI_1]
      exact this
  | succ d ih =>
    intro x hx T f k k'
    have g := pk_in (x := nI x) x 7 (by omega) rfl
    have m1 := msk_lt (fun u => vE M u x) (mN M)
    have p2 := p2_le n8
    have pv : 2 ^ v ≤ 2 ^ 7 := Nat.pow_le_pow_right (by decide) (by omega)
    have nx : ∀ c, c = nI (msk (mN M) (fun u => rE (vE M) v e u x)) → V mdX6_ways 138 [some (.ref 34), some (.int (nI v)), some (.int (nI a)), none, some (.int (nI i)), none, some (.int (nI (msk 7 (xB (bE2 (vE M) (mW M) (mN M) v (Tj cd)) e)))), some (.int (nI e)), some (.int (nI (x + 1)))] [] (sI T 44 x c) (qI Q) := fun c hc => ih (x + 1) (by omega) _ (fun q a b c => by rw [sI_ne _ _ _ a]; exact f q a b c) (fun y hy => by
      by_cases z : y = x
      · subst z
        rw [sI_h ⟨rfl, rfl⟩]
        exact hc
      · rw [sI_o (Or.inr z)]
        exact k y (by omega)) (fun y h1 h2 => by rw [sI_o (Or.inr (by omega))]; exact k' y (by omega) h2)
    apply eX6_ways_138
    rw [nI_1 x, nI_clamp (n := x) (by omega), k' x (Nat.le_refl _) (by omega), nI_eq (by omega) (by omega)]
    refine br_f (nI_ge (b := 7) (by omega) (by omega)) ⟨g, fun q => ⟨g, nx _ ?_⟩, fun q => ⟨g, nx _ ?_⟩⟩
    · rw [wi_1 v (by omega), wi_dm (by omega) (by omega), dm_one n8 hv]
      refine congrArg nI (msk_eq (fun u _ => ?_))
      unfold rE
      by_cases z : u = v
      · subst z
        rw [if_pos rfl, decide_eq_true rfl, decide_eq_false q]
        simp
      · rw [if_neg z, decide_eq_false z]
        simp
    · subst q
      rw [fa_lit 255, wi_and (by omega) (by omega), show (255 : Nat) = 2 ^ 8 - 1 from rfl, Nat.and_two_pow_sub_one_eq_mod, Nat.mod_eq_of_lt (by omega)]
      refine congrArg nI (msk_eq (fun u _ => ?_))
      unfold rE
      by_cases z : u = v
      · subst z
        rw [if_pos rfl, decide_eq_true rfl, Bool.true_and]
      · rw [if_neg z]
set_option maxRecDepth 100000 in
set_option maxHeartbeats 4000000 in
theorem mw114 {M : MS} {a i v : Nat} {cd : Nat → Int32} {S0 : St} {Q : Int32 → St → Prop} (hM : OKM M) (hm0 : MI S0 M) (ha : a < 4) (hi : i + mW M < 60) (hv : v < mN M) (hcd : ∀ j, j ≤ mW M → S0.1 49 (60 * a + i + j) = cd j) (h : ∀ T, F46 S0 T → Q (nI (msk 7 (xB (bE2 (vE M) (mW M) (mN M) v (Tj cd)) 7))) (sI T 34 0 0)) : ∀ d e, e + d = 7 → ∀ T, F46 S0 T → (∀ x, x < 7 → T.1 44 x = nI (msk (mN M) (fun y => vE M y x))) → V mdX6_ways 114 [some (.ref 34), some (.int (nI v)), some (.int (nI a)), none, some (.int (nI i)), none, some (.int (nI (msk 7 (xB (bE2 (vE M) (mW M) (mN M) v (Tj cd)) e)))), some (.int (nI e)), none] [] T (qI Q) := by
  have n8 := hM.n8
  intro d
  induction d with
  | zero =>
    intro e he T f k
    have : e = 7 := by omega
    subst this
    apply eX6_ways_114
    exact br_t (nI_le (a := 7) (by omega) (by omega)) (h T f)
  | succ d ih =>
    intro e he T f k
    have m1 := msk_lt (fun u => vE M u e) (mN M)
    have p2 := p2_le n8
    apply eX6_ways_114
    rw [nI_1 e, nI_clamp (n := e) (by omega), k e (by omega), wi_bit (by omega) (by omega), msk_bit, decide_eq_true hv, Bool.true_and]
    refine br_f (nI_ge (b := 7) (by omega) (by omega)) ⟨pk_in e 7 (by omega), fun q => ?_, fun q => ?_⟩
    · have nx := ih (e + 1) (by omega) T f k
      rw [msk_eq (xB_n (by
        unfold bE2
        rw [Bool.eq_false_iff.2 q, Bool.false_and]))] at nx
      exact nx
    · exact mw138 hM hm0 ha hi hv (by omega) q hcd (fun U u k2 => ih (e + 1) (by omega) U u k2) 7 0 (by omega) T f (fun x hx => absurd hx (Nat.not_lt_zero _)) (fun y _ hy => k y hy)
