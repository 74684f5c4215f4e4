/-! ===== what was counted is taken ===== -/
def cnt (x : Int32) : Nat := if 0 ≤ x.toInt ∧ x.toInt ≤ 8 then x.toInt.toNat else 9
theorem cnt_in {x : Int32} (h : 0 ≤ x.toInt) (h' : x.toInt ≤ 8) : x = nI (cnt x) ∧ cnt x ≤ 8 := by
  have e : cnt x = x.toInt.toNat := if_pos ⟨h, h'⟩
  refine ⟨?_, by omega⟩
  rw [fa_eq, nI_toInt (by omega)]
  omega
theorem cnt_eq {x : Int32} {p : Nat} (hp : p ≤ 8) : nI p = x ↔ p = cnt x := by
  unfold cnt
  rw [fa_eq, nI_toInt (by omega)]
  split <;> omega
def tT (w : Nat) (c : Nat → Nat) (e : Nat) : Nat := if e < w then c e else if e = 6 then c w else 0
def tTk (w : Nat) (c : Nat → Nat) (k e : Nat) : Nat := if e < w then (if e < k then c e else 0) else if e = 6 ∧ w < k then c w else 0
theorem tT_sum {w : Nat} {c : Nat → Nat} (hw : w ≤ 6) : tot (tT w c) = sm (w + 1) c := by
  unfold tot
  rw [sm_en hw (fun e h1 h2 => by unfold tT; rw [if_neg (by omega), if_neg (by omega)])]
  refine sm_cong (fun j hj => ?_)
  unfold tT en
  by_cases q : j < w
  · rw [if_pos q, if_pos q]
  · rw [if_neg q, if_neg (by omega), if_pos rfl, show w = j by omega]
set_option maxRecDepth 100000 in
set_option maxHeartbeats 4000000 in
theorem ta14 {sp i l w n : Nat} {cd : Nat → Int32} {S0 : St} {Q : Int32 → St → Prop} (hX : TX S0 cd sp i (w + 1) l) (hw : w ≤ 6) (hn : n ≤ 8) (h1 : sm (w + 1) (fun k => cnt (cd k)) = n → ∀ S, FrR 20 21 S0 S → (∀ e, e < 7 → S.1 20 e = nI (tT w (fun k => cnt (cd k)) e)) → Q 1 S) (h0 : sm (w + 1) (fun k => cnt (cd k)) ≠ n → ∀ S, FrR 20 21 S0 S → Q 0 S) : ∀ d k, k + d = w + 1 → sm k (fun k => cnt (cd k)) ≤ n → ∀ S, FrR 20 21 S0 S → (∀ e, e < 7 → S.1 20 e = nI (tTk w (fun k => cnt (cd k)) k e)) → V mdX0_take 14 [some (.ref 19), some (.ref sp), some (.int (nI i)), some (.int (nI w)), some (.int (nI n)), some (.int (nI (sm k (fun k => cnt (cd k))))), some (.int (nI k)), none] [] S (qI Q) := by
  have hsp := hX.1
  have hsp2 : 26 ≤ sp := by
    have := hX.1
    unfold isSh at this
    omega
  intro d
  induction d with
  | zero =>
    intro k hk hs S f e
    have : k = w + 1 := by omega
    subst this
    apply eX0_take_14 hsp
    rw [nI_eq (by omega) (by omega)]
    refine br_t (nI_lt (by omega) (by omega)) ⟨fun q => h0 q S f, fun q => h1 q S f (fun e' he => ?_)⟩
    rw [e e' he]
    congr 1
    unfold tTk tT
    by_cases z : e' < w
    · rw [if_pos z, if_pos z, if_pos (by omega)]
    · rw [if_neg z, if_neg z]
      by_cases y : e' = 6
      · rw [if_pos ⟨y, by omega⟩, if_pos y]
      · rw [if_neg (fun x => y x.1), if_neg y]
  | succ d ih =>
    intro k hk hs S f e
    have hXS : TX S cd sp i (w + 1) l := by
      obtain ⟨a, b, c, d1, d2, d3⟩ := hX
      exact ⟨a, b, c, by rw [f.at (by omega)]; exact d1, by rw [f.at (by omega)]; exact d2, fun q hq => by rw [f.at (by omega)]; exact d3 q hq⟩
    have hss : sm (k + 1) (fun k => cnt (cd k)) = sm k (fun k => cnt (cd k)) + cnt (cd k) := rfl
    have hmono : sm (k + 1) (fun k => cnt (cd k)) ≤ sm (w + 1) (fun k => cnt (cd k)) := sm_mono (by omega)
    have t0 : (0 : Int32).toInt = 0 := rfl
    apply eX0_take_14 hsp
    rw [nI_add, pk_sub hs]
    refine br_f (fun z => ?_) (c_atX hXS (by omega) ⟨fun q => h0 (fun z => ?_) S f, fun q => ⟨fun q2 => ?_, fun q2 => h0 (fun z => ?_) S f⟩⟩)
    · rw [nI_ltI (by omega) (by omega)] at z
      omega
    · rw [fa_lt] at q
      have : cnt (cd k) = 9 := if_neg (by omega)
      omega
    · rw [fa_lt] at q
      rw [fa_le, nI_toInt (by omega)] at q2
      obtain ⟨c1, c2⟩ := cnt_in (x := cd k) (by omega) (by omega)
      have c3 : cnt (cd k) = (cd k).toInt.toNat := if_pos ⟨by omega, by omega⟩
      have cc : ∀ p, (cd k = nI p) → cd k = nI p := fun _ z => z
      have step : ∀ (p : Nat), p < 7 → (p = if k < w then k else 6) → V mdX0_take 14 [some (.ref 19), some (.ref sp), some (.int (nI i)), some (.int (nI w)), some (.int (nI n)), some (.int (nI (sm k (fun k => cnt (cd k))) + cd k)), some (.int (nI k + 1)), none] [] (sI S 20 p (cd k)) (qI Q) := fun p hp hpk => by
        have nx := ih (k + 1) (by omega) (by omega) (sI S 20 p (cd k)) (f.tr (FrR.put (by omega) (by omega))) (fun e' he => ?_)
        · rw [hss, ← nI_add, ← c1, ← nI_1] at nx
          exact nx
        · by_cases z : e' = p
          · subst z
            rw [sI_h ⟨rfl, rfl⟩]
            refine c1.trans (congrArg nI ?_)
            unfold tTk
            by_cases y : k < w
            · rw [if_pos y] at hpk
              rw [hpk, if_pos y, if_pos (by omega)]
            · rw [if_neg y] at hpk
              rw [if_neg (by omega), if_pos ⟨hpk, by omega⟩, show w = k by omega]
          · rw [sI_o (Or.inr z), e e' he]
            congr 1
            unfold tTk
            by_cases y : k < w
            · rw [if_pos y] at hpk
              by_cases x : e' < w
              · rw [if_pos x, if_pos x]
                by_cases v : e' < k
                · rw [if_pos v, if_pos (by omega)]
                · rw [if_neg v, if_neg (by omega)]
              · rw [if_neg x, if_neg x, if_neg (by omega), if_neg (by omega)]
            · rw [if_neg y] at hpk
              by_cases x : e' < w
              · rw [if_pos x, if_pos x, if_pos (by omega), if_pos (by omega)]
              · rw [if_neg x, if_neg x, if_neg (by omega), if_neg (by omega)]
      refine ⟨fun y => ?_, fun y => ⟨pk_in k 7 (by rw [nI_leI (by omega) (by omega)] at y; omega), ?_⟩⟩
      · rw [nI_leI (by omega) (by omega)] at y
        exact step 6 (by omega) (if_neg (by omega)).symm
      · rw [nI_leI (by omega) (by omega)] at y
        rw [nI_clamp (n := k) (by omega)]
        exact step k (by omega) (if_pos (by omega)).symm
    · rw [fa_lt] at q
      rw [fa_le, nI_toInt (by omega)] at q2
      by_cases y : (cd k).toInt ≤ 8
      · have c3 : cnt (cd k) = (cd k).toInt.toNat := if_pos ⟨by omega, y⟩
        omega
      · have c3 : cnt (cd k) = 9 := if_neg (by omega)
        omega
set_option maxRecDepth 100000 in
set_option maxHeartbeats 4000000 in
theorem c_take {sp i l w n : Nat} {cd : Nat → Int32} {S0 : St} {Q : Int32 → St → Prop} (hX : TX S0 cd sp i (w + 1) l) (hw : w ≤ 6) (hn : n ≤ 8) (h1 : sm (w + 1) (fun k => cnt (cd k)) = n → ∀ S, FrR 20 21 S0 S → (∀ e, e < 7 → S.1 20 e = nI (tT w (fun k => cnt (cd k)) e)) → Q 1 S) (h0 : sm (w + 1) (fun k => cnt (cd k)) ≠ n → ∀ S, FrR 20 21 S0 S → Q 0 S) : CallV mdX0_take [.ref 19, .ref sp, .int (nI i), .int (nI w), .int (nI n)] S0 (qI Q) := by
  apply eX0_take hX.1
  refine c_fill (q := 20) (n := 7) (rs := []) (by decide) rfl (by omega) 0 _ _ ?_
  refine ta14 hX hw hn h1 h0 (w + 1) 0 (by omega) (Nat.zero_le _) _ (FrR.fill (by omega) (by omega)) (fun e he => ?_)
  rw [sF_h rfl, if_pos he]
  unfold tTk
  split
  · rfl
  · rw [if_neg (by omega)]
    rfl
/-! the ends of one vote -/
def rE (E : Nat → Nat → Bool) (v e : Nat) : Nat → Nat → Bool := fun v' e' => if v' = v then (decide (e' = e) && E v e') else E v' e'
def wE (E : Nat → Nat → Bool) (T : Nat → Nat) (n v t e : Nat) : Bool := decide (e < t) && (E v e && decide (0 < WS (rE E v e) 7 n al T))
theorem m7_and {P : Nat → Bool} {e : Nat} : msk 7 P &&& 2 ^ e = msk 7 (fun x => decide (x = e) && P x) := by
  apply Nat.eq_of_testBit_eq
  intro j
  rw [Nat.testBit_and, msk_bit, msk_bit, Nat.testBit_two_pow]
  by_cases q : e = j
  · subst q
    simp
  · rw [decide_eq_false q, decide_eq_false (Ne.symm q)]
    simp
theorem m7_and0 {P : Nat → Bool} {e : Nat} (he : e < 7) : (msk 7 P &&& 2 ^ e = 0) ↔ P e = false := by
  constructor
  · intro h
    have := congrArg (fun m => m.testBit e) h
    rw [m7_and] at this
    rw [m7_bit he, Nat.zero_testBit, decide_eq_true rfl, Bool.true_and] at this
    exact this
  · intro h
    apply Nat.eq_of_testBit_eq
    intro j
    rw [m7_and, msk_bit, Nat.zero_testBit]
    by_cases q : j = e
    · subst q
      rw [h]
      simp
    · rw [decide_eq_false q]
      simp
theorem wE_s {E : Nat → Nat → Bool} {T : Nat → Nat} {n v t : Nat} (ht : t < 7) (h : E v t = true) (h' : 0 < WS (rE E v t) 7 n al T) : ∀ e, e < 7 → wE E T n v (t + 1) e = (wE E T n v t e || decide (e = t)) := by
  intro e he
  unfold wE
  by_cases q : e = t
  · subst q
    rw [h, decide_eq_true h']
    simp
  · have : decide (e < t + 1) = decide (e < t) := decide_eq_decide.mpr (by omega)
    rw [this, decide_eq_false q, Bool.or_false]
theorem wE_n {E : Nat → Nat → Bool} {T : Nat → Nat} {n v t : Nat} (h : ¬ (E v t = true ∧ 0 < WS (rE E v t) 7 n al T)) : ∀ e, e < 7 → wE E T n v (t + 1) e = wE E T n v t e := by
  intro e he
  unfold wE
  by_cases q : e = t
  · subst q
    have : (E v e && decide (0 < WS (rE E v e) 7 n al T)) = false := by
      rw [← Bool.not_eq_true, Bool.and_eq_true, decide_eq_true_iff]
      exact h
    rw [this, Bool.and_false, Bool.and_false]
  · have : decide (e < t + 1) = decide (e < t) := decide_eq_decide.mpr (by omega)
    rw [this]
theorem WS_31 {E : Nat → Nat → Bool} {n : Nat} {P : Nat → Bool} {T : Nat → Nat} (hn : n ≤ 8) : WS E 7 n P T < 2 ^ 31 := by
  have a := WS_le (E := E) (J := 7) (by omega) n P T
  have b : 7 ^ n ≤ 7 ^ 8 := Nat.pow_le_pow_right (by decide) hn
  omega
set_option maxRecDepth 100000 in
set_option maxHeartbeats 4000000 in
theorem er12 {E : Nat → Nat → Bool} {T : Nat → Nat} {n v : Nat} {S0 : St} {Q : Int32 → St → Prop} (hv : v < n) (hT : ∀ e, e < 7 → S0.1 20 e = nI (T e)) (hE : ∀ v, v < n → S0.1 21 v = nI (msk 7 (E v))) (htot : tot T = n) (hn : n ≤ 8) (h : ∀ S, S.2 = S0.2 → (∀ q, q ≠ 21 → q ≠ 22 → q ≠ 23 → q ≠ 24 → S.1 q = S0.1 q) → Q (nI (msk 7 (wE E T n v 7))) S) : ∀ d e, e + d = 7 → ∀ S, S.2 = S0.2 → (∀ q, q ≠ 21 → q ≠ 22 → q ≠ 23 → q ≠ 24 → S.1 q = S0.1 q) → (∀ x, x ≠ v → S.1 21 x = S0.1 21 x) → V mdX0_endsOfRows 12 [some (.ref 19), some (.int (nI v)), some (.int (nI (msk 7 (E v)))), some (.int (nI (msk 7 (wE E T n v e)))), some (.int (nI e))] [] S (qI Q) := by
  intro d
  induction d with
  | zero =>
    intro e he S f2 f k
    have : e = 7 := by omega
    subst this
    apply eX0_endsOfRows_12
    exact br_t (nI_le (a := 7) (by omega) (by omega)) ⟨pk_in v 8 (by omega), h _ f2 (fun q a b c d => by rw [sI_ne _ _ _ a]; exact f q a b c d)⟩
  | succ d ih =>
    intro e he S f2 f k
    have he7 : e < 7 := by omega
    have g8 := pk_in (x := nI v) v 8 (by omega) rfl
    have m1 := m7_lt (P := E v)
    have m2 := m7_lt (P := wE E T n v e)
    have p7 : 2 ^ e ≤ 2 ^ 6 := Nat.pow_le_pow_right (by decide) (by omega)
    have m3 : msk 7 (E v) &&& 2 ^ e < 2 ^ 7 := Nat.lt_of_le_of_lt Nat.and_le_left m1
    apply eX0_endsOfRows_12
    rw [wi_1 e (by omega), wi_and (by omega) (by omega), fa_lit 0, nI_eq (by omega) (by omega), m7_and0 he7, nI_1 e, nI_clamp (n := v) (by omega)]
    refine br_f (nI_ge (b := 7) (by omega) (by omega)) ⟨g8, g8, fun q => ?_, fun q => ?_⟩
    · have nx := ih (e + 1) (by omega) (sI S 21 v (nI (msk 7 (E v) &&& 2 ^ e))) f2 (fun q a b c d => by rw [sI_ne _ _ _ a]; exact f q a b c d) (fun x hx => by rw [sI_o (Or.inr hx)]; exact k x hx)
      rw [msk_eq (wE_n (fun z => by rw [q] at z; exact absurd z.1 (by decide)))] at nx
      exact nx
    · have q : E v e = true := by
        cases z : E v e
        · exact absurd z q
        · rfl
      refine c_rows (E := rE E v e) (T := T) (n := n) (fun x hx => ?_) (fun x hx => ?_) htot hn (fun S' g => ?_)
      · rw [sI_ne _ _ _ (by decide), f 20 (by decide) (by decide) (by decide) (by decide)]
        exact hT x hx
      · by_cases z : x = v
        · subst z
          rw [sI_h ⟨rfl, rfl⟩, m7_and]
          refine congrArg nI (msk_eq (fun y _ => ?_))
          unfold rE
          rw [if_pos rfl]
        · rw [sI_o (Or.inr z), k x z, hE x hx]
          refine congrArg nI (msk_eq (fun y _ => ?_))
          unfold rE
          rw [if_neg z]
      · have hW := WS_31 (E := rE E v e) (P := al) (T := T) hn
        have nx := ih (e + 1) (by omega) S' (g.1.trans f2) (fun q a b c d => by rw [g.2 q b c d, sI_ne _ _ _ a]; exact f q a b c d) (fun x hx => by rw [g.2 21 (by decide) (by decide) (by decide), sI_o (Or.inr hx)]; exact k x hx)
        rw [nI_leI (by omega) (by omega)]
        refine ⟨fun w => ?_, fun w => ?_⟩
        · rw [msk_eq (wE_n (fun z => by omega))] at nx
          exact nx
        · rw [wi_or (by omega) (by omega), m7_or he7 (wE_s he7 q (by omega))]
          exact nx
set_option maxRecDepth 100000 in
set_option maxHeartbeats 4000000 in
theorem c_endsOfRows {E : Nat → Nat → Bool} {T : Nat → Nat} {n v : Nat} {S0 : St} {Q : Int32 → St → Prop} (hv : v < n) (hT : ∀ e, e < 7 → S0.1 20 e = nI (T e)) (hE : ∀ v, v < n → S0.1 21 v = nI (msk 7 (E v))) (htot : tot T = n) (hn : n ≤ 8) (h : ∀ S, S.2 = S0.2 → (∀ q, q ≠ 21 → q ≠ 22 → q ≠ 23 → q ≠ 24 → S.1 q = S0.1 q) → Q (nI (msk 7 (wE E T n v 7))) S) : CallV mdX0_endsOfRows [.ref 19, .int (nI v)] S0 (qI Q) := by
  apply eX0_endsOfRows
  rw [nI_clamp (n := v) (by omega), hE v hv]
  refine ⟨pk_in v 8 (by omega), ?_⟩
  have := er12 hv hT hE htot hn h 7 0 (by omega) S0 rfl (fun _ _ _ _ _ => rfl) (fun _ _ => rfl)
  rw [show msk 7 (wE E T n v 0) = 0 from sm_zero (fun x _ => if_neg (by unfold wE; simp))] at this
  exact this
