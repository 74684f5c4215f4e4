/-! ===== a hill is built ===== -/
theorem GT_p {cd : Nat → Int32} {n : Nat} (h : GT cd n) {t : Nat} (ht : t < tC cd) : cd (3 + t) = nI (48 + tP cd t) ∧ tP cd t ≤ 3 := by
  have eL : tL cd = 3 + tC cd + tR cd * (tC cd + 1) := rfl
  have hn := h.1
  have g := (gd_party (p := 3 + t) (by omega) (by omega)).1 (h.2 (3 + t) (by omega)).2
  unfold fg at g
  have e : tP cd t = ((cd (3 + t)).toInt - 48).toNat := rfl
  refine ⟨?_, by omega⟩
  rw [fa_eq, nI_toInt (by omega)]
  omega
theorem GT_s {cd : Nat → Int32} {n : Nat} (h : GT cd n) {r j : Nat} (hr : r < tR cd) (hj : j < tC cd) : 3 + tC cd + (r * (tC cd + 1) + (1 + j)) < n ∧ tS cd (r * tC cd + j) = sgn (cd (3 + tC cd + (r * (tC cd + 1) + (1 + j)))) ∧ tS cd (r * tC cd + j) ≤ 4 := by
  have hn := h.1
  have hl := ps_lt (u := 1 + j) hr (by omega) (p := 3 + tC cd + (r * (tC cd + 1) + (1 + j))) rfl
  have e : tS cd (r * tC cd + j) = sgn (cd (3 + tC cd + (r * (tC cd + 1) + (1 + j)))) := by
    unfold tS
    rw [rw_dv hj, rw_mod hj]
  refine ⟨by omega, e, ?_⟩
  rw [e]
  exact (gd_sign hr hj rfl).1 (h.2 _ (by omega)).2
theorem GT_n {cd : Nat → Int32} {n : Nat} (h : GT cd n) : 1 ≤ tR cd ∧ tR cd ≤ 5 ∧ cd 1 = nI (48 + tR cd) ∧ 2 ≤ tC cd ∧ tC cd ≤ 6 ∧ cd 2 = nI (48 + tC cd) := by
  have eL : tL cd = 3 + tC cd + tR cd * (tC cd + 1) := rfl
  have hn := h.1
  obtain ⟨a, b, c⟩ := GU_1 h.2 (by omega)
  obtain ⟨d, e, f⟩ := GU_2 h.2 (by omega)
  exact ⟨a, b, c, d, e, f⟩
def FB (S T : St) : Prop := T.2 = S.2 ∧ ∀ q, q ≠ 1 → q ≠ 2 → q ≠ 3 → T.1 q = S.1 q
theorem FB.put {S T : St} (h : FB S T) {p k : Nat} {v : Int32} (hp : p = 1 ∨ p = 2 ∨ p = 3) : FB S (sI T p k v) := ⟨h.1, fun q a b c => by rw [sI_ne _ _ _ (by omega)]; exact h.2 q a b c⟩
/-- the sheet of a text -/
def TX (S : St) (cd : Nat → Int32) (sp i n l : Nat) : Prop := isSh sp ∧ l ≤ 60 ∧ i + n ≤ l ∧ S.1 sp 1 = 1 ∧ S.1 sp 3 = nI l ∧ ∀ q, q < n → S.1 (sp + 1) (i + q) = cd q
theorem TX.fb {S T : St} {cd : Nat → Int32} {sp i n l : Nat} (h : TX S cd sp i n l) (f : FB S T) : TX T cd sp i n l := by
  obtain ⟨a, b, c, d, e, g⟩ := h
  have : 26 ≤ sp := by unfold isSh at a; omega
  exact ⟨a, b, c, by rw [f.2 sp (by omega) (by omega) (by omega)]; exact d, by rw [f.2 sp (by omega) (by omega) (by omega)]; exact e, fun q hq => by rw [f.2 _ (by omega) (by omega) (by omega)]; exact g q hq⟩
set_option maxRecDepth 100000 in
set_option maxHeartbeats 4000000 in
theorem c_atX {S : St} {cd : Nat → Int32} {sp i n l q : Nat} {Q : Int32 → St → Prop} (h : TX S cd sp i n l) (hq : q < n) (hQ : Q (cd q) S) : CallV mdX3_at [.ref sp, .int (nI (i + q))] S (qI Q) := by
  obtain ⟨a, b, c, d, e, g⟩ := h
  refine c_at a b d e (fun z => ?_) (fun k hk e' => ?_)
  · rw [nI_toInt (by omega)] at z
    omega
  · rw [nI_eq (by omega) (by omega)] at e'
    rw [← e', g q hq]
    exact hQ
def BH (T : St) (cd : Nat → Int32) : Prop := T.1 1 2 = nI (tR cd) ∧ T.1 1 3 = nI (tC cd) ∧ T.1 1 4 = 0 ∧ ∀ t, t < tC cd → T.1 3 t = nI (tP cd t)
set_option maxRecDepth 100000 in
set_option maxHeartbeats 4000000 in
theorem bu94 {S0 : St} {cd : Nat → Int32} {sp i n l : Nat} {Q : St → Prop} (hX : TX S0 cd sp i n l) (hG : GT cd n) {r : Nat} (hr : r < tR cd) (h : ∀ T, FB S0 T → BH T cd → (∀ c, c < (r + 1) * tC cd → T.1 2 c = nI (tS cd c)) → V mdX2_build 69 [some (.ref 1), some (.ref sp), some (.int (nI i)), some (.int (nI (r + 1))), none, none] [] T (qV Q)) : ∀ d j, j + d = tC cd → ∀ T, FB S0 T → BH T cd → (∀ c, c < r * tC cd + j → T.1 2 c = nI (tS cd c)) → V mdX2_build 94 [some (.ref 1), some (.ref sp), some (.int (nI i)), some (.int (nI r)), some (.int (nI (i + (3 + tC cd + r * (tC cd + 1)) + 1))), some (.int (nI j))] [] T (qV Q) := by
  obtain ⟨r1, r5, _, c2, c6, _⟩ := GT_n hG
  have n30 : tR cd * tC cd ≤ 30 := Nat.mul_le_mul r5 c6
  have hsp := hX.1
  have es : (r + 1) * tC cd = r * tC cd + tC cd := Nat.succ_mul _ _
  intro d
  induction d with
  | zero =>
    intro j hj T f hB e
    apply eX2_build_94 hsp
    rw [hB.2.1, nI_1]
    exact br_t (nI_le (by omega) (by omega)) (h T f hB (fun c hc => e c (by omega)))
  | succ d ih =>
    intro j hj T f hB e
    have hx : r * tC cd + j < tR cd * tC cd := rw_lt hr (by omega)
    obtain ⟨g1, g2, g3⟩ := GT_s hG hr (show j < tC cd by omega)
    apply eX2_build_94 hsp
    rw [hB.2.1, nI_1 j, nI_add, show i + (3 + tC cd + r * (tC cd + 1)) + 1 + j = i + (3 + tC cd + (r * (tC cd + 1) + (1 + j))) by omega, pk_mul, nI_add, nI_clamp (n := r * tC cd + j) (by omega)]
    refine br_f (nI_ge (by omega) (by omega)) (c_atX (hX.fb f) g1 (c_signOf (fun z => ⟨pk_in _ 30 (show r * tC cd + j < 30 by omega), ?_⟩) (fun z => absurd (by rw [← g2]; exact g3) z)))
    rw [← g2]
    refine ih (j + 1) (by omega) _ (f.put (Or.inr (Or.inl rfl))) hB (fun c hc => ?_)
    by_cases z : c = r * tC cd + j
    · subst z
      rw [sI_h ⟨rfl, rfl⟩]
    · rw [sI_o (Or.inr z)]
      exact e c (by omega)
set_option maxRecDepth 100000 in
set_option maxHeartbeats 4000000 in
theorem bu69 {S0 : St} {cd : Nat → Int32} {sp i n l : Nat} {Q : St → Prop} (hX : TX S0 cd sp i n l) (hG : GT cd n) (h : ∀ T, FB S0 T → BH T cd → (∀ c, c < tR cd * tC cd → T.1 2 c = nI (tS cd c)) → Q T) : ∀ d r, r + d = tR cd → ∀ T, FB S0 T → BH T cd → (∀ c, c < r * tC cd → T.1 2 c = nI (tS cd c)) → V mdX2_build 69 [some (.ref 1), some (.ref sp), some (.int (nI i)), some (.int (nI r)), none, none] [] T (qV Q) := by
  obtain ⟨r1, r5, _, c2, c6, _⟩ := GT_n hG
  have hsp := hX.1
  intro d
  induction d with
  | zero =>
    intro r hr T f hB e
    have : r = tR cd := by omega
    subst this
    apply eX2_build_69 hsp
    rw [hB.1]
    exact br_t (nI_le (Nat.le_refl _) (by omega)) (h T f hB e)
  | succ d ih =>
    intro r hr T f hB e
    apply eX2_build_69 hsp
    rw [hB.1, hB.2.1, fa_lit 3, nI_add, nI_1 (tC cd), pk_mul, nI_add, nI_add, nI_1]
    exact br_f (nI_ge (by omega) (by omega)) (bu94 hX hG (by omega) (fun U g k k2 => ih (r + 1) (by omega) U g k k2) (tC cd) 0 (by omega) T f hB (fun c hc => e c (by omega)))
set_option maxRecDepth 100000 in
set_option maxHeartbeats 4000000 in
theorem bu35 {S0 : St} {cd : Nat → Int32} {sp i n l : Nat} {Q : St → Prop} (hX : TX S0 cd sp i n l) (hG : GT cd n) (h : ∀ T, FB S0 T → BH T cd → (∀ c, c < tR cd * tC cd → T.1 2 c = nI (tS cd c)) → Q T) : ∀ d t, t + d = tC cd → ∀ T, FB S0 T → T.1 1 2 = nI (tR cd) → T.1 1 3 = nI (tC cd) → T.1 1 4 = 0 → (∀ x, x < t → T.1 3 x = nI (tP cd x)) → V mdX2_build 35 [some (.ref 1), some (.ref sp), some (.int (nI i)), some (.int (nI t)), none, none] [] T (qV Q) := by
  obtain ⟨r1, r5, _, c2, c6, _⟩ := GT_n hG
  have eL : tL cd = 3 + tC cd + tR cd * (tC cd + 1) := rfl
  have hn := hG.1
  have hsp := hX.1
  intro d
  induction d with
  | zero =>
    intro t ht T f a b c e
    have : t = tC cd := by omega
    subst this
    apply eX2_build_35 hsp
    rw [b]
    exact br_t (nI_le (Nat.le_refl _) (by omega)) (bu69 hX hG h (tR cd) 0 (by omega) T f ⟨a, b, c, e⟩ (fun c hc => by omega))
  | succ d ih =>
    intro t ht T f a b c e
    obtain ⟨g1, g2⟩ := GT_p hG (show t < tC cd by omega)
    apply eX2_build_35 hsp
    rw [b, fa_lit 3, nI_add, nI_add, nI_1, nI_clamp (n := t) (by omega), Nat.add_assoc]
    refine br_f (nI_ge (by omega) (by omega)) (c_atX (hX.fb f) (by omega) ⟨pk_in t 6 (by omega), ?_⟩)
    rw [g1, fa_lit 48, pk_sub (by omega), show 48 + tP cd t - 48 = tP cd t by omega]
    refine ih (t + 1) (by omega) _ (f.put (Or.inr (Or.inr rfl))) (by simp (disch := omega) only [sI_o, sI_h, sF_o, sF_h, sJ_1, sI_2, sF_2, sJ_o, sJ_h]; exact a) (by simp (disch := omega) only [sI_o, sI_h, sF_o, sF_h, sJ_1, sI_2, sF_2, sJ_o, sJ_h]; exact b) (by simp (disch := omega) only [sI_o, sI_h, sF_o, sF_h, sJ_1, sI_2, sF_2, sJ_o, sJ_h]; exact c) (fun x hx => ?_)
    by_cases z : x = t
    · subst z
      rw [sI_h ⟨rfl, rfl⟩]
    · rw [sI_o (Or.inr z)]
      exact e x (by omega)
set_option maxRecDepth 100000 in
set_option maxHeartbeats 4000000 in
theorem c_build {S0 : St} {cd : Nat → Int32} {sp i n l : Nat} {Q : St → Prop} (hX : TX S0 cd sp i n l) (hG : GT cd n) (h : ∀ T, FB S0 T → BH T cd → (∀ c, c < tR cd * tC cd → T.1 2 c = nI (tS cd c)) → Q T) : CallV mdX2_build [.ref 1, .ref sp, .int (nI i)] S0 (qV Q) := by
  obtain ⟨r1, r5, er, c2, c6, ec⟩ := GT_n hG
  have eL : tL cd = 3 + tC cd + tR cd * (tC cd + 1) := rfl
  have hn := hG.1
  have f0 : FB S0 S0 := ⟨rfl, fun _ _ _ _ => rfl⟩
  apply eX2_build hX.1
  rw [fa_lit 1, fa_lit 2, nI_add, nI_add]
  refine c_atX hX (by omega) (c_atX (hX.fb (f0.put (Or.inl rfl))) (by omega) ?_)
  rw [er, ec, fa_lit 48, pk_sub (by omega), pk_sub (by omega), show 48 + tR cd - 48 = tR cd by omega, show 48 + tC cd - 48 = tC cd by omega]
  exact bu35 hX hG h (tC cd) 0 (by omega) _ (((f0.put (Or.inl rfl)).put (Or.inl rfl)).put (Or.inl rfl)) (by simp (disch := omega) only [sI_o, sI_h, sF_o, sF_h, sJ_1, sI_2, sF_2, sJ_o, sJ_h]) (by simp (disch := omega) only [sI_o, sI_h, sF_o, sF_h, sJ_1, sI_2, sF_2, sJ_o, sJ_h]) (by simp (disch := omega) only [sI_o, sI_h, sF_o, sF_h, sJ_1, sI_2, sF_2, sJ_o, sJ_h]) (fun x hx => absurd hx (Nat.not_lt_zero _))
/-! the reference takes what it has read -/
set_option maxRecDepth 100000 in
set_option maxHeartbeats 4000000 in
theorem mh130 {S0 : St} {cd : Nat → Int32} {Q : Int32 → St → Prop} (hr : tR cd ≤ 5) (hc : tC cd ≤ 6) (e1 : S0.1 34 1 = nI (tR cd)) (e2 : S0.1 34 2 = nI (tC cd)) (e38 : ∀ c, c < tR cd * tC cd → S0.1 38 c = nI (tS cd c)) (h : ∀ T, (∀ q, q ≠ 36 → T.1 q = S0.1 q) → (∀ c, c < tR cd * tC cd → T.1 36 c = nI (tS cd c)) → Q (nI (tR cd * tC cd)) (sI (sI (sI T 34 5 0) 34 11 0) 34 0 0)) : ∀ d c, c + d = tR cd * tC cd → ∀ T, (∀ q, q ≠ 36 → T.1 q = S0.1 q) → (∀ x, x < c → T.1 36 x = nI (tS cd x)) → V mdX6_hill 130 [some (.ref 34), none, none, none, none, none, some (.int (nI c))] [] T (qI Q) := by
  have n30 : tR cd * tC cd ≤ 30 := Nat.mul_le_mul hr hc
  intro d
  induction d with
  | zero =>
    intro c hx T f e
    have : c = tR cd * tC cd := by omega
    subst this
    apply eX6_hill_130
    rw [f 34 (by decide), e1, e2, pk_mul]
    exact br_t (nI_le (Nat.le_refl _) (by omega)) (h T f e)
  | succ d ih =>
    intro c hx T f e
    have g := pk_in (x := nI c) c 30 (by omega) rfl
    apply eX6_hill_130
    rw [f 34 (by decide), e1, e2, pk_mul, nI_1, nI_clamp (n := c) (by omega), f 38 (by decide), e38 c (by omega)]
    refine br_f (nI_ge (by omega) (by omega)) ⟨g, g, ih (c + 1) (by omega) _ (fun q hq => by rw [sI_ne _ _ _ hq]; exact f q hq) (fun x hx' => ?_)⟩
    by_cases z : x = c
    · subst z
      rw [sI_h ⟨rfl, rfl⟩]
    · rw [sI_o (Or.inr z)]
      exact e x (by omega)
set_option maxRecDepth 100000 in
set_option maxHeartbeats 4000000 in
theorem mh98 {S0 : St} {cd : Nat → Int32} {Q : Int32 → St → Prop} (hr : tR cd ≤ 5) (hc : tC cd ≤ 6) (e1 : S0.1 34 1 = nI (tR cd)) (e2 : S0.1 34 2 = nI (tC cd)) (e37 : ∀ t, t < tC cd → S0.1 37 t = nI (tP cd t)) (e38 : ∀ c, c < tR cd * tC cd → S0.1 38 c = nI (tS cd c)) (h : ∀ T, (∀ q, q ≠ 35 → q ≠ 36 → T.1 q = S0.1 q) → (∀ t, t < tC cd → T.1 35 t = nI (tP cd t)) → (∀ c, c < tR cd * tC cd → T.1 36 c = nI (tS cd c)) → Q (nI (tR cd * tC cd)) (sI (sI (sI T 34 5 0) 34 11 0) 34 0 0)) : ∀ d t, t + d = tC cd → ∀ T, (∀ q, q ≠ 35 → T.1 q = S0.1 q) → (∀ x, x < t → T.1 35 x = nI (tP cd x)) → V mdX6_hill 98 [some (.ref 34), none, none, none, none, none, some (.int (nI t))] [] T (qI Q) := by
  intro d
  induction d with
  | zero =>
    intro t hx T f e
    have : t = tC cd := by omega
    subst this
    apply eX6_hill_98
    rw [f 34 (by decide), e2]
    refine br_t (nI_le (Nat.le_refl _) (by omega)) (mh130 (S0 := T) hr hc (by rw [f 34 (by decide)]; exact e1) (by rw [f 34 (by decide)]; exact e2) (fun c hc => by rw [f 38 (by decide)]; exact e38 c hc) (fun U g k => h U (fun q a b => (g q b).trans (f q a)) (fun x hx => by rw [g 35 (by decide)]; exact e x hx) k) (tR cd * tC cd) 0 (by omega) T (fun _ _ => rfl) (fun x hx => absurd hx (Nat.not_lt_zero _)))
  | succ d ih =>
    intro t hx T f e
    have g := pk_in (x := nI t) t 6 (by omega) rfl
    apply eX6_hill_98
    rw [f 34 (by decide), e2, nI_1, nI_clamp (n := t) (by omega), f 37 (by decide), e37 t (by omega)]
    refine br_f (nI_ge (by omega) (by omega)) ⟨g, g, ih (t + 1) (by omega) _ (fun q hq => by rw [sI_ne _ _ _ hq]; exact f q hq) (fun x hx' => ?_)⟩
    by_cases z : x = t
    · subst z
      rw [sI_h ⟨rfl, rfl⟩]
    · rw [sI_o (Or.inr z)]
      exact e x (by omega)
theorem SHS.eqs {S T : St} (h : SHS S) (e : ∀ q, (26 ≤ q ∧ q ≤ 33) ∨ (47 ≤ q ∧ q ≤ 49) → T.1 q = S.1 q) : SHS T := by
  unfold SHS at h ⊢
  rw [e 26 (by decide), e 27 (by decide), e 28 (by decide), e 29 (by decide), e 30 (by decide), e 31 (by decide), e 32 (by decide), e 33 (by decide), e 47 (by decide), e 48 (by decide), e 49 (by decide)]
  exact h
def tM (M : MS) (cd : Nat → Int32) : MS := (tR cd, tC cd, 0, tS cd, tP cd, 0, mK M, mC M)
theorem tM_ok {M : MS} {cd : Nat → Int32} {n : Nat} (hG : GT cd n) : OKM (tM M cd) := by
  obtain ⟨r1, r5, _, c2, c6, _⟩ := GT_n hG
  refine ⟨Or.inr ⟨r1, r5, c2, c6⟩, Nat.zero_le _, fun c hc => ?_, fun t ht => (GT_p hG ht).2, Nat.zero_le _, fun v hv => absurd hv (Nat.not_lt_zero _)⟩
  have hc : c < tR cd * tC cd := hc
  obtain ⟨r, j, hj, hx⟩ := rw_div (x := c) (show 0 < tC cd by omega)
  have hr := rw_row (h := tR cd) (r := r) hj (by omega)
  rw [hx]
  exact (GT_s hG hr hj).2.2
