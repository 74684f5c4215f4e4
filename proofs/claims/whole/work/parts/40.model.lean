theorem F45.one {S : St} : F45 S S := ⟨rfl, fun _ _ _ => rfl⟩
theorem RT.f {S T : St} {E : Nat → Nat → Bool} {cd : Nat → Int32} {w n b : Nat} (h : RT S E cd w n b) (f : F45 S T) : RT T E cd w n b := by
  obtain ⟨a, c, d⟩ := h
  exact ⟨by rw [f.2 34 (by decide) (by decide)]; exact a, fun e he => by rw [f.2 44 (by decide) (by decide)]; exact c e he, fun j hj => by rw [f.2 49 (by decide) (by decide)]; exact d j hj⟩
theorem sbB_m {n x : Nat} {P : Nat → Bool} : sbB n x (fun i => (msk n P).testBit i) = true ↔ sbB n x P = true := by
  rw [sbB_iff, sbB_iff]
  constructor
  · intro h i hi hb
    have := h i hi hb
    rw [msk_bit, decide_eq_true hi, Bool.true_and] at this
    exact this
  · intro h i hi hb
    rw [msk_bit, decide_eq_true hi, Bool.true_and]
    exact h i hi hb
theorem p2_le {n : Nat} (hn : n ≤ 8) : 2 ^ n ≤ 256 := Nat.pow_le_pow_right (by decide) hn
set_option maxRecDepth 100000 in
set_option maxHeartbeats 4000000 in
theorem wb93 {E : Nat → Nat → Bool} {cd : Nat → Int32} {w n b j s : Nat} {T : St} {Q : Int32 → St → Prop} (hn : n ≤ 8) (hs : s < 2 ^ n) (h45 : ∀ x, x < 2 ^ n → T.1 45 x = nI (WJ E cd w n j x)) (h : V mdX6_waysBy 81 [some (.ref 34), some (.int (nI b)), some (.int (nI (2 ^ n - 1))), some (.int (nI j)), some (.int (nI (msk n (fun v => E v (en w j))))), some (.int (cd j)), some (.int (nI (s + 1))), none, none, none] [] (sI T 46 s (nI (WJ E cd w n (j + 1) s))) (qI Q)) : ∀ d x, x + d = s + 1 → V mdX6_waysBy 93 [some (.ref 34), some (.int (nI b)), some (.int (nI (2 ^ n - 1))), some (.int (nI j)), some (.int (nI (msk n (fun v => E v (en w j))))), some (.int (cd j)), some (.int (nI s)), some (.int (nI (sm x (Zj E cd w n j s)))), some (.int (nI x)), none] [] T (qI Q) := by
  have p2 := p2_le hn
  intro d
  induction d with
  | zero =>
    intro x hx
    have : x = s + 1 := by omega
    subst this
    apply eX6_waysBy_93
    rw [Zj_sum hs, nI_1 s, nI_clamp (n := s) (by omega)]
    exact br_t (nI_lt (by omega) (by omega)) ⟨pk_in s 256 (by omega), h⟩
  | succ d ih =>
    intro x hx
    have hxn : x < 2 ^ n := by omega
    have nx := ih (x + 1) (by omega)
    rw [show sm (x + 1) (Zj E cd w n j s) = sm x (Zj E cd w n j s) + Zj E cd w n j s x from rfl] at nx
    have mlt : msk n (fun v => E v (en w j)) < 2 ^ n := msk_lt _ n
    have zero : ¬ (sbB n x (tb s) = true ∧ sbB n x (fun v => Ej E w v j) = true ∧ pop n x = Tj cd j) → V mdX6_waysBy 93 [some (.ref 34), some (.int (nI b)), some (.int (nI (2 ^ n - 1))), some (.int (nI j)), some (.int (nI (msk n (fun v => E v (en w j))))), some (.int (cd j)), some (.int (nI s)), some (.int (nI (sm x (Zj E cd w n j s)) + 0)), some (.int (nI (x + 1))), none] [] T (qI Q) := fun z => by
      rw [show Zj E cd w n j s x = 0 from if_neg z, Nat.add_zero] at nx
      rw [Int32.add_zero]
      exact nx
    have hsb : dm x s = 0 ↔ sbB n x (tb s) = true := sb_dm (by omega) hxn
    have hcb : dm x (msk n (fun v => E v (en w j))) = 0 ↔ sbB n x (fun v => Ej E w v j) = true := (sb_dm (by omega) hxn).trans sbB_m
    have l1 : dm x s ≤ x := dm_le
    have l2 : dm x (msk n (fun v => E v (en w j))) ≤ x := dm_le
    have l3 : dm s x ≤ s := dm_le
    apply eX6_waysBy_93
    rw [nI_1 x, wi_dm (by omega) (by omega), wi_dm (by omega) (by omega), wi_dm (by omega) (by omega), fa_lit 0, nI_eq (by omega) (by omega), nI_eq (by omega) (by omega), hsb, hcb, nI_clamp (n := dm s x) (by omega)]
    refine br_f (fun z => by rw [nI_ltI (by omega) (by omega)] at z; omega) ⟨fun q => zero (fun z => q z.1), fun q => ⟨fun q2 => zero (fun z => q2 z.2.1), fun q2 => c_bits (by omega) ?_⟩⟩
    rw [pop_8 hn hxn, cnt_eq (show pop n x ≤ 8 by
      have := sm_bd (f := fun i => if x.testBit i = true then 1 else 0) (a := 1) (n := n) (fun i _ => by split <;> omega)
      unfold pop
      omega)]
    refine ⟨fun q3 => zero (fun z => q3 z.2.2), fun q3 => ⟨pk_in _ 256 (show dm s x < 256 by omega), ?_⟩⟩
    rw [h45 _ (by omega), nI_add]
    rw [show Zj E cd w n j s x = WJ E cd w n j (dm s x) by
      unfold Zj Zt
      rw [if_pos ⟨q, q2, q3⟩]
      exact WS_P (fun i hi => (dm_tb (by omega)).symm)] at nx
    exact nx
set_option maxRecDepth 100000 in
set_option maxHeartbeats 4000000 in
theorem wb81 {E : Nat → Nat → Bool} {cd : Nat → Int32} {w n b j : Nat} {S0 : St} {Q : Int32 → St → Prop} (hn : n ≤ 8) (h : ∀ T, F45 S0 T → (∀ x, x < 2 ^ n → T.1 46 x = nI (WJ E cd w n (j + 1) x)) → V mdX6_waysBy 187 [some (.ref 34), some (.int (nI b)), some (.int (nI (2 ^ n - 1))), some (.int (nI j)), none, none, some (.int 0), none, none, none] [] T (qI Q)) : ∀ d s, s + d = 2 ^ n → ∀ T, F45 S0 T → (∀ x, x < 2 ^ n → T.1 45 x = nI (WJ E cd w n j x)) → (∀ x, x < s → T.1 46 x = nI (WJ E cd w n (j + 1) x)) → V mdX6_waysBy 81 [some (.ref 34), some (.int (nI b)), some (.int (nI (2 ^ n - 1))), some (.int (nI j)), some (.int (nI (msk n (fun v => E v (en w j))))), some (.int (cd j)), some (.int (nI s)), none, none, none] [] T (qI Q) := by
  have p2 := p2_le hn
  have p0 : 0 < 2 ^ n := Nat.pow_pos (by decide)
  intro d
  induction d with
  | zero =>
    intro s hs T f k45 k46
    have : s = 2 ^ n := by omega
    subst this
    apply eX6_waysBy_81
    exact br_t (nI_lt (by omega) (by omega)) (h T f k46)
  | succ d ih =>
    intro s hs T f k45 k46
    apply eX6_waysBy_81
    refine br_f (fun z => by rw [nI_ltI (by omega) (by omega)] at z; omega) (wb93 hn (by omega) k45 (ih (s + 1) (by omega) _ (f.put (Or.inr rfl)) (fun x hx => by rw [sI_o (by omega)]; exact k45 x hx) (fun x hx => ?_)) (s + 1) 0 (by omega))
    by_cases z : x = s
    · subst z
      rw [sI_h ⟨rfl, rfl⟩]
    · rw [sI_o (Or.inr z)]
      exact k46 x (by omega)
set_option maxRecDepth 100000 in
set_option maxHeartbeats 4000000 in
theorem wb187 {E : Nat → Nat → Bool} {cd : Nat → Int32} {w n b j : Nat} {S0 : St} {Q : Int32 → St → Prop} (hn : n ≤ 8) (h : ∀ T, F45 S0 T → (∀ x, x < 2 ^ n → T.1 45 x = nI (WJ E cd w n (j + 1) x)) → V mdX6_waysBy 39 [some (.ref 34), some (.int (nI b)), some (.int (nI (2 ^ n - 1))), some (.int (nI (j + 1))), none, none, none, none, none, none] [] T (qI Q)) : ∀ d s, s + d = 2 ^ n → ∀ T, F45 S0 T → (∀ x, x < 2 ^ n → T.1 46 x = nI (WJ E cd w n (j + 1) x)) → (∀ x, x < s → T.1 45 x = nI (WJ E cd w n (j + 1) x)) → V mdX6_waysBy 187 [some (.ref 34), some (.int (nI b)), some (.int (nI (2 ^ n - 1))), some (.int (nI j)), none, none, some (.int (nI s)), none, none, none] [] T (qI Q) := by
  have p2 := p2_le hn
  have p0 : 0 < 2 ^ n := Nat.pow_pos (by decide)
  intro d
  induction d with
  | zero =>
    intro s hs T f k46 k45
    have : s = 2 ^ n := by omega
    subst this
    apply eX6_waysBy_187
    rw [nI_1]
    exact br_t (nI_lt (by omega) (by omega)) (h T f k45)
  | succ d ih =>
    intro s hs T f k46 k45
    have g := pk_in (x := nI s) s 256 (by omega) rfl
    apply eX6_waysBy_187
    rw [nI_1 s, nI_clamp (n := s) (by omega), k46 s (by omega)]
    refine br_f (fun z => by rw [nI_ltI (by omega) (by omega)] at z; omega) ⟨g, g, ih (s + 1) (by omega) _ (f.put (Or.inl rfl)) (fun x hx => by rw [sI_o (by omega)]; exact k46 x hx) (fun x hx => ?_)⟩
    by_cases z : x = s
    · subst z
      rw [sI_h ⟨rfl, rfl⟩]
    · rw [sI_o (Or.inr z)]
      exact k45 x (by omega)
set_option maxRecDepth 100000 in
set_option maxHeartbeats 4000000 in
theorem wb39 {E : Nat → Nat → Bool} {cd : Nat → Int32} {w n b : Nat} {S0 : St} {Q : Int32 → St → Prop} (hn : n ≤ 8) (hw : w ≤ 6) (hb : b + w < 240) (hR : RT S0 E cd w n b) (h : ∀ T, F45 S0 T → Q (nI (WJ E cd w n (w + 1) (2 ^ n - 1))) T) : ∀ d j, j + d = w + 1 → ∀ T, F45 S0 T → (∀ x, x < 2 ^ n → T.1 45 x = nI (WJ E cd w n j x)) → V mdX6_waysBy 39 [some (.ref 34), some (.int (nI b)), some (.int (nI (2 ^ n - 1))), some (.int (nI j)), none, none, none, none, none, none] [] T (qI Q) := by
  have p2 := p2_le hn
  have p0 : 0 < 2 ^ n := Nat.pow_pos (by decide)
  intro d
  induction d with
  | zero =>
    intro j hj T f k
    have : j = w + 1 := by omega
    subst this
    apply eX6_waysBy_39
    rw [(hR.f f).1, nI_clamp (n := 2 ^ n - 1) (by omega), k _ (by omega)]
    exact br_t (nI_lt (by omega) (by omega)) ⟨pk_in _ 256 (show 2 ^ n - 1 < 256 by omega), h T f⟩
  | succ d ih =>
    intro j hj T f k
    obtain ⟨r1, r2, r3⟩ := hR.f f
    have go : V mdX6_waysBy 81 [some (.ref 34), some (.int (nI b)), some (.int (nI (2 ^ n - 1))), some (.int (nI j)), some (.int (nI (msk n (fun v => E v (en w j))))), some (.int (cd j)), some (.int (nI 0)), none, none, none] [] T (qI Q) := wb81 (S0 := S0) hn (fun U u k46 => wb187 (S0 := S0) hn (fun U2 u2 k45 => ih (j + 1) (by omega) U2 u2 k45) (2 ^ n) 0 (by omega) U u k46 (fun x hx => absurd hx (Nat.not_lt_zero _))) (2 ^ n) 0 (by omega) T f k (fun x hx => absurd hx (Nat.not_lt_zero _))
    have g2 : vp_in (nI (b + j)) 240 := pk_in _ 240 (show b + j < 240 by omega)
    apply eX6_waysBy_39
    rw [r1, nI_add, nI_clamp (n := b + j) (by omega), nI_clamp (n := j) (by omega), r3 j (by omega), nI_eq (by omega) (by omega)]
    refine br_f (fun z => by rw [nI_ltI (by omega) (by omega)] at z; omega) ⟨fun q => ⟨pk_in j 7 (by omega), g2, ?_⟩, fun q => ⟨g2, ?_⟩⟩
    · rw [r2 j (by omega)]
      rw [show en w j = j from if_pos (by omega)] at go
      exact go
    · rw [r2 6 (by omega)]
      rw [show en w j = 6 from if_neg (by omega)] at go
      exact go
set_option maxRecDepth 100000 in
set_option maxHeartbeats 4000000 in
theorem wb11 {E : Nat → Nat → Bool} {cd : Nat → Int32} {w n b : Nat} {S0 : St} {Q : Int32 → St → Prop} (hn : n ≤ 8) (h : ∀ T, F45 S0 T → (∀ x, x < 2 ^ n → T.1 45 x = nI (WJ E cd w n 0 x)) → V mdX6_waysBy 39 [some (.ref 34), some (.int (nI b)), some (.int (nI (2 ^ n - 1))), some (.int (nI 0)), none, none, none, none, none, none] [] T (qI Q)) : ∀ d s, s + d = 2 ^ n → ∀ T, F45 S0 T → (∀ x, x < s → T.1 45 x = nI (WJ E cd w n 0 x)) → V mdX6_waysBy 11 [some (.ref 34), some (.int (nI b)), some (.int (nI (2 ^ n - 1))), some (.int (nI s)), none, none, none, none, none, none] [] T (qI Q) := by
  have p2 := p2_le hn
  have p0 : 0 < 2 ^ n := Nat.pow_pos (by decide)
  intro d
  induction d with
  | zero =>
    intro s hs T f k
    have : s = 2 ^ n := by omega
    subst this
    apply eX6_waysBy_11
    exact br_t (nI_lt (by omega) (by omega)) (h T f k)
  | succ d ih =>
    intro s hs T f k
    have g := pk_in (x := nI s) s 256 (by omega) rfl
    have nx : ∀ v, v = nI (WJ E cd w n 0 s) → V mdX6_waysBy 11 [some (.ref 34), some (.int (nI b)), some (.int (nI (2 ^ n - 1))), some (.int (nI (s + 1))), none, none, none, none, none, none] [] (sI T 45 s v) (qI Q) := fun v hv => ih (s + 1) (by omega) _ (f.put (Or.inl rfl)) (fun x hx => by
      by_cases z : x = s
      · subst z
        rw [sI_h ⟨rfl, rfl⟩]
        exact hv
      · rw [sI_o (Or.inr z)]
        exact k x (by omega))
    have hW := WS_st (E := Ej E w) (u := Tj cd) (k := n) (s := s) (by omega)
    apply eX6_waysBy_11
    rw [nI_1 s, nI_clamp (n := s) (by omega)]
    refine br_f (fun z => by rw [nI_ltI (by omega) (by omega)] at z; omega) ⟨fun q => ⟨g, nx _ ?_⟩, fun q => ⟨g, nx _ ?_⟩⟩
    · rw [fa_lit 0, nI_eq (by omega) (by omega)] at q
      unfold WJ
      rw [hW, if_neg q]
      rfl
    · rw [fa_lit 0, nI_eq (by omega) (by omega)] at q
      unfold WJ
      rw [hW, if_pos q]
      rfl
set_option maxRecDepth 100000 in
set_option maxHeartbeats 4000000 in
theorem c_waysBy {E : Nat → Nat → Bool} {cd : Nat → Int32} {w n b : Nat} {S0 : St} {Q : Int32 → St → Prop} (hn : n ≤ 8) (hw : w ≤ 6) (hb : b + w < 240) (hN : S0.1 34 11 = nI n) (hR : RT S0 E cd w n b) (h : ∀ T, F45 S0 T → Q (nI (WS (Ej E w) (w + 1) n al (Tj cd))) T) : CallV mdX6_waysBy [.ref 34, .int (nI b)] S0 (qI Q) := by
  have p0 : 0 < 2 ^ n := Nat.pow_pos (by decide)
  apply eX6_waysBy
  rw [hN, wi_1 n (by omega), fa_lit 1, pk_sub (by omega)]
  have e : WJ E cd w n (w + 1) (2 ^ n - 1) = WS (Ej E w) (w + 1) n al (Tj cd) := WS_P (fun i hi => by
    show (2 ^ n - 1).testBit i = true
    rw [Nat.testBit_two_pow_sub_one, decide_eq_true hi])
  exact wb11 hn (fun T f k => wb39 hn hw hb hR (fun U u => by rw [e]; exact h U u) (w + 1) 0 (by omega) T f k) (2 ^ n) 0 (by omega) S0 F45.one (fun x hx => absurd hx (Nat.not_lt_zero _))
/-! where each vote can come to -/
set_option maxRecDepth 100000 in
set_option maxHeartbeats 4000000 in
theorem lc38 {M : MS} {S0 : St} {Q : St → Prop} (hM : OKM M) (hm0 : MI S0 M) {v : Nat} (hv : v < mN M) (hL : LC S0 M (mK M v) (mC M v)) (h : ∀ T, T.2 = S0.2 → (∀ q, q ≠ 44 → T.1 q = S0.1 q) → (∀ e, e < 7 → T.1 44 e = nI (msk (v + 1) (fun x => vE M x e))) → V mdX6_layCan 23 [some (.ref 34), some (.int (nI (v + 1))), none, none] [] T (qV Q)) : ∀ d e, e + d = 7 → ∀ T, T.2 = S0.2 → (∀ q, q ≠ 44 → T.1 q = S0.1 q) → (∀ x, x < e → T.1 44 x = nI (msk (v + 1) (fun y => vE M y x))) → (∀ x, e ≤ x → x < 7 → T.1 44 x = nI (msk v (fun y => vE M y x))) → V mdX6_layCan 38 [some (.ref 34), some (.int (nI v)), some (.int (nI e)), none] [] T (qV Q) := by
  have n8 := hM.n8
  have w6 := hM.w6
  have h5 := hM.h5
  have hk := hM.k2 hv
  have hc := hM.cw hv
  have pw := pow8_le (r := mH M) h5
  have hp0 : 0 < 8 ^ (5 - mH M) := Nat.pow_pos (by decide)
  intro d
  induction d with
  | zero =>
    intro e he T f2 f k k'
    have : e = 7 := by omega
    subst this
    apply eX6_layCan_38
    rw [nI_1]
    exact br_t (nI_le (a := 7) (by omega) (by omega)) (h T f2 f k)
  | succ d ih =>
    intro e he T f2 f k k'
    have g := pk_in (x := nI e) e 7 (by omega) rfl
    have m1 := msk_lt (fun y => vE M y e) v
    have p2 := p2_le (n := v) (by omega)
    have hor := msk_or (fun y => vE M y e) v (vE M v e) rfl
    have nx : ∀ x, x = nI (msk (v + 1) (fun y => vE M y e)) → V mdX6_layCan 38 [some (.ref 34), some (.int (nI v)), some (.int (nI (e + 1))), none] [] (sI T 44 e x) (qV Q) := fun x hx => ih (e + 1) (by omega) _ f2 (fun q hq => by rw [sI_ne _ _ _ hq]; exact f q hq) (fun y hy => by
      by_cases z : y = e
      · subst z
        rw [sI_h ⟨rfl, rfl⟩]
        exact hx
      · rw [sI_o (Or.inr z)]
        exact k y (by omega)) (fun y h1 h2 => by rw [sI_o (Or.inr (by omega))]; exact k' y (by omega) h2)
    have no : vE M v e = false → nI (msk v (fun y => vE M y e)) ||| 0 = nI (msk (v + 1) (fun y => vE M y e)) := fun z => by
      rw [z, if_neg (by decide)] at hor
      rw [Int32.or_zero, hor]
    have yes : vE M v e = true → nI (msk v (fun y => vE M y e)) ||| ((1 : Int32) <<< (nI v &&& 31)) = nI (msk (v + 1) (fun y => vE M y e)) := fun z => by
      rw [z, if_pos rfl] at hor
      rw [wi_1 v (by omega), wi_or (by omega) (by omega), hor]
    apply eX6_layCan_38
    rw [(show T.1 34 2 = nI (mW M) by rw [f 34 (by decide)]; exact hm0.w), nI_1 e, nI_clamp (n := e) (by omega), k' e (Nat.le_refl _) (by omega), f2, nI_ltI (by omega) (by omega)]
    refine br_f (nI_ge (b := 7) (by omega) (by omega)) ⟨fun q => ⟨g, ?_⟩, fun q => ⟨fun q6 => ⟨g, g, nx _ (no ?_)⟩, fun q6 => ⟨g, ?_⟩⟩⟩
    · have b1 := fM_le hM (k := mK M v) (r := mH M) q hc
      have ev : vE M v e = decide (0 < fM M (mK M v) (mC M v) (mH M) e) := by
        unfold vE
        rw [if_neg (by omega), decide_eq_true q, Bool.true_and]
      rw [hL.1 e q, fa_litL 0, pk_lLE (by omega) (by omega)]
      refine ⟨fun z => ⟨g, g, nx _ (no ?_)⟩, fun z => ⟨g, g, nx _ (yes ?_)⟩⟩
      · rw [ev]
        exact decide_eq_false (by omega)
      · rw [ev]
        exact decide_eq_true (by omega)
    · rw [fa_lit 6, nI_eq (by omega) (by omega)] at q6
      unfold vE
      rw [if_neg q6, decide_eq_false q, Bool.false_and]
    · rw [fa_lit 6, nI_eq (by omega) (by omega)] at q6
      subst q6
      have b2 := kM_le hM (k := mK M v) hc
      have b3 := Nat.le_mul_of_pos_right (kM M (mK M v) (mC M v) (mH M)) hp0
      have ev : vE M v 6 = decide (0 < kM M (mK M v) (mC M v) (mH M)) := if_pos rfl
      rw [hL.2.1, fa_litL 0, pk_lLE (by omega) (by omega)]
      refine ⟨fun z => ⟨g, g, nx _ (no ?_)⟩, fun z => ⟨g, g, nx _ (yes ?_)⟩⟩
      · rw [ev]
        exact decide_eq_false (by omega)
      · rw [ev]
        exact decide_eq_true (by omega)
set_option maxRecDepth 100000 in
set_option maxHeartbeats 4000000 in
theorem lc23 {M : MS} {S0 : St} {Q : St → Prop} (hM : OKM M) (hm0 : MI S0 M) (h : ∀ T, (∀ q, q ≠ 44 → T.1 q = S0.1 q) → (∀ e, e < 7 → T.1 44 e = nI (msk (mN M) (fun x => vE M x e))) → Q T) : ∀ d v, v + d = mN M → ∀ T, (∀ q, q ≠ 44 → T.1 q = S0.1 q) → (∀ e, e < 7 → T.1 44 e = nI (msk v (fun x => vE M x e))) → V mdX6_layCan 23 [some (.ref 34), some (.int (nI v)), none, none] [] T (qV Q) := by
  have n8 := hM.n8
  intro d
  induction d with
  | zero =>
    intro v hv T f k
    have hm : MI T M := hm0.pw (fun i _ => by rw [f 34 (by decide)]) (fun p i hp => by rw [f p (by omega)])
    have : v = mN M := by omega
    subst this
    apply eX6_layCan_23
    rw [hm.n]
    exact br_t (nI_le (Nat.le_refl _) (by omega)) (h T f k)
  | succ d ih =>
    intro v hv T f k
    have hm : MI T M := hm0.pw (fun i _ => by rw [f 34 (by decide)]) (fun p i hp => by rw [f p (by omega)])
    have hv' : v < mN M := by omega
    apply eX6_layCan_23
    rw [hm.n, nI_clamp (n := v) (by omega), hm.kd hv', hm.co hv']
    refine br_f (nI_ge (by omega) (by omega)) ⟨pk_in v 8 (by omega), pk_in v 8 (by omega), c_layChances hM hm (hM.k2 hv') (hM.cw hv') (fun U u hL => ?_)⟩
    exact lc38 hM (hm.of1 u) hv' hL (fun W _ g k2 => ih (v + 1) (by omega) W (fun q hq => by rw [g q hq, u]; exact f q hq) k2) 7 0 (by omega) U rfl (fun _ _ => rfl) (fun x hx => absurd hx (Nat.not_lt_zero _)) (fun x _ hx => by rw [u]; exact k x hx)
set_option maxRecDepth 100000 in
set_option maxHeartbeats 4000000 in
theorem c_layCan {M : MS} {S0 : St} {Q : St → Prop} (hM : OKM M) (hm0 : MI S0 M) (h : ∀ T, (∀ q, q ≠ 44 → T.1 q = S0.1 q) → (∀ e, e < 7 → T.1 44 e = nI (msk (mN M) (fun x => vE M x e))) → Q T) : CallV mdX6_layCan [.ref 34] S0 (qV Q) := by
  have lp : ∀ d e, e + d = 7 → ∀ T : St, (∀ q, q ≠ 44 → T.1 q = S0.1 q) → (∀ x, x < e → T.1 44 x = 0) → V mdX6_layCan 2 [some (.ref 34), some (.int (nI e)), none, none] [] T (qV Q) := by
    intro d
    induction d with
    | zero =>
      intro e he T f k
      have : e = 7 := by omega
      subst this
      apply eX6_layCan_2
      exact br_t (nI_le (a := 7) (by omega) (by omega)) (lc23 hM hm0 h (mN M) 0 (by omega) T f (fun x hx => by rw [k x hx]; rfl))
    | succ d ih =>
      intro e he T f k
      apply eX6_layCan_2
      rw [nI_1, nI_clamp (n := e) (by omega)]
      refine br_f (nI_ge (b := 7) (by omega) (by omega)) ⟨pk_in e 7 (by omega), ih (e + 1) (by omega) _ (fun q hq => by rw [sI_ne _ _ _ hq]; exact f q hq) (fun x hx => ?_)⟩
      by_cases z : x = e
      · subst z
        rw [sI_h ⟨rfl, rfl⟩]
      · rw [sI_o (Or.inr z)]
        exact k x (by omega)
  apply eX6_layCan
  exact lp 7 0 (by omega) S0 (fun _ _ => rfl) (fun x hx => absurd hx (Nat.not_lt_zero _))
