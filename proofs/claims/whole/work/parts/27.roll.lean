/-! ===== roll ===== -/
set_option maxRecDepth 100000 in
set_option maxHeartbeats 4000000 in
theorem c_barred {k n l : Nat} {x z : Int32} {S : St} {Q : Int32 → St → Prop} {la : Int32} (hk : k < 4) (hn : n ≤ 60) (e1 : S.1 47 k = nI n) (e2 : S.1 48 k = nI l) (h1 : ¬ nI l = la → Q (-12) (sI S 34 0 2)) (h2 : nI l = la → z.toInt < 0 → Q (-14) (sI S 34 0 4)) (h3 : nI l = la → 0 ≤ z.toInt → 0 ≤ x.toInt → x.toInt + z.toInt ≤ n → Q 0 S) (h4 : nI l = la → 0 ≤ z.toInt → ¬ (0 ≤ x.toInt ∧ x.toInt + z.toInt ≤ n) → Q (-13) (sI S 34 0 3)) : CallV mdX6_cellsBarred [.ref 34, .int (nI k), .int la, .int x, .long z.toInt64] S (qI Q) := by
  have tn := nI_toInt (n := n) (by omega)
  have g4 : vp_in (nI k) 4 := pk_in k 4 hk
  apply eX6_cellsBarred
  rw [nI_clamp (n := k) (by omega), e1, e2]
  refine ⟨g4, br_f (by (try simp only [fa_lt, fa_le, fa_eq, fa_lt64, fa_le64, fa_eq64, Int32.toInt_toInt64, lsub1, Int32.reduceToInt, Int64.reduceToInt, Int32.toInt_zero, Int64.toInt_zero, ti_m1, ti_m2, ti_m3, ti_m4, ti_m9] at *) <;> omega) ⟨g4, fun q => ⟨g4, br_t (by (try simp only [fa_lt, fa_le, fa_eq, fa_lt64, fa_le64, fa_eq64, Int32.toInt_toInt64, lsub1, Int32.reduceToInt, Int64.reduceToInt, Int32.toInt_zero, Int64.toInt_zero, ti_m1, ti_m2, ti_m3, ti_m4, ti_m9] at *) <;> omega) ⟨fun w => ⟨g4, ?_⟩, fun w => h2 q (by (try simp only [fa_lt, fa_le, fa_eq, fa_lt64, fa_le64, fa_eq64, Int32.toInt_toInt64, lsub1, Int32.reduceToInt, Int64.reduceToInt, Int32.toInt_zero, Int64.toInt_zero, ti_m1, ti_m2, ti_m3, ti_m4, ti_m9] at *) <;> omega)⟩⟩, fun q => h1 q⟩⟩
  refine c_isBeyond (fun a b c => br_t rfl (h3 q b a (by rw [tn] at c; exact c))) (fun a => br_f (by decide) (h4 q (by (try simp only [fa_lt, fa_le, fa_eq, fa_lt64, fa_le64, fa_eq64, Int32.toInt_toInt64, lsub1, Int32.reduceToInt, Int64.reduceToInt, Int32.toInt_zero, Int64.toInt_zero, ti_m1, ti_m2, ti_m3, ti_m4, ti_m9] at *) <;> omega) (fun b => a ⟨b.1, (by (try simp only [fa_lt, fa_le, fa_eq, fa_lt64, fa_le64, fa_eq64, Int32.toInt_toInt64, lsub1, Int32.reduceToInt, Int64.reduceToInt, Int32.toInt_zero, Int64.toInt_zero, ti_m1, ti_m2, ti_m3, ti_m4, ti_m9] at *) <;> omega), by rw [tn]; exact b.2⟩)))
set_option maxRecDepth 100000 in
set_option maxHeartbeats 4000000 in
theorem c_gone {k : Nat} {x la : Int32} {y : Int64} {S : St} {Q : Int32 → St → Prop} (hk : k < 4) (e1 : S.1 47 k = -1) (h : Q (-11) (sI S 34 0 1)) : CallV mdX6_cellsBarred [.ref 34, .int (nI k), .int la, .int x, .long y] S (qI Q) := by
  have g4 : vp_in (nI k) 4 := pk_in k 4 hk
  apply eX6_cellsBarred
  rw [nI_clamp (n := k) (by omega), e1]
  exact ⟨g4, br_t (by decide) ⟨g4, br_f (by decide) h⟩⟩
/-- the next column by a draw -/
def nx (t k s w c : Nat) (v : Int32) : Nat := if nI (pL t k s) ≤ v then (if nI (8 - pR t k s) ≤ v then cr w c else c) else cl c
theorem nx_lt {t k s w c : Nat} {v : Int32} (hc : c < w) : nx t k s w c v < w := by
  unfold nx
  split
  · split
    · exact cr_lt hc
    · exact hc
  · exact cl_lt hc
theorem nx_0 {t k s w c : Nat} (hk : k ≤ 2) (h4 : s ≤ 4) (n1 : s ≠ 1) (n4 : s ≠ 4) : nx t k s w c 0 = gO w k s c := by
  unfold nx gO pL pR
  by_cases q : k = 2
  · rw [if_pos q, if_pos q, if_pos (Or.inl q), if_pos (by decide), if_neg (by decide)]
  · rw [if_neg q, if_neg q]
    rcases (by omega : s = 0 ∨ s = 2 ∨ s = 3) with rfl | rfl | rfl
    · simp [q]
      rw [if_pos (by decide), if_neg (by decide)]
    · simp [q]
      intro z
      exact absurd z (by decide)
    · simp [q]
      rw [if_pos (by decide), if_pos (by decide)]
def rl (M : MS) (k n : Nat) (rd : Nat → Int32) : Nat → Nat → Nat → Nat → Int32 × Int32
  | 0, _, c, _ => (nI c, 0)
  | d + 1, r, c, i =>
    if mS M (r * mW M + c) = 4 then (-9, 0)
    else if mS M (r * mW M + c) = 1 then
      (if i < n then (if rd i < 0 then (-2, 0) else if (8 : Int32) ≤ rd i then (-2, 0) else rl M k n rd d (r + 1) (nx (mT M) k 1 (mW M) c (rd i)) (i + 1)) else (-13, 3))
    else rl M k n rd d (r + 1) (gO (mW M) k (mS M (r * mW M + c)) c) i
set_option maxRecDepth 100000 in
set_option maxHeartbeats 4000000 in
theorem c_below {M : MS} (hM : OKM M) {S : St} (hC : CI S M) {r j s k : Nat} {v : Int32} (hr : r < mH M) (hj : j < mW M) (hk : k ≤ 2) (hs : s ≤ 4) {Q : Int32 → St → Prop} (h : Q (nI ((r + 1) * mW M + nx (mT M) k s (mW M) j v)) S) : CallV mdX2_below [.ref 1, .int (nI (r * mW M + j)), .int (nI s), .int (nI k), .int v] S (qI Q) := by
  have hR : pR (mT M) k s ≤ 8 := by
    have := pLMR (t := mT M) (k := k) (s := s) hM.t1
    omega
  have es : (r + 1) * mW M = r * mW M + mW M := Nat.succ_mul _ _
  unfold nx at h
  apply eX2_below
  refine c_partsLeft (t := mT M) hM.t1 hk (by omega) hC.t ⟨fun a => c_partsRight (t := mT M) hM.t1 hk (by omega) hC.t ?_, fun a => c_belowLeft hM hC hr hj ?_⟩
  · rw [if_pos a] at h
    rw [fa_lit 8, pk_sub hR]
    refine ⟨fun b => c_belowRight hM hC hr hj ?_, fun b => ?_⟩
    · rw [if_pos b] at h
      exact h
    · rw [if_neg b] at h
      rw [hC.w, nI_add, show r * mW M + j + mW M = (r + 1) * mW M + j by omega]
      exact h
  · rw [if_neg a] at h
    exact h
set_option maxRecDepth 100000 in
set_option maxHeartbeats 4000000 in
theorem rb28 {M : MS} {T : St} {Q : Int32 → St → Prop} {P : Int32 → Int32 → Prop} (hM : OKM M) (hC : CI T M) {p k n : Nat} (hp : isSh p) (hk : k ≤ 2) (hn : n ≤ 60) (e1 : T.1 p 1 = 1) (e3 : T.1 p 3 = nI n) (h0 : ∀ x, P x 0 → Q x T) (h3 : P (-13) 3 → Q (-13) (sI T 0 6 3)) : ∀ d r c i, r + d = mH M → c < mW M → i ≤ n → P (rl M k n (T.1 (p + 1)) d r c i).1 (rl M k n (T.1 (p + 1)) d r c i).2 → V mdX5_rollBy 28 [some (.ref 0), none, some (.ref p), none, some (.int (nI k)), some (.int (nI (r * mW M + c))), some (.int (nI i)), some (.int (nI r)), none, none] [] T (qI Q) := by
  have w6 := hM.w6
  have h5 := hM.h5
  have n30 := hM.n30
  have n36 := hM.n36
  intro d
  induction d with
  | zero =>
    intro r c i hr hc hi h
    have : r = mH M := by omega
    subst this
    apply eX5_rollBy_28 hp
    rw [hC.N, hC.h, pk_sub (by omega), show mH M * mW M + c - mH M * mW M = c by omega]
    exact br_t (nI_le (Nat.le_refl _) (by omega)) (h0 _ h)
  | succ d ih =>
    intro r c i hr hc hi h
    have hx : r * mW M + c < mH M * mW M := rw_lt (by omega) hc
    have s4 := hM.s4 hx
    have es : (r + 1) * mW M = r * mW M + mW M := Nat.succ_mul _ _
    unfold rl at h
    apply eX5_rollBy_28 hp
    rw [hC.h, nI_clamp (n := r * mW M + c) (by omega), hC.sg hx, fa_lit 4, nI_eq (by omega) (by omega), fa_lit 1, nI_eq (by omega) (by omega), e1, e3]
    refine br_f (nI_ge (by omega) (by omega)) ⟨pk_in _ 30 (show r * mW M + c < 30 by omega), fun q4 => ?_, fun q4 => ?_⟩
    · rw [if_neg q4] at h
      refine ⟨fun q1 => ?_, fun q1 => ?_⟩
      · rw [if_neg q1] at h
        refine c_below hM hC (by omega) hc hk s4 ?_
        rw [nx_0 hk s4 q1 q4, nI_add]
        exact ih (r + 1) _ i (by omega) (gO_lt hc) hi h
      · rw [if_pos q1] at h
        refine br_f (by decide) (br_f (nI_pos (by omega)) ?_)
        by_cases qi : i < n
        · rw [if_pos qi] at h
          refine br_f (nI_ge (by omega) (by omega)) (c_at hp hn e1 e3 (fun q => ?_) (fun i' hi' e => ?_))
          · rw [nI_toInt (by omega)] at q
            omega
          · rw [nI_eq (by omega) (by omega)] at e
            subst e
            refine ⟨fun a => ?_, fun a => ⟨fun b => ?_, fun b => ?_⟩⟩
            · rw [if_pos a] at h
              exact h0 _ h
            · rw [if_neg a, if_neg (by rw [fa_lt] at b; rw [fa_le]; omega)] at h
              rw [show nI (mS M (r * mW M + c)) = nI 1 by rw [q1]]
              refine c_below hM hC (by omega) hc hk (by omega) ?_
              rw [nI_add, nI_add]
              exact ih (r + 1) _ (i + 1) (by omega) (nx_lt hc) (by omega) h
            · rw [if_neg a, if_pos (by rw [fa_lt] at b; rw [fa_le]; omega)] at h
              exact h0 _ h
        · rw [if_neg qi] at h
          exact br_t (nI_le (by omega) (by omega)) (h3 h)
    · rw [if_pos q4] at h
      exact h0 _ h
set_option maxRecDepth 100000 in
set_option maxHeartbeats 4000000 in
theorem mr82 {M : MS} {T : St} {Q : Int32 → St → Prop} {P : Int32 → Int32 → Prop} (hM : OKM M) (hm : MI T M) {a k n : Nat} (ha : a < 4) (hk : k ≤ 2) (hn : n ≤ 60) {rd : Nat → Int32} (e1 : T.1 47 a = nI n) (e8 : ∀ i, i < n → rd i = T.1 49 (60 * a + i)) (h0 : ∀ x, P x 0 → Q x (sI T 34 0 0)) (h3 : P (-13) 3 → Q (-13) (sI T 34 0 3)) : ∀ d r c i, r + d = mH M → c < mW M → i ≤ n → P (rl M k n rd d r c i).1 (rl M k n rd d r c i).2 → V mdX6_roll 82 [some (.ref 34), none, some (.int (nI a)), none, none, none, some (.int (nI k)), some (.int (nI c)), some (.int (nI i)), some (.int (nI r)), none, none] [] T (qI Q) := by
  have w6 := hM.w6
  have h5 := hM.h5
  have n30 := hM.n30
  have g4 : vp_in (nI a) 4 := pk_in a 4 ha
  intro d
  induction d with
  | zero =>
    intro r c i hr hc hi h
    have : r = mH M := by omega
    subst this
    apply eX6_roll_82
    rw [hm.h]
    exact br_t (nI_le (Nat.le_refl _) (by omega)) (h0 _ h)
  | succ d ih =>
    intro r c i hr hc hi h
    have hx : r * mW M + c < mH M * mW M := rw_lt (by omega) hc
    have s4 := hM.s4 hx
    unfold rl at h
    apply eX6_roll_82
    rw [hm.h, hm.w, pk_mul, nI_add, nI_clamp (n := r * mW M + c) (by omega), hm.sg hx, fa_lit 4, nI_eq (by omega) (by omega), fa_lit 1, nI_eq (by omega) (by omega), nI_clamp (n := a) (by omega), e1, fa_lit 60, pk_mul, nI_add (60 * a) i, nI_clamp (n := 60 * a + i) (by omega)]
    refine br_f (nI_ge (by omega) (by omega)) ⟨pk_in _ 30 (show r * mW M + c < 30 by omega), fun q4 => ?_, fun q4 => ?_⟩
    · rw [if_neg q4] at h
      refine ⟨fun q1 => ?_, fun q1 => ⟨g4, ?_⟩⟩
      · rw [if_neg q1] at h
        refine c_goesOn hc w6 hk s4 hm.w ?_
        rw [nI_add]
        exact ih (r + 1) _ i (by omega) (gO_lt hc) hi h
      · rw [if_pos q1] at h
        rw [nI_ltI (by omega) (by omega)]
        refine ⟨fun qi => ?_, fun qi => ?_⟩
        · rw [if_pos qi] at h
          rw [← e8 i qi]
          have t7 : (7 : Int64).toInt = 7 := rfl
          have t0 : (0 : Int64).toInt = 0 := rfl
          have t8 : (8 : Int32).toInt = 8 := rfl
          have t0' : (0 : Int32).toInt = 0 := rfl
          have t64 := Int32.toInt_toInt64 (rd i)
          refine ⟨pk_in _ 240 (show 60 * a + i < 240 by omega), fun b => ?_, fun b => ⟨fun b2 => ?_, fun b2 => ?_⟩⟩
          · rw [fa_lt64] at b
            rw [if_pos (by rw [fa_lt]; omega)] at h
            exact h0 _ h
          · rw [fa_lt64] at b b2
            rw [if_neg (by rw [fa_lt]; omega), if_pos (by rw [fa_le]; omega)] at h
            exact h0 _ h
          · rw [fa_lt64] at b b2
            rw [if_neg (by rw [fa_lt]; omega), if_neg (by rw [fa_le]; omega)] at h
            have hR : pR (mT M) k 1 ≤ 8 := by
              have := pLR (t := mT M) (k := k) (s := 1) hM.t1
              omega
            have eL : lf (mT M) k = pL (mT M) k 1 := by
              unfold pL lf
              split <;> simp
            have eR : rf (mT M) k = pR (mT M) k 1 := by
              unfold pR rf
              split <;> simp
            have nxt : ∀ c', nx (mT M) k 1 (mW M) c (rd i) = c' → V mdX6_roll 82 [some (.ref 34), none, some (.int (nI a)), none, none, none, some (.int (nI k)), some (.int (nI c')), some (.int (nI i + nI 1)), some (.int (nI r + nI 1)), none, none] [] T (qI Q) := fun c' e => by
              rw [e] at h
              rw [nI_add, nI_add]
              exact ih (r + 1) c' (i + 1) (by omega) (by rw [← e]; exact nx_lt hc) (by omega) h
            refine c_leftOf (t := mT M) hM.t1 hk hm.t ?_
            rw [eL]
            refine ⟨fun z => c_rightOf (t := mT M) hM.t1 hk hm.t ?_, fun z => c_leftBy (by omega) (nxt _ ?_)⟩
            · rw [eR, fa_lit 8, pk_sub hR]
              refine ⟨fun y => c_rightBy (by omega) (by omega) hm.w (nxt _ ?_), fun y => nxt _ ?_⟩
              · unfold nx
                rw [if_pos z, if_pos y]
              · unfold nx
                rw [if_pos z, if_neg y]
            · unfold nx
              rw [if_neg z]
        · rw [if_neg qi] at h
          exact h3 h
    · rw [if_pos q4] at h
      exact h0 _ h
