/-! ===== the class's count of rows ===== -/
set_option maxRecDepth 100000 in
set_option maxHeartbeats 4000000 in
theorem lo4 {T : Nat → Nat} {S0 : St} {Q : Int32 → St → Prop} (hT : ∀ e, e < 7 → S0.1 20 e = nI (T e)) (h : ∀ S, FrR 23 24 S0 S → (∀ e, e < 7 → S.1 23 e = nI (st T e)) → Q (nI (st T 7)) S) : ∀ d e, e + d = 7 → ∀ S, FrR 23 24 S0 S → (∀ x, x < e → S.1 23 x = nI (st T x)) → V mdX0_layOut 4 [some (.ref 19), some (.int (nI (st T e))), some (.int (nI e))] [] S (qI Q) := by
  intro d
  induction d with
  | zero =>
    intro e he S f k
    have : e = 7 := by omega
    subst this
    apply eX0_layOut_4
    exact br_t (nI_le (a := 7) (by omega) (by omega)) (h S f k)
  | succ d ih =>
    intro e he S f k
    have g := pk_in (x := nI e) e 7 (by omega) rfl
    apply eX0_layOut_4
    rw [nI_clamp (n := e) (by omega), f.at (by omega), hT e (by omega), nI_1, nI_1, pk_mul]
    refine br_f (nI_ge (b := 7) (by omega) (by omega)) ⟨g, g, ih (e + 1) (by omega) _ (f.tr (FrR.put (by omega) (by omega))) (fun x hx => ?_)⟩
    by_cases z : x = e
    · subst z
      rw [sI_h ⟨rfl, rfl⟩]
    · rw [sI_o (Or.inr z)]
      exact k x (by omega)
set_option maxRecDepth 100000 in
set_option maxHeartbeats 4000000 in
theorem c_layOut {T : Nat → Nat} {S0 : St} {Q : Int32 → St → Prop} (hT : ∀ e, e < 7 → S0.1 20 e = nI (T e)) (h : ∀ S, FrR 23 24 S0 S → (∀ e, e < 7 → S.1 23 e = nI (st T e)) → Q (nI (st T 7)) S) : CallV mdX0_layOut [.ref 19] S0 (qI Q) := by
  apply eX0_layOut
  exact lo4 hT h 7 0 (by omega) S0 FrR.rfl (fun x hx => absurd hx (Nat.not_lt_zero _))
/-- what the count rests on -/
def CT (S : St) (E : Nat → Nat → Bool) (T : Nat → Nat) (n : Nat) : Prop := (∀ e, e < 7 → S.1 20 e = nI (T e)) ∧ (∀ e, e < 7 → S.1 23 e = nI (st T e)) ∧ (∀ v, v < n → S.1 21 v = nI (msk 7 (E v))) ∧ tot T = n ∧ n ≤ 8
theorem T_le {T : Nat → Nat} {n e : Nat} (h : tot T = n) (hn : n ≤ 8) (he : e < 7) : T e ≤ 8 := by
  have := sm_mem (f := T) he
  unfold tot at h
  omega
theorem CT.keep {S S' : St} {E : Nat → Nat → Bool} {T : Nat → Nat} {n : Nat} (h : CT S E T n) (e20 : S'.1 20 = S.1 20) (e21 : S'.1 21 = S.1 21) (e23 : S'.1 23 = S.1 23) : CT S' E T n := by
  unfold CT
  rw [e20, e21, e23]
  exact h
set_option maxRecDepth 100000 in
set_option maxHeartbeats 4000000 in
theorem pn27 {E : Nat → Nat → Bool} {T : Nat → Nat} {n s : Nat} {S0 : St} {Q : St → Prop} (hC0 : CT S0 E T n) (hs : s < st T 7) (hu : ∀ e, e < 7 → S0.1 22 e = nI (dg T s e)) (h : ∀ S, FrR 24 25 S0 S → (∀ t, t < st T 7 → S.1 24 t = nI (RIn E T s 7 t)) → Q S) : ∀ d e, e + d = 7 → ∀ S, FrR 24 25 S0 S → (∀ t, t < st T 7 → S.1 24 t = nI (RIn E T s e t)) → V mdX0_placeNextVote 27 [some (.ref 19), some (.int (nI s)), some (.int (nI (tot (dg T s)))), some (.int (nI e))] [] S (qV Q) := by
  obtain ⟨hT, hS, hE, htot, hn⟩ := id hC0
  have h192 := st_192 (T := T) (show sm 7 T ≤ 8 by unfold tot at htot; omega)
  have hdt : tot (dg T s) ≤ n := by
    rw [← htot]
    exact sm_le (fun e _ => dg_le)
  intro d
  induction d with
  | zero =>
    intro e he S f k
    have : e = 7 := by omega
    subst this
    apply eX0_placeNextVote_27
    exact br_t (nI_le (a := 7) (by omega) (by omega)) (h S f k)
  | succ d ih =>
    intro e he S f k
    have he7 : e < 7 := by omega
    have g := pk_in (x := nI e) e 7 he7 rfl
    have hTe := T_le htot hn he7
    have hde := dg_le (T := T) (s := s) (e := e)
    have skip : ∀ U : St, U = S → ¬ (dg T s e < T e ∧ E (tot (dg T s)) e = true) → V mdX0_placeNextVote 27 [some (.ref 19), some (.int (nI s)), some (.int (nI (tot (dg T s)))), some (.int (nI (e + 1)))] [] U (qV Q) := fun U u z => by
      subst u
      exact ih (e + 1) (by omega) U f (fun t ht => by rw [RIn_out he7 (fun y => z ⟨y.1, y.2.1⟩)]; exact k t ht)
    apply eX0_placeNextVote_27
    have r20 : S.1 20 e = nI (T e) := by rw [f.at (by omega)]; exact hT e he7
    have r22 : S.1 22 e = nI (dg T s e) := by rw [f.at (by omega)]; exact hu e he7
    have r23 : S.1 23 e = nI (st T e) := by rw [f.at (by omega)]; exact hS e he7
    rw [nI_1 e, nI_clamp (n := e) (by omega), r20, r22, r23, nI_leI (by omega) (by omega), nI_clamp (n := tot (dg T s)) (by omega)]
    refine br_f (nI_ge (b := 7) (by omega) (by omega)) ⟨g, g, fun q => skip S rfl (fun y => by omega), fun q => ?_⟩
    have hlt : tot (dg T s) < n := by
      rw [← htot]
      exact sm_lt (fun x _ => dg_le) ⟨e, he7, by omega⟩
    have r21 : S.1 21 (tot (dg T s)) = nI (msk 7 (E (tot (dg T s)))) := by rw [f.at (by omega)]; exact hE _ hlt
    have m7 := m7_lt (P := E (tot (dg T s)))
    rw [r21, wi_bit (by omega) (by omega), m7_bit he7]
    refine br_f (nI_ge (b := 8) (by omega) (by omega)) ⟨pk_in _ 8 (show tot (dg T s) < 8 by omega), fun w => skip S rfl (fun y => w y.2), fun w => ?_⟩
    have hup := up_lt he7 hs (show dg T s e < T e by omega)
    have g2 : vp_in (nI (s + st T e)) 192 := pk_in _ 192 (show s + st T e < 192 by omega)
    have hv := RIn_val (E := E) hs
    rw [nI_add, nI_clamp (n := s + st T e) (by omega), nI_clamp (n := s) (by omega), k _ hup, k _ hs, RIn_own, hv, nI_add]
    refine ⟨g, g2, pk_in s 192 (by omega), g2, ih (e + 1) (by omega) _ (f.tr (FrR.put (by omega) (by omega))) (fun t ht => ?_)⟩
    by_cases z : t = s + st T e
    · subst z
      rw [sI_h ⟨rfl, rfl⟩, RIn_in he7 (by omega) w]
    · rw [sI_o (Or.inr z), RIn_out he7 (fun y => z y.2.2)]
      exact k t ht
set_option maxRecDepth 100000 in
set_option maxHeartbeats 4000000 in
theorem pn4 {T : Nat → Nat} {s : Nat} {S : St} {Q : St → Prop} (hu : ∀ e, e < 7 → S.1 22 e = nI (dg T s e)) (h : V mdX0_placeNextVote 27 [some (.ref 19), some (.int (nI s)), some (.int (nI (tot (dg T s)))), some (.int (nI 0))] [] S (qV Q)) : ∀ d e, e + d = 7 → V mdX0_placeNextVote 4 [some (.ref 19), some (.int (nI s)), some (.int (nI (sm e (dg T s)))), some (.int (nI e))] [] S (qV Q) := by
  intro d
  induction d with
  | zero =>
    intro e he
    have : e = 7 := by omega
    subst this
    apply eX0_placeNextVote_4
    exact br_t (nI_le (a := 7) (by omega) (by omega)) h
  | succ d ih =>
    intro e he
    apply eX0_placeNextVote_4
    rw [nI_clamp (n := e) (by omega), hu e (by omega), nI_add, nI_1]
    exact br_f (nI_ge (b := 7) (by omega) (by omega)) ⟨pk_in e 7 (by omega), ih (e + 1) (by omega)⟩
set_option maxRecDepth 100000 in
set_option maxHeartbeats 4000000 in
theorem c_place {E : Nat → Nat → Bool} {T : Nat → Nat} {n s : Nat} {S0 : St} {Q : St → Prop} (hC0 : CT S0 E T n) (hs : s < st T 7) (hu : ∀ e, e < 7 → S0.1 22 e = nI (dg T s e)) (hr : ∀ t, t < st T 7 → S0.1 24 t = nI (RIn E T s 0 t)) (h : ∀ S, FrR 24 25 S0 S → (∀ t, t < st T 7 → S.1 24 t = nI (RIn E T (s + 1) 0 t)) → Q S) : CallV mdX0_placeNextVote [.ref 19, .int (nI s)] S0 (qV Q) := by
  apply eX0_placeNextVote
  exact pn4 hu (pn27 hC0 hs hu (fun S f k => h S f (fun t ht => by rw [← RIn_7]; exact k t ht)) 7 0 (by omega) S0 FrR.rfl hr) 7 0 (by omega)
set_option maxRecDepth 100000 in
set_option maxHeartbeats 4000000 in
theorem nu2 {T : Nat → Nat} {n s : Nat} {S0 : St} {Q : St → Prop} (hT : ∀ e, e < 7 → S0.1 20 e = nI (T e)) (htot : tot T = n) (hn : n ≤ 8) (hu : ∀ e, e < 7 → S0.1 22 e = nI (dg T s e)) (h : ∀ S, FrR 22 23 S0 S → (∀ e, e < 7 → S.1 22 e = nI (dg T (s + 1) e)) → Q S) : ∀ d e, e + d = 7 → (∀ x, x < e → dg T s x = T x) → ∀ S, FrR 22 23 S0 S → (∀ x, x < e → S.1 22 x = 0) → (∀ x, e ≤ x → x < 7 → S.1 22 x = nI (dg T s x)) → V mdX0_nextUsed 2 [some (.ref 19), some (.int (nI e))] [] S (qV Q) := by
  intro d
  induction d with
  | zero =>
    intro e he hx S f k0 k
    have : e = 7 := by omega
    subst this
    apply eX0_nextUsed_2
    refine br_t (nI_le (a := 7) (by omega) (by omega)) (h S f (fun x hx' => ?_))
    rw [k0 x hx', dg_c0 (fun y hy => hx y (by omega))]
    rfl
  | succ d ih =>
    intro e he hx S f k0 k
    have he7 : e < 7 := by omega
    have g := pk_in (x := nI e) e 7 he7 rfl
    have hTe := T_le htot hn he7
    have hde := dg_le (T := T) (s := s) (e := e)
    have r20 : S.1 20 e = nI (T e) := by rw [f.at (by omega)]; exact hT e he7
    apply eX0_nextUsed_2
    rw [nI_1 e, nI_clamp (n := e) (by omega), r20, k e (Nat.le_refl _) he7, nI_leI (by omega) (by omega), nI_1]
    refine br_f (nI_ge (b := 7) (by omega) (by omega)) ⟨g, g, fun q => ⟨g, ?_⟩, fun q => ⟨g, g, ?_⟩⟩
    · refine ih (e + 1) (by omega) (fun x hx' => ?_) _ (f.tr (FrR.put (by omega) (by omega))) (fun x hx' => ?_) (fun x h1 h2 => ?_)
      · by_cases z : x = e
        · subst z
          omega
        · exact hx x (by omega)
      · by_cases z : x = e
        · subst z
          rw [sI_h ⟨rfl, rfl⟩]
        · rw [sI_o (Or.inr z)]
          exact k0 x (by omega)
      · rw [sI_o (Or.inr (by omega))]
        exact k x (by omega) h2
    · refine h _ (f.tr (FrR.put (by omega) (by omega))) (fun x hx' => ?_)
      rcases Nat.lt_trichotomy x e with z | z | z
      · rw [sI_o (Or.inr (by omega)), k0 x z, dg_c0 (fun y hy => hx y (by omega))]
        rfl
      · subst z
        rw [sI_h ⟨rfl, rfl⟩, dg_c1 hx (by omega)]
      · rw [sI_o (Or.inr (by omega)), k x (by omega) hx', dg_c2 hx (by omega) z]
set_option maxRecDepth 100000 in
set_option maxHeartbeats 4000000 in
theorem c_nextUsed {T : Nat → Nat} {n s : Nat} {S0 : St} {Q : St → Prop} (hT : ∀ e, e < 7 → S0.1 20 e = nI (T e)) (htot : tot T = n) (hn : n ≤ 8) (hu : ∀ e, e < 7 → S0.1 22 e = nI (dg T s e)) (h : ∀ S, FrR 22 23 S0 S → (∀ e, e < 7 → S.1 22 e = nI (dg T (s + 1) e)) → Q S) : CallV mdX0_nextUsed [.ref 19] S0 (qV Q) := by
  apply eX0_nextUsed
  exact nu2 hT htot hn hu h 7 0 (by omega) (fun x hx => absurd hx (Nat.not_lt_zero _)) S0 FrR.rfl (fun x hx => absurd hx (Nat.not_lt_zero _)) (fun x _ hx => hu x hx)
def FRR (S T : St) : Prop := T.2 = S.2 ∧ ∀ q, q ≠ 22 → q ≠ 23 → q ≠ 24 → T.1 q = S.1 q
theorem FRR.fr {S T U : St} {a b : Nat} (h : FRR S T) (f : FrR a b T U) (ha : 22 ≤ a) (hb : b ≤ 25) : FRR S U := ⟨f.1.trans h.1, fun q h1 h2 h3 => (f.2 q (by omega)).trans (h.2 q h1 h2 h3)⟩
set_option maxRecDepth 100000 in
set_option maxHeartbeats 4000000 in
theorem ro39 {E : Nat → Nat → Bool} {T : Nat → Nat} {n : Nat} {S0 : St} {Q : Int32 → St → Prop} (hC0 : CT S0 E T n) (h : ∀ S, FRR S0 S → Q (nI (WS E 7 n al T)) S) : ∀ d s, s + 1 + d = st T 7 → ∀ S, FRR S0 S → CT S E T n → (∀ e, e < 7 → S.1 22 e = nI (dg T s e)) → (∀ t, t < st T 7 → S.1 24 t = nI (RIn E T s 0 t)) → V mdX0_rows 39 [some (.ref 19), some (.int (nI (st T 7))), some (.int (nI s))] [] S (qI Q) := by
  obtain ⟨_, _, _, htot, hn⟩ := id hC0
  have h192 := st_192 (T := T) (show sm 7 T ≤ 8 by unfold tot at htot; omega)
  intro d
  induction d with
  | zero =>
    intro s hs S f hC ku kr
    have es : s = st T 7 - 1 := by omega
    apply eX0_rows_39
    rw [fa_lit 1, pk_sub (by omega), ← es, nI_clamp (n := s) (by omega), kr s (by omega), RIn_val (by omega)]
    have ed : ∀ e, e < 7 → dg T s e = T e := fun e he => by rw [es]; exact dg_top he
    rw [WS_u ed, show tot (dg T s) = n by rw [← htot]; exact sm_cong ed]
    exact br_t (nI_le (Nat.le_refl _) (by omega)) ⟨pk_in s 192 (by omega), h S f⟩
  | succ d ih =>
    intro s hs S f hC ku kr
    apply eX0_rows_39
    rw [fa_lit 1, pk_sub (by omega), nI_add]
    refine br_f (nI_ge (by omega) (by omega)) (c_place hC (by omega) ku kr (fun S1 f1 k1 => c_nextUsed (s := s) (hC.keep (f1.2 20 (by omega)) (f1.2 21 (by omega)) (f1.2 23 (by omega))).1 htot hn (fun e he => by rw [f1.at (by omega)]; exact ku e he) (fun S2 f2 k2 => ?_)))
    exact ih (s + 1) (by omega) S2 ((f.fr f1 (by omega) (by omega)).fr f2 (by omega) (by omega)) (hC.keep (by rw [f2.2 20 (by omega), f1.2 20 (by omega)]) (by rw [f2.2 21 (by omega), f1.2 21 (by omega)]) (by rw [f2.2 23 (by omega), f1.2 23 (by omega)])) k2 (fun t ht => by rw [f2.at (by omega)]; exact k1 t ht)
set_option maxRecDepth 100000 in
set_option maxHeartbeats 4000000 in
theorem c_rows {E : Nat → Nat → Bool} {T : Nat → Nat} {n : Nat} {S0 : St} {Q : Int32 → St → Prop} (hT : ∀ e, e < 7 → S0.1 20 e = nI (T e)) (hE : ∀ v, v < n → S0.1 21 v = nI (msk 7 (E v))) (htot : tot T = n) (hn : n ≤ 8) (h : ∀ S, FRR S0 S → Q (nI (WS E 7 n al T)) S) : CallV mdX0_rows [.ref 19] S0 (qI Q) := by
  have h192 := st_192 (T := T) (show sm 7 T ≤ 8 by unfold tot at htot; omega)
  have hp := st_pos (T := T) 7
  apply eX0_rows
  refine c_layOut hT (fun S1 f1 k1 => br_t (by rw [fa_lit 192]; exact nI_le h192 (by omega)) ?_)
  refine c_fill (q := 24) (n := 192) (rs := []) (by decide) rfl (by omega) 0 _ _ (c_fill (q := 22) (n := 7) (rs := []) (by decide) rfl (by omega) 0 _ _ ?_)
  have f4 : FRR S0 (sI (sF (sF S1 24 (fun j => if j < 192 then 0 else S1.1 24 j)) 22 (fun j => if j < 7 then 0 else (sF S1 24 (fun j => if j < 192 then 0 else S1.1 24 j)).1 22 j)) 24 0 1) := ((((show FRR S0 S0 from ⟨rfl, fun _ _ _ _ => rfl⟩).fr f1 (by omega) (by omega)).fr (FrR.fill (a := 24) (b := 25) (by omega) (by omega)) (by omega) (by omega)).fr (FrR.fill (a := 22) (b := 23) (by omega) (by omega)) (by omega) (by omega)).fr (FrR.put (a := 24) (b := 25) (by omega) (by omega)) (by omega) (by omega)
  have hCT : CT (sI (sF (sF S1 24 (fun j => if j < 192 then 0 else S1.1 24 j)) 22 (fun j => if j < 7 then 0 else (sF S1 24 (fun j => if j < 192 then 0 else S1.1 24 j)).1 22 j)) 24 0 1) E T n := ⟨fun e he => by rw [f4.2 20 (by decide) (by decide) (by decide)]; exact hT e he, fun e he => by simp (disch := omega) only [sI_o, sI_h, sF_o, sF_h, sJ_1, sI_2, sF_2, sJ_o, sJ_h]; exact k1 e he, fun v hv => by rw [f4.2 21 (by decide) (by decide) (by decide)]; exact hE v hv, htot, hn⟩
  refine ro39 hCT (fun S f => h S ⟨f.1.trans f4.1, fun q a b c => (f.2 q a b c).trans (f4.2 q a b c)⟩) (st T 7 - 1) 0 (by omega) _ ⟨rfl, fun _ _ _ _ => rfl⟩ hCT (fun e he => ?_) (fun t ht => ?_)
  · rw [sI_o (by omega), sF_h rfl, if_pos he, dg_0]
    rfl
  · have r0 : RIn E T 0 0 t = if t = 0 then 1 else 0 := by
      unfold RIn
      rw [sm_zero (fun e _ => if_neg (fun z => by omega)), Nat.add_zero]
    rw [r0]
    by_cases z : t = 0
    · subst z
      rw [sI_h ⟨rfl, rfl⟩]
      rfl
    · rw [sI_o (Or.inr z), sF_o (by omega), sF_h rfl, if_pos (by omega), if_neg z]
      rfl
