/-! ===== move, answer ===== -/
theorem sI_back {S T : St} {p k : Nat} {v : Int32} (h : T.1 = (sI S p k v).1) : (sI T p k (S.1 p k)).1 = S.1 := by
  funext q j
  by_cases e : q = p ∧ j = k
  · obtain ⟨rfl, rfl⟩ := e
    rw [sI_h ⟨rfl, rfl⟩]
  · rw [sI_o (by omega), h, sI_o (by omega)]
theorem sI_over {S T : St} {p k : Nat} (h : ∀ v, (sI T p k v).1 = (sI S p k v).1) {U : St} {u : Int32} (e : U.1 = (sI T p k u).1) : ∀ v, (sI U p k v).1 = (sI S p k v).1 := by
  intro v
  rw [← h v]
  funext q j
  by_cases e' : q = p ∧ j = k
  · obtain ⟨rfl, rfl⟩ := e'
    rw [sI_h ⟨rfl, rfl⟩, sI_h ⟨rfl, rfl⟩]
  · rw [sI_o (by omega), sI_o (by omega), e, sI_o (by omega)]
theorem sI_1 {S T : St} {p k : Nat} {v : Int32} (h : T.1 = S.1) : (sI T p k v).1 = (sI S p k v).1 := by
  show (fun q => if q = p then upd (T.1 q) k v else T.1 q) = (fun q => if q = p then upd (S.1 q) k v else S.1 q)
  rw [h]
theorem FrR.back {a b p k : Nat} {S T : St} {v : Int32} (h : FrR a b (sI S p k v) T) (hp : p < a) : FrR a b S (sI T p k (S.1 p k)) := by
  refine ⟨h.1, fun q hq => ?_⟩
  funext j
  by_cases e : q = p ∧ j = k
  · obtain ⟨e1, e2⟩ := e
    subst e1
    subst e2
    rw [sI_h ⟨Eq.refl _, Eq.refl _⟩]
  · rw [sI_o (by omega), h.at hq, sI_o (by omega)]
theorem mset_MI {S : St} {M : MS} {c s : Nat} (hm : MI S M) : MI (sI S 36 c (nI s)) (mset M c s) := by
  refine ⟨hm.1, hm.2.1, hm.2.2.1, hm.2.2.2.1, fun x hx => ?_, hm.2.2.2.2.2⟩
  show upd (S.1 36) c (nI s) x = nI (if x = c then s else mS M x)
  unfold upd
  split
  · rfl
  · exact hm.sg hx
theorem mset_CI {S : St} {M : MS} {c s : Nat} (hm : CI S M) : CI (sI S 2 c (nI s)) (mset M c s) := by
  refine ⟨hm.1, hm.2.1, hm.2.2.1, hm.2.2.2.1, fun x hx => ?_, hm.2.2.2.2.2⟩
  show upd (S.1 2) c (nI s) x = nI (if x = c then s else mS M x)
  unfold upd
  split
  · rfl
  · exact hm.sg hx
set_option maxRecDepth 100000 in
set_option maxHeartbeats 4000000 in
theorem mo34 {M : MS} {S : St} {Q : Int32 → St → Prop} (hM : OKM M) (hm : MI S M) {p c : Nat} (hp : p ≤ 3) (hc : c < mH M * mW M) {st : Nat × Int32} (hst : st.1 ≤ 262144) (h : ∀ T, T.1 = S.1 → V mdX6_moveOf 13 [some (.ref 34), some (.int (nI p)), some (.long (lN (mvI (eMv M p) c 5 st).1)), none, some (.int (mvI (eMv M p) c 5 st).2), some (.int (nI (c + 1))), none, none, none, none] [] T (qI Q)) : ∀ d s, s + d = 5 → ∀ T, (∀ v, (sI T 36 c v).1 = (sI S 36 c v).1) → V mdX6_moveOf 34 [some (.ref 34), some (.int (nI p)), some (.long (lN (mvI (eMv M p) c s st).1)), none, some (.int (mvI (eMv M p) c s st).2), some (.int (nI c)), some (.int (S.1 36 c)), some (.int (nI s)), none, none] [] T (qI Q) := by
  have n30 := hM.n30
  intro d
  induction d with
  | zero =>
    intro s hs T e
    have : s = 5 := by omega
    subst this
    apply eX6_moveOf_34
    rw [nI_1, nI_clamp (n := c) (by omega)]
    refine br_t (nI_lt (a := 4) (by omega) (by omega)) ⟨pk_in c 30 (by omega), h _ ?_⟩
    rw [e]
    have z := sI_back (S := S) (T := sI S 36 c 0) (p := 36) (k := c) (v := 0) rfl
    rw [sI2] at z
    exact z
  | succ d ih =>
    intro s hs T e
    have hM' := mset_ok hM (c := c) (s := s) (by omega)
    have hmT : MI (sI T 36 c (nI s)) (mset M c s) := (mset_MI hm).of1 (e _)
    have b1 : eMv M p c s ≤ 262144 := eA_small hM' (p := p)
    have b2 := mvI_le (e := eMv M p) (B := 262144) (fun c s hs => eA_small (mset_ok hM hs) (p := p)) hst (c := c) s (by omega)
    apply eX6_moveOf_34
    rw [nI_1 c, nI_1 s, nI_clamp (n := c) (by omega), fa_lit 10, pk_mul, nI_add]
    refine br_f (fun z => nI_ge (a := s) (b := 5) (by omega) (by omega) (by
      rw [fa_lt, nI_toInt (by omega)] at z
      rw [fa_le, nI_toInt (by omega), nI_toInt (by omega)]
      have : (4 : Int32).toInt = 4 := rfl
      omega)) ⟨pk_in c 30 (by omega), c_expectsNow (p := p) hM' hmT hp (fun U u1 _ => ?_)⟩
    have nx := ih (s + 1) (by omega) U (sI_over e u1)
    rw [show mvI (eMv M p) c (s + 1) st = (if eMv M p c s ≤ (mvI (eMv M p) c s st).1 then mvI (eMv M p) c s st else (eMv M p c s, nI (10 * c + s))) from rfl] at nx
    rw [show eA (mset M c s) p = eMv M p c s from rfl, pk_lLE (by omega) (by omega)]
    by_cases q : eMv M p c s ≤ (mvI (eMv M p) c s st).1
    · rw [if_pos q] at nx
      exact br_t q (br_t q nx)
    · rw [if_neg q] at nx
      exact br_f q (br_f q nx)
set_option maxRecDepth 100000 in
set_option maxHeartbeats 4000000 in
theorem mo13 {M : MS} {S0 : St} {Q : Int32 → St → Prop} (hM : OKM M) (hm0 : MI S0 M) {p : Nat} (hp : p ≤ 3) (h : ∀ S, S.1 = S0.1 → Q (mv M p) S) : ∀ d c, c + d = mH M * mW M → ∀ S, S.1 = S0.1 → V mdX6_moveOf 13 [some (.ref 34), some (.int (nI p)), some (.long (lN (mvO (eMv M p) (eA M p, -9) c).1)), none, some (.int (mvO (eMv M p) (eA M p, -9) c).2), some (.int (nI c)), none, none, none, none] [] S (qI Q) := by
  have n30 := hM.n30
  intro d
  induction d with
  | zero =>
    intro c hc S e
    have : c = mH M * mW M := by omega
    subst this
    apply eX6_moveOf_13
    rw [(hm0.of1 e).N]
    exact br_t (nI_le (Nat.le_refl _) (by omega)) (h S e)
  | succ d ih =>
    intro c hc S e
    have hm := hm0.of1 e
    apply eX6_moveOf_13
    rw [hm.N, nI_clamp (n := c) (by omega)]
    exact br_f (nI_ge (by omega) (by omega)) ⟨pk_in c 30 (by omega), mo34 hM hm hp (by omega) (mvO_le (e := eMv M p) (fun c s hs => eA_small (mset_ok hM hs) (p := p)) (eA_small hM (p := p)) c) (fun T t => ih (c + 1) (by omega) T (t.trans e)) 5 0 (by omega) S (fun _ => rfl)⟩
set_option maxRecDepth 100000 in
set_option maxHeartbeats 4000000 in
theorem c_moveOf {M : MS} {S : St} {Q : Int32 → St → Prop} (hM : OKM M) (hm : MI S M) {p : Nat} (hp : p ≤ 3) (h : ∀ S', S'.1 = S.1 → Q (mv M p) S') : CallV mdX6_moveOf [.ref 34, .int (nI p)] S (qI Q) := by
  apply eX6_moveOf
  refine c_expectsNow (p := p) hM hm hp (fun T t _ => ?_)
  exact mo13 hM hm hp h (mH M * mW M) 0 (by omega) T t
set_option maxRecDepth 100000 in
set_option maxHeartbeats 4000000 in
theorem ok_move (x1 : Int32) : OKI mdX5_move mdX6_move [.ref 0, .int x1] [.ref 34, .int x1] := by
  intro S hI
  obtain ⟨M, hM, hC, hm, hs, ht, hf⟩ := id hI
  have w6 := hM.w6
  have h5 := hM.h5
  have hwh := hM.hw
  apply eX5_move
  rcases pk_ix x1 (n := 4) (by omega) with h | h | ⟨p, hp, rfl⟩
  · refine br_t h ?_
    apply eX6_move
    exact br_t (by (try simp only [fa_lt, fa_le, fa_eq, fa_lt64, fa_le64, fa_eq64, Int32.toInt_toInt64, lsub1, Int32.reduceToInt, Int64.reduceToInt, Int32.toInt_zero, Int64.toInt_zero, ti_m1, ti_m2, ti_m3, ti_m4, ti_m9] at *) <;> omega) ⟨rfl, hI⟩
  · have h : (4 : Int32) ≤ x1 := h
    refine br_f (by (try simp only [fa_lt, fa_le, fa_eq, fa_lt64, fa_le64, fa_eq64, Int32.toInt_toInt64, lsub1, Int32.reduceToInt, Int64.reduceToInt, Int32.toInt_zero, Int64.toInt_zero, ti_m1, ti_m2, ti_m3, ti_m4, ti_m9] at *) <;> omega) (br_t h ?_)
    apply eX6_move
    exact br_f (by (try simp only [fa_lt, fa_le, fa_eq, fa_lt64, fa_le64, fa_eq64, Int32.toInt_toInt64, lsub1, Int32.reduceToInt, Int64.reduceToInt, Int32.toInt_zero, Int64.toInt_zero, ti_m1, ti_m2, ti_m3, ti_m4, ti_m9] at *) <;> omega) (br_t (by (try simp only [fa_lt, fa_le, fa_eq, fa_lt64, fa_le64, fa_eq64, Int32.toInt_toInt64, lsub1, Int32.reduceToInt, Int64.reduceToInt, Int32.toInt_zero, Int64.toInt_zero, ti_m1, ti_m2, ti_m3, ti_m4, ti_m9] at *) <;> omega) ⟨rfl, hI⟩)
  have tp := nI_toInt (n := p) (by omega)
  refine br_f (by (try simp only [fa_lt, fa_le, fa_eq, fa_lt64, fa_le64, fa_eq64, Int32.toInt_toInt64, lsub1, Int32.reduceToInt, Int64.reduceToInt, Int32.toInt_zero, Int64.toInt_zero, ti_m1, ti_m2, ti_m3, ti_m4, ti_m9] at *) <;> omega) (br_f (by (try simp only [fa_lt, fa_le, fa_eq, fa_lt64, fa_le64, fa_eq64, Int32.toInt_toInt64, lsub1, Int32.reduceToInt, Int64.reduceToInt, Int32.toInt_zero, Int64.toInt_zero, ti_m1, ti_m2, ti_m3, ti_m4, ti_m9] at *) <;> omega) ?_)
  rw [hC.w]
  by_cases h0 : mW M = 0
  · refine br_t (by rw [h0]; decide) ?_
    apply eX6_move
    rw [hm.h]
    exact br_f (by (try simp only [fa_lt, fa_le, fa_eq, fa_lt64, fa_le64, fa_eq64, Int32.toInt_toInt64, lsub1, Int32.reduceToInt, Int64.reduceToInt, Int32.toInt_zero, Int64.toInt_zero, ti_m1, ti_m2, ti_m3, ti_m4, ti_m9] at *) <;> omega) (br_f (by (try simp only [fa_lt, fa_le, fa_eq, fa_lt64, fa_le64, fa_eq64, Int32.toInt_toInt64, lsub1, Int32.reduceToInt, Int64.reduceToInt, Int32.toInt_zero, Int64.toInt_zero, ti_m1, ti_m2, ti_m3, ti_m4, ti_m9] at *) <;> omega) (nb_f (by rw [hwh.2 h0]; rfl) ⟨rfl, hI⟩))
  · have tw := nI_toInt (n := mW M) (by omega)
    refine br_f (by (try simp only [fa_lt, fa_le, fa_eq, fa_lt64, fa_le64, fa_eq64, Int32.toInt_toInt64, lsub1, Int32.reduceToInt, Int64.reduceToInt, Int32.toInt_zero, Int64.toInt_zero, ti_m1, ti_m2, ti_m3, ti_m4, ti_m9] at *) <;> omega) (c_bestMove hM hC (by omega) (by omega) (fun S' f => ?_))
    have hm' := hm.fr f (by omega)
    have hI' := hI.fr f (by omega) (by omega)
    apply eX6_move
    rw [hm'.h]
    exact br_f (by (try simp only [fa_lt, fa_le, fa_eq, fa_lt64, fa_le64, fa_eq64, Int32.toInt_toInt64, lsub1, Int32.reduceToInt, Int64.reduceToInt, Int32.toInt_zero, Int64.toInt_zero, ti_m1, ti_m2, ti_m3, ti_m4, ti_m9] at *) <;> omega) (br_f (by (try simp only [fa_lt, fa_le, fa_eq, fa_lt64, fa_le64, fa_eq64, Int32.toInt_toInt64, lsub1, Int32.reduceToInt, Int64.reduceToInt, Int32.toInt_zero, Int64.toInt_zero, ti_m1, ti_m2, ti_m3, ti_m4, ti_m9] at *) <;> omega) (nb_t (by rw [fa_lit 0, nI_eq (by omega) (by omega)]; omega) (c_moveOf hM hm' (by omega) (fun T t => ⟨rfl, hI'.of1 t⟩))))
theorem mv_enc {c s : Nat} (hc : c < 30) (hs : s ≤ 4) : nI (10 * c + s) / 10 = nI c ∧ nI (10 * c + s) - nI (10 * c + s) / 10 * 10 = nI s ∧ 0 ≤ nI (10 * c + s) ∧ ¬ nI (10 * c + s) = -9 := by
  have t := nI_toInt (n := 10 * c + s) (by omega)
  refine ⟨?_, ?_, ?_, ?_⟩
  · rw [fa_lit 10, pk_div (by omega) (by omega) (by omega), show (10 * c + s) / 10 = c by omega]
  · rw [fa_lit 10, pk_rem (by omega) (by omega) (by omega), show (10 * c + s) % 10 = s by omega]
  · rw [fa_le, t]
    have : (0 : Int32).toInt = 0 := rfl
    omega
  · rw [fa_eq, t]
    have : (-9 : Int32).toInt = -9 := rfl
    omega
set_option maxRecDepth 100000 in
set_option maxHeartbeats 4000000 in
theorem ok_answer (x1 x2 : Int32) : OKI mdX5_answer mdX6_answer [.ref 0, .int x1, .int x2] [.ref 34, .int x1, .int x2] := by
  intro S hI
  obtain ⟨M, hM, hC, hm, hs, ht, hf⟩ := id hI
  have w6 := hM.w6
  have h5 := hM.h5
  have n30 := hM.n30
  have hwh := hM.hw
  apply eX5_answer
  rcases pk_ix x1 (n := 4) (by omega) with h | h | ⟨p, hp, rfl⟩
  · refine br_t h ?_
    apply eX6_answer
    exact br_t (by (try simp only [fa_lt, fa_le, fa_eq, fa_lt64, fa_le64, fa_eq64, Int32.toInt_toInt64, lsub1, Int32.reduceToInt, Int64.reduceToInt, Int32.toInt_zero, Int64.toInt_zero, ti_m1, ti_m2, ti_m3, ti_m4, ti_m9] at *) <;> omega) ⟨rfl, hI⟩
  · have h : (4 : Int32) ≤ x1 := h
    refine br_f (by (try simp only [fa_lt, fa_le, fa_eq, fa_lt64, fa_le64, fa_eq64, Int32.toInt_toInt64, lsub1, Int32.reduceToInt, Int64.reduceToInt, Int32.toInt_zero, Int64.toInt_zero, ti_m1, ti_m2, ti_m3, ti_m4, ti_m9] at *) <;> omega) (br_t h ?_)
    apply eX6_answer
    exact br_f (by (try simp only [fa_lt, fa_le, fa_eq, fa_lt64, fa_le64, fa_eq64, Int32.toInt_toInt64, lsub1, Int32.reduceToInt, Int64.reduceToInt, Int32.toInt_zero, Int64.toInt_zero, ti_m1, ti_m2, ti_m3, ti_m4, ti_m9] at *) <;> omega) (br_t (by (try simp only [fa_lt, fa_le, fa_eq, fa_lt64, fa_le64, fa_eq64, Int32.toInt_toInt64, lsub1, Int32.reduceToInt, Int64.reduceToInt, Int32.toInt_zero, Int64.toInt_zero, ti_m1, ti_m2, ti_m3, ti_m4, ti_m9] at *) <;> omega) ⟨rfl, hI⟩)
  have tp := nI_toInt (n := p) (by omega)
  refine br_f (by (try simp only [fa_lt, fa_le, fa_eq, fa_lt64, fa_le64, fa_eq64, Int32.toInt_toInt64, lsub1, Int32.reduceToInt, Int64.reduceToInt, Int32.toInt_zero, Int64.toInt_zero, ti_m1, ti_m2, ti_m3, ti_m4, ti_m9] at *) <;> omega) (br_f (by (try simp only [fa_lt, fa_le, fa_eq, fa_lt64, fa_le64, fa_eq64, Int32.toInt_toInt64, lsub1, Int32.reduceToInt, Int64.reduceToInt, Int32.toInt_zero, Int64.toInt_zero, ti_m1, ti_m2, ti_m3, ti_m4, ti_m9] at *) <;> omega) ?_)
  rcases pk_ix x2 (n := 4) (by omega) with h | h | ⟨q, hq, rfl⟩
  · refine br_t h ?_
    apply eX6_answer
    exact br_f (by (try simp only [fa_lt, fa_le, fa_eq, fa_lt64, fa_le64, fa_eq64, Int32.toInt_toInt64, lsub1, Int32.reduceToInt, Int64.reduceToInt, Int32.toInt_zero, Int64.toInt_zero, ti_m1, ti_m2, ti_m3, ti_m4, ti_m9] at *) <;> omega) (br_f (by (try simp only [fa_lt, fa_le, fa_eq, fa_lt64, fa_le64, fa_eq64, Int32.toInt_toInt64, lsub1, Int32.reduceToInt, Int64.reduceToInt, Int32.toInt_zero, Int64.toInt_zero, ti_m1, ti_m2, ti_m3, ti_m4, ti_m9] at *) <;> omega) (br_t (by (try simp only [fa_lt, fa_le, fa_eq, fa_lt64, fa_le64, fa_eq64, Int32.toInt_toInt64, lsub1, Int32.reduceToInt, Int64.reduceToInt, Int32.toInt_zero, Int64.toInt_zero, ti_m1, ti_m2, ti_m3, ti_m4, ti_m9] at *) <;> omega) ⟨rfl, hI⟩))
  · have h : (4 : Int32) ≤ x2 := h
    refine br_f (by (try simp only [fa_lt, fa_le, fa_eq, fa_lt64, fa_le64, fa_eq64, Int32.toInt_toInt64, lsub1, Int32.reduceToInt, Int64.reduceToInt, Int32.toInt_zero, Int64.toInt_zero, ti_m1, ti_m2, ti_m3, ti_m4, ti_m9] at *) <;> omega) (br_t h ?_)
    apply eX6_answer
    exact br_f (by (try simp only [fa_lt, fa_le, fa_eq, fa_lt64, fa_le64, fa_eq64, Int32.toInt_toInt64, lsub1, Int32.reduceToInt, Int64.reduceToInt, Int32.toInt_zero, Int64.toInt_zero, ti_m1, ti_m2, ti_m3, ti_m4, ti_m9] at *) <;> omega) (br_f (by (try simp only [fa_lt, fa_le, fa_eq, fa_lt64, fa_le64, fa_eq64, Int32.toInt_toInt64, lsub1, Int32.reduceToInt, Int64.reduceToInt, Int32.toInt_zero, Int64.toInt_zero, ti_m1, ti_m2, ti_m3, ti_m4, ti_m9] at *) <;> omega) (br_f (by (try simp only [fa_lt, fa_le, fa_eq, fa_lt64, fa_le64, fa_eq64, Int32.toInt_toInt64, lsub1, Int32.reduceToInt, Int64.reduceToInt, Int32.toInt_zero, Int64.toInt_zero, ti_m1, ti_m2, ti_m3, ti_m4, ti_m9] at *) <;> omega) (br_t (by (try simp only [fa_lt, fa_le, fa_eq, fa_lt64, fa_le64, fa_eq64, Int32.toInt_toInt64, lsub1, Int32.reduceToInt, Int64.reduceToInt, Int32.toInt_zero, Int64.toInt_zero, ti_m1, ti_m2, ti_m3, ti_m4, ti_m9] at *) <;> omega) ⟨rfl, hI⟩)))
  have tq := nI_toInt (n := q) (by omega)
  refine br_f (by (try simp only [fa_lt, fa_le, fa_eq, fa_lt64, fa_le64, fa_eq64, Int32.toInt_toInt64, lsub1, Int32.reduceToInt, Int64.reduceToInt, Int32.toInt_zero, Int64.toInt_zero, ti_m1, ti_m2, ti_m3, ti_m4, ti_m9] at *) <;> omega) (br_f (by (try simp only [fa_lt, fa_le, fa_eq, fa_lt64, fa_le64, fa_eq64, Int32.toInt_toInt64, lsub1, Int32.reduceToInt, Int64.reduceToInt, Int32.toInt_zero, Int64.toInt_zero, ti_m1, ti_m2, ti_m3, ti_m4, ti_m9] at *) <;> omega) ?_)
  by_cases hpq : nI p = nI q
  · refine nb_f hpq ?_
    apply eX6_answer
    exact br_f (by (try simp only [fa_lt, fa_le, fa_eq, fa_lt64, fa_le64, fa_eq64, Int32.toInt_toInt64, lsub1, Int32.reduceToInt, Int64.reduceToInt, Int32.toInt_zero, Int64.toInt_zero, ti_m1, ti_m2, ti_m3, ti_m4, ti_m9] at *) <;> omega) (br_f (by (try simp only [fa_lt, fa_le, fa_eq, fa_lt64, fa_le64, fa_eq64, Int32.toInt_toInt64, lsub1, Int32.reduceToInt, Int64.reduceToInt, Int32.toInt_zero, Int64.toInt_zero, ti_m1, ti_m2, ti_m3, ti_m4, ti_m9] at *) <;> omega) (br_f (by (try simp only [fa_lt, fa_le, fa_eq, fa_lt64, fa_le64, fa_eq64, Int32.toInt_toInt64, lsub1, Int32.reduceToInt, Int64.reduceToInt, Int32.toInt_zero, Int64.toInt_zero, ti_m1, ti_m2, ti_m3, ti_m4, ti_m9] at *) <;> omega) (br_f (by (try simp only [fa_lt, fa_le, fa_eq, fa_lt64, fa_le64, fa_eq64, Int32.toInt_toInt64, lsub1, Int32.reduceToInt, Int64.reduceToInt, Int32.toInt_zero, Int64.toInt_zero, ti_m1, ti_m2, ti_m3, ti_m4, ti_m9] at *) <;> omega) (nb_f hpq ⟨rfl, hI⟩))))
  refine nb_t hpq ?_
  rw [hC.w]
  by_cases h0 : mW M = 0
  · refine br_t (by rw [h0]; decide) ?_
    apply eX6_answer
    rw [hm.h]
    exact br_f (by (try simp only [fa_lt, fa_le, fa_eq, fa_lt64, fa_le64, fa_eq64, Int32.toInt_toInt64, lsub1, Int32.reduceToInt, Int64.reduceToInt, Int32.toInt_zero, Int64.toInt_zero, ti_m1, ti_m2, ti_m3, ti_m4, ti_m9] at *) <;> omega) (br_f (by (try simp only [fa_lt, fa_le, fa_eq, fa_lt64, fa_le64, fa_eq64, Int32.toInt_toInt64, lsub1, Int32.reduceToInt, Int64.reduceToInt, Int32.toInt_zero, Int64.toInt_zero, ti_m1, ti_m2, ti_m3, ti_m4, ti_m9] at *) <;> omega) (br_f (by (try simp only [fa_lt, fa_le, fa_eq, fa_lt64, fa_le64, fa_eq64, Int32.toInt_toInt64, lsub1, Int32.reduceToInt, Int64.reduceToInt, Int32.toInt_zero, Int64.toInt_zero, ti_m1, ti_m2, ti_m3, ti_m4, ti_m9] at *) <;> omega) (br_f (by (try simp only [fa_lt, fa_le, fa_eq, fa_lt64, fa_le64, fa_eq64, Int32.toInt_toInt64, lsub1, Int32.reduceToInt, Int64.reduceToInt, Int32.toInt_zero, Int64.toInt_zero, ti_m1, ti_m2, ti_m3, ti_m4, ti_m9] at *) <;> omega) (nb_t hpq (nb_f (by rw [hwh.2 h0]; rfl) ⟨rfl, hI⟩)))))
  have hw0 : 0 < mW M := by omega
  have tw := nI_toInt (n := mW M) (by omega)
  have hH : ¬ nI (mH M) = 0 := by
    rw [fa_lit 0, nI_eq (by omega) (by omega)]
    omega
  refine br_f (by (try simp only [fa_lt, fa_le, fa_eq, fa_lt64, fa_le64, fa_eq64, Int32.toInt_toInt64, lsub1, Int32.reduceToInt, Int64.reduceToInt, Int32.toInt_zero, Int64.toInt_zero, ti_m1, ti_m2, ti_m3, ti_m4, ti_m9] at *) <;> omega) (c_bestMove hM hC hw0 (by omega) (fun S1 f1 => ?_))
  have hC1 := hC.fr f1 (by omega)
  have hm1 := hm.fr f1 (by omega)
  have hI1 := hI.fr f1 (by omega) (by omega)
  rcases mv_g (M := M) (p := p) with e | ⟨c, s, hc, hs4, e⟩
  · rw [e]
    refine nb_f rfl (c_bestMove hM hC1 hw0 (by omega) (fun S2 f2 => ?_))
    have hm2 := hm1.fr f2 (by omega)
    have hI2 := hI1.fr f2 (by omega) (by omega)
    apply eX6_answer
    rw [hm2.h]
    refine br_f (by (try simp only [fa_lt, fa_le, fa_eq, fa_lt64, fa_le64, fa_eq64, Int32.toInt_toInt64, lsub1, Int32.reduceToInt, Int64.reduceToInt, Int32.toInt_zero, Int64.toInt_zero, ti_m1, ti_m2, ti_m3, ti_m4, ti_m9] at *) <;> omega) (br_f (by (try simp only [fa_lt, fa_le, fa_eq, fa_lt64, fa_le64, fa_eq64, Int32.toInt_toInt64, lsub1, Int32.reduceToInt, Int64.reduceToInt, Int32.toInt_zero, Int64.toInt_zero, ti_m1, ti_m2, ti_m3, ti_m4, ti_m9] at *) <;> omega) (br_f (by (try simp only [fa_lt, fa_le, fa_eq, fa_lt64, fa_le64, fa_eq64, Int32.toInt_toInt64, lsub1, Int32.reduceToInt, Int64.reduceToInt, Int32.toInt_zero, Int64.toInt_zero, ti_m1, ti_m2, ti_m3, ti_m4, ti_m9] at *) <;> omega) (br_f (by (try simp only [fa_lt, fa_le, fa_eq, fa_lt64, fa_le64, fa_eq64, Int32.toInt_toInt64, lsub1, Int32.reduceToInt, Int64.reduceToInt, Int32.toInt_zero, Int64.toInt_zero, ti_m1, ti_m2, ti_m3, ti_m4, ti_m9] at *) <;> omega) (nb_t hpq (nb_t hH (c_moveOf hM hm2 (by omega) (fun T t => ?_)))))))
    rw [e]
    exact br_f (by decide) (c_moveOf hM (hm2.of1 t) (by omega) (fun U u => ⟨rfl, hI2.of1 (u.trans t)⟩))
  · obtain ⟨g1, g2, g3, g4⟩ := mv_enc (c := c) (s := s) (by omega) hs4
    have hM' := mset_ok hM (c := c) hs4
    have gc := nI_clamp (n := c) (by omega)
    have g30 : vp_in (nI c) 30 := pk_in c 30 (by omega)
    rw [e, g2, g1, gc]
    refine nb_t g4 ⟨g30, g30, c_bestMove hM' (mset_CI hC1) hw0 (by omega) (fun S2 f2 => ⟨g30, ?_⟩)⟩
    have f3 : FrR 9 16 S1 (sI S2 2 c (S1.1 2 c)) := f2.back (by omega)
    have hm2 := hm1.fr f3 (by omega)
    have hI2 := hI1.fr f3 (by omega) (by omega)
    apply eX6_answer
    rw [hm2.h]
    refine br_f (by (try simp only [fa_lt, fa_le, fa_eq, fa_lt64, fa_le64, fa_eq64, Int32.toInt_toInt64, lsub1, Int32.reduceToInt, Int64.reduceToInt, Int32.toInt_zero, Int64.toInt_zero, ti_m1, ti_m2, ti_m3, ti_m4, ti_m9] at *) <;> omega) (br_f (by (try simp only [fa_lt, fa_le, fa_eq, fa_lt64, fa_le64, fa_eq64, Int32.toInt_toInt64, lsub1, Int32.reduceToInt, Int64.reduceToInt, Int32.toInt_zero, Int64.toInt_zero, ti_m1, ti_m2, ti_m3, ti_m4, ti_m9] at *) <;> omega) (br_f (by (try simp only [fa_lt, fa_le, fa_eq, fa_lt64, fa_le64, fa_eq64, Int32.toInt_toInt64, lsub1, Int32.reduceToInt, Int64.reduceToInt, Int32.toInt_zero, Int64.toInt_zero, ti_m1, ti_m2, ti_m3, ti_m4, ti_m9] at *) <;> omega) (br_f (by (try simp only [fa_lt, fa_le, fa_eq, fa_lt64, fa_le64, fa_eq64, Int32.toInt_toInt64, lsub1, Int32.reduceToInt, Int64.reduceToInt, Int32.toInt_zero, Int64.toInt_zero, ti_m1, ti_m2, ti_m3, ti_m4, ti_m9] at *) <;> omega) (nb_t hpq (nb_t hH (c_moveOf hM hm2 (by omega) (fun T t => ?_)))))))
    rw [e, g2, g1, gc]
    exact br_t g3 ⟨g30, g30, c_moveOf hM' (mset_MI (hm2.of1 t)) (by omega) (fun U u => ⟨g30, rfl, hI2.of1 ((sI_back u).trans t)⟩)⟩
