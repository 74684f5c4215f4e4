/-! ===== reads behind writes ===== -/
theorem sI_o {S : St} {p q k j : Nat} {v : Int32} (h : q ≠ p ∨ j ≠ k) : (sI S p k v).1 q j = S.1 q j := by
  show (if q = p then upd (S.1 q) k v else S.1 q) j = _
  split
  · exact pk_un (by omega)
  · rfl
theorem sI_h {S : St} {p q k j : Nat} {v : Int32} (h : q = p ∧ j = k) : (sI S p k v).1 q j = v := by
  obtain ⟨rfl, rfl⟩ := h
  show (if q = q then upd (S.1 q) j v else S.1 q) j = _
  rw [if_pos rfl]
  exact pk_us
theorem sF_o {S : St} {p q j : Nat} {f : Nat → Int32} (h : q ≠ p) : (sF S p f).1 q j = S.1 q j := by
  show (if q = p then f else S.1 q) j = _
  rw [if_neg h]
theorem sF_h {S : St} {p q j : Nat} {f : Nat → Int32} (h : q = p) : (sF S p f).1 q j = f j := by
  show (if q = p then f else S.1 q) j = _
  rw [if_pos h]
theorem sF_2 {S : St} {p : Nat} {f : Nat → Int32} : (sF S p f).2 = S.2 := rfl
theorem sJ_o {S : St} {p q k j : Nat} {v : Int64} (h : q ≠ p ∨ j ≠ k) : (sJ S p k v).2 q j = S.2 q j := by
  show (if q = p then vp_updL (S.2 q) k v else S.2 q) j = _
  split
  · exact pk_uLn (by omega)
  · rfl
theorem sJ_h {S : St} {p q k j : Nat} {v : Int64} (h : q = p ∧ j = k) : (sJ S p k v).2 q j = v := by
  obtain ⟨rfl, rfl⟩ := h
  show (if q = q then vp_updL (S.2 q) j v else S.2 q) j = _
  rw [if_pos rfl]
  exact pk_uLs
/-! ===== sheets ===== -/
theorem SHS.all {S : St} (h : SHS S) (k : Nat) (hk : k < 4) : SK (S.1 (26 + 2 * k)) (S.1 (26 + 2 * k + 1)) (S.1 47 k) (S.1 48 k) (S.1 49) k := by
  rcases (by omega : k = 0 ∨ k = 1 ∨ k = 2 ∨ k = 3) with rfl | rfl | rfl | rfl
  · exact h.1
  · exact h.2.1
  · exact h.2.2.1
  · exact h.2.2.2
theorem SHS.of {S : St} (h : ∀ k, k < 4 → SK (S.1 (26 + 2 * k)) (S.1 (26 + 2 * k + 1)) (S.1 47 k) (S.1 48 k) (S.1 49) k) : SHS S := ⟨h 0 (by omega), h 1 (by omega), h 2 (by omega), h 3 (by omega)⟩
theorem CI.pw {S S' : St} {M : MS} (h : CI S M) (e : ∀ p i, 1 ≤ p → p ≤ 6 → S'.1 p i = S.1 p i) : CI S' M := by
  have f : ∀ p, 1 ≤ p → p ≤ 6 → S'.1 p = S.1 p := fun p h1 h2 => funext fun i => e p i h1 h2
  unfold CI at h ⊢
  rw [f 1 (by omega) (by omega), f 2 (by omega) (by omega), f 3 (by omega) (by omega), f 4 (by omega) (by omega), f 5 (by omega) (by omega), f 6 (by omega) (by omega)]
  exact h
theorem MI.pw {S S' : St} {M : MS} (h : MI S M) (e : ∀ i, i = 1 ∨ i = 2 ∨ i = 5 ∨ i = 11 → S'.1 34 i = S.1 34 i) (e2 : ∀ p i, p = 35 ∨ p = 36 ∨ p = 39 ∨ p = 40 → S'.1 p i = S.1 p i) : MI S' M := by
  have f : ∀ p, p = 35 ∨ p = 36 ∨ p = 39 ∨ p = 40 → S'.1 p = S.1 p := fun p h1 => funext fun i => e2 p i h1
  unfold MI at h ⊢
  rw [e 1 (by omega), e 2 (by omega), e 5 (by omega), e 11 (by omega), f 35 (by omega), f 36 (by omega), f 39 (by omega), f 40 (by omega)]
  exact h
theorem SK.pw {a r sh a' r' sh' : Nat → Int32} {sz la sz' la' : Int32} {k : Nat} (h : SK a r sz la sh k) (ha : ∀ i, a' i = a i) (hr : ∀ i, r' i = r i) (hz : sz' = sz) (hl : la' = la) (hs : ∀ i, i < 60 → sh' (60 * k + i) = sh (60 * k + i)) : SK a' r' sz' la' sh' k := by
  subst hz hl
  rcases h with ⟨h1, h2⟩ | ⟨h1, n, l, h2, h3, h4, h5, h6, h7, h8⟩
  · exact Or.inl ⟨by rw [ha]; exact h1, h2⟩
  · exact Or.inr ⟨by rw [ha]; exact h1, n, l, h2, h3, by rw [ha]; exact h4, by rw [ha]; exact h5, h6, h7, fun i hi => by rw [hr, hs i (by omega)]; exact h8 i hi⟩
theorem INV.sh {S S' : St} (h : INV S) (k : Nat) (e1 : ∀ p i, 1 ≤ p → p ≤ 6 → S'.1 p i = S.1 p i) (e5 : S'.1 0 5 = S.1 0 5) (ef : S'.1 0 6 = S'.1 34 0) (em : ∀ i, i = 1 ∨ i = 2 ∨ i = 5 ∨ i = 11 ∨ i = 26 → S'.1 34 i = S.1 34 i) (ea : ∀ p i, p = 35 ∨ p = 36 ∨ p = 39 ∨ p = 40 → S'.1 p i = S.1 p i)
    (ek : ∀ j, j < 4 → j ≠ k → (∀ i, S'.1 (26 + 2 * j) i = S.1 (26 + 2 * j) i) ∧ (∀ i, S'.1 (26 + 2 * j + 1) i = S.1 (26 + 2 * j + 1) i) ∧ S'.1 47 j = S.1 47 j ∧ S'.1 48 j = S.1 48 j ∧ ∀ i, i < 60 → S'.1 49 (60 * j + i) = S.1 49 (60 * j + i))
    (sk : SK (S'.1 (26 + 2 * k)) (S'.1 (26 + 2 * k + 1)) (S'.1 47 k) (S'.1 48 k) (S'.1 49) k) : INV S' := by
  obtain ⟨M, h1, h2, h3, h4, h5, h6⟩ := h
  refine ⟨M, h1, h2.pw e1, h3.pw (fun i hi => em i (by omega)) ea, SHS.of (fun j hj => ?_), ?_, ef⟩
  · by_cases hjk : j = k
    · subst hjk
      exact sk
    · obtain ⟨g1, g2, g3, g4, g5⟩ := ek j hj hjk
      exact (h4.all j hj).pw g1 g2 g3 g4 g5
  · rw [e5, em 26 (by omega)]
    exact h5
set_option maxRecDepth 100000 in
set_option maxHeartbeats 4000000 in
theorem ok_lose (x1 : Int32) : OKI mdX5_lose mdX6_lose [.ref 0, .int x1] [.ref 34, .int x1] := by
  intro S hI
  obtain ⟨M, hM, hC, hm, hs, ht, hf⟩ := id hI
  apply eX5_lose
  rcases pk_ix x1 (n := 4) (by omega) with h | h | ⟨k, hk, rfl⟩
  · refine br_t h ?_
    apply eX6_lose
    exact br_t (by (try simp only [fa_lt, fa_le, fa_eq, fa_lt64, fa_le64, fa_eq64, Int32.toInt_toInt64, lsub1, Int32.reduceToInt, Int64.reduceToInt, Int32.toInt_zero, Int64.toInt_zero, ti_m1, ti_m2, ti_m3, ti_m4, ti_m9] at *) <;> omega) ⟨rfl, hI⟩
  · have h : (4 : Int32) ≤ x1 := h
    refine br_f (by (try simp only [fa_lt, fa_le, fa_eq, fa_lt64, fa_le64, fa_eq64, Int32.toInt_toInt64, lsub1, Int32.reduceToInt, Int64.reduceToInt, Int32.toInt_zero, Int64.toInt_zero, ti_m1, ti_m2, ti_m3, ti_m4, ti_m9] at *) <;> omega) (br_t h ?_)
    apply eX6_lose
    exact br_f (by (try simp only [fa_lt, fa_le, fa_eq, fa_lt64, fa_le64, fa_eq64, Int32.toInt_toInt64, lsub1, Int32.reduceToInt, Int64.reduceToInt, Int32.toInt_zero, Int64.toInt_zero, ti_m1, ti_m2, ti_m3, ti_m4, ti_m9] at *) <;> omega) (br_t (by (try simp only [fa_lt, fa_le, fa_eq, fa_lt64, fa_le64, fa_eq64, Int32.toInt_toInt64, lsub1, Int32.reduceToInt, Int64.reduceToInt, Int32.toInt_zero, Int64.toInt_zero, ti_m1, ti_m2, ti_m3, ti_m4, ti_m9] at *) <;> omega) ⟨rfl, hI⟩)
  · have tk := nI_toInt (n := k) (by omega)
    have g4 : vp_in (nI k) 4 := pk_in k 4 hk
    have a1 : ¬ (nI k).toInt64 < 0 := (by (try simp only [fa_lt, fa_le, fa_eq, fa_lt64, fa_le64, fa_eq64, Int32.toInt_toInt64, lsub1, Int32.reduceToInt, Int64.reduceToInt, Int32.toInt_zero, Int64.toInt_zero, ti_m1, ti_m2, ti_m3, ti_m4, ti_m9] at *) <;> omega)
    have a2 : ¬ ((3 : Int64) < (nI k).toInt64) := (by (try simp only [fa_lt, fa_le, fa_eq, fa_lt64, fa_le64, fa_eq64, Int32.toInt_toInt64, lsub1, Int32.reduceToInt, Int64.reduceToInt, Int32.toInt_zero, Int64.toInt_zero, ti_m1, ti_m2, ti_m3, ti_m4, ti_m9] at *) <;> omega)
    refine br_f (by (try simp only [fa_lt, fa_le, fa_eq, fa_lt64, fa_le64, fa_eq64, Int32.toInt_toInt64, lsub1, Int32.reduceToInt, Int64.reduceToInt, Int32.toInt_zero, Int64.toInt_zero, ti_m1, ti_m2, ti_m3, ti_m4, ti_m9] at *) <;> omega) (br_f (by (try simp only [fa_lt, fa_le, fa_eq, fa_lt64, fa_le64, fa_eq64, Int32.toInt_toInt64, lsub1, Int32.reduceToInt, Int64.reduceToInt, Int32.toInt_zero, Int64.toInt_zero, ti_m1, ti_m2, ti_m3, ti_m4, ti_m9] at *) <;> omega) ⟨g4, g4, ?_⟩)
    rw [pk_cl k]
    have key : INV (sI (sI S (26 + 2 * k) 1 0) 47 k (-1)) := by
      refine hI.sh k (fun p i _ _ => by simp (disch := omega) only [sI_o, sI_h, sF_o, sF_h, sJ_1, sI_2, sF_2, sJ_o, sJ_h]) (by simp (disch := omega) only [sI_o, sI_h, sF_o, sF_h, sJ_1, sI_2, sF_2, sJ_o, sJ_h]) (by simp (disch := omega) only [sI_o, sI_h, sF_o, sF_h, sJ_1, sI_2, sF_2, sJ_o, sJ_h]; exact hf) (fun i hi => by simp (disch := omega) only [sI_o, sI_h, sF_o, sF_h, sJ_1, sI_2, sF_2, sJ_o, sJ_h]) (fun p i hp => by simp (disch := omega) only [sI_o, sI_h, sF_o, sF_h, sJ_1, sI_2, sF_2, sJ_o, sJ_h]) (fun j hj hjk => ⟨fun i => by simp (disch := omega) only [sI_o, sI_h, sF_o, sF_h, sJ_1, sI_2, sF_2, sJ_o, sJ_h], fun i => by simp (disch := omega) only [sI_o, sI_h, sF_o, sF_h, sJ_1, sI_2, sF_2, sJ_o, sJ_h], by simp (disch := omega) only [sI_o, sI_h, sF_o, sF_h, sJ_1, sI_2, sF_2, sJ_o, sJ_h], by simp (disch := omega) only [sI_o, sI_h, sF_o, sF_h, sJ_1, sI_2, sF_2, sJ_o, sJ_h], fun i hi => by simp (disch := omega) only [sI_o, sI_h, sF_o, sF_h, sJ_1, sI_2, sF_2, sJ_o, sJ_h]⟩) (Or.inl ⟨by simp (disch := omega) only [sI_o, sI_h, sF_o, sF_h, sJ_1, sI_2, sF_2, sJ_o, sJ_h], by simp (disch := omega) only [sI_o, sI_h, sF_o, sF_h, sJ_1, sI_2, sF_2, sJ_o, sJ_h]⟩)
    rcases hs.all k hk with ⟨b1, b2⟩ | ⟨b1, n, l, b2, b3, b4, b5, b6, b7, b8⟩
    · refine br_t b1 ?_
      apply eX6_lose
      rw [pk_cl k, show (sI S (26 + 2 * k) 1 0).1 47 k = -1 by simp (disch := omega) only [sI_o, sI_h, sF_o, sF_h, sJ_1, sI_2, sF_2, sJ_o, sJ_h]; exact b2]
      exact br_f a1 (br_f a2 ⟨g4, br_f (by decide) ⟨g4, rfl, key⟩⟩)
    · refine br_f (by rw [b1]; decide) ?_
      apply eX6_lose
      rw [pk_cl k, show (sI S (26 + 2 * k) 1 0).1 47 k = nI n by simp (disch := omega) only [sI_o, sI_h, sF_o, sF_h, sJ_1, sI_2, sF_2, sJ_o, sJ_h]; exact b6]
      exact br_f a1 (br_f a2 ⟨g4, br_t (nI_pos' (by omega)) ⟨g4, rfl, key⟩⟩)
set_option maxRecDepth 100000 in
set_option maxHeartbeats 4000000 in
theorem c_isBeyond {x z a : Int32} {S : St} {Q : Int32 → St → Prop} (h1 : 0 ≤ x.toInt → 0 ≤ z.toInt → x.toInt + z.toInt ≤ a.toInt → Q 0 S) (h2 : ¬ (0 ≤ x.toInt ∧ 0 ≤ z.toInt ∧ x.toInt + z.toInt ≤ a.toInt) → Q 1 S) : CallV mdX6_isBeyond [.int x, .long z.toInt64, .int a] S (qI Q) := by
  have e := lg_i2l_add x z
  apply eX6_isBeyond
  refine ⟨fun c => h2 (by (try simp only [fa_lt, fa_le, fa_eq, fa_lt64, fa_le64, fa_eq64, Int32.toInt_toInt64, lsub1, Int32.reduceToInt, Int64.reduceToInt, Int32.toInt_zero, Int64.toInt_zero, ti_m1, ti_m2, ti_m3, ti_m4, ti_m9] at *) <;> omega), fun c => ⟨fun d => h2 (by (try simp only [fa_lt, fa_le, fa_eq, fa_lt64, fa_le64, fa_eq64, Int32.toInt_toInt64, lsub1, Int32.reduceToInt, Int64.reduceToInt, Int32.toInt_zero, Int64.toInt_zero, ti_m1, ti_m2, ti_m3, ti_m4, ti_m9] at *) <;> omega), fun d => ⟨fun f => ?_, fun f => h2 ?_⟩⟩⟩
  · rw [fa_le64, e, Int32.toInt_toInt64] at f
    exact h1 (by (try simp only [fa_lt, fa_le, fa_eq, fa_lt64, fa_le64, fa_eq64, Int32.toInt_toInt64, lsub1, Int32.reduceToInt, Int64.reduceToInt, Int32.toInt_zero, Int64.toInt_zero, ti_m1, ti_m2, ti_m3, ti_m4, ti_m9] at *) <;> omega) (by (try simp only [fa_lt, fa_le, fa_eq, fa_lt64, fa_le64, fa_eq64, Int32.toInt_toInt64, lsub1, Int32.reduceToInt, Int64.reduceToInt, Int32.toInt_zero, Int64.toInt_zero, ti_m1, ti_m2, ti_m3, ti_m4, ti_m9] at *) <;> omega) f
  · rw [fa_le64, e, Int32.toInt_toInt64] at f
    omega
set_option maxRecDepth 100000 in
set_option maxHeartbeats 4000000 in
theorem c_noCell_ {k : Nat} {x : Int32} {S : St} {Q : Int32 → St → Prop} (hk : k < 4) (hs : SHS S) (h1 : S.1 47 k = -1 → Q 1 S) (h2 : ∀ n : Nat, n ≤ 60 → S.1 47 k = nI n → (0 ≤ x.toInt ∧ x.toInt < n → Q 0 S) ∧ (¬ (0 ≤ x.toInt ∧ x.toInt < n) → Q 3 S)) : CallV mdX6_noCell_ [.ref 34, .int (nI k), .int x] S (qI Q) := by
  have g4 : vp_in (nI k) 4 := pk_in k 4 hk
  apply eX6_noCell_
  rw [pk_cl k]
  refine ⟨g4, ?_⟩
  rcases hs.all k hk with ⟨b1, b2⟩ | ⟨b1, n, l, b2, b3, b4, b5, b6, b7, b8⟩
  · rw [b2]
    exact br_f (by decide) (h1 b2)
  · rw [b6]
    have tn := nI_toInt (n := n) (by omega)
    obtain ⟨q1, q2⟩ := h2 n b2 b6
    refine br_t (nI_pos' (by omega)) ⟨g4, fun c => q2 (by (try simp only [fa_lt, fa_le, fa_eq, fa_lt64, fa_le64, fa_eq64, Int32.toInt_toInt64, lsub1, Int32.reduceToInt, Int64.reduceToInt, Int32.toInt_zero, Int64.toInt_zero, ti_m1, ti_m2, ti_m3, ti_m4, ti_m9] at *) <;> omega), fun c => ⟨fun d => q2 (by (try simp only [fa_lt, fa_le, fa_eq, fa_lt64, fa_le64, fa_eq64, Int32.toInt_toInt64, lsub1, Int32.reduceToInt, Int64.reduceToInt, Int32.toInt_zero, Int64.toInt_zero, ti_m1, ti_m2, ti_m3, ti_m4, ti_m9] at *) <;> omega), fun d => q1 (by (try simp only [fa_lt, fa_le, fa_eq, fa_lt64, fa_le64, fa_eq64, Int32.toInt_toInt64, lsub1, Int32.reduceToInt, Int64.reduceToInt, Int32.toInt_zero, Int64.toInt_zero, ti_m1, ti_m2, ti_m3, ti_m4, ti_m9] at *) <;> omega)⟩⟩

def cutv (l : Nat) (v : Int32) : Int32 := if l = 0 then v.toInt8.toInt32 else if l = 1 then v.toInt16.toInt32 else v
set_option maxRecDepth 100000 in
set_option maxHeartbeats 4000000 in
theorem c_cut {p l : Nat} (hp : isSh p) {v : Int32} {S : St} {Q : Int32 → St → Prop} (hl : l ≤ 2) (e : S.1 p 2 = nI l) (h : Q (cutv l v) S) : CallV mdX3_cut [.ref p, .int v] S (qI Q) := by
  apply eX3_cut hp
  rw [e]
  unfold cutv at h
  rcases (by omega : l = 0 ∨ l = 1 ∨ l = 2) with rfl | rfl | rfl
  · exact br_t (by decide) h
  · exact br_f (by decide) (br_t (by decide) h)
  · exact br_f (by decide) (br_f (by decide) h)
theorem isSh_k {k : Nat} (hk : k < 4) : isSh (26 + 2 * k) := by unfold isSh; omega
set_option maxRecDepth 100000 in
set_option maxHeartbeats 4000000 in
theorem ok_put (x1 x2 x3 : Int32) : OKI mdX5_put mdX6_put [.ref 0, .int x1, .int x2, .int x3] [.ref 34, .int x1, .int x2, .int x3] := by
  intro S hI
  obtain ⟨M, hM, hC, hm, hs, ht, hf⟩ := id hI
  apply eX5_put
  rcases pk_ix x1 (n := 4) (by omega) with h | h | ⟨k, hk, rfl⟩
  · refine br_t h ?_
    apply eX6_put
    exact br_t (by (try simp only [fa_lt, fa_le, fa_eq, fa_lt64, fa_le64, fa_eq64, Int32.toInt_toInt64, lsub1, Int32.reduceToInt, Int64.reduceToInt, Int32.toInt_zero, Int64.toInt_zero, ti_m1, ti_m2, ti_m3, ti_m4, ti_m9] at *) <;> omega) ⟨rfl, hI.flt 0⟩
  · have h : (4 : Int32) ≤ x1 := h
    refine br_f (by (try simp only [fa_lt, fa_le, fa_eq, fa_lt64, fa_le64, fa_eq64, Int32.toInt_toInt64, lsub1, Int32.reduceToInt, Int64.reduceToInt, Int32.toInt_zero, Int64.toInt_zero, ti_m1, ti_m2, ti_m3, ti_m4, ti_m9] at *) <;> omega) (br_t h ?_)
    apply eX6_put
    exact br_f (by (try simp only [fa_lt, fa_le, fa_eq, fa_lt64, fa_le64, fa_eq64, Int32.toInt_toInt64, lsub1, Int32.reduceToInt, Int64.reduceToInt, Int32.toInt_zero, Int64.toInt_zero, ti_m1, ti_m2, ti_m3, ti_m4, ti_m9] at *) <;> omega) (br_t (by (try simp only [fa_lt, fa_le, fa_eq, fa_lt64, fa_le64, fa_eq64, Int32.toInt_toInt64, lsub1, Int32.reduceToInt, Int64.reduceToInt, Int32.toInt_zero, Int64.toInt_zero, ti_m1, ti_m2, ti_m3, ti_m4, ti_m9] at *) <;> omega) ⟨rfl, hI.flt 0⟩)
  · have tk := nI_toInt (n := k) (by omega)
    have g4 : vp_in (nI k) 4 := pk_in k 4 hk
    have a1 : ¬ (nI k).toInt64 < 0 := (by (try simp only [fa_lt, fa_le, fa_eq, fa_lt64, fa_le64, fa_eq64, Int32.toInt_toInt64, lsub1, Int32.reduceToInt, Int64.reduceToInt, Int32.toInt_zero, Int64.toInt_zero, ti_m1, ti_m2, ti_m3, ti_m4, ti_m9] at *) <;> omega)
    have a2 : ¬ ((3 : Int64) < (nI k).toInt64) := (by (try simp only [fa_lt, fa_le, fa_eq, fa_lt64, fa_le64, fa_eq64, Int32.toInt_toInt64, lsub1, Int32.reduceToInt, Int64.reduceToInt, Int32.toInt_zero, Int64.toInt_zero, ti_m1, ti_m2, ti_m3, ti_m4, ti_m9] at *) <;> omega)
    refine br_f (by (try simp only [fa_lt, fa_le, fa_eq, fa_lt64, fa_le64, fa_eq64, Int32.toInt_toInt64, lsub1, Int32.reduceToInt, Int64.reduceToInt, Int32.toInt_zero, Int64.toInt_zero, ti_m1, ti_m2, ti_m3, ti_m4, ti_m9] at *) <;> omega) (br_f (by (try simp only [fa_lt, fa_le, fa_eq, fa_lt64, fa_le64, fa_eq64, Int32.toInt_toInt64, lsub1, Int32.reduceToInt, Int64.reduceToInt, Int32.toInt_zero, Int64.toInt_zero, ti_m1, ti_m2, ti_m3, ti_m4, ti_m9] at *) <;> omega) ⟨g4, ?_⟩)
    rw [pk_cl k]
    simp (disch := omega) only [sI_o, sI_h, sI2]
    have hs1 : ∀ v, SHS (sI S 0 6 v) := fun v => hs
    rcases hs.all k hk with ⟨b1, b2⟩ | ⟨b1, n, l, b2, b3, b4, b5, b6, b7, b8⟩
    · refine nb_f b1 ?_
      apply eX6_put
      refine br_f a1 (br_f a2 (c_noCell_ hk (hs1 1) (fun _ => br_f (by decide) (c_noCell_ hk (hs1 1) (fun _ => ⟨by decide, hI.flt 1⟩) (fun n hn e => ?_))) (fun n hn e => ?_)))
      · exact absurd (b2.symm.trans e) (by have tn := nI_toInt (n := n) (by omega); exact (by (try simp only [fa_lt, fa_le, fa_eq, fa_lt64, fa_le64, fa_eq64, Int32.toInt_toInt64, lsub1, Int32.reduceToInt, Int64.reduceToInt, Int32.toInt_zero, Int64.toInt_zero, ti_m1, ti_m2, ti_m3, ti_m4, ti_m9] at *) <;> omega))
      · exact absurd (b2.symm.trans e) (by have tn := nI_toInt (n := n) (by omega); exact (by (try simp only [fa_lt, fa_le, fa_eq, fa_lt64, fa_le64, fa_eq64, Int32.toInt_toInt64, lsub1, Int32.reduceToInt, Int64.reduceToInt, Int32.toInt_zero, Int64.toInt_zero, ti_m1, ti_m2, ti_m3, ti_m4, ti_m9] at *) <;> omega))
    · have tn := nI_toInt (n := n) (by omega)
      rw [b1, b5]
      have bad : ¬ (0 ≤ x2.toInt ∧ x2.toInt < n) → CallV mdX6_put [.ref 34, .int (nI k), .int x2, .int x3] (sI S 0 6 3) (qI fun r2 S2 => (-13 : Int32) = r2 ∧ INV S2) := by
        intro hb
        apply eX6_put
        refine br_f a1 (br_f a2 (c_noCell_ hk (hs1 3) (fun e => absurd (e.symm.trans b6) (by (try simp only [fa_lt, fa_le, fa_eq, fa_lt64, fa_le64, fa_eq64, Int32.toInt_toInt64, lsub1, Int32.reduceToInt, Int64.reduceToInt, Int32.toInt_zero, Int64.toInt_zero, ti_m1, ti_m2, ti_m3, ti_m4, ti_m9] at *) <;> omega)) (fun n' hn' e' => ⟨fun q => absurd ?_ hb, fun _ => ?_⟩)))
        · have e9 : nI n = nI n' := b6.symm.trans e'
          rw [nI_eq (by omega) (by omega)] at e9
          rw [e9]
          exact q
        · refine br_f (by decide) (c_noCell_ hk (hs1 3) (fun e => absurd (e.symm.trans b6) (by (try simp only [fa_lt, fa_le, fa_eq, fa_lt64, fa_le64, fa_eq64, Int32.toInt_toInt64, lsub1, Int32.reduceToInt, Int64.reduceToInt, Int32.toInt_zero, Int64.toInt_zero, ti_m1, ti_m2, ti_m3, ti_m4, ti_m9] at *) <;> omega)) (fun n' hn' e' => ⟨fun q => absurd ?_ hb, fun _ => ⟨by decide, hI.flt 3⟩⟩))
          have e9 : nI n = nI n' := b6.symm.trans e'
          rw [nI_eq (by omega) (by omega)] at e9
          rw [e9]
          exact q
      refine nb_t (by decide) ⟨g4, br_f (by decide) ⟨fun c => ?_, fun c => ⟨fun d => ?_, fun d => ⟨g4, br_f (by decide) (br_f c (br_f d ?_))⟩⟩⟩⟩
      · exact bad (by intro q; exact (by (try simp only [fa_lt, fa_le, fa_eq, fa_lt64, fa_le64, fa_eq64, Int32.toInt_toInt64, lsub1, Int32.reduceToInt, Int64.reduceToInt, Int32.toInt_zero, Int64.toInt_zero, ti_m1, ti_m2, ti_m3, ti_m4, ti_m9] at *) <;> omega))
      · exact bad (by intro q; exact (by (try simp only [fa_lt, fa_le, fa_eq, fa_lt64, fa_le64, fa_eq64, Int32.toInt_toInt64, lsub1, Int32.reduceToInt, Int64.reduceToInt, Int32.toInt_zero, Int64.toInt_zero, ti_m1, ti_m2, ti_m3, ti_m4, ti_m9] at *) <;> omega))
      · obtain ⟨i, hi, rfl⟩ : ∃ i, i < n ∧ x2 = nI i := by
          rcases pk_ix x2 (n := n) (by omega) with q | q | q
          · exact absurd q c
          · exact absurd q d
          · exact q
        have tii := nI_toInt (n := i) (by omega)
        refine c_cut (isSh_k hk) b3 (by simp (disch := omega) only [sI_o, sI_h, sF_o, sF_h, sJ_1, sI_2, sF_2, sJ_o, sJ_h]; exact b4) ⟨pk_in i 60 (by omega), ?_⟩
        apply eX6_put
        have hi60 : 60 * k + i < 240 := by omega
        have eidx : (60 : Int32) * nI k + nI i = nI (60 * k + i) := by rw [fa_lit 60, pk_mul, nI_add]
        have ck := nI_clamp (n := k) (by omega)
        have cb := nI_clamp (n := 60 * k + i) (by omega)
        rw [eidx, nI_clamp (n := i) (by omega)]
        have g240 : vp_in (nI (60 * k + i)) 240 := pk_in (60 * k + i) 240 hi60
        have e47 : (sI (sI S 0 6 0) (26 + 2 * k + 1) i (cutv l x3)).1 47 k = nI n := by
          simp (disch := omega) only [sI_o, sI_h, sF_o, sF_h, sJ_1, sI_2, sF_2, sJ_o, sJ_h]
          exact b6
        have e48 : (sI (sI S 0 6 0) (26 + 2 * k + 1) i (cutv l x3)).1 48 k = nI l := by
          simp (disch := omega) only [sI_o, sI_h, sF_o, sF_h, sJ_1, sI_2, sF_2, sJ_o, sJ_h]
          exact b7
        have key : INV (sI (sI (sI (sI S 0 6 0) (26 + 2 * k + 1) i (cutv l x3)) 49 (60 * k + i) (cutv l x3)) 34 0 0) := by
          refine hI.sh k (fun p i _ _ => by simp (disch := omega) only [sI_o, sI_h, sF_o, sF_h, sJ_1, sI_2, sF_2, sJ_o, sJ_h]) (by simp (disch := omega) only [sI_o, sI_h, sF_o, sF_h, sJ_1, sI_2, sF_2, sJ_o, sJ_h]) (by simp (disch := omega) only [sI_o, sI_h, sF_o, sF_h, sJ_1, sI_2, sF_2, sJ_o, sJ_h]) (fun i hi => by simp (disch := omega) only [sI_o, sI_h, sF_o, sF_h, sJ_1, sI_2, sF_2, sJ_o, sJ_h]) (fun p i hp => by simp (disch := omega) only [sI_o, sI_h, sF_o, sF_h, sJ_1, sI_2, sF_2, sJ_o, sJ_h]) (fun j hj hjk => ⟨fun i => by simp (disch := omega) only [sI_o, sI_h, sF_o, sF_h, sJ_1, sI_2, sF_2, sJ_o, sJ_h], fun i => by simp (disch := omega) only [sI_o, sI_h, sF_o, sF_h, sJ_1, sI_2, sF_2, sJ_o, sJ_h], by simp (disch := omega) only [sI_o, sI_h, sF_o, sF_h, sJ_1, sI_2, sF_2, sJ_o, sJ_h], by simp (disch := omega) only [sI_o, sI_h, sF_o, sF_h, sJ_1, sI_2, sF_2, sJ_o, sJ_h], fun i hi => by simp (disch := omega) only [sI_o, sI_h, sF_o, sF_h, sJ_1, sI_2, sF_2, sJ_o, sJ_h]⟩) (Or.inr ⟨by simp (disch := omega) only [sI_o, sI_h, sF_o, sF_h, sJ_1, sI_2, sF_2, sJ_o, sJ_h]; exact b1, n, l, b2, b3, by simp (disch := omega) only [sI_o, sI_h, sF_o, sF_h, sJ_1, sI_2, sF_2, sJ_o, sJ_h]; exact b4, by simp (disch := omega) only [sI_o, sI_h, sF_o, sF_h, sJ_1, sI_2, sF_2, sJ_o, sJ_h]; exact b5, by simp (disch := omega) only [sI_o, sI_h, sF_o, sF_h, sJ_1, sI_2, sF_2, sJ_o, sJ_h]; exact b6, by simp (disch := omega) only [sI_o, sI_h, sF_o, sF_h, sJ_1, sI_2, sF_2, sJ_o, sJ_h]; exact b7, fun x hx => ?_⟩)
          by_cases hxi : x = i
          · subst hxi
            simp (disch := omega) only [sI_o, sI_h, sF_o, sF_h, sJ_1, sI_2, sF_2, sJ_o, sJ_h]
          · simp (disch := omega) only [sI_o, sI_h, sF_o, sF_h, sJ_1, sI_2, sF_2, sJ_o, sJ_h]
            exact b8 x hx
        refine br_f a1 (br_f a2 ?_)
        apply eX6_noCell_
        rw [ck, cb, e47, e48]
        refine ⟨g4, br_t (nI_pos' (by omega)) ⟨g4, br_f (by (try simp only [fa_lt, fa_le, fa_eq, fa_lt64, fa_le64, fa_eq64, Int32.toInt_toInt64, lsub1, Int32.reduceToInt, Int64.reduceToInt, Int32.toInt_zero, Int64.toInt_zero, ti_m1, ti_m2, ti_m3, ti_m4, ti_m9] at *) <;> omega) (br_f (by (try simp only [fa_lt, fa_le, fa_eq, fa_lt64, fa_le64, fa_eq64, Int32.toInt_toInt64, lsub1, Int32.reduceToInt, Int64.reduceToInt, Int32.toInt_zero, Int64.toInt_zero, ti_m1, ti_m2, ti_m3, ti_m4, ti_m9] at *) <;> omega) (br_t (by decide) ⟨g4, ?_⟩))⟩⟩
        unfold cutv at key ⊢
        rcases (by omega : l = 0 ∨ l = 1 ∨ l = 2) with rfl | rfl | rfl
        · exact nb_f rfl ⟨g240, rfl, key⟩
        · exact nb_t (by decide) ⟨g4, nb_f rfl ⟨g240, rfl, key⟩⟩
        · exact nb_t (by decide) ⟨g4, nb_t (by decide) ⟨g240, rfl, key⟩⟩
