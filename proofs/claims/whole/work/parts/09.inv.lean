/-! ===== what both objects stand for: hill, votes ===== -/
abbrev MS : Type := Nat × Nat × Nat × (Nat → Nat) × (Nat → Nat) × Nat × (Nat → Nat) × (Nat → Nat)
def mH (M : MS) : Nat := M.1
def mW (M : MS) : Nat := M.2.1
def mT (M : MS) : Nat := M.2.2.1
def mS (M : MS) : Nat → Nat := M.2.2.2.1
def mP (M : MS) : Nat → Nat := M.2.2.2.2.1
def mN (M : MS) : Nat := M.2.2.2.2.2.1
def mK (M : MS) : Nat → Nat := M.2.2.2.2.2.2.1
def mC (M : MS) : Nat → Nat := M.2.2.2.2.2.2.2
def OKM (M : MS) : Prop := ((mH M = 0 ∧ mW M = 0) ∨ (1 ≤ mH M ∧ mH M ≤ 5 ∧ 2 ≤ mW M ∧ mW M ≤ 6)) ∧ mT M ≤ 1 ∧ (∀ c, c < mH M * mW M → mS M c ≤ 4) ∧ (∀ t, t < mW M → mP M t ≤ 3) ∧ mN M ≤ 8 ∧ (∀ v, v < mN M → mK M v ≤ 2 ∧ mC M v < mW M)
theorem OKM.h5 {M : MS} (h : OKM M) : mH M ≤ 5 := by rcases h.1 with h | h <;> omega
theorem OKM.w6 {M : MS} (h : OKM M) : mW M ≤ 6 := by rcases h.1 with h | h <;> omega
theorem OKM.n30 {M : MS} (h : OKM M) : mH M * mW M ≤ 30 := Nat.mul_le_mul h.h5 h.w6
theorem OKM.hw {M : MS} (h : OKM M) : mH M = 0 ↔ mW M = 0 := by rcases h.1 with h | h <;> omega
theorem OKM.n8 {M : MS} (h : OKM M) : mN M ≤ 8 := h.2.2.2.2.1
theorem OKM.t1 {M : MS} (h : OKM M) : mT M ≤ 1 := h.2.1
theorem OKM.s4 {M : MS} (h : OKM M) {c : Nat} (hc : c < mH M * mW M) : mS M c ≤ 4 := h.2.2.1 c hc
theorem OKM.p3 {M : MS} (h : OKM M) {t : Nat} (ht : t < mW M) : mP M t ≤ 3 := h.2.2.2.1 t ht
theorem OKM.k2 {M : MS} (h : OKM M) {v : Nat} (hv : v < mN M) : mK M v ≤ 2 := (h.2.2.2.2.2 v hv).1
theorem OKM.cw {M : MS} (h : OKM M) {v : Nat} (hv : v < mN M) : mC M v < mW M := (h.2.2.2.2.2 v hv).2
def HI (a b t n : Int32) (sg pa kd co : Nat → Int32) (M : MS) : Prop := a = nI (mH M) ∧ b = nI (mW M) ∧ t = nI (mT M) ∧ n = nI (mN M) ∧ (∀ c, c < mH M * mW M → sg c = nI (mS M c)) ∧ (∀ c, c < mW M → pa c = nI (mP M c)) ∧ (∀ v, v < mN M → kd v = nI (mK M v)) ∧ (∀ v, v < mN M → co v = nI (mC M v))
theorem HI.h {a b t n : Int32} {sg pa kd co : Nat → Int32} {M : MS} (h : HI a b t n sg pa kd co M) : a = nI (mH M) := h.1
theorem HI.w {a b t n : Int32} {sg pa kd co : Nat → Int32} {M : MS} (h : HI a b t n sg pa kd co M) : b = nI (mW M) := h.2.1
theorem HI.t {a b t n : Int32} {sg pa kd co : Nat → Int32} {M : MS} (h : HI a b t n sg pa kd co M) : t = nI (mT M) := h.2.2.1
theorem HI.n {a b t n : Int32} {sg pa kd co : Nat → Int32} {M : MS} (h : HI a b t n sg pa kd co M) : n = nI (mN M) := h.2.2.2.1
theorem HI.sg {a b t n : Int32} {sg pa kd co : Nat → Int32} {M : MS} (h : HI a b t n sg pa kd co M) {c : Nat} (hc : c < mH M * mW M) : sg c = nI (mS M c) := h.2.2.2.2.1 c hc
theorem HI.pa {a b t n : Int32} {sg pa kd co : Nat → Int32} {M : MS} (h : HI a b t n sg pa kd co M) {c : Nat} (hc : c < mW M) : pa c = nI (mP M c) := h.2.2.2.2.2.1 c hc
theorem HI.kd {a b t n : Int32} {sg pa kd co : Nat → Int32} {M : MS} (h : HI a b t n sg pa kd co M) {v : Nat} (hv : v < mN M) : kd v = nI (mK M v) := h.2.2.2.2.2.2.1 v hv
theorem HI.co {a b t n : Int32} {sg pa kd co : Nat → Int32} {M : MS} (h : HI a b t n sg pa kd co M) {v : Nat} (hv : v < mN M) : co v = nI (mC M v) := h.2.2.2.2.2.2.2 v hv
theorem HI.N {a b t n : Int32} {sg pa kd co : Nat → Int32} {M : MS} (h : HI a b t n sg pa kd co M) : a * b = nI (mH M * mW M) := by rw [h.h, h.w, pk_mul]
def CI (S : St) (M : MS) : Prop := HI (S.1 1 2) (S.1 1 3) (S.1 1 4) (S.1 4 2) (S.1 2) (S.1 3) (S.1 5) (S.1 6) M
def MI (S : St) (M : MS) : Prop := HI (S.1 34 1) (S.1 34 2) (S.1 34 5) (S.1 34 11) (S.1 36) (S.1 35) (S.1 39) (S.1 40) M
/-- a sheet of the class and of the reference -/
def SK (a r : Nat → Int32) (sz la : Int32) (sh : Nat → Int32) (k : Nat) : Prop := (a 1 = 0 ∧ sz = -1) ∨ (a 1 = 1 ∧ ∃ n l : Nat, n ≤ 60 ∧ l ≤ 2 ∧ a 2 = nI l ∧ a 3 = nI n ∧ sz = nI n ∧ la = nI l ∧ ∀ i, i < n → r i = sh (60 * k + i))
def SHS (S : St) : Prop := SK (S.1 26) (S.1 27) (S.1 47 0) (S.1 48 0) (S.1 49) 0 ∧ SK (S.1 28) (S.1 29) (S.1 47 1) (S.1 48 1) (S.1 49) 1 ∧ SK (S.1 30) (S.1 31) (S.1 47 2) (S.1 48 2) (S.1 49) 2 ∧ SK (S.1 32) (S.1 33) (S.1 47 3) (S.1 48 3) (S.1 49) 3
def INV (S : St) : Prop := ∃ M, OKM M ∧ CI S M ∧ MI S M ∧ SHS S ∧ S.1 0 5 = S.1 34 26 ∧ S.1 0 6 = S.1 34 0
/-- what a method leaves as it was: all that counts of the class, of the reference -/
def EqC (S S' : St) : Prop := S'.1 0 = S.1 0 ∧ S'.1 1 = S.1 1 ∧ S'.1 2 = S.1 2 ∧ S'.1 3 = S.1 3 ∧ S'.1 4 = S.1 4 ∧ S'.1 5 = S.1 5 ∧ S'.1 6 = S.1 6 ∧ S'.1 26 = S.1 26 ∧ S'.1 27 = S.1 27 ∧ S'.1 28 = S.1 28 ∧ S'.1 29 = S.1 29 ∧ S'.1 30 = S.1 30 ∧ S'.1 31 = S.1 31 ∧ S'.1 32 = S.1 32 ∧ S'.1 33 = S.1 33
def EqM (S S' : St) : Prop := S'.1 34 0 = S.1 34 0 ∧ S'.1 34 1 = S.1 34 1 ∧ S'.1 34 2 = S.1 34 2 ∧ S'.1 34 5 = S.1 34 5 ∧ S'.1 34 11 = S.1 34 11 ∧ S'.1 34 26 = S.1 34 26 ∧ S'.1 35 = S.1 35 ∧ S'.1 36 = S.1 36 ∧ S'.1 39 = S.1 39 ∧ S'.1 40 = S.1 40 ∧ S'.1 47 = S.1 47 ∧ S'.1 48 = S.1 48 ∧ S'.1 49 = S.1 49
theorem CI.eq {S S' : St} {M : MS} (h : CI S M) (e : EqC S S') : CI S' M := by
  obtain ⟨e0, e1, e2, e3, e4, e5, e6, -⟩ := e
  unfold CI at h ⊢
  rw [e1, e2, e3, e4, e5, e6]
  exact h
theorem MI.eq {S S' : St} {M : MS} (h : MI S M) (e : EqM S S') : MI S' M := by
  obtain ⟨e0, e1, e2, e3, e4, e5, e6, e7, e8, e9, -⟩ := e
  unfold MI at h ⊢
  rw [e1, e2, e3, e4, e6, e7, e8, e9]
  exact h
theorem SHS.eq {S S' : St} (h : SHS S) (e : EqC S S') (e' : EqM S S') : SHS S' := by
  obtain ⟨e0, e1, e2, e3, e4, e5, e6, a0, a1, a2, a3, a4, a5, a6, a7⟩ := e
  obtain ⟨f0, f1, f2, f3, f4, f5, f6, f7, f8, f9, b0, b1, b2⟩ := e'
  unfold SHS at h ⊢
  rw [a0, a1, a2, a3, a4, a5, a6, a7, b0, b1, b2]
  exact h
theorem INV.eq {S S' : St} (h : INV S) (e : EqC S S') (e' : EqM S S') : INV S' := by
  obtain ⟨M, h1, h2, h3, h4, h5, h6⟩ := h
  refine ⟨M, h1, h2.eq e, h3.eq e', h4.eq e e', ?_, ?_⟩
  · rw [e.1, e'.2.2.2.2.2.1]; exact h5
  · rw [e.1, e'.1]; exact h6
theorem EqC.rfl {S : St} : EqC S S := ⟨Eq.refl _, Eq.refl _, Eq.refl _, Eq.refl _, Eq.refl _, Eq.refl _, Eq.refl _, Eq.refl _, Eq.refl _, Eq.refl _, Eq.refl _, Eq.refl _, Eq.refl _, Eq.refl _, Eq.refl _⟩
theorem EqM.rfl {S : St} : EqM S S := ⟨Eq.refl _, Eq.refl _, Eq.refl _, Eq.refl _, Eq.refl _, Eq.refl _, Eq.refl _, Eq.refl _, Eq.refl _, Eq.refl _, Eq.refl _, Eq.refl _, Eq.refl _⟩
theorem EqC.tr {A B D : St} (h : EqC A B) (g : EqC B D) : EqC A D := by
  unfold EqC at *
  simp only [g, h, and_self]
theorem EqM.tr {A B D : St} (h : EqM A B) (g : EqM B D) : EqM A D := by
  unfold EqM at *
  simp only [g, h, and_self]
/-- a call of both, answers alike -/
def OKI (yx ym : MD) (ax am : List Value) : Prop := ∀ S, INV S → CallV yx ax S (qI fun r S1 => CallV ym am S1 (qI fun r2 S2 => r = r2 ∧ INV S2))
def OKJ (yx ym : MD) (ax am : List Value) : Prop := ∀ S, INV S → CallV yx ax S (qJ fun r S1 => CallV ym am S1 (qJ fun r2 S2 => r = r2 ∧ INV S2))
/-- the fault is set by both -/
theorem INV.flt {S : St} (h : INV S) (v : Int32) : INV (sI (sI S 0 6 v) 34 0 v) := by
  obtain ⟨M, h1, h2, h3, h4, h5, h6⟩ := h
  exact ⟨M, h1, h2, h3, h4, h5, rfl⟩
theorem INV.flt2 {S : St} (h : INV S) (u v : Int32) : INV (sI (sI (sI S 0 6 u) 0 6 v) 34 0 v) := by
  obtain ⟨M, h1, h2, h3, h4, h5, h6⟩ := h
  exact ⟨M, h1, h2, h3, h4, h5, rfl⟩
set_option maxRecDepth 100000 in
set_option maxHeartbeats 4000000 in
theorem ok_sign (x1 : Int32) : OKI mdX5_sign mdX6_sign [.ref 0, .int x1] [.ref 34, .int x1] := by
  intro S hI
  obtain ⟨M, hM, hC, hm, hs, ht, hf⟩ := id hI
  have n30 := hM.n30
  have t := nI_toInt (n := mH M * mW M) (by omega)
  apply eX5_sign
  rw [hC.N]
  rcases pk_ix x1 (n := mH M * mW M) (by omega) with h | h | ⟨j, hj, rfl⟩
  · refine br_t h ?_
    apply eX6_sign
    rw [hm.N]
    exact br_t (by (try simp only [fa_lt, fa_le, fa_eq, fa_lt64, fa_le64, fa_eq64, Int32.toInt_toInt64, lsub1, Int32.reduceToInt, Int64.reduceToInt, Int32.toInt_zero, Int64.toInt_zero, ti_m1, ti_m2, ti_m3, ti_m4, ti_m9] at *) <;> omega) ⟨rfl, hI⟩
  · refine br_f (by (try simp only [fa_lt, fa_le, fa_eq, fa_lt64, fa_le64, fa_eq64, Int32.toInt_toInt64, lsub1, Int32.reduceToInt, Int64.reduceToInt, Int32.toInt_zero, Int64.toInt_zero, ti_m1, ti_m2, ti_m3, ti_m4, ti_m9] at *) <;> omega) (br_t h ?_)
    apply eX6_sign
    rw [hm.N]
    exact br_f (by (try simp only [fa_lt, fa_le, fa_eq, fa_lt64, fa_le64, fa_eq64, Int32.toInt_toInt64, lsub1, Int32.reduceToInt, Int64.reduceToInt, Int32.toInt_zero, Int64.toInt_zero, ti_m1, ti_m2, ti_m3, ti_m4, ti_m9] at *) <;> omega) (br_t (by (try simp only [fa_lt, fa_le, fa_eq, fa_lt64, fa_le64, fa_eq64, Int32.toInt_toInt64, lsub1, Int32.reduceToInt, Int64.reduceToInt, Int32.toInt_zero, Int64.toInt_zero, ti_m1, ti_m2, ti_m3, ti_m4, ti_m9] at *) <;> omega) ⟨rfl, hI⟩)
  · have tj := nI_toInt (n := j) (by omega)
    refine br_f (by (try simp only [fa_lt, fa_le, fa_eq, fa_lt64, fa_le64, fa_eq64, Int32.toInt_toInt64, lsub1, Int32.reduceToInt, Int64.reduceToInt, Int32.toInt_zero, Int64.toInt_zero, ti_m1, ti_m2, ti_m3, ti_m4, ti_m9] at *) <;> omega) (br_f (by (try simp only [fa_lt, fa_le, fa_eq, fa_lt64, fa_le64, fa_eq64, Int32.toInt_toInt64, lsub1, Int32.reduceToInt, Int64.reduceToInt, Int32.toInt_zero, Int64.toInt_zero, ti_m1, ti_m2, ti_m3, ti_m4, ti_m9] at *) <;> omega) ⟨pk_in j 30 (by omega), ?_⟩)
    apply eX6_sign
    rw [hm.N]
    refine br_f (by (try simp only [fa_lt, fa_le, fa_eq, fa_lt64, fa_le64, fa_eq64, Int32.toInt_toInt64, lsub1, Int32.reduceToInt, Int64.reduceToInt, Int32.toInt_zero, Int64.toInt_zero, ti_m1, ti_m2, ti_m3, ti_m4, ti_m9] at *) <;> omega) (br_f (by (try simp only [fa_lt, fa_le, fa_eq, fa_lt64, fa_le64, fa_eq64, Int32.toInt_toInt64, lsub1, Int32.reduceToInt, Int64.reduceToInt, Int32.toInt_zero, Int64.toInt_zero, ti_m1, ti_m2, ti_m3, ti_m4, ti_m9] at *) <;> omega) ⟨pk_in j 30 (by omega), ?_, hI⟩)
    rw [pk_cl j, hC.sg hj, hm.sg hj]
set_option maxRecDepth 100000 in
set_option maxHeartbeats 4000000 in
theorem ok_set (x1 x2 : Int32) : OKI mdX5_set mdX6_set [.ref 0, .int x1, .int x2] [.ref 34, .int x1, .int x2] := by
  intro S hI
  obtain ⟨M, hM, hC, hm, hs, ht, hf⟩ := id hI
  have n30 := hM.n30
  have t := nI_toInt (n := mH M * mW M) (by omega)
  apply eX5_set
  rw [hC.N]
  rcases pk_ix x1 (n := mH M * mW M) (by omega) with h | h | ⟨j, hj, rfl⟩
  · refine br_t h ?_
    apply eX6_set
    rw [hm.N]
    exact br_t (by (try simp only [fa_lt, fa_le, fa_eq, fa_lt64, fa_le64, fa_eq64, Int32.toInt_toInt64, lsub1, Int32.reduceToInt, Int64.reduceToInt, Int32.toInt_zero, Int64.toInt_zero, ti_m1, ti_m2, ti_m3, ti_m4, ti_m9] at *) <;> omega) ⟨rfl, hI⟩
  · refine br_f (by (try simp only [fa_lt, fa_le, fa_eq, fa_lt64, fa_le64, fa_eq64, Int32.toInt_toInt64, lsub1, Int32.reduceToInt, Int64.reduceToInt, Int32.toInt_zero, Int64.toInt_zero, ti_m1, ti_m2, ti_m3, ti_m4, ti_m9] at *) <;> omega) (br_t h ?_)
    apply eX6_set
    rw [hm.N]
    exact br_f (by (try simp only [fa_lt, fa_le, fa_eq, fa_lt64, fa_le64, fa_eq64, Int32.toInt_toInt64, lsub1, Int32.reduceToInt, Int64.reduceToInt, Int32.toInt_zero, Int64.toInt_zero, ti_m1, ti_m2, ti_m3, ti_m4, ti_m9] at *) <;> omega) (br_t (by (try simp only [fa_lt, fa_le, fa_eq, fa_lt64, fa_le64, fa_eq64, Int32.toInt_toInt64, lsub1, Int32.reduceToInt, Int64.reduceToInt, Int32.toInt_zero, Int64.toInt_zero, ti_m1, ti_m2, ti_m3, ti_m4, ti_m9] at *) <;> omega) ⟨rfl, hI⟩)
  · have tj := nI_toInt (n := j) (by omega)
    refine br_f (by (try simp only [fa_lt, fa_le, fa_eq, fa_lt64, fa_le64, fa_eq64, Int32.toInt_toInt64, lsub1, Int32.reduceToInt, Int64.reduceToInt, Int32.toInt_zero, Int64.toInt_zero, ti_m1, ti_m2, ti_m3, ti_m4, ti_m9] at *) <;> omega) (br_f (by (try simp only [fa_lt, fa_le, fa_eq, fa_lt64, fa_le64, fa_eq64, Int32.toInt_toInt64, lsub1, Int32.reduceToInt, Int64.reduceToInt, Int32.toInt_zero, Int64.toInt_zero, ti_m1, ti_m2, ti_m3, ti_m4, ti_m9] at *) <;> omega) ?_)
    rcases pk_ix x2 (n := 5) (by omega) with g | g | ⟨s, hs4, rfl⟩
    · refine br_t g ?_
      apply eX6_set
      rw [hm.N]
      exact br_f (by (try simp only [fa_lt, fa_le, fa_eq, fa_lt64, fa_le64, fa_eq64, Int32.toInt_toInt64, lsub1, Int32.reduceToInt, Int64.reduceToInt, Int32.toInt_zero, Int64.toInt_zero, ti_m1, ti_m2, ti_m3, ti_m4, ti_m9] at *) <;> omega) (br_f (by (try simp only [fa_lt, fa_le, fa_eq, fa_lt64, fa_le64, fa_eq64, Int32.toInt_toInt64, lsub1, Int32.reduceToInt, Int64.reduceToInt, Int32.toInt_zero, Int64.toInt_zero, ti_m1, ti_m2, ti_m3, ti_m4, ti_m9] at *) <;> omega) (br_t (by (try simp only [fa_lt, fa_le, fa_eq, fa_lt64, fa_le64, fa_eq64, Int32.toInt_toInt64, lsub1, Int32.reduceToInt, Int64.reduceToInt, Int32.toInt_zero, Int64.toInt_zero, ti_m1, ti_m2, ti_m3, ti_m4, ti_m9] at *) <;> omega) ⟨rfl, hI⟩))
    · have g : (5 : Int32) ≤ x2 := g
      refine br_f (by (try simp only [fa_lt, fa_le, fa_eq, fa_lt64, fa_le64, fa_eq64, Int32.toInt_toInt64, lsub1, Int32.reduceToInt, Int64.reduceToInt, Int32.toInt_zero, Int64.toInt_zero, ti_m1, ti_m2, ti_m3, ti_m4, ti_m9] at *) <;> omega) (br_f (by (try simp only [fa_lt, fa_le, fa_eq, fa_lt64, fa_le64, fa_eq64, Int32.toInt_toInt64, lsub1, Int32.reduceToInt, Int64.reduceToInt, Int32.toInt_zero, Int64.toInt_zero, ti_m1, ti_m2, ti_m3, ti_m4, ti_m9] at *) <;> omega) ?_)
      apply eX6_set
      rw [hm.N]
      exact br_f (by (try simp only [fa_lt, fa_le, fa_eq, fa_lt64, fa_le64, fa_eq64, Int32.toInt_toInt64, lsub1, Int32.reduceToInt, Int64.reduceToInt, Int32.toInt_zero, Int64.toInt_zero, ti_m1, ti_m2, ti_m3, ti_m4, ti_m9] at *) <;> omega) (br_f (by (try simp only [fa_lt, fa_le, fa_eq, fa_lt64, fa_le64, fa_eq64, Int32.toInt_toInt64, lsub1, Int32.reduceToInt, Int64.reduceToInt, Int32.toInt_zero, Int64.toInt_zero, ti_m1, ti_m2, ti_m3, ti_m4, ti_m9] at *) <;> omega) (br_f (by (try simp only [fa_lt, fa_le, fa_eq, fa_lt64, fa_le64, fa_eq64, Int32.toInt_toInt64, lsub1, Int32.reduceToInt, Int64.reduceToInt, Int32.toInt_zero, Int64.toInt_zero, ti_m1, ti_m2, ti_m3, ti_m4, ti_m9] at *) <;> omega) (br_t (by (try simp only [fa_lt, fa_le, fa_eq, fa_lt64, fa_le64, fa_eq64, Int32.toInt_toInt64, lsub1, Int32.reduceToInt, Int64.reduceToInt, Int32.toInt_zero, Int64.toInt_zero, ti_m1, ti_m2, ti_m3, ti_m4, ti_m9] at *) <;> omega) ⟨rfl, hI⟩)))
    · have ts := nI_toInt (n := s) (by omega)
      refine br_f (by (try simp only [fa_lt, fa_le, fa_eq, fa_lt64, fa_le64, fa_eq64, Int32.toInt_toInt64, lsub1, Int32.reduceToInt, Int64.reduceToInt, Int32.toInt_zero, Int64.toInt_zero, ti_m1, ti_m2, ti_m3, ti_m4, ti_m9] at *) <;> omega) (br_t (by (try simp only [fa_lt, fa_le, fa_eq, fa_lt64, fa_le64, fa_eq64, Int32.toInt_toInt64, lsub1, Int32.reduceToInt, Int64.reduceToInt, Int32.toInt_zero, Int64.toInt_zero, ti_m1, ti_m2, ti_m3, ti_m4, ti_m9] at *) <;> omega) ⟨pk_in j 30 (by omega), pk_in j 30 (by omega), ?_⟩)
      apply eX6_set
      rw [show (sI S 2 (nI j).toNatClampNeg (nI s)).1 34 = S.1 34 from rfl, hm.N]
      refine br_f (by (try simp only [fa_lt, fa_le, fa_eq, fa_lt64, fa_le64, fa_eq64, Int32.toInt_toInt64, lsub1, Int32.reduceToInt, Int64.reduceToInt, Int32.toInt_zero, Int64.toInt_zero, ti_m1, ti_m2, ti_m3, ti_m4, ti_m9] at *) <;> omega) (br_f (by (try simp only [fa_lt, fa_le, fa_eq, fa_lt64, fa_le64, fa_eq64, Int32.toInt_toInt64, lsub1, Int32.reduceToInt, Int64.reduceToInt, Int32.toInt_zero, Int64.toInt_zero, ti_m1, ti_m2, ti_m3, ti_m4, ti_m9] at *) <;> omega) (br_f (by (try simp only [fa_lt, fa_le, fa_eq, fa_lt64, fa_le64, fa_eq64, Int32.toInt_toInt64, lsub1, Int32.reduceToInt, Int64.reduceToInt, Int32.toInt_zero, Int64.toInt_zero, ti_m1, ti_m2, ti_m3, ti_m4, ti_m9] at *) <;> omega) (br_f (by (try simp only [fa_lt, fa_le, fa_eq, fa_lt64, fa_le64, fa_eq64, Int32.toInt_toInt64, lsub1, Int32.reduceToInt, Int64.reduceToInt, Int32.toInt_zero, Int64.toInt_zero, ti_m1, ti_m2, ti_m3, ti_m4, ti_m9] at *) <;> omega) ⟨pk_in j 30 (by omega), pk_in j 30 (by omega), ?_, ?_⟩)))
      · show S.1 2 (nI j).toNatClampNeg = S.1 36 (nI j).toNatClampNeg
        rw [pk_cl j, hC.sg hj, hm.sg hj]
      · rw [pk_cl j]
        obtain ⟨a1, a2, a3, a4, a5, a6⟩ := hM
        refine ⟨(mH M, mW M, mT M, (fun c => if c = j then s else mS M c), mP M, mN M, mK M, mC M), ⟨a1, a2, fun c hc => ?_, a4, a5, a6⟩, ⟨hC.1, hC.2.1, hC.2.2.1, hC.2.2.2.1, fun c hc => ?_, hC.2.2.2.2.2⟩, ⟨hm.1, hm.2.1, hm.2.2.1, hm.2.2.2.1, fun c hc => ?_, hm.2.2.2.2.2⟩, hs, ht, hf⟩
        · show (if c = j then s else mS M c) ≤ 4
          split
          · omega
          · exact a3 c hc
        · show upd (S.1 2) j (nI s) c = nI (if c = j then s else mS M c)
          unfold upd
          split
          · rfl
          · exact hC.sg hc
        · show upd (S.1 36) j (nI s) c = nI (if c = j then s else mS M c)
          unfold upd
          split
          · rfl
          · exact hm.sg hc
set_option maxRecDepth 100000 in
set_option maxHeartbeats 4000000 in
theorem ok_party (x1 : Int32) : OKI mdX5_party mdX6_party [.ref 0, .int x1] [.ref 34, .int x1] := by
  intro S hI
  obtain ⟨M, hM, hC, hm, hs, ht, hf⟩ := id hI
  have w6 := hM.w6
  have t := nI_toInt (n := mW M) (by omega)
  apply eX5_party
  rw [hC.w]
  rcases pk_ix x1 (n := mW M) (by omega) with h | h | ⟨j, hj, rfl⟩
  · refine br_t h ?_
    apply eX6_party
    rw [hm.w]
    exact br_t (by (try simp only [fa_lt, fa_le, fa_eq, fa_lt64, fa_le64, fa_eq64, Int32.toInt_toInt64, lsub1, Int32.reduceToInt, Int64.reduceToInt, Int32.toInt_zero, Int64.toInt_zero, ti_m1, ti_m2, ti_m3, ti_m4, ti_m9] at *) <;> omega) ⟨rfl, hI⟩
  · refine br_f (by (try simp only [fa_lt, fa_le, fa_eq, fa_lt64, fa_le64, fa_eq64, Int32.toInt_toInt64, lsub1, Int32.reduceToInt, Int64.reduceToInt, Int32.toInt_zero, Int64.toInt_zero, ti_m1, ti_m2, ti_m3, ti_m4, ti_m9] at *) <;> omega) (br_t h ?_)
    apply eX6_party
    rw [hm.w]
    exact br_f (by (try simp only [fa_lt, fa_le, fa_eq, fa_lt64, fa_le64, fa_eq64, Int32.toInt_toInt64, lsub1, Int32.reduceToInt, Int64.reduceToInt, Int32.toInt_zero, Int64.toInt_zero, ti_m1, ti_m2, ti_m3, ti_m4, ti_m9] at *) <;> omega) (br_t (by (try simp only [fa_lt, fa_le, fa_eq, fa_lt64, fa_le64, fa_eq64, Int32.toInt_toInt64, lsub1, Int32.reduceToInt, Int64.reduceToInt, Int32.toInt_zero, Int64.toInt_zero, ti_m1, ti_m2, ti_m3, ti_m4, ti_m9] at *) <;> omega) ⟨rfl, hI⟩)
  · have tj := nI_toInt (n := j) (by omega)
    refine br_f (by (try simp only [fa_lt, fa_le, fa_eq, fa_lt64, fa_le64, fa_eq64, Int32.toInt_toInt64, lsub1, Int32.reduceToInt, Int64.reduceToInt, Int32.toInt_zero, Int64.toInt_zero, ti_m1, ti_m2, ti_m3, ti_m4, ti_m9] at *) <;> omega) (br_f (by (try simp only [fa_lt, fa_le, fa_eq, fa_lt64, fa_le64, fa_eq64, Int32.toInt_toInt64, lsub1, Int32.reduceToInt, Int64.reduceToInt, Int32.toInt_zero, Int64.toInt_zero, ti_m1, ti_m2, ti_m3, ti_m4, ti_m9] at *) <;> omega) ⟨pk_in j 6 (by omega), ?_⟩)
    apply eX6_party
    rw [hm.w]
    refine br_f (by (try simp only [fa_lt, fa_le, fa_eq, fa_lt64, fa_le64, fa_eq64, Int32.toInt_toInt64, lsub1, Int32.reduceToInt, Int64.reduceToInt, Int32.toInt_zero, Int64.toInt_zero, ti_m1, ti_m2, ti_m3, ti_m4, ti_m9] at *) <;> omega) (br_f (by (try simp only [fa_lt, fa_le, fa_eq, fa_lt64, fa_le64, fa_eq64, Int32.toInt_toInt64, lsub1, Int32.reduceToInt, Int64.reduceToInt, Int32.toInt_zero, Int64.toInt_zero, ti_m1, ti_m2, ti_m3, ti_m4, ti_m9] at *) <;> omega) ⟨pk_in j 6 (by omega), ?_, hI⟩)
    rw [pk_cl j, hC.pa hj, hm.pa hj]
set_option maxRecDepth 100000 in
set_option maxHeartbeats 4000000 in
theorem ok_trace : OKI mdX5_trace mdX6_trace [.ref 0] [.ref 34] := by
  intro S hI
  obtain ⟨M, hM, hC, hm, hs, ht, hf⟩ := id hI
  apply eX5_trace
  apply eX6_trace
  exact ⟨ht, hI⟩
set_option maxRecDepth 100000 in
set_option maxHeartbeats 4000000 in
theorem ok_fault : OKI mdX5_fault mdX6_fault [.ref 0] [.ref 34] := by
  intro S hI
  obtain ⟨M, hM, hC, hm, hs, ht, hf⟩ := id hI
  apply eX5_fault
  apply eX6_fault
  exact ⟨hf, hI⟩
set_option maxRecDepth 100000 in
set_option maxHeartbeats 4000000 in
theorem ok_wet (x1 : Int32) (hx : isB x1) : OKI mdX5_wet mdX6_wet [.ref 0, .int x1] [.ref 34, .int x1] := by
  intro S hI
  obtain ⟨M, hM, hC, hm, hs, ht, hf⟩ := id hI
  have w6 := hM.w6
  have h5 := hM.h5
  have hw := hM.hw
  have t := nI_toInt (n := mW M) (by omega)
  have th := nI_toInt (n := mH M) (by omega)
  have tt := nI_toInt (n := mT M) (by have := hM.t1; omega)
  apply eX5_wet
  rw [hC.w]
  have key : INV (sI (sI S 1 4 x1) 34 5 x1) := by
    obtain ⟨a1, a2, a3, a4, a5, a6⟩ := hM
    rcases hx with rfl | rfl
    · exact ⟨(mH M, mW M, 0, mS M, mP M, mN M, mK M, mC M), ⟨a1, by show 0 ≤ 1; omega, a3, a4, a5, a6⟩, ⟨hC.1, hC.2.1, rfl, hC.2.2.2⟩, ⟨hm.1, hm.2.1, rfl, hm.2.2.2⟩, hs, ht, hf⟩
    · exact ⟨(mH M, mW M, 1, mS M, mP M, mN M, mK M, mC M), ⟨a1, Nat.le_refl 1, a3, a4, a5, a6⟩, ⟨hC.1, hC.2.1, rfl, hC.2.2.2⟩, ⟨hm.1, hm.2.1, rfl, hm.2.2.2⟩, hs, ht, hf⟩
  by_cases hz : mW M = 0
  · refine br_t (by (try simp only [fa_lt, fa_le, fa_eq, fa_lt64, fa_le64, fa_eq64, Int32.toInt_toInt64, lsub1, Int32.reduceToInt, Int64.reduceToInt, Int32.toInt_zero, Int64.toInt_zero, ti_m1, ti_m2, ti_m3, ti_m4, ti_m9] at *) <;> omega) ?_
    apply eX6_wet
    rw [hm.h]
    exact ⟨fun q => absurd (by rw [hw.mpr hz]; rfl) q, fun _ => ⟨rfl, hI⟩⟩
  · refine br_f (by (try simp only [fa_lt, fa_le, fa_eq, fa_lt64, fa_le64, fa_eq64, Int32.toInt_toInt64, lsub1, Int32.reduceToInt, Int64.reduceToInt, Int32.toInt_zero, Int64.toInt_zero, ti_m1, ti_m2, ti_m3, ti_m4, ti_m9] at *) <;> omega) ⟨hx, ?_⟩
    have hz2 : ¬ nI (mH M) = 0 := (by (try simp only [fa_lt, fa_le, fa_eq, fa_lt64, fa_le64, fa_eq64, Int32.toInt_toInt64, lsub1, Int32.reduceToInt, Int64.reduceToInt, Int32.toInt_zero, Int64.toInt_zero, ti_m1, ti_m2, ti_m3, ti_m4, ti_m9] at *) <;> omega)
    have e1 : S.1 1 4 = S.1 34 5 := by rw [hC.t, hm.t]
    refine ⟨fun g => ?_, fun g => ?_⟩
    · apply eX6_wet
      rw [show (sI S 1 4 x1).1 34 = S.1 34 from rfl, hm.h]
      exact ⟨fun _ => ⟨hx, ⟨fun _ => ⟨rfl, key⟩, fun q => absurd (by rw [e1]; exact q) g⟩⟩, fun q => absurd q hz2⟩
    · apply eX6_wet
      rw [show (sI S 1 4 x1).1 34 = S.1 34 from rfl, hm.h]
      exact ⟨fun _ => ⟨hx, ⟨fun q => absurd (by rw [← e1]; exact g) q, fun _ => ⟨rfl, key⟩⟩⟩, fun q => absurd q hz2⟩
set_option maxRecDepth 100000 in
set_option maxHeartbeats 4000000 in
theorem ok_vote (x1 x2 : Int32) : OKI mdX5_vote mdX6_vote [.ref 0, .int x1, .int x2] [.ref 34, .int x1, .int x2] := by
  intro S hI
  obtain ⟨M, hM, hC, hm, hs, ht, hf⟩ := id hI
  have w6 := hM.w6
  have n8 := hM.n8
  have t := nI_toInt (n := mW M) (by omega)
  have tn := nI_toInt (n := mN M) (by omega)
  apply eX5_vote
  rw [hC.w, hC.n]
  rcases pk_ix x2 (n := mW M) (by omega) with h | h | ⟨j, hj, rfl⟩
  · refine br_t h ?_
    apply eX6_vote
    rw [hm.w]
    exact br_t (by (try simp only [fa_lt, fa_le, fa_eq, fa_lt64, fa_le64, fa_eq64, Int32.toInt_toInt64, lsub1, Int32.reduceToInt, Int64.reduceToInt, Int32.toInt_zero, Int64.toInt_zero, ti_m1, ti_m2, ti_m3, ti_m4, ti_m9] at *) <;> omega) ⟨rfl, hI⟩
  · refine br_f (by (try simp only [fa_lt, fa_le, fa_eq, fa_lt64, fa_le64, fa_eq64, Int32.toInt_toInt64, lsub1, Int32.reduceToInt, Int64.reduceToInt, Int32.toInt_zero, Int64.toInt_zero, ti_m1, ti_m2, ti_m3, ti_m4, ti_m9] at *) <;> omega) (br_t h ?_)
    apply eX6_vote
    rw [hm.w]
    exact br_f (by (try simp only [fa_lt, fa_le, fa_eq, fa_lt64, fa_le64, fa_eq64, Int32.toInt_toInt64, lsub1, Int32.reduceToInt, Int64.reduceToInt, Int32.toInt_zero, Int64.toInt_zero, ti_m1, ti_m2, ti_m3, ti_m4, ti_m9] at *) <;> omega) (br_t (by (try simp only [fa_lt, fa_le, fa_eq, fa_lt64, fa_le64, fa_eq64, Int32.toInt_toInt64, lsub1, Int32.reduceToInt, Int64.reduceToInt, Int32.toInt_zero, Int64.toInt_zero, ti_m1, ti_m2, ti_m3, ti_m4, ti_m9] at *) <;> omega) ⟨rfl, hI⟩)
  · have tj := nI_toInt (n := j) (by omega)
    refine br_f (by (try simp only [fa_lt, fa_le, fa_eq, fa_lt64, fa_le64, fa_eq64, Int32.toInt_toInt64, lsub1, Int32.reduceToInt, Int64.reduceToInt, Int32.toInt_zero, Int64.toInt_zero, ti_m1, ti_m2, ti_m3, ti_m4, ti_m9] at *) <;> omega) (br_f (by (try simp only [fa_lt, fa_le, fa_eq, fa_lt64, fa_le64, fa_eq64, Int32.toInt_toInt64, lsub1, Int32.reduceToInt, Int64.reduceToInt, Int32.toInt_zero, Int64.toInt_zero, ti_m1, ti_m2, ti_m3, ti_m4, ti_m9] at *) <;> omega) ?_)
    rcases pk_ix x1 (n := 3) (by omega) with g | g | ⟨k, hk, rfl⟩
    · refine br_t g ?_
      apply eX6_vote
      rw [hm.w]
      exact br_f (by (try simp only [fa_lt, fa_le, fa_eq, fa_lt64, fa_le64, fa_eq64, Int32.toInt_toInt64, lsub1, Int32.reduceToInt, Int64.reduceToInt, Int32.toInt_zero, Int64.toInt_zero, ti_m1, ti_m2, ti_m3, ti_m4, ti_m9] at *) <;> omega) (br_f (by (try simp only [fa_lt, fa_le, fa_eq, fa_lt64, fa_le64, fa_eq64, Int32.toInt_toInt64, lsub1, Int32.reduceToInt, Int64.reduceToInt, Int32.toInt_zero, Int64.toInt_zero, ti_m1, ti_m2, ti_m3, ti_m4, ti_m9] at *) <;> omega) (br_t (by (try simp only [fa_lt, fa_le, fa_eq, fa_lt64, fa_le64, fa_eq64, Int32.toInt_toInt64, lsub1, Int32.reduceToInt, Int64.reduceToInt, Int32.toInt_zero, Int64.toInt_zero, ti_m1, ti_m2, ti_m3, ti_m4, ti_m9] at *) <;> omega) ⟨rfl, hI⟩))
    · have g : (3 : Int32) ≤ x1 := g
      refine br_f (by (try simp only [fa_lt, fa_le, fa_eq, fa_lt64, fa_le64, fa_eq64, Int32.toInt_toInt64, lsub1, Int32.reduceToInt, Int64.reduceToInt, Int32.toInt_zero, Int64.toInt_zero, ti_m1, ti_m2, ti_m3, ti_m4, ti_m9] at *) <;> omega) (br_t g ?_)
      apply eX6_vote
      rw [hm.w]
      exact br_f (by (try simp only [fa_lt, fa_le, fa_eq, fa_lt64, fa_le64, fa_eq64, Int32.toInt_toInt64, lsub1, Int32.reduceToInt, Int64.reduceToInt, Int32.toInt_zero, Int64.toInt_zero, ti_m1, ti_m2, ti_m3, ti_m4, ti_m9] at *) <;> omega) (br_f (by (try simp only [fa_lt, fa_le, fa_eq, fa_lt64, fa_le64, fa_eq64, Int32.toInt_toInt64, lsub1, Int32.reduceToInt, Int64.reduceToInt, Int32.toInt_zero, Int64.toInt_zero, ti_m1, ti_m2, ti_m3, ti_m4, ti_m9] at *) <;> omega) (br_f (by (try simp only [fa_lt, fa_le, fa_eq, fa_lt64, fa_le64, fa_eq64, Int32.toInt_toInt64, lsub1, Int32.reduceToInt, Int64.reduceToInt, Int32.toInt_zero, Int64.toInt_zero, ti_m1, ti_m2, ti_m3, ti_m4, ti_m9] at *) <;> omega) (br_t (by (try simp only [fa_lt, fa_le, fa_eq, fa_lt64, fa_le64, fa_eq64, Int32.toInt_toInt64, lsub1, Int32.reduceToInt, Int64.reduceToInt, Int32.toInt_zero, Int64.toInt_zero, ti_m1, ti_m2, ti_m3, ti_m4, ti_m9] at *) <;> omega) ⟨rfl, hI⟩)))
    · have tk := nI_toInt (n := k) (by omega)
      refine br_f (by (try simp only [fa_lt, fa_le, fa_eq, fa_lt64, fa_le64, fa_eq64, Int32.toInt_toInt64, lsub1, Int32.reduceToInt, Int64.reduceToInt, Int32.toInt_zero, Int64.toInt_zero, ti_m1, ti_m2, ti_m3, ti_m4, ti_m9] at *) <;> omega) (br_f (by (try simp only [fa_lt, fa_le, fa_eq, fa_lt64, fa_le64, fa_eq64, Int32.toInt_toInt64, lsub1, Int32.reduceToInt, Int64.reduceToInt, Int32.toInt_zero, Int64.toInt_zero, ti_m1, ti_m2, ti_m3, ti_m4, ti_m9] at *) <;> omega) ?_)
      by_cases h8 : mN M = 8
      · refine br_f (by (try simp only [fa_lt, fa_le, fa_eq, fa_lt64, fa_le64, fa_eq64, Int32.toInt_toInt64, lsub1, Int32.reduceToInt, Int64.reduceToInt, Int32.toInt_zero, Int64.toInt_zero, ti_m1, ti_m2, ti_m3, ti_m4, ti_m9] at *) <;> omega) ?_
        apply eX6_vote
        rw [hm.w, hm.n]
        exact br_f (by (try simp only [fa_lt, fa_le, fa_eq, fa_lt64, fa_le64, fa_eq64, Int32.toInt_toInt64, lsub1, Int32.reduceToInt, Int64.reduceToInt, Int32.toInt_zero, Int64.toInt_zero, ti_m1, ti_m2, ti_m3, ti_m4, ti_m9] at *) <;> omega) (br_f (by (try simp only [fa_lt, fa_le, fa_eq, fa_lt64, fa_le64, fa_eq64, Int32.toInt_toInt64, lsub1, Int32.reduceToInt, Int64.reduceToInt, Int32.toInt_zero, Int64.toInt_zero, ti_m1, ti_m2, ti_m3, ti_m4, ti_m9] at *) <;> omega) (br_f (by (try simp only [fa_lt, fa_le, fa_eq, fa_lt64, fa_le64, fa_eq64, Int32.toInt_toInt64, lsub1, Int32.reduceToInt, Int64.reduceToInt, Int32.toInt_zero, Int64.toInt_zero, ti_m1, ti_m2, ti_m3, ti_m4, ti_m9] at *) <;> omega) (br_f (by (try simp only [fa_lt, fa_le, fa_eq, fa_lt64, fa_le64, fa_eq64, Int32.toInt_toInt64, lsub1, Int32.reduceToInt, Int64.reduceToInt, Int32.toInt_zero, Int64.toInt_zero, ti_m1, ti_m2, ti_m3, ti_m4, ti_m9] at *) <;> omega) ⟨fun q => absurd (by rw [h8]; rfl) q, fun _ => ⟨rfl, hI⟩⟩)))
      · refine br_t (by (try simp only [fa_lt, fa_le, fa_eq, fa_lt64, fa_le64, fa_eq64, Int32.toInt_toInt64, lsub1, Int32.reduceToInt, Int64.reduceToInt, Int32.toInt_zero, Int64.toInt_zero, ti_m1, ti_m2, ti_m3, ti_m4, ti_m9] at *) <;> omega) ⟨pk_in (mN M) 8 (by omega), pk_in (mN M) 8 (by omega), ?_⟩
        apply eX6_vote
        rw [show (sI (sI (sI S 5 (nI (mN M)).toNatClampNeg (nI k)) 6 (nI (mN M)).toNatClampNeg (nI j)) 4 2 (nI (mN M) + 1)).1 34 = S.1 34 from rfl, hm.w, hm.n]
        have e8 : ¬ nI (mN M) = 8 := (by (try simp only [fa_lt, fa_le, fa_eq, fa_lt64, fa_le64, fa_eq64, Int32.toInt_toInt64, lsub1, Int32.reduceToInt, Int64.reduceToInt, Int32.toInt_zero, Int64.toInt_zero, ti_m1, ti_m2, ti_m3, ti_m4, ti_m9] at *) <;> omega)
        refine br_f (by (try simp only [fa_lt, fa_le, fa_eq, fa_lt64, fa_le64, fa_eq64, Int32.toInt_toInt64, lsub1, Int32.reduceToInt, Int64.reduceToInt, Int32.toInt_zero, Int64.toInt_zero, ti_m1, ti_m2, ti_m3, ti_m4, ti_m9] at *) <;> omega) (br_f (by (try simp only [fa_lt, fa_le, fa_eq, fa_lt64, fa_le64, fa_eq64, Int32.toInt_toInt64, lsub1, Int32.reduceToInt, Int64.reduceToInt, Int32.toInt_zero, Int64.toInt_zero, ti_m1, ti_m2, ti_m3, ti_m4, ti_m9] at *) <;> omega) (br_f (by (try simp only [fa_lt, fa_le, fa_eq, fa_lt64, fa_le64, fa_eq64, Int32.toInt_toInt64, lsub1, Int32.reduceToInt, Int64.reduceToInt, Int32.toInt_zero, Int64.toInt_zero, ti_m1, ti_m2, ti_m3, ti_m4, ti_m9] at *) <;> omega) (br_f (by (try simp only [fa_lt, fa_le, fa_eq, fa_lt64, fa_le64, fa_eq64, Int32.toInt_toInt64, lsub1, Int32.reduceToInt, Int64.reduceToInt, Int32.toInt_zero, Int64.toInt_zero, ti_m1, ti_m2, ti_m3, ti_m4, ti_m9] at *) <;> omega) ⟨fun _ => ⟨pk_in (mN M) 8 (by omega), pk_in (mN M) 8 (by omega), ?_, ?_⟩, fun q => absurd q e8⟩)))
        · rw [nI_1, nI_pred]
        · rw [pk_cl (mN M), nI_1]
          obtain ⟨a1, a2, a3, a4, a5, a6⟩ := hM
          refine ⟨(mH M, mW M, mT M, mS M, mP M, mN M + 1, (fun v => if v = mN M then k else mK M v), (fun v => if v = mN M then j else mC M v)), ⟨a1, a2, a3, a4, by show mN M + 1 ≤ 8; omega, fun v hv => ?_⟩, ⟨hC.1, hC.2.1, hC.2.2.1, rfl, hC.2.2.2.2.1, hC.2.2.2.2.2.1, fun v hv => ?_, fun v hv => ?_⟩, ⟨hm.1, hm.2.1, hm.2.2.1, rfl, hm.2.2.2.2.1, hm.2.2.2.2.2.1, fun v hv => ?_, fun v hv => ?_⟩, hs, ht, hf⟩
          · have hv : v < mN M + 1 := hv
            show (if v = mN M then k else mK M v) ≤ 2 ∧ (if v = mN M then j else mC M v) < mW M
            by_cases hvv : v = mN M
            · rw [if_pos hvv, if_pos hvv]
              exact ⟨by omega, hj⟩
            · rw [if_neg hvv, if_neg hvv]
              exact a6 v (by omega)
          · have hv : v < mN M + 1 := hv
            show upd (S.1 5) (mN M) (nI k) v = nI (if v = mN M then k else mK M v)
            unfold upd
            split
            · rfl
            · exact hC.kd (by omega)
          · have hv : v < mN M + 1 := hv
            show upd (S.1 6) (mN M) (nI j) v = nI (if v = mN M then j else mC M v)
            unfold upd
            split
            · rfl
            · exact hC.co (by omega)
          · have hv : v < mN M + 1 := hv
            show upd (S.1 39) (mN M) (nI k) v = nI (if v = mN M then k else mK M v)
            unfold upd
            split
            · rfl
            · exact hm.kd (by omega)
          · have hv : v < mN M + 1 := hv
            show upd (S.1 40) (mN M) (nI j) v = nI (if v = mN M then j else mC M v)
            unfold upd
            split
            · rfl
            · exact hm.co (by omega)
set_option maxRecDepth 100000 in
set_option maxHeartbeats 4000000 in
theorem ok_back (x1 : Int32) : OKI mdX5_back mdX6_back [.ref 0, .int x1] [.ref 34, .int x1] := by
  intro S hI
  obtain ⟨M, hM, hC, hm, hs, ht, hf⟩ := id hI
  have n8 := hM.n8
  have tn := nI_toInt (n := mN M) (by omega)
  apply eX5_back
  rw [hC.n]
  rcases pk_ix x1 (n := mN M + 1) (by omega) with h | h | ⟨j, hj, rfl⟩
  · refine br_t h ?_
    apply eX6_back
    rw [hm.n]
    exact br_t (by (try simp only [fa_lt, fa_le, fa_eq, fa_lt64, fa_le64, fa_eq64, Int32.toInt_toInt64, lsub1, Int32.reduceToInt, Int64.reduceToInt, Int32.toInt_zero, Int64.toInt_zero, ti_m1, ti_m2, ti_m3, ti_m4, ti_m9] at *) <;> omega) ⟨rfl, hI⟩
  · have tn1 := nI_toInt (n := mN M + 1) (by omega)
    refine br_f (by (try simp only [fa_lt, fa_le, fa_eq, fa_lt64, fa_le64, fa_eq64, Int32.toInt_toInt64, lsub1, Int32.reduceToInt, Int64.reduceToInt, Int32.toInt_zero, Int64.toInt_zero, ti_m1, ti_m2, ti_m3, ti_m4, ti_m9] at *) <;> omega) (br_f (by (try simp only [fa_lt, fa_le, fa_eq, fa_lt64, fa_le64, fa_eq64, Int32.toInt_toInt64, lsub1, Int32.reduceToInt, Int64.reduceToInt, Int32.toInt_zero, Int64.toInt_zero, ti_m1, ti_m2, ti_m3, ti_m4, ti_m9] at *) <;> omega) ?_)
    apply eX6_back
    rw [hm.n]
    exact br_f (by (try simp only [fa_lt, fa_le, fa_eq, fa_lt64, fa_le64, fa_eq64, Int32.toInt_toInt64, lsub1, Int32.reduceToInt, Int64.reduceToInt, Int32.toInt_zero, Int64.toInt_zero, ti_m1, ti_m2, ti_m3, ti_m4, ti_m9] at *) <;> omega) (br_t (by (try simp only [fa_lt, fa_le, fa_eq, fa_lt64, fa_le64, fa_eq64, Int32.toInt_toInt64, lsub1, Int32.reduceToInt, Int64.reduceToInt, Int32.toInt_zero, Int64.toInt_zero, ti_m1, ti_m2, ti_m3, ti_m4, ti_m9] at *) <;> omega) ⟨rfl, hI⟩)
  · have tj := nI_toInt (n := j) (by omega)
    refine br_f (by (try simp only [fa_lt, fa_le, fa_eq, fa_lt64, fa_le64, fa_eq64, Int32.toInt_toInt64, lsub1, Int32.reduceToInt, Int64.reduceToInt, Int32.toInt_zero, Int64.toInt_zero, ti_m1, ti_m2, ti_m3, ti_m4, ti_m9] at *) <;> omega) (br_t (by (try simp only [fa_lt, fa_le, fa_eq, fa_lt64, fa_le64, fa_eq64, Int32.toInt_toInt64, lsub1, Int32.reduceToInt, Int64.reduceToInt, Int32.toInt_zero, Int64.toInt_zero, ti_m1, ti_m2, ti_m3, ti_m4, ti_m9] at *) <;> omega) ?_)
    apply eX6_back
    rw [show (sI S 4 2 (nI (mN M) - nI j)).1 34 = S.1 34 from rfl, hm.n, pk_sub (by omega)]
    refine br_f (by (try simp only [fa_lt, fa_le, fa_eq, fa_lt64, fa_le64, fa_eq64, Int32.toInt_toInt64, lsub1, Int32.reduceToInt, Int64.reduceToInt, Int32.toInt_zero, Int64.toInt_zero, ti_m1, ti_m2, ti_m3, ti_m4, ti_m9] at *) <;> omega) (br_f (by (try simp only [fa_lt, fa_le, fa_eq, fa_lt64, fa_le64, fa_eq64, Int32.toInt_toInt64, lsub1, Int32.reduceToInt, Int64.reduceToInt, Int32.toInt_zero, Int64.toInt_zero, ti_m1, ti_m2, ti_m3, ti_m4, ti_m9] at *) <;> omega) ⟨rfl, ?_⟩)
    obtain ⟨a1, a2, a3, a4, a5, a6⟩ := hM
    exact ⟨(mH M, mW M, mT M, mS M, mP M, mN M - j, mK M, mC M), ⟨a1, a2, a3, a4, by show mN M - j ≤ 8; omega, fun v (hv : v < mN M - j) => a6 v (by omega)⟩, ⟨hC.1, hC.2.1, hC.2.2.1, rfl, hC.2.2.2.2.1, hC.2.2.2.2.2.1, fun v (hv : v < mN M - j) => hC.kd (by omega), fun v (hv : v < mN M - j) => hC.co (by omega)⟩, ⟨hm.1, hm.2.1, hm.2.2.1, rfl, hm.2.2.2.2.1, hm.2.2.2.2.2.1, fun v (hv : v < mN M - j) => hm.kd (by omega), fun v (hv : v < mN M - j) => hm.co (by omega)⟩, hs, ht, hf⟩
