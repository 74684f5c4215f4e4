/-! ===== the reference reads a text ===== -/
def FH (S T : St) : Prop := T.2 = S.2 ∧ (∀ q, q ≠ 34 → q ≠ 37 → q ≠ 38 → T.1 q = S.1 q) ∧ (∀ i, i ≠ 6 → i ≠ 7 → i ≠ 8 → T.1 34 i = S.1 34 i)
theorem FH.one {S : St} : FH S S := ⟨rfl, fun _ _ _ _ => rfl, fun _ _ _ _ => rfl⟩
theorem FH.tr {S T U : St} (h : FH S T) (g : FH T U) : FH S U := ⟨g.1.trans h.1, fun q a b c => (g.2.1 q a b c).trans (h.2.1 q a b c), fun i a b c => (g.2.2 i a b c).trans (h.2.2 i a b c)⟩
theorem FH.put {S T : St} (h : FH S T) {p k : Nat} {v : Int32} (e : p = 37 ∨ p = 38 ∨ (p = 34 ∧ (k = 6 ∨ k = 7 ∨ k = 8))) : FH S (sI T p k v) := by
  refine ⟨h.1, fun q a b c => ?_, fun i a b c => ?_⟩
  · rw [sI_ne _ _ _ (by omega)]
    exact h.2.1 q a b c
  · rw [sI_o (by omega)]
    exact h.2.2 i a b c
/-- what is read at a place -/
def fd (cd : Nat → Int32) (n q : Nat) : Int32 := if q < n then cd q else -9
def RD (S : St) (cd : Nat → Int32) (b n : Nat) : Prop := b + n ≤ 240 ∧ ∀ q, q < n → S.1 49 (b + q) = cd q
theorem RD.fh {S T : St} {cd : Nat → Int32} {b n : Nat} (h : RD S cd b n) (f : FH S T) : RD T cd b n := ⟨h.1, fun q hq => by rw [f.2.1 49 (by decide) (by decide) (by decide)]; exact h.2 q hq⟩
set_option maxRecDepth 100000 in
set_option maxHeartbeats 4000000 in
theorem c_codeAt {S : St} {cd : Nat → Int32} {b n q : Nat} {Q : Int32 → St → Prop} (hR : RD S cd b n) (hq : q ≤ n) (e : S.1 34 6 = nI q) (h : Q (fd cd n q) S) : CallV mdX6_codeAt [.ref 34, .int (nI b), .int (nI n)] S (qI Q) := by
  have hb := hR.1
  unfold fd at h
  apply eX6_codeAt
  rw [e, nI_leI (by omega) (by omega), nI_add, nI_clamp (n := b + q) (by omega)]
  refine ⟨fun z => ?_, fun z => ⟨pk_in _ 240 (show b + q < 240 by omega), ?_⟩⟩
  · rw [if_neg (by omega)] at h
    exact h
  · rw [if_pos (by omega)] at h
    rw [hR.2 q (by omega)]
    exact h
theorem fig_i {x : Int32} : (x - 48).toInt = x.toInt - 48 ∨ (1000 < (x - 48).toInt ∧ x.toInt < 0) := by
  have a := Int32.toInt_lt x
  have b := Int32.le_toInt x
  rw [Int32.toInt_sub, show (48 : Int32).toInt = 48 from rfl]
  rw [Int.bmod_def]
  have m1 : ((2 ^ 32 : Nat) : Int) = 4294967296 := rfl
  rw [m1]
  split <;> omega
set_option maxRecDepth 100000 in
set_option maxHeartbeats 4000000 in
theorem c_figure {S : St} {cd : Nat → Int32} {b n q lo hi : Nat} {Q : Int32 → St → Prop} (hR : RD S cd b n) (hq : q ≤ n) (e : S.1 34 6 = nI q) (hh : hi ≤ 100) (hl : lo ≤ 100) (h1 : q < n → fg lo hi (cd q) → Q (nI ((cd q).toInt - 48).toNat) (sI S 34 6 (nI (q + 1)))) (h0 : ¬ (q < n ∧ fg lo hi (cd q)) → Q (-9) (sI S 34 6 (nI q))) : CallV mdX6_figure [.ref 34, .int (nI b), .int (nI n), .int (nI lo), .int (nI hi)] S (qI Q) := by
  have tl := nI_toInt (n := lo) (by omega)
  have th := nI_toInt (n := hi) (by omega)
  have ts := Int32.toInt_toInt64 (fd cd n q - 48)
  have tl2 := Int32.toInt_toInt64 (nI lo)
  have th2 := Int32.toInt_toInt64 (nI hi)
  have fi := fig_i (x := fd cd n q)
  have hb := hR.1
  apply eX6_figure
  refine c_codeAt hR hq e ?_
  rw [e, Int32.add_zero, nI_1, fa_lt64, fa_lt64, ts, tl2, th2, tl, th]
  unfold fg at h1 h0
  by_cases qn : q < n
  · have ef : fd cd n q = cd q := if_pos qn
    rw [ef] at fi ⊢
    refine ⟨fun z => h0 (fun y => by omega), fun z => ⟨fun z2 => h0 (fun y => by omega), fun z2 => ?_⟩⟩
    have := h1 qn (by omega)
    rw [show cd q - 48 = nI ((cd q).toInt - 48).toNat by rw [fa_eq, nI_toInt (by omega)]; omega]
    exact this
  · have ef : fd cd n q = -9 := if_neg qn
    rw [ef]
    have e57 : ((-9 : Int32) - 48).toInt = -57 := by decide
    rw [e57]
    exact br_t (by omega) (h0 (fun y => qn y.1))
set_option maxRecDepth 100000 in
set_option maxHeartbeats 4000000 in
theorem c_readsCell {S : St} {cd : Nat → Int32} {b n q c : Nat} {Q : Int32 → St → Prop} (hR : RD S cd b n) (hq : q ≤ n) (e : S.1 34 6 = nI q) (hc : c < 30) (h1 : q < n → sgn (cd q) ≤ 4 → Q 1 (sI (sI S 38 c (nI (sgn (cd q)))) 34 6 (nI (q + 1)))) (h0 : ¬ (q < n ∧ sgn (cd q) ≤ 4) → ∀ v, Q 0 (sI (sI S 38 c v) 34 6 (nI q))) : CallV mdX6_readsCell [.ref 34, .int (nI b), .int (nI n), .int (nI c)] S (qI Q) := by
  have g := pk_in (x := nI c) c 30 hc rfl
  apply eX6_readsCell
  refine c_codeAt hR hq e (c_signBy (fun z => ⟨g, g, br_f ?_ ?_⟩) (fun z => ⟨g, g, br_t (by decide) ?_⟩))
  · rw [fa_lt, nI_toInt (by omega)]
    have : (0 : Int32).toInt = 0 := rfl
    omega
  · have qn : q < n := by
      rcases Nat.lt_or_ge q n with y | y
      · exact y
      · unfold fd at z
        rw [if_neg (by omega)] at z
        exact absurd z (by decide)
    have ef : fd cd n q = cd q := if_pos qn
    rw [ef] at z ⊢
    rw [nI_clamp (n := c) (by omega), e, nI_1]
    exact h1 qn z
  · rw [nI_clamp (n := c) (by omega), e, Int32.add_zero]
    refine h0 (fun y => z ?_) _
    have ef : fd cd n q = cd q := if_pos y.1
    rw [ef]
    exact y.2
theorem gd_party {cd : Nat → Int32} {p : Nat} (h3 : 3 ≤ p) (h : p < 3 + tC cd) : gd cd p ↔ fg 0 3 (cd p) := ⟨fun g => g.2.2.2.1 h3 h, fun g => ⟨fun _ => by omega, fun _ => by omega, fun _ => by omega, fun _ _ => g, fun _ _ => by omega⟩⟩
theorem ps_lt {cd : Nat → Int32} {r u p : Nat} (hr : r < tR cd) (hu : u < tC cd + 1) (hp : p = 3 + tC cd + (r * (tC cd + 1) + u)) : p < tL cd := by
  have := rw_lt (w := tC cd + 1) hr hu
  unfold tL
  omega
theorem gd_semi {cd : Nat → Int32} {r p : Nat} (hr : r < tR cd) (hp : p = 3 + tC cd + r * (tC cd + 1)) : gd cd p ↔ cd p = 59 := by
  have hl := ps_lt (u := 0) hr (Nat.succ_pos _) (p := p) (by omega)
  have hm : (p - 3 - tC cd) % (tC cd + 1) = 0 := by
    rw [show p - 3 - tC cd = r * (tC cd + 1) + 0 by omega, rw_mod (Nat.succ_pos _)]
  exact ⟨fun g => (g.2.2.2.2 (by omega) (by omega)).2.1 hm, fun g => ⟨fun _ => by omega, fun _ => by omega, fun _ => by omega, fun _ _ => by omega, fun _ _ => ⟨hl, fun _ => g, fun z => absurd hm z⟩⟩⟩
theorem gd_sign {cd : Nat → Int32} {r j p : Nat} (hr : r < tR cd) (hj : j < tC cd) (hp : p = 3 + tC cd + (r * (tC cd + 1) + (1 + j))) : gd cd p ↔ sgn (cd p) ≤ 4 := by
  have hl := ps_lt (u := 1 + j) hr (by omega) hp
  have hm : ¬ (p - 3 - tC cd) % (tC cd + 1) = 0 := by
    rw [show p - 3 - tC cd = r * (tC cd + 1) + (1 + j) by omega, rw_mod (by omega)]
    omega
  exact ⟨fun g => (g.2.2.2.2 (by omega) (by omega)).2.2 hm, fun g => ⟨fun _ => by omega, fun _ => by omega, fun _ => by omega, fun _ _ => by omega, fun _ _ => ⟨hl, fun z => absurd z hm, fun _ => g⟩⟩⟩
theorem FF_no {cd : Nat → Int32} {n q : Nat} (h : FF cd n q) (hq : q < tL cd) : ¬ GT cd n := fun g => by
  have := FF_one h ⟨g.2, Or.inl rfl⟩
  have := g.1
  omega
theorem GU_le {cd : Nat → Int32} {n q : Nat} (h : GU cd n q) : q ≤ n := by
  rcases Nat.eq_zero_or_pos q with z | z
  · omega
  · have := (h (q - 1) (by omega)).1
    omega
theorem FF_of {cd : Nat → Int32} {n q : Nat} (h : GU cd n q) (hb : ¬ (q < n ∧ gd cd q)) : FF cd n q := by
  refine ⟨h, ?_⟩
  have := GU_le h
  rcases Nat.lt_or_ge q n with z | z
  · exact Or.inr (fun y => hb ⟨z, y⟩)
  · exact Or.inl (by omega)
/-- the sign of a cell, by the text -/
def tS (cd : Nat → Int32) (c : Nat) : Nat := sgn (cd (3 + tC cd + (c / tC cd * (tC cd + 1) + (1 + c % tC cd))))
def tP (cd : Nat → Int32) (t : Nat) : Nat := ((cd (3 + t)).toInt - 48).toNat
def tB (cd : Nat → Int32) (c : Nat) : Nat := 3 + tC cd + (c / tC cd * (tC cd + 1) + (if c % tC cd = 0 then 0 else 1 + c % tC cd))
def BAD (S : St) (cd : Nat → Int32) (n : Nat) (Q : Int32 → St → Prop) : Prop := ∀ q T, FF cd n q → ¬ GT cd n → q ≤ n → FH S T → T.1 34 6 = nI q → Q 0 T
def FIN (S : St) (cd : Nat → Int32) (n : Nat) (Q : Int32 → St → Prop) : Prop := GT cd n → ∀ T, FH S T → T.1 34 7 = nI (tR cd) → T.1 34 8 = nI (tC cd) → (∀ t, t < tC cd → T.1 37 t = nI (tP cd t)) → (∀ c, c < tR cd * tC cd → T.1 38 c = nI (tS cd c)) → Q 1 T
set_option maxRecDepth 100000 in
set_option maxHeartbeats 4000000 in
theorem bad155 {S T : St} {cd : Nat → Int32} {n q : Nat} {Q : Int32 → St → Prop} {x1 x2 x4 : Int32} (hB : BAD S cd n Q) (hF : FF cd n q) (hl : q < tL cd) (f : FH S T) (e : T.1 34 6 = nI q) : V mdX6_readsHill 155 [some (.ref 34), some (.int x1), some (.int x2), some (.int 0), some (.int x4)] [] T (qI Q) := by
  apply eX6_readsHill_155
  exact br_t rfl (br_t rfl (hB q T hF (FF_no hF hl) (GU_le hF.1) f e))
set_option maxRecDepth 100000 in
set_option maxHeartbeats 4000000 in
theorem bad102 {S T : St} {cd : Nat → Int32} {n q : Nat} {Q : Int32 → St → Prop} {x1 x2 x4 : Int32} (hB : BAD S cd n Q) (hF : FF cd n q) (hl : q < tL cd) (f : FH S T) (e : T.1 34 6 = nI q) : V mdX6_readsHill 102 [some (.ref 34), some (.int x1), some (.int x2), some (.int 0), some (.int x4)] [] T (qI Q) := by
  apply eX6_readsHill_102
  exact br_t rfl (bad155 hB hF hl f e)
