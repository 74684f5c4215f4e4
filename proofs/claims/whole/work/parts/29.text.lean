/-! ===== the text of a hill ===== -/
def sgn (x : Int32) : Nat := if x = 35 then 4 else if x = 46 then 0 else if x = 108 then 2 else if x = 112 then 1 else if x = 114 then 3 else 9
theorem sgn_9 {x : Int32} (h : ¬ sgn x ≤ 4) : ¬ x = 35 ∧ ¬ x = 46 ∧ ¬ x = 108 ∧ ¬ x = 112 ∧ ¬ x = 114 := by
  unfold sgn at h
  refine ⟨fun z => ?_, fun z => ?_, fun z => ?_, fun z => ?_, fun z => ?_⟩ <;> rw [z] at h <;> exact h (by decide)
set_option maxRecDepth 100000 in
set_option maxHeartbeats 4000000 in
theorem c_signOf {x : Int32} {S : St} {Q : Int32 → St → Prop} (h1 : sgn x ≤ 4 → Q (nI (sgn x)) S) (h0 : ¬ sgn x ≤ 4 → Q (-1) S) : CallV mdX2_signOf [.int x] S (qI Q) := by
  apply eX2_signOf
  refine ⟨fun a => ?_, fun a => ⟨fun b => ?_, fun b => ⟨fun c => ?_, fun c => ⟨fun d => ?_, fun d => ⟨fun e => ?_, fun e => h0 ?_⟩⟩⟩⟩⟩
  · subst a
    exact h1 (by decide)
  · subst b
    exact h1 (by decide)
  · subst c
    exact h1 (by decide)
  · subst d
    exact h1 (by decide)
  · subst e
    exact h1 (by decide)
  · unfold sgn
    rw [if_neg a, if_neg b, if_neg c, if_neg d, if_neg e]
    omega
set_option maxRecDepth 100000 in
set_option maxHeartbeats 4000000 in
theorem c_signBy {x : Int32} {S : St} {Q : Int32 → St → Prop} (h1 : sgn x ≤ 4 → Q (nI (sgn x)) S) (h0 : ¬ sgn x ≤ 4 → Q (-9) S) : CallV mdX6_signBy [.int x] S (qI Q) := by
  apply eX6_signBy
  refine ⟨fun a => ?_, fun a => ⟨fun b => ?_, fun b => ⟨fun c => ?_, fun c => ⟨fun d => ?_, fun d => ⟨fun e => ?_, fun e => h0 ?_⟩⟩⟩⟩⟩
  · subst a
    exact h1 (by decide)
  · subst b
    exact h1 (by decide)
  · subst c
    exact h1 (by decide)
  · subst d
    exact h1 (by decide)
  · subst e
    exact h1 (by decide)
  · unfold sgn
    rw [if_neg a, if_neg b, if_neg c, if_neg d, if_neg e]
    omega
def tR (cd : Nat → Int32) : Nat := ((cd 1).toInt - 48).toNat
def tC (cd : Nat → Int32) : Nat := ((cd 2).toInt - 48).toNat
def tL (cd : Nat → Int32) : Nat := 3 + tC cd + tR cd * (tC cd + 1)
def fg (lo hi : Int) (x : Int32) : Prop := lo ≤ x.toInt - 48 ∧ x.toInt - 48 ≤ hi
def gd (cd : Nat → Int32) (p : Nat) : Prop :=
  (p = 0 → cd 0 = 109) ∧ (p = 1 → fg 1 5 (cd 1)) ∧ (p = 2 → fg 2 6 (cd 2)) ∧ (3 ≤ p → p < 3 + tC cd → fg 0 3 (cd p)) ∧ (3 ≤ p → 3 + tC cd ≤ p → p < tL cd ∧ ((p - 3 - tC cd) % (tC cd + 1) = 0 → cd p = 59) ∧ (¬ (p - 3 - tC cd) % (tC cd + 1) = 0 → sgn (cd p) ≤ 4))
def GU (cd : Nat → Int32) (n q : Nat) : Prop := ∀ p, p < q → p < n ∧ gd cd p
def FF (cd : Nat → Int32) (n q : Nat) : Prop := GU cd n q ∧ (q = n ∨ ¬ gd cd q)
def GT (cd : Nat → Int32) (n : Nat) : Prop := n = tL cd ∧ GU cd n n
theorem FF_one {cd : Nat → Int32} {n q q' : Nat} (h : FF cd n q) (h' : FF cd n q') : q = q' := by
  rcases Nat.lt_trichotomy q q' with z | z | z
  · obtain ⟨a, b⟩ := h'.1 q z
    rcases h.2 with e | e
    · omega
    · exact absurd b e
  · exact z
  · obtain ⟨a, b⟩ := h.1 q' z
    rcases h'.2 with e | e
    · omega
    · exact absurd b e
theorem GU_1 {cd : Nat → Int32} {n q : Nat} (h : GU cd n q) (hq : 2 ≤ q) : 1 ≤ tR cd ∧ tR cd ≤ 5 ∧ cd 1 = nI (48 + tR cd) := by
  have := (h 1 (by omega)).2.2.1 rfl
  unfold fg at this
  have e : tR cd = ((cd 1).toInt - 48).toNat := rfl
  refine ⟨by omega, by omega, ?_⟩
  rw [fa_eq, nI_toInt (by omega)]
  omega
theorem GU_2 {cd : Nat → Int32} {n q : Nat} (h : GU cd n q) (hq : 3 ≤ q) : 2 ≤ tC cd ∧ tC cd ≤ 6 ∧ cd 2 = nI (48 + tC cd) := by
  have := (h 2 (by omega)).2.2.2.1 rfl
  unfold fg at this
  have e : tC cd = ((cd 2).toInt - 48).toNat := rfl
  refine ⟨by omega, by omega, ?_⟩
  rw [fa_eq, nI_toInt (by omega)]
  omega
theorem GU_s {cd : Nat → Int32} {n q : Nat} (h : GU cd n q) (hq : q < n) (hg : gd cd q) : GU cd n (q + 1) := fun p hp => by
  by_cases z : p = q
  · subst z
    exact ⟨hq, hg⟩
  · exact h p (by omega)
theorem tL_le {r c : Nat} (hr : r ≤ 5) (hc : c ≤ 6) : 3 + c + r * (c + 1) ≤ 44 := by
  have := Nat.mul_le_mul hr (show c + 1 ≤ 7 by omega)
  omega
theorem i48 : (48 : Int32).toInt = 48 ∧ (49 : Int32).toInt = 49 ∧ (50 : Int32).toInt = 50 ∧ (52 : Int32).toInt = 52 ∧ (53 : Int32).toInt = 53 ∧ (54 : Int32).toInt = 54 ∧ (0 : Int32).toInt = 0 := ⟨rfl, rfl, rfl, rfl, rfl, rfl, rfl⟩
set_option maxRecDepth 100000 in
set_option maxHeartbeats 4000000 in
theorem c_goesOnX {cd : Nat → Int32} {n p : Nat} {S : St} {Q : Int32 → St → Prop} {x2 x3 : Int32} (hG : GU cd n p) (hp : p < 60) (h2 : 3 ≤ p → x2 = nI (tR cd)) (h3 : 3 ≤ p → x3 = nI (tC cd)) (h1 : gd cd p → Q 1 S) (h0 : ¬ gd cd p → Q 0 S) : CallV mdX2_goesOn [.int (nI p), .int (cd p), .int x2, .int x3] S (qI Q) := by
  obtain ⟨i1, i2, i3, i4, i5, i6, i7⟩ := i48
  apply eX2_goesOn
  by_cases p0 : p = 0
  · subst p0
    refine br_t rfl ⟨fun q => h0 (fun z => q (z.1 rfl)), fun q => h1 ⟨fun _ => q, fun z => absurd z (by decide), fun z => absurd z (by decide), fun z => absurd z (by decide), fun z => absurd z (by decide)⟩⟩
  refine br_f (by rw [fa_lit 0, nI_eq (by omega) (by omega)]; exact p0) ?_
  by_cases p1 : p = 1
  · subst p1
    refine br_t rfl ⟨fun q => h0 (fun z => ?_), fun q => ⟨fun q2 => h0 (fun z => ?_), fun q2 => h1 ⟨fun z => absurd z (by decide), fun _ => ?_, fun z => absurd z (by decide), fun z => absurd z (by decide), fun z => absurd z (by decide)⟩⟩⟩
    · have := z.2.1 rfl
      unfold fg at this
      rw [fa_lt] at q
      omega
    · have := z.2.1 rfl
      unfold fg at this
      rw [fa_lt] at q2
      omega
    · unfold fg
      rw [fa_lt] at q q2
      omega
  refine br_f (by rw [fa_lit 1, nI_eq (by omega) (by omega)]; exact p1) ?_
  by_cases p2 : p = 2
  · subst p2
    refine br_t rfl ⟨fun q => h0 (fun z => ?_), fun q => ⟨fun q2 => h0 (fun z => ?_), fun q2 => h1 ⟨fun z => absurd z (by decide), fun z => absurd z (by decide), fun _ => ?_, fun z => absurd z (by decide), fun z => absurd z (by decide)⟩⟩⟩
    · have := z.2.2.1 rfl
      unfold fg at this
      rw [fa_lt] at q
      omega
    · have := z.2.2.1 rfl
      unfold fg at this
      rw [fa_lt] at q2
      omega
    · unfold fg
      rw [fa_lt] at q q2
      omega
  refine br_f (by rw [fa_lit 2, nI_eq (by omega) (by omega)]; exact p2) ?_
  have hp3 : 3 ≤ p := by omega
  obtain ⟨r1, r5, _⟩ := GU_1 hG (by omega)
  obtain ⟨c2, c6, _⟩ := GU_2 hG hp3
  have l44 := tL_le r5 c6
  rw [h2 hp3, h3 hp3, fa_lit 3, pk_sub hp3]
  by_cases pc : p < 3 + tC cd
  · have ts := pk_sub_toInt (a := p - 3) (b := tC cd) (by omega) (by omega)
    refine br_f (by rw [fa_le, ts]; omega) ⟨fun q => h0 (fun z => ?_), fun q => ⟨fun q2 => h0 (fun z => ?_), fun q2 => h1 ⟨fun z => absurd z p0, fun z => absurd z p1, fun z => absurd z p2, fun _ _ => ?_, fun _ z => by omega⟩⟩⟩
    · have := z.2.2.2.1 hp3 pc
      unfold fg at this
      rw [fa_lt] at q
      omega
    · have := z.2.2.2.1 hp3 pc
      unfold fg at this
      rw [fa_le] at q2
      omega
    · unfold fg
      rw [fa_lt] at q
      rw [fa_le] at q2
      omega
  · rw [pk_sub (by omega)]
    refine br_t (nI_le (a := 0) (by omega) (by omega)) (br_f (nI_ge (a := 0) (by omega) (by omega)) ?_)
    rw [nI_1, nI_add, pk_mul, nI_add]
    have base : ∀ P : Prop, (gd cd p ↔ P) → (P → Q 1 S) ∧ (¬ P → Q 0 S) := fun P e => ⟨fun z => h1 (e.2 z), fun z => h0 (fun y => z (e.1 y))⟩
    by_cases pl : p < tL cd
    · refine br_t (nI_lt pl (by omega)) ⟨?_, ?_, ?_⟩
      · rw [fa_lit 0, nI_eq (by omega) (by omega)]
        omega
      · rw [pk_rem (by omega) (by omega) (by omega), fa_lit 0, nI_eq (by have := Nat.mod_lt (p - 3 - tC cd) (show 0 < tC cd + 1 by omega); omega) (by omega)]
        intro q
        refine c_signOf (fun z => br_f (by rw [fa_lt, nI_toInt (by omega), nI_toInt (by omega)]; omega) (h1 ⟨fun z => absurd z p0, fun z => absurd z p1, fun z => absurd z p2, fun _ z => absurd z pc, fun _ _ => ⟨pl, fun z => absurd z q, fun _ => z⟩⟩)) (fun z => br_t (by decide) (h0 (fun y => z ((y.2.2.2.2 hp3 (by omega)).2.2 q))))
      · rw [pk_rem (by omega) (by omega) (by omega), fa_lit 0, nI_eq (by have := Nat.mod_lt (p - 3 - tC cd) (show 0 < tC cd + 1 by omega); omega) (by omega)]
        intro q
        exact ⟨fun z => h0 (fun y => z ((y.2.2.2.2 hp3 (by omega)).2.1 q)), fun z => h1 ⟨fun z => absurd z p0, fun z => absurd z p1, fun z => absurd z p2, fun _ z => absurd z pc, fun _ _ => ⟨pl, fun _ => z, fun z => absurd q z⟩⟩⟩
    · refine br_f (fun z => ?_) (h0 (fun y => pl (y.2.2.2.2 hp3 (by omega)).1))
      rw [nI_ltI (by omega) (by omega)] at z
      unfold tL at pl
      omega
set_option maxRecDepth 100000 in
set_option maxHeartbeats 4000000 in
theorem ff9 {cd : Nat → Int32} {sp i n l : Nat} {S : St} {Q : Int32 → St → Prop} (hp : isSh sp) (hl : l ≤ 60) (hi : i + n ≤ l) (e1 : S.1 sp 1 = 1) (e3 : S.1 sp 3 = nI l) (ec : ∀ q, q < n → S.1 (sp + 1) (i + q) = cd q) (h1 : GT cd n → Q (-1) S) (h2 : ∀ q, FF cd n q → ¬ GT cd n → q ≤ n → Q (nI q) S) : ∀ d q, q + d = n → GU cd n q → V mdX2_firstFault 9 [none, some (.ref sp), some (.int (nI i)), some (.int (nI n)), some (.int (if q ≤ 1 then 0 else nI (tR cd))), some (.int (if q ≤ 2 then 0 else nI (tC cd))), some (.int (nI q)), none] [] S (qI Q) := by
  intro d
  induction d with
  | zero =>
    intro q hq hG
    have : q = n := by omega
    subst this
    apply eX2_firstFault_9 hp
    refine br_t (nI_le (Nat.le_refl _) (by omega)) ?_
    by_cases q2 : q ≤ 2
    · rw [if_pos q2]
      have hL : tL cd ≥ 3 := by unfold tL; omega
      have hn : ¬ GT cd q := fun z => by have := z.1; omega
      refine br_f ?_ (h2 q ⟨hG, Or.inl rfl⟩ hn (Nat.le_refl _))
      split
      · rw [show (3 : Int32) + 0 + 0 * (0 + 1) = nI 3 from rfl]
        exact nI_ge (by omega) (by omega)
      · obtain ⟨r1, r5, _⟩ := GU_1 hG (by omega)
        rw [fa_lit 3, fa_lit 0, fa_lit 1, nI_add, nI_add, pk_mul, nI_add]
        exact nI_ge (by omega) (by omega)
    · obtain ⟨r1, r5, _⟩ := GU_1 hG (by omega)
      obtain ⟨c2, c6, _⟩ := GU_2 hG (by omega)
      have l44 := tL_le r5 c6
      have eL : tL cd = 3 + tC cd + tR cd * (tC cd + 1) := rfl
      rw [if_neg q2, if_neg (by omega), fa_lit 3, fa_lit 1, nI_add, nI_add, pk_mul, nI_add, nI_leI (by omega) (by omega)]
      refine ⟨fun z => h1 ⟨?_, hG⟩, fun z => h2 q ⟨hG, Or.inl rfl⟩ (fun y => z (by have := y.1; omega)) (Nat.le_refl _)⟩
      rcases Nat.lt_or_ge (tL cd) q with y | y
      · have := (hG (tL cd) y).2.2.2.2.2 (by omega) (by omega)
        omega
      · omega
  | succ d ih =>
    intro q hq hG
    apply eX2_firstFault_9 hp
    refine br_f (nI_ge (by omega) (by omega)) ?_
    rw [nI_add]
    refine c_at hp hl e1 e3 (fun z => ?_) (fun k hk e => ?_)
    · rw [nI_toInt (by omega)] at z
      omega
    rw [nI_eq (by omega) (by omega)] at e
    rw [← e, ec q (by omega)]
    refine c_goesOnX hG (by omega) (fun z => if_neg (by omega)) (fun z => if_neg (by omega)) (fun hg => ?_) (fun hg => nb_f rfl (h2 q ⟨hG, Or.inr hg⟩ (fun y => hg (y.2 q (by omega)).2) (by omega)))
    have hG' := GU_s hG (by omega) hg
    have nx := ih (q + 1) (by omega) hG'
    refine nb_t (by decide) ?_
    rw [nI_1]
    rcases (by omega : q = 0 ∨ q = 1 ∨ q = 2 ∨ 3 ≤ q) with z | z | z | z
    · subst z
      exact nb_t (by decide) (nb_t (by decide) nx)
    · subst z
      obtain ⟨r1, r5, er⟩ := GU_1 hG' (by omega)
      refine nb_f rfl (nb_t (by decide) ?_)
      rw [er, fa_lit 48, pk_sub (by omega), show 48 + tR cd - 48 = tR cd by omega]
      exact nx
    · subst z
      obtain ⟨c1, c5, er⟩ := GU_2 hG' (by omega)
      refine nb_t (by decide) (nb_f rfl ?_)
      rw [er, fa_lit 48, pk_sub (by omega), show 48 + tC cd - 48 = tC cd by omega]
      exact nx
    · rw [if_neg (by omega), if_neg (by omega)] at nx ⊢
      exact nb_t (by rw [fa_lit 1, nI_eq (by omega) (by omega)]; omega) (nb_t (by rw [fa_lit 2, nI_eq (by omega) (by omega)]; omega) nx)
