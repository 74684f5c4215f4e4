/-! ===== how many rows of ends: the reference's way and the class's ===== -/
def WS (E : Nat → Nat → Bool) (J : Nat) : Nat → (Nat → Bool) → (Nat → Nat) → Nat
  | 0, _, u => if sm J u = 0 then 1 else 0
  | k + 1, P, u => if P k = true then sm J (fun e => if 0 < u e ∧ E k e = true then WS E J k P (dn u e) else 0) else WS E J k P u
theorem WS_0 {E : Nat → Nat → Bool} {J : Nat} {P : Nat → Bool} {u : Nat → Nat} : WS E J 0 P u = if sm J u = 0 then 1 else 0 := rfl
theorem WS_y {E : Nat → Nat → Bool} {J k : Nat} {P : Nat → Bool} {u : Nat → Nat} (h : P k = true) : WS E J (k + 1) P u = sm J (fun e => if 0 < u e ∧ E k e = true then WS E J k P (dn u e) else 0) := if_pos h
theorem WS_n {E : Nat → Nat → Bool} {J k : Nat} {P : Nat → Bool} {u : Nat → Nat} (h : P k = false) : WS E J (k + 1) P u = WS E J k P u := if_neg (by rw [h]; decide)
theorem WS_P {E : Nat → Nat → Bool} {J : Nat} : ∀ {k : Nat} {P P' : Nat → Bool} {u : Nat → Nat}, (∀ i, i < k → P i = P' i) → WS E J k P u = WS E J k P' u
  | 0, _, _, _, _ => rfl
  | k + 1, P, P', u, h => by
    have ih := fun u => WS_P (E := E) (J := J) (k := k) (P := P) (P' := P') (u := u) (fun i hi => h i (by omega))
    have hk := h k (by omega)
    cases q : P k
    · rw [WS_n q, WS_n (by rw [← hk]; exact q), ih]
    · rw [WS_y q, WS_y (by rw [← hk]; exact q)]
      exact sm_cong (fun e _ => by rw [ih])
theorem dn_o {u : Nat → Nat} {e x : Nat} (h : x ≠ e) : dn u e x = u x := if_neg h
theorem dn_h {u : Nat → Nat} {e : Nat} : dn u e e = u e - 1 := if_pos rfl
theorem WS_u {E : Nat → Nat → Bool} {J : Nat} : ∀ {k : Nat} {P : Nat → Bool} {u u' : Nat → Nat}, (∀ e, e < J → u e = u' e) → WS E J k P u = WS E J k P u'
  | 0, _, u, u', h => by rw [WS_0, WS_0, sm_cong h]
  | k + 1, P, u, u', h => by
    cases q : P k
    · rw [WS_n q, WS_n q, WS_u h]
    · rw [WS_y q, WS_y q]
      refine sm_cong (fun e he => ?_)
      rw [h e he, WS_u (u := dn u e) (u' := dn u' e) (fun x hx => by
        unfold dn
        rw [h x hx])]
def sbB (k : Nat) (x : Nat) (P : Nat → Bool) : Bool := match k with
  | 0 => true
  | k + 1 => (!x.testBit k || P k) && sbB k x P
def pop (k x : Nat) : Nat := sm k (fun i => if x.testBit i = true then 1 else 0)
def Zt (k : Nat) (P C : Nat → Bool) (c : Nat) (f : Nat → Nat) (x : Nat) : Nat := if sbB k x P = true ∧ sbB k x C = true ∧ pop k x = c then f x else 0
def Z (k : Nat) (P C : Nat → Bool) (c : Nat) (f : Nat → Nat) : Nat := sm (2 ^ k) (Zt k P C c f)
theorem sm_split {f : Nat → Nat} {a : Nat} : ∀ b, sm (a + b) f = sm a f + sm b (fun i => f (a + i))
  | 0 => rfl
  | b + 1 => by
    show sm (a + b) f + f (a + b) = sm a f + (sm b (fun i => f (a + i)) + f (a + b))
    rw [sm_split b, Nat.add_assoc]
theorem sbB_hi {P : Nat → Bool} {m x : Nat} : ∀ k, k ≤ m → sbB k (2 ^ m + x) P = sbB k x P
  | 0, _ => rfl
  | k + 1, h => by
    show ((!(2 ^ m + x).testBit k || P k) && sbB k (2 ^ m + x) P) = ((!x.testBit k || P k) && sbB k x P)
    rw [sbB_hi k (by omega), Nat.testBit_two_pow_add_gt (by omega)]
theorem pop_hi {m x : Nat} {k : Nat} (h : k ≤ m) : pop k (2 ^ m + x) = pop k x := sm_cong (fun i hi => by rw [Nat.testBit_two_pow_add_gt (by omega)])
theorem tb_lt {k x : Nat} (h : x < 2 ^ k) : x.testBit k = false := Nat.testBit_lt_two_pow h
theorem Z_s {k : Nat} {P C : Nat → Bool} {c : Nat} {f : Nat → Nat} : Z (k + 1) P C c f = Z k P C c f + (if P k = true ∧ C k = true ∧ 0 < c then Z k P C (c - 1) (fun x => f (2 ^ k + x)) else 0) := by
  unfold Z
  rw [show 2 ^ (k + 1) = 2 ^ k + 2 ^ k by rw [Nat.pow_succ]; omega, sm_split]
  congr 1
  · refine sm_cong (fun x hx => ?_)
    unfold Zt
    show (if ((!x.testBit k || P k) && sbB k x P) = true ∧ ((!x.testBit k || C k) && sbB k x C) = true ∧ pop k x + (if x.testBit k = true then 1 else 0) = c then f x else 0) = _
    rw [tb_lt hx]
    simp
  · have tb : ∀ x, x < 2 ^ k → (2 ^ k + x).testBit k = true := fun x hx => by rw [Nat.testBit_two_pow_add_eq, tb_lt hx]; rfl
    by_cases q : P k = true ∧ C k = true ∧ 0 < c
    · rw [if_pos q]
      refine sm_cong (fun x hx => ?_)
      unfold Zt
      show (if ((!(2 ^ k + x).testBit k || P k) && sbB k (2 ^ k + x) P) = true ∧ ((!(2 ^ k + x).testBit k || C k) && sbB k (2 ^ k + x) C) = true ∧ pop k (2 ^ k + x) + (if (2 ^ k + x).testBit k = true then 1 else 0) = c then f (2 ^ k + x) else 0) = _
      rw [tb x hx, q.1, q.2.1, sbB_hi k (Nat.le_refl _), sbB_hi k (Nat.le_refl _), pop_hi (Nat.le_refl _), if_pos rfl]
      have : (pop k x + 1 = c) ↔ (pop k x = c - 1) := by omega
      simp [this]
    · rw [if_neg q]
      refine sm_zero (fun x hx => ?_)
      unfold Zt
      show (if ((!(2 ^ k + x).testBit k || P k) && sbB k (2 ^ k + x) P) = true ∧ ((!(2 ^ k + x).testBit k || C k) && sbB k (2 ^ k + x) C) = true ∧ pop k (2 ^ k + x) + (if (2 ^ k + x).testBit k = true then 1 else 0) = c then f (2 ^ k + x) else 0) = _
      rw [tb x hx, if_pos rfl, if_neg]
      rintro ⟨a, b, d⟩
      refine q ⟨?_, ?_, by omega⟩
      · cases y : P k
        · rw [y] at a
          exact absurd a (by simp)
        · rfl
      · cases y : C k
        · rw [y] at b
          exact absurd b (by simp)
        · rfl
theorem Z_cong {k : Nat} {P C : Nat → Bool} {c : Nat} {f g : Nat → Nat} (h : ∀ x, x < 2 ^ k → f x = g x) : Z k P C c f = Z k P C c g := sm_cong (fun x hx => by unfold Zt; rw [h x hx])
theorem Z_zero {k : Nat} {P C : Nat → Bool} {c : Nat} : Z k P C c (fun _ => 0) = 0 := sm_zero (fun x _ => by unfold Zt; split <;> rfl)
theorem Z_sum {k : Nat} {P C : Nat → Bool} {c : Nat} (g : Nat → Nat → Nat) (J : Nat) : Z k P C c (fun x => sm J (fun e => g e x)) = sm J (fun e => Z k P C c (g e)) := by
  unfold Z
  rw [← sm_swap (fun x e => Zt k P C c (g e) x)]
  refine sm_cong (fun x _ => ?_)
  unfold Zt
  split
  · rfl
  · exact (sm_zero (fun _ _ => rfl)).symm
def mi (P : Nat → Bool) (x : Nat) : Nat → Bool := fun i => P i && !x.testBit i
theorem WSD {E : Nat → Nat → Bool} {j : Nat} : ∀ (k : Nat) (P : Nat → Bool) (u : Nat → Nat), WS E (j + 1) k P u = Z k P (fun v => E v j) (u j) (fun x => WS E j k (mi P x) u)
  | 0, P, u => by
    show (if sm j u + u j = 0 then 1 else 0) = 0 + (if true = true ∧ true = true ∧ 0 = u j then (if sm j u = 0 then 1 else 0) else 0)
    by_cases q : u j = 0
    · rw [q]
      simp
    · rw [if_neg (by omega), if_neg (by omega)]
  | k + 1, P, u => by
    have ih := WSD (E := E) (j := j) k P
    rw [Z_s]
    cases q : P k
    · rw [WS_n q, if_neg (by simp), Nat.add_zero, ih]
      refine Z_cong (fun x _ => (WS_n ?_).symm)
      show (P k && _) = false
      rw [q, Bool.false_and]
    · rw [WS_y q]
      show sm j (fun e => if 0 < u e ∧ E k e = true then WS E (j + 1) k P (dn u e) else 0) + (if 0 < u j ∧ E k j = true then WS E (j + 1) k P (dn u j) else 0) = _
      congr 1
      · rw [Z_cong (g := fun x => sm j (fun e => if 0 < u e ∧ E k e = true then WS E j k (mi P x) (dn u e) else 0)) (fun x hx => WS_y (by
          show (P k && !x.testBit k) = true
          rw [q, tb_lt hx]
          rfl)), Z_sum]
        refine sm_cong (fun e he => ?_)
        by_cases w : 0 < u e ∧ E k e = true
        · rw [if_pos w, ih, dn_o (by omega)]
          exact Z_cong (fun x _ => (if_pos w).symm)
        · rw [if_neg w, Z_cong (g := fun _ => 0) (fun x _ => if_neg w), Z_zero]
      · by_cases w : 0 < u j ∧ E k j = true
        · rw [if_pos w, if_pos ⟨rfl, w.2, w.1⟩, ih, dn_h]
          refine Z_cong (fun x hx => ?_)
          rw [WS_n (by
            show (P k && !(2 ^ k + x).testBit k) = false
            rw [Nat.testBit_two_pow_add_eq, tb_lt hx, q]
            rfl), WS_P (P := mi P (2 ^ k + x)) (P' := mi P x) (fun i hi => by
            show (P i && !(2 ^ k + x).testBit i) = (P i && !x.testBit i)
            rw [Nat.testBit_two_pow_add_gt (by omega)])]
          exact WS_u (fun e he => dn_o (by omega))
        · rw [if_neg w, if_neg (fun y => w ⟨y.2.2, y.2.1⟩)]
theorem WS_le {E : Nat → Nat → Bool} {J : Nat} (hJ : 1 ≤ J) : ∀ (k : Nat) (P : Nat → Bool) (u : Nat → Nat), WS E J k P u ≤ J ^ k
  | 0, P, u => by
    rw [WS_0]
    split <;> simp
  | k + 1, P, u => by
    have ih := WS_le (E := E) hJ k P
    cases q : P k
    · rw [WS_n q]
      exact Nat.le_trans (ih u) (Nat.pow_le_pow_right hJ (by omega))
    · rw [WS_y q, Nat.pow_succ, Nat.mul_comm]
      refine sm_bd (fun e _ => ?_)
      split
      · exact ih _
      · exact Nat.zero_le _
/-! ends between the troughs and the dams count nothing -/
def en (w j : Nat) : Nat := if j < w then j else 6
theorem sm_gap {f : Nat → Nat} {w : Nat} : ∀ d, (∀ e, w ≤ e → e < w + d → f e = 0) → sm (w + d) f = sm w f
  | 0, _ => rfl
  | d + 1, h => by
    show sm (w + d) f + f (w + d) = sm w f
    rw [sm_gap d (fun e h1 h2 => h e h1 (by omega)), h (w + d) (by omega) (by omega), Nat.add_zero]
theorem sm_en {f : Nat → Nat} {w : Nat} (hw : w ≤ 6) (h : ∀ e, w ≤ e → e < 6 → f e = 0) : sm 7 f = sm (w + 1) (fun j => f (en w j)) := by
  show sm 6 f + f 6 = sm w (fun j => f (en w j)) + f (en w w)
  have := sm_gap (f := f) (w := w) (6 - w) (fun e h1 h2 => h e h1 (by omega))
  rw [show w + (6 - w) = 6 by omega] at this
  rw [this, show en w w = 6 from if_neg (by omega), sm_cong (g := fun j => f (en w j)) (fun i hi => by rw [show en w i = i from if_pos hi])]
theorem WS_en {E : Nat → Nat → Bool} {w : Nat} (hw : w ≤ 6) : ∀ (k : Nat) (P : Nat → Bool) (u : Nat → Nat), (∀ e, w ≤ e → e < 6 → u e = 0) → WS E 7 k P u = WS (fun v j => E v (en w j)) (w + 1) k P (fun j => u (en w j))
  | 0, P, u, h => by rw [WS_0, WS_0, sm_en hw h]
  | k + 1, P, u, h => by
    have ih := WS_en (E := E) hw k P
    cases q : P k
    · rw [WS_n q, WS_n q, ih u h]
    · rw [WS_y q, WS_y q, sm_en hw (fun e h1 h2 => if_neg (by rw [h e h1 h2]; omega))]
      refine sm_cong (fun j hj => ?_)
      rw [ih (dn u (en w j)) (fun e h1 h2 => by unfold dn; split <;> rw [h e h1 h2])]
      rw [WS_u (u := fun x => dn u (en w j) (en w x)) (u' := dn (fun x => u (en w x)) j) (fun x hx => by
        unfold dn
        have : (en w x = en w j) ↔ x = j := by unfold en; split <;> split <;> omega
        simp only [this])]
