/-! ===== numbers by strides ===== -/
def st (T : Nat → Nat) : Nat → Nat
  | 0 => 1
  | e + 1 => st T e * (T e + 1)
def dg (T : Nat → Nat) (s e : Nat) : Nat := s / st T e % (T e + 1)
theorem st_pos {T : Nat → Nat} : ∀ e, 0 < st T e
  | 0 => Nat.one_pos
  | e + 1 => Nat.mul_pos (st_pos e) (Nat.succ_pos _)
theorem st_dvd {T : Nat → Nat} {a : Nat} : ∀ e, a ≤ e → ∃ k, 0 < k ∧ st T e = st T a * k
  | 0, h => ⟨1, Nat.one_pos, by rw [show a = 0 by omega, Nat.mul_one]⟩
  | e + 1, h => by
    by_cases q : a = e + 1
    · exact ⟨1, Nat.one_pos, by rw [q, Nat.mul_one]⟩
    · obtain ⟨k, hk, hk'⟩ := st_dvd (T := T) (a := a) e (by omega)
      refine ⟨k * (T e + 1), Nat.mul_pos hk (Nat.succ_pos _), ?_⟩
      show st T e * (T e + 1) = _
      rw [hk', Nat.mul_assoc]
theorem q_s {T : Nat → Nat} {s e : Nat} : s / st T (e + 1) = s / st T e / (T e + 1) := by
  rw [show st T (e + 1) = st T e * (T e + 1) from rfl, Nat.div_div_eq_div_mul]
theorem md1 {q m : Nat} (h : q % m + 1 < m) : (q + 1) % m = q % m + 1 ∧ (q + 1) / m = q / m := by
  have e : q + 1 = (q % m + 1) + m * (q / m) := by
    have := Nat.div_add_mod q m
    omega
  constructor
  · rw [e, Nat.add_mul_mod_self_left, Nat.mod_eq_of_lt h]
  · rw [e, Nat.add_mul_div_left _ _ (by omega), Nat.div_eq_of_lt h, Nat.zero_add]
theorem mdc {q m : Nat} (h : q % m + 1 = m) : (q + 1) % m = 0 ∧ (q + 1) / m = q / m + 1 := by
  have e : q + 1 = m * (q / m + 1) := by
    have := Nat.div_add_mod q m
    rw [Nat.mul_add, Nat.mul_one]
    omega
  constructor
  · rw [e, Nat.mul_mod_right]
  · rw [e, Nat.mul_div_cancel_left _ (by omega)]
theorem dg_le {T : Nat → Nat} {s e : Nat} : dg T s e ≤ T e := by
  have := Nat.mod_lt (s / st T e) (show 0 < T e + 1 by omega)
  unfold dg
  omega
theorem dg_lo {T : Nat → Nat} {s e x : Nat} (h : x < e) : dg T (s + st T e) x = dg T s x := by
  obtain ⟨k, _, hk⟩ := st_dvd (T := T) (a := x + 1) e h
  unfold dg
  rw [hk, show st T (x + 1) = st T x * (T x + 1) from rfl, Nat.mul_assoc, Nat.add_mul_div_left _ _ (st_pos x), Nat.add_mul_mod_self_left]
theorem q_at {T : Nat → Nat} {s e : Nat} : (s + st T e) / st T e = s / st T e + 1 := Nat.add_div_right _ (st_pos e)
theorem q_hi {T : Nat → Nat} {s e : Nat} (h : dg T s e < T e) : ∀ x, e < x → (s + st T e) / st T x = s / st T x
  | 0, hx => by omega
  | x + 1, hx => by
    rw [q_s, q_s]
    by_cases q : x = e
    · subst q
      rw [q_at, (md1 (by unfold dg at h; omega)).2]
    · rw [q_hi h x (by omega)]
theorem dg_up {T : Nat → Nat} {s e : Nat} (h : dg T s e < T e) (x : Nat) : dg T (s + st T e) x = if x = e then dg T s x + 1 else dg T s x := by
  rcases Nat.lt_trichotomy x e with q | q | q
  · rw [if_neg (by omega), dg_lo q]
  · subst q
    rw [if_pos rfl]
    unfold dg at h ⊢
    rw [q_at, (md1 (by omega)).1]
  · rw [if_neg (by omega)]
    unfold dg
    rw [q_hi h x q]
def dn (u : Nat → Nat) (e : Nat) : Nat → Nat := fun x => if x = e then u x - 1 else u x
theorem dg_dn {T : Nat → Nat} {t e : Nat} (h : 0 < dg T t e) : st T e ≤ t ∧ dg T (t - st T e) e < T e ∧ ∀ x, dg T (t - st T e) x = dn (dg T t) e x := by
  have h1 : st T e ≤ t := by
    rcases Nat.lt_or_ge t (st T e) with q | q
    · unfold dg at h
      rw [Nat.div_eq_of_lt q, Nat.zero_mod] at h
      omega
    · exact q
  have e1 : t - st T e + st T e = t := by omega
  have h2 : dg T (t - st T e) e < T e := by
    rcases Nat.lt_or_ge (dg T (t - st T e) e) (T e) with q | q
    · exact q
    · have := dg_le (T := T) (s := t - st T e) (e := e)
      have e2 : dg T t e = 0 := by
        rw [← e1]
        unfold dg at q this ⊢
        rw [q_at, (mdc (by omega)).1]
      omega
  refine ⟨h1, h2, fun x => ?_⟩
  have := dg_up h2 x
  rw [e1] at this
  unfold dn
  rw [this]
  split <;> omega
theorem cq {T : Nat → Nat} {s : Nat} : ∀ e, (∀ x, x < e → dg T s x = T x) → (s + 1) / st T e = s / st T e + 1
  | 0, _ => by
    show (s + 1) / 1 = s / 1 + 1
    rw [Nat.div_one, Nat.div_one]
  | e + 1, h => by
    have := h e (by omega)
    unfold dg at this
    rw [q_s, q_s, cq e (fun x hx => h x (by omega)), (mdc (by omega)).2]
theorem dg_c0 {T : Nat → Nat} {s e : Nat} (h : ∀ x, x ≤ e → dg T s x = T x) : dg T (s + 1) e = 0 := by
  have := h e (Nat.le_refl _)
  unfold dg at this ⊢
  rw [cq e (fun x hx => h x (by omega)), (mdc (by omega)).1]
theorem dg_c1 {T : Nat → Nat} {s e : Nat} (h : ∀ x, x < e → dg T s x = T x) (h' : dg T s e < T e) : dg T (s + 1) e = dg T s e + 1 := by
  unfold dg at h' ⊢
  rw [cq e h, (md1 (by omega)).1]
theorem q_c2 {T : Nat → Nat} {s e : Nat} (h : ∀ x, x < e → dg T s x = T x) (h' : dg T s e < T e) : ∀ x, e < x → (s + 1) / st T x = s / st T x
  | 0, hx => by omega
  | x + 1, hx => by
    rw [q_s, q_s]
    by_cases q : x = e
    · subst q
      unfold dg at h'
      rw [cq x h, (md1 (by omega)).2]
    · rw [q_c2 h h' x (by omega)]
theorem dg_c2 {T : Nat → Nat} {s e x : Nat} (h : ∀ x, x < e → dg T s x = T x) (h' : dg T s e < T e) (hx : e < x) : dg T (s + 1) x = dg T s x := by
  unfold dg
  rw [q_c2 h h' x hx]
theorem dg_0 {T : Nat → Nat} {e : Nat} : dg T 0 e = 0 := by
  unfold dg
  rw [Nat.zero_div, Nat.zero_mod]
theorem dg_top {T : Nat → Nat} {e : Nat} (he : e < 7) : dg T (st T 7 - 1) e = T e := by
  obtain ⟨k, hk, hk'⟩ := st_dvd (T := T) (a := e + 1) 7 he
  have e1 : st T 7 = st T e * ((T e + 1) * k) := by rw [hk', show st T (e + 1) = st T e * (T e + 1) from rfl, Nat.mul_assoc]
  have hp := st_pos (T := T) e
  have hm : 0 < (T e + 1) * k := Nat.mul_pos (Nat.succ_pos _) hk
  have e2 : st T 7 - 1 = (st T e - 1) + st T e * ((T e + 1) * k - 1) := by
    rw [e1, Nat.mul_sub, Nat.mul_one]
    have := Nat.le_mul_of_pos_right (st T e) hm
    omega
  have e3 : (T e + 1) * k - 1 = T e + (T e + 1) * (k - 1) := by
    rw [Nat.mul_sub, Nat.mul_one]
    have := Nat.le_mul_of_pos_right (T e + 1) hk
    omega
  unfold dg
  rw [e2, Nat.add_mul_div_left _ _ hp, Nat.div_eq_of_lt (by omega), Nat.zero_add, e3, Nat.add_mul_mod_self_left, Nat.mod_eq_of_lt (by omega)]
theorem up_lt {T : Nat → Nat} {s e : Nat} (he : e < 7) (hs : s < st T 7) (h : dg T s e < T e) : s + st T e < st T 7 := by
  have := q_hi h 7 he
  rw [Nat.div_eq_of_lt hs] at this
  rcases Nat.lt_or_ge (s + st T e) (st T 7) with q | q
  · exact q
  · have := Nat.div_pos q (st_pos 7)
    omega
/-! no more than 192 states -/
def mx : Nat → Nat → Nat
  | 0, _ => 1
  | k + 1, s => (List.range (s + 1)).foldl (fun a t => max a (mx k (s - t) * (t + 1))) 0
theorem fold_le {f : Nat → Nat} : ∀ (l : List Nat) (a t : Nat), t ∈ l → f t ≤ l.foldl (fun a t => max a (f t)) a
  | [], a, t, h => absurd h (by simp)
  | b :: l, a, t, h => by
    show f t ≤ l.foldl (fun a t => max a (f t)) (max a (f b))
    have mono : ∀ (l : List Nat) (a : Nat), a ≤ l.foldl (fun a t => max a (f t)) a := by
      intro l
      induction l with
      | nil => intro a; exact Nat.le_refl _
      | cons c l ih => intro a; exact Nat.le_trans (Nat.le_max_left a (f c)) (ih (max a (f c)))
    rcases List.mem_cons.1 h with e | e
    · subst e
      exact Nat.le_trans (Nat.le_max_right a (f t)) (mono l _)
    · exact fold_le l _ t e
theorem st_mx {T : Nat → Nat} : ∀ k, st T k ≤ mx k (sm k T)
  | 0 => Nat.le_refl _
  | k + 1 => by
    have ih := st_mx (T := T) k
    show st T k * (T k + 1) ≤ (List.range (sm k T + T k + 1)).foldl (fun a t => max a (mx k (sm k T + T k - t) * (t + 1))) 0
    refine Nat.le_trans (Nat.mul_le_mul_right _ ih) ?_
    have := fold_le (f := fun t => mx k (sm k T + T k - t) * (t + 1)) (List.range (sm k T + T k + 1)) 0 (T k) (List.mem_range.2 (by omega))
    rw [show sm k T + T k - T k = sm k T by omega] at this
    exact this
theorem mx_192 : ∀ n, n < 9 → mx 7 n ≤ 192 := by decide +kernel
theorem st_192 {T : Nat → Nat} (h : sm 7 T ≤ 8) : st T 7 ≤ 192 := Nat.le_trans (st_mx 7) (mx_192 _ (by omega))
