/-! ===== numbers ===== -/
theorem fa_lt (a b : Int32) : a < b ↔ a.toInt < b.toInt := Int32.lt_iff_toInt_lt
theorem fa_le (a b : Int32) : a ≤ b ↔ a.toInt ≤ b.toInt := Int32.le_iff_toInt_le
theorem fa_eq (a b : Int32) : a = b ↔ a.toInt = b.toInt := Int32.toInt_inj.symm
theorem fa_lt64 (a b : Int64) : a < b ↔ a.toInt < b.toInt := Int64.lt_iff_toInt_lt
theorem fa_le64 (a b : Int64) : a ≤ b ↔ a.toInt ≤ b.toInt := Int64.le_iff_toInt_le
theorem fa_eq64 (a b : Int64) : a = b ↔ a.toInt = b.toInt := Int64.toInt_inj.symm
theorem fa_lit (n : Nat) : (OfNat.ofNat n : Int32) = nI n := rfl
theorem fa_litL (n : Nat) : (OfNat.ofNat n : Int64) = lN n := rfl
theorem lsub1 (x : Int32) : (x.toInt64 - 1).toInt = x.toInt - 1 := by
  have h := lg_i2l_sub x 1
  rw [show (1 : Int32).toInt64 = 1 by decide, show (1 : Int32).toInt = 1 by decide] at h
  exact h
theorem ti_m1 : (-1 : Int32).toInt = -1 := by decide
theorem ti_m2 : (-2 : Int32).toInt = -2 := by decide
theorem ti_m3 : (-3 : Int32).toInt = -3 := by decide
theorem ti_m4 : (-4 : Int32).toInt = -4 := by decide
theorem ti_m9 : (-9 : Int32).toInt = -9 := by decide
theorem tst1 (x : Int32) (h : x < 0) : ¬ (5 : Int32) ≤ x := (by (try simp only [fa_lt, fa_le, fa_eq, fa_lt64, fa_le64, fa_eq64, Int32.toInt_toInt64, lsub1, Int32.reduceToInt, Int64.reduceToInt, Int32.toInt_zero, Int64.toInt_zero, ti_m1, ti_m2, ti_m3, ti_m4, ti_m9] at *) <;> omega)
theorem tst2 (x : Int32) (h : ¬ x < 0) (h2 : x ≤ 4) : ¬ (x.toInt64 < 0) ∧ ¬ ((7 : Int64) < x.toInt64) := (by (try simp only [fa_lt, fa_le, fa_eq, fa_lt64, fa_le64, fa_eq64, Int32.toInt_toInt64, lsub1, Int32.reduceToInt, Int64.reduceToInt, Int32.toInt_zero, Int64.toInt_zero, ti_m1, ti_m2, ti_m3, ti_m4, ti_m9] at *) <;> omega)
theorem tst3 (x y : Int32) (n : Nat) (hn : n < 30) (hy : y = nI n) (hx : y ≤ x) (t := nI_toInt (n := n) (by omega)) : (y.toInt64 - 1 < x.toInt64) := by
  subst hy
  exact (by (try simp only [fa_lt, fa_le, fa_eq, fa_lt64, fa_le64, fa_eq64, Int32.toInt_toInt64, lsub1, Int32.reduceToInt, Int64.reduceToInt, Int32.toInt_zero, Int64.toInt_zero, ti_m1, ti_m2, ti_m3, ti_m4, ti_m9] at *) <;> omega)
