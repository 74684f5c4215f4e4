/-! THE CLAIM OUT OF ONE WALK OF THE LAW'S BODY. Your part is whole_start (and what it stands on); all else here is the same for every law, but numbers. -/
def R_law : String := "MarbleVotesLaw"
def lw_P (b : Addr) (xs : List Int32) (args : Array Value) (s : State) : Prop := args = #[.ref b] ∧ s.IntsAt b xs ∧ xs.length ≤ 3072 ∧ (Jvm.Cond.and given_1 narrow_1).before args s = true
def lw_Q (_ : Array Value) (s : State) (o : Outcome) (t : State) : Prop := o = .returned (some (.int 1)) ∧ Framed s o t [] 600000 7302250
def lw_Z (below : List Frame) (a : Array Value) (s : State) : State → Prop := fun t => ∃ o, t.status = .running ∧ Ended t below o ∧ lw_Q a s o t
/-- the law's own end, with 1 on the stack, nothing written that was there before, its room as the claim has it -/
theorem lw_ret {p : Program} {l : Launch} {e : Env} {s : State} {m : MethodId} {below : List Frame} {meth : Method} {c : Code} {b : Nat} (hx : p.tables.exec = Jvm.exec) (hb : c.code = code) (hr : meth.sig.returnType = ret) (hlocks : meth.locks = false) {pc : Nat} {H : Heap} {ls : Array Slot} (hdg : decode code pc = .ok (.ireturn, 1)) : W p l e room_1 s m #[Value.ref b] below meth c H [] 600000 7302250 (lw_Z below #[Value.ref b] s) (F0 m pc ls [.int 1]) := by
  intro T hT X
  obtain ⟨fs, hret, hrun, hended, hW, hframe⟩ := X.leave (v := some (.int 1)) (hlocks := hlocks) (fun h => by rw [hr] at h; cases h)
  have hmeth' : T.vm.method? m = some meth := X.method'
  refine ⟨T.setFrames fs, ?_, .returned (some (.int 1)), hrun, hended, rfl, ⟨_, rfl⟩, hW, hframe⟩
  jvm_step X.here [X.here.top, hx, hb, hdg, hmeth', hr, ret, narrow_b1]
  (try refine ⟨rfl, ?_⟩); (try refine ⟨rfl, ?_⟩)
  first | (intro acts; rw [hret _ acts rfl rfl rfl]) | rw [hret _ _ rfl rfl rfl]
  exact Steps.refl _
/-- what holds at the law's entry: the machine, the code, the tables' words (any of lw_tbl by 'hts w (by decide +kernel)'), the script of L ints xs at the cell b, what the Statement gives of the start (any of its parts by flat_of_before) -/
def lw_At (p : Program) (s : State) (m : MethodId) (meth : Method) (c : Code) (b L : Nat) (xs : Nat → Int32) : Prop :=
  p.tables.exec = Jvm.exec ∧ c.code = code ∧ meth.sig.returnType = ret ∧ c.maxLocals = 4 ∧ s.vm.findClass R_law = some m.cls ∧ (∀ w ∈ lw_tbl, w.before #[Value.ref b] s = true) ∧ va_X b L xs s s.heap ∧ b < s.heap.size ∧ meth.locks = false ∧ (Jvm.Cond.and given_1 narrow_1).before #[Value.ref b] s = true
/-! ===== the law's own rows ===== -/
/-- the script stands at place 51, outside of the world -/
def SX (ad : Nat → Nat) (A : Nat → Prop) (b L : Nat) (xs : Nat → Int32) (s : State) : Prop := ad 51 = b ∧ va_X b L xs s s.heap ∧ b < s.heap.size ∧ ¬ A b ∧ L ≤ 3072
def L0 (k : Nat) : List (Option Value) := [some (.ref 51), some (.ref 0), some (.ref 34), some (.int (nI k))]
abbrev LU (p : Program) (l : Launch) (e : Env) (s : State) (m : MethodId) (b : Nat) (below : List Frame) (meth : Method) (c : Code) (Z : State → Prop) (D : va_G) (ad : Nat → Nat) (ac : Nat → ClassId) (A : Nat → Prop) (pc : Nat) (Lx : List (Option Value)) (st : List Value) (S : St) : Prop :=
  UW p l e room_1 s m #[Value.ref b] below meth c 51 1759 Z D ad ac A 4 pc Lx st S
abbrev LCx (p : Program) (s : State) (m : MethodId) (b : Nat) (c : Code) (D : va_G) (ad : Nat → Nat) (ac : Nat → ClassId) (A : Nat → Prop) : Prop := Cx p s m #[Value.ref b] c cL_law RL 4 D ad ac A
theorem fitL : 51 ≤ room_1.cells ∧ 1759 ≤ room_1.slots := ⟨(Nat.le_of_ble_eq_true rfl), (Nat.le_of_ble_eq_true rfl)⟩
theorem ix_of (x : Int32) : ∃ n, n < 2 ^ 32 ∧ x = nI n := ⟨x.toBitVec.toNat, x.toBitVec.isLt, Int32.toBitVec_inj.mp (BitVec.eq_of_toNat_eq (by
  show x.toBitVec.toNat = (BitVec.ofNat 32 x.toBitVec.toNat).toNat
  rw [BitVec.toNat_ofNat, Nat.mod_eq_of_lt x.toBitVec.isLt]))⟩
theorem ix_31 (x : Int32) : ∃ j, j < 32 ∧ x &&& 31 = nI j := by
  obtain ⟨n, hn, rfl⟩ := ix_of x
  refine ⟨n % 2 ^ 5, Nat.mod_lt _ (by decide), ?_⟩
  rw [show (31 : Int32) = nI 31 from rfl, wi_and hn (by decide), show (31 : Nat) = 2 ^ 5 - 1 from rfl, Nat.and_two_pow_sub_one_eq_mod]
section LW
variable {p : Program} {l : Launch} {e : Env} {s : State} {m : MethodId} {below : List Frame} {meth : Method} {c : Code} {D : va_G} {ad : Nat → Nat} {ac : Nat → ClassId} {A : Nat → Prop} {b L k : Nat} {xs : Nat → Int32} {S : St} {Z : State → Prop} {pc : Nat} {Lx : List (Option Value)} {st : List Value}
theorem mr_sld (C : LCx p s m b c D ad ac A) (hs : SX ad A b L xs s) {n : Nat} (hn : n < L) (hd : decode cL_law pc = .ok (.iaload, 1)) (kk : LU p l e s m b below meth c Z D ad ac A (pc + 1) Lx (.int (xs n) :: st) S) : LU p l e s m b below meth c Z D ad ac A pc Lx (.int (nI n) :: .ref 51 :: st) S := by
  intro H locs ls hP hS hL
  obtain ⟨had, hX, hbl, hbA, h3⟩ := hs
  have h := kk H locs ls hP hS hL
  show W p l e room_1 s m #[Value.ref b] below meth c H locs 51 1759 Z (F0 m pc ls (.int (nI n) :: .ref (ad 51) :: st.map (cV ad)))
  rw [had]
  refine va_sld C.1 C.2.1 hX hbl hbA hS (vp_in_nI hn (by omega)) hd ?_
  rw [nI_clamp (by omega)]
  exact h
theorem mr_slen (C : LCx p s m b c D ad ac A) (hs : SX ad A b L xs s) (hd : decode cL_law pc = .ok (.arraylength, 1)) (kk : LU p l e s m b below meth c Z D ad ac A (pc + 1) Lx (.int (nI L) :: st) S) : LU p l e s m b below meth c Z D ad ac A pc Lx (.ref 51 :: st) S := by
  intro H locs ls hP hS hL
  obtain ⟨had, hX, hbl, hbA, h3⟩ := hs
  have h := kk H locs ls hP hS hL
  show W p l e room_1 s m #[Value.ref b] below meth c H locs 51 1759 Z (F0 m pc ls (.ref (ad 51) :: st.map (cV ad)))
  rw [had]
  exact va_slen C.1 C.2.1 hX hbl hbA hS hd h
theorem mr_arg (C : LCx p s m b c D ad ac A) (hs : SX ad A b L xs s) (j : Nat) {ji : Int} (hk : k + 6 ≤ L) (hj : j < 6) (hji : Int32.ofInt ji = nI j) (d0 : decode cL_law pc = .ok (.aload_n 0, 1)) (d1 : decode cL_law (pc + 1) = .ok (.iload_n 3, 1)) (d2 : decode cL_law (pc + 2) = .ok (.iconst ji, 1)) (d3 : decode cL_law (pc + 3) = .ok (.iadd, 1)) (d4 : decode cL_law (pc + 4) = .ok (.iaload, 1))
    (kk : LU p l e s m b below meth c Z D ad ac A (pc + 5) (L0 k) (.int (xs (k + j)) :: st) S) : LU p l e s m b below meth c Z D ad ac A pc (L0 k) st S := by
  refine mr_aload_n (i := 0) (x := 51) C d0 rfl rfl ?_
  refine mr_iload_n (i := 3) (x := nI k) C d1 rfl rfl ?_
  refine mr_iconst C d2 hji ?_
  refine mr_iadd C d3 ?_
  refine mr_topI (nI_add k j) ?_
  exact mr_sld C hs (by omega) d4 kk
theorem mr_b01 (C : LCx p s m b c D ad ac A) {x : Int32} (d0 : decode cL_law pc = .ok (.ifCond .eq 7, 3)) (d1 : decode cL_law (pc + 3) = .ok (.iconst 1, 1)) (d2 : decode cL_law (pc + 4) = .ok (.goto 4, 3)) (d3 : decode cL_law (pc + 7) = .ok (.iconst 0, 1))
    (kk : LU p l e s m b below meth c Z D ad ac A (pc + 8) Lx (.int (if x = 0 then 0 else 1) :: st) S) : LU p l e s m b below meth c Z D ad ac A pc Lx (.int x :: st) S := by
  refine mr_if_eq C d0 (tgt := pc + 7) (by omega) (fun h => ?_) (fun h => ?_)
  · rw [if_pos h] at kk
    exact mr_iconst C d3 rfl kk
  · rw [if_neg h] at kk
    exact mr_iconst C d1 rfl (mr_goto C d2 (tgt := pc + 8) (by omega) kk)
theorem isB_01 (x : Int32) : isB (if x = 0 then 0 else 1) := by
  split
  · exact Or.inl rfl
  · exact Or.inr rfl
end LW
