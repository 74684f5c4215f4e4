/-! ===== the words of the tables, good ones and those of nest mates ===== -/
def gW : List Cond := lw_tbl.filter goodWord
def mv_isNest : Cond → Bool
  | .fieldLinkNest .. => true
  | .methodLinkNest .. => true
  | _ => false
def nW : List Cond := lw_tbl.filter mv_isNest
theorem gw_t (i : Nat) {w : Cond} (h : tables_1[i]? = some w) (g : goodWord w = true) : w ∈ gW :=
  List.mem_filter.mpr ⟨List.mem_append_right _ (List.mem_of_getElem? h), g⟩
theorem gw_s (i : Nat) {w : Cond} (h : (k2_sels lw_privs)[i]? = some w) (g : goodWord w = true) : w ∈ gW :=
  List.mem_filter.mpr ⟨List.mem_append_left _ (List.mem_of_getElem? h), g⟩
theorem nw_t (i : Nat) {w : Cond} (h : tables_1[i]? = some w) (g : mv_isNest w = true) : w ∈ nW :=
  List.mem_filter.mpr ⟨List.mem_append_right _ (List.mem_of_getElem? h), g⟩
theorem gW_good {w : Cond} (h : w ∈ gW) : (w.onTables && w.keeps) = true ∨ ∃ ty, w = .arrayClass ty := good_of_word (List.mem_filter.mp h).2
theorem gW_tbl {w : Cond} (h : w ∈ gW) : w ∈ lw_tbl := (List.mem_filter.mp h).1
theorem nW_tbl {w : Cond} (h : w ∈ nW) : w ∈ lw_tbl := (List.mem_filter.mp h).1
theorem nw_warm {w : Cond} (h : w ∈ nW) {s U : State} (hW : s.WarmedH U.vm) (hZ : va_Nw w s) : va_Nw w U := by
  have g := (List.mem_filter.mp h).2
  cases w with
  | fieldLinkNest a i b n d h => exact va_Nw.warmF hW hZ
  | methodLinkNest a i x h => exact va_Nw.warmM hW hZ
  | _ => exact absurd g (by simp [mv_isNest])
theorem nw_same {w : Cond} (h : w ∈ nW) {s U : State} (e : s.vm = U.vm) (hZ : va_Nw w s) : va_Nw w U := by
  have g := (List.mem_filter.mp h).2
  cases w with
  | fieldLinkNest a i b n d h => exact va_Nw.same rfl e hZ
  | methodLinkNest a i x h => exact va_Nw.same rfl e hZ
  | _ => exact absurd g (by simp [mv_isNest])
theorem nw_use {w : Cond} (h : w ∈ nW) {s : State} {A : Array Value} (hZ : va_Nw w s) : w.before A s = true := by
  have g := (List.mem_filter.mp h).2
  cases w with
  | fieldLinkNest a i b n d h => exact va_Nw.use rfl hZ
  | methodLinkNest a i x h => exact va_Nw.use rfl hZ
  | _ => exact absurd g (by simp [mv_isNest])
theorem nw_of {w : Cond} (h : w ∈ nW) {s : State} {A : Array Value} (hZ : w.before A s = true) : va_Nw w s := by
  have g := (List.mem_filter.mp h).2
  cases w with
  | fieldLinkNest a i b n d h => exact va_Nw.of rfl hZ
  | methodLinkNest a i x h => exact va_Nw.of rfl hZ
  | _ => exact absurd g (by simp [mv_isNest])
/-! ===== the state: what the ints and longs of all cells are, by their places; refs never change ===== -/
abbrev St : Type := (Nat → Nat → Int32) × (Nat → Nat → Int64)
def sI (S : St) (p k : Nat) (x : Int32) : St := (fun q => if q = p then upd (S.1 q) k x else S.1 q, S.2)
def sJ (S : St) (p k : Nat) (x : Int64) : St := (S.1, fun q => if q = p then vp_updL (S.2 q) k x else S.2 q)
def sF (S : St) (p : Nat) (f : Nat → Int32) : St := (fun q => if q = p then f else S.1 q, S.2)
/-- a cell's layout: an object (its class's place, its fields: a ref to a place, an int, a long), or an array (0 ints, 1 longs, 2 objects, 3 arrays of ints; its length; the places of its refs) -/
abbrev LE : Type := (Nat × List (Nat ⊕ Bool)) ⊕ (Nat × Nat × List Nat)
def cV (ad : Nat → Nat) (v : Value) : Value := match v with
  | .ref p => .ref (ad p)
  | v => v
theorem cV_cat (ad : Nat → Nat) (v : Value) : (cV ad v).category = v.category := by cases v <;> rfl
def fv1 (ad : Nat → Nat) (fI : Nat → Int32) (fL : Nat → Int64) (i : Nat) (k : Nat ⊕ Bool) : Value := match k with
  | .inl q => .ref (ad q)
  | .inr false => .int (fI i)
  | .inr true => .long (fL i)
def fvs (ad : Nat → Nat) (fI : Nat → Int32) (fL : Nat → Int64) : Nat → List (Nat ⊕ Bool) → List Value
  | _, [] => []
  | i, k :: ks => fv1 ad fI fL i k :: fvs ad fI fL (i + 1) ks
theorem fvs_get (ad : Nat → Nat) (fI : Nat → Int32) (fL : Nat → Int64) : ∀ (ks : List (Nat ⊕ Bool)) (i j : Nat), (fvs ad fI fL i ks)[j]? = (ks[j]?).map (fv1 ad fI fL (i + j))
  | [], i, j => by simp [fvs]
  | k :: ks, i, 0 => by simp [fvs]
  | k :: ks, i, j + 1 => by
    simp only [fvs, List.getElem?_cons_succ]
    rw [fvs_get ad fI fL ks (i + 1) j, show i + 1 + j = i + (j + 1) by omega]
theorem fvs_setI {ad : Nat → Nat} {fI : Nat → Int32} {fL : Nat → Int64} {ks : List (Nat ⊕ Bool)} {k : Nat} (h : ks[k]? = some (.inr false)) (x : Int32) : (fvs ad fI fL 0 ks).set k (.int x) = fvs ad (upd fI k x) fL 0 ks := by
  apply List.ext_getElem?
  intro j
  by_cases hj : j = k
  · subst hj
    have hl : j < (fvs ad fI fL 0 ks).length := by
      have := fvs_get ad fI fL ks 0 j
      rw [h] at this
      exact (List.getElem?_eq_some_iff.mp this).1
    rw [List.getElem?_set_self hl, fvs_get, h]
    simp [fv1, upd]
  · rw [List.getElem?_set_ne (Ne.symm hj), fvs_get, fvs_get]
    cases ks[j]? with
    | none => rfl
    | some q => rcases q with q | b
                · rfl
                · cases b <;> simp [fv1, upd, hj]
theorem fvs_setJ {ad : Nat → Nat} {fI : Nat → Int32} {fL : Nat → Int64} {ks : List (Nat ⊕ Bool)} {k : Nat} (h : ks[k]? = some (.inr true)) (x : Int64) : (fvs ad fI fL 0 ks).set k (.long x) = fvs ad fI (vp_updL fL k x) 0 ks := by
  apply List.ext_getElem?
  intro j
  by_cases hj : j = k
  · subst hj
    have hl : j < (fvs ad fI fL 0 ks).length := by
      have := fvs_get ad fI fL ks 0 j
      rw [h] at this
      exact (List.getElem?_eq_some_iff.mp this).1
    rw [List.getElem?_set_self hl, fvs_get, h]
    simp [fv1, vp_updL]
  · rw [List.getElem?_set_ne (Ne.symm hj), fvs_get, fvs_get]
    cases ks[j]? with
    | none => rfl
    | some q => rcases q with q | b
                · rfl
                · cases b <;> simp [fv1, vp_updL, hj]
theorem fvs_len (ad : Nat → Nat) (fI : Nat → Int32) (fL : Nat → Int64) : ∀ (ks : List (Nat ⊕ Bool)) (i : Nat), (fvs ad fI fL i ks).length = ks.length
  | [], i => rfl
  | k :: ks, i => by simp [fvs, fvs_len ad fI fL ks (i + 1)]
def celE (ad : Nat → Nat) (cA : ClassId) (e : LE) (fI : Nat → Int32) (fL : Nat → Int64) : va_E := match e with
  | .inl (ci, fks) => .inr (ci, fvs ad fI fL 0 fks)
  | .inr (0, n, _) => .inl (cA, n, .inl fI)
  | .inr (1, n, _) => .inl (cA, n, .inr (.inl fL))
  | .inr (_, n, rs) => .inl (cA, n, .inr (.inr (.inr (.inr (fun j => (rs[j]?).map ad)))))
def NC : Nat := 51
/-- which cell stands at which place: both objects with all that they reach -/
def lay : Nat → LE := fun p => match p with
  | 0 => .inl (5, [.inl 1, .inl 4, .inl 7, .inl 19, .inl 25, .inr false, .inr false])
  | 1 => .inl (2, [.inl 2, .inl 3, .inr false, .inr false, .inr false])
  | 2 => .inr (0, 30, [])
  | 3 => .inr (0, 6, [])
  | 4 => .inl (4, [.inl 5, .inl 6, .inr false])
  | 5 => .inr (0, 8, [])
  | 6 => .inr (0, 8, [])
  | 7 => .inl (1, [.inl 1, .inl 4, .inl 8, .inl 12, .inl 16, .inl 17, .inl 18])
  | 8 => .inr (3, 3, [9, 10, 11])
  | 9 => .inr (0, 36, [])
  | 10 => .inr (0, 36, [])
  | 11 => .inr (0, 36, [])
  | 12 => .inr (3, 3, [13, 14, 15])
  | 13 => .inr (0, 36, [])
  | 14 => .inr (0, 36, [])
  | 15 => .inr (0, 36, [])
  | 16 => .inr (0, 8, [])
  | 17 => .inr (0, 4, [])
  | 18 => .inr (0, 4, [])
  | 19 => .inl (0, [.inl 20, .inl 21, .inl 22, .inl 23, .inl 24])
  | 20 => .inr (0, 7, [])
  | 21 => .inr (0, 8, [])
  | 22 => .inr (0, 7, [])
  | 23 => .inr (0, 7, [])
  | 24 => .inr (0, 192, [])
  | 25 => .inr (2, 4, [26, 28, 30, 32])
  | 26 => .inl (3, [.inl 27, .inr false, .inr false, .inr false])
  | 27 => .inr (0, 60, [])
  | 28 => .inl (3, [.inl 29, .inr false, .inr false, .inr false])
  | 29 => .inr (0, 60, [])
  | 30 => .inl (3, [.inl 31, .inr false, .inr false, .inr false])
  | 31 => .inr (0, 60, [])
  | 32 => .inl (3, [.inl 33, .inr false, .inr false, .inr false])
  | 33 => .inr (0, 60, [])
  | 34 => .inl (6, [.inr false, .inr false, .inr false, .inl 35, .inl 36, .inr false, .inr false, .inr false, .inr false, .inl 37, .inl 38, .inr false, .inl 39, .inl 40, .inl 41, .inl 42, .inl 43, .inr true, .inr true, .inl 44, .inl 45, .inl 46, .inl 47, .inl 48, .inl 49, .inl 50, .inr false])
  | 35 => .inr (0, 6, [])
  | 36 => .inr (0, 30, [])
  | 37 => .inr (0, 6, [])
  | 38 => .inr (0, 30, [])
  | 39 => .inr (0, 8, [])
  | 40 => .inr (0, 8, [])
  | 41 => .inr (1, 6, [])
  | 42 => .inr (1, 6, [])
  | 43 => .inr (1, 7, [])
  | 44 => .inr (0, 7, [])
  | 45 => .inr (0, 256, [])
  | 46 => .inr (0, 256, [])
  | 47 => .inr (0, 4, [])
  | 48 => .inr (0, 4, [])
  | 49 => .inr (0, 240, [])
  | _ => .inr (0, 60, [])
def isSh (p : Nat) : Prop := p = 26 ∨ p = 28 ∨ p = 30 ∨ p = 32
theorem sh_lt {p : Nat} (h : isSh p) : p < NC := by rcases h with rfl | rfl | rfl | rfl <;> decide
theorem sh_lt1 {p : Nat} (h : isSh p) : p + 1 < NC := by rcases h with rfl | rfl | rfl | rfl <;> decide
theorem sh_lay {p : Nat} (h : isSh p) : lay p = .inl (3, [.inl (p + 1), .inr false, .inr false, .inr false]) := by rcases h with rfl | rfl | rfl | rfl <;> rfl
theorem sh_row {p : Nat} (h : isSh p) : lay (p + 1) = .inr (0, 60, []) := by rcases h with rfl | rfl | rfl | rfl <;> rfl
theorem in_lt {i : Int32} {n : Nat} (h : vp_in i n) : i.toNatClampNeg < n := Nat.not_le.mp fun q => h (Or.inr q)
theorem sh_in {i : Int32} (h : vp_in i 4) : isSh (26 + 2 * i.toNatClampNeg) := by
  have := in_lt h
  unfold isSh
  omega
theorem sh_el {i : Int32} (h : vp_in i 4) : [26, 28, 30, 32][i.toNatClampNeg]? = some (26 + 2 * i.toNatClampNeg) := by
  have := in_lt h
  generalize i.toNatClampNeg = k at this ⊢
  rcases (by omega : k = 0 ∨ k = 1 ∨ k = 2 ∨ k = 3) with rfl | rfl | rfl | rfl <;> rfl
theorem pw_el {i : Int32} (b : Nat) (h : vp_in i 3) : [b, b + 1, b + 2][i.toNatClampNeg]? = some (b + i.toNatClampNeg) := by
  have := in_lt h
  generalize i.toNatClampNeg = k at this ⊢
  rcases (by omega : k = 0 ∨ k = 1 ∨ k = 2) with rfl | rfl | rfl <;> rfl
def isPa (p : Nat) : Prop := p = 9 ∨ p = 10 ∨ p = 11
def isWo (p : Nat) : Prop := p = 13 ∨ p = 14 ∨ p = 15
theorem pa_lt {p : Nat} (h : isPa p) : p < NC := by rcases h with rfl | rfl | rfl <;> decide
theorem wo_lt {p : Nat} (h : isWo p) : p < NC := by rcases h with rfl | rfl | rfl <;> decide
theorem pa_lay {p : Nat} (h : isPa p) : lay p = .inr (0, 36, []) := by rcases h with rfl | rfl | rfl <;> rfl
theorem wo_lay {p : Nat} (h : isWo p) : lay p = .inr (0, 36, []) := by rcases h with rfl | rfl | rfl <;> rfl
theorem pa_in {i : Int32} (h : vp_in i 3) : isPa (9 + i.toNatClampNeg) := by
  have := in_lt h
  unfold isPa
  omega
theorem wo_in {i : Int32} (h : vp_in i 3) : isWo (13 + i.toNatClampNeg) := by
  have := in_lt h
  unfold isWo
  omega
/-! ===== the world: all cells of both objects, at addresses that are variables ===== -/
def cel (ad : Nat → Nat) (ac : Nat → ClassId) (S : St) (p : Nat) : va_E := celE ad (ac p) (lay p) (S.1 p) (S.2 p)
def wld (ad : Nat → Nat) (ac : Nat → ClassId) (S : St) : va_W := (List.range NC).map (fun p => (ad p, cel ad ac S p))
def tyE (e : LE) : FieldType := match e with
  | .inl _ => .int
  | .inr (0, _, _) => .int
  | .inr (1, _, _) => .long
  | .inr (2, _, _) => .object "MarbleVotes$Sheet"
  | .inr (_, _, _) => .array .int
def tysOf (ac : Nat → ClassId) : List (ClassId × FieldType) := (List.range NC).map (fun p => (ac p, tyE (lay p)))
theorem wld_get (ad : Nat → Nat) (ac : Nat → ClassId) (S : St) {p : Nat} (h : p < NC) : (wld ad ac S)[p]? = some (ad p, cel ad ac S p) := by
  unfold wld
  rw [List.getElem?_map, List.getElem?_range h]
  rfl
theorem wld_inv {ad : Nat → Nat} {ac : Nat → ClassId} {S : St} {k : Nat} {q : Nat × va_E} (h : (wld ad ac S)[k]? = some q) : k < NC ∧ q = (ad k, cel ad ac S k) := by
  have hk : k < NC := by
    have := (List.getElem?_eq_some_iff.mp h).1
    simpa [wld] using this
  rw [wld_get ad ac S hk] at h
  exact ⟨hk, (Option.some.inj h).symm⟩
theorem tys_get (ac : Nat → ClassId) {p : Nat} (h : p < NC) : (tysOf ac)[p]? = some (ac p, tyE (lay p)) := by
  unfold tysOf
  rw [List.getElem?_map, List.getElem?_range h]
  rfl
theorem sI_ne (S : St) {p q : Nat} (k : Nat) (x : Int32) (h : q ≠ p) : (sI S p k x).1 q = S.1 q := by simp [sI, h]
theorem sI_eq (S : St) (p k : Nat) (x : Int32) : (sI S p k x).1 p = upd (S.1 p) k x := by simp [sI]
theorem sI_2 (S : St) (p k : Nat) (x : Int32) : (sI S p k x).2 = S.2 := rfl
theorem sJ_ne (S : St) {p q : Nat} (k : Nat) (x : Int64) (h : q ≠ p) : (sJ S p k x).2 q = S.2 q := by simp [sJ, h]
theorem sJ_eq (S : St) (p k : Nat) (x : Int64) : (sJ S p k x).2 p = vp_updL (S.2 p) k x := by simp [sJ]
theorem sJ_1 (S : St) (p k : Nat) (x : Int64) : (sJ S p k x).1 = S.1 := rfl
theorem wld_set {ad : Nat → Nat} {ac : Nat → ClassId} {S S' : St} {p : Nat} {e : va_E} (he : e = cel ad ac S' p) (h1 : ∀ q, q ≠ p → S'.1 q = S.1 q) (h2 : ∀ q, q ≠ p → S'.2 q = S.2 q) : (wld ad ac S).set p (ad p, e) = wld ad ac S' := by
  subst he
  apply List.ext_getElem?
  intro j
  by_cases hN : j < NC
  · by_cases hj : j = p
    · subst hj
      rw [List.getElem?_set_self (by simpa [wld] using hN), wld_get ad ac S' hN]
    · rw [List.getElem?_set_ne (Ne.symm hj), wld_get ad ac S hN, wld_get ad ac S' hN]
      simp only [cel, h1 j hj, h2 j hj]
  · rw [List.getElem?_eq_none (by simp [wld]; omega), List.getElem?_eq_none (by simp [wld]; omega)]
/-- what a method may change: the world's cells -/
def adA (ad : Nat → Nat) : Nat → Prop := fun q => ∃ p, p < NC ∧ q = ad p
theorem wld_D {A : Nat → Prop} {ad : Nat → Nat} {ac : Nat → ClassId} (hi : ∀ i j, i < NC → j < NC → ad i = ad j → i = j) (hA : ∀ i, i < NC → A (ad i)) (S : St) : va_D A (wld ad ac S) := by
  refine ⟨fun i j p q h1 h2 h => ?_, fun k q h => ?_⟩
  · obtain ⟨a1, rfl⟩ := wld_inv h1
    obtain ⟨a2, rfl⟩ := wld_inv h2
    exact hi i j a1 a2 h
  · obtain ⟨a1, rfl⟩ := wld_inv h
    exact hA k a1
/-! ===== a method's row: name, bytes, locals, return type, how deep its calls go ===== -/
abbrev MD : Type := MethodName × ByteArray × Nat × Option FieldType × Nat
def rmd (d : Nat) : Room := { frames := d, cells := 0, slots := 0, locals := 38 * d }
/-- what holds throughout a method -/
def Cx (p : Program) (s : State) (m : MethodId) (args : Array Value) (c : Code) (cc : ByteArray) (own : String) (nL : Nat) (D : va_G) (ad : Nat → Nat) (ac : Nat → ClassId) (A : Nat → Prop) : Prop :=
  p.tables.exec = Jvm.exec ∧ c.code = cc ∧ c.maxLocals = nL ∧ s.vm.findClass own = some m.cls ∧ (∀ w ∈ gW, w.before args s = true) ∧ (∀ w ∈ nW, va_Nw w s) ∧ va_K D vwCl (tysOf ac) s ∧ (∀ i j, i < NC → j < NC → ad i = ad j → i = j) ∧ (∀ i, i < NC → A (ad i))
def LH (ad : Nat → Nat) (ls : Array Slot) (nL : Nat) (L : List (Option Value)) : Prop := ls.size = nL ∧ lv_wf ls ∧ ∀ (i : Nat) (v : Value), L[i]? = some (some v) → ls[i]? = some (.val (cV ad v))
def UW (p : Program) (l : Launch) (e : Env) (R : Room) (s : State) (m : MethodId) (args : Array Value) (below : List Frame) (meth : Method) (c : Code) (cells slots : Nat) (Z : State → Prop) (D : va_G) (ad : Nat → Nat) (ac : Nat → ClassId) (A : Nat → Prop) (nL : Nat) (pc : Nat) (L : List (Option Value)) (st : List Value) (S : St) : Prop :=
  ∀ (H : Heap) (locs : List Loc) (ls : Array Slot), va_P D vwCl (wld ad ac S) H → va_S A s.heap H locs → LH ad ls nL L → W p l e R s m args below meth c H locs cells slots Z (F0 m pc ls (st.map (cV ad)))
def PreW (D : va_G) (ad : Nat → Nat) (ac : Nat → ClassId) (S : St) (U : State) : Prop := va_P D vwCl (wld ad ac S) U.heap ∧ va_K D vwCl (tysOf ac) U ∧ (∀ w ∈ nW, va_Nw w U) ∧ ∀ i j, i < NC → j < NC → ad i = ad j → i = j
def QQ (D : va_G) (ad : Nat → Nat) (ac : Nat → ClassId) (P : Option Value → St → Prop) : Array Value → State → Outcome → State → Prop := fun _ st o t =>
  (∃ (v : Option Value) (S' : St), o = .returned (v.map (cV ad)) ∧ P v S' ∧ va_P D vwCl (wld ad ac S') t.heap) ∧ va_F (adA ad) st t
def CallV (y : MD) (as : List Value) (S : St) (P : Option Value → St → Prop) : Prop :=
  ∀ (l : Launch) (D : va_G) (ad : Nat → Nat) (ac : Nat → ClassId), Met l y.1 (.code y.1 y.2.1 y.2.2.1 y.2.2.2.1 :: gW) (rmd y.2.2.2.2) (va_Pc (as.map (cV ad)) (PreW D ad ac S)) (QQ D ad ac P) 0 0 (adA ad)
def V (y : MD) (pc : Nat) (L : List (Option Value)) (st : List Value) (S : St) (P : Option Value → St → Prop) : Prop :=
  ∀ (p : Program) (l : Launch) (e : Env) (s : State) (m : MethodId) (args : Array Value) (below : List Frame) (meth : Method) (c : Code) (D : va_G) (ad : Nat → Nat) (ac : Nat → ClassId), Cx p s m args c y.2.1 y.1.cls y.2.2.1 D ad ac (adA ad) → meth.sig.returnType = y.2.2.2.1 → meth.locks = false →
    UW p l e (rmd y.2.2.2.2) s m args below meth c 0 0 (MQ below (QQ D ad ac P) args s 0 0 (adA ad)) D ad ac (adA ad) y.2.2.1 pc L st S
/-- what comes back of a call: an int, a long, nothing -/
def qI (T : Int32 → St → Prop) : Option Value → St → Prop := fun r S => ∃ x : Int32, r = some (.int x) ∧ T x S
def qJ (T : Int64 → St → Prop) : Option Value → St → Prop := fun r S => ∃ x : Int64, r = some (.long x) ∧ T x S
def qV (T : St → Prop) : Option Value → St → Prop := fun r S => r = none ∧ T S
theorem qI_mk {T : Int32 → St → Prop} {x : Int32} {S : St} (h : T x S) : qI T (some (.int x)) S := ⟨x, rfl, h⟩
theorem qJ_mk {T : Int64 → St → Prop} {x : Int64} {S : St} (h : T x S) : qJ T (some (.long x)) S := ⟨x, rfl, h⟩
theorem qV_mk {T : St → Prop} {S : St} (h : T S) : qV T none S := ⟨rfl, h⟩
/-! locals -/
def kil (a : Option Value) : Option Value := match a with
  | some (.long _) => none
  | some (.double _) => none
  | a => a
def stL : List (Option Value) → Nat → Value → List (Option Value)
  | [], _, _ => []
  | _ :: t, 0, v => some v :: t
  | a :: t, 1, v => kil a :: stL t 0 v
  | a :: t, n + 2, v => a :: stL t (n + 1) v
def stJ : List (Option Value) → Nat → Value → List (Option Value)
  | [], _, _ => []
  | _ :: t, 0, v => some v :: (match t with
    | [] => []
    | _ :: t' => none :: t')
  | a :: t, 1, v => kil a :: stJ t 0 v
  | a :: t, n + 2, v => a :: stJ t (n + 1) v
theorem kil_some {a : Option Value} {w : Value} (h : kil a = some w) : a = some w ∧ ¬ w.category = 2 := by
  cases a with
  | none => cases h
  | some v => cases v <;> simp [kil] at h <;> subst h <;> simp [Value.category]
theorem stL_get : ∀ (L : List (Option Value)) (i : Nat) (v : Value) (j : Nat) (w : Value), (stL L i v)[j]? = some (some w) → (j = i ∧ w = v) ∨ (j ≠ i ∧ L[j]? = some (some w) ∧ ¬ (j + 1 = i ∧ w.category = 2))
  | [], i, v, j, w, h => by simp [stL] at h
  | a :: t, 0, v, 0, w, h => by
    simp [stL] at h
    exact Or.inl ⟨rfl, h.symm⟩
  | a :: t, 0, v, j + 1, w, h => by
    simp [stL] at h
    exact Or.inr ⟨by omega, by simpa using h, by omega⟩
  | a :: t, 1, v, 0, w, h => by
    simp [stL] at h
    obtain ⟨h1, h2⟩ := kil_some h
    exact Or.inr ⟨by omega, by simpa using h1, fun q => h2 q.2⟩
  | a :: t, 1, v, j + 1, w, h => by
    simp only [stL, List.getElem?_cons_succ] at h
    rcases stL_get t 0 v j w h with ⟨h1, h2⟩ | ⟨h1, h2, h3⟩
    · exact Or.inl ⟨by omega, h2⟩
    · exact Or.inr ⟨by omega, by simpa using h2, by omega⟩
  | a :: t, n + 2, v, 0, w, h => by
    simp [stL] at h
    exact Or.inr ⟨by omega, by simpa using h, by omega⟩
  | a :: t, n + 2, v, j + 1, w, h => by
    simp only [stL, List.getElem?_cons_succ] at h
    rcases stL_get t (n + 1) v j w h with ⟨h1, h2⟩ | ⟨h1, h2, h3⟩
    · exact Or.inl ⟨by omega, h2⟩
    · exact Or.inr ⟨by omega, by simpa using h2, fun q => h3 ⟨by omega, q.2⟩⟩
theorem stJ_get : ∀ (L : List (Option Value)) (i : Nat) (v : Value) (j : Nat) (w : Value), (stJ L i v)[j]? = some (some w) → (j = i ∧ w = v) ∨ (j ≠ i ∧ j ≠ i + 1 ∧ L[j]? = some (some w) ∧ ¬ (j + 1 = i ∧ w.category = 2))
  | [], i, v, j, w, h => by simp [stJ] at h
  | a :: t, 0, v, 0, w, h => by
    simp [stJ] at h
    exact Or.inl ⟨rfl, h.symm⟩
  | [a], 0, v, j + 1, w, h => by
    simp [stJ] at h
  | a :: b :: t, 0, v, 1, w, h => by
    simp [stJ] at h
  | a :: b :: t, 0, v, j + 2, w, h => by
    simp [stJ] at h
    exact Or.inr ⟨by omega, by omega, by simpa using h, by omega⟩
  | a :: t, 1, v, 0, w, h => by
    simp [stJ] at h
    obtain ⟨h1, h2⟩ := kil_some h
    exact Or.inr ⟨by omega, by omega, by simpa using h1, fun q => h2 q.2⟩
  | a :: t, 1, v, j + 1, w, h => by
    simp only [stJ, List.getElem?_cons_succ] at h
    rcases stJ_get t 0 v j w h with ⟨h1, h2⟩ | ⟨h1, h2, h3, h4⟩
    · exact Or.inl ⟨by omega, h2⟩
    · exact Or.inr ⟨by omega, by omega, by simpa using h3, by omega⟩
  | a :: t, n + 2, v, 0, w, h => by
    simp [stJ] at h
    exact Or.inr ⟨by omega, by omega, by simpa using h, by omega⟩
  | a :: t, n + 2, v, j + 1, w, h => by
    simp only [stJ, List.getElem?_cons_succ] at h
    rcases stJ_get t (n + 1) v j w h with ⟨h1, h2⟩ | ⟨h1, h2, h3, h4⟩
    · exact Or.inl ⟨by omega, h2⟩
    · exact Or.inr ⟨by omega, by omega, by simpa using h3, fun q => h4 ⟨by omega, q.2⟩⟩
/-- the listed locals as the kit has them -/
def lvl (ad : Nat → Nat) (L : List (Option Value)) : List (Nat × Value) := (List.range L.length).filterMap (fun i => (L[i]?).bind (fun a => a.map (fun v => (i, cV ad v))))
theorem lvl_in {ad : Nat → Nat} {L : List (Option Value)} {q : Nat × Value} (h : q ∈ lvl ad L) : ∃ v, L[q.1]? = some (some v) ∧ q.2 = cV ad v := by
  obtain ⟨i, hi, h⟩ := List.mem_filterMap.mp h
  cases e : L[i]? with
  | none => rw [e] at h; cases h
  | some a =>
    rw [e] at h
    cases a with
    | none => cases h
    | some v => cases h; exact ⟨v, e, rfl⟩
theorem lvl_mem {ad : Nat → Nat} {L : List (Option Value)} {i : Nat} {v : Value} (h : L[i]? = some (some v)) : (i, cV ad v) ∈ lvl ad L := by
  refine List.mem_filterMap.mpr ⟨i, List.mem_range.mpr (List.getElem?_eq_some_iff.mp h).1, ?_⟩
  rw [h]
  rfl
theorem LH.has {ad : Nat → Nat} {ls : Array Slot} {nL : Nat} {L : List (Option Value)} (h : LH ad ls nL L) : lv_has ls nL (lvl ad L) := ⟨h.1, h.2.1, fun q hq => by
  obtain ⟨v, h1, h2⟩ := lvl_in hq
  rw [h2]
  exact h.2.2 _ _ h1⟩
theorem LH.get {ad : Nat → Nat} {ls : Array Slot} {nL : Nat} {L : List (Option Value)} (h : LH ad ls nL L) {i : Nat} {v : Value} (hv : L[i]? = some (some v)) : ls[i]? = some (.val (cV ad v)) := h.2.2 i v hv
theorem LH.st {ad : Nat → Nat} {ls' : Array Slot} {nL : Nat} {L : List (Option Value)} {i : Nat} {v : Value} (h : lv_has ls' nL ((i, cV ad v) :: (lvl ad L).filter (fun q => !(q.1 == i) && !(q.1 + 1 == i && q.2.category == 2)))) : LH ad ls' nL (stL L i v) := by
  refine ⟨h.1, h.2.1, fun j w hw => ?_⟩
  rcases stL_get L i v j w hw with ⟨rfl, rfl⟩ | ⟨h1, h2, h3⟩
  · exact h.2.2 _ List.mem_cons_self
  · refine h.2.2 (j, cV ad w) (List.mem_cons_of_mem _ (List.mem_filter.mpr ⟨lvl_mem h2, ?_⟩))
    simp only [Bool.and_eq_true, Bool.not_eq_true', beq_eq_false_iff_ne, ne_eq, Bool.and_eq_false_iff, cV_cat]
    exact ⟨h1, by
      by_cases a : j + 1 = i
      · exact Or.inr (fun q => h3 ⟨a, q⟩)
      · exact Or.inl a⟩
theorem LH.stj {ad : Nat → Nat} {ls' : Array Slot} {nL : Nat} {L : List (Option Value)} {i : Nat} {v : Value} (h : lv_has ls' nL ((i, cV ad v) :: (lvl ad L).filter (fun q => !(q.1 == i) && (!(q.1 == i + 1) && !(q.1 + 1 == i && q.2.category == 2))))) : LH ad ls' nL (stJ L i v) := by
  refine ⟨h.1, h.2.1, fun j w hw => ?_⟩
  rcases stJ_get L i v j w hw with ⟨rfl, rfl⟩ | ⟨h1, h2, h3, h4⟩
  · exact h.2.2 _ List.mem_cons_self
  · refine h.2.2 (j, cV ad w) (List.mem_cons_of_mem _ (List.mem_filter.mpr ⟨lvl_mem h3, ?_⟩))
    simp only [Bool.and_eq_true, Bool.not_eq_true', beq_eq_false_iff_ne, ne_eq, Bool.and_eq_false_iff, cV_cat]
    exact ⟨h1, h2, by
      by_cases a : j + 1 = i
      · exact Or.inr (fun q => h4 ⟨a, q⟩)
      · exact Or.inl a⟩
/-- fewer locals -/
def wk : List Bool → List (Option Value) → List (Option Value)
  | b :: bs, a :: t => (if b = true then a else none) :: wk bs t
  | _, _ => []
theorem wk_get : ∀ (bs : List Bool) (L : List (Option Value)) (i : Nat) (v : Value), (wk bs L)[i]? = some (some v) → L[i]? = some (some v)
  | [], L, i, v, h => by simp [wk] at h
  | b :: bs, [], i, v, h => by simp [wk] at h
  | b :: bs, a :: t, 0, v, h => by
    simp [wk] at h
    simpa using h.2
  | b :: bs, a :: t, i + 1, v, h => by
    simp only [wk, List.getElem?_cons_succ] at h ⊢
    exact wk_get bs t i v h
theorem LH.wk {ad : Nat → Nat} {ls : Array Slot} {nL : Nat} {L : List (Option Value)} (h : LH ad ls nL L) (bs : List Bool) : LH ad ls nL (wk bs L) := ⟨h.1, h.2.1, fun i v hv => h.2.2 i v (wk_get bs L i v hv)⟩
/-! ===== the rules: an instruction each, over UW ===== -/
section MR
variable {p : Program} {l : Launch} {e : Env} {R : Room} {s : State} {m : MethodId} {args : Array Value} {below : List Frame} {meth : Method} {c : Code} {cells slots : Nat} {Z : State → Prop} {D : va_G} {ad : Nat → Nat} {ac : Nat → ClassId} {A : Nat → Prop} {nL : Nat} {pc : Nat} {L : List (Option Value)} {st : List Value} {S : St} {cc : ByteArray} {own : String}
theorem mr_iconst (C : Cx p s m args c cc own nL D ad ac A) {n : Int} {v : Int32} (hd : decode cc pc = .ok (.iconst n, 1)) (hv : Int32.ofInt n = v) (k : UW p l e R s m args below meth c cells slots Z D ad ac A nL (pc + 1) L (.int v :: st) S) : UW p l e R s m args below meth c cells slots Z D ad ac A nL pc L st S := by
  intro H locs ls hP hS hL
  exact lv_iconst C.1 C.2.1 hd hv (k H locs ls hP hS hL)
theorem mr_bipush (C : Cx p s m args c cc own nL D ad ac A) {n : Int} {v : Int32} (hd : decode cc pc = .ok (.bipush n, 2)) (hv : (Int8.ofInt n).toInt32 = v) (k : UW p l e R s m args below meth c cells slots Z D ad ac A nL (pc + 2) L (.int v :: st) S) : UW p l e R s m args below meth c cells slots Z D ad ac A nL pc L st S := by
  intro H locs ls hP hS hL
  exact lv_bipush C.1 C.2.1 hd hv (k H locs ls hP hS hL)
theorem mr_sipush (C : Cx p s m args c cc own nL D ad ac A) {n : Int} {v : Int32} (hd : decode cc pc = .ok (.sipush n, 3)) (hv : (Int16.ofInt n).toInt32 = v) (k : UW p l e R s m args below meth c cells slots Z D ad ac A nL (pc + 3) L (.int v :: st) S) : UW p l e R s m args below meth c cells slots Z D ad ac A nL pc L st S := by
  intro H locs ls hP hS hL
  exact lv_sipush C.1 C.2.1 hd hv (k H locs ls hP hS hL)
theorem mr_lconst (C : Cx p s m args c cc own nL D ad ac A) {n : Fin 2} {v : Int64} (hd : decode cc pc = .ok (.lconst n, 1)) (hv : Int64.ofNat (n : Nat) = v) (k : UW p l e R s m args below meth c cells slots Z D ad ac A nL (pc + 1) L (.long v :: st) S) : UW p l e R s m args below meth c cells slots Z D ad ac A nL pc L st S := by
  intro H locs ls hP hS hL
  exact lv_lconst C.1 C.2.1 hd hv (k H locs ls hP hS hL)
theorem mr_ldc (C : Cx p s m args c cc own nL D ad ac A) {i : Nat} {v : Int32} (hd : decode cc pc = .ok (.ldc i, 2)) (hc : Cond.constant own i v ∈ gW) (k : UW p l e R s m args below meth c cells slots Z D ad ac A nL (pc + 2) L (.int v :: st) S) : UW p l e R s m args below meth c cells slots Z D ad ac A nL pc L st S := by
  intro H locs ls hP hS hL
  exact lv_ldc C.1 C.2.1 C.2.2.2.1 (C.2.2.2.2.1 _ hc) hd (k H locs ls hP hS hL)
theorem mr_ldc2 (C : Cx p s m args c cc own nL D ad ac A) {i : Nat} {v : Int64} (hd : decode cc pc = .ok (.ldc2_w i, 3)) (hc : Cond.constantLong own i v ∈ gW) (k : UW p l e R s m args below meth c cells slots Z D ad ac A nL (pc + 3) L (.long v :: st) S) : UW p l e R s m args below meth c cells slots Z D ad ac A nL pc L st S := by
  intro H locs ls hP hS hL
  exact lv_ldc2 C.1 C.2.1 C.2.2.2.1 (C.2.2.2.2.1 _ hc) hd (k H locs ls hP hS hL)
theorem mr_iload_n (C : Cx p s m args c cc own nL D ad ac A) {k0 : Fin 4} {i : Nat} {x : Int32} (hd : decode cc pc = .ok (.iload_n k0, 1)) (hi : (k0 : Nat) = i) (h : L[i]? = some (some (.int x))) (k : UW p l e R s m args below meth c cells slots Z D ad ac A nL (pc + 1) L (.int x :: st) S) : UW p l e R s m args below meth c cells slots Z D ad ac A nL pc L st S := by
  intro H locs ls hP hS hL
  exact lv_iload_n C.1 C.2.1 hd hi (hL.get h) (k H locs ls hP hS hL)
theorem mr_iload (C : Cx p s m args c cc own nL D ad ac A) {i : Nat} {x : Int32} (hd : decode cc pc = .ok (.iload i, 2)) (h : L[i]? = some (some (.int x))) (k : UW p l e R s m args below meth c cells slots Z D ad ac A nL (pc + 2) L (.int x :: st) S) : UW p l e R s m args below meth c cells slots Z D ad ac A nL pc L st S := by
  intro H locs ls hP hS hL
  exact lv_iload C.1 C.2.1 hd (hL.get h) (k H locs ls hP hS hL)
theorem mr_lload_n (C : Cx p s m args c cc own nL D ad ac A) {k0 : Fin 4} {i : Nat} {x : Int64} (hd : decode cc pc = .ok (.lload_n k0, 1)) (hi : (k0 : Nat) = i) (h : L[i]? = some (some (.long x))) (k : UW p l e R s m args below meth c cells slots Z D ad ac A nL (pc + 1) L (.long x :: st) S) : UW p l e R s m args below meth c cells slots Z D ad ac A nL pc L st S := by
  intro H locs ls hP hS hL
  exact lv_lload_n C.1 C.2.1 hd hi (hL.get h) (k H locs ls hP hS hL)
theorem mr_lload (C : Cx p s m args c cc own nL D ad ac A) {i : Nat} {x : Int64} (hd : decode cc pc = .ok (.lload i, 2)) (h : L[i]? = some (some (.long x))) (k : UW p l e R s m args below meth c cells slots Z D ad ac A nL (pc + 2) L (.long x :: st) S) : UW p l e R s m args below meth c cells slots Z D ad ac A nL pc L st S := by
  intro H locs ls hP hS hL
  exact lv_lload C.1 C.2.1 hd (hL.get h) (k H locs ls hP hS hL)
theorem mr_aload_n (C : Cx p s m args c cc own nL D ad ac A) {k0 : Fin 4} {i : Nat} {x : Nat} (hd : decode cc pc = .ok (.aload_n k0, 1)) (hi : (k0 : Nat) = i) (h : L[i]? = some (some (.ref x))) (k : UW p l e R s m args below meth c cells slots Z D ad ac A nL (pc + 1) L (.ref x :: st) S) : UW p l e R s m args below meth c cells slots Z D ad ac A nL pc L st S := by
  intro H locs ls hP hS hL
  exact lv_aload_n C.1 C.2.1 hd hi (hL.get h) (k H locs ls hP hS hL)
theorem mr_aload (C : Cx p s m args c cc own nL D ad ac A) {i : Nat} {x : Nat} (hd : decode cc pc = .ok (.aload i, 2)) (h : L[i]? = some (some (.ref x))) (k : UW p l e R s m args below meth c cells slots Z D ad ac A nL (pc + 2) L (.ref x :: st) S) : UW p l e R s m args below meth c cells slots Z D ad ac A nL pc L st S := by
  intro H locs ls hP hS hL
  exact lv_aload C.1 C.2.1 hd (hL.get h) (k H locs ls hP hS hL)
theorem mr_istore_n (C : Cx p s m args c cc own nL D ad ac A) {k0 : Fin 4} {i : Nat} {x : Int32} {L1 : List (Option Value)} (hd : decode cc pc = .ok (.istore_n k0, 1)) (hi : (k0 : Nat) = i) (hn : i < nL) (h : stL L i (.int x) = L1) (k : UW p l e R s m args below meth c cells slots Z D ad ac A nL (pc + 1) L1 st S) : UW p l e R s m args below meth c cells slots Z D ad ac A nL pc L (.int x :: st) S := by
  intro H locs ls hP hS hL
  subst h
  exact lv_istore_n C.1 C.2.1 hd hi hL.has hn rfl (fun ls1 h1 => k H locs ls1 hP hS (LH.st (v := .int x) h1))
theorem mr_istore (C : Cx p s m args c cc own nL D ad ac A) {i : Nat} {x : Int32} {L1 : List (Option Value)} (hd : decode cc pc = .ok (.istore i, 2)) (hn : i < nL) (h : stL L i (.int x) = L1) (k : UW p l e R s m args below meth c cells slots Z D ad ac A nL (pc + 2) L1 st S) : UW p l e R s m args below meth c cells slots Z D ad ac A nL pc L (.int x :: st) S := by
  intro H locs ls hP hS hL
  subst h
  exact lv_istore C.1 C.2.1 hd hL.has hn rfl (fun ls1 h1 => k H locs ls1 hP hS (LH.st (v := .int x) h1))
theorem mr_lstore_n (C : Cx p s m args c cc own nL D ad ac A) {k0 : Fin 4} {i : Nat} {x : Int64} {L1 : List (Option Value)} (hd : decode cc pc = .ok (.lstore_n k0, 1)) (hi : (k0 : Nat) = i) (hn : i + 1 < nL) (h : stJ L i (.long x) = L1) (k : UW p l e R s m args below meth c cells slots Z D ad ac A nL (pc + 1) L1 st S) : UW p l e R s m args below meth c cells slots Z D ad ac A nL pc L (.long x :: st) S := by
  intro H locs ls hP hS hL
  subst h
  exact lv_lstore_n C.1 C.2.1 hd hi hL.has hn rfl (fun ls1 h1 => k H locs ls1 hP hS (LH.stj (v := .long x) h1))
theorem mr_lstore (C : Cx p s m args c cc own nL D ad ac A) {i : Nat} {x : Int64} {L1 : List (Option Value)} (hd : decode cc pc = .ok (.lstore i, 2)) (hn : i + 1 < nL) (h : stJ L i (.long x) = L1) (k : UW p l e R s m args below meth c cells slots Z D ad ac A nL (pc + 2) L1 st S) : UW p l e R s m args below meth c cells slots Z D ad ac A nL pc L (.long x :: st) S := by
  intro H locs ls hP hS hL
  subst h
  exact lv_lstore C.1 C.2.1 hd hL.has hn rfl (fun ls1 h1 => k H locs ls1 hP hS (LH.stj (v := .long x) h1))
theorem mr_astore_n (C : Cx p s m args c cc own nL D ad ac A) {k0 : Fin 4} {i : Nat} {x : Nat} {L1 : List (Option Value)} (hd : decode cc pc = .ok (.astore_n k0, 1)) (hi : (k0 : Nat) = i) (hn : i < nL) (h : stL L i (.ref x) = L1) (k : UW p l e R s m args below meth c cells slots Z D ad ac A nL (pc + 1) L1 st S) : UW p l e R s m args below meth c cells slots Z D ad ac A nL pc L (.ref x :: st) S := by
  intro H locs ls hP hS hL
  subst h
  exact lv_astore_n C.1 C.2.1 hd hi hL.has hn rfl (fun ls1 h1 => k H locs ls1 hP hS (LH.st (v := .ref x) h1))
theorem mr_astore (C : Cx p s m args c cc own nL D ad ac A) {i : Nat} {x : Nat} {L1 : List (Option Value)} (hd : decode cc pc = .ok (.astore i, 2)) (hn : i < nL) (h : stL L i (.ref x) = L1) (k : UW p l e R s m args below meth c cells slots Z D ad ac A nL (pc + 2) L1 st S) : UW p l e R s m args below meth c cells slots Z D ad ac A nL pc L (.ref x :: st) S := by
  intro H locs ls hP hS hL
  subst h
  exact lv_astore C.1 C.2.1 hd hL.has hn rfl (fun ls1 h1 => k H locs ls1 hP hS (LH.st (v := .ref x) h1))
theorem mr_iinc (C : Cx p s m args c cc own nL D ad ac A) {i : Nat} {n : Int} {x v : Int32} {L1 : List (Option Value)} (hd : decode cc pc = .ok (.iinc i n, 3)) (h0 : L[i]? = some (some (.int x))) (hv : x + Int32.ofInt n = v) (hn : i < nL) (h : stL L i (.int v) = L1) (k : UW p l e R s m args below meth c cells slots Z D ad ac A nL (pc + 3) L1 st S) : UW p l e R s m args below meth c cells slots Z D ad ac A nL pc L st S := by
  intro H locs ls hP hS hL
  subst h
  have h2 : lv_has ls nL ((i, .int x) :: lvl ad L) := ⟨hL.1, hL.2.1, fun q hq => (List.mem_cons.mp hq).elim (fun e => by rw [e]; exact hL.get h0) (fun h => hL.has.2.2 q h)⟩
  refine lv_iinc C.1 C.2.1 hd h2 (k := 0) rfl hv hn rfl (fun ls1 h1 => k H locs ls1 hP hS (LH.st (v := .int v) ?_))
  rw [List.filter_cons_of_neg (by simp)] at h1
  exact h1
theorem mr_mask (C : Cx p s m args c cc own nL D ad ac A) {L1 : List (Option Value)} (bs : List Bool) (h : wk bs L = L1) (k : UW p l e R s m args below meth c cells slots Z D ad ac A nL pc L1 st S) : UW p l e R s m args below meth c cells slots Z D ad ac A nL pc L st S := by
  intro H locs ls hP hS hL
  subst h
  exact k H locs ls hP hS (hL.wk bs)
theorem mr_iadd (C : Cx p s m args c cc own nL D ad ac A) {x y : Int32} (hd : decode cc pc = .ok (.iadd, 1)) (k : UW p l e R s m args below meth c cells slots Z D ad ac A nL (pc + 1) L (.int (x + y) :: st) S) : UW p l e R s m args below meth c cells slots Z D ad ac A nL pc L (.int y :: .int x :: st) S := by
  intro H locs ls hP hS hL
  exact lv_iadd C.1 C.2.1 hd (k H locs ls hP hS hL)
theorem mr_isub (C : Cx p s m args c cc own nL D ad ac A) {x y : Int32} (hd : decode cc pc = .ok (.isub, 1)) (k : UW p l e R s m args below meth c cells slots Z D ad ac A nL (pc + 1) L (.int (x - y) :: st) S) : UW p l e R s m args below meth c cells slots Z D ad ac A nL pc L (.int y :: .int x :: st) S := by
  intro H locs ls hP hS hL
  exact lv_isub C.1 C.2.1 hd (k H locs ls hP hS hL)
theorem mr_imul (C : Cx p s m args c cc own nL D ad ac A) {x y : Int32} (hd : decode cc pc = .ok (.imul, 1)) (k : UW p l e R s m args below meth c cells slots Z D ad ac A nL (pc + 1) L (.int (x * y) :: st) S) : UW p l e R s m args below meth c cells slots Z D ad ac A nL pc L (.int y :: .int x :: st) S := by
  intro H locs ls hP hS hL
  exact lv_imul C.1 C.2.1 hd (k H locs ls hP hS hL)
theorem mr_iand (C : Cx p s m args c cc own nL D ad ac A) {x y : Int32} (hd : decode cc pc = .ok (.iand, 1)) (k : UW p l e R s m args below meth c cells slots Z D ad ac A nL (pc + 1) L (.int (x &&& y) :: st) S) : UW p l e R s m args below meth c cells slots Z D ad ac A nL pc L (.int y :: .int x :: st) S := by
  intro H locs ls hP hS hL
  exact lv_iand C.1 C.2.1 hd (k H locs ls hP hS hL)
theorem mr_ior (C : Cx p s m args c cc own nL D ad ac A) {x y : Int32} (hd : decode cc pc = .ok (.ior, 1)) (k : UW p l e R s m args below meth c cells slots Z D ad ac A nL (pc + 1) L (.int (x ||| y) :: st) S) : UW p l e R s m args below meth c cells slots Z D ad ac A nL pc L (.int y :: .int x :: st) S := by
  intro H locs ls hP hS hL
  exact lv_ior C.1 C.2.1 hd (k H locs ls hP hS hL)
theorem mr_ixor (C : Cx p s m args c cc own nL D ad ac A) {x y : Int32} (hd : decode cc pc = .ok (.ixor, 1)) (k : UW p l e R s m args below meth c cells slots Z D ad ac A nL (pc + 1) L (.int (x ^^^ y) :: st) S) : UW p l e R s m args below meth c cells slots Z D ad ac A nL pc L (.int y :: .int x :: st) S := by
  intro H locs ls hP hS hL
  exact lv_ixor C.1 C.2.1 hd (k H locs ls hP hS hL)
theorem mr_ishl (C : Cx p s m args c cc own nL D ad ac A) {x y : Int32} (hd : decode cc pc = .ok (.ishl, 1)) (k : UW p l e R s m args below meth c cells slots Z D ad ac A nL (pc + 1) L (.int (x <<< (y &&& 31)) :: st) S) : UW p l e R s m args below meth c cells slots Z D ad ac A nL pc L (.int y :: .int x :: st) S := by
  intro H locs ls hP hS hL
  exact lv_ishl C.1 C.2.1 hd (k H locs ls hP hS hL)
theorem mr_ishr (C : Cx p s m args c cc own nL D ad ac A) {x y : Int32} (hd : decode cc pc = .ok (.ishr, 1)) (k : UW p l e R s m args below meth c cells slots Z D ad ac A nL (pc + 1) L (.int (x >>> (y &&& 31)) :: st) S) : UW p l e R s m args below meth c cells slots Z D ad ac A nL pc L (.int y :: .int x :: st) S := by
  intro H locs ls hP hS hL
  exact lv_ishr C.1 C.2.1 hd (k H locs ls hP hS hL)
theorem mr_idiv (C : Cx p s m args c cc own nL D ad ac A) {x y : Int32} (hd : decode cc pc = .ok (.idiv, 1)) (hne : ¬ y = 0) (k : UW p l e R s m args below meth c cells slots Z D ad ac A nL (pc + 1) L (.int (x / y) :: st) S) : UW p l e R s m args below meth c cells slots Z D ad ac A nL pc L (.int y :: .int x :: st) S := by
  intro H locs ls hP hS hL
  exact lv_idiv C.1 C.2.1 hd hne (k H locs ls hP hS hL)
theorem mr_irem (C : Cx p s m args c cc own nL D ad ac A) {x y : Int32} (hd : decode cc pc = .ok (.irem, 1)) (hne : ¬ y = 0) (k : UW p l e R s m args below meth c cells slots Z D ad ac A nL (pc + 1) L (.int (x - x / y * y) :: st) S) : UW p l e R s m args below meth c cells slots Z D ad ac A nL pc L (.int y :: .int x :: st) S := by
  intro H locs ls hP hS hL
  exact lv_irem C.1 C.2.1 hd hne (k H locs ls hP hS hL)
theorem mr_ineg (C : Cx p s m args c cc own nL D ad ac A) {x : Int32} (hd : decode cc pc = .ok (.ineg, 1)) (k : UW p l e R s m args below meth c cells slots Z D ad ac A nL (pc + 1) L (.int (-x) :: st) S) : UW p l e R s m args below meth c cells slots Z D ad ac A nL pc L (.int x :: st) S := by
  intro H locs ls hP hS hL
  exact lv_ineg C.1 C.2.1 hd (k H locs ls hP hS hL)
theorem mr_ladd (C : Cx p s m args c cc own nL D ad ac A) {x y : Int64} (hd : decode cc pc = .ok (.ladd, 1)) (k : UW p l e R s m args below meth c cells slots Z D ad ac A nL (pc + 1) L (.long (x + y) :: st) S) : UW p l e R s m args below meth c cells slots Z D ad ac A nL pc L (.long y :: .long x :: st) S := by
  intro H locs ls hP hS hL
  exact lv_ladd C.1 C.2.1 hd (k H locs ls hP hS hL)
theorem mr_lsub (C : Cx p s m args c cc own nL D ad ac A) {x y : Int64} (hd : decode cc pc = .ok (.lsub, 1)) (k : UW p l e R s m args below meth c cells slots Z D ad ac A nL (pc + 1) L (.long (x - y) :: st) S) : UW p l e R s m args below meth c cells slots Z D ad ac A nL pc L (.long y :: .long x :: st) S := by
  intro H locs ls hP hS hL
  exact lv_lsub C.1 C.2.1 hd (k H locs ls hP hS hL)
theorem mr_lmul (C : Cx p s m args c cc own nL D ad ac A) {x y : Int64} (hd : decode cc pc = .ok (.lmul, 1)) (k : UW p l e R s m args below meth c cells slots Z D ad ac A nL (pc + 1) L (.long (x * y) :: st) S) : UW p l e R s m args below meth c cells slots Z D ad ac A nL pc L (.long y :: .long x :: st) S := by
  intro H locs ls hP hS hL
  exact lv_lmul C.1 C.2.1 hd (k H locs ls hP hS hL)
theorem mr_land (C : Cx p s m args c cc own nL D ad ac A) {x y : Int64} (hd : decode cc pc = .ok (.land, 1)) (k : UW p l e R s m args below meth c cells slots Z D ad ac A nL (pc + 1) L (.long (x &&& y) :: st) S) : UW p l e R s m args below meth c cells slots Z D ad ac A nL pc L (.long y :: .long x :: st) S := by
  intro H locs ls hP hS hL
  exact lv_land C.1 C.2.1 hd (k H locs ls hP hS hL)
theorem mr_lor (C : Cx p s m args c cc own nL D ad ac A) {x y : Int64} (hd : decode cc pc = .ok (.lor, 1)) (k : UW p l e R s m args below meth c cells slots Z D ad ac A nL (pc + 1) L (.long (x ||| y) :: st) S) : UW p l e R s m args below meth c cells slots Z D ad ac A nL pc L (.long y :: .long x :: st) S := by
  intro H locs ls hP hS hL
  exact lv_lor C.1 C.2.1 hd (k H locs ls hP hS hL)
theorem mr_ldiv (C : Cx p s m args c cc own nL D ad ac A) {x y : Int64} (hd : decode cc pc = .ok (.ldiv, 1)) (hne : ¬ y = 0) (k : UW p l e R s m args below meth c cells slots Z D ad ac A nL (pc + 1) L (.long (x / y) :: st) S) : UW p l e R s m args below meth c cells slots Z D ad ac A nL pc L (.long y :: .long x :: st) S := by
  intro H locs ls hP hS hL
  exact lv_ldiv C.1 C.2.1 hd hne (k H locs ls hP hS hL)
theorem mr_lrem (C : Cx p s m args c cc own nL D ad ac A) {x y : Int64} (hd : decode cc pc = .ok (.lrem, 1)) (hne : ¬ y = 0) (k : UW p l e R s m args below meth c cells slots Z D ad ac A nL (pc + 1) L (.long (x - x / y * y) :: st) S) : UW p l e R s m args below meth c cells slots Z D ad ac A nL pc L (.long y :: .long x :: st) S := by
  intro H locs ls hP hS hL
  exact lv_lrem C.1 C.2.1 hd hne (k H locs ls hP hS hL)
theorem mr_lshl (C : Cx p s m args c cc own nL D ad ac A) {x : Int64} {y : Int32} (hd : decode cc pc = .ok (.lshl, 1)) (k : UW p l e R s m args below meth c cells slots Z D ad ac A nL (pc + 1) L (.long (x <<< (y.toInt64 &&& 63)) :: st) S) : UW p l e R s m args below meth c cells slots Z D ad ac A nL pc L (.int y :: .long x :: st) S := by
  intro H locs ls hP hS hL
  exact lv_lshl C.1 C.2.1 hd rfl (k H locs ls hP hS hL)
theorem mr_lshr (C : Cx p s m args c cc own nL D ad ac A) {x : Int64} {y : Int32} (hd : decode cc pc = .ok (.lshr, 1)) (k : UW p l e R s m args below meth c cells slots Z D ad ac A nL (pc + 1) L (.long (x >>> (y.toInt64 &&& 63)) :: st) S) : UW p l e R s m args below meth c cells slots Z D ad ac A nL pc L (.int y :: .long x :: st) S := by
  intro H locs ls hP hS hL
  exact lv_lshr C.1 C.2.1 hd rfl (k H locs ls hP hS hL)
theorem mr_i2l (C : Cx p s m args c cc own nL D ad ac A) {x : Int32} (hd : decode cc pc = .ok (.i2l, 1)) (k : UW p l e R s m args below meth c cells slots Z D ad ac A nL (pc + 1) L (.long x.toInt64 :: st) S) : UW p l e R s m args below meth c cells slots Z D ad ac A nL pc L (.int x :: st) S := by
  intro H locs ls hP hS hL
  exact lv_i2l C.1 C.2.1 hd rfl (k H locs ls hP hS hL)
theorem mr_l2i (C : Cx p s m args c cc own nL D ad ac A) {x : Int64} (hd : decode cc pc = .ok (.l2i, 1)) (k : UW p l e R s m args below meth c cells slots Z D ad ac A nL (pc + 1) L (.int x.toInt32 :: st) S) : UW p l e R s m args below meth c cells slots Z D ad ac A nL pc L (.long x :: st) S := by
  intro H locs ls hP hS hL
  exact lv_l2i C.1 C.2.1 hd rfl (k H locs ls hP hS hL)
theorem mr_i2b (C : Cx p s m args c cc own nL D ad ac A) {x : Int32} (hd : decode cc pc = .ok (.i2b, 1)) (k : UW p l e R s m args below meth c cells slots Z D ad ac A nL (pc + 1) L (.int x.toInt8.toInt32 :: st) S) : UW p l e R s m args below meth c cells slots Z D ad ac A nL pc L (.int x :: st) S := by
  intro H locs ls hP hS hL
  exact lv_i2b C.1 C.2.1 hd rfl (k H locs ls hP hS hL)
theorem mr_i2s (C : Cx p s m args c cc own nL D ad ac A) {x : Int32} (hd : decode cc pc = .ok (.i2s, 1)) (k : UW p l e R s m args below meth c cells slots Z D ad ac A nL (pc + 1) L (.int x.toInt16.toInt32 :: st) S) : UW p l e R s m args below meth c cells slots Z D ad ac A nL pc L (.int x :: st) S := by
  intro H locs ls hP hS hL
  exact lv_i2s C.1 C.2.1 hd rfl (k H locs ls hP hS hL)
theorem mr_dup (C : Cx p s m args c cc own nL D ad ac A) {va : Value} (hd : decode cc pc = .ok (.dup, 1)) (hva : va.category = 1) (k : UW p l e R s m args below meth c cells slots Z D ad ac A nL (pc + 1) L (va :: va :: st) S) : UW p l e R s m args below meth c cells slots Z D ad ac A nL pc L (va :: st) S := by
  intro H locs ls hP hS hL
  exact lv_dup C.1 C.2.1 hd (by rw [cV_cat]; exact hva) (k H locs ls hP hS hL)
theorem mr_pop (C : Cx p s m args c cc own nL D ad ac A) {va : Value} (hd : decode cc pc = .ok (.pop, 1)) (hva : va.category = 1) (k : UW p l e R s m args below meth c cells slots Z D ad ac A nL (pc + 1) L st S) : UW p l e R s m args below meth c cells slots Z D ad ac A nL pc L (va :: st) S := by
  intro H locs ls hP hS hL
  exact lv_pop C.1 C.2.1 hd (by rw [cV_cat]; exact hva) (k H locs ls hP hS hL)
theorem mr_dup_x1 (C : Cx p s m args c cc own nL D ad ac A) {va vb : Value} (hd : decode cc pc = .ok (.dup_x1, 1)) (hva : va.category = 1) (hvb : vb.category = 1) (k : UW p l e R s m args below meth c cells slots Z D ad ac A nL (pc + 1) L (va :: vb :: va :: st) S) : UW p l e R s m args below meth c cells slots Z D ad ac A nL pc L (va :: vb :: st) S := by
  intro H locs ls hP hS hL
  exact lv_dup_x1 C.1 C.2.1 hd (by rw [cV_cat]; exact hva) (by rw [cV_cat]; exact hvb) (k H locs ls hP hS hL)
theorem mr_dup2 (C : Cx p s m args c cc own nL D ad ac A) {va vb : Value} (hd : decode cc pc = .ok (.dup2, 1)) (hva : va.category = 1) (hvb : vb.category = 1) (k : UW p l e R s m args below meth c cells slots Z D ad ac A nL (pc + 1) L (va :: vb :: va :: vb :: st) S) : UW p l e R s m args below meth c cells slots Z D ad ac A nL pc L (va :: vb :: st) S := by
  intro H locs ls hP hS hL
  exact lv_dup2_11 C.1 C.2.1 hd (by rw [cV_cat]; exact hva) (by rw [cV_cat]; exact hvb) (k H locs ls hP hS hL)
theorem mr_dup2l (C : Cx p s m args c cc own nL D ad ac A) {va : Value} (hd : decode cc pc = .ok (.dup2, 1)) (hva : va.category = 2) (k : UW p l e R s m args below meth c cells slots Z D ad ac A nL (pc + 1) L (va :: va :: st) S) : UW p l e R s m args below meth c cells slots Z D ad ac A nL pc L (va :: st) S := by
  intro H locs ls hP hS hL
  exact lv_dup2_2 C.1 C.2.1 hd (by rw [cV_cat]; exact hva) (k H locs ls hP hS hL)
theorem mr_if_eq (C : Cx p s m args c cc own nL D ad ac A) {x : Int32} {off : Int} {tgt : Nat} (hd : decode cc pc = .ok (.ifCond .eq off, 3)) (ht : (pc : Int) + off = (tgt : Int)) (k1 : x = 0 → UW p l e R s m args below meth c cells slots Z D ad ac A nL tgt L st S) (k2 : ¬ x = 0 → UW p l e R s m args below meth c cells slots Z D ad ac A nL (pc + 3) L st S) : UW p l e R s m args below meth c cells slots Z D ad ac A nL pc L (.int x :: st) S := by
  intro H locs ls hP hS hL
  exact lv_if_eq C.1 C.2.1 hd ht (fun h => k1 h H locs ls hP hS hL) (fun h => k2 h H locs ls hP hS hL)
theorem mr_icmp_eq (C : Cx p s m args c cc own nL D ad ac A) {x y : Int32} {off : Int} {tgt : Nat} (hd : decode cc pc = .ok (.if_icmp .eq off, 3)) (ht : (pc : Int) + off = (tgt : Int)) (k1 : x = y → UW p l e R s m args below meth c cells slots Z D ad ac A nL tgt L st S) (k2 : ¬ x = y → UW p l e R s m args below meth c cells slots Z D ad ac A nL (pc + 3) L st S) : UW p l e R s m args below meth c cells slots Z D ad ac A nL pc L (.int y :: .int x :: st) S := by
  intro H locs ls hP hS hL
  exact lv_icmp_eq C.1 C.2.1 hd ht (fun h => k1 h H locs ls hP hS hL) (fun h => k2 h H locs ls hP hS hL)
theorem mr_if_ne (C : Cx p s m args c cc own nL D ad ac A) {x : Int32} {off : Int} {tgt : Nat} (hd : decode cc pc = .ok (.ifCond .ne off, 3)) (ht : (pc : Int) + off = (tgt : Int)) (k1 : ¬ x = 0 → UW p l e R s m args below meth c cells slots Z D ad ac A nL tgt L st S) (k2 : x = 0 → UW p l e R s m args below meth c cells slots Z D ad ac A nL (pc + 3) L st S) : UW p l e R s m args below meth c cells slots Z D ad ac A nL pc L (.int x :: st) S := by
  intro H locs ls hP hS hL
  exact lv_if_ne C.1 C.2.1 hd ht (fun h => k1 h H locs ls hP hS hL) (fun h => k2 h H locs ls hP hS hL)
theorem mr_icmp_ne (C : Cx p s m args c cc own nL D ad ac A) {x y : Int32} {off : Int} {tgt : Nat} (hd : decode cc pc = .ok (.if_icmp .ne off, 3)) (ht : (pc : Int) + off = (tgt : Int)) (k1 : ¬ x = y → UW p l e R s m args below meth c cells slots Z D ad ac A nL tgt L st S) (k2 : x = y → UW p l e R s m args below meth c cells slots Z D ad ac A nL (pc + 3) L st S) : UW p l e R s m args below meth c cells slots Z D ad ac A nL pc L (.int y :: .int x :: st) S := by
  intro H locs ls hP hS hL
  exact lv_icmp_ne C.1 C.2.1 hd ht (fun h => k1 h H locs ls hP hS hL) (fun h => k2 h H locs ls hP hS hL)
theorem mr_if_lt (C : Cx p s m args c cc own nL D ad ac A) {x : Int32} {off : Int} {tgt : Nat} (hd : decode cc pc = .ok (.ifCond .lt off, 3)) (ht : (pc : Int) + off = (tgt : Int)) (k1 : x < 0 → UW p l e R s m args below meth c cells slots Z D ad ac A nL tgt L st S) (k2 : ¬ x < 0 → UW p l e R s m args below meth c cells slots Z D ad ac A nL (pc + 3) L st S) : UW p l e R s m args below meth c cells slots Z D ad ac A nL pc L (.int x :: st) S := by
  intro H locs ls hP hS hL
  exact lv_if_lt C.1 C.2.1 hd ht (fun h => k1 h H locs ls hP hS hL) (fun h => k2 h H locs ls hP hS hL)
theorem mr_icmp_lt (C : Cx p s m args c cc own nL D ad ac A) {x y : Int32} {off : Int} {tgt : Nat} (hd : decode cc pc = .ok (.if_icmp .lt off, 3)) (ht : (pc : Int) + off = (tgt : Int)) (k1 : x < y → UW p l e R s m args below meth c cells slots Z D ad ac A nL tgt L st S) (k2 : ¬ x < y → UW p l e R s m args below meth c cells slots Z D ad ac A nL (pc + 3) L st S) : UW p l e R s m args below meth c cells slots Z D ad ac A nL pc L (.int y :: .int x :: st) S := by
  intro H locs ls hP hS hL
  exact lv_icmp_lt C.1 C.2.1 hd ht (fun h => k1 h H locs ls hP hS hL) (fun h => k2 h H locs ls hP hS hL)
theorem mr_if_ge (C : Cx p s m args c cc own nL D ad ac A) {x : Int32} {off : Int} {tgt : Nat} (hd : decode cc pc = .ok (.ifCond .ge off, 3)) (ht : (pc : Int) + off = (tgt : Int)) (k1 : 0 ≤ x → UW p l e R s m args below meth c cells slots Z D ad ac A nL tgt L st S) (k2 : ¬ 0 ≤ x → UW p l e R s m args below meth c cells slots Z D ad ac A nL (pc + 3) L st S) : UW p l e R s m args below meth c cells slots Z D ad ac A nL pc L (.int x :: st) S := by
  intro H locs ls hP hS hL
  exact lv_if_ge C.1 C.2.1 hd ht (fun h => k1 h H locs ls hP hS hL) (fun h => k2 h H locs ls hP hS hL)
theorem mr_icmp_ge (C : Cx p s m args c cc own nL D ad ac A) {x y : Int32} {off : Int} {tgt : Nat} (hd : decode cc pc = .ok (.if_icmp .ge off, 3)) (ht : (pc : Int) + off = (tgt : Int)) (k1 : y ≤ x → UW p l e R s m args below meth c cells slots Z D ad ac A nL tgt L st S) (k2 : ¬ y ≤ x → UW p l e R s m args below meth c cells slots Z D ad ac A nL (pc + 3) L st S) : UW p l e R s m args below meth c cells slots Z D ad ac A nL pc L (.int y :: .int x :: st) S := by
  intro H locs ls hP hS hL
  exact lv_icmp_ge C.1 C.2.1 hd ht (fun h => k1 h H locs ls hP hS hL) (fun h => k2 h H locs ls hP hS hL)
theorem mr_if_gt (C : Cx p s m args c cc own nL D ad ac A) {x : Int32} {off : Int} {tgt : Nat} (hd : decode cc pc = .ok (.ifCond .gt off, 3)) (ht : (pc : Int) + off = (tgt : Int)) (k1 : 0 < x → UW p l e R s m args below meth c cells slots Z D ad ac A nL tgt L st S) (k2 : ¬ 0 < x → UW p l e R s m args below meth c cells slots Z D ad ac A nL (pc + 3) L st S) : UW p l e R s m args below meth c cells slots Z D ad ac A nL pc L (.int x :: st) S := by
  intro H locs ls hP hS hL
  exact lv_if_gt C.1 C.2.1 hd ht (fun h => k1 h H locs ls hP hS hL) (fun h => k2 h H locs ls hP hS hL)
theorem mr_icmp_gt (C : Cx p s m args c cc own nL D ad ac A) {x y : Int32} {off : Int} {tgt : Nat} (hd : decode cc pc = .ok (.if_icmp .gt off, 3)) (ht : (pc : Int) + off = (tgt : Int)) (k1 : y < x → UW p l e R s m args below meth c cells slots Z D ad ac A nL tgt L st S) (k2 : ¬ y < x → UW p l e R s m args below meth c cells slots Z D ad ac A nL (pc + 3) L st S) : UW p l e R s m args below meth c cells slots Z D ad ac A nL pc L (.int y :: .int x :: st) S := by
  intro H locs ls hP hS hL
  exact lv_icmp_gt C.1 C.2.1 hd ht (fun h => k1 h H locs ls hP hS hL) (fun h => k2 h H locs ls hP hS hL)
theorem mr_if_le (C : Cx p s m args c cc own nL D ad ac A) {x : Int32} {off : Int} {tgt : Nat} (hd : decode cc pc = .ok (.ifCond .le off, 3)) (ht : (pc : Int) + off = (tgt : Int)) (k1 : x ≤ 0 → UW p l e R s m args below meth c cells slots Z D ad ac A nL tgt L st S) (k2 : ¬ x ≤ 0 → UW p l e R s m args below meth c cells slots Z D ad ac A nL (pc + 3) L st S) : UW p l e R s m args below meth c cells slots Z D ad ac A nL pc L (.int x :: st) S := by
  intro H locs ls hP hS hL
  exact lv_if_le C.1 C.2.1 hd ht (fun h => k1 h H locs ls hP hS hL) (fun h => k2 h H locs ls hP hS hL)
theorem mr_icmp_le (C : Cx p s m args c cc own nL D ad ac A) {x y : Int32} {off : Int} {tgt : Nat} (hd : decode cc pc = .ok (.if_icmp .le off, 3)) (ht : (pc : Int) + off = (tgt : Int)) (k1 : x ≤ y → UW p l e R s m args below meth c cells slots Z D ad ac A nL tgt L st S) (k2 : ¬ x ≤ y → UW p l e R s m args below meth c cells slots Z D ad ac A nL (pc + 3) L st S) : UW p l e R s m args below meth c cells slots Z D ad ac A nL pc L (.int y :: .int x :: st) S := by
  intro H locs ls hP hS hL
  exact lv_icmp_le C.1 C.2.1 hd ht (fun h => k1 h H locs ls hP hS hL) (fun h => k2 h H locs ls hP hS hL)
theorem mr_lcmp_eq (C : Cx p s m args c cc own nL D ad ac A) {x y : Int64} {off : Int} {tgt : Nat} (hd0 : decode cc pc = .ok (.lcmp, 1)) (hd : decode cc (pc + 1) = .ok (.ifCond .eq off, 3)) (ht : ((pc + 1 : Nat) : Int) + off = (tgt : Int)) (k1 : x = y → UW p l e R s m args below meth c cells slots Z D ad ac A nL tgt L st S) (k2 : ¬ x = y → UW p l e R s m args below meth c cells slots Z D ad ac A nL (pc + 1 + 3) L st S) : UW p l e R s m args below meth c cells slots Z D ad ac A nL pc L (.long y :: .long x :: st) S := by
  intro H locs ls hP hS hL
  exact W.lcmp C.1 C.2.1 hd0 (lv_if_eq C.1 C.2.1 hd ht (fun h => k1 ((lg_cmp_eq x y).mp h) H locs ls hP hS hL) (fun h => k2 (fun q => h ((lg_cmp_eq x y).mpr q)) H locs ls hP hS hL))
theorem mr_lcmp_ne (C : Cx p s m args c cc own nL D ad ac A) {x y : Int64} {off : Int} {tgt : Nat} (hd0 : decode cc pc = .ok (.lcmp, 1)) (hd : decode cc (pc + 1) = .ok (.ifCond .ne off, 3)) (ht : ((pc + 1 : Nat) : Int) + off = (tgt : Int)) (k1 : ¬ x = y → UW p l e R s m args below meth c cells slots Z D ad ac A nL tgt L st S) (k2 : x = y → UW p l e R s m args below meth c cells slots Z D ad ac A nL (pc + 1 + 3) L st S) : UW p l e R s m args below meth c cells slots Z D ad ac A nL pc L (.long y :: .long x :: st) S := by
  intro H locs ls hP hS hL
  exact W.lcmp C.1 C.2.1 hd0 (lv_if_ne C.1 C.2.1 hd ht (fun h => k1 (fun q => h ((lg_cmp_eq x y).mpr q)) H locs ls hP hS hL) (fun h => k2 ((lg_cmp_eq x y).mp h) H locs ls hP hS hL))
theorem mr_lcmp_lt (C : Cx p s m args c cc own nL D ad ac A) {x y : Int64} {off : Int} {tgt : Nat} (hd0 : decode cc pc = .ok (.lcmp, 1)) (hd : decode cc (pc + 1) = .ok (.ifCond .lt off, 3)) (ht : ((pc + 1 : Nat) : Int) + off = (tgt : Int)) (k1 : x < y → UW p l e R s m args below meth c cells slots Z D ad ac A nL tgt L st S) (k2 : ¬ x < y → UW p l e R s m args below meth c cells slots Z D ad ac A nL (pc + 1 + 3) L st S) : UW p l e R s m args below meth c cells slots Z D ad ac A nL pc L (.long y :: .long x :: st) S := by
  intro H locs ls hP hS hL
  exact W.lcmp C.1 C.2.1 hd0 (lv_if_lt C.1 C.2.1 hd ht (fun h => k1 ((lg_cmp_lt x y).mp h) H locs ls hP hS hL) (fun h => k2 (fun q => h ((lg_cmp_lt x y).mpr q)) H locs ls hP hS hL))
theorem mr_lcmp_ge (C : Cx p s m args c cc own nL D ad ac A) {x y : Int64} {off : Int} {tgt : Nat} (hd0 : decode cc pc = .ok (.lcmp, 1)) (hd : decode cc (pc + 1) = .ok (.ifCond .ge off, 3)) (ht : ((pc + 1 : Nat) : Int) + off = (tgt : Int)) (k1 : y ≤ x → UW p l e R s m args below meth c cells slots Z D ad ac A nL tgt L st S) (k2 : ¬ y ≤ x → UW p l e R s m args below meth c cells slots Z D ad ac A nL (pc + 1 + 3) L st S) : UW p l e R s m args below meth c cells slots Z D ad ac A nL pc L (.long y :: .long x :: st) S := by
  intro H locs ls hP hS hL
  exact W.lcmp C.1 C.2.1 hd0 (lv_if_ge C.1 C.2.1 hd ht (fun h => k1 ((lg_cmp_ge x y).mp h) H locs ls hP hS hL) (fun h => k2 (fun q => h ((lg_cmp_ge x y).mpr q)) H locs ls hP hS hL))
theorem mr_lcmp_gt (C : Cx p s m args c cc own nL D ad ac A) {x y : Int64} {off : Int} {tgt : Nat} (hd0 : decode cc pc = .ok (.lcmp, 1)) (hd : decode cc (pc + 1) = .ok (.ifCond .gt off, 3)) (ht : ((pc + 1 : Nat) : Int) + off = (tgt : Int)) (k1 : y < x → UW p l e R s m args below meth c cells slots Z D ad ac A nL tgt L st S) (k2 : ¬ y < x → UW p l e R s m args below meth c cells slots Z D ad ac A nL (pc + 1 + 3) L st S) : UW p l e R s m args below meth c cells slots Z D ad ac A nL pc L (.long y :: .long x :: st) S := by
  intro H locs ls hP hS hL
  exact W.lcmp C.1 C.2.1 hd0 (lv_if_gt C.1 C.2.1 hd ht (fun h => k1 ((lg_cmp_gt x y).mp h) H locs ls hP hS hL) (fun h => k2 (fun q => h ((lg_cmp_gt x y).mpr q)) H locs ls hP hS hL))
theorem mr_lcmp_le (C : Cx p s m args c cc own nL D ad ac A) {x y : Int64} {off : Int} {tgt : Nat} (hd0 : decode cc pc = .ok (.lcmp, 1)) (hd : decode cc (pc + 1) = .ok (.ifCond .le off, 3)) (ht : ((pc + 1 : Nat) : Int) + off = (tgt : Int)) (k1 : x ≤ y → UW p l e R s m args below meth c cells slots Z D ad ac A nL tgt L st S) (k2 : ¬ x ≤ y → UW p l e R s m args below meth c cells slots Z D ad ac A nL (pc + 1 + 3) L st S) : UW p l e R s m args below meth c cells slots Z D ad ac A nL pc L (.long y :: .long x :: st) S := by
  intro H locs ls hP hS hL
  exact W.lcmp C.1 C.2.1 hd0 (lv_if_le C.1 C.2.1 hd ht (fun h => k1 ((lg_cmp_le x y).mp h) H locs ls hP hS hL) (fun h => k2 (fun q => h ((lg_cmp_le x y).mpr q)) H locs ls hP hS hL))
theorem mr_goto (C : Cx p s m args c cc own nL D ad ac A) {off : Int} {tgt : Nat} (hd : decode cc pc = .ok (.goto off, 3)) (ht : (pc : Int) + off = (tgt : Int)) (k : UW p l e R s m args below meth c cells slots Z D ad ac A nL tgt L st S) : UW p l e R s m args below meth c cells slots Z D ad ac A nL pc L st S := by
  intro H locs ls hP hS hL
  exact lv_goto C.1 C.2.1 hd ht (k H locs ls hP hS hL)
theorem mr_tsIn (C : Cx p s m args c cc own nL D ad ac A) {dflt lo hi : Int} {offs : Array Int} {len : Nat} {x : Int32} {off : Int} {tgt : Nat} (hd : decode cc pc = .ok (.tableswitch dflt lo hi offs, len)) (v : Int32) (hx : x = v) (h1 : ¬ v.toInt < lo) (h2 : ¬ hi < v.toInt) (ho : offs[(v.toInt - lo).toNat]? = some off) (ht : (pc : Int) + off = (tgt : Int)) (k : UW p l e R s m args below meth c cells slots Z D ad ac A nL tgt L st S) : UW p l e R s m args below meth c cells slots Z D ad ac A nL pc L (.int x :: st) S := by
  intro H locs ls hP hS hL
  subst hx
  exact lv_tableIn C.1 C.2.1 hd h1 h2 ho ht (k H locs ls hP hS hL)
theorem mr_tsOut (C : Cx p s m args c cc own nL D ad ac A) {dflt lo hi : Int} {offs : Array Int} {len : Nat} {x : Int32} {tgt : Nat} (hd : decode cc pc = .ok (.tableswitch dflt lo hi offs, len)) (h : x.toInt < lo ∨ hi < x.toInt) (ht : (pc : Int) + dflt = (tgt : Int)) (k : UW p l e R s m args below meth c cells slots Z D ad ac A nL tgt L st S) : UW p l e R s m args below meth c cells slots Z D ad ac A nL pc L (.int x :: st) S := by
  intro H locs ls hP hS hL
  exact lv_tableOut C.1 C.2.1 hd h ht (k H locs ls hP hS hL)
theorem mr_ls (C : Cx p s m args c cc own nL D ad ac A) {dflt : Int} {ps : Array (Int × Int)} {len : Nat} {x : Int32} {off : Int} {tgt : Nat} (hd : decode cc pc = .ok (.lookupswitch dflt ps, len)) (hp : (ps.toList.zip (ps.toList.drop 1)).all (fun (a, next) => a.1 < next.1) = true) (ho : Op.lookupswitch.offset ps.toList dflt x.toInt = off) (ht : (pc : Int) + off = (tgt : Int)) (k : UW p l e R s m args below meth c cells slots Z D ad ac A nL tgt L st S) : UW p l e R s m args below meth c cells slots Z D ad ac A nL pc L (.int x :: st) S := by
  intro H locs ls hP hS hL
  exact lv_lookup C.1 C.2.1 hd hp ho ht (k H locs ls hP hS hL)
def isB (x : Int32) : Prop := x = 0 ∨ x = 1
theorem isB_n {x : Int32} (h : isB x) : narrow .boolean (.int x) = .int x := by rcases h with rfl | rfl <;> rfl
theorem isB_f {x : Int32} (h : isB x) : fits .boolean (.int x) = true := by rcases h with rfl | rfl <;> rfl
/-- a field's row of the pool: the class that it stands in, its place there, whether final, its type -/
def FL (own : String) (index ci k : Nat) (fin : Bool) (fty : FieldType) : Prop := ∃ (C : String) (T : u_T) (N : Nat) (ty : Nat → FieldType), vwCl[ci]? = some (C, T, N) ∧ k < N ∧ (T k).1 = C ∧ (∀ w ∈ u_ws C T N, w ∈ gW) ∧ (∀ j, j < N → parseFieldDescriptor (T j).2.2.1 = some (ty j)) ∧ (∀ a, a < N → ∀ b, b < N → a ≠ b → (T a).2.1 ≠ (T b).2.1) ∧
  (Cond.fieldLink own index C (T k).2.1 (T k).2.2.1 ∈ gW ∨ ∃ host, Cond.fieldLinkNest own index C (T k).2.1 (T k).2.2.1 host ∈ nW) ∧ (T k).2.2.2 = fin ∧ ty k = fty
theorem mr_get0 (C : Cx p s m args c cc own nL D ad ac A) {index ci k q : Nat} {fin : Bool} {fty : FieldType} {fks : List (Nat ⊕ Bool)} {fk : Nat ⊕ Bool} {v : Value} (hd : decode cc pc = .ok (.getfield index, 3)) (hf : FL own index ci k fin fty) (hq : q < NC) (hl : lay q = .inl (ci, fks)) (hk : fks[k]? = some fk) (hv : ∀ ad : Nat → Nat, fv1 ad (S.1 q) (S.2 q) k fk = cV ad v) (kk : UW p l e R s m args below meth c cells slots Z D ad ac A nL (pc + 3) L (v :: st) S) : UW p l e R s m args below meth c cells slots Z D ad ac A nL pc L (.ref q :: st) S := by
  intro H locs ls hP hS hL
  obtain ⟨C0, T, N, ty, h1, h2, h3, h4, h5, h6, h7, h8, h9⟩ := hf
  obtain ⟨hx, hb, hml, hown, hts, hnw, hK, hinj, hA⟩ := C
  have he : (wld ad ac S)[q]? = some (ad q, .inr (ci, fvs ad (S.1 q) (S.2 q) 0 fks)) := by
    rw [wld_get ad ac S hq]
    simp only [cel, hl, celE]
  have hv2 : (fvs ad (S.1 q) (S.2 q) 0 fks)[k]? = some (cV ad v) := by
    rw [fvs_get, hk, Nat.zero_add]
    simp [hv ad]
  rcases h7 with h7 | ⟨host, h7⟩
  · exact va_get hx hb hts h4 hown hK hP q he h1 k h2 (hts _ h7) (fun x hx2 => by rw [h3] at hx2; exact hx2) hv2 hd (kk H locs ls hP hS hL)
  · exact va_getN hx hb hts h4 hown hK hP q he h1 k h2 (nw_use h7 (hnw _ h7)) (fun x hx2 => by rw [h3] at hx2; exact hx2) hv2 hd (kk H locs ls hP hS hL)
theorem mr_getI (C : Cx p s m args c cc own nL D ad ac A) {index ci k q : Nat} {fin : Bool} {fty : FieldType} {fks : List (Nat ⊕ Bool)} (hd : decode cc pc = .ok (.getfield index, 3)) (hf : FL own index ci k fin fty) (hq : q < NC) (hl : lay q = .inl (ci, fks)) (hk : fks[k]? = some (.inr false)) (kk : UW p l e R s m args below meth c cells slots Z D ad ac A nL (pc + 3) L (.int (S.1 q k) :: st) S) : UW p l e R s m args below meth c cells slots Z D ad ac A nL pc L (.ref q :: st) S := mr_get0 C hd hf hq hl hk (fun _ => rfl) kk
theorem mr_getJ (C : Cx p s m args c cc own nL D ad ac A) {index ci k q : Nat} {fin : Bool} {fty : FieldType} {fks : List (Nat ⊕ Bool)} (hd : decode cc pc = .ok (.getfield index, 3)) (hf : FL own index ci k fin fty) (hq : q < NC) (hl : lay q = .inl (ci, fks)) (hk : fks[k]? = some (.inr true)) (kk : UW p l e R s m args below meth c cells slots Z D ad ac A nL (pc + 3) L (.long (S.2 q k) :: st) S) : UW p l e R s m args below meth c cells slots Z D ad ac A nL pc L (.ref q :: st) S := mr_get0 C hd hf hq hl hk (fun _ => rfl) kk
theorem mr_getR (C : Cx p s m args c cc own nL D ad ac A) {index ci k q r : Nat} {fin : Bool} {fty : FieldType} {fks : List (Nat ⊕ Bool)} (hd : decode cc pc = .ok (.getfield index, 3)) (hf : FL own index ci k fin fty) (hq : q < NC) (hl : lay q = .inl (ci, fks)) (hk : fks[k]? = some (.inl r)) (kk : UW p l e R s m args below meth c cells slots Z D ad ac A nL (pc + 3) L (.ref r :: st) S) : UW p l e R s m args below meth c cells slots Z D ad ac A nL pc L (.ref q :: st) S := mr_get0 C hd hf hq hl hk (fun _ => rfl) kk
theorem mr_put0 (C : Cx p s m args c cc own nL D ad ac A) {index ci k q : Nat} {fty : FieldType} {fks : List (Nat ⊕ Bool)} {v : Value} {S' : St} (hd : decode cc pc = .ok (.putfield index, 3)) (hf : FL own index ci k false fty) (hq : q < NC) (hl : lay q = .inl (ci, fks)) (hk : k < fks.length) (hv : ∀ ad : Nat → Nat, cV ad v = v) (hn : narrow fty v = v) (hfit : fits fty v = true)
    (hs : ∀ ad : Nat → Nat, (fvs ad (S.1 q) (S.2 q) 0 fks).set k v = fvs ad (S'.1 q) (S'.2 q) 0 fks) (hs1 : ∀ x, x ≠ q → S'.1 x = S.1 x) (hs2 : ∀ x, x ≠ q → S'.2 x = S.2 x) (kk : UW p l e R s m args below meth c cells slots Z D ad ac A nL (pc + 3) L st S') : UW p l e R s m args below meth c cells slots Z D ad ac A nL pc L (v :: .ref q :: st) S := by
  intro H locs ls hP hS hL
  obtain ⟨C0, T, N, ty, h1, h2, h3, h4, h5, h6, h7, h8, h9⟩ := hf
  obtain ⟨hx, hb, hml, hown, hts, hnw, hK, hinj, hA⟩ := C
  have he : (wld ad ac S)[q]? = some (ad q, .inr (ci, fvs ad (S.1 q) (S.2 q) 0 fks)) := by
    rw [wld_get ad ac S hq]
    simp only [cel, hl, celE]
  have hw : (wld ad ac S).set q (ad q, .inr (ci, (fvs ad (S.1 q) (S.2 q) 0 fks).set k v)) = wld ad ac S' := wld_set (by simp only [cel, hl, celE, hs ad]) hs1 hs2
  have hd2 : parseFieldDescriptor (T k).2.2.1 = some fty := by rw [h5 k h2, h9]
  have hl2 : k < (fvs ad (S.1 q) (S.2 q) 0 fks).length := by rw [fvs_len]; exact hk
  show W p l e R s m args below meth c H locs cells slots Z (F0 m pc ls (cV ad v :: .ref (ad q) :: st.map (cV ad)))
  rw [hv ad]
  rcases h7 with h7 | ⟨host, h7⟩
  · exact va_put hx hb hts h4 ty h5 h6 hown hK hP (wld_D hinj hA S) hS q he h1 k h2 (hts _ h7) (fun x hx2 => by rw [h3] at hx2; exact hx2) h8 hd2 hn hfit hl2 hd (fun H1 locs1 g1 _ g3 => kk H1 locs1 ls (by rw [← hw]; exact g1) g3 hL)
  · exact va_putN hx hb hts h4 ty h5 h6 hown hK hP (wld_D hinj hA S) hS q he h1 k h2 (nw_use h7 (hnw _ h7)) (fun x hx2 => by rw [h3] at hx2; exact hx2) h8 hd2 hn hfit hl2 hd (fun H1 locs1 g1 _ g3 => kk H1 locs1 ls (by rw [← hw]; exact g1) g3 hL)
theorem mr_putI (C : Cx p s m args c cc own nL D ad ac A) {index ci k q : Nat} {fty : FieldType} {fks : List (Nat ⊕ Bool)} {x : Int32} (hd : decode cc pc = .ok (.putfield index, 3)) (hf : FL own index ci k false fty) (hq : q < NC) (hl : lay q = .inl (ci, fks)) (hk : fks[k]? = some (.inr false)) (hn : narrow fty (.int x) = .int x) (hfit : fits fty (.int x) = true) (kk : UW p l e R s m args below meth c cells slots Z D ad ac A nL (pc + 3) L st (sI S q k x)) : UW p l e R s m args below meth c cells slots Z D ad ac A nL pc L (.int x :: .ref q :: st) S :=
  mr_put0 (S' := sI S q k x) C hd hf hq hl (List.getElem?_eq_some_iff.mp hk).1 (fun _ => rfl) hn hfit (fun ad => by rw [fvs_setI hk, sI_eq, sI_2]) (fun x h => sI_ne S k _ h) (fun x _ => rfl) kk
theorem mr_putJ (C : Cx p s m args c cc own nL D ad ac A) {index ci k q : Nat} {fks : List (Nat ⊕ Bool)} {x : Int64} (hd : decode cc pc = .ok (.putfield index, 3)) (hf : FL own index ci k false .long) (hq : q < NC) (hl : lay q = .inl (ci, fks)) (hk : fks[k]? = some (.inr true)) (kk : UW p l e R s m args below meth c cells slots Z D ad ac A nL (pc + 3) L st (sJ S q k x)) : UW p l e R s m args below meth c cells slots Z D ad ac A nL pc L (.long x :: .ref q :: st) S :=
  mr_put0 (S' := sJ S q k x) C hd hf hq hl (List.getElem?_eq_some_iff.mp hk).1 (fun _ => rfl) rfl rfl (fun ad => by rw [fvs_setJ hk, sJ_eq, sJ_1]) (fun x _ => rfl) (fun x h => sJ_ne S k _ h) kk
theorem mr_iald (C : Cx p s m args c cc own nL D ad ac A) {q n : Nat} {rs : List Nat} {i : Int32} (hd : decode cc pc = .ok (.iaload, 1)) (hq : q < NC) (hl : lay q = .inr (0, n, rs)) (hin : vp_in i n) (kk : UW p l e R s m args below meth c cells slots Z D ad ac A nL (pc + 1) L (.int (S.1 q i.toNatClampNeg) :: st) S) : UW p l e R s m args below meth c cells slots Z D ad ac A nL pc L (.int i :: .ref q :: st) S := by
  intro H locs ls hP hS hL
  exact va_iald C.1 C.2.1 C.2.2.2.2.2.2.1 hP q q (cA := ac q) (n := n) (f := S.1 q) (by rw [wld_get ad ac S hq]; simp only [cel, hl, celE]) (by rw [tys_get ac hq, hl]; rfl) hin hd (kk H locs ls hP hS hL)
theorem mr_lald (C : Cx p s m args c cc own nL D ad ac A) {q n : Nat} {rs : List Nat} {i : Int32} (hd : decode cc pc = .ok (.laload, 1)) (hq : q < NC) (hl : lay q = .inr (1, n, rs)) (hin : vp_in i n) (kk : UW p l e R s m args below meth c cells slots Z D ad ac A nL (pc + 1) L (.long (S.2 q i.toNatClampNeg) :: st) S) : UW p l e R s m args below meth c cells slots Z D ad ac A nL pc L (.int i :: .ref q :: st) S := by
  intro H locs ls hP hS hL
  exact va_lald C.1 C.2.1 C.2.2.2.2.2.2.1 hP q q (cA := ac q) (n := n) (f := S.2 q) (by rw [wld_get ad ac S hq]; simp only [cel, hl, celE]) (by rw [tys_get ac hq, hl]; rfl) hin hd (kk H locs ls hP hS hL)
theorem mr_iast (C : Cx p s m args c cc own nL D ad ac A) {q n : Nat} {rs : List Nat} {i x : Int32} (hd : decode cc pc = .ok (.iastore, 1)) (hq : q < NC) (hl : lay q = .inr (0, n, rs)) (hin : vp_in i n) (kk : UW p l e R s m args below meth c cells slots Z D ad ac A nL (pc + 1) L st (sI S q i.toNatClampNeg x)) : UW p l e R s m args below meth c cells slots Z D ad ac A nL pc L (.int x :: .int i :: .ref q :: st) S := by
  intro H locs ls hP hS hL
  obtain ⟨hx, hb, hml, hown, hts, hnw, hK, hinj, hA⟩ := C
  have hw : (wld ad ac S).set q (ad q, .inl (ac q, n, .inl (upd (S.1 q) i.toNatClampNeg x))) = wld ad ac (sI S q i.toNatClampNeg x) := wld_set (by simp only [cel, hl, celE, sI_eq]) (fun y h => sI_ne S _ _ h) (fun _ _ => rfl)
  exact va_iast hx hb hK hP (wld_D hinj hA S) hS q q (cA := ac q) (n := n) (f := S.1 q) (by rw [wld_get ad ac S hq]; simp only [cel, hl, celE]) (by rw [tys_get ac hq, hl]; rfl) hin hd (fun H1 locs1 g1 _ g3 => kk H1 locs1 ls (by rw [← hw]; exact g1) g3 hL)
theorem mr_last (C : Cx p s m args c cc own nL D ad ac A) {q n : Nat} {rs : List Nat} {i : Int32} {x : Int64} (hd : decode cc pc = .ok (.lastore, 1)) (hq : q < NC) (hl : lay q = .inr (1, n, rs)) (hin : vp_in i n) (kk : UW p l e R s m args below meth c cells slots Z D ad ac A nL (pc + 1) L st (sJ S q i.toNatClampNeg x)) : UW p l e R s m args below meth c cells slots Z D ad ac A nL pc L (.long x :: .int i :: .ref q :: st) S := by
  intro H locs ls hP hS hL
  obtain ⟨hx, hb, hml, hown, hts, hnw, hK, hinj, hA⟩ := C
  have hw : (wld ad ac S).set q (ad q, .inl (ac q, n, .inr (.inl (vp_updL (S.2 q) i.toNatClampNeg x)))) = wld ad ac (sJ S q i.toNatClampNeg x) := wld_set (by simp only [cel, hl, celE, sJ_eq]) (fun _ _ => rfl) (fun y h => sJ_ne S _ _ h)
  exact va_last hx hb hK hP (wld_D hinj hA S) hS q q (cA := ac q) (n := n) (f := S.2 q) (by rw [wld_get ad ac S hq]; simp only [cel, hl, celE]) (by rw [tys_get ac hq, hl]; rfl) hin hd (fun H1 locs1 g1 _ g3 => kk H1 locs1 ls (by rw [← hw]; exact g1) g3 hL)
theorem mr_aald (C : Cx p s m args c cc own nL D ad ac A) {q n d r : Nat} {rs : List Nat} {i : Int32} (hd : decode cc pc = .ok (.aaload, 1)) (hq : q < NC) (hl : lay q = .inr (d + 2, n, rs)) (hin : vp_in i n) (hr : rs[i.toNatClampNeg]? = some r) (kk : UW p l e R s m args below meth c cells slots Z D ad ac A nL (pc + 1) L (.ref r :: st) S) : UW p l e R s m args below meth c cells slots Z D ad ac A nL pc L (.int i :: .ref q :: st) S := by
  intro H locs ls hP hS hL
  have hlt : i.toNatClampNeg < n := Nat.not_le.mp fun q => hin (Or.inr q)
  have hc := hP q _ (wld_get ad ac S hq)
  have hw : H[ad q]? = some (arrV (ac q) n (fun j => va_rf ((rs[j]?).map ad))) := by
    have h1 : va_at D vwCl (ad q, cel ad ac S q) H := hc
    simp only [va_at, cel, hl, celE] at h1
    exact h1
  have ht := (C.2.2.2.2.2.2.1.2 q _ (tys_get ac hq)).1 n (fun j => va_rf ((rs[j]?).map ad))
  have hty : (tyE (lay q)).isReference = true := by
    rw [hl]
    cases d <;> rfl
  refine W.aald (v := .ref (ad r)) (ty := tyE (lay q)) C.1 C.2.1 hw ht hty (fun q => by cases q) (by show ¬ (i < 0 ∨ (arrV _ _ _).slots.size ≤ _); rw [arrV_size]; exact hin) ?_ rfl rfl hd (kk H locs ls hP hS hL)
  show (arrV _ _ _).slots[_]? = _
  rw [arrV_read _ _ hlt, hr]
  rfl
theorem mr_alen (C : Cx p s m args c cc own nL D ad ac A) {q n : Nat} {rs : List Nat} (hd : decode cc pc = .ok (.arraylength, 1)) (hq : q < NC) (hl : lay q = .inr (0, n, rs)) (kk : UW p l e R s m args below meth c cells slots Z D ad ac A nL (pc + 1) L (.int (Int32.ofNat n) :: st) S) : UW p l e R s m args below meth c cells slots Z D ad ac A nL pc L (.ref q :: st) S := by
  intro H locs ls hP hS hL
  exact va_alen C.1 C.2.1 C.2.2.2.2.2.2.1 hP q q (cA := ac q) (x := (n, .inl (S.1 q))) (by rw [wld_get ad ac S hq]; simp only [cel, hl, celE]) (tys_get ac hq) rfl hd (kk H locs ls hP hS hL)
theorem mr_copy (C : Cx p s m args c cc own nL D ad ac A) {q0 q1 n0 n1 index : Nat} {rs0 rs1 : List Nat} {sp dp n : Int32} (hd : decode cc pc = .ok (.invokestatic index, 3)) (hw1 : Cond.methodLink own index arraycopyName ∈ gW) (hw2 : Cond.native arraycopyName ∈ gW) (hw3 : Cond.static arraycopyName ∈ gW) (hw4 : Cond.initialized "java/lang/System" ∈ gW) (hf : 1 ≤ R.frames) (hl0 : (st.map fun v => v.category).sum + 18 ≤ R.locals)
    (hq0 : q0 < NC) (hq1 : q1 < NC) (hy0 : lay q0 = .inr (0, n0, rs0)) (hy1 : lay q1 = .inr (0, n1, rs1)) (h1 : ¬ sp < 0) (h2 : ¬ dp < 0) (h3 : ¬ n < 0) (h4 : sp.toNatClampNeg + n.toNatClampNeg ≤ n0) (h5 : dp.toNatClampNeg + n.toNatClampNeg ≤ n1)
    (kk : UW p l e R s m args below meth c cells slots Z D ad ac A nL (pc + 3) L st (sF S q1 (va_cpy (S.1 q0) (S.1 q1) sp.toNatClampNeg dp.toNatClampNeg n.toNatClampNeg))) : UW p l e R s m args below meth c cells slots Z D ad ac A nL pc L (.int n :: .int dp :: .ref q1 :: .int sp :: .ref q0 :: st) S := by
  intro H locs ls hP hS hL
  obtain ⟨hx, hb, hml, hown, hts, hnw, hK, hinj, hA⟩ := C
  generalize hF : va_cpy (S.1 q0) (S.1 q1) sp.toNatClampNeg dp.toNatClampNeg n.toNatClampNeg = F at kk
  have hw : (wld ad ac S).set q1 (ad q1, .inl (ac q1, n1, .inl F)) = wld ad ac (sF S q1 F) := wld_set (by simp [cel, hy1, celE, sF]) (fun y h => by simp [sF, h]) (fun _ _ => rfl)
  refine va_copyi hx hb (hml.trans hL.1.symm) hown (hts _ hw1) (hts _ hw2) (hts _ hw3) (hts _ hw4) hK hP (wld_D hinj hA S) hS q0 q1 q0 q1 (c0 := ac q0) (c1 := ac q1) (n0 := n0) (n1 := n1) (f := S.1 q0) (g := S.1 q1) (ty := .int) (by rw [wld_get ad ac S hq0]; simp only [cel, hy0, celE]) (by rw [wld_get ad ac S hq1]; simp only [cel, hy1, celE]) (by rw [tys_get ac hq0, hy0]; rfl) (by rw [tys_get ac hq1, hy1]; rfl) rfl h1 h2 h3 h4 h5 (fun _ _ => rfl) hf ?_ hd (fun H1 locs1 g1 _ g3 => kk H1 locs1 ls (by rw [← hw, ← hF]; exact g1) g3 hL)
  have e1 : ((st.map (cV ad)).map fun v => v.category) = st.map fun v => v.category := by
    rw [List.map_map]
    exact List.map_congr_left (fun v _ => cV_cat ad v)
  rw [e1]
  exact hl0
theorem mr_iret {Q : Option Value → St → Prop} {x : Int32} (C : Cx p s m args c cc own nL D ad ac (adA ad)) (hr : meth.sig.returnType = some .int) (hlk : meth.locks = false) (hd : decode cc pc = .ok (.ireturn, 1)) (h : Q (some (.int x)) S) : UW p l e R s m args below meth c cells slots (MQ below (QQ D ad ac Q) args s cells slots (adA ad)) D ad ac (adA ad) nL pc L [.int x] S := by
  intro H locs ls hP hS hL
  exact W.iret C.1 C.2.1 hr (fun t ht hW => ⟨⟨some (.int x), S, rfl, h, by rw [ht]; exact hP⟩, hS.F ht⟩) hS.2.2 hd hlk
theorem mr_lret {Q : Option Value → St → Prop} {x : Int64} (C : Cx p s m args c cc own nL D ad ac (adA ad)) (hr : meth.sig.returnType = some .long) (hlk : meth.locks = false) (hd : decode cc pc = .ok (.lreturn, 1)) (h : Q (some (.long x)) S) : UW p l e R s m args below meth c cells slots (MQ below (QQ D ad ac Q) args s cells slots (adA ad)) D ad ac (adA ad) nL pc L [.long x] S := by
  intro H locs ls hP hS hL
  exact W.lret C.1 C.2.1 hr (fun t ht hW => ⟨⟨some (.long x), S, rfl, h, by rw [ht]; exact hP⟩, hS.F ht⟩) hS.2.2 hd hlk
theorem mr_zret {Q : Option Value → St → Prop} {x : Int32} (C : Cx p s m args c cc own nL D ad ac (adA ad)) (hr : meth.sig.returnType = some .boolean) (hlk : meth.locks = false) (hd : decode cc pc = .ok (.ireturn, 1)) (hn : narrow .boolean (.int x) = .int x) (h : Q (some (.int x)) S) : UW p l e R s m args below meth c cells slots (MQ below (QQ D ad ac Q) args s cells slots (adA ad)) D ad ac (adA ad) nL pc L [.int x] S := by
  intro H locs ls hP hS hL
  exact W.zret C.1 C.2.1 hr hn (fun t ht hW => ⟨⟨some (.int x), S, rfl, h, by rw [ht]; exact hP⟩, hS.F ht⟩) hS.2.2 hd hlk
theorem mr_vret {Q : Option Value → St → Prop} (C : Cx p s m args c cc own nL D ad ac (adA ad)) (hr : meth.sig.returnType = none) (hlk : meth.locks = false) (hd : decode cc pc = .ok (.return_, 1)) (h : Q none S) : UW p l e R s m args below meth c cells slots (MQ below (QQ D ad ac Q) args s cells slots (adA ad)) D ad ac (adA ad) nL pc L [] S := by
  intro H locs ls hP hS hL
  exact W.vret C.1 C.2.1 hr (fun t ht hW => ⟨⟨none, S, rfl, h, by rw [ht]; exact hP⟩, hS.F ht⟩) hS.2.2 hd hlk
/-! calls -/
def goodIn_y (y : MD) : Prop := Cond.code y.1 y.2.1 y.2.2.1 y.2.2.2.1 ∈ gW ∧ Cond.initialized y.1.cls ∈ gW ∧ y.1.cls ≠ "java/lang/invoke/MethodHandle" ∧ y.1.cls ≠ "java/lang/invoke/VarHandle" ∧ True
/-- what the tables say of a callee that is not static -/
def CLV (y : MD) : Prop := goodIn_y y ∧ Cond.instanceMethod y.1 ∈ gW ∧ Cond.selects y.1.cls y.1 y.1 ∈ gW
def CLS (y : MD) : Prop := goodIn_y y ∧ Cond.static y.1 ∈ gW
theorem PreW_blind {D : va_G} {ad : Nat → Nat} {ac : Nat → ClassId} {S : St} {av : List Value} : FrameBlind (va_Pc av (PreW D ad ac S)) := fun a U g mk q => ⟨q.1, q.2.1, va_K.moved (u := U) (U := U.calling g mk a) (Vm.Alike.refl U.vm) q.2.2.1, fun w hw => nw_same hw (rfl : U.vm = (U.calling g mk a).vm) (q.2.2.2.1 w hw), q.2.2.2.2⟩
theorem mr_run (C : Cx p s m args c cc own nL D ad ac A) {Q : Option Value → St → Prop} {a : Array Value} {st0 : List Value} {ls : Array Slot} {H : Heap} {locs : List Loc} (hr : va_Run p l e R s m args below meth c H locs cells slots 0 0 (F0 m pc ls st0) (st.map (cV ad)) (QQ D ad ac Q a) (adA ad)) (hS : va_S A s.heap H locs) (hL : LH ad ls nL L)
    (kk : ∀ (r : Option Value) (S' : St), Q r S' → UW p l e R s m args below meth c cells slots Z D ad ac A nL (pc + 3) L (r.toList ++ st) S') : W p l e R s m args below meth c H locs cells slots Z (F0 m pc ls st0) := by
  obtain ⟨hx, hb, hml, hown, hts, hnw, hK, hinj, hA⟩ := C
  have hAA : ∀ q, adA ad q → A q := fun q h => by
    obtain ⟨p, hp, rfl⟩ := h
    exact hA p hp
  intro T hT X
  obtain ⟨v, st₀, t, T', L9, h0, X', hL9, e1, e2, ⟨⟨r, S', hv, hq, hP'⟩, hz, hk⟩, st9⟩ := hr T hT X
  cases hv
  rw [h0] at hz hk
  obtain ⟨t2, a1, b1⟩ := kk r S' hq T'.heap (locs ++ L9) ls (by rw [e1]; exact hP') ⟨Nat.le_trans hS.1 (by rw [e1]; exact hz), fun q h1 h2 => by
      rw [e1, hk q (Nat.lt_of_lt_of_le h1 hS.1) (fun z => h2 (hAA q z))]
      exact hS.2.1 q h1 h2, fun q hq => by
      rcases List.mem_append.mp hq with h | h
      · exact hS.2.2 q h
      · exact hAA _ (hL9 q h)⟩ hL T' rfl X'
  refine ⟨t2, st9 t2 ?_, b1⟩
  have e3 : (r.toList ++ st).map (cV ad) = (r.map (cV ad)).toList ++ st.map (cV ad) := by
    rw [List.map_append]
    cases r <;> rfl
  rw [e3] at a1
  exact a1
theorem mr_callV (C : Cx p s m args c cc own nL D ad ac A) (y : MD) {index q : Nat} {fks : List (Nat ⊕ Bool)} {ci : Nat} {T : u_T} {N : Nat} {as : List Value} {stk : List Value} {Q : Option Value → St → Prop} (hd : decode cc pc = .ok (.invokevirtual index, 3)) (hy : CLV y) (hlink : Cond.methodLink own index y.1 ∈ gW) (hq : q < NC) (hl : lay q = .inl (ci, fks)) (hcl : vwCl[ci]? = some (y.1.cls, T, N)) (hn : (parseMethodDescriptor y.1.desc).map (fun d => d.parameters.length) = some as.length) (hst : stk = as.reverse ++ .ref q :: st) (hw : (st.map fun v => v.category).sum ≤ 8) (hfr : y.2.2.2.2 + 1 ≤ R.frames) (hlo : 8 + (y.2.2.1 + 11) + 38 * y.2.2.2.2 ≤ R.locals) (hfit : cells ≤ R.cells ∧ slots ≤ R.slots)
    (hc : CallV y (.ref q :: as) S Q) (kk : ∀ (r : Option Value) (S' : St), Q r S' → UW p l e R s m args below meth c cells slots Z D ad ac A nL (pc + 3) L (r.toList ++ st) S') : UW p l e R s m args below meth c cells slots Z D ad ac A nL pc L stk S := by
  intro H locs ls hP hS hL
  obtain ⟨⟨g1, g2, g3, g4, g5⟩, g6, g7⟩ := hy
  obtain ⟨hx, hb, hml, hown, hts, hnw, hK, hinj, hA⟩ := id C
  refine mr_run C (a := (Value.ref (ad q) :: as.map (cV ad)).toArray) (va_runV (As := as.map (cV ad)) (C := y.1.cls) (Ts := gW) (own := own) (nL := nL) ⟨hx, hb, hml, hown, hts⟩ (hc l D ad ac) ⟨callB_of as.length hts (fun w hw => ?_) rfl rfl rfl (hts _ g2) (hts _ hlink) ⟨g3, g4, hn⟩ ⟨hfr, hlo⟩, hts _ g6, hts _ g7⟩ ⟨PreW_blind, va_recv hK hP hcl (q0 := q) (a := ad q) (fs := fvs ad (S.1 q) (S.2 q) 0 fks) (by rw [wld_get ad ac S hq]; simp only [cel, hl, celE]), fun U hU hW => ⟨rfl, by rw [hU]; exact hP, va_K.moved hW.alike hK, fun w hw => nw_warm hw hW (hnw w hw), hinj⟩⟩ rfl (by simp) hL.1 (by rw [hst]; simp; rfl) ?_ hd hfit) hS hL kk
  · rcases List.mem_cons.mp hw with rfl | hw
    · exact ⟨g1, gW_good g1⟩
    · exact ⟨hw, gW_good hw⟩
  · have e1 : ((st.map (cV ad)).map fun v => v.category) = st.map fun v => v.category := by
      rw [List.map_map]
      exact List.map_congr_left (fun v _ => cV_cat ad v)
    rw [e1]
    show 2 * 0 + _ ≤ 8
    omega
theorem mr_callS (C : Cx p s m args c cc own nL D ad ac A) (y : MD) {index : Nat} {as : List Value} {stk : List Value} {Q : Option Value → St → Prop} (hd : decode cc pc = .ok (.invokestatic index, 3)) (hy : CLS y) (hlink : Cond.methodLink own index y.1 ∈ gW) (hn : (parseMethodDescriptor y.1.desc).map (fun d => d.parameters.length) = some as.length) (hst : stk = as.reverse ++ st) (hw : (st.map fun v => v.category).sum ≤ 8) (hfr : y.2.2.2.2 + 1 ≤ R.frames) (hlo : 8 + (y.2.2.1 + 11) + 38 * y.2.2.2.2 ≤ R.locals) (hfit : cells ≤ R.cells ∧ slots ≤ R.slots)
    (hc : CallV y as S Q) (kk : ∀ (r : Option Value) (S' : St), Q r S' → UW p l e R s m args below meth c cells slots Z D ad ac A nL (pc + 3) L (r.toList ++ st) S') : UW p l e R s m args below meth c cells slots Z D ad ac A nL pc L stk S := by
  intro H locs ls hP hS hL
  obtain ⟨⟨g1, g2, g3, g4, g5⟩, g6⟩ := hy
  obtain ⟨hx, hb, hml, hown, hts, hnw, hK, hinj, hA⟩ := id C
  refine mr_run C (a := (as.map (cV ad)).toArray) (va_runS (As := as.map (cV ad)) (Ts := gW) (own := own) (nL := nL) ⟨hx, hb, hml, hown, hts⟩ (hc l D ad ac) ⟨callB_of as.length hts (fun w hw => ?_) rfl rfl rfl (hts _ g2) (hts _ hlink) ⟨g3, g4, hn⟩ ⟨hfr, hlo⟩, hts _ g6⟩ ⟨PreW_blind, fun U hU hW => ⟨rfl, by rw [hU]; exact hP, va_K.moved hW.alike hK, fun w hw => nw_warm hw hW (hnw w hw), hinj⟩⟩ rfl (by simp) hL.1 (by rw [hst]; simp) ?_ hd hfit) hS hL kk
  · rcases List.mem_cons.mp hw with rfl | hw
    · exact ⟨g1, gW_good g1⟩
    · exact ⟨hw, gW_good hw⟩
  · have e1 : ((st.map (cV ad)).map fun v => v.category) = st.map fun v => v.category := by
      rw [List.map_map]
      exact List.map_congr_left (fun v _ => cV_cat ad v)
    rw [e1]
    show 2 * 0 + _ ≤ 8
    omega
theorem mr_callVI (C : Cx p s m args c cc own nL D ad ac A) (y : MD) {index q : Nat} {fks : List (Nat ⊕ Bool)} {ci : Nat} {T : u_T} {N : Nat} {as : List Value} {stk : List Value} {F : Int32 → St → Prop} (hd : decode cc pc = .ok (.invokevirtual index, 3)) (hy : CLV y) (hlink : Cond.methodLink own index y.1 ∈ gW) (hq : q < NC) (hl : lay q = .inl (ci, fks)) (hcl : vwCl[ci]? = some (y.1.cls, T, N)) (hn : (parseMethodDescriptor y.1.desc).map (fun d => d.parameters.length) = some as.length) (hst : stk = as.reverse ++ .ref q :: st) (hw : (st.map fun v => v.category).sum ≤ 8) (hfr : y.2.2.2.2 + 1 ≤ R.frames) (hlo : 8 + (y.2.2.1 + 11) + 38 * y.2.2.2.2 ≤ R.locals) (hfit : cells ≤ R.cells ∧ slots ≤ R.slots) (hc : CallV y (.ref q :: as) S (qI F)) (kk : ∀ (x : Int32) (S' : St), F x S' → UW p l e R s m args below meth c cells slots Z D ad ac A nL (pc + 3) L (.int x :: st) S') : UW p l e R s m args below meth c cells slots Z D ad ac A nL pc L stk S :=
  mr_callV C y hd hy hlink hq hl hcl hn hst hw hfr hlo hfit hc (fun r S' h => by
    obtain ⟨x, rfl, h⟩ := h
    exact kk x S' h)
theorem mr_callVJ (C : Cx p s m args c cc own nL D ad ac A) (y : MD) {index q : Nat} {fks : List (Nat ⊕ Bool)} {ci : Nat} {T : u_T} {N : Nat} {as : List Value} {stk : List Value} {F : Int64 → St → Prop} (hd : decode cc pc = .ok (.invokevirtual index, 3)) (hy : CLV y) (hlink : Cond.methodLink own index y.1 ∈ gW) (hq : q < NC) (hl : lay q = .inl (ci, fks)) (hcl : vwCl[ci]? = some (y.1.cls, T, N)) (hn : (parseMethodDescriptor y.1.desc).map (fun d => d.parameters.length) = some as.length) (hst : stk = as.reverse ++ .ref q :: st) (hw : (st.map fun v => v.category).sum ≤ 8) (hfr : y.2.2.2.2 + 1 ≤ R.frames) (hlo : 8 + (y.2.2.1 + 11) + 38 * y.2.2.2.2 ≤ R.locals) (hfit : cells ≤ R.cells ∧ slots ≤ R.slots) (hc : CallV y (.ref q :: as) S (qJ F)) (kk : ∀ (x : Int64) (S' : St), F x S' → UW p l e R s m args below meth c cells slots Z D ad ac A nL (pc + 3) L (.long x :: st) S') : UW p l e R s m args below meth c cells slots Z D ad ac A nL pc L stk S :=
  mr_callV C y hd hy hlink hq hl hcl hn hst hw hfr hlo hfit hc (fun r S' h => by
    obtain ⟨x, rfl, h⟩ := h
    exact kk x S' h)
theorem mr_callVV (C : Cx p s m args c cc own nL D ad ac A) (y : MD) {index q : Nat} {fks : List (Nat ⊕ Bool)} {ci : Nat} {T : u_T} {N : Nat} {as : List Value} {stk : List Value} {F : St → Prop} (hd : decode cc pc = .ok (.invokevirtual index, 3)) (hy : CLV y) (hlink : Cond.methodLink own index y.1 ∈ gW) (hq : q < NC) (hl : lay q = .inl (ci, fks)) (hcl : vwCl[ci]? = some (y.1.cls, T, N)) (hn : (parseMethodDescriptor y.1.desc).map (fun d => d.parameters.length) = some as.length) (hst : stk = as.reverse ++ .ref q :: st) (hw : (st.map fun v => v.category).sum ≤ 8) (hfr : y.2.2.2.2 + 1 ≤ R.frames) (hlo : 8 + (y.2.2.1 + 11) + 38 * y.2.2.2.2 ≤ R.locals) (hfit : cells ≤ R.cells ∧ slots ≤ R.slots) (hc : CallV y (.ref q :: as) S (qV F)) (kk : ∀ (S' : St), F S' → UW p l e R s m args below meth c cells slots Z D ad ac A nL (pc + 3) L st S') : UW p l e R s m args below meth c cells slots Z D ad ac A nL pc L stk S :=
  mr_callV C y hd hy hlink hq hl hcl hn hst hw hfr hlo hfit hc (fun r S' h => by
    obtain ⟨rfl, h⟩ := h
    exact kk S' h)
theorem mr_callSI (C : Cx p s m args c cc own nL D ad ac A) (y : MD) {index : Nat} {as : List Value} {stk : List Value} {F : Int32 → St → Prop} (hd : decode cc pc = .ok (.invokestatic index, 3)) (hy : CLS y) (hlink : Cond.methodLink own index y.1 ∈ gW) (hn : (parseMethodDescriptor y.1.desc).map (fun d => d.parameters.length) = some as.length) (hst : stk = as.reverse ++ st) (hw : (st.map fun v => v.category).sum ≤ 8) (hfr : y.2.2.2.2 + 1 ≤ R.frames) (hlo : 8 + (y.2.2.1 + 11) + 38 * y.2.2.2.2 ≤ R.locals) (hfit : cells ≤ R.cells ∧ slots ≤ R.slots) (hc : CallV y as S (qI F)) (kk : ∀ (x : Int32) (S' : St), F x S' → UW p l e R s m args below meth c cells slots Z D ad ac A nL (pc + 3) L (.int x :: st) S') : UW p l e R s m args below meth c cells slots Z D ad ac A nL pc L stk S :=
  mr_callS C y hd hy hlink hn hst hw hfr hlo hfit hc (fun r S' h => by
    obtain ⟨x, rfl, h⟩ := h
    exact kk x S' h)
theorem mr_callSJ (C : Cx p s m args c cc own nL D ad ac A) (y : MD) {index : Nat} {as : List Value} {stk : List Value} {F : Int64 → St → Prop} (hd : decode cc pc = .ok (.invokestatic index, 3)) (hy : CLS y) (hlink : Cond.methodLink own index y.1 ∈ gW) (hn : (parseMethodDescriptor y.1.desc).map (fun d => d.parameters.length) = some as.length) (hst : stk = as.reverse ++ st) (hw : (st.map fun v => v.category).sum ≤ 8) (hfr : y.2.2.2.2 + 1 ≤ R.frames) (hlo : 8 + (y.2.2.1 + 11) + 38 * y.2.2.2.2 ≤ R.locals) (hfit : cells ≤ R.cells ∧ slots ≤ R.slots) (hc : CallV y as S (qJ F)) (kk : ∀ (x : Int64) (S' : St), F x S' → UW p l e R s m args below meth c cells slots Z D ad ac A nL (pc + 3) L (.long x :: st) S') : UW p l e R s m args below meth c cells slots Z D ad ac A nL pc L stk S :=
  mr_callS C y hd hy hlink hn hst hw hfr hlo hfit hc (fun r S' h => by
    obtain ⟨x, rfl, h⟩ := h
    exact kk x S' h)
theorem mr_callSV (C : Cx p s m args c cc own nL D ad ac A) (y : MD) {index : Nat} {as : List Value} {stk : List Value} {F : St → Prop} (hd : decode cc pc = .ok (.invokestatic index, 3)) (hy : CLS y) (hlink : Cond.methodLink own index y.1 ∈ gW) (hn : (parseMethodDescriptor y.1.desc).map (fun d => d.parameters.length) = some as.length) (hst : stk = as.reverse ++ st) (hw : (st.map fun v => v.category).sum ≤ 8) (hfr : y.2.2.2.2 + 1 ≤ R.frames) (hlo : 8 + (y.2.2.1 + 11) + 38 * y.2.2.2.2 ≤ R.locals) (hfit : cells ≤ R.cells ∧ slots ≤ R.slots) (hc : CallV y as S (qV F)) (kk : ∀ (S' : St), F S' → UW p l e R s m args below meth c cells slots Z D ad ac A nL (pc + 3) L st S') : UW p l e R s m args below meth c cells slots Z D ad ac A nL pc L stk S :=
  mr_callS C y hd hy hlink hn hst hw hfr hlo hfit hc (fun r S' h => by
    obtain ⟨rfl, h⟩ := h
    exact kk S' h)
theorem mr_topI {x y : Int32} (h : x = y) (k : UW p l e R s m args below meth c cells slots Z D ad ac A nL pc L (.int y :: st) S) : UW p l e R s m args below meth c cells slots Z D ad ac A nL pc L (.int x :: st) S := h ▸ k
theorem mr_topJ {x y : Int64} (h : x = y) (k : UW p l e R s m args below meth c cells slots Z D ad ac A nL pc L (.long y :: st) S) : UW p l e R s m args below meth c cells slots Z D ad ac A nL pc L (.long x :: st) S := h ▸ k
theorem mr_st {S1 : St} (h : S = S1) (k : UW p l e R s m args below meth c cells slots Z D ad ac A nL pc L st S1) : UW p l e R s m args below meth c cells slots Z D ad ac A nL pc L st S := h ▸ k
end MR
/-- the locals at a method's entry: its arguments in their slots -/
def enL : List Value → List (Option Value)
  | [] => []
  | v :: vs => some v :: (if v.category = 2 then none :: enL vs else enL vs)
theorem enL_get (ad : Nat → Nat) : ∀ (vs : List Value) (i j : Nat) (v : Value), (enL vs)[j]? = some (some v) → (i + j, cV ad v) ∈ lv_args i (vs.map (cV ad))
  | [], i, j, v, h => by simp [enL] at h
  | a :: vs, i, 0, v, h => by
    simp [enL] at h
    subst h
    exact List.mem_cons_self
  | a :: vs, i, j + 1, v, h => by
    simp only [enL, List.getElem?_cons_succ] at h
    simp only [List.map_cons, lv_args, cV_cat]
    refine List.mem_cons_of_mem _ ?_
    by_cases hc : a.category = 2
    · rw [if_pos hc] at h ⊢
      cases j with
      | zero => simp at h
      | succ j =>
        simp only [List.getElem?_cons_succ] at h
        have := enL_get ad vs (i + 2) j v h
        rw [show i + 2 + j = i + (j + 1 + 1) by omega] at this
        exact this
    · rw [if_neg hc] at h ⊢
      have := enL_get ad vs (i + 1) j v h
      rw [show i + 1 + j = i + (j + 1) by omega] at this
      exact this
/-- a method from its entry -/
theorem CallV_of (y : MD) (hp : plainName y.1.cls = true) {as : List Value} {L : List (Option Value)} {S : St} {Q : Option Value → St → Prop} (k : Nat) (hn : (as.map fun v => v.category).sum ≤ y.2.2.1) (hL : enL as ++ List.replicate k none = L) (h : V y 0 L [] S Q) : CallV y as S Q := by
  intro l D ad ac
  refine Met.ofW (cc := y.2.1) (maxL := y.2.2.1) (ret := y.2.2.2.1) hp rfl ?_
  intro p e s m args below meth c s₁ B hml hv
  obtain ⟨rfl, hP, hK, hnw, hinj⟩ := hv
  have hts := atoms_spec (ws := .code y.1 y.2.1 y.2.2.1 y.2.2.2.1 :: gW) B.pre
  have hlen : (lg_sl (as.map (cV ad))).length ≤ y.2.2.1 := by
    refine Nat.le_trans (Nat.le_of_eq ?_) hn
    clear hn hL h hts B hP
    induction as with
    | nil => rfl
    | cons a t ih =>
      have e1 : lg_sl ((a :: t).map (cV ad)) = (if (cV ad a).category = 2 then [Slot.val (cV ad a), Slot.second] else [Slot.val (cV ad a)]) ++ lg_sl (t.map (cV ad)) := rfl
      rw [e1, List.length_append, ih, cV_cat]
      rcases lv_cat a with h | h <;> simp [h]
  have hl := lv_entry (as.map (cV ad)) (n := y.2.2.1) hlen
  rw [lg_entry_eq]
  exact h p l e s m _ below meth c D ad ac ⟨B.exec, B.bytes, hml, findClass_of_methodNamed B.named, fun w hw => hts w (List.mem_cons_of_mem _ hw), hnw, hK, hinj, fun i hi => ⟨i, hi, rfl⟩⟩ B.returns B.notSynchronized s.heap [] _ hP va_S.rf ⟨hl.1, hl.2.1, fun i v hv => by
    rw [← hL] at hv
    have hv : (enL as)[i]? = some (some v) := by
      by_cases hi : i < (enL as).length
      · rw [List.getElem?_append_left hi] at hv
        exact hv
      · rw [List.getElem?_append_right (by omega)] at hv
        have := List.eq_of_mem_replicate (List.mem_of_getElem? hv)
        cases this
    have := enL_get ad as 0 i v hv
    rw [Nat.zero_add] at this
    exact hl.2.2 _ this⟩
