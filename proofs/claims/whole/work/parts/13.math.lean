/-! ===== sums ===== -/
def sm : Nat → (Nat → Nat) → Nat
  | 0, _ => 0
  | n + 1, f => sm n f + f n
theorem sm_cong {f g : Nat → Nat} : ∀ {n : Nat}, (∀ i, i < n → f i = g i) → sm n f = sm n g
  | 0, _ => rfl
  | n + 1, h => by
    show sm n f + f n = sm n g + g n
    rw [sm_cong (fun i hi => h i (by omega)), h n (by omega)]
theorem sm_add (f g : Nat → Nat) : ∀ n, sm n (fun i => f i + g i) = sm n f + sm n g
  | 0 => rfl
  | n + 1 => by
    show sm n (fun i => f i + g i) + (f n + g n) = _
    rw [sm_add f g n]
    show _ = (sm n f + f n) + (sm n g + g n)
    omega
theorem sm_mul (a : Nat) (f : Nat → Nat) : ∀ n, sm n (fun i => f i * a) = sm n f * a
  | 0 => by simp [sm]
  | n + 1 => by
    show sm n (fun i => f i * a) + f n * a = (sm n f + f n) * a
    rw [sm_mul a f n, Nat.add_mul]
theorem sm_zero {f : Nat → Nat} : ∀ {n : Nat}, (∀ i, i < n → f i = 0) → sm n f = 0
  | 0, _ => rfl
  | n + 1, h => by
    show sm n f + f n = 0
    rw [sm_zero (fun i hi => h i (by omega)), h n (by omega)]
theorem sm_swap (f : Nat → Nat → Nat) (n : Nat) : ∀ m, sm n (fun i => sm m (fun j => f i j)) = sm m (fun j => sm n (fun i => f i j))
  | 0 => sm_zero (fun _ _ => rfl)
  | m + 1 => by
    show sm n (fun i => sm m (fun j => f i j) + f i m) = _
    rw [sm_add, sm_swap f n m]
    rfl
theorem sm_one {a : Nat} {f : Nat → Nat} : ∀ {n : Nat}, a < n → sm n (fun i => if a = i then f i else 0) = f a
  | 0, h => by omega
  | n + 1, h => by
    show sm n (fun i => if a = i then f i else 0) + (if a = n then f n else 0) = f a
    by_cases e : a = n
    · subst e
      rw [if_pos rfl, sm_zero (fun i hi => if_neg (by omega))]
      omega
    · rw [if_neg e, sm_one (show a < n by omega)]
      rfl
theorem sm_le {f g : Nat → Nat} : ∀ {n : Nat}, (∀ i, i < n → f i ≤ g i) → sm n f ≤ sm n g
  | 0, _ => Nat.le_refl _
  | n + 1, h => Nat.add_le_add (sm_le (fun i hi => h i (by omega))) (h n (by omega))
theorem sm_mono {f : Nat → Nat} {a : Nat} : ∀ {b : Nat}, a ≤ b → sm a f ≤ sm b f
  | 0, h => by rw [show a = 0 by omega]; exact Nat.le_refl _
  | b + 1, h => by
    by_cases e : a = b + 1
    · rw [e]; exact Nat.le_refl _
    · exact Nat.le_trans (sm_mono (show a ≤ b by omega)) (Nat.le_add_right _ _)
theorem sm_mem {f : Nat → Nat} : ∀ {n i : Nat}, i < n → f i ≤ sm n f
  | 0, i, h => by omega
  | n + 1, i, h => by
    show f i ≤ sm n f + f n
    by_cases e : i = n
    · subst e
      omega
    · have := sm_mem (f := f) (show i < n by omega)
      omega
theorem sm_pos {f : Nat → Nat} : ∀ {n : Nat}, 0 < sm n f → ∃ i, i < n ∧ 0 < f i
  | 0, h => by exact absurd h (by simp [sm])
  | n + 1, h => by
    have h : 0 < sm n f + f n := h
    by_cases e : 0 < f n
    · exact ⟨n, by omega, e⟩
    · obtain ⟨i, h1, h2⟩ := sm_pos (f := f) (n := n) (by omega)
      exact ⟨i, by omega, h2⟩
/-! ===== a vote from row to row ===== -/
def cl (c : Nat) : Nat := if 0 < c then c - 1 else c
def cr (w c : Nat) : Nat := if c + 1 < w then c + 1 else c
theorem cl_lt {w c : Nat} (h : c < w) : cl c < w := by unfold cl; split <;> omega
theorem cr_lt {w c : Nat} (h : c < w) : cr w c < w := by unfold cr; split <;> omega
def pM (t k s : Nat) : Nat := 8 - pL t k s - pR t k s
theorem pLMR {t k s : Nat} (ht : t ≤ 1) : pL t k s + pR t k s + pM t k s = 8 := by
  have := pLR (k := k) (s := s) ht
  unfold pM
  omega
def tw (w t k s c d : Nat) : Nat := if s = 4 then 0 else (if cl c = d then pL t k s else 0) + (if cr w c = d then pR t k s else 0) + (if c = d then pM t k s else 0)
/-- how many parts come to a column of a row -/
def fw (w t k : Nat) (sg d : Nat → Nat) : Nat → Nat → Nat
  | 0, c => d c
  | r + 1, c' => sm w (fun c => fw w t k sg d r c * tw w t k (sg (r * w + c)) c c')
/-- what a place with a sign is worth, by what the next row is worth -/
def wu (w t k s : Nat) (b : Nat → Nat) (c : Nat) : Nat := if s = 4 then 0 else pL t k s * b (cl c) + pR t k s * b (cr w c) + pM t k s * b c
/-- what a column is worth, i rows above the troughs -/
def bw (w t k : Nat) (sg : Nat → Nat) (h : Nat) (u : Nat → Nat) : Nat → Nat → Nat
  | 0, c => u c
  | i + 1, c => wu w t k (sg ((h - (i + 1)) * w + c)) (bw w t k sg h u i) c
theorem tw_sum {w t k s c : Nat} (b : Nat → Nat) (hc : c < w) : sm w (fun d => tw w t k s c d * b d) = wu w t k s b c := by
  unfold tw wu
  by_cases hs : s = 4
  · simp only [hs, if_true]
    exact sm_zero (fun i _ => by simp)
  · simp only [if_neg hs]
    have e : ∀ d, ((if cl c = d then pL t k s else 0) + (if cr w c = d then pR t k s else 0) + (if c = d then pM t k s else 0)) * b d = ((if cl c = d then pL t k s * b d else 0) + (if cr w c = d then pR t k s * b d else 0)) + (if c = d then pM t k s * b d else 0) := by
      intro d
      rw [Nat.add_mul, Nat.add_mul]
      congr 1
      · congr 1
        · split <;> simp
        · split <;> simp
      · split <;> simp
    rw [sm_cong (fun d _ => e d), sm_add, sm_add, sm_one (cl_lt hc), sm_one (cr_lt hc), sm_one hc]
/-- parts that come down, times what they are worth there: the same at each row -/
theorem dual1 {w t k h r i : Nat} {sg d u : Nat → Nat} (hr : r + (i + 1) = h) : sm w (fun c => fw w t k sg d (r + 1) c * bw w t k sg h u i c) = sm w (fun c => fw w t k sg d r c * bw w t k sg h u (i + 1) c) := by
  have e : ∀ c', fw w t k sg d (r + 1) c' * bw w t k sg h u i c' = sm w (fun c => fw w t k sg d r c * tw w t k (sg (r * w + c)) c c' * bw w t k sg h u i c') := fun c' => by
    rw [sm_mul]
    rfl
  rw [sm_cong (fun c' _ => e c'), sm_swap]
  refine sm_cong (fun c hc => ?_)
  have e2 : ∀ c', fw w t k sg d r c * tw w t k (sg (r * w + c)) c c' * bw w t k sg h u i c' = (tw w t k (sg (r * w + c)) c c' * bw w t k sg h u i c') * fw w t k sg d r c := fun c' => by
    rw [Nat.mul_assoc, Nat.mul_comm]
  rw [sm_cong (fun c' _ => e2 c'), sm_mul, tw_sum _ hc, Nat.mul_comm]
  show _ = fw w t k sg d r c * wu w t k (sg ((h - (i + 1)) * w + c)) (bw w t k sg h u i) c
  rw [show h - (i + 1) = r by omega]
theorem dual {w t k h : Nat} {sg d u : Nat → Nat} : ∀ i r, r + i = h → sm w (fun c => fw w t k sg d h c * u c) = sm w (fun c => fw w t k sg d r c * bw w t k sg h u i c)
  | 0, r, hr => by
    have : r = h := by omega
    subst this
    rfl
  | i + 1, r, hr => by
    rw [← dual1 hr]
    exact dual i (r + 1) (by omega)
/-- the parts that come down, all together, with those that stick -/
def stk (w t k : Nat) (sg d : Nat → Nat) : Nat → Nat
  | 0 => 0
  | r + 1 => stk w t k sg d r * 8 + sm w (fun c => if sg (r * w + c) = 4 then fw w t k sg d r c * 8 else 0)
theorem tw_all {w t k s c : Nat} (ht : t ≤ 1) (hc : c < w) : sm w (fun d => tw w t k s c d) = if s = 4 then 0 else 8 := by
  have h := tw_sum (w := w) (t := t) (k := k) (s := s) (c := c) (fun _ => 1) hc
  simp only [Nat.mul_one] at h
  rw [h]
  show (if s = 4 then 0 else pL t k s * 1 + pR t k s * 1 + pM t k s * 1) = _
  split
  · rfl
  · have := pLMR (t := t) (k := k) (s := s) ht
    omega
theorem fw_all {w t k : Nat} {sg d : Nat → Nat} (ht : t ≤ 1) : ∀ r, sm w (fw w t k sg d r) + stk w t k sg d r = sm w d * 8 ^ r
  | 0 => by
    show sm w d + 0 = sm w d * 8 ^ 0
    simp
  | r + 1 => by
    have ih := fw_all (k := k) (sg := sg) (d := d) (w := w) ht r
    show sm w (fun c' => sm w (fun c => fw w t k sg d r c * tw w t k (sg (r * w + c)) c c')) + (stk w t k sg d r * 8 + sm w (fun c => if sg (r * w + c) = 4 then fw w t k sg d r c * 8 else 0)) = _
    rw [sm_swap]
    have e : ∀ c, c < w → sm w (fun c' => fw w t k sg d r c * tw w t k (sg (r * w + c)) c c') + (if sg (r * w + c) = 4 then fw w t k sg d r c * 8 else 0) = fw w t k sg d r c * 8 := fun c hc => by
      have e1 : ∀ c', fw w t k sg d r c * tw w t k (sg (r * w + c)) c c' = tw w t k (sg (r * w + c)) c c' * fw w t k sg d r c := fun c' => Nat.mul_comm _ _
      rw [sm_cong (fun c' _ => e1 c'), sm_mul, tw_all ht hc]
      split
      · omega
      · rw [Nat.mul_comm]
        omega
    have e3 := sm_add (fun c => sm w (fun c' => fw w t k sg d r c * tw w t k (sg (r * w + c)) c c')) (fun c => if sg (r * w + c) = 4 then fw w t k sg d r c * 8 else 0) w
    rw [sm_cong e, sm_mul] at e3
    rw [Nat.pow_succ, ← Nat.mul_assoc, ← ih, Nat.add_mul]
    omega
theorem fw_le {w t k : Nat} {sg d : Nat → Nat} (ht : t ≤ 1) (r : Nat) {c : Nat} (hc : c < w) : fw w t k sg d r c ≤ sm w d * 8 ^ r := by
  have h1 := fw_all (w := w) (k := k) (sg := sg) (d := d) ht r
  have h2 := sm_mem (f := fw w t k sg d r) hc
  omega
theorem fw_lin {w t k : Nat} {sg d e : Nat → Nat} : ∀ r c, fw w t k sg (fun i => d i + e i) r c = fw w t k sg d r c + fw w t k sg e r c
  | 0, c => rfl
  | r + 1, c' => by
    show sm w (fun c => fw w t k sg (fun i => d i + e i) r c * tw w t k (sg (r * w + c)) c c') = _
    have h : ∀ c, fw w t k sg (fun i => d i + e i) r c * tw w t k (sg (r * w + c)) c c' = fw w t k sg d r c * tw w t k (sg (r * w + c)) c c' + fw w t k sg e r c * tw w t k (sg (r * w + c)) c c' := fun c => by rw [fw_lin r c, Nat.add_mul]
    rw [sm_cong (fun c _ => h c), sm_add]
    rfl
theorem fw_z {w t k : Nat} {sg : Nat → Nat} : ∀ r c, fw w t k sg (fun _ => 0) r c = 0
  | 0, c => rfl
  | r + 1, c' => sm_zero (fun c _ => by rw [fw_z r c, Nat.zero_mul])
theorem fw_cong {w t k : Nat} {sg sg' d d' : Nat → Nat} : ∀ r c, (∀ x, x < r * w → sg' x = sg x) → (∀ x, x < w → d' x = d x) → c < w → fw w t k sg' d' r c = fw w t k sg d r c
  | 0, c, _, h, hc => h c hc
  | r + 1, c', hs, h, _ => by
    refine sm_cong (fun c hc => ?_)
    rw [hs (r * w + c) (by rw [Nat.succ_mul]; omega), fw_cong r c (fun x hx => hs x (by rw [Nat.succ_mul]; omega)) h hc]
theorem bw_le {w t k h : Nat} {sg u : Nat → Nat} (ht : t ≤ 1) (hu : ∀ c, c < w → u c ≤ 1) : ∀ i c, c < w → bw w t k sg h u i c ≤ 8 ^ i
  | 0, c, hc => hu c hc
  | i + 1, c, hc => by
    show wu w t k (sg ((h - (i + 1)) * w + c)) (bw w t k sg h u i) c ≤ 8 ^ (i + 1)
    unfold wu
    split
    · exact Nat.zero_le _
    · rename_i hs
      generalize sg ((h - (i + 1)) * w + c) = s at *
      have h1 := bw_le (k := k) (h := h) (sg := sg) ht hu i (cl c) (cl_lt hc)
      have h2 := bw_le (k := k) (h := h) (sg := sg) ht hu i (cr w c) (cr_lt hc)
      have h3 := bw_le (k := k) (h := h) (sg := sg) ht hu i c hc
      have h4 := pLMR (t := t) (k := k) (s := s) ht
      have a1 := Nat.mul_le_mul_left (pL t k s) h1
      have a2 := Nat.mul_le_mul_left (pR t k s) h2
      have a3 := Nat.mul_le_mul_left (pM t k s) h3
      have a4 : pL t k s * 8 ^ i + pR t k s * 8 ^ i + pM t k s * 8 ^ i = 8 ^ (i + 1) := by
        rw [← Nat.add_mul, ← Nat.add_mul, h4, Nat.pow_succ, Nat.mul_comm]
      omega
theorem bw_cong {w t k h : Nat} {sg sg' u : Nat → Nat} : ∀ i c, i ≤ h → (∀ x, (h - i) * w ≤ x → x < h * w → sg' x = sg x) → c < w → bw w t k sg' h u i c = bw w t k sg h u i c
  | 0, c, _, _, _ => rfl
  | i + 1, c, hi, hs, hc => by
    show wu w t k (sg' ((h - (i + 1)) * w + c)) (bw w t k sg' h u i) c = wu w t k (sg ((h - (i + 1)) * w + c)) (bw w t k sg h u i) c
    have e1 : (h - (i + 1)) * w + w = (h - i) * w := by
      rw [← Nat.succ_mul]
      congr 1
      omega
    have e2 : (h - i) * w ≤ h * w := Nat.mul_le_mul_right _ (by omega)
    have hs' : ∀ x, (h - i) * w ≤ x → x < h * w → sg' x = sg x := fun x h1 h2 => hs x (by omega) h2
    rw [hs _ (Nat.le_add_right _ _) (by omega)]
    unfold wu
    rw [bw_cong i (cl c) (by omega) hs' (cl_lt hc), bw_cong i (cr w c) (by omega) hs' (cr_lt hc), bw_cong i c (by omega) hs' hc]
/-- places in rows -/
theorem rw_inj {w r c r' c' : Nat} (hc : c < w) (hc' : c' < w) (h : r * w + c = r' * w + c') : r = r' ∧ c = c' := by
  rcases Nat.lt_trichotomy r r' with g | g | g
  · have := Nat.mul_le_mul_right w (show r + 1 ≤ r' from g)
    rw [Nat.succ_mul] at this
    omega
  · subst g
    exact ⟨rfl, by omega⟩
  · have := Nat.mul_le_mul_right w (show r' + 1 ≤ r from g)
    rw [Nat.succ_mul] at this
    omega
theorem rw_div {w x : Nat} (hw : 0 < w) : ∃ r c, c < w ∧ x = r * w + c := ⟨x / w, x % w, Nat.mod_lt _ hw, by rw [Nat.mul_comm]; exact (Nat.div_add_mod x w).symm⟩
theorem rw_lt {w h r c : Nat} (hr : r < h) (hc : c < w) : r * w + c < h * w := by
  have := Nat.mul_le_mul_right w (show r + 1 ≤ h from hr)
  rw [Nat.succ_mul] at this
  omega
theorem rw_mod {w r c : Nat} (hc : c < w) : (r * w + c) % w = c := by rw [Nat.add_comm, Nat.add_mul_mod_self_right, Nat.mod_eq_of_lt hc]
theorem rw_dv {w r c : Nat} (hc : c < w) : (r * w + c) / w = r := by
  rw [Nat.add_comm, Nat.add_mul_div_right _ _ (by omega), Nat.div_eq_of_lt hc]
  omega
theorem rw_row {w h r c : Nat} (hc : c < w) (h2 : r * w + c < h * w) : r < h := by
  rcases Nat.lt_or_ge r h with g | g
  · exact g
  · have := Nat.mul_le_mul_right w g
    omega
/-- one sign otherwise: what is expected changes by what passes there, times how much more the place is worth -/
theorem gain_eq {w t k h r i c0 s : Nat} {sg d u : Nat → Nat} (hr : r + (i + 1) = h) (hc : c0 < w) :
    sm w (fun c => fw w t k (fun x => if x = r * w + c0 then s else sg x) d h c * u c) + fw w t k sg d r c0 * bw w t k sg h u (i + 1) c0 = sm w (fun c => fw w t k sg d h c * u c) + fw w t k sg d r c0 * wu w t k s (bw w t k sg h u i) c0 := by
  rw [dual (i + 1) r hr, dual (i + 1) r hr]
  have hrw : h - (i + 1) = r := by omega
  have e1 : ∀ c, c < w → fw w t k (fun x => if x = r * w + c0 then s else sg x) d r c = fw w t k sg d r c := fun c hc' => fw_cong r c (fun x hx => if_neg (by omega)) (fun _ _ => rfl) hc'
  have e2 : ∀ c, c < w → bw w t k (fun x => if x = r * w + c0 then s else sg x) h u i c = bw w t k sg h u i c := fun c hc' => bw_cong i c (by omega) (fun x h1 h2 => if_neg (by
    rw [show h - i = r + 1 by omega, Nat.succ_mul] at h1
    omega)) hc'
  have e3 : ∀ c, c < w → bw w t k (fun x => if x = r * w + c0 then s else sg x) h u (i + 1) c = if c0 = c then wu w t k s (bw w t k sg h u i) c else bw w t k sg h u (i + 1) c := fun c hc' => by
    show wu w t k (if (h - (i + 1)) * w + c = r * w + c0 then s else sg ((h - (i + 1)) * w + c)) (bw w t k (fun x => if x = r * w + c0 then s else sg x) h u i) c = _
    have e4 : ∀ s', wu w t k s' (bw w t k (fun x => if x = r * w + c0 then s else sg x) h u i) c = wu w t k s' (bw w t k sg h u i) c := fun s' => by
      unfold wu
      rw [e2 _ (cl_lt hc'), e2 _ (cr_lt hc'), e2 _ hc']
    rw [e4, hrw]
    by_cases h0 : c0 = c
    · subst h0
      rw [if_pos rfl, if_pos rfl]
    · rw [if_neg h0, if_neg (fun q => h0 (by omega))]
      show _ = wu w t k (sg ((h - (i + 1)) * w + c)) (bw w t k sg h u i) c
      rw [hrw]
  have f1 : sm w (fun c => fw w t k (fun x => if x = r * w + c0 then s else sg x) d r c * bw w t k (fun x => if x = r * w + c0 then s else sg x) h u (i + 1) c) + sm w (fun c => if c0 = c then fw w t k sg d r c * bw w t k sg h u (i + 1) c else 0) = sm w (fun c => fw w t k sg d r c * bw w t k sg h u (i + 1) c) + sm w (fun c => if c0 = c then fw w t k sg d r c * wu w t k s (bw w t k sg h u i) c else 0) := by
    rw [← sm_add, ← sm_add]
    refine sm_cong (fun c hc' => ?_)
    rw [e1 c hc', e3 c hc']
    by_cases h0 : c0 = c
    · simp only [if_pos h0]
      omega
    · simp only [if_neg h0]
  rw [sm_one hc, sm_one hc] at f1
  exact f1
