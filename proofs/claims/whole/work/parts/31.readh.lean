set_option maxRecDepth 100000 in
set_option maxHeartbeats 4000000 in
theorem rh155 {S0 : St} {cd : Nat → Int32} {b n : Nat} {Q : Int32 → St → Prop} (hR : RD S0 cd b n) (hn : n ≤ 60) (hF : FIN S0 cd n Q) (hB : BAD S0 cd n Q) : ∀ d c, c + d = tR cd * tC cd → ∀ T, FH S0 T → 2 ≤ tC cd → tC cd ≤ 6 → 1 ≤ tR cd → tR cd ≤ 5 → T.1 34 7 = nI (tR cd) → T.1 34 8 = nI (tC cd) → (∀ t, t < tC cd → T.1 37 t = nI (tP cd t)) → (∀ x, x < c → T.1 38 x = nI (tS cd x)) → T.1 34 6 = nI (tB cd c) → GU cd n (tB cd c) → V mdX6_readsHill 155 [some (.ref 34), some (.int (nI b)), some (.int (nI n)), some (.int 1), some (.int (nI c))] [] T (qI Q) := by
  intro d
  induction d with
  | zero =>
    intro c hc T f c2 c6 r1 r5 e7 e8 ep es e6 hG
    have n30 : tR cd * tC cd ≤ 30 := Nat.mul_le_mul r5 c6
    have l44 := tL_le r5 c6
    have : c = tR cd * tC cd := by omega
    have eB : tB cd c = tL cd := by
      unfold tB tL
      have e1 := rw_dv (w := tC cd) (r := tR cd) (c := 0) (by omega)
      have e2 := rw_mod (w := tC cd) (r := tR cd) (c := 0) (by omega)
      rw [Nat.add_zero] at e1 e2
      rw [this, e1, e2, if_pos rfl, Nat.add_zero]
    rw [eB] at hG e6
    have eL : tL cd = 3 + tC cd + tR cd * (tC cd + 1) := rfl
    have hle := GU_le hG
    apply eX6_readsHill_155
    rw [e7, e8, pk_mul, e6, nI_eq (by omega) (by omega)]
    refine br_f (by decide) (br_t (nI_le (by omega) (by omega)) (br_f (by decide) ⟨fun z => ?_, fun z => ?_⟩))
    · refine hB (tL cd) T (FF_of hG (fun y => ?_)) (fun y => z y.1.symm) hle f e6
      have := (y.2.2.2.2.2 (by omega) (by omega)).1
      omega
    · refine hF ⟨z.symm, by rw [z] at hG; exact hG⟩ T f e7 e8 ep (fun x hx => es x (by omega))
  | succ d ih =>
    intro c hc T f c2 c6 r1 r5 e7 e8 ep es e6 hG
    have n30 : tR cd * tC cd ≤ 30 := Nat.mul_le_mul r5 c6
    have l44 := tL_le r5 c6
    have eL : tL cd = 3 + tC cd + tR cd * (tC cd + 1) := rfl
    obtain ⟨r, j, hj, hx⟩ := rw_div (x := c) (show 0 < tC cd by omega)
    have hr := rw_row (h := tR cd) (r := r) hj (by omega)
    have dv : c / tC cd = r := by rw [hx]; exact rw_dv hj
    have md : c % tC cd = j := by rw [hx]; exact rw_mod hj
    have es1 : (r + 1) * (tC cd + 1) = r * (tC cd + 1) + (tC cd + 1) := Nat.succ_mul _ _
    have es2 : (r + 1) * tC cd = r * tC cd + tC cd := Nat.succ_mul _ _
    have eN : tB cd (c + 1) = 3 + tC cd + (r * (tC cd + 1) + (2 + j)) := by
      unfold tB
      by_cases z : j + 1 = tC cd
      · have a1 : c + 1 = (r + 1) * tC cd + 0 := by omega
        rw [a1, rw_dv (by omega), rw_mod (by omega), if_pos rfl]
        omega
      · have a1 : c + 1 = r * tC cd + (j + 1) := by omega
        rw [a1, rw_dv (by omega), rw_mod (by omega), if_neg (by omega)]
        omega
    have cell : ∀ U, FH S0 U → U.1 34 7 = nI (tR cd) → U.1 34 8 = nI (tC cd) → (∀ t, t < tC cd → U.1 37 t = nI (tP cd t)) → (∀ x, x < c → U.1 38 x = nI (tS cd x)) → U.1 34 6 = nI (3 + tC cd + (r * (tC cd + 1) + (1 + j))) → GU cd n (3 + tC cd + (r * (tC cd + 1) + (1 + j))) → CallV mdX6_readsCell [.ref 34, .int (nI b), .int (nI n), .int (nI c)] U (qI fun r16 S15 => (r16 = 0 → V mdX6_readsHill 155 [some (.ref 34), some (.int (nI b)), some (.int (nI n)), some (.int (0 : Int32)), some (.int (nI (c + 1)))] [] S15 (qI Q)) ∧ (¬ r16 = 0 → V mdX6_readsHill 155 [some (.ref 34), some (.int (nI b)), some (.int (nI n)), some (.int (1 : Int32)), some (.int (nI (c + 1)))] [] S15 (qI Q))) := by
      intro U g u7 u8 up us u6 uG
      have hl := ps_lt (u := 1 + j) hr (by omega) (p := 3 + tC cd + (r * (tC cd + 1) + (1 + j))) rfl
      refine c_readsCell (hR.fh g) (GU_le uG) u6 (by omega) (fun qn qs => br_f (by decide) ?_) (fun qb v => br_t rfl ?_)
      · refine ih (c + 1) (by omega) _ ((g.put (Or.inr (Or.inl rfl))).put (Or.inr (Or.inr ⟨rfl, Or.inl rfl⟩))) c2 c6 r1 r5 ?_ ?_ ?_ ?_ ?_ ?_
        · simp (disch := omega) only [sI_o, sI_h, sF_o, sF_h, sJ_1, sI_2, sF_2, sJ_o, sJ_h]
          exact u7
        · simp (disch := omega) only [sI_o, sI_h, sF_o, sF_h, sJ_1, sI_2, sF_2, sJ_o, sJ_h]
          exact u8
        · intro t ht
          simp (disch := omega) only [sI_o, sI_h, sF_o, sF_h, sJ_1, sI_2, sF_2, sJ_o, sJ_h]
          exact up t ht
        · intro x hx'
          by_cases z : x = c
          · subst z
            rw [sI_o (by omega), sI_h ⟨rfl, rfl⟩]
            unfold tS
            rw [dv, md]
          · rw [sI_o (by omega), sI_o (by omega)]
            exact us x (by omega)
        · rw [sI_h ⟨rfl, rfl⟩, eN, show 3 + tC cd + (r * (tC cd + 1) + (1 + j)) + 1 = 3 + tC cd + (r * (tC cd + 1) + (2 + j)) by omega]
        · rw [eN, show 3 + tC cd + (r * (tC cd + 1) + (2 + j)) = 3 + tC cd + (r * (tC cd + 1) + (1 + j)) + 1 by omega]
          exact GU_s uG qn ((gd_sign hr hj rfl).2 qs)
      · exact bad155 hB (FF_of uG (fun y => qb ⟨y.1, (gd_sign hr hj rfl).1 y.2⟩)) hl ((g.put (Or.inr (Or.inl rfl))).put (Or.inr (Or.inr ⟨rfl, Or.inl rfl⟩))) (sI_h ⟨rfl, rfl⟩)
    apply eX6_readsHill_155
    rw [e7, e8, pk_mul, pk_rem (by omega) (by omega) (by omega), md, nI_1 c]
    refine br_f (by decide) (br_f (nI_ge (by omega) (by omega)) ⟨by rw [fa_lit 0, nI_eq (by omega) (by omega)]; omega, fun z => br_f (by decide) ?_, fun z => ?_⟩)
    · rw [fa_lit 0, nI_eq (by omega) (by omega)] at z
      have eb : tB cd c = 3 + tC cd + (r * (tC cd + 1) + (1 + j)) := by
        unfold tB
        rw [dv, md, if_neg z]
      rw [eb] at e6 hG
      exact cell T f e7 e8 ep es e6 hG
    · rw [fa_lit 0, nI_eq (by omega) (by omega)] at z
      have eb : tB cd c = 3 + tC cd + r * (tC cd + 1) := by
        unfold tB
        rw [dv, md, if_pos z, Nat.add_zero]
      rw [eb] at e6 hG
      have hl := ps_lt (u := 0) hr (Nat.succ_pos _) (p := 3 + tC cd + r * (tC cd + 1)) (by omega)
      have hle := GU_le hG
      refine c_codeAt (hR.fh f) hle e6 ⟨fun y => ?_, fun y => ?_⟩
      · rw [e6, Int32.add_zero]
        refine bad155 hB (FF_of hG (fun w => y ?_)) hl (f.put (Or.inr (Or.inr ⟨rfl, Or.inl rfl⟩))) (sI_h ⟨rfl, rfl⟩)
        unfold fd
        rw [if_pos w.1]
        exact (gd_semi hr rfl).1 w.2
      · have qn : 3 + tC cd + r * (tC cd + 1) < n := by
          rcases Nat.lt_or_ge (3 + tC cd + r * (tC cd + 1)) n with w | w
          · exact w
          · unfold fd at y
            rw [if_neg (by omega)] at y
            exact absurd y (by decide)
        unfold fd at y
        rw [if_pos qn] at y
        rw [e6, nI_1]
        refine cell _ (f.put (Or.inr (Or.inr ⟨rfl, Or.inl rfl⟩))) (by simp (disch := omega) only [sI_o, sI_h, sF_o, sF_h, sJ_1, sI_2, sF_2, sJ_o, sJ_h]; exact e7) (by simp (disch := omega) only [sI_o, sI_h, sF_o, sF_h, sJ_1, sI_2, sF_2, sJ_o, sJ_h]; exact e8) (fun t ht => by simp (disch := omega) only [sI_o, sI_h, sF_o, sF_h, sJ_1, sI_2, sF_2, sJ_o, sJ_h]; exact ep t ht) (fun x hx' => by simp (disch := omega) only [sI_o, sI_h, sF_o, sF_h, sJ_1, sI_2, sF_2, sJ_o, sJ_h]; exact es x hx') ?_ ?_
        · rw [sI_h ⟨rfl, rfl⟩]
          congr 1
          omega
        · have := GU_s hG qn ((gd_semi hr rfl).2 y)
          rw [show 3 + tC cd + (r * (tC cd + 1) + (1 + j)) = 3 + tC cd + r * (tC cd + 1) + 1 by omega]
          exact this
set_option maxRecDepth 100000 in
set_option maxHeartbeats 4000000 in
theorem rh102 {S0 : St} {cd : Nat → Int32} {b n : Nat} {Q : Int32 → St → Prop} (hR : RD S0 cd b n) (hn : n ≤ 60) (hF : FIN S0 cd n Q) (hB : BAD S0 cd n Q) : ∀ d t, t + d = tC cd → ∀ T, FH S0 T → T.1 34 7 = nI (tR cd) → T.1 34 8 = nI (tC cd) → (∀ x, x < t → T.1 37 x = nI (tP cd x)) → T.1 34 6 = nI (3 + t) → GU cd n (3 + t) → V mdX6_readsHill 102 [some (.ref 34), some (.int (nI b)), some (.int (nI n)), some (.int 1), some (.int (nI t))] [] T (qI Q) := by
  intro d
  induction d with
  | zero =>
    intro t ht T f e7 e8 ep e6 hG
    obtain ⟨r1, r5, _⟩ := GU_1 hG (by omega)
    obtain ⟨c2, c6, _⟩ := GU_2 hG (by omega)
    apply eX6_readsHill_102
    rw [e8]
    refine br_f (by decide) (br_t (nI_le (by omega) (by omega)) ?_)
    have eB : tB cd 0 = 3 + t := by
      unfold tB
      rw [Nat.zero_mod, Nat.zero_div, if_pos rfl]
      omega
    exact rh155 hR hn hF hB (tR cd * tC cd) 0 (by omega) T f c2 c6 r1 r5 e7 e8 (fun x hx => ep x (by omega)) (fun x hx => absurd hx (Nat.not_lt_zero _)) (by rw [eB]; exact e6) (by rw [eB]; exact hG)
  | succ d ih =>
    intro t ht T f e7 e8 ep e6 hG
    obtain ⟨r1, r5, _⟩ := GU_1 hG (by omega)
    obtain ⟨c2, c6, _⟩ := GU_2 hG (by omega)
    have eL : tL cd = 3 + tC cd + tR cd * (tC cd + 1) := rfl
    have hr0 : 0 < tR cd * (tC cd + 1) := Nat.mul_pos (by omega) (by omega)
    have g6 : vp_in (nI t) 6 := pk_in t 6 (by omega)
    apply eX6_readsHill_102
    rw [e8, nI_1, nI_clamp (n := t) (by omega)]
    refine br_f (by decide) (br_f (nI_ge (by omega) (by omega)) ?_)
    refine c_figure (lo := 0) (hi := 3) (hR.fh f) (GU_le hG) e6 (by omega) (by omega) (fun qn qf => ⟨g6, g6, br_f ?_ ?_⟩) (fun qb => ⟨g6, g6, br_t (by decide) ?_⟩)
    · have := qf.2
      rw [fa_lt, nI_toInt (by omega)]
      have : (0 : Int32).toInt = 0 := rfl
      omega
    · refine ih (t + 1) (by omega) _ ((f.put (Or.inr (Or.inr ⟨rfl, Or.inl rfl⟩))).put (Or.inl rfl)) ?_ ?_ ?_ ?_ ?_
      · simp (disch := omega) only [sI_o, sI_h, sF_o, sF_h, sJ_1, sI_2, sF_2, sJ_o, sJ_h]
        exact e7
      · simp (disch := omega) only [sI_o, sI_h, sF_o, sF_h, sJ_1, sI_2, sF_2, sJ_o, sJ_h]
        exact e8
      · intro x hx
        by_cases z : x = t
        · subst z
          rw [sI_h ⟨rfl, rfl⟩]
          rfl
        · rw [sI_o (by omega), sI_o (by omega)]
          exact ep x (by omega)
      · rw [sI_o (by omega), sI_h ⟨rfl, rfl⟩]
        rfl
      · exact GU_s hG qn ((gd_party (p := 3 + t) (by omega) (by omega)).2 qf)
    · exact bad102 hB (FF_of hG (fun y => qb ⟨y.1, (gd_party (by omega) (by omega)).1 y.2⟩)) (by omega) ((f.put (Or.inr (Or.inr ⟨rfl, Or.inl rfl⟩))).put (Or.inl rfl)) (by rw [sI_o (by omega), sI_h ⟨rfl, rfl⟩])
set_option maxRecDepth 100000 in
set_option maxHeartbeats 4000000 in
theorem c_readsHill {S0 : St} {cd : Nat → Int32} {b n : Nat} {Q : Int32 → St → Prop} (hR : RD S0 cd b n) (hn : n ≤ 60) (hF : FIN S0 cd n Q) (hB : BAD S0 cd n Q) : CallV mdX6_readsHill [.ref 34, .int (nI b), .int (nI n)] S0 (qI Q) := by
  have eL : tL cd = 3 + tC cd + tR cd * (tC cd + 1) := rfl
  have u6 : ∀ {T : St} {v : Int32}, FH S0 T → FH S0 (sI T 34 6 v) := fun f => f.put (Or.inr (Or.inr ⟨rfl, Or.inl rfl⟩))
  have u7 : ∀ {T : St} {v : Int32}, FH S0 T → FH S0 (sI T 34 7 v) := fun f => f.put (Or.inr (Or.inr ⟨rfl, Or.inr (Or.inl rfl)⟩))
  have u8 : ∀ {T : St} {v : Int32}, FH S0 T → FH S0 (sI T 34 8 v) := fun f => f.put (Or.inr (Or.inr ⟨rfl, Or.inr (Or.inr rfl)⟩))
  have G0 : GU cd n 0 := fun p hp => absurd hp (Nat.not_lt_zero _)
  have f0 : FH S0 (sI S0 34 6 0) := u6 FH.one
  apply eX6_readsHill
  refine c_codeAt (q := 0) (hR.fh f0) (Nat.zero_le _) (sI_h ⟨rfl, rfl⟩) ⟨fun y => ?_, fun y => ?_⟩
  · refine bad102 (q := 0) hB (FF_of G0 (fun w => y ?_)) (by omega) (u8 (u7 (u6 f0))) ?_
    · unfold fd
      rw [if_pos w.1]
      exact w.2.1 rfl
    · simp (disch := omega) only [sI_o, sI_h, sF_o, sF_h, sJ_1, sI_2, sF_2, sJ_o, sJ_h]
      rfl
  have n0 : 0 < n := by
    rcases Nat.eq_zero_or_pos n with w | w
    · subst w
      unfold fd at y
      rw [if_neg (by omega)] at y
      exact absurd y (by decide)
    · exact w
  unfold fd at y
  rw [if_pos n0] at y
  have G1 : GU cd n 1 := GU_s G0 n0 ⟨fun _ => y, fun z => absurd z (by decide), fun z => absurd z (by decide), fun z => absurd z (by decide), fun z => absurd z (by decide)⟩
  have f1 : FH S0 (sI (sI S0 34 6 0) 34 6 ((sI S0 34 6 0).1 34 6 + 1)) := u6 f0
  refine c_figure (q := 1) (lo := 1) (hi := 5) (hR.fh f1) n0 (by rw [sI_h ⟨rfl, rfl⟩, sI_h ⟨rfl, rfl⟩]; rfl) (by omega) (by omega) (fun qn qf => ?_) (fun qb => br_t (by decide) ?_)
  · have g1 : gd cd 1 := ⟨fun z => absurd z (by decide), fun _ => qf, fun z => absurd z (by decide), fun z => absurd z (by decide), fun z => absurd z (by decide)⟩
    have G2 := GU_s G1 qn g1
    obtain ⟨r1, r5, _⟩ := GU_1 G2 (by omega)
    have eR : ((cd 1).toInt - 48).toNat = tR cd := rfl
    rw [eR]
    refine br_f (by rw [fa_lit 0]; exact nI_ge (by omega) (by omega)) ?_
    refine c_figure (q := 2) (lo := 2) (hi := 6) (hR.fh (u7 (u6 f1))) qn (by simp (disch := omega) only [sI_o, sI_h, sF_o, sF_h, sJ_1, sI_2, sF_2, sJ_o, sJ_h]) (by omega) (by omega) (fun qn2 qf2 => ?_) (fun qb => br_t (by decide) ?_)
    · have G3 := GU_s G2 qn2 ⟨fun z => absurd z (by decide), fun z => absurd z (by decide), fun _ => qf2, fun z => absurd z (by decide), fun z => absurd z (by decide)⟩
      obtain ⟨c2, c6, _⟩ := GU_2 G3 (by omega)
      have eC : ((cd 2).toInt - 48).toNat = tC cd := rfl
      rw [eC]
      refine br_f (by rw [fa_lit 0]; exact nI_ge (by omega) (by omega)) ?_
      exact rh102 hR hn hF hB (tC cd) 0 (by omega) _ (u8 (u6 (u7 (u6 f1)))) (by simp (disch := omega) only [sI_o, sI_h, sF_o, sF_h, sJ_1, sI_2, sF_2, sJ_o, sJ_h]) (by simp (disch := omega) only [sI_o, sI_h, sF_o, sF_h, sJ_1, sI_2, sF_2, sJ_o, sJ_h]) (fun x hx => absurd hx (Nat.not_lt_zero _)) (by simp (disch := omega) only [sI_o, sI_h, sF_o, sF_h, sJ_1, sI_2, sF_2, sJ_o, sJ_h]) G3
    · refine bad102 (q := 2) hB (FF_of G2 (fun w => qb ⟨w.1, w.2.2.2.1 rfl⟩)) (by omega) (u8 (u6 (u7 (u6 f1)))) (by simp (disch := omega) only [sI_o, sI_h, sF_o, sF_h, sJ_1, sI_2, sF_2, sJ_o, sJ_h])
  · refine bad102 (q := 1) hB (FF_of G1 (fun w => qb ⟨w.1, w.2.2.1 rfl⟩)) (by omega) (u8 (u7 (u6 f1))) (by simp (disch := omega) only [sI_o, sI_h, sF_o, sF_h, sJ_1, sI_2, sF_2, sJ_o, sJ_h])
