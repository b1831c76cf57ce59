/-! GAME, MOVE OF -/
def bet (w a b : Int) : Bool := decide ((w = 0 → w32 b < w32 a) ∧ (¬ w = 0 → w32 a < w32 b))
theorem bet_i {w a b : Int} : bet w a b = true ↔ ((w = 0 → w32 b < w32 a) ∧ (¬ w = 0 → w32 a < w32 b)) := decide_eq_true_iff
theorem bet_0 {w a b : Int} (h : w = 0) : bet w a b = true ↔ w32 b < w32 a := by rw [bet_i]; omega
theorem bet_1 {w a b : Int} (h : ¬ w = 0) : bet w a b = true ↔ w32 a < w32 b := by rw [bet_i]; omega
theorem bet_tr {w a b c : Int} (h : bet w a b = true) (h2 : bet w b c = true) : bet w a c = true := by
  rw [bet_i] at *
  omega
theorem bet_nt {w a b c : Int} (h : ¬ bet w a b = true) (h2 : ¬ bet w b c = true) : ¬ bet w a c = true := by
  rw [bet_i] at *
  omega
/-- down from the last to i: the least best one -/
def dn (ok : Int → Bool) (val : Int → Int) (w v0 : Int) : Nat → Nat → Int × Int
  | 0, _ => (-1, v0)
  | d + 1, i => if ok i = true ∧ ¬ bet w (dn ok val w v0 d (i + 1)).2 (val i) then ((i : Int), val i) else dn ok val w v0 d (i + 1)
/-- up from i with the best so far -/
def upw (ok : Int → Bool) (val : Int → Int) (w v0 : Int) (n : Nat) : Nat → Nat → Int → Int → Int × Int
  | 0, _, m, b => if m < 0 ∨ bet w v0 b then ((n : Int), v0) else (m, b)
  | d + 1, i, m, b => if ok i = true ∧ (m < 0 ∨ bet w (val i) b) then upw ok val w v0 n d (i + 1) i (val i) else upw ok val w v0 n d (i + 1) m b
theorem up_no {ok : Int → Bool} {val : Int → Int} {w v0 : Int} {n : Nat} : ∀ (d i : Nat) (m b b' : Int), m < 0 → upw ok val w v0 n d i m b = upw ok val w v0 n d i m b' := by
  intro d
  induction d with
  | zero => intro i m b b' h; rw [upw, upw, if_pos (Or.inl h), if_pos (Or.inl h)]
  | succ d ih =>
    intro i m b b' h
    rw [upw, upw]
    by_cases o : ok i = true
    · rw [if_pos ⟨o, Or.inl h⟩, if_pos ⟨o, Or.inl h⟩]
    · rw [if_neg (fun z => o z.1), if_neg (fun z => o z.1)]
      exact ih _ _ _ _ h
theorem upw_ok {ok : Int → Bool} {val : Int → Int} {w v0 : Int} {n d i : Nat} {m b : Int} (o : ok i = true) (q : m < 0 ∨ bet w (val i) b = true) : upw ok val w v0 n (d + 1) i m b = upw ok val w v0 n d (i + 1) i (val i) := by
  rw [upw, if_pos ⟨o, q⟩]
theorem upw_no {ok : Int → Bool} {val : Int → Int} {w v0 : Int} {n d i : Nat} {m b : Int} (o : ¬ (ok i = true ∧ (m < 0 ∨ bet w (val i) b = true))) : upw ok val w v0 n (d + 1) i m b = upw ok val w v0 n d (i + 1) m b := by
  rw [upw, if_neg o]
theorem dn_ok {ok : Int → Bool} {val : Int → Int} {w v0 : Int} {d i : Nat} (o : ok i = true) (q : ¬ bet w (dn ok val w v0 d (i + 1)).2 (val i) = true) : dn ok val w v0 (d + 1) i = ((i : Int), val i) := by
  rw [dn, if_pos ⟨o, q⟩]
theorem dn_no {ok : Int → Bool} {val : Int → Int} {w v0 : Int} {d i : Nat} (o : ¬ (ok i = true ∧ ¬ bet w (dn ok val w v0 d (i + 1)).2 (val i) = true)) : dn ok val w v0 (d + 1) i = dn ok val w v0 d (i + 1) := by
  rw [dn, if_neg o]
theorem up_start {ok : Int → Bool} {val : Int → Int} {w v0 : Int} {n : Nat} : ∀ (d i : Nat) (m b : Int), 0 ≤ m → upw ok val w v0 n d i m b = if bet w (upw ok val w v0 n d i (-1) 0).2 b then upw ok val w v0 n d i (-1) 0 else (m, b) := by
  intro d
  induction d with
  | zero =>
    intro i m b h
    have h1 : ¬ m < 0 := by omega
    have h2 : (-1 : Int) < 0 := by decide
    rw [upw, upw, if_pos (Or.inl h2)]
    by_cases q : bet w v0 b
    · rw [if_pos (Or.inr q), if_pos q]
    · rw [if_neg (fun z => z.elim h1 q), if_neg q]
  | succ d ih =>
    intro i m b h
    have h1 : ¬ m < 0 := by omega
    have h2 : (-1 : Int) < 0 := by decide
    have a1 := ih (i + 1) (i : Int) (val i) (by omega)
    have a2 := ih (i + 1) m b h
    by_cases o : ok i = true
    · rw [upw_ok (m := -1) o (Or.inl h2)]
      by_cases q : bet w (val i) b
      · rw [upw_ok o (Or.inr q), a1]
        generalize upw ok val w v0 n d (i + 1) (-1) 0 = R
        by_cases r : bet w R.2 (val i)
        · rw [if_pos r, if_pos (bet_tr r q)]
        · rw [if_neg r, if_pos q]
      · rw [upw_no (fun z => z.2.elim h1 q), a2, a1]
        generalize upw ok val w v0 n d (i + 1) (-1) 0 = R
        by_cases r : bet w R.2 (val i)
        · rw [if_pos r]
        · rw [if_neg r, if_neg (bet_nt r q), if_neg q]
    · rw [upw_no (fun z => o z.1), upw_no (m := -1) (fun z => o z.1)]
      exact a2
theorem up_dn {ok : Int → Bool} {val : Int → Int} {w v0 : Int} {n : Nat} : ∀ (d i : Nat), upw ok val w v0 n d i (-1) 0 = (if (dn ok val w v0 d i).1 < 0 then (n : Int) else (dn ok val w v0 d i).1, (dn ok val w v0 d i).2) := by
  intro d
  induction d with
  | zero =>
    intro i
    have h2 : (-1 : Int) < 0 := by decide
    rw [upw, if_pos (Or.inl h2), dn, if_pos h2]
  | succ d ih =>
    intro i
    have h2 : (-1 : Int) < 0 := by decide
    have a1 := up_start (ok := ok) (val := val) (w := w) (v0 := v0) (n := n) d (i + 1) (i : Int) (val i) (by omega)
    rw [ih] at a1
    have a2 := ih (i + 1)
    have a3 : ¬ (i : Int) < 0 := by omega
    by_cases o : ok i = true
    · rw [upw_ok o (Or.inl h2), a1]
      by_cases q : bet w (dn ok val w v0 d (i + 1)).2 (val i)
      · rw [if_pos q, dn_no (fun z => z.2 q)]
      · rw [if_neg q, dn_ok o q, if_neg a3]
    · rw [upw_no (fun z => o z.1), dn_no (fun z => o z.1)]
      exact a2
def gok (A : jM) (w : Int) : Int → Bool := fun i => decide (0 < A 0 i ∧ 0 < A 1 w)
def gmv (P : Int → Int) (A : jM) (w i : Int) : jM := jup (jup (jup A 0 i (A 0 i - 1)) 1 w (A 1 w - 1)) 2 w (A 2 w + P i)
/-- the move and the value -/
def gv (n : Nat) (P : Int → Int) : Nat → Int → jM → Int × Int
  | 0, _, A => (-1, A 2 0 - A 2 1)
  | k + 1, w, A => dn (gok A w) (fun i => (gv n P k (1 - w) (gmv P A w i)).2) w (gv n P k (1 - w) A).2 n 0
def gB (n : Nat) (A : jM) : Prop := (∀ j, 0 ≤ j → j < (n : Int) → 0 ≤ A 0 j ∧ A 0 j ≤ 1000) ∧ ∀ w, 0 ≤ w → w ≤ 1 → 0 ≤ A 1 w ∧ A 1 w ≤ 9
theorem gB_mv {n : Nat} {P : Int → Int} {A : jM} {w i : Int} (h : gB n A) (ho : gok A w i = true) : gB n (gmv P A w i) := by
  have ho := of_decide_eq_true ho
  refine ⟨fun j j1 j2 => ?_, fun v v1 v2 => ?_⟩
  · have := h.1 j j1 j2
    unfold gmv
    by_cases e : j = i
    · subst e
      simp (disch := omega) only [↓jb_m, ↓jm_s, ↓reduceIte, t_lt, t_nlt, t_le, t_nle, t_eq, t_neq, w32_id, w64_id, jb_s, and_true, true_and, and_self, and_false, false_and, or_true, true_or, or_false, false_or, or_self, not_false_eq_true, not_true_eq_false, u_ne, u_eq, u_u, Int.reduceAdd, Int.reduceSub, Int.reduceMul, Int.reduceNeg, Int.zero_add, Int.add_zero, n15, n16, q10, q11, q12, q13, q14]
    · simp (disch := omega) only [↓jb_m, ↓jm_s, ↓reduceIte, t_lt, t_nlt, t_le, t_nle, t_eq, t_neq, w32_id, w64_id, jb_s, and_true, true_and, and_self, and_false, false_and, or_true, true_or, or_false, false_or, or_self, not_false_eq_true, not_true_eq_false, u_ne, u_eq, u_u, Int.reduceAdd, Int.reduceSub, Int.reduceMul, Int.reduceNeg, Int.zero_add, Int.add_zero, n15, n16, q10, q11, q12, q13, q14]
  · have := h.2 v v1 v2
    unfold gmv
    by_cases e : v = w
    · subst e
      simp (disch := omega) only [↓jb_m, ↓jm_s, ↓reduceIte, t_lt, t_nlt, t_le, t_nle, t_eq, t_neq, w32_id, w64_id, jb_s, and_true, true_and, and_self, and_false, false_and, or_true, true_or, or_false, false_or, or_self, not_false_eq_true, not_true_eq_false, u_ne, u_eq, u_u, Int.reduceAdd, Int.reduceSub, Int.reduceMul, Int.reduceNeg, Int.zero_add, Int.add_zero, n15, n16, q10, q11, q12, q13, q14]
    · simp (disch := omega) only [↓jb_m, ↓jm_s, ↓reduceIte, t_lt, t_nlt, t_le, t_nle, t_eq, t_neq, w32_id, w64_id, jb_s, and_true, true_and, and_self, and_false, false_and, or_true, true_or, or_false, false_or, or_self, not_false_eq_true, not_true_eq_false, u_ne, u_eq, u_u, Int.reduceAdd, Int.reduceSub, Int.reduceMul, Int.reduceNeg, Int.zero_add, Int.add_zero, n15, n16, q10, q11, q12, q13, q14]
/-! the class -/
theorem Ga_shift_eq {s : jM} {w i d : Int} (hw : 0 ≤ w ∧ w ≤ 1) (hi : 0 ≤ i ∧ i < 5) : Ga_shift 22 w i d s = some (0, jup (jup (jup s 24 i (s 24 i - d)) 25 w (s 25 w - d)) 26 w (s 26 w + d * s 23 i)) := by
  simp (disch := omega) only [↓jb_m, ↓jm_s, ↓reduceIte, t_lt, t_nlt, t_le, t_nle, t_eq, t_neq, w32_id, w64_id, jb_s, and_true, true_and, and_self, and_false, false_and, or_true, true_or, or_false, false_or, or_self, not_false_eq_true, not_true_eq_false, u_ne, u_eq, u_u, Int.reduceAdd, Int.reduceSub, Int.reduceMul, Int.reduceNeg, Int.zero_add, Int.add_zero, n15, n16, q10, q11, q12, q13, q14, Ga_shift]
def cG (s : jM) (n : Nat) (P : Int → Int) (A : jM) : Prop := s 22 0 = n ∧ (∀ j, 0 ≤ j → j < (n : Int) → s 23 j = P j ∧ s 24 j = A 0 j) ∧ ∀ w, 0 ≤ w → w ≤ 1 → s 25 w = A 1 w ∧ s 26 w = A 2 w
def e22 (a b : Int) : Prop := a = 22 ∧ b = 1
theorem cG_ex {s t : jM} {n : Nat} {P : Int → Int} {A : jM} (h : cG s n P A) (e : EX e22 s t) : cG t n P A := by
  refine ⟨?_, fun j j1 j2 => ?_, fun w w1 w2 => ?_⟩
  · rw [e _ _ (by unfold e22; omega)]; exact h.1
  · rw [e _ _ (by unfold e22; omega), e _ _ (by unfold e22; omega)]; exact h.2.1 j j1 j2
  · rw [e _ _ (by unfold e22; omega), e _ _ (by unfold e22; omega)]; exact h.2.2 w w1 w2
theorem cG_mv {s : jM} {n : Nat} {P : Int → Int} {A : jM} {w i : Int} (h : cG s n P A) (hw : 0 ≤ w ∧ w ≤ 1) (hi : 0 ≤ i ∧ i < (n : Int)) : cG (jup (jup (jup s 24 i (s 24 i - 1)) 25 w (s 25 w - 1)) 26 w (s 26 w + 1 * s 23 i)) n P (gmv P A w i) := by
  have a := h.2.1 i hi.1 hi.2
  have b := h.2.2 w hw.1 hw.2
  refine ⟨?_, fun j j1 j2 => ?_, fun v v1 v2 => ?_⟩
  · simp (disch := omega) only [↓jb_m, ↓jm_s, ↓reduceIte, t_lt, t_nlt, t_le, t_nle, t_eq, t_neq, w32_id, w64_id, jb_s, and_true, true_and, and_self, and_false, false_and, or_true, true_or, or_false, false_or, or_self, not_false_eq_true, not_true_eq_false, u_ne, u_eq, u_u, Int.reduceAdd, Int.reduceSub, Int.reduceMul, Int.reduceNeg, Int.zero_add, Int.add_zero, n15, n16, q10, q11, q12, q13, q14]
    exact h.1
  · have c := h.2.1 j j1 j2
    unfold gmv
    by_cases e : j = i
    · subst e
      simp (disch := omega) only [↓jb_m, ↓jm_s, ↓reduceIte, t_lt, t_nlt, t_le, t_nle, t_eq, t_neq, w32_id, w64_id, jb_s, and_true, true_and, and_self, and_false, false_and, or_true, true_or, or_false, false_or, or_self, not_false_eq_true, not_true_eq_false, u_ne, u_eq, u_u, Int.reduceAdd, Int.reduceSub, Int.reduceMul, Int.reduceNeg, Int.zero_add, Int.add_zero, n15, n16, q10, q11, q12, q13, q14]
    · simp (disch := omega) only [↓jb_m, ↓jm_s, ↓reduceIte, t_lt, t_nlt, t_le, t_nle, t_eq, t_neq, w32_id, w64_id, jb_s, and_true, true_and, and_self, and_false, false_and, or_true, true_or, or_false, false_or, or_self, not_false_eq_true, not_true_eq_false, u_ne, u_eq, u_u, Int.reduceAdd, Int.reduceSub, Int.reduceMul, Int.reduceNeg, Int.zero_add, Int.add_zero, n15, n16, q10, q11, q12, q13, q14]
  · have c := h.2.2 v v1 v2
    unfold gmv
    by_cases e : v = w
    · subst e
      simp (disch := omega) only [↓jb_m, ↓jm_s, ↓reduceIte, t_lt, t_nlt, t_le, t_nle, t_eq, t_neq, w32_id, w64_id, jb_s, and_true, true_and, and_self, and_false, false_and, or_true, true_or, or_false, false_or, or_self, not_false_eq_true, not_true_eq_false, u_ne, u_eq, u_u, Int.reduceAdd, Int.reduceSub, Int.reduceMul, Int.reduceNeg, Int.zero_add, Int.add_zero, n15, n16, q10, q11, q12, q13, q14]
    · simp (disch := omega) only [↓jb_m, ↓jm_s, ↓reduceIte, t_lt, t_nlt, t_le, t_nle, t_eq, t_neq, w32_id, w64_id, jb_s, and_true, true_and, and_self, and_false, false_and, or_true, true_or, or_false, false_or, or_self, not_false_eq_true, not_true_eq_false, u_ne, u_eq, u_u, Int.reduceAdd, Int.reduceSub, Int.reduceMul, Int.reduceNeg, Int.zero_add, Int.add_zero, n15, n16, q10, q11, q12, q13, q14]
theorem sh_back {s t : jM} {w i : Int} (e : EX e22 (jup (jup (jup s 24 i (s 24 i - 1)) 25 w (s 25 w - 1)) 26 w (s 26 w + 1 * s 23 i)) t) : EX e22 s (jup (jup (jup t 24 i (t 24 i - -1)) 25 w (t 25 w - -1)) 26 w (t 26 w + -1 * t 23 i)) := by
  have a1 := e 24 i (by unfold e22; omega)
  have a2 := e 25 w (by unfold e22; omega)
  have a3 := e 26 w (by unfold e22; omega)
  have a4 := e 23 i (by unfold e22; omega)
  rw [u_ne (by omega), u_ne (by omega), u_eq ⟨rfl, rfl⟩] at a1
  rw [u_ne (by omega), u_eq ⟨rfl, rfl⟩] at a2
  rw [u_eq ⟨rfl, rfl⟩] at a3
  rw [u_ne (by omega), u_ne (by omega), u_ne (by omega)] at a4
  intro a b q
  have a5 := e a b q
  rw [jup_at, jup_at, jup_at] at a5 ⊢
  by_cases c1 : a = 26 ∧ b = w
  · rw [if_pos c1, c1.1, c1.2, a3, a4]
    omega
  · by_cases c2 : a = 25 ∧ b = w
    · rw [if_neg c1, if_pos c2, c2.1, c2.2, a2]
      omega
    · by_cases c3 : a = 24 ∧ b = i
      · rw [if_neg c1, if_neg c2, if_pos c3, c3.1, c3.2, a1]
        omega
      · rw [if_neg c1, if_neg c2, if_neg c3] at a5 ⊢
        exact a5
theorem cLoop {rec : Int → Int → Int → jM → Option (Int × jM)} {n : Nat} (hn : n ≤ 5) {P : Int → Int} {A : jM} {x1 w v0 : Int} {val : Int → Int} (hw : 0 ≤ w ∧ w ≤ 1) (hB : gB n A) (hrec : ∀ (i : Int) (s : jM), 0 ≤ i → i < n → gok A w i = true → cG s n P (gmv P A w i) → ∃ t, rec 22 (x1 - 1) (1 - w) s = some (val i, t) ∧ EX e22 s t) : ∀ (i f : Nat) (s : jM), i < f → i ≤ n → cG s n P A → ∃ t, Ga_bestFrom_40 rec f 22 x1 w (dn (gok A w) val w v0 (n - i) i).1 (dn (gok A w) val w v0 (n - i) i).2 ((i : Int) - 1) s = some ((dn (gok A w) val w v0 n 0).2, t) ∧ EX e22 s t ∧ t 22 1 = (dn (gok A w) val w v0 n 0).1 := by
  intro i
  induction i with
  | zero =>
    intro f s h1 h2 h3
    obtain ⟨f, rfl⟩ : ∃ g, f = g + 1 := ⟨f - 1, by omega⟩
    have c1 : w32 (((0 : Nat) : Int) - 1) < 0 := by decide
    refine ⟨jup s 22 1 (dn (gok A w) val w v0 n 0).1, ?_, (EX.rf _ _).up ⟨rfl, rfl⟩, u_eq ⟨rfl, rfl⟩⟩
    rw [Ga_bestFrom_40, if_pos c1]
    rfl
  | succ i ih =>
    intro f s h1 h2 h3
    obtain ⟨f, rfl⟩ : ∃ g, f = g + 1 := ⟨f - 1, by omega⟩
    have d1 : n - i = n - (i + 1) + 1 := by omega
    have d2 : ((i + 1 : Nat) : Int) - 1 = (i : Int) := by omega
    have d3 : (i : Int) + -1 = (i : Int) - 1 := by omega
    have d4 : w32 (i : Int) = (i : Int) := w32_id (by omega) (by omega)
    have d5 : ¬ (i : Int) < 0 := by omega
    have d6 : (0 : Int) ≤ i ∧ (i : Int) < 5 := by omega
    have d7 : (0 : Int) ≤ i ∧ (i : Int) < n := by omega
    have d8 : w32 w = w := w32_id (by omega) (by omega)
    have d9 : 0 ≤ w ∧ w < 2 := by omega
    have hf : i < f := by omega
    have hin : i ≤ n := by omega
    have b1 := hB.1 i d7.1 d7.2
    have b2 := hB.2 w hw.1 hw.2
    have c1 := (h3.2.1 i d7.1 d7.2).2
    have c2 := (h3.2.2 w hw.1 hw.2).1
    have c3 : w32 (s 24 i) = A 0 i := by rw [c1]; exact w32_id (by omega) (by omega)
    have c4 : w32 (s 25 w) = A 1 w := by rw [c2]; exact w32_id (by omega) (by omega)
    rw [d2, Ga_bestFrom_40, d4, if_neg d5, if_pos d6]
    show ∃ t, (if 0 < w32 (s 24 i) then _ else _) = _ ∧ _
    rw [c3, d3]
    have hdn : dn (gok A w) val w v0 (n - i) i = if gok A w i = true ∧ ¬ bet w (dn (gok A w) val w v0 (n - (i + 1)) (i + 1)).2 (val i) then ((i : Int), val i) else dn (gok A w) val w v0 (n - (i + 1)) (i + 1) := by
      rw [d1, dn]
    generalize dn (gok A w) val w v0 (n - (i + 1)) (i + 1) = r at hdn ⊢
    by_cases q1 : 0 < A 0 i
    · rw [if_pos q1, d8, if_pos d9]
      show ∃ t, (if 0 < w32 (s 25 w) then _ else _) = _ ∧ _
      rw [c4]
      by_cases q2 : 0 < A 1 w
      · have ho : gok A w i = true := decide_eq_true ⟨q1, q2⟩
        obtain ⟨t, t1, t2⟩ := hrec i _ d7.1 d7.2 ho (cG_mv h3 hw d7)
        have t3 := sh_back t2
        have hE := cG_ex h3 t3
        rw [if_pos q2, Ga_shift_eq hw d6, jb_t, t1, jb_t, Ga_shift_eq hw d6, jb_t]
        by_cases q3 : bet w r.2 (val i) = true
        · rw [if_neg (fun z => z.2 q3)] at hdn
          obtain ⟨v, v1, v2, v3⟩ := ih f _ hf hin hE
          rw [hdn] at v1
          refine ⟨v, ?_, t3.tr v2, v3⟩
          by_cases q4 : w = 0
          · rw [if_pos q4, if_pos ((bet_0 q4).1 q3)]
            exact v1
          · rw [if_neg q4, if_pos ((bet_1 q4).1 q3)]
            exact v1
        · rw [if_pos ⟨ho, q3⟩] at hdn
          obtain ⟨v, v1, v2, v3⟩ := ih f _ hf hin hE
          rw [hdn] at v1
          refine ⟨v, ?_, t3.tr v2, v3⟩
          by_cases q4 : w = 0
          · rw [if_pos q4, if_neg (fun z => q3 ((bet_0 q4).2 z))]
            exact v1
          · rw [if_neg q4, if_neg (fun z => q3 ((bet_1 q4).2 z))]
            exact v1
      · rw [if_neg q2]
        obtain ⟨v, v1, v2, v3⟩ := ih f _ hf hin h3
        rw [if_neg (fun z => q2 (of_decide_eq_true z.1).2)] at hdn
        rw [hdn] at v1
        exact ⟨v, v1, v2, v3⟩
    · rw [if_neg q1]
      obtain ⟨v, v1, v2, v3⟩ := ih f _ hf hin h3
      rw [if_neg (fun z => q1 (of_decide_eq_true z.1).1)] at hdn
      rw [hdn] at v1
      exact ⟨v, v1, v2, v3⟩
theorem cBest {n : Nat} (hn : n ≤ 5) {P : Int → Int} : ∀ (k f : Nat) (w : Int) (A s : jM), k < f → k < 100 → 0 ≤ w ∧ w ≤ 1 → gB n A → cG s n P A → ∃ t, Ga_bestFrom f 22 k w s = some ((gv n P k w A).2, t) ∧ EX e22 s t ∧ (1 ≤ k → t 22 1 = (gv n P k w A).1) := by
  intro k
  induction k with
  | zero =>
    intro f w A s h1 h2 h3 h4 h5
    obtain ⟨f, rfl⟩ : ∃ g, f = g + 1 := ⟨f - 1, by omega⟩
    have c1 : ¬ 0 < w32 ((0 : Nat) : Int) := by decide
    have c2 := (h5.2.2 0 (by omega) (by omega)).2
    have c3 := (h5.2.2 1 (by omega) (by omega)).2
    refine ⟨s, ?_, EX.rf _ _, fun z => by omega⟩
    rw [Ga_bestFrom, Ga_bestFrom_b, if_neg c1, gv]
    show some (s 26 0 - s 26 1, s) = _
    rw [c2, c3]
  | succ k ih =>
    intro f w A s h1 h2 h3 h4 h5
    obtain ⟨f, rfl⟩ : ∃ g, f = g + 1 := ⟨f - 1, by omega⟩
    have c1 : 0 < w32 ((k + 1 : Nat) : Int) := by rw [w32_id (by omega) (by omega)]; omega
    have c2 : ((k + 1 : Nat) : Int) - 1 = (k : Int) := by omega
    have c3 : 0 ≤ 1 - w ∧ 1 - w ≤ 1 := by omega
    have c4 : k < f := by omega
    have c5 : k < 100 := by omega
    have hj : n < jFU := bub_ge (by omega)
    obtain ⟨t, t1, t2, -⟩ := ih f (1 - w) A s c4 c5 c3 h4 h5
    have h6 := cG_ex h5 t2
    obtain ⟨v, v1, v2, v3⟩ := cLoop (rec := Ga_bestFrom f) (x1 := ((k + 1 : Nat) : Int)) (v0 := (gv n P k (1 - w) A).2) (val := fun i => (gv n P k (1 - w) (gmv P A w i)).2) hn h3 h4 (fun i s i1 i2 i3 i4 => by
      obtain ⟨t, t1, t2, -⟩ := ih f (1 - w) _ s c4 c5 c3 (gB_mv h4 i3) i4
      rw [c2]
      exact ⟨t, t1, t2⟩) n jFU t hj (Nat.le_refl n) h6
    refine ⟨v, ?_, t2.tr v2, fun _ => v3⟩
    rw [Nat.sub_self, dn] at v1
    rw [Ga_bestFrom, Ga_bestFrom_b, if_pos c1, c2, t1, jb_t, h6.1]
    exact v1
/-! the reference -/
def rG (u : jM) (n : Nat) (P : Int → Int) (x : Int → Int) (A : jM) : Prop := u 160 0 = n ∧ (∀ j, 0 ≤ j → j < (n : Int) → u 160 (9 + j) = P j ∧ u 160 (19 + j) = A 0 j) ∧ ∀ w, 0 ≤ w → w ≤ 1 → (∀ j, 0 ≤ j → (n : Int) ≤ j → j < 5 → u 160 (84 + 5 * x w + j) = 0) ∧ (0 ≤ u 160 (69 + x w) ∧ u 160 (69 + x w) ≤ 2 ∧ 1 ≤ u 160 (59 + x w) ∧ u 160 (59 + x w) ≤ 9) ∧ (u 160 (69 + x w) = 2 → A 1 w = 0) ∧ (u 160 (69 + x w) ≠ 2 → A 1 w = u 160 (59 + x w) - sum5 (fun j => u 160 (84 + 5 * x w + j))) ∧ A 2 w = sum5 (fun j => u 160 (84 + 5 * x w + j) * u 160 (9 + j))
def e34 (a b : Int) : Prop := a = 155 ∧ b = 34
theorem rG_ex {s t : jM} {n : Nat} {P x : Int → Int} {A : jM} (h : rG s n P x A) (e : EX e34 s t) : rG t n P x A := by
  have e' : ∀ o, t 160 o = s 160 o := fun o => e _ _ (by unfold e34; omega)
  unfold rG
  simp only [e']
  exact h
theorem Md_moves_eq {u : jM} {m i d : Int} (hm : 0 ≤ m ∧ m < 5) (hi : 0 ≤ i ∧ i < 5) : Md_moves 155 m i d u = some (0, jup (jup u 160 (84 + 5 * m + i) (u 160 (84 + 5 * m + i) + d)) 160 (19 + i) (u 160 (19 + i) - d)) := by
  simp (disch := omega) only [↓jb_m, ↓jm_s, ↓reduceIte, t_lt, t_nlt, t_le, t_nle, t_eq, t_neq, w32_id, w64_id, jb_s, and_true, true_and, and_self, and_false, false_and, or_true, true_or, or_false, false_or, or_self, not_false_eq_true, not_true_eq_false, u_ne, u_eq, u_u, Int.reduceAdd, Int.reduceSub, Int.reduceMul, Int.reduceNeg, Int.zero_add, Int.add_zero, n15, n16, q10, q11, q12, q13, q14, Md_moves]
theorem mv_back {s t : jM} {m i : Int} (hm : 0 ≤ m ∧ m < 5) (hi : 0 ≤ i ∧ i < 5) (e : EX e34 (jup (jup s 160 (84 + 5 * m + i) (s 160 (84 + 5 * m + i) + 1)) 160 (19 + i) (s 160 (19 + i) - 1)) t) : EX e34 s (jup (jup t 160 (84 + 5 * m + i) (t 160 (84 + 5 * m + i) + -1)) 160 (19 + i) (t 160 (19 + i) - -1)) := by
  have a1 := e 160 (84 + 5 * m + i) (by unfold e34; omega)
  have a2 := e 160 (19 + i) (by unfold e34; omega)
  rw [u_ne (by omega), u_eq ⟨rfl, rfl⟩] at a1
  rw [u_eq ⟨rfl, rfl⟩] at a2
  intro a b q
  have a5 := e a b q
  rw [jup_at, jup_at] at a5 ⊢
  by_cases c1 : a = 160 ∧ b = 19 + i
  · rw [if_pos c1, c1.1, c1.2, a2]
    omega
  · by_cases c2 : a = 160 ∧ b = 84 + 5 * m + i
    · rw [if_neg c1, if_pos c2, c2.1, c2.2, a1]
      omega
    · rw [if_neg c1, if_neg c2] at a5 ⊢
      exact a5
theorem rG_mv {s : jM} {n : Nat} (hn : n ≤ 5) {P x : Int → Int} {A : jM} {w i : Int} (hx : 0 ≤ x 0 ∧ x 0 < 5 ∧ 0 ≤ x 1 ∧ x 1 < 5 ∧ x 0 ≠ x 1) (h : rG s n P x A) (hw : w = 0 ∨ w = 1) (hi : 0 ≤ i ∧ i < (n : Int)) (hst : s 160 (69 + x w) ≠ 2) : rG (jup (jup s 160 (84 + 5 * x w + i) (s 160 (84 + 5 * x w + i) + 1)) 160 (19 + i) (s 160 (19 + i) - 1)) n P x (gmv P A w i) := by
  obtain ⟨h1, h2, h3⟩ := h
  have hxw : 0 ≤ x w ∧ x w < 5 := by rcases hw with rfl | rfl <;> omega
  refine ⟨?_, fun j j1 j2 => ?_, fun v v1 v2 => ?_⟩
  · simp (disch := omega) only [↓jb_m, ↓jm_s, ↓reduceIte, t_lt, t_nlt, t_le, t_nle, t_eq, t_neq, w32_id, w64_id, jb_s, and_true, true_and, and_self, and_false, false_and, or_true, true_or, or_false, false_or, or_self, not_false_eq_true, not_true_eq_false, u_ne, u_eq, u_u, Int.reduceAdd, Int.reduceSub, Int.reduceMul, Int.reduceNeg, Int.zero_add, Int.add_zero, n15, n16, q10, q11, q12, q13, q14]
  · have c := h2 j j1 j2
    unfold gmv
    by_cases e : j = i
    · subst e
      simp (disch := omega) only [↓jb_m, ↓jm_s, ↓reduceIte, t_lt, t_nlt, t_le, t_nle, t_eq, t_neq, w32_id, w64_id, jb_s, and_true, true_and, and_self, and_false, false_and, or_true, true_or, or_false, false_or, or_self, not_false_eq_true, not_true_eq_false, u_ne, u_eq, u_u, Int.reduceAdd, Int.reduceSub, Int.reduceMul, Int.reduceNeg, Int.zero_add, Int.add_zero, n15, n16, q10, q11, q12, q13, q14]
    · simp (disch := omega) only [↓jb_m, ↓jm_s, ↓reduceIte, t_lt, t_nlt, t_le, t_nle, t_eq, t_neq, w32_id, w64_id, jb_s, and_true, true_and, and_self, and_false, false_and, or_true, true_or, or_false, false_or, or_self, not_false_eq_true, not_true_eq_false, u_ne, u_eq, u_u, Int.reduceAdd, Int.reduceSub, Int.reduceMul, Int.reduceNeg, Int.zero_add, Int.add_zero, n15, n16, q10, q11, q12, q13, q14]
  · have c := h3 v v1 v2
    have hxv : 0 ≤ x v ∧ x v < 5 := by rcases (by omega : v = 0 ∨ v = 1) with rfl | rfl <;> omega
    by_cases e : v = w
    · subst e
      have s1 := sum5_add (f := fun j => s 160 (84 + 5 * x v + j)) (g := fun j => jup (jup s 160 (84 + 5 * x v + i) (s 160 (84 + 5 * x v + i) + 1)) 160 (19 + i) (s 160 (19 + i) - 1) 160 (84 + 5 * x v + j)) (k := i) (v := 1) hi.1 (by omega) (by show jup _ _ _ _ _ _ = _; simp (disch := omega) only [↓jb_m, ↓jm_s, ↓reduceIte, t_lt, t_nlt, t_le, t_nle, t_eq, t_neq, w32_id, w64_id, jb_s, and_true, true_and, and_self, and_false, false_and, or_true, true_or, or_false, false_or, or_self, not_false_eq_true, not_true_eq_false, u_ne, u_eq, u_u, Int.reduceAdd, Int.reduceSub, Int.reduceMul, Int.reduceNeg, Int.zero_add, Int.add_zero, n15, n16, q10, q11, q12, q13, q14]) (fun j j1 j2 j3 => by show jup _ _ _ _ _ _ = _; simp (disch := omega) only [↓jb_m, ↓jm_s, ↓reduceIte, t_lt, t_nlt, t_le, t_nle, t_eq, t_neq, w32_id, w64_id, jb_s, and_true, true_and, and_self, and_false, false_and, or_true, true_or, or_false, false_or, or_self, not_false_eq_true, not_true_eq_false, u_ne, u_eq, u_u, Int.reduceAdd, Int.reduceSub, Int.reduceMul, Int.reduceNeg, Int.zero_add, Int.add_zero, n15, n16, q10, q11, q12, q13, q14])
      have s2 := sum5_add (f := fun j => s 160 (84 + 5 * x v + j) * s 160 (9 + j)) (g := fun j => jup (jup s 160 (84 + 5 * x v + i) (s 160 (84 + 5 * x v + i) + 1)) 160 (19 + i) (s 160 (19 + i) - 1) 160 (84 + 5 * x v + j) * jup (jup s 160 (84 + 5 * x v + i) (s 160 (84 + 5 * x v + i) + 1)) 160 (19 + i) (s 160 (19 + i) - 1) 160 (9 + j)) (k := i) (v := P i) hi.1 (by omega) (by show jup _ _ _ _ _ _ * jup _ _ _ _ _ _ = _; simp (disch := omega) only [↓jb_m, ↓jm_s, ↓reduceIte, t_lt, t_nlt, t_le, t_nle, t_eq, t_neq, w32_id, w64_id, jb_s, and_true, true_and, and_self, and_false, false_and, or_true, true_or, or_false, false_or, or_self, not_false_eq_true, not_true_eq_false, u_ne, u_eq, u_u, Int.reduceAdd, Int.reduceSub, Int.reduceMul, Int.reduceNeg, Int.zero_add, Int.add_zero, n15, n16, q10, q11, q12, q13, q14]; rw [Int.add_mul, Int.one_mul, (h2 i hi.1 hi.2).1]) (fun j j1 j2 j3 => by show jup _ _ _ _ _ _ * jup _ _ _ _ _ _ = _; simp (disch := omega) only [↓jb_m, ↓jm_s, ↓reduceIte, t_lt, t_nlt, t_le, t_nle, t_eq, t_neq, w32_id, w64_id, jb_s, and_true, true_and, and_self, and_false, false_and, or_true, true_or, or_false, false_or, or_self, not_false_eq_true, not_true_eq_false, u_ne, u_eq, u_u, Int.reduceAdd, Int.reduceSub, Int.reduceMul, Int.reduceNeg, Int.zero_add, Int.add_zero, n15, n16, q10, q11, q12, q13, q14])
      refine ⟨fun j j1 j2 j3 => ?_, ?_, fun z => ?_, fun _ => ?_, ?_⟩
      · simp (disch := omega) only [↓jb_m, ↓jm_s, ↓reduceIte, t_lt, t_nlt, t_le, t_nle, t_eq, t_neq, w32_id, w64_id, jb_s, and_true, true_and, and_self, and_false, false_and, or_true, true_or, or_false, false_or, or_self, not_false_eq_true, not_true_eq_false, u_ne, u_eq, u_u, Int.reduceAdd, Int.reduceSub, Int.reduceMul, Int.reduceNeg, Int.zero_add, Int.add_zero, n15, n16, q10, q11, q12, q13, q14]
        exact c.1 j j1 j2 j3
      · simp (disch := omega) only [↓jb_m, ↓jm_s, ↓reduceIte, t_lt, t_nlt, t_le, t_nle, t_eq, t_neq, w32_id, w64_id, jb_s, and_true, true_and, and_self, and_false, false_and, or_true, true_or, or_false, false_or, or_self, not_false_eq_true, not_true_eq_false, u_ne, u_eq, u_u, Int.reduceAdd, Int.reduceSub, Int.reduceMul, Int.reduceNeg, Int.zero_add, Int.add_zero, n15, n16, q10, q11, q12, q13, q14]
      · exfalso
        revert z
        simp (disch := omega) only [↓jb_m, ↓jm_s, ↓reduceIte, t_lt, t_nlt, t_le, t_nle, t_eq, t_neq, w32_id, w64_id, jb_s, and_true, true_and, and_self, and_false, false_and, or_true, true_or, or_false, false_or, or_self, not_false_eq_true, not_true_eq_false, u_ne, u_eq, u_u, Int.reduceAdd, Int.reduceSub, Int.reduceMul, Int.reduceNeg, Int.zero_add, Int.add_zero, n15, n16, q10, q11, q12, q13, q14]
        exact id
      · rw [s1, gmv]
        have := c.2.2.2.1 hst
        simp (disch := omega) only [↓jb_m, ↓jm_s, ↓reduceIte, t_lt, t_nlt, t_le, t_nle, t_eq, t_neq, w32_id, w64_id, jb_s, and_true, true_and, and_self, and_false, false_and, or_true, true_or, or_false, false_or, or_self, not_false_eq_true, not_true_eq_false, u_ne, u_eq, u_u, Int.reduceAdd, Int.reduceSub, Int.reduceMul, Int.reduceNeg, Int.zero_add, Int.add_zero, n15, n16, q10, q11, q12, q13, q14]
      · rw [s2, gmv, ← c.2.2.2.2]
        simp (disch := omega) only [↓jb_m, ↓jm_s, ↓reduceIte, t_lt, t_nlt, t_le, t_nle, t_eq, t_neq, w32_id, w64_id, jb_s, and_true, true_and, and_self, and_false, false_and, or_true, true_or, or_false, false_or, or_self, not_false_eq_true, not_true_eq_false, u_ne, u_eq, u_u, Int.reduceAdd, Int.reduceSub, Int.reduceMul, Int.reduceNeg, Int.zero_add, Int.add_zero, n15, n16, q10, q11, q12, q13, q14]
    · have ev : x v ≠ x w := by
        rcases hw with q | q <;> rcases (by omega : v = 0 ∨ v = 1) with q2 | q2 <;> subst q q2 <;> omega
      have s1 := sum5_congr (f := fun j => jup (jup s 160 (84 + 5 * x w + i) (s 160 (84 + 5 * x w + i) + 1)) 160 (19 + i) (s 160 (19 + i) - 1) 160 (84 + 5 * x v + j)) (g := fun j => s 160 (84 + 5 * x v + j)) (fun j j1 j2 => by show jup _ _ _ _ _ _ = _; simp (disch := omega) only [↓jb_m, ↓jm_s, ↓reduceIte, t_lt, t_nlt, t_le, t_nle, t_eq, t_neq, w32_id, w64_id, jb_s, and_true, true_and, and_self, and_false, false_and, or_true, true_or, or_false, false_or, or_self, not_false_eq_true, not_true_eq_false, u_ne, u_eq, u_u, Int.reduceAdd, Int.reduceSub, Int.reduceMul, Int.reduceNeg, Int.zero_add, Int.add_zero, n15, n16, q10, q11, q12, q13, q14])
      have s2 := sum5_congr (f := fun j => jup (jup s 160 (84 + 5 * x w + i) (s 160 (84 + 5 * x w + i) + 1)) 160 (19 + i) (s 160 (19 + i) - 1) 160 (84 + 5 * x v + j) * jup (jup s 160 (84 + 5 * x w + i) (s 160 (84 + 5 * x w + i) + 1)) 160 (19 + i) (s 160 (19 + i) - 1) 160 (9 + j)) (g := fun j => s 160 (84 + 5 * x v + j) * s 160 (9 + j)) (fun j j1 j2 => by show jup _ _ _ _ _ _ * jup _ _ _ _ _ _ = _; simp (disch := omega) only [↓jb_m, ↓jm_s, ↓reduceIte, t_lt, t_nlt, t_le, t_nle, t_eq, t_neq, w32_id, w64_id, jb_s, and_true, true_and, and_self, and_false, false_and, or_true, true_or, or_false, false_or, or_self, not_false_eq_true, not_true_eq_false, u_ne, u_eq, u_u, Int.reduceAdd, Int.reduceSub, Int.reduceMul, Int.reduceNeg, Int.zero_add, Int.add_zero, n15, n16, q10, q11, q12, q13, q14])
      refine ⟨fun j j1 j2 j3 => ?_, ?_, fun z => ?_, fun z => ?_, ?_⟩
      · simp (disch := omega) only [↓jb_m, ↓jm_s, ↓reduceIte, t_lt, t_nlt, t_le, t_nle, t_eq, t_neq, w32_id, w64_id, jb_s, and_true, true_and, and_self, and_false, false_and, or_true, true_or, or_false, false_or, or_self, not_false_eq_true, not_true_eq_false, u_ne, u_eq, u_u, Int.reduceAdd, Int.reduceSub, Int.reduceMul, Int.reduceNeg, Int.zero_add, Int.add_zero, n15, n16, q10, q11, q12, q13, q14]
        exact c.1 j j1 j2 j3
      · simp (disch := omega) only [↓jb_m, ↓jm_s, ↓reduceIte, t_lt, t_nlt, t_le, t_nle, t_eq, t_neq, w32_id, w64_id, jb_s, and_true, true_and, and_self, and_false, false_and, or_true, true_or, or_false, false_or, or_self, not_false_eq_true, not_true_eq_false, u_ne, u_eq, u_u, Int.reduceAdd, Int.reduceSub, Int.reduceMul, Int.reduceNeg, Int.zero_add, Int.add_zero, n15, n16, q10, q11, q12, q13, q14]
      · revert z
        rw [gmv]
        simp (disch := omega) only [↓jb_m, ↓jm_s, ↓reduceIte, t_lt, t_nlt, t_le, t_nle, t_eq, t_neq, w32_id, w64_id, jb_s, and_true, true_and, and_self, and_false, false_and, or_true, true_or, or_false, false_or, or_self, not_false_eq_true, not_true_eq_false, u_ne, u_eq, u_u, Int.reduceAdd, Int.reduceSub, Int.reduceMul, Int.reduceNeg, Int.zero_add, Int.add_zero, n15, n16, q10, q11, q12, q13, q14]
        exact c.2.2.1
      · revert z
        rw [s1, gmv]
        simp (disch := omega) only [↓jb_m, ↓jm_s, ↓reduceIte, t_lt, t_nlt, t_le, t_nle, t_eq, t_neq, w32_id, w64_id, jb_s, and_true, true_and, and_self, and_false, false_and, or_true, true_or, or_false, false_or, or_self, not_false_eq_true, not_true_eq_false, u_ne, u_eq, u_u, Int.reduceAdd, Int.reduceSub, Int.reduceMul, Int.reduceNeg, Int.zero_add, Int.add_zero, n15, n16, q10, q11, q12, q13, q14]
        exact c.2.2.2.1
      · rw [s2, gmv]
        simp (disch := omega) only [↓jb_m, ↓jm_s, ↓reduceIte, t_lt, t_nlt, t_le, t_nle, t_eq, t_neq, w32_id, w64_id, jb_s, and_true, true_and, and_self, and_false, false_and, or_true, true_or, or_false, false_or, or_self, not_false_eq_true, not_true_eq_false, u_ne, u_eq, u_u, Int.reduceAdd, Int.reduceSub, Int.reduceMul, Int.reduceNeg, Int.zero_add, Int.add_zero, n15, n16, q10, q11, q12, q13, q14]
theorem r176 {rec : Int → Int → Int → Int → Int → jM → Option (Int × jM)} {k52 : Int → Int → Int → Int → Int → Int → Int → Int → Int → Int → jM → Option (Int × jM)} {a0 a1 a2 a3 a4 a6 : Int} {w m b v i : Int} {s : jM} (hw : w = 0 ∨ w = 1) (hm : -1 ≤ m ∧ m ≤ 5) : Md_plays_176 rec k52 a0 a1 a2 a3 a4 (1 - w) a6 b m i v s = if m < 0 ∨ bet w v b = true then k52 a0 a1 a2 a3 a4 (1 - w) a6 v i (i + 1) s else k52 a0 a1 a2 a3 a4 (1 - w) a6 b m (i + 1) s := by
  have c1 : w32 m = m := w32_id (by omega) (by omega)
  rw [Md_plays_176, c1]
  by_cases q : m < 0
  · rw [if_pos q, if_pos (Or.inl q)]
  · rw [if_neg q]
    rcases hw with q2 | q2
    · have c2 : ¬ w32 (1 - w) = 0 := by rw [q2]; decide
      rw [if_neg c2]
      by_cases q3 : w32 b < w32 v
      · rw [if_pos q3, if_pos (Or.inr ((bet_0 q2).2 q3))]
      · rw [if_neg q3, if_neg (fun z => z.elim q (fun y => q3 ((bet_0 q2).1 y)))]
    · have c2 : w32 (1 - w) = 0 := by rw [q2]; decide
      have c3 : ¬ w = 0 := by omega
      rw [if_pos c2]
      by_cases q3 : w32 v < w32 b
      · rw [if_pos q3, if_pos (Or.inr ((bet_1 c3).2 q3))]
      · rw [if_neg q3, if_neg (fun z => z.elim q (fun y => q3 ((bet_1 c3).1 y)))]
theorem rEnd {rec : Int → Int → Int → Int → Int → jM → Option (Int × jM)} {n : Nat} (hn : n ≤ 5) {a1 a2 d c a5 a6 b m : Int} {u : jM} (h0 : u 160 0 = n) (hd : 0 ≤ d ∧ d < 100) {f : Nat} : ∃ t, Md_plays_52 rec (f + 1) 155 a1 a2 d c a5 a6 b m ((n : Int) + 1) u = some (b, t) ∧ EX e34 u t ∧ (d = 0 → t 155 34 = m) := by
  have c1 : w32 (u (155 + 5) 0) < w32 ((n : Int) + 1) := by
    show w32 (u 160 0) < _
    rw [h0, w32_id (by omega) (by omega), w32_id (by omega) (by omega)]
    omega
  have c2 : w32 d = d := w32_id (by omega) (by omega)
  rw [Md_plays_52, if_pos c1, c2]
  by_cases q : d = 0
  · rw [if_pos q]
    exact ⟨_, rfl, (EX.rf _ _).up ⟨rfl, rfl⟩, fun _ => u_eq ⟨rfl, rfl⟩⟩
  · rw [if_neg q]
    exact ⟨u, rfl, EX.rf _ _, fun z => absurd z q⟩
theorem w32n {i : Nat} (h : i < 1000) : w32 (i : Int) = i := w32_id (by omega) (by omega)
theorem w32a {c v : Int} (h : 0 ≤ c + v ∧ c + v < 2000) : w32 (c + v) = c + v := w32_id (by omega) (by omega)
theorem w32b {v w : Int} (e : v = w) (h : -100000 ≤ w ∧ w < 100000) : w32 v = w := by rw [e]; exact w32_id (by omega) (by omega)
theorem rLoop {rec : Int → Int → Int → Int → Int → jM → Option (Int × jM)} {n : Nat} (hn : n ≤ 5) {P x : Int → Int} {A : jM} {d c w v0 : Int} {val : Int → Int} (hx : 0 ≤ x 0 ∧ x 0 < 5 ∧ 0 ≤ x 1 ∧ x 1 < 5 ∧ x 0 ≠ x 1) (hw : w = 0 ∨ w = 1) (hd : 0 ≤ d ∧ d < 100) (hB : gB n A) (hrec : ∀ (i : Int) (u : jM), 0 ≤ i → i < n → gok A w i = true → rG u n P x (gmv P A w i) → ∃ t, rec 155 (x 0) (x 1) (d + 1) c u = some (val i, t) ∧ EX e34 u t) (hrec0 : ∀ u : jM, rG u n P x A → ∃ t, rec 155 (x 0) (x 1) (d + 1) c u = some (v0, t) ∧ EX e34 u t) : ∀ (k f i : Nat) (m b : Int) (u : jM), i + k = n → k + 2 ≤ f → (-1 ≤ m ∧ m ≤ 5) → rG u n P x A → ∃ t, Md_plays_52 rec f 155 (x 0) (x 1) d c (1 - w) (x w) b m i u = some ((upw (gok A w) val w v0 n k i m b).2, t) ∧ EX e34 u t ∧ (d = 0 → t 155 34 = (upw (gok A w) val w v0 n k i m b).1) := by
  intro k
  have hxw : 0 ≤ x w ∧ x w < 5 := by rcases hw with q | q <;> subst q <;> omega
  induction k with
  | zero =>
    intro f i m b u h1 h2 h3 h4
    obtain ⟨f, rfl⟩ : ∃ g, f = g + 2 := ⟨f - 2, by omega⟩
    have e : i = n := by omega
    subst e
    have e0 : u 160 0 = i := h4.1
    have c1 : ¬ w32 (u (155 + 5) 0) < w32 (i : Int) := by
      show ¬ w32 (u 160 0) < _
      rw [e0]
      exact Int.lt_irrefl _
    have c2 : w32 (i : Int) = w32 (u (155 + 5) 0) := by
      show _ = w32 (u 160 0)
      rw [e0]
    have c3 : ¬ w32 1 = 0 := by decide
    obtain ⟨t, t1, t2⟩ := hrec0 u h4
    have h5 := rG_ex h4 t2
    rw [Md_plays_52, if_neg c1, if_pos c2, Md_plays_79, if_neg c3, if_neg c3, Md_plays_149, t1, jb_t, if_neg c3, r176 hw h3, upw]
    by_cases q : m < 0 ∨ bet w v0 b = true
    · rw [if_pos q, if_pos q]
      obtain ⟨v, v1, v2, v3⟩ := rEnd (rec := rec) (a1 := x 0) (a2 := x 1) (c := c) (a5 := 1 - w) (a6 := x w) (b := v0) (m := i) (f := f) hn h5.1 hd
      exact ⟨v, v1, t2.tr v2, v3⟩
    · rw [if_neg q, if_neg q]
      obtain ⟨v, v1, v2, v3⟩ := rEnd (rec := rec) (a1 := x 0) (a2 := x 1) (c := c) (a5 := 1 - w) (a6 := x w) (b := b) (m := m) (f := f) hn h5.1 hd
      exact ⟨v, v1, t2.tr v2, v3⟩
  | succ k ih =>
    intro f i m b u h1 h2 h3 h4
    obtain ⟨f, rfl⟩ : ∃ g, f = g + 1 := ⟨f - 1, by omega⟩
    have e0 : u 160 0 = n := h4.1
    have d6 : ¬ (n : Int) < i := by omega
    have d7 : ¬ (i : Int) = n := by omega
    have d8 : (0 : Int) ≤ i ∧ (i : Int) < n := by omega
    have d9 : (0 : Int) ≤ i ∧ (i : Int) < 5 := by omega
    have c3 : w32 0 = 0 := by decide
    have g4 : 0 ≤ 69 + x w ∧ 69 + x w < 1905 := by omega
    have g5 : (0 : Int) ≤ 19 + i ∧ 19 + (i : Int) < 1905 := by omega
    have g6 : 0 ≤ 59 + x w ∧ 59 + x w < 1905 := by omega
    have k1 : i + 1 + k = n := by omega
    have k2 : k + 2 ≤ f := by omega
    have hc : ((i + 1 : Nat) : Int) = (i : Int) + 1 := by omega
    have b1 := hB.1 i d8.1 d8.2
    have b2 := hB.2 w (by omega) (by omega)
    have a1 := (h4.2.1 i d8.1 d8.2).2
    obtain ⟨a2, a3, a4, a5, -⟩ := h4.2.2 w (by omega) (by omega)
    have i4 : i < 1000 := by omega
    have n4 : n < 1000 := by omega
    have m1 : 0 ≤ 69 + x w ∧ 69 + x w < 2000 := by omega
    have m2 : (0 : Int) ≤ 19 + i ∧ 19 + (i : Int) < 2000 := by omega
    have m3 : 0 ≤ 59 + x w ∧ 59 + x w < 2000 := by omega
    have p1 : -100000 ≤ u 160 (69 + x w) ∧ u 160 (69 + x w) < 100000 := by omega
    have p2 : -100000 ≤ A 0 i ∧ A 0 i < 100000 := by omega
    have p3 : -100000 ≤ u 160 (59 + x w) ∧ u 160 (59 + x w) < 100000 := by omega
    have hskip : ¬ gok A w i = true → ∃ t, Md_plays_52 rec f 155 (x 0) (x 1) d c (1 - w) (x w) b m ((i : Int) + 1) u = some ((upw (gok A w) val w v0 n (k + 1) i m b).2, t) ∧ EX e34 u t ∧ (d = 0 → t 155 34 = (upw (gok A w) val w v0 n (k + 1) i m b).1) := fun o => by
      rw [upw_no (fun z => o z.1), ← hc]
      exact ih f (i + 1) m b u k1 k2 h3 h4
    rw [Md_plays_52]
    show ∃ t, (if w32 (u 160 0) < w32 (i : Int) then _ else (if w32 (i : Int) = w32 (u 160 0) then _ else _)) = _ ∧ _
    rw [e0, w32n i4, w32n n4, if_neg d6, if_neg d7, Md_plays_79, if_pos c3, w32a m1, if_pos g4]
    show ∃ t, (if w32 (u 160 (69 + x w)) = 2 then _ else _) = _ ∧ _
    rw [w32b rfl p1]
    by_cases q1 : u 160 (69 + x w) = 2
    · rw [if_pos q1]
      exact hskip (fun z => by have := (of_decide_eq_true z).2; have := a4 q1; omega)
    · rw [if_neg q1, w32a m2, if_pos g5]
      show ∃ t, (if w32 (u 160 (19 + (i : Int))) = 0 then _ else _) = _ ∧ _
      rw [w32b a1 p2]
      by_cases q2 : A 0 i = 0
      · rw [if_pos q2]
        exact hskip (fun z => by have := (of_decide_eq_true z).1; omega)
      · have a6 := a5 q1
        have hp := Md_partsIn_eq (s := u) hxw ⟨by omega, by omega⟩ (fun j j1 j2 j3 => a2 j j1 (by omega) j3)
        have p4 : -100000 ≤ (sum5 fun j => u 160 (84 + 5 * x w + j)) ∧ (sum5 fun j => u 160 (84 + 5 * x w + j)) < 100000 := by
          generalize (sum5 fun j => u 160 (84 + 5 * x w + j)) = S at a6
          omega
        rw [if_neg q2, hp, jb_t, w32a m3, if_pos g6]
        show ∃ t, (if w32 (sum5 fun j => u 160 (84 + 5 * x w + j)) = w32 (u 160 (59 + x w)) then _ else _) = _ ∧ _
        rw [w32b rfl p3, w32b rfl p4]
        by_cases q3 : (sum5 fun j => u 160 (84 + 5 * x w + j)) = u 160 (59 + x w)
        · rw [if_pos q3]
          exact hskip (fun z => by have := (of_decide_eq_true z).2; rw [q3] at a6; omega)
        · have ho : gok A w i = true := by
            refine decide_eq_true ⟨by omega, ?_⟩
            generalize (sum5 fun j => u 160 (84 + 5 * x w + j)) = S at a6 q3
            omega
          obtain ⟨t, t1, t2⟩ := hrec i _ d8.1 d8.2 ho (rG_mv hn hx h4 hw d8 q1)
          have t3 := mv_back hxw d9 t2
          have h5 := rG_ex h4 t3
          rw [if_neg q3, if_pos c3, Md_moves_eq hxw d9, jb_t, Md_plays_149, t1, jb_t, if_pos c3, Md_moves_eq hxw d9, jb_t, r176 hw h3]
          by_cases q4 : m < 0 ∨ bet w (val i) b = true
          · rw [if_pos q4, upw_ok ho q4, ← hc]
            obtain ⟨v, v1, v2, v3⟩ := ih f (i + 1) i (val i) _ k1 k2 (by omega) h5
            exact ⟨v, v1, t3.tr v2, v3⟩
          · rw [if_neg q4, upw_no (fun z => q4 z.2), ← hc]
            obtain ⟨v, v1, v2, v3⟩ := ih f (i + 1) m b _ k1 k2 h3 h5
            exact ⟨v, v1, t3.tr v2, v3⟩
theorem rBest {n : Nat} (hn : n ≤ 5) {P x : Int → Int} (hx : 0 ≤ x 0 ∧ x 0 < 5 ∧ 0 ≤ x 1 ∧ x 1 < 5 ∧ x 0 ≠ x 1) {c : Nat} (hc : c < 50) : ∀ (k f : Nat) (d w : Int) (A u : jM), k < f → d + k = c → 0 ≤ d → (w = 0 ∧ d % 2 = 0 ∨ w = 1 ∧ d % 2 = 1) → gB n A → rG u n P x A → ∃ t, Md_plays f 155 (x 0) (x 1) d c u = some ((gv n P k w A).2, t) ∧ EX e34 u t ∧ (1 ≤ k → d = 0 → t 155 34 = if (gv n P k w A).1 < 0 then (n : Int) else (gv n P k w A).1) := by
  intro k
  induction k with
  | zero =>
    intro f d w A u h1 h2 h3 h4 h5 h6
    obtain ⟨f, rfl⟩ : ∃ g, f = g + 1 := ⟨f - 1, by omega⟩
    have s0 := Md_strengthOf_eq (m := x 0) (s := u) (by omega) (by rw [h6.1]; omega) (fun j j1 j2 j3 => (h6.2.2 0 (by omega) (by omega)).1 j j1 (by rw [h6.1] at j2; exact j2) j3)
    have s1 := Md_strengthOf_eq (m := x 1) (s := u) (by omega) (by rw [h6.1]; omega) (fun j j1 j2 j3 => (h6.2.2 1 (by omega) (by omega)).1 j j1 (by rw [h6.1] at j2; exact j2) j3)
    rw [← (h6.2.2 0 (by omega) (by omega)).2.2.2.2] at s0
    rw [← (h6.2.2 1 (by omega) (by omega)).2.2.2.2] at s1
    refine ⟨u, ?_, EX.rf _ _, fun z => by omega⟩
    have c1 : w32 d = w32 (c : Int) := by rw [show d = (c : Int) by omega]
    rw [Md_plays, Md_plays_b, if_pos c1, s0, jb_t, s1, jb_t, gv]
  | succ k ih =>
    intro f d w A u h1 h2 h3 h4 h5 h6
    obtain ⟨f, rfl⟩ : ∃ g, f = g + 1 := ⟨f - 1, by omega⟩
    have c2 : k < f := by omega
    have c3 : d + 1 + k = c := by omega
    have c4 : 0 ≤ d + 1 := by omega
    have c5 : (1 - w = 0 ∧ (d + 1) % 2 = 0 ∨ 1 - w = 1 ∧ (d + 1) % 2 = 1) := by omega
    have c6 : 0 ≤ d ∧ d < 100 := by omega
    have hj : n + 2 ≤ jFU := Nat.le_of_lt (bub_ge (by omega))
    have hw : w = 0 ∨ w = 1 := by omega
    have hr : jrem d 2 = d % 2 := jrem_e (by omega) (by omega) (by omega) (by omega)
    have c1 : ¬ w32 d = w32 (c : Int) := by rw [w32_id (by omega) (by omega), w32_id (by omega) (by omega)]; omega
    obtain ⟨v, v1, v2, v3⟩ := rLoop (rec := Md_plays f) (c := (c : Int)) (d := d) (v0 := (gv n P k (1 - w) A).2) (val := fun i => (gv n P k (1 - w) (gmv P A w i)).2) hn hx hw c6 h5 (fun i u i1 i2 i3 i4 => by
      obtain ⟨t, t1, t2, -⟩ := ih f (d + 1) (1 - w) _ u c2 c3 c4 c5 (gB_mv h5 i3) i4
      exact ⟨t, t1, t2⟩) (fun u i4 => by
      obtain ⟨t, t1, t2, -⟩ := ih f (d + 1) (1 - w) _ u c2 c3 c4 c5 h5 i4
      exact ⟨t, t1, t2⟩) n jFU 0 (-1) 0 u (Nat.zero_add n) hj (by decide) h6
    rw [up_dn] at v1 v3
    refine ⟨v, ?_, v2, fun _ z => v3 z⟩
    rw [Md_plays, Md_plays_b, if_neg c1, hr]
    rcases h4 with ⟨q, q2⟩ | ⟨q, q2⟩
    · have e1 : w32 (d % 2) = 0 := by rw [q2]; decide
      have e2 : ¬ w32 1 = 0 := by decide
      subst q
      rw [if_pos e1, Md_plays_29, if_neg e2]
      exact v1
    · have e1 : ¬ w32 (d % 2) = 0 := by rw [q2]; decide
      have e2 : w32 0 = 0 := by decide
      subst q
      rw [if_neg e1, Md_plays_29, if_pos e2]
      exact v1
theorem seat_eq {s : jM} {o w : Int} (hw : 0 ≤ w ∧ w ≤ 1) (ho : 30 ≤ o) (h3 : 0 ≤ s o 3 ∧ s o 3 ≤ 2) : Ga_seat 22 w o s = some (0, jup (jup s 25 w (if s o 3 = 2 then 0 else s o 1 - s o 6)) 26 w (s o 5)) := by
  by_cases q : s o 3 = 2
  · rw [if_pos q]
    simp (disch := omega) only [↓jb_m, ↓jm_s, ↓reduceIte, t_lt, t_nlt, t_le, t_nle, t_eq, t_neq, w32_id, w64_id, jb_s, and_true, true_and, and_self, and_false, false_and, or_true, true_or, or_false, false_or, or_self, not_false_eq_true, not_true_eq_false, u_ne, u_eq, u_u, Int.reduceAdd, Int.reduceSub, Int.reduceMul, Int.reduceNeg, Int.zero_add, Int.add_zero, n15, n16, q10, q11, q12, q13, q14, Ga_seat, q]
  · rw [if_neg q]
    simp (disch := omega) only [↓jb_m, ↓jm_s, ↓reduceIte, t_lt, t_nlt, t_le, t_nle, t_eq, t_neq, w32_id, w64_id, jb_s, and_true, true_and, and_self, and_false, false_and, or_true, true_or, or_false, false_or, or_self, not_false_eq_true, not_true_eq_false, u_ne, u_eq, u_u, Int.reduceAdd, Int.reduceSub, Int.reduceMul, Int.reduceNeg, Int.zero_add, Int.add_zero, n15, n16, q10, q11, q12, q13, q14, Ga_seat]
def rGa (a _b : Int) : Prop := 16 ≤ a ∧ a ≤ 28
def room (s : jM) (m : Int) : Int := if s 160 (69 + m) = 2 then 0 else s 160 (59 + m) - mcnt (cw s 0) m
def gX (a b : Int) : Int → Int := fun w => if w = 0 then a else b
def gpA (s : jM) (a b : Int) : jM := fun r c => if r = 0 then s 160 (19 + c) else if r = 1 then room s (gX a b c) else mstr (cw s 0) (gX a b c)
def gP (s : jM) : Int → Int := fun j => s 160 (9 + j)
theorem play_eq {s : jM} {B a b : Int} (hB : B = 30 ∨ B = 55) (h : iSe (vw s B) (cw s 0)) (ha : 0 ≤ a ∧ a < s 160 2) (hb : 0 ≤ b ∧ b < s 160 2) {k : Nat} (hk : k ≤ 4) : ∃ t, Ga_play 22 B a b k s = some ((gv (s 160 0).toNat (gP s) k 0 (gpA s a b)).2, t) ∧ EX rGa s t ∧ t 22 1 = (gv (s 160 0).toNat (gP s) k 0 (gpA s a b)).1 ∧ gB (s 160 0).toNat (gpA s a b) := by
  obtain ⟨hd1, hd2⟩ := hd_at h
  have h4 : s B 4 = s 160 0 := hd1.2.2.2.2.1
  have m1 := mo_at h ha
  have m2 := mo_at h hb
  have n0 : 0 ≤ s 160 0 ∧ s 160 0 ≤ 5 := by omega
  obtain ⟨S, hS⟩ : ∃ S, S = jcp (jcp (jup s 22 0 (s B 4)) (B + 1) 0 23 0 5) (B + 3) 0 24 0 5 := ⟨_, rfl⟩
  have s1 : EX rGa s S := by
    rw [hS]
    exact (((EX.rf _ _).up ⟨by omega, by omega⟩).cp (fun j _ _ => ⟨by omega, by omega⟩)).cp (fun j _ _ => ⟨by omega, by omega⟩)
  have s2 : S 22 0 = s 160 0 := by
    rw [hS, jcp_at, if_neg (by omega), jcp_at, if_neg (by omega), u_eq ⟨rfl, rfl⟩, h4]
  have s3 : ∀ j, 0 ≤ j → j < 5 → S 23 j = s (B + 1) j ∧ S 24 j = s (B + 3) j := fun j j1 j2 => by
    rw [hS, jcp_at, if_neg (by omega), jcp_at, if_pos (by omega), u_ne (by omega), jcp_at, if_pos (by omega), jcp_at, if_neg (by omega), u_ne (by omega), show 0 + (j - 0) = j by omega]
    exact ⟨rfl, rfl⟩
  have s4 : ∀ o j, 30 ≤ o → S o j = s o j := fun o j q => s1 o j (by unfold rGa; omega)
  have ea : B + 4 + 11 + 2 * a = B + (15 + 2 * a) := by omega
  have eb : B + 4 + 11 + 2 * b = B + (15 + 2 * b) := by omega
  have oa : 30 ≤ B + (15 + 2 * a) := by omega
  have ob : 30 ≤ B + (15 + 2 * b) := by omega
  have ra : (if S (B + (15 + 2 * a)) 3 = 2 then 0 else S (B + (15 + 2 * a)) 1 - S (B + (15 + 2 * a)) 6) = room s a := by
    rw [s4 _ _ oa, s4 _ _ oa, s4 _ _ oa, m1.2.1.2.2.2.1, m1.2.1.2.1, m1.2.1.2.2.2.2.2.2.1, room]
  have rb : (if S (B + (15 + 2 * b)) 3 = 2 then 0 else S (B + (15 + 2 * b)) 1 - S (B + (15 + 2 * b)) 6) = room s b := by
    rw [s4 _ _ ob, s4 _ _ ob, s4 _ _ ob, m2.2.1.2.2.2.1, m2.2.1.2.1, m2.2.1.2.2.2.2.2.2.1, room]
  have ga : S (B + (15 + 2 * a)) 5 = mstr (cw s 0) a := by rw [s4 _ _ oa, m1.2.1.2.2.2.2.2.1]
  have gb : S (B + (15 + 2 * b)) 5 = mstr (cw s 0) b := by rw [s4 _ _ ob, m2.2.1.2.2.2.2.2.1]
  have ra2 : 0 ≤ S (B + (15 + 2 * a)) 3 ∧ S (B + (15 + 2 * a)) 3 ≤ 2 := by rw [s4 _ _ oa, m1.2.1.2.2.2.1]; omega
  have rb2 : 0 ≤ S (B + (15 + 2 * b)) 3 ∧ S (B + (15 + 2 * b)) 3 ≤ 2 := by rw [s4 _ _ ob, m2.2.1.2.2.2.1]; omega
  have q1 := seat_eq (s := S) (w := 0) (by omega) oa ra2
  rw [ra, ga] at q1
  have q2 := seat_eq (s := jup (jup S 25 0 (room s a)) 26 0 (mstr (cw s 0) a)) (w := 1) (by omega) ob (by rw [u_ne (by omega), u_ne (by omega)]; exact rb2)
  rw [u_ne (by omega), u_ne (by omega), u_ne (by omega), u_ne (by omega), u_ne (by omega), u_ne (by omega), u_ne (by omega), u_ne (by omega), rb, gb] at q2
  obtain ⟨T, hT⟩ : ∃ T, T = jup (jup (jup (jup (jup S 25 0 (room s a)) 26 0 (mstr (cw s 0) a)) 25 1 (room s b)) 26 1 (mstr (cw s 0) b)) 22 1 (-1) := ⟨_, rfl⟩
  have t0 : EX rGa s T := by
    rw [hT]
    exact s1.tr ((((((EX.rf _ _).up ⟨by omega, by omega⟩).up ⟨by omega, by omega⟩).up ⟨by omega, by omega⟩).up ⟨by omega, by omega⟩).up ⟨by omega, by omega⟩)
  have hn : (s 160 0).toNat ≤ 5 := by omega
  have hnn : ((s 160 0).toNat : Int) = s 160 0 := Int.toNat_of_nonneg n0.1
  have hc : cG T (s 160 0).toNat (gP s) (gpA s a b) := by
    refine ⟨?_, fun j j1 j2 => ?_, fun w w1 w2 => ?_⟩
    · rw [hnn, hT]
      simp (disch := omega) only [↓jb_m, ↓jm_s, ↓reduceIte, t_lt, t_nlt, t_le, t_nle, t_eq, t_neq, w32_id, w64_id, jb_s, and_true, true_and, and_self, and_false, false_and, or_true, true_or, or_false, false_or, or_self, not_false_eq_true, not_true_eq_false, u_ne, u_eq, u_u, Int.reduceAdd, Int.reduceSub, Int.reduceMul, Int.reduceNeg, Int.zero_add, Int.add_zero, n15, n16, q10, q11, q12, q13, q14]
    · have := st_at h (k := j) ⟨j1, by omega⟩
      rw [hT, u_ne (by omega), u_ne (by omega), u_ne (by omega), u_ne (by omega), u_ne (by omega), u_ne (by omega), u_ne (by omega), u_ne (by omega), u_ne (by omega), u_ne (by omega), (s3 j j1 (by omega)).1, (s3 j j1 (by omega)).2, this.2.1, this.2.2.2.1]
      exact ⟨rfl, rfl⟩
    · rcases (by omega : w = 0 ∨ w = 1) with q | q
      · subst q
        rw [hT]
        refine ⟨?_, ?_⟩
        · rw [u_ne (by omega), u_ne (by omega), u_ne (by omega), u_ne (by omega), u_eq ⟨rfl, rfl⟩]
          rfl
        · rw [u_ne (by omega), u_ne (by omega), u_ne (by omega), u_eq ⟨rfl, rfl⟩]
          rfl
      · subst q
        rw [hT]
        refine ⟨?_, ?_⟩
        · rw [u_ne (by omega), u_ne (by omega), u_eq ⟨rfl, rfl⟩]
          rfl
        · rw [u_ne (by omega), u_eq ⟨rfl, rfl⟩]
          rfl
  have hG : gB (s 160 0).toNat (gpA s a b) := by
    refine ⟨fun j j1 j2 => ?_, fun w w1 w2 => ?_⟩
    · have := st_at h (k := j) ⟨j1, by omega⟩
      show 0 ≤ s 160 (19 + j) ∧ s 160 (19 + j) ≤ 1000
      omega
    · have y1 : 0 ≤ room s a ∧ room s a ≤ 9 := by
        unfold room
        split <;> omega
      have y2 : 0 ≤ room s b ∧ room s b ≤ 9 := by
        unfold room
        split <;> omega
      rcases (by omega : w = 0 ∨ w = 1) with q | q <;> subst q
      · exact y1
      · exact y2
  have kf : k < 12 := by omega
  have kh : k < 100 := by omega
  obtain ⟨t, t1, t2, t3⟩ := cBest hn k 12 0 _ T kf kh (by omega) hG hc
  have t22 : T 22 1 = -1 := by rw [hT]; exact u_eq ⟨rfl, rfl⟩
  have a5 : 0 ≤ a ∧ a < 5 := ⟨ha.1, m1.1⟩
  have b5 : 0 ≤ b ∧ b < 5 := ⟨hb.1, m2.1⟩
  refine ⟨t, ?_, t0.tr (t2.wk (fun x y q => ⟨by unfold e22 at q; omega, by unfold e22 at q; omega⟩)), ?_, hG⟩
  · rw [Ga_play, w32_id (by omega) (by omega), w32_id (by omega) (by omega), if_pos a5, ea]
    show jb (Ga_seat 22 0 (B + (15 + 2 * a)) (jcp (jcp (jup s 22 0 (s B 4)) (B + 1) 0 23 0 5) (B + 3) 0 24 0 5)) _ = _
    rw [← hS, q1, jb_t, if_pos b5, eb, q2, jb_t, ← hT, t1, jb_t]
  · rcases Nat.eq_zero_or_pos k with q | q
    · subst q
      rw [Ga_bestFrom, Ga_bestFrom_b, if_neg (by decide)] at t1
      have := congrArg (fun o => o.map Prod.snd) t1
      have e : T = t := Option.some.inj this
      rw [← e, t22]
      rfl
    · exact t3 q
theorem dn_b {ok : Int → Bool} {val : Int → Int} {w v0 : Int} {n : Nat} : ∀ (d i : Nat), i + d = n → (dn ok val w v0 d i).1 = -1 ∨ (0 ≤ (dn ok val w v0 d i).1 ∧ (dn ok val w v0 d i).1 < n) := by
  intro d
  induction d with
  | zero => intro i _; exact Or.inl rfl
  | succ d ih =>
    intro i h
    have := ih (i + 1) (by omega)
    rw [dn]
    split
    · right
      show 0 ≤ (i : Int) ∧ (i : Int) < n
      omega
    · exact this
theorem gv_b {n : Nat} {P : Int → Int} {k : Nat} {w : Int} {A : jM} : (gv n P k w A).1 = -1 ∨ (0 ≤ (gv n P k w A).1 ∧ (gv n P k w A).1 < n) := by
  cases k with
  | zero => exact Or.inl rfl
  | succ k => exact dn_b n 0 (Nat.zero_add n)
theorem rG_start {s u : jM} {B a b : Int} (h : iSe (vw s B) (cw s 0)) (ha : 0 ≤ a ∧ a < s 160 2) (hb : 0 ≤ b ∧ b < s 160 2) (hu : ∀ o, u 160 o = s 160 o) : rG u (s 160 0).toNat (gP s) (gX a b) (gpA s a b) := by
  obtain ⟨hd1, hd2⟩ := hd_at h
  have m1 := mo_at h ha
  have m2 := mo_at h hb
  have hnn : ((s 160 0).toNat : Int) = s 160 0 := Int.toNat_of_nonneg hd2.1
  unfold rG
  simp only [hu, hnn]
  have key : ∀ m, (m = a ∨ m = b) → (∀ j, 0 ≤ j → s 160 0 ≤ j → j < 5 → s 160 (84 + 5 * m + j) = 0) ∧ (0 ≤ s 160 (69 + m) ∧ s 160 (69 + m) ≤ 2 ∧ 1 ≤ s 160 (59 + m) ∧ s 160 (59 + m) ≤ 9) ∧ (s 160 (69 + m) = 2 → room s m = 0) ∧ (s 160 (69 + m) ≠ 2 → room s m = s 160 (59 + m) - sum5 (fun j => s 160 (84 + 5 * m + j))) ∧ mstr (cw s 0) m = sum5 (fun j => s 160 (84 + 5 * m + j) * s 160 (9 + j)) := fun m hm => by
    have mm : 0 ≤ m ∧ m < s 160 2 := by omega
    have m1 := mo_at h mm
    refine ⟨m1.2.2.2.1, ?_, fun q => ?_, fun q => ?_, mstr_at ⟨mm.1, m1.1⟩⟩
    · have := m1.2.2.2.2.1
      omega
    · rw [room, if_pos q]
    · rw [room, if_neg q, mcnt_at ⟨mm.1, m1.1⟩]
  refine ⟨trivial, fun j j1 j2 => ⟨rfl, rfl⟩, fun w w1 w2 => ?_⟩
  rcases (by omega : w = 0 ∨ w = 1) with q | q <;> subst q
  · exact key a (Or.inl rfl)
  · exact key b (Or.inr rfl)
theorem game_cr {s : jM} {B a b : Int} (hB : B = 30 ∨ B = 55) (h : iSe (vw s B) (cw s 0)) (ha : 0 ≤ a ∧ a < s 160 2) (hb : 0 ≤ b ∧ b < s 160 2) (hab : a ≠ b) {k : Int} (hk : 0 ≤ k ∧ k ≤ 4) : ∃ r m t, Ga_play 22 B a b k s = some (r, t) ∧ EX rGa s t ∧ t 22 1 = m ∧ (m = -1 ∨ (0 ≤ m ∧ m < s 160 0)) ∧ ∀ u : jM, (∀ o, u 160 o = s 160 o) → ∃ v, Md_plays 12 155 a b 0 k u = some (r, v) ∧ EX e34 u v ∧ (1 ≤ k → v 155 34 = if m < 0 then s 160 0 else m) := by
  obtain ⟨K, rfl⟩ : ∃ K : Nat, k = K := ⟨k.toNat, by omega⟩
  obtain ⟨hd1, hd2⟩ := hd_at h
  have m1 := mo_at h ha
  have m2 := mo_at h hb
  have hnn : ((s 160 0).toNat : Int) = s 160 0 := Int.toNat_of_nonneg hd2.1
  have hn : (s 160 0).toNat ≤ 5 := by omega
  have kk : K ≤ 4 := by omega
  obtain ⟨t, t1, t2, t3, t4⟩ := play_eq hB h ha hb kk
  have hm := gv_b (n := (s 160 0).toNat) (P := gP s) (k := K) (w := 0) (A := gpA s a b)
  rw [hnn] at hm
  refine ⟨_, _, t, t1, t2, t3, hm, fun u hu => ?_⟩
  have hx : 0 ≤ gX a b 0 ∧ gX a b 0 < 5 ∧ 0 ≤ gX a b 1 ∧ gX a b 1 < 5 ∧ gX a b 0 ≠ gX a b 1 := by
    show 0 ≤ a ∧ a < 5 ∧ 0 ≤ b ∧ b < 5 ∧ a ≠ b
    omega
  have kc : K < 50 := by omega
  have kf : K < 12 := by omega
  obtain ⟨v, v1, v2, v3⟩ := rBest hn hx kc K 12 0 0 _ u kf (by omega) (by omega) (by omega) t4 (rG_start h ha hb hu)
  refine ⟨v, v1, v2, fun q => ?_⟩
  have := v3 (by omega) rfl
  rw [hnn] at this
  exact this
theorem game_iMi {s t u v : jM} {w : Int} (h : INV s) (ht : EX rGa s t) (hu : u = jup (jup (jup t 0 0 w) 155 1 0) 155 0 w) (hv : EX e34 u v) : INV v ∧ v (-1) = s (-1) ∧ v (-2) = s (-2) := by
  have hE : EX mis s v := by
    have e1 := ht.wk (Q := mis) (fun a b q => by unfold mis; unfold rGa at q; omega)
    have e2 : EX mis t u := by
      rw [hu]
      exact (((EX.rf _ _).up (by unfold mis; omega)).up (by unfold mis; omega)).up (by unfold mis; omega)
    exact (e1.tr e2).tr (hv.wk (fun a b q => by unfold mis; unfold e34 at q; omega))
  have hm := h.1
  have f : ∀ a b, ¬ (a = 155 ∧ b = 34) → v a b = u a b := fun a b q => hv a b q
  have g : ∀ a b, ¬ (16 ≤ a ∧ a ≤ 28) → t a b = s a b := fun a b q => ht a b q
  refine ⟨INV_mi h ?_ hE, hE.mneg⟩
  unfold iMi at hm ⊢
  rw [f 0 0 (by omega), f 155 0 (by omega), f 0 1 (by omega), f 155 2 (by omega), f 0 2 (by omega), f 155 3 (by omega), f 0 3 (by omega), f 155 10 (by omega), f 0 4 (by omega), f 155 11 (by omega), hu]
  simp (disch := omega) only [↓jb_m, ↓jm_s, ↓reduceIte, t_lt, t_nlt, t_le, t_nle, t_eq, t_neq, w32_id, w64_id, jb_s, and_true, true_and, and_self, and_false, false_and, or_true, true_or, or_false, false_or, or_self, not_false_eq_true, not_true_eq_false, u_ne, u_eq, u_u, Int.reduceAdd, Int.reduceSub, Int.reduceMul, Int.reduceNeg, Int.zero_add, Int.add_zero, n15, n16, q10, q11, q12, q13, q14]
  rw [g 0 1 (by omega), g 155 2 (by omega), g 0 2 (by omega), g 155 3 (by omega), g 0 3 (by omega), g 155 10 (by omega), g 0 4 (by omega), g 155 11 (by omega)]
  exact hm.2
theorem game_ok {s : jM} (h : INV s) {a b k : Int} (ha : i32 a) (hb : i32 b) (hk : i32 k) : OKc s (Jc_game 0 a b k) (Md_game 155 a b k) := by
  unfold i32 at ha hb hk
  have hbb := h.b.1
  obtain ⟨hb, hj, hj2, -⟩ := h.b
  have hse := h.2.2.2.2.2.1.1
  obtain ⟨e6, c2⟩ := hd2 hse
  by_cases q1 : 0 ≤ a ∧ a < s 160 2
  rotate_left
  · rcases (by omega : a < 0 ∨ s 160 2 ≤ a) with q | q
    · exact OKc.no (w := 2) (r := -1) h (by simp (disch := omega) only [↓jb_m, ↓jm_s, ↓reduceIte, t_lt, t_nlt, t_le, t_nle, t_eq, t_neq, w32_id, w64_id, jb_s, and_true, true_and, and_self, and_false, false_and, or_true, true_or, or_false, false_or, or_self, not_false_eq_true, not_true_eq_false, u_ne, u_eq, u_u, Int.reduceAdd, Int.reduceSub, Int.reduceMul, Int.reduceNeg, Int.zero_add, Int.add_zero, n15, n16, q10, q11, q12, q13, q14, Jc_game, Jc_gameTrouble, Jc_answer, Jc_refuse, Jc_deny, Jc_grant, Se_isMould, Se_isStuff, Se_isPlace, hj]) (by simp (disch := omega) only [↓jb_m, ↓jm_s, ↓reduceIte, t_lt, t_nlt, t_le, t_nle, t_eq, t_neq, w32_id, w64_id, jb_s, and_true, true_and, and_self, and_false, false_and, or_true, true_or, or_false, false_or, or_self, not_false_eq_true, not_true_eq_false, u_ne, u_eq, u_u, Int.reduceAdd, Int.reduceSub, Int.reduceMul, Int.reduceNeg, Int.zero_add, Int.add_zero, n15, n16, q10, q11, q12, q13, q14, Md_game, Md_whyNoGame, Md_isMouldAt, Md_isStuffAt, Md_isPlaceAt, Md_isTray, Md_isIn_1, Md_isIn_0, Md_refuse, Md_no])
    · exact OKc.no (w := 2) (r := -1) h (by simp (disch := omega) only [↓jb_m, ↓jm_s, ↓reduceIte, t_lt, t_nlt, t_le, t_nle, t_eq, t_neq, w32_id, w64_id, jb_s, and_true, true_and, and_self, and_false, false_and, or_true, true_or, or_false, false_or, or_self, not_false_eq_true, not_true_eq_false, u_ne, u_eq, u_u, Int.reduceAdd, Int.reduceSub, Int.reduceMul, Int.reduceNeg, Int.zero_add, Int.add_zero, n15, n16, q10, q11, q12, q13, q14, Jc_game, Jc_gameTrouble, Jc_answer, Jc_refuse, Jc_deny, Jc_grant, Se_isMould, Se_isStuff, Se_isPlace, hj]) (by simp (disch := omega) only [↓jb_m, ↓jm_s, ↓reduceIte, t_lt, t_nlt, t_le, t_nle, t_eq, t_neq, w32_id, w64_id, jb_s, and_true, true_and, and_self, and_false, false_and, or_true, true_or, or_false, false_or, or_self, not_false_eq_true, not_true_eq_false, u_ne, u_eq, u_u, Int.reduceAdd, Int.reduceSub, Int.reduceMul, Int.reduceNeg, Int.zero_add, Int.add_zero, n15, n16, q10, q11, q12, q13, q14, Md_game, Md_whyNoGame, Md_isMouldAt, Md_isStuffAt, Md_isPlaceAt, Md_isTray, Md_isIn_1, Md_isIn_0, Md_refuse, Md_no])
  by_cases q2 : 0 ≤ b ∧ b < s 160 2
  rotate_left
  · rcases (by omega : b < 0 ∨ s 160 2 ≤ b) with q | q
    · exact OKc.no (w := 2) (r := -1) h (by simp (disch := omega) only [↓jb_m, ↓jm_s, ↓reduceIte, t_lt, t_nlt, t_le, t_nle, t_eq, t_neq, w32_id, w64_id, jb_s, and_true, true_and, and_self, and_false, false_and, or_true, true_or, or_false, false_or, or_self, not_false_eq_true, not_true_eq_false, u_ne, u_eq, u_u, Int.reduceAdd, Int.reduceSub, Int.reduceMul, Int.reduceNeg, Int.zero_add, Int.add_zero, n15, n16, q10, q11, q12, q13, q14, Jc_game, Jc_gameTrouble, Jc_answer, Jc_refuse, Jc_deny, Jc_grant, Se_isMould, Se_isStuff, Se_isPlace, hj]) (by simp (disch := omega) only [↓jb_m, ↓jm_s, ↓reduceIte, t_lt, t_nlt, t_le, t_nle, t_eq, t_neq, w32_id, w64_id, jb_s, and_true, true_and, and_self, and_false, false_and, or_true, true_or, or_false, false_or, or_self, not_false_eq_true, not_true_eq_false, u_ne, u_eq, u_u, Int.reduceAdd, Int.reduceSub, Int.reduceMul, Int.reduceNeg, Int.zero_add, Int.add_zero, n15, n16, q10, q11, q12, q13, q14, Md_game, Md_whyNoGame, Md_isMouldAt, Md_isStuffAt, Md_isPlaceAt, Md_isTray, Md_isIn_1, Md_isIn_0, Md_refuse, Md_no])
    · exact OKc.no (w := 2) (r := -1) h (by simp (disch := omega) only [↓jb_m, ↓jm_s, ↓reduceIte, t_lt, t_nlt, t_le, t_nle, t_eq, t_neq, w32_id, w64_id, jb_s, and_true, true_and, and_self, and_false, false_and, or_true, true_or, or_false, false_or, or_self, not_false_eq_true, not_true_eq_false, u_ne, u_eq, u_u, Int.reduceAdd, Int.reduceSub, Int.reduceMul, Int.reduceNeg, Int.zero_add, Int.add_zero, n15, n16, q10, q11, q12, q13, q14, Jc_game, Jc_gameTrouble, Jc_answer, Jc_refuse, Jc_deny, Jc_grant, Se_isMould, Se_isStuff, Se_isPlace, hj]) (by simp (disch := omega) only [↓jb_m, ↓jm_s, ↓reduceIte, t_lt, t_nlt, t_le, t_nle, t_eq, t_neq, w32_id, w64_id, jb_s, and_true, true_and, and_self, and_false, false_and, or_true, true_or, or_false, false_or, or_self, not_false_eq_true, not_true_eq_false, u_ne, u_eq, u_u, Int.reduceAdd, Int.reduceSub, Int.reduceMul, Int.reduceNeg, Int.zero_add, Int.add_zero, n15, n16, q10, q11, q12, q13, q14, Md_game, Md_whyNoGame, Md_isMouldAt, Md_isStuffAt, Md_isPlaceAt, Md_isTray, Md_isIn_1, Md_isIn_0, Md_refuse, Md_no])
  by_cases q3 : a = b
  · exact OKc.no (w := 5) (r := -1) h (by simp (disch := omega) only [↓jb_m, ↓jm_s, ↓reduceIte, t_lt, t_nlt, t_le, t_nle, t_eq, t_neq, w32_id, w64_id, jb_s, and_true, true_and, and_self, and_false, false_and, or_true, true_or, or_false, false_or, or_self, not_false_eq_true, not_true_eq_false, u_ne, u_eq, u_u, Int.reduceAdd, Int.reduceSub, Int.reduceMul, Int.reduceNeg, Int.zero_add, Int.add_zero, n15, n16, q10, q11, q12, q13, q14, Jc_game, Jc_gameTrouble, Jc_answer, Jc_refuse, Jc_deny, Jc_grant, Se_isMould, Se_isStuff, Se_isPlace, hj]) (by simp (disch := omega) only [↓jb_m, ↓jm_s, ↓reduceIte, t_lt, t_nlt, t_le, t_nle, t_eq, t_neq, w32_id, w64_id, jb_s, and_true, true_and, and_self, and_false, false_and, or_true, true_or, or_false, false_or, or_self, not_false_eq_true, not_true_eq_false, u_ne, u_eq, u_u, Int.reduceAdd, Int.reduceSub, Int.reduceMul, Int.reduceNeg, Int.zero_add, Int.add_zero, n15, n16, q10, q11, q12, q13, q14, Md_game, Md_whyNoGame, Md_isMouldAt, Md_isStuffAt, Md_isPlaceAt, Md_isTray, Md_isIn_1, Md_isIn_0, Md_refuse, Md_no])
  by_cases q4 : 0 ≤ k ∧ k ≤ 4
  rotate_left
  · rcases (by omega : k < 0 ∨ 4 < k) with q | q
    · exact OKc.no (w := 5) (r := -1) h (by simp (disch := omega) only [↓jb_m, ↓jm_s, ↓reduceIte, t_lt, t_nlt, t_le, t_nle, t_eq, t_neq, w32_id, w64_id, jb_s, and_true, true_and, and_self, and_false, false_and, or_true, true_or, or_false, false_or, or_self, not_false_eq_true, not_true_eq_false, u_ne, u_eq, u_u, Int.reduceAdd, Int.reduceSub, Int.reduceMul, Int.reduceNeg, Int.zero_add, Int.add_zero, n15, n16, q10, q11, q12, q13, q14, Jc_game, Jc_gameTrouble, Jc_answer, Jc_refuse, Jc_deny, Jc_grant, Se_isMould, Se_isStuff, Se_isPlace, hj]) (by simp (disch := omega) only [↓jb_m, ↓jm_s, ↓reduceIte, t_lt, t_nlt, t_le, t_nle, t_eq, t_neq, w32_id, w64_id, jb_s, and_true, true_and, and_self, and_false, false_and, or_true, true_or, or_false, false_or, or_self, not_false_eq_true, not_true_eq_false, u_ne, u_eq, u_u, Int.reduceAdd, Int.reduceSub, Int.reduceMul, Int.reduceNeg, Int.zero_add, Int.add_zero, n15, n16, q10, q11, q12, q13, q14, Md_game, Md_whyNoGame, Md_isMouldAt, Md_isStuffAt, Md_isPlaceAt, Md_isTray, Md_isIn_1, Md_isIn_0, Md_refuse, Md_no])
    · exact OKc.no (w := 5) (r := -1) h (by simp (disch := omega) only [↓jb_m, ↓jm_s, ↓reduceIte, t_lt, t_nlt, t_le, t_nle, t_eq, t_neq, w32_id, w64_id, jb_s, and_true, true_and, and_self, and_false, false_and, or_true, true_or, or_false, false_or, or_self, not_false_eq_true, not_true_eq_false, u_ne, u_eq, u_u, Int.reduceAdd, Int.reduceSub, Int.reduceMul, Int.reduceNeg, Int.zero_add, Int.add_zero, n15, n16, q10, q11, q12, q13, q14, Jc_game, Jc_gameTrouble, Jc_answer, Jc_refuse, Jc_deny, Jc_grant, Se_isMould, Se_isStuff, Se_isPlace, hj]) (by simp (disch := omega) only [↓jb_m, ↓jm_s, ↓reduceIte, t_lt, t_nlt, t_le, t_nle, t_eq, t_neq, w32_id, w64_id, jb_s, and_true, true_and, and_self, and_false, false_and, or_true, true_or, or_false, false_or, or_self, not_false_eq_true, not_true_eq_false, u_ne, u_eq, u_u, Int.reduceAdd, Int.reduceSub, Int.reduceMul, Int.reduceNeg, Int.zero_add, Int.add_zero, n15, n16, q10, q11, q12, q13, q14, Md_game, Md_whyNoGame, Md_isMouldAt, Md_isStuffAt, Md_isPlaceAt, Md_isTray, Md_isIn_1, Md_isIn_0, Md_refuse, Md_no])
  obtain ⟨r, m, t, t1, t2, t3, t4, t5⟩ := game_cr hbb hse q1 q2 q3 q4
  obtain ⟨v, v1, v2, v3⟩ := t5 (jup (jup (jup t 0 0 0) 155 1 0) 155 0 0) (fun o => by rw [u_ne (by omega), u_ne (by omega), u_ne (by omega)]; exact t2 _ _ (by unfold rGa; omega))
  have hi := game_iMi h t2 rfl v2
  have g2 : t 160 2 = s 160 2 := t2 _ _ (by unfold rGa; omega)
  refine ⟨r, jup t 0 0 0, v, ?_, ?_, hi⟩
  · simp (disch := omega) only [↓jb_m, ↓jm_s, ↓reduceIte, t_lt, t_nlt, t_le, t_nle, t_eq, t_neq, w32_id, w64_id, jb_s, and_true, true_and, and_self, and_false, false_and, or_true, true_or, or_false, false_or, or_self, not_false_eq_true, not_true_eq_false, u_ne, u_eq, u_u, Int.reduceAdd, Int.reduceSub, Int.reduceMul, Int.reduceNeg, Int.zero_add, Int.add_zero, n15, n16, q10, q11, q12, q13, q14, Jc_game, Jc_gameTrouble, Jc_answer, Jc_refuse, Jc_deny, Jc_grant, Se_isMould, Se_isStuff, Se_isPlace, hj, t1]
  · simp (disch := omega) only [↓jb_m, ↓jm_s, ↓reduceIte, t_lt, t_nlt, t_le, t_nle, t_eq, t_neq, w32_id, w64_id, jb_s, and_true, true_and, and_self, and_false, false_and, or_true, true_or, or_false, false_or, or_self, not_false_eq_true, not_true_eq_false, u_ne, u_eq, u_u, Int.reduceAdd, Int.reduceSub, Int.reduceMul, Int.reduceNeg, Int.zero_add, Int.add_zero, n15, n16, q10, q11, q12, q13, q14, Md_game, Md_whyNoGame, Md_isMouldAt, Md_isStuffAt, Md_isPlaceAt, Md_isTray, Md_isIn_1, Md_isIn_0, Md_refuse, Md_no, g2, v1]
theorem moveOf_ok {s : jM} (h : INV s) {a b k : Int} (ha : i32 a) (hb : i32 b) (hk : i32 k) : OKc s (Jc_moveOf 0 a b k) (Md_moveOf 155 a b k) := by
  unfold i32 at ha hb hk
  have hbb := h.b.1
  obtain ⟨hb, hj, hj2, -⟩ := h.b
  have hse := h.2.2.2.2.2.1.1
  obtain ⟨e6, c2⟩ := hd2 hse
  have hd := (hd_at hse).2
  by_cases q1 : 0 ≤ a ∧ a < s 160 2
  rotate_left
  · rcases (by omega : a < 0 ∨ s 160 2 ≤ a) with q | q
    · exact OKc.no (w := 2) (r := -1) h (by simp (disch := omega) only [↓jb_m, ↓jm_s, ↓reduceIte, t_lt, t_nlt, t_le, t_nle, t_eq, t_neq, w32_id, w64_id, jb_s, and_true, true_and, and_self, and_false, false_and, or_true, true_or, or_false, false_or, or_self, not_false_eq_true, not_true_eq_false, u_ne, u_eq, u_u, Int.reduceAdd, Int.reduceSub, Int.reduceMul, Int.reduceNeg, Int.zero_add, Int.add_zero, n15, n16, q10, q11, q12, q13, q14, Jc_moveOf, Jc_gameTrouble, Jc_answer, Jc_refuse, Jc_deny, Jc_grant, Se_isMould, Se_isStuff, Se_isPlace, hj]) (by simp (disch := omega) only [↓jb_m, ↓jm_s, ↓reduceIte, t_lt, t_nlt, t_le, t_nle, t_eq, t_neq, w32_id, w64_id, jb_s, and_true, true_and, and_self, and_false, false_and, or_true, true_or, or_false, false_or, or_self, not_false_eq_true, not_true_eq_false, u_ne, u_eq, u_u, Int.reduceAdd, Int.reduceSub, Int.reduceMul, Int.reduceNeg, Int.zero_add, Int.add_zero, n15, n16, q10, q11, q12, q13, q14, Md_moveOf, Md_whyNoGame, Md_isMouldAt, Md_isStuffAt, Md_isPlaceAt, Md_isTray, Md_isIn_1, Md_isIn_0, Md_refuse, Md_no])
    · exact OKc.no (w := 2) (r := -1) h (by simp (disch := omega) only [↓jb_m, ↓jm_s, ↓reduceIte, t_lt, t_nlt, t_le, t_nle, t_eq, t_neq, w32_id, w64_id, jb_s, and_true, true_and, and_self, and_false, false_and, or_true, true_or, or_false, false_or, or_self, not_false_eq_true, not_true_eq_false, u_ne, u_eq, u_u, Int.reduceAdd, Int.reduceSub, Int.reduceMul, Int.reduceNeg, Int.zero_add, Int.add_zero, n15, n16, q10, q11, q12, q13, q14, Jc_moveOf, Jc_gameTrouble, Jc_answer, Jc_refuse, Jc_deny, Jc_grant, Se_isMould, Se_isStuff, Se_isPlace, hj]) (by simp (disch := omega) only [↓jb_m, ↓jm_s, ↓reduceIte, t_lt, t_nlt, t_le, t_nle, t_eq, t_neq, w32_id, w64_id, jb_s, and_true, true_and, and_self, and_false, false_and, or_true, true_or, or_false, false_or, or_self, not_false_eq_true, not_true_eq_false, u_ne, u_eq, u_u, Int.reduceAdd, Int.reduceSub, Int.reduceMul, Int.reduceNeg, Int.zero_add, Int.add_zero, n15, n16, q10, q11, q12, q13, q14, Md_moveOf, Md_whyNoGame, Md_isMouldAt, Md_isStuffAt, Md_isPlaceAt, Md_isTray, Md_isIn_1, Md_isIn_0, Md_refuse, Md_no])
  by_cases q2 : 0 ≤ b ∧ b < s 160 2
  rotate_left
  · rcases (by omega : b < 0 ∨ s 160 2 ≤ b) with q | q
    · exact OKc.no (w := 2) (r := -1) h (by simp (disch := omega) only [↓jb_m, ↓jm_s, ↓reduceIte, t_lt, t_nlt, t_le, t_nle, t_eq, t_neq, w32_id, w64_id, jb_s, and_true, true_and, and_self, and_false, false_and, or_true, true_or, or_false, false_or, or_self, not_false_eq_true, not_true_eq_false, u_ne, u_eq, u_u, Int.reduceAdd, Int.reduceSub, Int.reduceMul, Int.reduceNeg, Int.zero_add, Int.add_zero, n15, n16, q10, q11, q12, q13, q14, Jc_moveOf, Jc_gameTrouble, Jc_answer, Jc_refuse, Jc_deny, Jc_grant, Se_isMould, Se_isStuff, Se_isPlace, hj]) (by simp (disch := omega) only [↓jb_m, ↓jm_s, ↓reduceIte, t_lt, t_nlt, t_le, t_nle, t_eq, t_neq, w32_id, w64_id, jb_s, and_true, true_and, and_self, and_false, false_and, or_true, true_or, or_false, false_or, or_self, not_false_eq_true, not_true_eq_false, u_ne, u_eq, u_u, Int.reduceAdd, Int.reduceSub, Int.reduceMul, Int.reduceNeg, Int.zero_add, Int.add_zero, n15, n16, q10, q11, q12, q13, q14, Md_moveOf, Md_whyNoGame, Md_isMouldAt, Md_isStuffAt, Md_isPlaceAt, Md_isTray, Md_isIn_1, Md_isIn_0, Md_refuse, Md_no])
    · exact OKc.no (w := 2) (r := -1) h (by simp (disch := omega) only [↓jb_m, ↓jm_s, ↓reduceIte, t_lt, t_nlt, t_le, t_nle, t_eq, t_neq, w32_id, w64_id, jb_s, and_true, true_and, and_self, and_false, false_and, or_true, true_or, or_false, false_or, or_self, not_false_eq_true, not_true_eq_false, u_ne, u_eq, u_u, Int.reduceAdd, Int.reduceSub, Int.reduceMul, Int.reduceNeg, Int.zero_add, Int.add_zero, n15, n16, q10, q11, q12, q13, q14, Jc_moveOf, Jc_gameTrouble, Jc_answer, Jc_refuse, Jc_deny, Jc_grant, Se_isMould, Se_isStuff, Se_isPlace, hj]) (by simp (disch := omega) only [↓jb_m, ↓jm_s, ↓reduceIte, t_lt, t_nlt, t_le, t_nle, t_eq, t_neq, w32_id, w64_id, jb_s, and_true, true_and, and_self, and_false, false_and, or_true, true_or, or_false, false_or, or_self, not_false_eq_true, not_true_eq_false, u_ne, u_eq, u_u, Int.reduceAdd, Int.reduceSub, Int.reduceMul, Int.reduceNeg, Int.zero_add, Int.add_zero, n15, n16, q10, q11, q12, q13, q14, Md_moveOf, Md_whyNoGame, Md_isMouldAt, Md_isStuffAt, Md_isPlaceAt, Md_isTray, Md_isIn_1, Md_isIn_0, Md_refuse, Md_no])
  by_cases q3 : a = b
  · exact OKc.no (w := 5) (r := -1) h (by simp (disch := omega) only [↓jb_m, ↓jm_s, ↓reduceIte, t_lt, t_nlt, t_le, t_nle, t_eq, t_neq, w32_id, w64_id, jb_s, and_true, true_and, and_self, and_false, false_and, or_true, true_or, or_false, false_or, or_self, not_false_eq_true, not_true_eq_false, u_ne, u_eq, u_u, Int.reduceAdd, Int.reduceSub, Int.reduceMul, Int.reduceNeg, Int.zero_add, Int.add_zero, n15, n16, q10, q11, q12, q13, q14, Jc_moveOf, Jc_gameTrouble, Jc_answer, Jc_refuse, Jc_deny, Jc_grant, Se_isMould, Se_isStuff, Se_isPlace, hj]) (by simp (disch := omega) only [↓jb_m, ↓jm_s, ↓reduceIte, t_lt, t_nlt, t_le, t_nle, t_eq, t_neq, w32_id, w64_id, jb_s, and_true, true_and, and_self, and_false, false_and, or_true, true_or, or_false, false_or, or_self, not_false_eq_true, not_true_eq_false, u_ne, u_eq, u_u, Int.reduceAdd, Int.reduceSub, Int.reduceMul, Int.reduceNeg, Int.zero_add, Int.add_zero, n15, n16, q10, q11, q12, q13, q14, Md_moveOf, Md_whyNoGame, Md_isMouldAt, Md_isStuffAt, Md_isPlaceAt, Md_isTray, Md_isIn_1, Md_isIn_0, Md_refuse, Md_no])
  by_cases q4 : 1 ≤ k ∧ k ≤ 4
  rotate_left
  · rcases (by omega : k < 0 ∨ 4 < k ∨ k = 0) with q | q | q
    · exact OKc.no (w := 5) (r := -1) h (by simp (disch := omega) only [↓jb_m, ↓jm_s, ↓reduceIte, t_lt, t_nlt, t_le, t_nle, t_eq, t_neq, w32_id, w64_id, jb_s, and_true, true_and, and_self, and_false, false_and, or_true, true_or, or_false, false_or, or_self, not_false_eq_true, not_true_eq_false, u_ne, u_eq, u_u, Int.reduceAdd, Int.reduceSub, Int.reduceMul, Int.reduceNeg, Int.zero_add, Int.add_zero, n15, n16, q10, q11, q12, q13, q14, Jc_moveOf, Jc_gameTrouble, Jc_answer, Jc_refuse, Jc_deny, Jc_grant, Se_isMould, Se_isStuff, Se_isPlace, hj]) (by simp (disch := omega) only [↓jb_m, ↓jm_s, ↓reduceIte, t_lt, t_nlt, t_le, t_nle, t_eq, t_neq, w32_id, w64_id, jb_s, and_true, true_and, and_self, and_false, false_and, or_true, true_or, or_false, false_or, or_self, not_false_eq_true, not_true_eq_false, u_ne, u_eq, u_u, Int.reduceAdd, Int.reduceSub, Int.reduceMul, Int.reduceNeg, Int.zero_add, Int.add_zero, n15, n16, q10, q11, q12, q13, q14, Md_moveOf, Md_whyNoGame, Md_isMouldAt, Md_isStuffAt, Md_isPlaceAt, Md_isTray, Md_isIn_1, Md_isIn_0, Md_refuse, Md_no])
    · exact OKc.no (w := 5) (r := -1) h (by simp (disch := omega) only [↓jb_m, ↓jm_s, ↓reduceIte, t_lt, t_nlt, t_le, t_nle, t_eq, t_neq, w32_id, w64_id, jb_s, and_true, true_and, and_self, and_false, false_and, or_true, true_or, or_false, false_or, or_self, not_false_eq_true, not_true_eq_false, u_ne, u_eq, u_u, Int.reduceAdd, Int.reduceSub, Int.reduceMul, Int.reduceNeg, Int.zero_add, Int.add_zero, n15, n16, q10, q11, q12, q13, q14, Jc_moveOf, Jc_gameTrouble, Jc_answer, Jc_refuse, Jc_deny, Jc_grant, Se_isMould, Se_isStuff, Se_isPlace, hj]) (by simp (disch := omega) only [↓jb_m, ↓jm_s, ↓reduceIte, t_lt, t_nlt, t_le, t_nle, t_eq, t_neq, w32_id, w64_id, jb_s, and_true, true_and, and_self, and_false, false_and, or_true, true_or, or_false, false_or, or_self, not_false_eq_true, not_true_eq_false, u_ne, u_eq, u_u, Int.reduceAdd, Int.reduceSub, Int.reduceMul, Int.reduceNeg, Int.zero_add, Int.add_zero, n15, n16, q10, q11, q12, q13, q14, Md_moveOf, Md_whyNoGame, Md_isMouldAt, Md_isStuffAt, Md_isPlaceAt, Md_isTray, Md_isIn_1, Md_isIn_0, Md_refuse, Md_no])
    · exact OKc.no (w := 5) (r := -1) h (by simp (disch := omega) only [↓jb_m, ↓jm_s, ↓reduceIte, t_lt, t_nlt, t_le, t_nle, t_eq, t_neq, w32_id, w64_id, jb_s, and_true, true_and, and_self, and_false, false_and, or_true, true_or, or_false, false_or, or_self, not_false_eq_true, not_true_eq_false, u_ne, u_eq, u_u, Int.reduceAdd, Int.reduceSub, Int.reduceMul, Int.reduceNeg, Int.zero_add, Int.add_zero, n15, n16, q10, q11, q12, q13, q14, Jc_moveOf, Jc_gameTrouble, Jc_answer, Jc_refuse, Jc_deny, Jc_grant, Se_isMould, Se_isStuff, Se_isPlace, hj]) (by simp (disch := omega) only [↓jb_m, ↓jm_s, ↓reduceIte, t_lt, t_nlt, t_le, t_nle, t_eq, t_neq, w32_id, w64_id, jb_s, and_true, true_and, and_self, and_false, false_and, or_true, true_or, or_false, false_or, or_self, not_false_eq_true, not_true_eq_false, u_ne, u_eq, u_u, Int.reduceAdd, Int.reduceSub, Int.reduceMul, Int.reduceNeg, Int.zero_add, Int.add_zero, n15, n16, q10, q11, q12, q13, q14, Md_moveOf, Md_whyNoGame, Md_isMouldAt, Md_isStuffAt, Md_isPlaceAt, Md_isTray, Md_isIn_1, Md_isIn_0, Md_refuse, Md_no])
  obtain ⟨r, m, t, t1, t2, t3, t4, t5⟩ := game_cr hbb hse q1 q2 q3 (k := k) ⟨by omega, q4.2⟩
  by_cases q5 : m = -1
  · obtain ⟨v, v1, v2, v3⟩ := t5 (jup (jup (jup t 0 0 8) 155 1 0) 155 0 0) (fun o => by rw [u_ne (by omega), u_ne (by omega), u_ne (by omega)]; exact t2 _ _ (by unfold rGa; omega))
    have v4 := v3 q4.1
    rw [if_pos (by omega)] at v4
    have w2 : EX e34 (jup (jup (jup t 0 0 8) 155 1 0) 155 0 8) (jup v 155 0 8) := fun x y z => by
      rw [jup_at, jup_at (jup (jup t 0 0 8) 155 1 0)]
      by_cases c : x = 155 ∧ y = 0
      · rw [if_pos c, if_pos c]
      · rw [if_neg c, if_neg c, v2 x y z, u_ne c]
    have hi := game_iMi h t2 rfl w2
    have g2 : t 160 2 = s 160 2 := t2 _ _ (by unfold rGa; omega)
    have g3 : v 160 0 = s 160 0 := by rw [v2 _ _ (by unfold e34; omega), u_ne (by omega), u_ne (by omega), u_ne (by omega)]; exact t2 _ _ (by unfold rGa; omega)
    refine ⟨-1, jup t 0 0 8, jup v 155 0 8, ?_, ?_, hi⟩
    · simp (disch := omega) only [↓jb_m, ↓jm_s, ↓reduceIte, t_lt, t_nlt, t_le, t_nle, t_eq, t_neq, w32_id, w64_id, jb_s, and_true, true_and, and_self, and_false, false_and, or_true, true_or, or_false, false_or, or_self, not_false_eq_true, not_true_eq_false, u_ne, u_eq, u_u, Int.reduceAdd, Int.reduceSub, Int.reduceMul, Int.reduceNeg, Int.zero_add, Int.add_zero, n15, n16, q10, q11, q12, q13, q14, Jc_moveOf, Jc_gameTrouble, Jc_answer, Jc_refuse, Jc_deny, Jc_grant, Se_isMould, Se_isStuff, Se_isPlace, hj, t1]
    · simp (disch := omega) only [↓jb_m, ↓jm_s, ↓reduceIte, t_lt, t_nlt, t_le, t_nle, t_eq, t_neq, w32_id, w64_id, jb_s, and_true, true_and, and_self, and_false, false_and, or_true, true_or, or_false, false_or, or_self, not_false_eq_true, not_true_eq_false, u_ne, u_eq, u_u, Int.reduceAdd, Int.reduceSub, Int.reduceMul, Int.reduceNeg, Int.zero_add, Int.add_zero, n15, n16, q10, q11, q12, q13, q14, Md_moveOf, Md_whyNoGame, Md_isMouldAt, Md_isStuffAt, Md_isPlaceAt, Md_isTray, Md_isIn_1, Md_isIn_0, Md_refuse, Md_no, g2, v1]
  · obtain ⟨v, v1, v2, v3⟩ := t5 (jup (jup (jup t 0 0 0) 155 1 0) 155 0 0) (fun o => by rw [u_ne (by omega), u_ne (by omega), u_ne (by omega)]; exact t2 _ _ (by unfold rGa; omega))
    have v4 := v3 q4.1
    rw [if_neg (by omega)] at v4
    have hi := game_iMi h t2 rfl v2
    have g2 : t 160 2 = s 160 2 := t2 _ _ (by unfold rGa; omega)
    have g3 : v 160 0 = s 160 0 := by rw [v2 _ _ (by unfold e34; omega), u_ne (by omega), u_ne (by omega), u_ne (by omega)]; exact t2 _ _ (by unfold rGa; omega)
    refine ⟨m, jup t 0 0 0, v, ?_, ?_, hi⟩
    · simp (disch := omega) only [↓jb_m, ↓jm_s, ↓reduceIte, t_lt, t_nlt, t_le, t_nle, t_eq, t_neq, w32_id, w64_id, jb_s, and_true, true_and, and_self, and_false, false_and, or_true, true_or, or_false, false_or, or_self, not_false_eq_true, not_true_eq_false, u_ne, u_eq, u_u, Int.reduceAdd, Int.reduceSub, Int.reduceMul, Int.reduceNeg, Int.zero_add, Int.add_zero, n15, n16, q10, q11, q12, q13, q14, Jc_moveOf, Jc_gameTrouble, Jc_answer, Jc_refuse, Jc_deny, Jc_grant, Se_isMould, Se_isStuff, Se_isPlace, hj, t1, t3]
    · simp (disch := omega) only [↓jb_m, ↓jm_s, ↓reduceIte, t_lt, t_nlt, t_le, t_nle, t_eq, t_neq, w32_id, w64_id, jb_s, and_true, true_and, and_self, and_false, false_and, or_true, true_or, or_false, false_or, or_self, not_false_eq_true, not_true_eq_false, u_ne, u_eq, u_u, Int.reduceAdd, Int.reduceSub, Int.reduceMul, Int.reduceNeg, Int.zero_add, Int.add_zero, n15, n16, q10, q11, q12, q13, q14, Md_moveOf, Md_whyNoGame, Md_isMouldAt, Md_isStuffAt, Md_isPlaceAt, Md_isTray, Md_isIn_1, Md_isIn_0, Md_refuse, Md_no, g2, v1, v4, g3]
