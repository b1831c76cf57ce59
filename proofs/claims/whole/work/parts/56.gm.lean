/-! GAME, MOVE OF -/
def bet (w a b : Int) : Bool := decide ((w = 0 → w32 b < w32 a) ∧ (¬ w = 0 → w32 a < w32 b))
theorem bet_i {w a b : Int} : bet w a b = true ↔ ((w = 0 → w32 b < w32 a) ∧ (¬ w = 0 → w32 a < w32 b)) := decide_eq_true_iff
theorem bet_0 {w a b : Int} (h : w = 0) : bet w a b = true ↔ w32 b < w32 a := by rw [bet_i]; omega
theorem bet_1 {w a b : Int} (h : ¬ w = 0) : bet w a b = true ↔ w32 a < w32 b := by rw [bet_i]; omega
theorem bet_tr {w a b c : Int} (h : bet w a b = true) (h2 : bet w b c = true) : bet w a c = true := by
  rw [bet_i] at *
  omega
theorem bet_nt {w a b c : Int} (h : ¬ bet w a b = true) (h2 : ¬ bet w b c = true) : ¬ bet w a c = true := by
  rw [bet_i] at *
  omega
/-- down from the last to i: the least best one -/
def dn (ok : Int → Bool) (val : Int → Int) (w v0 : Int) : Nat → Nat → Int × Int
  | 0, _ => (-1, v0)
  | d + 1, i => if ok i = true ∧ ¬ bet w (dn ok val w v0 d (i + 1)).2 (val i) then ((i : Int), val i) else dn ok val w v0 d (i + 1)
/-- up from i with the best so far -/
def upw (ok : Int → Bool) (val : Int → Int) (w v0 : Int) (n : Nat) : Nat → Nat → Int → Int → Int × Int
  | 0, _, m, b => if m < 0 ∨ bet w v0 b then ((n : Int), v0) else (m, b)
  | d + 1, i, m, b => if ok i = true ∧ (m < 0 ∨ bet w (val i) b) then upw ok val w v0 n d (i + 1) i (val i) else upw ok val w v0 n d (i + 1) m b
theorem up_no {ok : Int → Bool} {val : Int → Int} {w v0 : Int} {n : Nat} : ∀ (d i : Nat) (m b b' : Int), m < 0 → upw ok val w v0 n d i m b = upw ok val w v0 n d i m b' := by
  intro d
  induction d with
  | zero => intro i m b b' h; rw [upw, upw, if_pos (Or.inl h), if_pos (Or.inl h)]
  | succ d ih =>
    intro i m b b' h
    rw [upw, upw]
    by_cases o : ok i = true
    · rw [if_pos ⟨o, Or.inl h⟩, if_pos ⟨o, Or.inl h⟩]
    · rw [if_neg (fun z => o z.1), if_neg (fun z => o z.1)]
      exact ih _ _ _ _ h
theorem upw_ok {ok : Int → Bool} {val : Int → Int} {w v0 : Int} {n d i : Nat} {m b : Int} (o : ok i = true) (q : m < 0 ∨ bet w (val i) b = true) : upw ok val w v0 n (d + 1) i m b = upw ok val w v0 n d (i + 1) i (val i) := by
  rw [upw, if_pos ⟨o, q⟩]
theorem upw_no {ok : Int → Bool} {val : Int → Int} {w v0 : Int} {n d i : Nat} {m b : Int} (o : ¬ (ok i = true ∧ (m < 0 ∨ bet w (val i) b = true))) : upw ok val w v0 n (d + 1) i m b = upw ok val w v0 n d (i + 1) m b := by
  rw [upw, if_neg o]
theorem dn_ok {ok : Int → Bool} {val : Int → Int} {w v0 : Int} {d i : Nat} (o : ok i = true) (q : ¬ bet w (dn ok val w v0 d (i + 1)).2 (val i) = true) : dn ok val w v0 (d + 1) i = ((i : Int), val i) := by
  rw [dn, if_pos ⟨o, q⟩]
theorem dn_no {ok : Int → Bool} {val : Int → Int} {w v0 : Int} {d i : Nat} (o : ¬ (ok i = true ∧ ¬ bet w (dn ok val w v0 d (i + 1)).2 (val i) = true)) : dn ok val w v0 (d + 1) i = dn ok val w v0 d (i + 1) := by
  rw [dn, if_neg o]
theorem up_start {ok : Int → Bool} {val : Int → Int} {w v0 : Int} {n : Nat} : ∀ (d i : Nat) (m b : Int), 0 ≤ m → upw ok val w v0 n d i m b = if bet w (upw ok val w v0 n d i (-1) 0).2 b then upw ok val w v0 n d i (-1) 0 else (m, b) := by
  intro d
  induction d with
  | zero =>
    intro i m b h
    have h1 : ¬ m < 0 := by omega
    have h2 : (-1 : Int) < 0 := by decide
    rw [upw, upw, if_pos (Or.inl h2)]
    by_cases q : bet w v0 b
    · rw [if_pos (Or.inr q), if_pos q]
    · rw [if_neg (fun z => z.elim h1 q), if_neg q]
  | succ d ih =>
    intro i m b h
    have h1 : ¬ m < 0 := by omega
    have h2 : (-1 : Int) < 0 := by decide
    have a1 := ih (i + 1) (i : Int) (val i) (by omega)
    have a2 := ih (i + 1) m b h
    by_cases o : ok i = true
    · rw [upw_ok (m := -1) o (Or.inl h2)]
      by_cases q : bet w (val i) b
      · rw [upw_ok o (Or.inr q), a1]
        generalize upw ok val w v0 n d (i + 1) (-1) 0 = R
        by_cases r : bet w R.2 (val i)
        · rw [if_pos r, if_pos (bet_tr r q)]
        · rw [if_neg r, if_pos q]
      · rw [upw_no (fun z => z.2.elim h1 q), a2, a1]
        generalize upw ok val w v0 n d (i + 1) (-1) 0 = R
        by_cases r : bet w R.2 (val i)
        · rw [if_pos r]
        · rw [if_neg r, if_neg (bet_nt r q), if_neg q]
    · rw [upw_no (fun z => o z.1), upw_no (m := -1) (fun z => o z.1)]
      exact a2
theorem up_dn {ok : Int → Bool} {val : Int → Int} {w v0 : Int} {n : Nat} : ∀ (d i : Nat), upw ok val w v0 n d i (-1) 0 = (if (dn ok val w v0 d i).1 < 0 then (n : Int) else (dn ok val w v0 d i).1, (dn ok val w v0 d i).2) := by
  intro d
  induction d with
  | zero =>
    intro i
    have h2 : (-1 : Int) < 0 := by decide
    rw [upw, if_pos (Or.inl h2), dn, if_pos h2]
  | succ d ih =>
    intro i
    have h2 : (-1 : Int) < 0 := by decide
    have a1 := up_start (ok := ok) (val := val) (w := w) (v0 := v0) (n := n) d (i + 1) (i : Int) (val i) (by omega)
    rw [ih] at a1
    have a2 := ih (i + 1)
    have a3 : ¬ (i : Int) < 0 := by omega
    by_cases o : ok i = true
    · rw [upw_ok o (Or.inl h2), a1]
      by_cases q : bet w (dn ok val w v0 d (i + 1)).2 (val i)
      · rw [if_pos q, dn_no (fun z => z.2 q)]
      · rw [if_neg q, dn_ok o q, if_neg a3]
    · rw [upw_no (fun z => o z.1), dn_no (fun z => o z.1)]
      exact a2
def gok (A : jM) (w : Int) : Int → Bool := fun i => decide (0 < A 0 i ∧ 0 < A 1 w)
def gmv (P : Int → Int) (A : jM) (w i : Int) : jM := jup (jup (jup A 0 i (A 0 i - 1)) 1 w (A 1 w - 1)) 2 w (A 2 w + P i)
/-- the move and the value -/
def gv (n : Nat) (P : Int → Int) : Nat → Int → jM → Int × Int
  | 0, _, A => (-1, A 2 0 - A 2 1)
  | k + 1, w, A => dn (gok A w) (fun i => (gv n P k (1 - w) (gmv P A w i)).2) w (gv n P k (1 - w) A).2 n 0
def gB (n : Nat) (A : jM) : Prop := (∀ j, 0 ≤ j → j < (n : Int) → 0 ≤ A 0 j ∧ A 0 j ≤ 1000) ∧ ∀ w, 0 ≤ w → w ≤ 1 → 0 ≤ A 1 w ∧ A 1 w ≤ 9
theorem gB_mv {n : Nat} {P : Int → Int} {A : jM} {w i : Int} (h : gB n A) (ho : gok A w i = true) : gB n (gmv P A w i) := by
  have ho := of_decide_eq_true ho
  refine ⟨fun j j1 j2 => ?_, fun v v1 v2 => ?_⟩
  · have := h.1 j j1 j2
    unfold gmv
    by_cases e : j = i
    · subst e
      simp (disch := omega) only [↓jb_m, ↓jm_s, ↓reduceIte, t_lt, t_nlt, t_le, t_nle, t_eq, t_neq, w32_id, w64_id, jb_s, and_true, true_and, and_self, and_false, false_and, or_true, true_or, or_false, false_or, or_self, not_false_eq_true, not_true_eq_false, u_ne, u_eq, u_u, Int.reduceAdd, Int.reduceSub, Int.reduceMul, Int.reduceNeg, Int.zero_add, Int.add_zero, n15, n16, q10, q11, q12, q13, q14]
    · simp (disch := omega) only [↓jb_m, ↓jm_s, ↓reduceIte, t_lt, t_nlt, t_le, t_nle, t_eq, t_neq, w32_id, w64_id, jb_s, and_true, true_and, and_self, and_false, false_and, or_true, true_or, or_false, false_or, or_self, not_false_eq_true, not_true_eq_false, u_ne, u_eq, u_u, Int.reduceAdd, Int.reduceSub, Int.reduceMul, Int.reduceNeg, Int.zero_add, Int.add_zero, n15, n16, q10, q11, q12, q13, q14]
  · have := h.2 v v1 v2
    unfold gmv
    by_cases e : v = w
    · subst e
      simp (disch := omega) only [↓jb_m, ↓jm_s, ↓reduceIte, t_lt, t_nlt, t_le, t_nle, t_eq, t_neq, w32_id, w64_id, jb_s, and_true, true_and, and_self, and_false, false_and, or_true, true_or, or_false, false_or, or_self, not_false_eq_true, not_true_eq_false, u_ne, u_eq, u_u, Int.reduceAdd, Int.reduceSub, Int.reduceMul, Int.reduceNeg, Int.zero_add, Int.add_zero, n15, n16, q10, q11, q12, q13, q14]
    · simp (disch := omega) only [↓jb_m, ↓jm_s, ↓reduceIte, t_lt, t_nlt, t_le, t_nle, t_eq, t_neq, w32_id, w64_id, jb_s, and_true, true_and, and_self, and_false, false_and, or_true, true_or, or_false, false_or, or_self, not_false_eq_true, not_true_eq_false, u_ne, u_eq, u_u, Int.reduceAdd, Int.reduceSub, Int.reduceMul, Int.reduceNeg, Int.zero_add, Int.add_zero, n15, n16, q10, q11, q12, q13, q14]
/-! the class -/
theorem Ga_shift_eq {s : jM} {w i d : Int} (hw : 0 ≤ w ∧ w ≤ 1) (hi : 0 ≤ i ∧ i < 5) : Ga_shift 22 w i d s = some (0, jup (jup (jup s 24 i (s 24 i - d)) 25 w (s 25 w - d)) 26 w (s 26 w + d * s 23 i)) := by
  simp (disch := omega) only [↓jb_m, ↓jm_s, ↓reduceIte, t_lt, t_nlt, t_le, t_nle, t_eq, t_neq, w32_id, w64_id, jb_s, and_true, true_and, and_self, and_false, false_and, or_true, true_or, or_false, false_or, or_self, not_false_eq_true, not_true_eq_false, u_ne, u_eq, u_u, Int.reduceAdd, Int.reduceSub, Int.reduceMul, Int.reduceNeg, Int.zero_add, Int.add_zero, n15, n16, q10, q11, q12, q13, q14, Ga_shift]
def cG (s : jM) (n : Nat) (P : Int → Int) (A : jM) : Prop := s 22 0 = n ∧ (∀ j, 0 ≤ j → j < (n : Int) → s 23 j = P j ∧ s 24 j = A 0 j) ∧ ∀ w, 0 ≤ w → w ≤ 1 → s 25 w = A 1 w ∧ s 26 w = A 2 w
def e22 (a b : Int) : Prop := a = 22 ∧ b = 1
theorem cG_ex {s t : jM} {n : Nat} {P : Int → Int} {A : jM} (h : cG s n P A) (e : EX e22 s t) : cG t n P A := by
  refine ⟨?_, fun j j1 j2 => ?_, fun w w1 w2 => ?_⟩
  · rw [e _ _ (by unfold e22; omega)]; exact h.1
  · rw [e _ _ (by unfold e22; omega), e _ _ (by unfold e22; omega)]; exact h.2.1 j j1 j2
  · rw [e _ _ (by unfold e22; omega), e _ _ (by unfold e22; omega)]; exact h.2.2 w w1 w2
theorem cG_mv {s : jM} {n : Nat} {P : Int → Int} {A : jM} {w i : Int} (h : cG s n P A) (hw : 0 ≤ w ∧ w ≤ 1) (hi : 0 ≤ i ∧ i < (n : Int)) : cG (jup (jup (jup s 24 i (s 24 i - 1)) 25 w (s 25 w - 1)) 26 w (s 26 w + 1 * s 23 i)) n P (gmv P A w i) := by
  have a := h.2.1 i hi.1 hi.2
  have b := h.2.2 w hw.1 hw.2
  refine ⟨?_, fun j j1 j2 => ?_, fun v v1 v2 => ?_⟩
  · simp (disch := omega) only [↓jb_m, ↓jm_s, ↓reduceIte, t_lt, t_nlt, t_le, t_nle, t_eq, t_neq, w32_id, w64_id, jb_s, and_true, true_and, and_self, and_false, false_and, or_true, true_or, or_false, false_or, or_self, not_false_eq_true, not_true_eq_false, u_ne, u_eq, u_u, Int.reduceAdd, Int.reduceSub, Int.reduceMul, Int.reduceNeg, Int.zero_add, Int.add_zero, n15, n16, q10, q11, q12, q13, q14]
    exact h.1
  · have c := h.2.1 j j1 j2
    unfold gmv
    by_cases e : j = i
    · subst e
      simp (disch := omega) only [↓jb_m, ↓jm_s, ↓reduceIte, t_lt, t_nlt, t_le, t_nle, t_eq, t_neq, w32_id, w64_id, jb_s, and_true, true_and, and_self, and_false, false_and, or_true, true_or, or_false, false_or, or_self, not_false_eq_true, not_true_eq_false, u_ne, u_eq, u_u, Int.reduceAdd, Int.reduceSub, Int.reduceMul, Int.reduceNeg, Int.zero_add, Int.add_zero, n15, n16, q10, q11, q12, q13, q14]
    · simp (disch := omega) only [↓jb_m, ↓jm_s, ↓reduceIte, t_lt, t_nlt, t_le, t_nle, t_eq, t_neq, w32_id, w64_id, jb_s, and_true, true_and, and_self, and_false, false_and, or_true, true_or, or_false, false_or, or_self, not_false_eq_true, not_true_eq_false, u_ne, u_eq, u_u, Int.reduceAdd, Int.reduceSub, Int.reduceMul, Int.reduceNeg, Int.zero_add, Int.add_zero, n15, n16, q10, q11, q12, q13, q14]
  · have c := h.2.2 v v1 v2
    unfold gmv
    by_cases e : v = w
    · subst e
      simp (disch := omega) only [↓jb_m, ↓jm_s, ↓reduceIte, t_lt, t_nlt, t_le, t_nle, t_eq, t_neq, w32_id, w64_id, jb_s, and_true, true_and, and_self, and_false, false_and, or_true, true_or, or_false, false_or, or_self, not_false_eq_true, not_true_eq_false, u_ne, u_eq, u_u, Int.reduceAdd, Int.reduceSub, Int.reduceMul, Int.reduceNeg, Int.zero_add, Int.add_zero, n15, n16, q10, q11, q12, q13, q14]
    · simp (disch := omega) only [↓jb_m, ↓jm_s, ↓reduceIte, t_lt, t_nlt, t_le, t_nle, t_eq, t_neq, w32_id, w64_id, jb_s, and_true, true_and, and_self, and_false, false_and, or_true, true_or, or_false, false_or, or_self, not_false_eq_true, not_true_eq_false, u_ne, u_eq, u_u, Int.reduceAdd, Int.reduceSub, Int.reduceMul, Int.reduceNeg, Int.zero_add, Int.add_zero, n15, n16, q10, q11, q12, q13, q14]
theorem sh_back {s t : jM} {w i : Int} (e : EX e22 (jup (jup (jup s 24 i (s 24 i - 1)) 25 w (s 25 w - 1)) 26 w (s 26 w + 1 * s 23 i)) t) : EX e22 s (jup (jup (jup t 24 i (t 24 i - -1)) 25 w (t 25 w - -1)) 26 w (t 26 w + -1 * t 23 i)) := by
  have a1 := e 24 i (by unfold e22; omega)
  have a2 := e 25 w (by unfold e22; omega)
  have a3 := e 26 w (by unfold e22; omega)
  have a4 := e 23 i (by unfold e22; omega)
  rw [u_ne (by omega), u_ne (by omega), u_eq ⟨rfl, rfl⟩] at a1
  rw [u_ne (by omega), u_eq ⟨rfl, rfl⟩] at a2
  rw [u_eq ⟨rfl, rfl⟩] at a3
  rw [u_ne (by omega), u_ne (by omega), u_ne (by omega)] at a4
  intro a b q
  have a5 := e a b q
  rw [jup_at, jup_at, jup_at] at a5 ⊢
  by_cases c1 : a = 26 ∧ b = w
  · rw [if_pos c1, c1.1, c1.2, a3, a4]
    omega
  · by_cases c2 : a = 25 ∧ b = w
    · rw [if_neg c1, if_pos c2, c2.1, c2.2, a2]
      omega
    · by_cases c3 : a = 24 ∧ b = i
      · rw [if_neg c1, if_neg c2, if_pos c3, c3.1, c3.2, a1]
        omega
      · rw [if_neg c1, if_neg c2, if_neg c3] at a5 ⊢
        exact a5
theorem cLoop {rec : Int → Int → Int → jM → Option (Int × jM)} {n : Nat} (hn : n ≤ 5) {P : Int → Int} {A : jM} {x1 w v0 : Int} {val : Int → Int} (hw : 0 ≤ w ∧ w ≤ 1) (hB : gB n A) (hrec : ∀ (i : Int) (s : jM), 0 ≤ i → i < n → gok A w i = true → cG s n P (gmv P A w i) → ∃ t, rec 22 (x1 - 1) (1 - w) s = some (val i, t) ∧ EX e22 s t) : ∀ (i f : Nat) (s : jM), i < f → i ≤ n → cG s n P A → ∃ t, Ga_bestFrom_40 rec f 22 x1 w (dn (gok A w) val w v0 (n - i) i).1 (dn (gok A w) val w v0 (n - i) i).2 ((i : Int) - 1) s = some ((dn (gok A w) val w v0 n 0).2, t) ∧ EX e22 s t ∧ t 22 1 = (dn (gok A w) val w v0 n 0).1 := by
  intro i
  induction i with
  | zero =>
    intro f s h1 h2 h3
    obtain ⟨f, rfl⟩ : ∃ g, f = g + 1 := ⟨f - 1, by omega⟩
    have c1 : w32 (((0 : Nat) : Int) - 1) < 0 := by decide
    refine ⟨jup s 22 1 (dn (gok A w) val w v0 n 0).1, ?_, (EX.rf _ _).up ⟨rfl, rfl⟩, u_eq ⟨rfl, rfl⟩⟩
    rw [Ga_bestFrom_40, if_pos c1]
    rfl
  | succ i ih =>
    intro f s h1 h2 h3
    obtain ⟨f, rfl⟩ : ∃ g, f = g + 1 := ⟨f - 1, by omega⟩
    have d1 : n - i = n - (i + 1) + 1 := by omega
    have d2 : ((i + 1 : Nat) : Int) - 1 = (i : Int) := by omega
    have d3 : (i : Int) + -1 = (i : Int) - 1 := by omega
    have d4 : w32 (i : Int) = (i : Int) := w32_id (by omega) (by omega)
    have d5 : ¬ (i : Int) < 0 := by omega
    have d6 : (0 : Int) ≤ i ∧ (i : Int) < 5 := by omega
    have d7 : (0 : Int) ≤ i ∧ (i : Int) < n := by omega
    have d8 : w32 w = w := w32_id (by omega) (by omega)
    have d9 : 0 ≤ w ∧ w < 2 := by omega
    have hf : i < f := by omega
    have hin : i ≤ n := by omega
    have b1 := hB.1 i d7.1 d7.2
    have b2 := hB.2 w hw.1 hw.2
    have c1 := (h3.2.1 i d7.1 d7.2).2
    have c2 := (h3.2.2 w hw.1 hw.2).1
    have c3 : w32 (s 24 i) = A 0 i := by rw [c1]; exact w32_id (by omega) (by omega)
    have c4 : w32 (s 25 w) = A 1 w := by rw [c2]; exact w32_id (by omega) (by omega)
    rw [d2, Ga_bestFrom_40, d4, if_neg d5, if_pos d6]
    show ∃ t, (if 0 < w32 (s 24 i) then _ else _) = _ ∧ _
    rw [c3, d3]
    have hdn : dn (gok A w) val w v0 (n - i) i = if gok A w i = true ∧ ¬ bet w (dn (gok A w) val w v0 (n - (i + 1)) (i + 1)).2 (val i) then ((i : Int), val i) else dn (gok A w) val w v0 (n - (i + 1)) (i + 1) := by
      rw [d1, dn]
    generalize dn (gok A w) val w v0 (n - (i + 1)) (i + 1) = r at hdn ⊢
    by_cases q1 : 0 < A 0 i
    · rw [if_pos q1, d8, if_pos d9]
      show ∃ t, (if 0 < w32 (s 25 w) then _ else _) = _ ∧ _
      rw [c4]
      by_cases q2 : 0 < A 1 w
      · have ho : gok A w i = true := decide_eq_true ⟨q1, q2⟩
        obtain ⟨t, t1, t2⟩ := hrec i _ d7.1 d7.2 ho (cG_mv h3 hw d7)
        have t3 := sh_back t2
        have hE := cG_ex h3 t3
        rw [if_pos q2, Ga_shift_eq hw d6, jb_t, t1, jb_t, Ga_shift_eq hw d6, jb_t]
        by_cases q3 : bet w r.2 (val i) = true
        · rw [if_neg (fun z => z.2 q3)] at hdn
          obtain ⟨v, v1, v2, v3⟩ := ih f _ hf hin hE
          rw [hdn] at v1
          refine ⟨v, ?_, t3.tr v2, v3⟩
          by_cases q4 : w = 0
          · rw [if_pos q4, if_pos ((bet_0 q4).1 q3)]
            exact v1
          · rw [if_neg q4, if_pos ((bet_1 q4).1 q3)]
            exact v1
        · rw [if_pos ⟨ho, q3⟩] at hdn
          obtain ⟨v, v1, v2, v3⟩ := ih f _ hf hin hE
          rw [hdn] at v1
          refine ⟨v, ?_, t3.tr v2, v3⟩
          by_cases q4 : w = 0
          · rw [if_pos q4, if_neg (fun z => q3 ((bet_0 q4).2 z))]
            exact v1
          · rw [if_neg q4, if_neg (fun z => q3 ((bet_1 q4).2 z))]
            exact v1
      · rw [if_neg q2]
        obtain ⟨v, v1, v2, v3⟩ := ih f _ hf hin h3
        rw [if_neg (fun z => q2 (of_decide_eq_true z.1).2)] at hdn
        rw [hdn] at v1
        exact ⟨v, v1, v2, v3⟩
    · rw [if_neg q1]
      obtain ⟨v, v1, v2, v3⟩ := ih f _ hf hin h3
      rw [if_neg (fun z => q1 (of_decide_eq_true z.1).1)] at hdn
      rw [hdn] at v1
      exact ⟨v, v1, v2, v3⟩
theorem cBest {n : Nat} (hn : n ≤ 5) {P : Int → Int} : ∀ (k f : Nat) (w : Int) (A s : jM), k < f → k < 100 → 0 ≤ w ∧ w ≤ 1 → gB n A → cG s n P A → ∃ t, Ga_bestFrom f 22 k w s = some ((gv n P k w A).2, t) ∧ EX e22 s t ∧ (1 ≤ k → t 22 1 = (gv n P k w A).1) := by
  intro k
  induction k with
  | zero =>
    intro f w A s h1 h2 h3 h4 h5
    obtain ⟨f, rfl⟩ : ∃ g, f = g + 1 := ⟨f - 1, by omega⟩
    have c1 : ¬ 0 < w32 ((0 : Nat) : Int) := by decide
    have c2 := (h5.2.2 0 (by omega) (by omega)).2
    have c3 := (h5.2.2 1 (by omega) (by omega)).2
    refine ⟨s, ?_, EX.rf _ _, fun z => by omega⟩
    rw [Ga_bestFrom, Ga_bestFrom_b, if_neg c1, gv]
    show some (s 26 0 - s 26 1, s) = _
    rw [c2, c3]
  | succ k ih =>
    intro f w A s h1 h2 h3 h4 h5
    obtain ⟨f, rfl⟩ : ∃ g, f = g + 1 := ⟨f - 1, by omega⟩
    have c1 : 0 < w32 ((k + 1 : Nat) : Int) := by rw [w32_id (by omega) (by omega)]; omega
    have c2 : ((k + 1 : Nat) : Int) - 1 = (k : Int) := by omega
    have c3 : 0 ≤ 1 - w ∧ 1 - w ≤ 1 := by omega
    have c4 : k < f := by omega
    have c5 : k < 100 := by omega
    have hj : n < jFU := bub_ge (by omega)
    obtain ⟨t, t1, t2, -⟩ := ih f (1 - w) A s c4 c5 c3 h4 h5
    have h6 := cG_ex h5 t2
    obtain ⟨v, v1, v2, v3⟩ := cLoop (rec := Ga_bestFrom f) (x1 := ((k + 1 : Nat) : Int)) (v0 := (gv n P k (1 - w) A).2) (val := fun i => (gv n P k (1 - w) (gmv P A w i)).2) hn h3 h4 (fun i s i1 i2 i3 i4 => by
      obtain ⟨t, t1, t2, -⟩ := ih f (1 - w) _ s c4 c5 c3 (gB_mv h4 i3) i4
      rw [c2]
      exact ⟨t, t1, t2⟩) n jFU t hj (Nat.le_refl n) h6
    refine ⟨v, ?_, t2.tr v2, fun _ => v3⟩
    rw [Nat.sub_self, dn] at v1
    rw [Ga_bestFrom, Ga_bestFrom_b, if_pos c1, c2, t1, jb_t, h6.1]
    exact v1
/-! the reference -/
def rG (u : jM) (n : Nat) (P : Int → Int) (x : Int → Int) (A : jM) : Prop := u 160 0 = n ∧ (∀ j, 0 ≤ j → j < (n : Int) → u 160 (9 + j) = P j ∧ u 160 (19 + j) = A 0 j) ∧ ∀ w, 0 ≤ w → w ≤ 1 → (∀ j, 0 ≤ j → (n : Int) ≤ j → j < 5 → u 160 (84 + 5 * x w + j) = 0) ∧ (0 ≤ u 160 (69 + x w) ∧ u 160 (69 + x w) ≤ 2 ∧ 1 ≤ u 160 (59 + x w) ∧ u 160 (59 + x w) ≤ 9) ∧ (u 160 (69 + x w) = 2 → A 1 w = 0) ∧ (u 160 (69 + x w) ≠ 2 → A 1 w = u 160 (59 + x w) - sum5 (fun j => u 160 (84 + 5 * x w + j))) ∧ A 2 w = sum5 (fun j => u 160 (84 + 5 * x w + j) * u 160 (9 + j))
def e34 (a b : Int) : Prop := a = 155 ∧ b = 34
theorem rG_ex {s t : jM} {n : Nat} {P x : Int → Int} {A : jM} (h : rG s n P x A) (e : EX e34 s t) : rG t n P x A := by
  have e' : ∀ o, t 160 o = s 160 o := fun o => e _ _ (by unfold e34; omega)
  unfold rG
  simp only [e']
  exact h
theorem Md_moves_eq {u : jM} {m i d : Int} (hm : 0 ≤ m ∧ m < 5) (hi : 0 ≤ i ∧ i < 5) : Md_moves 155 m i d u = some (0, jup (jup u 160 (84 + 5 * m + i) (u 160 (84 + 5 * m + i) + d)) 160 (19 + i) (u 160 (19 + i) - d)) := by
  simp (disch := omega) only [↓jb_m, ↓jm_s, ↓reduceIte, t_lt, t_nlt, t_le, t_nle, t_eq, t_neq, w32_id, w64_id, jb_s, and_true, true_and, and_self, and_false, false_and, or_true, true_or, or_false, false_or, or_self, not_false_eq_true, not_true_eq_false, u_ne, u_eq, u_u, Int.reduceAdd, Int.reduceSub, Int.reduceMul, Int.reduceNeg, Int.zero_add, Int.add_zero, n15, n16, q10, q11, q12, q13, q14, Md_moves]
theorem mv_back {s t : jM} {m i : Int} (hm : 0 ≤ m ∧ m < 5) (hi : 0 ≤ i ∧ i < 5) (e : EX e34 (jup (jup s 160 (84 + 5 * m + i) (s 160 (84 + 5 * m + i) + 1)) 160 (19 + i) (s 160 (19 + i) - 1)) t) : EX e34 s (jup (jup t 160 (84 + 5 * m + i) (t 160 (84 + 5 * m + i) + -1)) 160 (19 + i) (t 160 (19 + i) - -1)) := by
  have a1 := e 160 (84 + 5 * m + i) (by unfold e34; omega)
  have a2 := e 160 (19 + i) (by unfold e34; omega)
  rw [u_ne (by omega), u_eq ⟨rfl, rfl⟩] at a1
  rw [u_eq ⟨rfl, rfl⟩] at a2
  intro a b q
  have a5 := e a b q
  rw [jup_at, jup_at] at a5 ⊢
  by_cases c1 : a = 160 ∧ b = 19 + i
  · rw [if_pos c1, c1.1, c1.2, a2]
    omega
  · by_cases c2 : a = 160 ∧ b = 84 + 5 * m + i
    · rw [if_neg c1, if_pos c2, c2.1, c2.2, a1]
      omega
    · rw [if_neg c1, if_neg c2] at a5 ⊢
      exact a5
theorem rG_mv {s : jM} {n : Nat} (hn : n ≤ 5) {P x : Int → Int} {A : jM} {w i : Int} (hx : 0 ≤ x 0 ∧ x 0 < 5 ∧ 0 ≤ x 1 ∧ x 1 < 5 ∧ x 0 ≠ x 1) (h : rG s n P x A) (hw : w = 0 ∨ w = 1) (hi : 0 ≤ i ∧ i < (n : Int)) (hst : s 160 (69 + x w) ≠ 2) : rG (jup (jup s 160 (84 + 5 * x w + i) (s 160 (84 + 5 * x w + i) + 1)) 160 (19 + i) (s 160 (19 + i) - 1)) n P x (gmv P A w i) := by
  obtain ⟨h1, h2, h3⟩ := h
  have hxw : 0 ≤ x w ∧ x w < 5 := by rcases hw with rfl | rfl <;> omega
  refine ⟨?_, fun j j1 j2 => ?_, fun v v1 v2 => ?_⟩
  · simp (disch := omega) only [↓jb_m, ↓jm_s, ↓reduceIte, t_lt, t_nlt, t_le, t_nle, t_eq, t_neq, w32_id, w64_id, jb_s, and_true, true_and, and_self, and_false, false_and, or_true, true_or, or_false, false_or, or_self, not_false_eq_true, not_true_eq_false, u_ne, u_eq, u_u, Int.reduceAdd, Int.reduceSub, Int.reduceMul, Int.reduceNeg, Int.zero_add, Int.add_zero, n15, n16, q10, q11, q12, q13, q14]
  · have c := h2 j j1 j2
    unfold gmv
    by_cases e : j = i
    · subst e
      simp (disch := omega) only [↓jb_m, ↓jm_s, ↓reduceIte, t_lt, t_nlt, t_le, t_nle, t_eq, t_neq, w32_id, w64_id, jb_s, and_true, true_and, and_self, and_false, false_and, or_true, true_or, or_false, false_or, or_self, not_false_eq_true, not_true_eq_false, u_ne, u_eq, u_u, Int.reduceAdd, Int.reduceSub, Int.reduceMul, Int.reduceNeg, Int.zero_add, Int.add_zero, n15, n16, q10, q11, q12, q13, q14]
    · simp (disch := omega) only [↓jb_m, ↓jm_s, ↓reduceIte, t_lt, t_nlt, t_le, t_nle, t_eq, t_neq, w32_id, w64_id, jb_s, and_true, true_and, and_self, and_false, false_and, or_true, true_or, or_false, false_or, or_self, not_false_eq_true, not_true_eq_false, u_ne, u_eq, u_u, Int.reduceAdd, Int.reduceSub, Int.reduceMul, Int.reduceNeg, Int.zero_add, Int.add_zero, n15, n16, q10, q11, q12, q13, q14]
  · have c := h3 v v1 v2
    have hxv : 0 ≤ x v ∧ x v < 5 := by rcases (by omega : v = 0 ∨ v = 1) with rfl | rfl <;> omega
    by_cases e : v = w
    · subst e
      have s1 := sum5_add (f := fun j => s 160 (84 + 5 * x v + j)) (g := fun j => jup (jup s 160 (84 + 5 * x v + i) (s 160 (84 + 5 * x v + i) + 1)) 160 (19 + i) (s 160 (19 + i) - 1) 160 (84 + 5 * x v + j)) (k := i) (v := 1) hi.1 (by omega) (by show jup _ _ _ _ _ _ = _; simp (disch := omega) only [↓jb_m, ↓jm_s, ↓reduceIte, t_lt, t_nlt, t_le, t_nle, t_eq, t_neq, w32_id, w64_id, jb_s, and_true, true_and, and_self, and_false, false_and, or_true, true_or, or_false, false_or, or_self, not_false_eq_true, not_true_eq_false, u_ne, u_eq, u_u, Int.reduceAdd, Int.reduceSub, Int.reduceMul, Int.reduceNeg, Int.zero_add, Int.add_zero, n15, n16, q10, q11, q12, q13, q14]) (fun j j1 j2 j3 => by show jup _ _ _ _ _ _ = _; simp (disch := omega) only [↓jb_m, ↓jm_s, ↓reduceIte, t_lt, t_nlt, t_le, t_nle, t_eq, t_neq, w32_id, w64_id, jb_s, and_true, true_and, and_self, and_false, false_and, or_true, true_or, or_false, false_or, or_self, not_false_eq_true, not_true_eq_false, u_ne, u_eq, u_u, Int.reduceAdd, Int.reduceSub, Int.reduceMul, Int.reduceNeg, Int.zero_add, Int.add_zero, n15, n16, q10, q11, q12, q13, q14])
      have s2 := sum5_add (f := fun j => s 160 (84 + 5 * x v + j) * s 160 (9 + j)) (g := fun j => jup (jup s 160 (84 + 5 * x v + i) (s 160 (84 + 5 * x v + i) + 1)) 160 (19 + i) (s 160 (19 + i) - 1) 160 (84 + 5 * x v + j) * jup (jup s 160 (84 + 5 * x v + i) (s 160 (84 + 5 * x v + i) + 1)) 160 (19 + i) (s 160 (19 + i) - 1) 160 (9 + j)) (k := i) (v := P i) hi.1 (by omega) (by show jup _ _ _ _ _ _ * jup _ _ _ _ _ _ = _; simp (disch := omega) only [↓jb_m, ↓jm_s, ↓reduceIte, t_lt, t_nlt, t_le, t_nle, t_eq, t_neq, w32_id, w64_id, jb_s, and_true, true_and, and_self, and_false, false_and, or_true, true_or, or_false, false_or, or_self, not_false_eq_true, not_true_eq_false, u_ne, u_eq, u_u, Int.reduceAdd, Int.reduceSub, Int.reduceMul, Int.reduceNeg, Int.zero_add, Int.add_zero, n15, n16, q10, q11, q12, q13, q14]; rw [Int.add_mul, Int.one_mul, (h2 i hi.1 hi.2).1]) (fun j j1 j2 j3 => by show jup _ _ _ _ _ _ * jup _ _ _ _ _ _ = _; simp (disch := omega) only [↓jb_m, ↓jm_s, ↓reduceIte, t_lt, t_nlt, t_le, t_nle, t_eq, t_neq, w32_id, w64_id, jb_s, and_true, true_and, and_self, and_false, false_and, or_true, true_or, or_false, false_or, or_self, not_false_eq_true, not_true_eq_false, u_ne, u_eq, u_u, Int.reduceAdd, Int.reduceSub, Int.reduceMul, Int.reduceNeg, Int.zero_add, Int.add_zero, n15, n16, q10, q11, q12, q13, q14])
      refine ⟨fun j j1 j2 j3 => ?_, ?_, fun z => ?_, fun _ => ?_, ?_⟩
      · simp (disch := omega) only [↓jb_m, ↓jm_s, ↓reduceIte, t_lt, t_nlt, t_le, t_nle, t_eq, t_neq, w32_id, w64_id, jb_s, and_true, true_and, and_self, and_false, false_and, or_true, true_or, or_false, false_or, or_self, not_false_eq_true, not_true_eq_false, u_ne, u_eq, u_u, Int.reduceAdd, Int.reduceSub, Int.reduceMul, Int.reduceNeg, Int.zero_add, Int.add_zero, n15, n16, q10, q11, q12, q13, q14]
        exact c.1 j j1 j2 j3
      · simp (disch := omega) only [↓jb_m, ↓jm_s, ↓reduceIte, t_lt, t_nlt, t_le, t_nle, t_eq, t_neq, w32_id, w64_id, jb_s, and_true, true_and, and_self, and_false, false_and, or_true, true_or, or_false, false_or, or_self, not_false_eq_true, not_true_eq_false, u_ne, u_eq, u_u, Int.reduceAdd, Int.reduceSub, Int.reduceMul, Int.reduceNeg, Int.zero_add, Int.add_zero, n15, n16, q10, q11, q12, q13, q14]
      · exfalso
        revert z
        simp (disch := omega) only [↓jb_m, ↓jm_s, ↓reduceIte, t_lt, t_nlt, t_le, t_nle, t_eq, t_neq, w32_id, w64_id, jb_s, and_true, true_and, and_self, and_false, false_and, or_true, true_or, or_false, false_or, or_self, not_false_eq_true, not_true_eq_false, u_ne, u_eq, u_u, Int.reduceAdd, Int.reduceSub, Int.reduceMul, Int.reduceNeg, Int.zero_add, Int.add_zero, n15, n16, q10, q11, q12, q13, q14]
        exact id
      · rw [s1, gmv]
        have := c.2.2.2.1 hst
        simp (disch := omega) only [↓jb_m, ↓jm_s, ↓reduceIte, t_lt, t_nlt, t_le, t_nle, t_eq, t_neq, w32_id, w64_id, jb_s, and_true, true_and, and_self, and_false, false_and, or_true, true_or, or_false, false_or, or_self, not_false_eq_true, not_true_eq_false, u_ne, u_eq, u_u, Int.reduceAdd, Int.reduceSub, Int.reduceMul, Int.reduceNeg, Int.zero_add, Int.add_zero, n15, n16, q10, q11, q12, q13, q14]
      · rw [s2, gmv, ← c.2.2.2.2]
        simp (disch := omega) only [↓jb_m, ↓jm_s, ↓reduceIte, t_lt, t_nlt, t_le, t_nle, t_eq, t_neq, w32_id, w64_id, jb_s, and_true, true_and, and_self, and_false, false_and, or_true, true_or, or_false, false_or, or_self, not_false_eq_true, not_true_eq_false, u_ne, u_eq, u_u, Int.reduceAdd, Int.reduceSub, Int.reduceMul, Int.reduceNeg, Int.zero_add, Int.add_zero, n15, n16, q10, q11, q12, q13, q14]
    · have ev : x v ≠ x w := by
        rcases hw with q | q <;> rcases (by omega : v = 0 ∨ v = 1) with q2 | q2 <;> subst q q2 <;> omega
      have s1 := sum5_congr (f := fun j => jup (jup s 160 (84 + 5 * x w + i) (s 160 (84 + 5 * x w + i) + 1)) 160 (19 + i) (s 160 (19 + i) - 1) 160 (84 + 5 * x v + j)) (g := fun j => s 160 (84 + 5 * x v + j)) (fun j j1 j2 => by show jup _ _ _ _ _ _ = _; simp (disch := omega) only [↓jb_m, ↓jm_s, ↓reduceIte, t_lt, t_nlt, t_le, t_nle, t_eq, t_neq, w32_id, w64_id, jb_s, and_true, true_and, and_self, and_false, false_and, or_true, true_or, or_false, false_or, or_self, not_false_eq_true, not_true_eq_false, u_ne, u_eq, u_u, Int.reduceAdd, Int.reduceSub, Int.reduceMul, Int.reduceNeg, Int.zero_add, Int.add_zero, n15, n16, q10, q11, q12, q13, q14])
      have s2 := sum5_congr (f := fun j => jup (jup s 160 (84 + 5 * x w + i) (s 160 (84 + 5 * x w + i) + 1)) 160 (19 + i) (s 160 (19 + i) - 1) 160 (84 + 5 * x v + j) * jup (jup s 160 (84 + 5 * x w + i) (s 160 (84 + 5 * x w + i) + 1)) 160 (19 + i) (s 160 (19 + i) - 1) 160 (9 + j)) (g := fun j => s 160 (84 + 5 * x v + j) * s 160 (9 + j)) (fun j j1 j2 => by show jup _ _ _ _ _ _ * jup _ _ _ _ _ _ = _; simp (disch := omega) only [↓jb_m, ↓jm_s, ↓reduceIte, t_lt, t_nlt, t_le, t_nle, t_eq, t_neq, w32_id, w64_id, jb_s, and_true, true_and, and_self, and_false, false_and, or_true, true_or, or_false, false_or, or_self, not_false_eq_true, not_true_eq_false, u_ne, u_eq, u_u, Int.reduceAdd, Int.reduceSub, Int.reduceMul, Int.reduceNeg, Int.zero_add, Int.add_zero, n15, n16, q10, q11, q12, q13, q14])
      refine ⟨fun j j1 j2 j3 => ?_, ?_, fun z => ?_, fun z => ?_, ?_⟩
      · simp (disch := omega) only [↓jb_m, ↓jm_s, ↓reduceIte, t_lt, t_nlt, t_le, t_nle, t_eq, t_neq, w32_id, w64_id, jb_s, and_true, true_and, and_self, and_false, false_and, or_true, true_or, or_false, false_or, or_self, not_false_eq_true, not_true_eq_false, u_ne, u_eq, u_u, Int.reduceAdd, Int.reduceSub, Int.reduceMul, Int.reduceNeg, Int.zero_add, Int.add_zero, n15, n16, q10, q11, q12, q13, q14]
        exact c.1 j j1 j2 j3
      · simp (disch := omega) only [↓jb_m, ↓jm_s, ↓reduceIte, t_lt, t_nlt, t_le, t_nle, t_eq, t_neq, w32_id, w64_id, jb_s, and_true, true_and, and_self, and_false, false_and, or_true, true_or, or_false, false_or, or_self, not_false_eq_true, not_true_eq_false, u_ne, u_eq, u_u, Int.reduceAdd, Int.reduceSub, Int.reduceMul, Int.reduceNeg, Int.zero_add, Int.add_zero, n15, n16, q10, q11, q12, q13, q14]
      · revert z
        rw [gmv]
        simp (disch := omega) only [↓jb_m, ↓jm_s, ↓reduceIte, t_lt, t_nlt, t_le, t_nle, t_eq, t_neq, w32_id, w64_id, jb_s, and_true, true_and, and_self, and_false, false_and, or_true, true_or, or_false, false_or, or_self, not_false_eq_true, not_true_eq_false, u_ne, u_eq, u_u, Int.reduceAdd, Int.reduceSub, Int.reduceMul, Int.reduceNeg, Int.zero_add, Int.add_zero, n15, n16, q10, q11, q12, q13, q14]
        exact c.2.2.1
      · revert z
        rw [s1, gmv]
        simp (disch := omega) only [↓jb_m, ↓jm_s, ↓reduceIte, t_lt, t_nlt, t_le, t_nle, t_eq, t_neq, w32_id, w64_id, jb_s, and_true, true_and, and_self, and_false, false_and, or_true, true_or, or_false, false_or, or_self, not_false_eq_true, not_true_eq_false, u_ne, u_eq, u_u, Int.reduceAdd, Int.reduceSub, Int.reduceMul, Int.reduceNeg, Int.zero_add, Int.add_zero, n15, n16, q10, q11, q12, q13, q14]
        exact c.2.2.2.1
      · rw [s2, gmv]
        simp (disch := omega) only [↓jb_m, ↓jm_s, ↓reduceIte, t_lt, t_nlt, t_le, t_nle, t_eq, t_neq, w32_id, w64_id, jb_s, and_true, true_and, and_self, and_false, false_and, or_true, true_or, or_false, false_or, or_self, not_false_eq_true, not_true_eq_false, u_ne, u_eq, u_u, Int.reduceAdd, Int.reduceSub, Int.reduceMul, Int.reduceNeg, Int.zero_add, Int.add_zero, n15, n16, q10, q11, q12, q13, q14]
