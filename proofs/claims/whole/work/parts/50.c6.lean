/-! the tape -/
def TP (s u : jM) : Prop := s 11 0 = u 155 8 ∧ 0 ≤ s 11 0 ∧ s 11 0 ≤ 900 ∧ ∀ i, 0 ≤ i → i < s 11 0 → s 12 i = u 159 i ∧ -128 ≤ s 12 i ∧ s 12 i ≤ 127
theorem w8_w (x : Int) : w8 (w8 x) = w8 x := by simp only [w8]; omega
theorem w8_b (x : Int) : -128 ≤ w8 x ∧ w8 x ≤ 127 := by simp only [w8]; omega
theorem addC {a : Int} : ∀ (r f : Nat) (s : jM), r < f → r ≤ 4 → 0 ≤ s 11 0 → s 11 0 + r ≤ 900 → ∃ t, Te_addFour_3 f 11 a (8 * r - 8) s = some (0, t) ∧ t 11 0 = s 11 0 + r ∧ (∀ i : Int, 0 ≤ i → i < r → t 12 (s 11 0 + i) = w8 (jishr a (8 * (r - 1 - i)))) ∧ (∀ i, ¬ (s 11 0 ≤ i ∧ i < s 11 0 + r) → t 12 i = s 12 i) ∧ ∀ x y, x ≠ 12 → ¬ (x = 11 ∧ y = 0) → t x y = s x y := by
  intro r
  induction r with
  | zero =>
    intro f s h1 h2 h3 h4
    obtain ⟨f, rfl⟩ : ∃ g, f = g + 1 := ⟨f - 1, by omega⟩
    refine ⟨s, ?_, by omega, fun i i1 i2 => by omega, fun i _ => rfl, fun x y _ _ => rfl⟩
    rw [Te_addFour_3]
    simp (disch := omega) only [↓jb_m, ↓jm_s, ↓reduceIte, t_lt, t_nlt, t_le, t_nle, t_eq, t_neq, w32_id, w64_id, jb_s, and_true, true_and, and_self, and_false, false_and, or_true, true_or, or_false, false_or, or_self, not_false_eq_true, not_true_eq_false, u_ne, u_eq, u_u, Int.reduceAdd, Int.reduceSub, Int.reduceMul, Int.reduceNeg, Int.zero_add, Int.add_zero, n15, n16, q10, q11, q12, q13, q14, Int.natCast_zero]
  | succ r ih =>
    intro f s h1 h2 h3 h4
    obtain ⟨f, rfl⟩ : ∃ g, f = g + 1 := ⟨f - 1, by omega⟩
    obtain ⟨t, t1, t2, t3, t4, t5⟩ := ih f (jup (jup s 12 (s 11 0) (w8 (jishr a (8 * r)))) 11 0 (s 11 0 + 1)) (by omega) (by omega) (by rw [u_eq ⟨rfl, rfl⟩]; omega) (by rw [u_eq ⟨rfl, rfl⟩]; omega)
    rw [u_eq ⟨rfl, rfl⟩] at t2 t3 t4
    refine ⟨t, ?_, by omega, fun i i1 i2 => ?_, fun i hi => ?_, fun x y hx hy => ?_⟩
    · rw [Te_addFour_3]
      have e : (8 : Int) * ((r + 1 : Nat) : Int) - 8 = 8 * r := by omega
      rw [e]
      simp (disch := omega) only [↓jb_m, ↓jm_s, ↓reduceIte, t_lt, t_nlt, t_le, t_nle, t_eq, t_neq, w32_id, w64_id, jb_s, and_true, true_and, and_self, and_false, false_and, or_true, true_or, or_false, false_or, or_self, not_false_eq_true, not_true_eq_false, u_ne, u_eq, u_u, Int.reduceAdd, Int.reduceSub, Int.reduceMul, Int.reduceNeg, Int.zero_add, Int.add_zero, n15, n16, q10, q11, q12, q13, q14, w8_w]
      rw [show (8 : Int) * r + -8 = 8 * r - 8 by omega]
      exact t1
    · by_cases e : i = 0
      · subst e
        rw [t4 _ (by omega), u_ne (by omega), u_eq (by omega)]
        rw [show ((r + 1 : Nat) : Int) - 1 - 0 = r by omega]
      · have := t3 (i - 1) (by omega) (by omega)
        rw [show s 11 0 + 1 + (i - 1) = s 11 0 + i by omega] at this
        rw [this]
        rw [show (r : Int) - 1 - (i - 1) = ((r + 1 : Nat) : Int) - 1 - i by omega]
    · rw [t4 i (by omega), u_ne (by omega), u_ne (by omega)]
    · rw [t5 x y hx hy, u_ne (by omega), u_ne (by omega)]
theorem addR {a : Int} : ∀ (r f : Nat) (s : jM), r < f → r ≤ 4 → 0 ≤ s 155 8 → s 155 8 + r ≤ 900 → ∃ t, Md_lay_2 f 155 a (r - 1) s = some (0, t) ∧ t 155 8 = s 155 8 + r ∧ (∀ i : Int, 0 ≤ i → i < r → t 159 (s 155 8 + i) = w8 (jishr a (8 * (r - 1 - i)))) ∧ (∀ i, ¬ (s 155 8 ≤ i ∧ i < s 155 8 + r) → t 159 i = s 159 i) ∧ ∀ x y, x ≠ 159 → ¬ (x = 155 ∧ y = 8) → t x y = s x y := by
  intro r
  induction r with
  | zero =>
    intro f s h1 h2 h3 h4
    obtain ⟨f, rfl⟩ : ∃ g, f = g + 1 := ⟨f - 1, by omega⟩
    refine ⟨s, ?_, by omega, fun i i1 i2 => by omega, fun i _ => rfl, fun x y _ _ => rfl⟩
    rw [Md_lay_2]
    simp (disch := omega) only [↓jb_m, ↓jm_s, ↓reduceIte, t_lt, t_nlt, t_le, t_nle, t_eq, t_neq, w32_id, w64_id, jb_s, and_true, true_and, and_self, and_false, false_and, or_true, true_or, or_false, false_or, or_self, not_false_eq_true, not_true_eq_false, u_ne, u_eq, u_u, Int.reduceAdd, Int.reduceSub, Int.reduceMul, Int.reduceNeg, Int.zero_add, Int.add_zero, n15, n16, q10, q11, q12, q13, q14, Int.natCast_zero]
  | succ r ih =>
    intro f s h1 h2 h3 h4
    obtain ⟨f, rfl⟩ : ∃ g, f = g + 1 := ⟨f - 1, by omega⟩
    obtain ⟨t, t1, t2, t3, t4, t5⟩ := ih f (jup (jup s 159 (s 155 8) (w8 (jishr a (8 * r)))) 155 8 (s 155 8 + 1)) (by omega) (by omega) (by rw [u_eq ⟨rfl, rfl⟩]; omega) (by rw [u_eq ⟨rfl, rfl⟩]; omega)
    rw [u_eq ⟨rfl, rfl⟩] at t2 t3 t4
    refine ⟨t, ?_, by omega, fun i i1 i2 => ?_, fun i hi => ?_, fun x y hx hy => ?_⟩
    · rw [Md_lay_2]
      have e : ((r + 1 : Nat) : Int) - 1 = r := by omega
      rw [e]
      simp (disch := omega) only [↓jb_m, ↓jm_s, ↓reduceIte, t_lt, t_nlt, t_le, t_nle, t_eq, t_neq, w32_id, w64_id, jb_s, and_true, true_and, and_self, and_false, false_and, or_true, true_or, or_false, false_or, or_self, not_false_eq_true, not_true_eq_false, u_ne, u_eq, u_u, Int.reduceAdd, Int.reduceSub, Int.reduceMul, Int.reduceNeg, Int.zero_add, Int.add_zero, n15, n16, q10, q11, q12, q13, q14, w8_w]
      rw [show (r : Int) + -1 = r - 1 by omega]
      exact t1
    · by_cases e : i = 0
      · subst e
        rw [t4 _ (by omega), u_ne (by omega), u_eq (by omega)]
        rw [show ((r + 1 : Nat) : Int) - 1 - 0 = r by omega]
      · have := t3 (i - 1) (by omega) (by omega)
        rw [show s 155 8 + 1 + (i - 1) = s 155 8 + i by omega] at this
        rw [this]
        rw [show (r : Int) - 1 - (i - 1) = ((r + 1 : Nat) : Int) - 1 - i by omega]
    · rw [t4 i (by omega), u_ne (by omega), u_ne (by omega)]
    · rw [t5 x y hx hy, u_ne (by omega), u_ne (by omega)]
theorem add4 {s u : jM} {a : Int} (h : TP s u) (hr : s 11 0 + 4 ≤ 900) : ∃ t v, Te_addFour 11 a s = some (0, t) ∧ Md_lay 155 a u = some (0, v) ∧ TP t v ∧ t 11 0 = s 11 0 + 4 ∧ EX (fun x y => x = 12 ∨ (x = 11 ∧ y = 0)) s t ∧ EX (fun x y => x = 159 ∨ (x = 155 ∧ y = 8)) u v := by
  obtain ⟨h1, h2, h3, h4⟩ := h
  obtain ⟨t, t1, t2, t3, t4, t5⟩ := addC (a := a) 4 jFU s (Nat.lt_of_lt_of_le (m := 400) (by omega) (jFU_ge (by decide))) (by omega) h2 (by omega)
  obtain ⟨v, v1, v2, v3, v4, v5⟩ := addR (a := a) 4 jFU u (Nat.lt_of_lt_of_le (m := 400) (by omega) (jFU_ge (by decide))) (by omega) (by omega) (by omega)
  refine ⟨t, v, t1, v1, ⟨by omega, by omega, by omega, fun i i1 i2 => ?_⟩, t2, fun x y q => t5 x y (by omega) (by omega), fun x y q => v5 x y (by omega) (by omega)⟩
  by_cases e : i < s 11 0
  · rw [t4 i (by omega), v4 i (by omega)]
    exact h4 i i1 e
  · have a1 := t3 (i - s 11 0) (by omega) (by omega)
    have a2 := v3 (i - s 11 0) (by omega) (by omega)
    rw [show s 11 0 + (i - s 11 0) = i by omega] at a1
    rw [← h1, show s 11 0 + (i - s 11 0) = i by omega] at a2
    rw [a1, a2]
    exact ⟨rfl, w8_b _⟩
theorem add20 {s u : jM} {a b c d e : Int} (h : TP s u) (hr : s 11 0 + 20 ≤ 900) : ∃ t1 t2 t3 t4 t5 v1 v2 v3 v4 v5, Te_addFour 11 a s = some (0, t1) ∧ Te_addFour 11 b t1 = some (0, t2) ∧ Te_addFour 11 c t2 = some (0, t3) ∧ Te_addFour 11 d t3 = some (0, t4) ∧ Te_addFour 11 e t4 = some (0, t5) ∧ Md_lay 155 a u = some (0, v1) ∧ Md_lay 155 b v1 = some (0, v2) ∧ Md_lay 155 c v2 = some (0, v3) ∧ Md_lay 155 d v3 = some (0, v4) ∧ Md_lay 155 e v4 = some (0, v5) ∧ TP t5 v5 ∧ t5 11 0 = s 11 0 + 20 ∧ EX (fun x y => x = 12 ∨ (x = 11 ∧ y = 0)) s t5 ∧ EX (fun x y => x = 159 ∨ (x = 155 ∧ y = 8)) u v5 := by
  obtain ⟨t1, v1, a1, b1, h1, n1, x1, y1⟩ := add4 (a := a) h (by omega)
  obtain ⟨t2, v2, a2, b2, h2, n2, x2, y2⟩ := add4 (a := b) h1 (by omega)
  obtain ⟨t3, v3, a3, b3, h3, n3, x3, y3⟩ := add4 (a := c) h2 (by omega)
  obtain ⟨t4, v4, a4, b4, h4, n4, x4, y4⟩ := add4 (a := d) h3 (by omega)
  obtain ⟨t5, v5, a5, b5, h5, n5, x5, y5⟩ := add4 (a := e) h4 (by omega)
  exact ⟨t1, t2, t3, t4, t5, v1, v2, v3, v4, v5, a1, a2, a3, a4, a5, b1, b2, b3, b4, b5, h5, by omega, (((x1.tr x2).tr x3).tr x4).tr x5, (((y1.tr y2).tr y3).tr y4).tr y5⟩
theorem feed_ok {s : jM} (h : INV s) {a b c d e : Int} : OKc s (Jc_feed 0 a b c d e) (Md_feed 155 a b c d e) := by
  have hT := h.2.2.1
  have hT' : TP s s := hT
  obtain ⟨p1, p2, p3, p4⟩ := hT
  by_cases hr : s 11 0 + 20 ≤ 900
  · obtain ⟨t1, t2, t3, t4, t5, w1, w2, w3, w4, w5, a1, a2, a3, a4, a5, -, -, -, -, -, -, n5, x5, -⟩ := add20 (a := a) (b := b) (c := c) (d := d) (e := e) hT' hr
    have hT2 : TP s (jup t5 155 1 0) := by
      refine ⟨?_, p2, p3, fun i i1 i2 => ?_⟩
      · rw [u_ne (by omega), x5 155 8 (by omega)]; exact p1
      · rw [u_ne (by omega), x5 159 i (by omega)]; exact p4 i i1 i2
    obtain ⟨t1', t2', t3', t4', t5', v1, v2, v3, v4, v5, a1', a2', a3', a4', a5', b1, b2, b3, b4, b5, hTP, n5', x5', y5⟩ := add20 (a := a) (b := b) (c := c) (d := d) (e := e) hT2 hr
    rw [a1] at a1'
    cases a1'
    rw [a2] at a2'
    cases a2'
    rw [a3] at a3'
    cases a3'
    rw [a4] at a4'
    cases a4'
    rw [a5] at a5'
    cases a5'
    have e8 : t5 155 8 = s 155 8 := x5 155 8 (by omega)
    have ev : ∀ x y, ¬ (x = 159 ∨ (x = 155 ∧ y = 8)) → ¬ (x = 155 ∧ y = 1) → ¬ (x = 12 ∨ (x = 11 ∧ y = 0)) → v5 x y = s x y := fun x y q1 q2 q3 => by rw [y5 x y q1, u_ne q2, x5 x y q3]
    have e11 : ∀ x y, (x = 12 ∨ (x = 11 ∧ y = 0)) → v5 x y = t5 x y := fun x y q => by rw [y5 x y (by omega), u_ne (by omega)]
    refine ⟨s 11 0 + 20, t5, v5, ?_, ?_, ?_, funext fun y => ev _ _ (by omega) (by omega) (by omega), funext fun y => ev _ _ (by omega) (by omega) (by omega)⟩
    · simp (disch := omega) only [↓jb_m, ↓jm_s, ↓reduceIte, t_lt, t_nlt, t_le, t_nle, t_eq, t_neq, w32_id, w64_id, jb_s, and_true, true_and, and_self, and_false, false_and, or_true, true_or, or_false, false_or, or_self, not_false_eq_true, not_true_eq_false, u_ne, u_eq, u_u, Int.reduceAdd, Int.reduceSub, Int.reduceMul, Int.reduceNeg, Int.zero_add, Int.add_zero, n15, n16, q10, q11, q12, q13, q14, Jc_feed, Te_hasRoomForFive, a1, a2, a3, a4, a5, n5]
    · have : v5 155 8 = s 11 0 + 20 := by rw [← hTP.1]; exact n5
      simp (disch := omega) only [↓jb_m, ↓jm_s, ↓reduceIte, t_lt, t_nlt, t_le, t_nle, t_eq, t_neq, w32_id, w64_id, jb_s, and_true, true_and, and_self, and_false, false_and, or_true, true_or, or_false, false_or, or_self, not_false_eq_true, not_true_eq_false, u_ne, u_eq, u_u, Int.reduceAdd, Int.reduceSub, Int.reduceMul, Int.reduceNeg, Int.zero_add, Int.add_zero, n15, n16, q10, q11, q12, q13, q14, Md_feed, e8, b1, b2, b3, b4, b5, this]
    · obtain ⟨h1, h2, h3, h4, h5, h6, h7⟩ := h
      have hbb := h5.1
      refine ⟨iMi_fr h1 ?_ (fun x y q => ?_), iTrs_fr h2 (fun x y q => ?_), ?_, iLv_fr h4 (fun x y q => ?_), iBs_fr h5 (fun x y q => ?_), ?_, iMk_fr h7 (ev _ _ (by omega) (by omega) (by omega)) h5.2.2.1 (fun x y q => ?_)⟩
      · rw [ev 0 0 (by omega) (by omega) (by omega), ev 155 0 (by omega) (by omega) (by omega)]; exact h1.1
      · unfold rMi at q; exact ev _ _ (by omega) (by omega) (by omega)
      · unfold rTr at q; exact ev _ _ (by omega) (by omega) (by omega)
      · obtain ⟨q1, q2, q3, q4⟩ := hTP
        refine ⟨?_, ?_, ?_, fun i i1 i2 => ?_⟩
        · rw [e11 11 0 (by omega)]; exact q1
        · rw [e11 11 0 (by omega)]; exact q2
        · rw [e11 11 0 (by omega)]; exact q3
        · rw [e11 11 0 (by omega)] at i2
          rw [e11 12 i (by omega)]
          exact q4 i i1 i2
      · unfold rLv at q; exact ev _ _ (by omega) (by omega) (by omega)
      · unfold rBs at q; exact ev _ _ (by omega) (by omega) (by omega)
      · rw [ev 0 5 (by omega) (by omega) (by omega)]
        exact iNo_fr h6 (fun x y q => by unfold rNo at q; exact ev _ _ (by omega) (by omega) (by omega))
      · unfold rMk at q; exact ev _ _ (by omega) (by omega) (by omega)
  · refine OKc.of (r := -1) (s1 := s) (s2 := jup s 155 1 0) ?_ ?_ (INV_th h) ((KEEP.rf s).up (by unfold cnt; omega))
    · simp (disch := omega) only [↓jb_m, ↓jm_s, ↓reduceIte, t_lt, t_nlt, t_le, t_nle, t_eq, t_neq, w32_id, w64_id, jb_s, and_true, true_and, and_self, and_false, false_and, or_true, true_or, or_false, false_or, or_self, not_false_eq_true, not_true_eq_false, u_ne, u_eq, u_u, Int.reduceAdd, Int.reduceSub, Int.reduceMul, Int.reduceNeg, Int.zero_add, Int.add_zero, n15, n16, q10, q11, q12, q13, q14, Jc_feed, Te_hasRoomForFive]
    · simp (disch := omega) only [↓jb_m, ↓jm_s, ↓reduceIte, t_lt, t_nlt, t_le, t_nle, t_eq, t_neq, w32_id, w64_id, jb_s, and_true, true_and, and_self, and_false, false_and, or_true, true_or, or_false, false_or, or_self, not_false_eq_true, not_true_eq_false, u_ne, u_eq, u_u, Int.reduceAdd, Int.reduceSub, Int.reduceMul, Int.reduceNeg, Int.zero_add, Int.add_zero, n15, n16, q10, q11, q12, q13, q14, Md_feed]
