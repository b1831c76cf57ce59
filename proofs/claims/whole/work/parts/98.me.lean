/-! mean -/
theorem psum_b {f : Int → Int} {m : Int} : ∀ (n : Nat), (∀ j : Int, 0 ≤ j → j < n → 0 ≤ f j ∧ f j ≤ m) → 0 ≤ psum f n ∧ psum f n ≤ m * n := by
  intro n
  induction n with
  | zero => intro _; exact ⟨Int.le_refl _, by rw [Int.natCast_zero, Int.mul_zero]; exact Int.le_refl _⟩
  | succ n ih =>
    intro h
    have h1 := ih (fun j a b => h j a (by omega))
    have h2 := h n (by omega) (by omega)
    have e : m * ((n + 1 : Nat) : Int) = m * (n : Int) + m := by rw [Int.natCast_succ, Int.mul_add, Int.mul_one]
    rw [e]
    show 0 ≤ psum f n + f n ∧ psum f n + f n ≤ m * n + m
    omega
theorem mFirm_at {s u : jM} {b : Int} (h : iSe (vw s b) (cw u 0)) : ∃ x, Se_allFirm b s = some (x, s) ∧ Md_allFirm 155 u = some (x, u) ∧ 0 ≤ x ∧ x ≤ 405 := by
  obtain ⟨e6, c2⟩ := hd2 h
  have hmo := fun i (h1 : 0 ≤ i) (h2 : i < u 160 2) => (mo_at h ⟨h1, h2⟩).2.2.2.2.1
  have hb : ∀ j : Int, 0 ≤ j → j < ((u 160 2).toNat : Int) → 0 ≤ u 160 (74 + j) ∧ u 160 (74 + j) ≤ 81 := fun j j1 j2 => by
    have := hmo j j1 (by omega)
    omega
  have B := psum_b (f := fun i => u 160 (74 + i)) (m := 81) (u 160 2).toNat hb
  have key : ∀ (n : Nat) (x1 x2 : Int), 0 ≤ x2 → x2 ≤ u 160 2 → (u 160 2 - x2).toNat < n → x1 = psum (fun i => u 160 (74 + i)) x2.toNat → Md_allFirm_4 n 155 x1 x2 u = some (psum (fun i => u 160 (74 + i)) (u 160 2).toNat, u) := by
    intro n
    induction n with
    | zero => intro x1 x2 h1 h2 h3; omega
    | succ n ih =>
      intro x1 x2 h1 h2 h3 h4
      by_cases hx : x2 < u 160 2
      · simp (disch := omega) only [↓jb_m, ↓jm_s, ↓reduceIte, t_lt, t_nlt, t_le, t_nle, t_eq, t_neq, w32_id, w64_id, jb_s, and_true, true_and, and_self, and_false, false_and, or_true, true_or, or_false, false_or, or_self, not_false_eq_true, not_true_eq_false, u_ne, u_eq, u_u, Int.reduceAdd, Int.reduceSub, Int.reduceMul, Int.reduceNeg, Int.zero_add, Int.add_zero, n15, n16, q10, q11, q12, q13, q14, Md_allFirm_4]
        exact ih _ _ (by omega) (by omega) (by omega) (by rw [psum_s _ h1, h4])
      · have e : x2 = u 160 2 := by omega
        simp (disch := omega) only [↓jb_m, ↓jm_s, ↓reduceIte, t_lt, t_nlt, t_le, t_nle, t_eq, t_neq, w32_id, w64_id, jb_s, and_true, true_and, and_self, and_false, false_and, or_true, true_or, or_false, false_or, or_self, not_false_eq_true, not_true_eq_false, u_ne, u_eq, u_u, Int.reduceAdd, Int.reduceSub, Int.reduceMul, Int.reduceNeg, Int.zero_add, Int.add_zero, n15, n16, q10, q11, q12, q13, q14, Md_allFirm_4]
        rw [h4, e]
  refine ⟨_, allFirm_at h, ?_, B.1, by omega⟩
  rw [Md_allFirm]
  exact key _ 0 0 (by omega) (by omega) (by unfold jFU; omega) rfl
theorem mean62 {a n : Int} (u : jM) : Md_mean_62 jFU 155 a n 0 u = Md_mean_91 jFU 155 a n 0 0 (jcp u 160 0 162 0 109) := by
  have key : ∀ (f : Nat) (k : Int), 0 ≤ k → k ≤ 109 → (109 - k).toNat < f → Md_mean_62 f 155 a n k (jcp u 160 0 162 0 k) = Md_mean_91 jFU 155 a n 0 0 (jcp u 160 0 162 0 109) := by
    intro f
    induction f with
    | zero => intro k h1 h2 h3; omega
    | succ f ih =>
      intro k h1 h2 h3
      by_cases hk : k < 109
      · have := jcp_s (s := u) (k := 160) (sp := 0) (k2 := 162) (dp := 0) (n := k) (by decide) h1
        rw [Int.zero_add] at this
        rw [Md_mean_62]
        simp (disch := omega) only [↓jb_m, ↓jm_s, ↓reduceIte, t_lt, t_nlt, t_le, t_nle, t_eq, t_neq, w32_id, w64_id, jb_s, and_true, true_and, and_self, and_false, false_and, or_true, true_or, or_false, false_or, or_self, not_false_eq_true, not_true_eq_false, u_ne, u_eq, u_u, Int.reduceAdd, Int.reduceSub, Int.reduceMul, Int.reduceNeg, Int.zero_add, Int.add_zero, n15, n16, q10, q11, q12, q13, q14, this]
        exact ih (k + 1) (by omega) (by omega) (by omega)
      · have e : k = 109 := by omega
        subst e
        simp (disch := omega) only [↓jb_m, ↓jm_s, ↓reduceIte, t_lt, t_nlt, t_le, t_nle, t_eq, t_neq, w32_id, w64_id, jb_s, and_true, true_and, and_self, and_false, false_and, or_true, true_or, or_false, false_or, or_self, not_false_eq_true, not_true_eq_false, u_ne, u_eq, u_u, Int.reduceAdd, Int.reduceSub, Int.reduceMul, Int.reduceNeg, Int.zero_add, Int.add_zero, n15, n16, q10, q11, q12, q13, q14, Md_mean_62]
  have := key jFU 0 (by omega) (by omega) (by unfold jFU; omega)
  rw [jcp_0] at this
  exact this
theorem mean116 {a n x3 x5 : Int} {k91 : Int → Int → Int → Int → Int → jM → Option (Int × jM)} (u : jM) : Md_mean_116 k91 jFU 155 a n x3 x5 0 u = k91 155 a n x3 (x5 + 1) (jcp u 162 0 160 0 109) := by
  have key : ∀ (f : Nat) (k : Int), 0 ≤ k → k ≤ 109 → (109 - k).toNat < f → Md_mean_116 k91 f 155 a n x3 x5 k (jcp u 162 0 160 0 k) = k91 155 a n x3 (x5 + 1) (jcp u 162 0 160 0 109) := by
    intro f
    induction f with
    | zero => intro k h1 h2 h3; omega
    | succ f ih =>
      intro k h1 h2 h3
      by_cases hk : k < 109
      · have := jcp_s (s := u) (k := 162) (sp := 0) (k2 := 160) (dp := 0) (n := k) (by decide) h1
        rw [Int.zero_add] at this
        rw [Md_mean_116]
        simp (disch := omega) only [↓jb_m, ↓jm_s, ↓reduceIte, t_lt, t_nlt, t_le, t_nle, t_eq, t_neq, w32_id, w64_id, jb_s, and_true, true_and, and_self, and_false, false_and, or_true, true_or, or_false, false_or, or_self, not_false_eq_true, not_true_eq_false, u_ne, u_eq, u_u, Int.reduceAdd, Int.reduceSub, Int.reduceMul, Int.reduceNeg, Int.zero_add, Int.add_zero, n15, n16, q10, q11, q12, q13, q14, this]
        exact ih (k + 1) (by omega) (by omega) (by omega)
      · have e : k = 109 := by omega
        subst e
        simp (disch := omega) only [↓jb_m, ↓jm_s, ↓reduceIte, t_lt, t_nlt, t_le, t_nle, t_eq, t_neq, w32_id, w64_id, jb_s, and_true, true_and, and_self, and_false, false_and, or_true, true_or, or_false, false_or, or_self, not_false_eq_true, not_true_eq_false, u_ne, u_eq, u_u, Int.reduceAdd, Int.reduceSub, Int.reduceMul, Int.reduceNeg, Int.zero_add, Int.add_zero, n15, n16, q10, q11, q12, q13, q14, Md_mean_116]
  have := key jFU 0 (by omega) (by omega) (by unfold jFU; omega)
  rw [jcp_0] at this
  exact this
def mC (P x y : Int) : Prop := (P ≤ x ∧ x < P + 25) ∨ (x = 27 ∧ 0 ≤ y ∧ y ≤ 5) ∨ x = 28
def mR (x y : Int) : Prop := (x = 155 ∧ 38 ≤ y ∧ y ≤ 45) ∨ x = 164
def mH (N : Int) (w : Int → Int) (s u : jM) : Prop := iB (vw s N) (cw u 0) w ∧ (∀ k, 0 ≤ k → k < 109 → u 162 k = u 160 k) ∧ u 160 109 ≠ 0
def jK (v : Int) (s : jM) : Option (Int × jM) := if v = 0 ∨ v = 1 then some (v, s) else none
theorem mean_run {N P a n : Int} (hNP : (N = 30 ∧ P = 55) ∨ (N = 55 ∧ P = 30)) (ha : 0 ≤ a ∧ a ≤ 9999) (hn : 1 ≤ n ∧ n ≤ 20) {w : Int → Int} : ∀ (r f : Nat) (x4 x3 : Int) (s : jM), s 0 5 = N → s 0 6 = P → (∃ u, mH N w s u) → 0 ≤ x4 → x4 + r = n → 0 ≤ x3 → x3 ≤ 405 * x4 → r < f → ∃ S t, Jc_mean_64 f 0 a n x3 x4 s = jb (Jc_tell 0 S n t) jK ∧ EX (mC P) s t ∧ 0 ≤ S ∧ S ≤ 8100 ∧ ∀ (u : jM) (g : Nat), mH N w s u → r < g → ∃ v, Md_mean_91 g 155 a n x3 x4 u = jb (Md_fraction 155 S n v) jK ∧ EX mR u v := by
  have wn : w32 n = n := w32_id (by omega) (by omega)
  have jN : jok 3 N = true := by rcases hNP with q | q <;> rw [q.1] <;> decide +kernel
  have jP : jok 3 P = true := by rcases hNP with q | q <;> rw [q.2] <;> decide +kernel
  have hP : P = 30 ∨ P = 55 := by omega
  intro r
  induction r with
  | zero =>
    intro f x4 x3 s h5 h6 hu h0 h1 h2 h3 hf
    obtain ⟨f, rfl⟩ : ∃ g, f = g + 1 := ⟨f - 1, by omega⟩
    have w4 : w32 x4 = x4 := w32_id (by omega) (by omega)
    have w3 : w32 x3 = x3 := w32_id (by omega) (by omega)
    refine ⟨x3, s, ?_, EX.rf _ _, h2, by omega, fun u g hM hg => ⟨u, ?_, EX.rf _ _⟩⟩
    · rw [Jc_mean_64, w4, wn, w3, if_neg (by omega)]
      rfl
    · obtain ⟨g, rfl⟩ : ∃ q, g = q + 1 := ⟨g - 1, by omega⟩
      rw [Md_mean_91, w4, wn, if_neg (by omega)]
      rfl
  | succ r ih =>
    intro f x4 x3 s h5 h6 hu h0 h1 h2 h3 hf
    obtain ⟨f, rfl⟩ : ∃ g, f = g + 1 := ⟨f - 1, by omega⟩
    obtain ⟨u0, hu0⟩ := hu
    have w4 : w32 x4 = x4 := w32_id (by omega) (by omega)
    have hl := lines_at hu0.1.2.2
    rw [vw_at (by omega), vw_at (by omega), vw_at (by omega)] at hl
    have c2 := hd2 hu0.1.1
    obtain ⟨s1, k1, k2, k3⟩ := Se_copyOf_eq (s := s) (d := P) (b := N) (by omega) hl.2.2.1 ⟨hl.1, hl.2.1⟩ (by omega)
    have run := fun (u : jM) (hM : mH N w s u) => run_both (s := s1) (u := u) (a := a + x4) hP (by omega) (iB_copy hM.1 k2).1 (by have := hM.1.2.1; rw [cw_at (by omega)] at this; exact this) (iB_copy hM.1 k2).2.2 hM.2.2
    obtain ⟨s2, v0, r1, -, ⟨i1, -, -⟩, x1, -, -⟩ := run u0 hu0
    obtain ⟨z, z1, z2, z3, z4⟩ := mFirm_at i1
    have o5 : s1 0 = s 0 := k3 0 (by omega)
    have e5 : s2 0 5 = N := by rw [x1 _ _ (by unfold eC cdy; omega), o5]; exact h5
    have e6 : s2 0 6 = P := by rw [x1 _ _ (by unfold eC cdy; omega), o5]; exact h6
    have fr : EX (mC P) s s2 := fun x y q => by
      rw [x1 x y (by unfold mC at q; unfold eC cdy; omega), k3 x (by unfold mC at q; omega)]
    -- one round of the reference
    have one : ∀ (u : jM) (g : Nat), mH N w s u → ∃ v, Md_mean_91 (g + 1) 155 a n x3 x4 u = Md_mean_91 g 155 a n (x3 + z) (x4 + 1) v ∧ EX mR u v ∧ mH N w s2 v := fun u g hM => by
      obtain ⟨s2', v, r1', r2, ⟨i1', -, -⟩, -, x2, -⟩ := run u hM
      rw [r1] at r1'
      cases r1'
      obtain ⟨z', y1, y2, -, -⟩ := mFirm_at i1'
      rw [z1] at y1
      cases y1
      have wz : w32 z = z := w32_id (by omega) (by omega)
      have q160 : ∀ k, jcp v 162 0 160 0 109 160 k = u 160 k := fun k => by
        by_cases hk : 0 ≤ k ∧ k < 109
        · rw [c_in (by omega), show (0 : Int) + (k - 0) = k by omega, x2 _ _ (by unfold fR rdy; omega)]
          exact hM.2.1 k hk.1 hk.2
        · rw [c_out (by omega)]
          exact x2 _ _ (by unfold fR rdy; omega)
      refine ⟨jcp v 162 0 160 0 109, ?_, fun x y q => ?_, ?_, fun k a1 a2 => ?_, ?_⟩
      · rw [Md_mean_91, w4, wn, if_pos (by omega), r2, jb_t, y2, jb_t, mean116, wz]
      · by_cases hx : x = 160
        · subst hx
          exact q160 y
        · rw [c_out (by omega)]
          exact x2 _ _ (by unfold mR at q; unfold fR rdy; omega)
      · rw [cw_congr (s := u) (q := 0) (fun o _ _ => q160 _), vw_congr (s := s) (b := N) (fun i j _ _ => fr _ _ (by unfold mC; omega))]
        exact hM.1
      · rw [q160, c_out (by omega), x2 _ _ (by unfold fR rdy; omega)]
        exact hM.2.1 k a1 a2
      · rw [q160]
        exact hM.2.2
    obtain ⟨v1, -, -, hv1⟩ := one u0 0 hu0
    obtain ⟨S, t, b1, b2, b3, b4, b5⟩ := ih f (x4 + 1) (x3 + z) s2 e5 e6 ⟨v1, hv1⟩ (by omega) (by omega) (by omega) (by omega) (by omega)
    refine ⟨S, t, ?_, fr.tr b2, b3, b4, fun u g hM hg => ?_⟩
    · have o6 : s1 0 6 = P := by rw [o5]; exact h6
      rw [Jc_mean_64, w4, wn, if_pos (by omega), h5, h6, if_pos ⟨jP, jN⟩, k1, jb_t, o6, if_pos jP, Int.zero_add, r1, jb_t, e6, if_pos jP, z1, jb_t]
      exact b1
    · obtain ⟨g, rfl⟩ : ∃ q, g = q + 1 := ⟨g - 1, by omega⟩
      obtain ⟨v, c1, c2, c3⟩ := one u g hM
      obtain ⟨v', d1, d2⟩ := b5 v g c3 (by omega)
      exact ⟨v', c1.trans d1, c2.tr d2⟩
theorem mean_ok {s : jM} (h : INV s) {a n : Int} (ha : i32 a) (hn : i32 n) : OKc s (Jc_mean 0 a n) (Md_mean 155 a n) := by
  unfold i32 at ha hn
  obtain ⟨hb, hj, hj2, -⟩ := h.b
  have hse := h.2.2.2.2.2.1.1
  have hB := h.2.2.2.2.2.1
  have hl := lines_at hB.2.2
  rw [vw_at (by omega), vw_at (by omega), vw_at (by omega), cw_at (by omega), cw_at (by omega)] at hl
  obtain ⟨-, -, hl1, hl2, -⟩ := hl
  by_cases hv : 1 ≤ n ∧ n ≤ 20
  · have e1 : w32 (10000 - n) = 10000 - n := w32_id (by omega) (by omega)
    by_cases hv2 : 0 ≤ a ∧ a ≤ 9999
    · have e2 : w32 (a + n - 1) = a + n - 1 := w32_id (by omega) (by omega)
      by_cases hv3 : a + n ≤ 10000
      · by_cases ht : s 160 109 = 0
        · have e9 : s (s 0 5 + 9) 0 = 0 := by omega
          exact OKc.no (w := 8) (r := 0) h (by simp (disch := omega) only [↓jb_m, ↓jm_s, ↓reduceIte, t_lt, t_nlt, t_le, t_nle, t_eq, t_neq, w32_id, w64_id, jb_s, and_true, true_and, and_self, and_false, false_and, or_true, true_or, or_false, false_or, or_self, not_false_eq_true, not_true_eq_false, u_ne, u_eq, u_u, Int.reduceAdd, Int.reduceSub, Int.reduceMul, Int.reduceNeg, Int.zero_add, Int.add_zero, n15, n16, q10, q11, q12, q13, q14, Jc_mean, Jc_deny, e9, e2, Jc_answer, Jc_refuse, Jc_deny, Jc_grant, Se_isMould, Se_isStuff, Se_isPlace, hj]) (by simp (disch := omega) only [↓jb_m, ↓jm_s, ↓reduceIte, t_lt, t_nlt, t_le, t_nle, t_eq, t_neq, w32_id, w64_id, jb_s, and_true, true_and, and_self, and_false, false_and, or_true, true_or, or_false, false_or, or_self, not_false_eq_true, not_true_eq_false, u_ne, u_eq, u_u, Int.reduceAdd, Int.reduceSub, Int.reduceMul, Int.reduceNeg, Int.zero_add, Int.add_zero, n15, n16, q10, q11, q12, q13, q14, Md_mean, Md_no, e1, Md_isMouldAt, Md_isStuffAt, Md_isPlaceAt, Md_isTray, Md_isIn_1, Md_isIn_0, Md_refuse, Md_no])
        · have e9 : s (s 0 5 + 9) 0 = 1 := by omega
          have hNP : (s 0 5 = 30 ∧ s 0 6 = 55) ∨ (s 0 5 = 55 ∧ s 0 6 = 30) := h.2.2.2.2.1.1
          have mk : ∀ u : jM, (∀ y, u 160 y = s 160 y) → mH (s 0 5) (ww s 0) s (jcp u 160 0 162 0 109) := fun u hu => by
            refine ⟨?_, fun k k1 k2 => ?_, ?_⟩
            · rw [cw_congr (s := s) (q := 0) (fun o _ _ => by rw [c_out (by omega)]; exact hu _)]
              exact hB
            · rw [c_in (by omega), c_out (by omega), show (0 : Int) + (k - 0) = k by omega]
            · rw [c_out (by omega), hu]
              exact ht
          have jF : n.toNat < jFU := bub_ge (by omega)
          obtain ⟨S, t, c1, c2, c3, c4, c5⟩ := mean_run hNP hv2 hv n.toNat jFU 0 0 s rfl rfl ⟨_, mk s (fun _ => rfl)⟩ (by omega) (by omega) (by omega) (by omega) jF
          obtain ⟨x, y, t1, t2⟩ := tell_eq (a := S) (b := n) (by omega) (by omega)
          obtain ⟨S1, hS1⟩ : ∃ S1, S1 = jup (jup (jup t 0 1 x) 0 2 y) 0 0 0 := ⟨_, rfl⟩
          have hf : Jc_mean 0 a n s = some (1, S1) := by
            have e64 : Jc_mean_64 jFU 0 a n 0 0 s = some (1, S1) := by
              rw [c1, t1, jb_t, hS1]
              exact if_pos (Or.inr rfl)
            simp (disch := omega) only [↓jb_m, ↓jm_s, ↓reduceIte, t_lt, t_nlt, t_le, t_nle, t_eq, t_neq, w32_id, w64_id, jb_s, and_true, true_and, and_self, and_false, false_and, or_true, true_or, or_false, false_or, or_self, not_false_eq_true, not_true_eq_false, u_ne, u_eq, u_u, Int.reduceAdd, Int.reduceSub, Int.reduceMul, Int.reduceNeg, Int.zero_add, Int.add_zero, n15, n16, q10, q11, q12, q13, q14, Jc_mean, e9, e2, e64, hj]
          have g1 : ∀ p q, ¬ (p = 0 ∧ (q = 0 ∨ q = 1 ∨ q = 2)) → S1 p q = t p q := fun p q q3 => by
            rw [hS1, u_ne (by omega), u_ne (by omega), u_ne (by omega)]
          have z0 : S1 0 0 = 0 := by rw [hS1]; simp (disch := omega) only [↓jb_m, ↓jm_s, ↓reduceIte, t_lt, t_nlt, t_le, t_nle, t_eq, t_neq, w32_id, w64_id, jb_s, and_true, true_and, and_self, and_false, false_and, or_true, true_or, or_false, false_or, or_self, not_false_eq_true, not_true_eq_false, u_ne, u_eq, u_u, Int.reduceAdd, Int.reduceSub, Int.reduceMul, Int.reduceNeg, Int.zero_add, Int.add_zero, n15, n16, q10, q11, q12, q13, q14]
          have z1 : S1 0 1 = x := by rw [hS1]; simp (disch := omega) only [↓jb_m, ↓jm_s, ↓reduceIte, t_lt, t_nlt, t_le, t_nle, t_eq, t_neq, w32_id, w64_id, jb_s, and_true, true_and, and_self, and_false, false_and, or_true, true_or, or_false, false_or, or_self, not_false_eq_true, not_true_eq_false, u_ne, u_eq, u_u, Int.reduceAdd, Int.reduceSub, Int.reduceMul, Int.reduceNeg, Int.zero_add, Int.add_zero, n15, n16, q10, q11, q12, q13, q14]
          have z2 : S1 0 2 = y := by rw [hS1]; simp (disch := omega) only [↓jb_m, ↓jm_s, ↓reduceIte, t_lt, t_nlt, t_le, t_nle, t_eq, t_neq, w32_id, w64_id, jb_s, and_true, true_and, and_self, and_false, false_and, or_true, true_or, or_false, false_or, or_self, not_false_eq_true, not_true_eq_false, u_ne, u_eq, u_u, Int.reduceAdd, Int.reduceSub, Int.reduceMul, Int.reduceNeg, Int.zero_add, Int.add_zero, n15, n16, q10, q11, q12, q13, q14]
          clear hS1
          have e160 : ∀ y, jup (jup S1 155 1 0) 155 0 0 160 y = s 160 y := fun y => by
            rw [u_ne (by omega), u_ne (by omega), g1 _ _ (by omega)]
            exact c2 _ _ (by unfold mC; omega)
          obtain ⟨v, d1, d2⟩ := c5 _ jFU (mk _ e160) jF
          have E109 := e160 109
          rw [u_ne (by omega), u_ne (by omega)] at E109
          have E109' : S1 160 109 = 1 := by omega
          have hg : Md_mean 155 a n S1 = some (1, jup (jup v 155 2 x) 155 3 y) := by
            have e62 : Md_mean_62 jFU 155 a n 0 (jup (jup S1 155 1 0) 155 0 0) = some (1, jup (jup v 155 2 x) 155 3 y) := by
              rw [mean62, d1, t2, jb_t]
              exact if_pos (Or.inr rfl)
            simp (disch := omega) only [↓jb_m, ↓jm_s, ↓reduceIte, t_lt, t_nlt, t_le, t_nle, t_eq, t_neq, w32_id, w64_id, jb_s, and_true, true_and, and_self, and_false, false_and, or_true, true_or, or_false, false_or, or_self, not_false_eq_true, not_true_eq_false, u_ne, u_eq, u_u, Int.reduceAdd, Int.reduceSub, Int.reduceMul, Int.reduceNeg, Int.zero_add, Int.add_zero, n15, n16, q10, q11, q12, q13, q14, Md_mean, Md_no, e1, e62, E109', Md_isIn_1]
          obtain ⟨S2, hS2⟩ : ∃ S2, S2 = jup (jup v 155 2 x) 155 3 y := ⟨_, rfl⟩
          rw [← hS2] at hg
          have g2 : ∀ p q, ¬ (p = 155 ∧ (q = 2 ∨ q = 3)) → S2 p q = v p q := fun p q q3 => by
            rw [hS2, u_ne (by omega), u_ne (by omega)]
          have w2 : S2 155 2 = x := by rw [hS2]; simp (disch := omega) only [↓jb_m, ↓jm_s, ↓reduceIte, t_lt, t_nlt, t_le, t_nle, t_eq, t_neq, w32_id, w64_id, jb_s, and_true, true_and, and_self, and_false, false_and, or_true, true_or, or_false, false_or, or_self, not_false_eq_true, not_true_eq_false, u_ne, u_eq, u_u, Int.reduceAdd, Int.reduceSub, Int.reduceMul, Int.reduceNeg, Int.zero_add, Int.add_zero, n15, n16, q10, q11, q12, q13, q14]
          have w3 : S2 155 3 = y := by rw [hS2]; simp (disch := omega) only [↓jb_m, ↓jm_s, ↓reduceIte, t_lt, t_nlt, t_le, t_nle, t_eq, t_neq, w32_id, w64_id, jb_s, and_true, true_and, and_self, and_false, false_and, or_true, true_or, or_false, false_or, or_self, not_false_eq_true, not_true_eq_false, u_ne, u_eq, u_u, Int.reduceAdd, Int.reduceSub, Int.reduceMul, Int.reduceNeg, Int.zero_add, Int.add_zero, n15, n16, q10, q11, q12, q13, q14]
          clear hS2
          have g3 : ∀ p q, ¬ mR p q → p ≠ 162 → ¬ (p = 155 ∧ (q = 0 ∨ q = 1 ∨ q = 2 ∨ q = 3)) → S2 p q = S1 p q := fun p q n1 n2 n3 => by
            rw [g2 p q (by omega), d2 p q n1, c_out (by omega), u_ne (by omega), u_ne (by omega)]
          have W : ∀ p q, ¬ mR p q → ¬ mC (s 0 6) p q → p ≠ 162 → ¬ (p = 155 ∧ (q = 0 ∨ q = 1 ∨ q = 2 ∨ q = 3)) → ¬ (p = 0 ∧ (q = 0 ∨ q = 1 ∨ q = 2)) → S2 p q = s p q := fun p q n1 n2 n3 n4 n5 => by
            rw [g3 p q n1 n3 n4, g1 p q n5]
            exact c2 p q n2
          have h00 : S2 0 0 = 0 := by rw [g3 _ _ (by unfold mR; omega) (by omega) (by omega)]; exact z0
          have h01 : S2 0 1 = x := by rw [g3 _ _ (by unfold mR; omega) (by omega) (by omega)]; exact z1
          have h02 : S2 0 2 = y := by rw [g3 _ _ (by unfold mR; omega) (by omega) (by omega)]; exact z2
          have h150 : S2 155 0 = 0 := by rw [g2 _ _ (by omega), d2 _ _ (by unfold mR; omega), c_out (by omega), u_eq ⟨rfl, rfl⟩]
          refine ⟨1, S1, S2, hf, hg, ?_, funext fun y => W _ _ (by unfold mR; omega) (by unfold mC; omega) (by omega) (by omega) (by omega), funext fun y => W _ _ (by unfold mR; omega) (by unfold mC; omega) (by omega) (by omega) (by omega)⟩
          obtain ⟨h1, h2, h3, h4, h5', h6, h7⟩ := h
          refine ⟨⟨by rw [h00, h150], by rw [h01, w2], by rw [h02, w3], ?_, ?_⟩, iTrs_fr h2 (fun p q z => ?_), iTp_fr h3 (fun p q z => ?_), iLv_fr h4 (fun p q z => ?_), iBs_fr h5' (fun p q z => ?_), ?_, iMk_fr h7 (W _ _ (by unfold mR; omega) (by unfold mC; omega) (by omega) (by omega) (by omega)) h5'.2.2.1 (fun p q z => ?_)⟩
          · rw [W 0 3 (by unfold mR; omega) (by unfold mC; omega) (by omega) (by omega) (by omega), W 155 10 (by unfold mR; omega) (by unfold mC; omega) (by omega) (by omega) (by omega)]
            exact h1.2.2.2.1
          · rw [W 0 4 (by unfold mR; omega) (by unfold mC; omega) (by omega) (by omega) (by omega), W 155 11 (by unfold mR; omega) (by unfold mC; omega) (by omega) (by omega) (by omega)]
            exact h1.2.2.2.2
          · unfold rTr at z; exact W _ _ (by unfold mR; omega) (by unfold mC; omega) (by omega) (by omega) (by omega)
          · unfold rTp at z; exact W _ _ (by unfold mR; omega) (by unfold mC; omega) (by omega) (by omega) (by omega)
          · unfold rLv at z; exact W _ _ (by unfold mR; omega) (by unfold mC; omega) (by omega) (by omega) (by omega)
          · unfold rBs at z; exact W _ _ (by unfold mR; omega) (by unfold mC; omega) (by omega) (by omega) (by omega)
          · rw [W 0 5 (by unfold mR; omega) (by unfold mC; omega) (by omega) (by omega) (by omega)]
            exact iNo_fr h6 (fun p q z => by unfold rNo at z; exact W _ _ (by unfold mR; omega) (by unfold mC; omega) (by omega) (by omega) (by omega))
          · unfold rMk at z; exact W _ _ (by unfold mR; omega) (by unfold mC; omega) (by omega) (by omega) (by omega)
      · exact OKc.no (w := 5) (r := 0) h (by simp (disch := omega) only [↓jb_m, ↓jm_s, ↓reduceIte, t_lt, t_nlt, t_le, t_nle, t_eq, t_neq, w32_id, w64_id, jb_s, and_true, true_and, and_self, and_false, false_and, or_true, true_or, or_false, false_or, or_self, not_false_eq_true, not_true_eq_false, u_ne, u_eq, u_u, Int.reduceAdd, Int.reduceSub, Int.reduceMul, Int.reduceNeg, Int.zero_add, Int.add_zero, n15, n16, q10, q11, q12, q13, q14, Jc_mean, Jc_deny, e2, Jc_answer, Jc_refuse, Jc_deny, Jc_grant, Se_isMould, Se_isStuff, Se_isPlace, hj]) (by simp (disch := omega) only [↓jb_m, ↓jm_s, ↓reduceIte, t_lt, t_nlt, t_le, t_nle, t_eq, t_neq, w32_id, w64_id, jb_s, and_true, true_and, and_self, and_false, false_and, or_true, true_or, or_false, false_or, or_self, not_false_eq_true, not_true_eq_false, u_ne, u_eq, u_u, Int.reduceAdd, Int.reduceSub, Int.reduceMul, Int.reduceNeg, Int.zero_add, Int.add_zero, n15, n16, q10, q11, q12, q13, q14, Md_mean, Md_no, e1, Md_isMouldAt, Md_isStuffAt, Md_isPlaceAt, Md_isTray, Md_isIn_1, Md_isIn_0, Md_refuse, Md_no])
    · rcases (by omega : a < 0 ∨ 9999 < a) with q | q
      · exact OKc.no (w := 5) (r := 0) h (by simp (disch := omega) only [↓jb_m, ↓jm_s, ↓reduceIte, t_lt, t_nlt, t_le, t_nle, t_eq, t_neq, w32_id, w64_id, jb_s, and_true, true_and, and_self, and_false, false_and, or_true, true_or, or_false, false_or, or_self, not_false_eq_true, not_true_eq_false, u_ne, u_eq, u_u, Int.reduceAdd, Int.reduceSub, Int.reduceMul, Int.reduceNeg, Int.zero_add, Int.add_zero, n15, n16, q10, q11, q12, q13, q14, Jc_mean, Jc_deny, Jc_answer, Jc_refuse, Jc_deny, Jc_grant, Se_isMould, Se_isStuff, Se_isPlace, hj]) (by simp (disch := omega) only [↓jb_m, ↓jm_s, ↓reduceIte, t_lt, t_nlt, t_le, t_nle, t_eq, t_neq, w32_id, w64_id, jb_s, and_true, true_and, and_self, and_false, false_and, or_true, true_or, or_false, false_or, or_self, not_false_eq_true, not_true_eq_false, u_ne, u_eq, u_u, Int.reduceAdd, Int.reduceSub, Int.reduceMul, Int.reduceNeg, Int.zero_add, Int.add_zero, n15, n16, q10, q11, q12, q13, q14, Md_mean, Md_no, e1, Md_isMouldAt, Md_isStuffAt, Md_isPlaceAt, Md_isTray, Md_isIn_1, Md_isIn_0, Md_refuse, Md_no])
      · exact OKc.no (w := 5) (r := 0) h (by simp (disch := omega) only [↓jb_m, ↓jm_s, ↓reduceIte, t_lt, t_nlt, t_le, t_nle, t_eq, t_neq, w32_id, w64_id, jb_s, and_true, true_and, and_self, and_false, false_and, or_true, true_or, or_false, false_or, or_self, not_false_eq_true, not_true_eq_false, u_ne, u_eq, u_u, Int.reduceAdd, Int.reduceSub, Int.reduceMul, Int.reduceNeg, Int.zero_add, Int.add_zero, n15, n16, q10, q11, q12, q13, q14, Jc_mean, Jc_deny, Jc_answer, Jc_refuse, Jc_deny, Jc_grant, Se_isMould, Se_isStuff, Se_isPlace, hj]) (by simp (disch := omega) only [↓jb_m, ↓jm_s, ↓reduceIte, t_lt, t_nlt, t_le, t_nle, t_eq, t_neq, w32_id, w64_id, jb_s, and_true, true_and, and_self, and_false, false_and, or_true, true_or, or_false, false_or, or_self, not_false_eq_true, not_true_eq_false, u_ne, u_eq, u_u, Int.reduceAdd, Int.reduceSub, Int.reduceMul, Int.reduceNeg, Int.zero_add, Int.add_zero, n15, n16, q10, q11, q12, q13, q14, Md_mean, Md_no, e1, Md_isMouldAt, Md_isStuffAt, Md_isPlaceAt, Md_isTray, Md_isIn_1, Md_isIn_0, Md_refuse, Md_no])
  · by_cases hv2 : 0 ≤ a ∧ a ≤ 9999
    · rcases (by omega : n < 1 ∨ 20 < n) with q | q
      · exact OKc.no (w := 5) (r := 0) h (by simp (disch := omega) only [↓jb_m, ↓jm_s, ↓reduceIte, t_lt, t_nlt, t_le, t_nle, t_eq, t_neq, w32_id, w64_id, jb_s, and_true, true_and, and_self, and_false, false_and, or_true, true_or, or_false, false_or, or_self, not_false_eq_true, not_true_eq_false, u_ne, u_eq, u_u, Int.reduceAdd, Int.reduceSub, Int.reduceMul, Int.reduceNeg, Int.zero_add, Int.add_zero, n15, n16, q10, q11, q12, q13, q14, Jc_mean, Jc_deny, Jc_answer, Jc_refuse, Jc_deny, Jc_grant, Se_isMould, Se_isStuff, Se_isPlace, hj]) (by simp (disch := omega) only [↓jb_m, ↓jm_s, ↓reduceIte, t_lt, t_nlt, t_le, t_nle, t_eq, t_neq, w32_id, w64_id, jb_s, and_true, true_and, and_self, and_false, false_and, or_true, true_or, or_false, false_or, or_self, not_false_eq_true, not_true_eq_false, u_ne, u_eq, u_u, Int.reduceAdd, Int.reduceSub, Int.reduceMul, Int.reduceNeg, Int.zero_add, Int.add_zero, n15, n16, q10, q11, q12, q13, q14, Md_mean, Md_no, Md_isMouldAt, Md_isStuffAt, Md_isPlaceAt, Md_isTray, Md_isIn_1, Md_isIn_0, Md_refuse, Md_no])
      · exact OKc.no (w := 5) (r := 0) h (by simp (disch := omega) only [↓jb_m, ↓jm_s, ↓reduceIte, t_lt, t_nlt, t_le, t_nle, t_eq, t_neq, w32_id, w64_id, jb_s, and_true, true_and, and_self, and_false, false_and, or_true, true_or, or_false, false_or, or_self, not_false_eq_true, not_true_eq_false, u_ne, u_eq, u_u, Int.reduceAdd, Int.reduceSub, Int.reduceMul, Int.reduceNeg, Int.zero_add, Int.add_zero, n15, n16, q10, q11, q12, q13, q14, Jc_mean, Jc_deny, Jc_answer, Jc_refuse, Jc_deny, Jc_grant, Se_isMould, Se_isStuff, Se_isPlace, hj]) (by simp (disch := omega) only [↓jb_m, ↓jm_s, ↓reduceIte, t_lt, t_nlt, t_le, t_nle, t_eq, t_neq, w32_id, w64_id, jb_s, and_true, true_and, and_self, and_false, false_and, or_true, true_or, or_false, false_or, or_self, not_false_eq_true, not_true_eq_false, u_ne, u_eq, u_u, Int.reduceAdd, Int.reduceSub, Int.reduceMul, Int.reduceNeg, Int.zero_add, Int.add_zero, n15, n16, q10, q11, q12, q13, q14, Md_mean, Md_no, Md_isMouldAt, Md_isStuffAt, Md_isPlaceAt, Md_isTray, Md_isIn_1, Md_isIn_0, Md_refuse, Md_no])
    · rcases (by omega : a < 0 ∨ 9999 < a) with q | q <;> rcases (by omega : n < 1 ∨ 20 < n) with q2 | q2
      · exact OKc.no (w := 5) (r := 0) h (by simp (disch := omega) only [↓jb_m, ↓jm_s, ↓reduceIte, t_lt, t_nlt, t_le, t_nle, t_eq, t_neq, w32_id, w64_id, jb_s, and_true, true_and, and_self, and_false, false_and, or_true, true_or, or_false, false_or, or_self, not_false_eq_true, not_true_eq_false, u_ne, u_eq, u_u, Int.reduceAdd, Int.reduceSub, Int.reduceMul, Int.reduceNeg, Int.zero_add, Int.add_zero, n15, n16, q10, q11, q12, q13, q14, Jc_mean, Jc_deny, Jc_answer, Jc_refuse, Jc_deny, Jc_grant, Se_isMould, Se_isStuff, Se_isPlace, hj]) (by simp (disch := omega) only [↓jb_m, ↓jm_s, ↓reduceIte, t_lt, t_nlt, t_le, t_nle, t_eq, t_neq, w32_id, w64_id, jb_s, and_true, true_and, and_self, and_false, false_and, or_true, true_or, or_false, false_or, or_self, not_false_eq_true, not_true_eq_false, u_ne, u_eq, u_u, Int.reduceAdd, Int.reduceSub, Int.reduceMul, Int.reduceNeg, Int.zero_add, Int.add_zero, n15, n16, q10, q11, q12, q13, q14, Md_mean, Md_no, Md_isMouldAt, Md_isStuffAt, Md_isPlaceAt, Md_isTray, Md_isIn_1, Md_isIn_0, Md_refuse, Md_no])
      · exact OKc.no (w := 5) (r := 0) h (by simp (disch := omega) only [↓jb_m, ↓jm_s, ↓reduceIte, t_lt, t_nlt, t_le, t_nle, t_eq, t_neq, w32_id, w64_id, jb_s, and_true, true_and, and_self, and_false, false_and, or_true, true_or, or_false, false_or, or_self, not_false_eq_true, not_true_eq_false, u_ne, u_eq, u_u, Int.reduceAdd, Int.reduceSub, Int.reduceMul, Int.reduceNeg, Int.zero_add, Int.add_zero, n15, n16, q10, q11, q12, q13, q14, Jc_mean, Jc_deny, Jc_answer, Jc_refuse, Jc_deny, Jc_grant, Se_isMould, Se_isStuff, Se_isPlace, hj]) (by simp (disch := omega) only [↓jb_m, ↓jm_s, ↓reduceIte, t_lt, t_nlt, t_le, t_nle, t_eq, t_neq, w32_id, w64_id, jb_s, and_true, true_and, and_self, and_false, false_and, or_true, true_or, or_false, false_or, or_self, not_false_eq_true, not_true_eq_false, u_ne, u_eq, u_u, Int.reduceAdd, Int.reduceSub, Int.reduceMul, Int.reduceNeg, Int.zero_add, Int.add_zero, n15, n16, q10, q11, q12, q13, q14, Md_mean, Md_no, Md_isMouldAt, Md_isStuffAt, Md_isPlaceAt, Md_isTray, Md_isIn_1, Md_isIn_0, Md_refuse, Md_no])
      · exact OKc.no (w := 5) (r := 0) h (by simp (disch := omega) only [↓jb_m, ↓jm_s, ↓reduceIte, t_lt, t_nlt, t_le, t_nle, t_eq, t_neq, w32_id, w64_id, jb_s, and_true, true_and, and_self, and_false, false_and, or_true, true_or, or_false, false_or, or_self, not_false_eq_true, not_true_eq_false, u_ne, u_eq, u_u, Int.reduceAdd, Int.reduceSub, Int.reduceMul, Int.reduceNeg, Int.zero_add, Int.add_zero, n15, n16, q10, q11, q12, q13, q14, Jc_mean, Jc_deny, Jc_answer, Jc_refuse, Jc_deny, Jc_grant, Se_isMould, Se_isStuff, Se_isPlace, hj]) (by simp (disch := omega) only [↓jb_m, ↓jm_s, ↓reduceIte, t_lt, t_nlt, t_le, t_nle, t_eq, t_neq, w32_id, w64_id, jb_s, and_true, true_and, and_self, and_false, false_and, or_true, true_or, or_false, false_or, or_self, not_false_eq_true, not_true_eq_false, u_ne, u_eq, u_u, Int.reduceAdd, Int.reduceSub, Int.reduceMul, Int.reduceNeg, Int.zero_add, Int.add_zero, n15, n16, q10, q11, q12, q13, q14, Md_mean, Md_no, Md_isMouldAt, Md_isStuffAt, Md_isPlaceAt, Md_isTray, Md_isIn_1, Md_isIn_0, Md_refuse, Md_no])
      · exact OKc.no (w := 5) (r := 0) h (by simp (disch := omega) only [↓jb_m, ↓jm_s, ↓reduceIte, t_lt, t_nlt, t_le, t_nle, t_eq, t_neq, w32_id, w64_id, jb_s, and_true, true_and, and_self, and_false, false_and, or_true, true_or, or_false, false_or, or_self, not_false_eq_true, not_true_eq_false, u_ne, u_eq, u_u, Int.reduceAdd, Int.reduceSub, Int.reduceMul, Int.reduceNeg, Int.zero_add, Int.add_zero, n15, n16, q10, q11, q12, q13, q14, Jc_mean, Jc_deny, Jc_answer, Jc_refuse, Jc_deny, Jc_grant, Se_isMould, Se_isStuff, Se_isPlace, hj]) (by simp (disch := omega) only [↓jb_m, ↓jm_s, ↓reduceIte, t_lt, t_nlt, t_le, t_nle, t_eq, t_neq, w32_id, w64_id, jb_s, and_true, true_and, and_self, and_false, false_and, or_true, true_or, or_false, false_or, or_self, not_false_eq_true, not_true_eq_false, u_ne, u_eq, u_u, Int.reduceAdd, Int.reduceSub, Int.reduceMul, Int.reduceNeg, Int.zero_add, Int.add_zero, n15, n16, q10, q11, q12, q13, q14, Md_mean, Md_no, Md_isMouldAt, Md_isStuffAt, Md_isPlaceAt, Md_isTray, Md_isIn_1, Md_isIn_0, Md_refuse, Md_no])
