/-! BUBBLES -/
theorem jb_n (x : Option (Int × jM)) (f : Int → jM → Option (Int × jM)) : jb x f = (match x with | some r => f r.1 r.2 | none => none) := by
  cases x <;> rfl
theorem jb_t (v : Int) (s : jM) (f : Int → jM → Option (Int × jM)) : jb (some (v, s)) f = f v s := (jb_n _ _).trans rfl
def wy (n : Nat) : Nat → Int
  | 0 => 1
  | i + 1 => wy n i * ((n : Int) - i) / (i + 1)
def pw (b : Int) : Nat → Int
  | 0 => 1
  | i + 1 => pw b i * b
theorem wy_b : ∀ d, d < 13 → ∀ i, i < 14 → 0 ≤ wy d i ∧ wy d i ≤ 924 ∧ (d < i → wy d i = 0) := by decide +kernel
theorem wy_s : ∀ d, d < 12 → ∀ i, i < 13 → wy (d + 1) (i + 1) = wy d (i + 1) + wy d i := by decide +kernel
theorem pw_b {b : Int} (h : 0 ≤ b ∧ b ≤ 16) : ∀ n, 0 ≤ pw b n ∧ pw b n ≤ pw 16 n := by
  intro n
  induction n with
  | zero => exact ⟨by show (0 : Int) ≤ 1; omega, by show (1 : Int) ≤ 1; omega⟩
  | succ n ih => exact ⟨Int.mul_nonneg ih.1 h.1, Int.mul_le_mul ih.2 h.2 h.1 (by omega)⟩
theorem pw_add (b : Int) (n m : Nat) : pw b n * pw b m = pw b (n + m) := by
  induction m with
  | zero => exact Int.mul_one _
  | succ m ih =>
    show pw b n * (pw b m * b) = pw b (n + m) * b
    rw [← Int.mul_assoc, ih]
theorem pw16_b : ∀ n, n < 13 → 1 ≤ pw 16 n ∧ pw 16 n ≤ 281474976710656 := by decide +kernel
/-- i of n parts have one -/
def bT (p : Int) (n i : Nat) : Int := wy n i * (pw p i * pw (16 - p) (n - i))
theorem bT_0 {p : Int} {n i : Nat} (hn : n < 13) (hi : i < 14) (h : n < i) : bT p n i = 0 := by
  unfold bT
  rw [(wy_b n hn i hi).2.2 h, Int.zero_mul]
theorem bT_b {p : Int} (hp : 0 ≤ p ∧ p ≤ 16) {n i : Nat} (hn : n < 13) (hi : i < 14) : 0 ≤ bT p n i ∧ bT p n i ≤ 260082878480646144 := by
  by_cases h : n < i
  · rw [bT_0 hn hi h]
    omega
  · have a := wy_b n hn i hi
    have b := pw_b hp i
    have c := pw_b (b := 16 - p) (by omega) (n - i)
    have e := pw_add 16 i (n - i)
    rw [show i + (n - i) = n by omega] at e
    have f := pw16_b n hn
    have g : pw p i * pw (16 - p) (n - i) ≤ pw 16 n := by
      rw [← e]
      exact Int.mul_le_mul b.2 c.2 c.1 (by omega)
    have g0 : 0 ≤ pw p i * pw (16 - p) (n - i) := Int.mul_nonneg b.1 c.1
    unfold bT
    refine ⟨Int.mul_nonneg a.1 g0, ?_⟩
    have := Int.mul_le_mul a.2.1 (Int.le_trans g f.2) g0 (by omega)
    exact Int.le_trans this (by decide)
theorem bT_s {p : Int} {n i : Nat} (hn : n < 12) (hi : i < 13) : bT p (n + 1) (i + 1) = bT p n (i + 1) * (16 - p) + bT p n i * p := by
  unfold bT
  rw [wy_s n hn i hi, Int.add_mul]
  by_cases h : i + 1 ≤ n
  · have e1 : n + 1 - (i + 1) = n - (i + 1) + 1 := by omega
    have e2 : n - i = n - (i + 1) + 1 := by omega
    rw [e1, e2]
    show wy n (i + 1) * (pw p i * p * (pw (16 - p) (n - (i + 1)) * (16 - p))) + wy n i * (pw p i * p * (pw (16 - p) (n - (i + 1)) * (16 - p))) = wy n (i + 1) * (pw p i * p * pw (16 - p) (n - (i + 1))) * (16 - p) + wy n i * (pw p i * (pw (16 - p) (n - (i + 1)) * (16 - p))) * p
    congr 1
    · simp only [Int.mul_assoc]
    · simp only [Int.mul_assoc, Int.mul_comm p, Int.mul_left_comm]
  · rw [(wy_b n (by omega) (i + 1) (by omega)).2.2 (by omega), Int.zero_mul, Int.zero_mul, Int.zero_mul, Int.zero_add, Int.zero_add]
    have e1 : n + 1 - (i + 1) = 0 := by omega
    have e2 : n - i = 0 := by omega
    rw [e1, e2]
    show wy n i * (pw p i * p * 1) = wy n i * (pw p i * 1) * p
    simp only [Int.mul_assoc, Int.mul_one, Int.one_mul]
theorem bT_s0 {p : Int} {n : Nat} : bT p (n + 1) 0 = bT p n 0 * (16 - p) := by
  unfold bT
  show 1 * (1 * (pw (16 - p) n * (16 - p))) = 1 * (1 * pw (16 - p) n) * (16 - p)
  simp only [Int.one_mul]
/-- the class's powers -/
theorem power_eq {b : Int} {s : jM} (hb : 0 ≤ b ∧ b ≤ 16) : ∀ (k f i : Nat), i + k < 100 → k < f → Jc_power_5 f b (i + k : Nat) (pw b i) i s = some (pw b (i + k), s) := by
  intro k
  induction k with
  | zero =>
    intro f i h1 h2
    obtain ⟨f, rfl⟩ : ∃ g, f = g + 1 := ⟨f - 1, by omega⟩
    rw [Jc_power_5]
    simp (disch := omega) only [↓jb_m, ↓jm_s, ↓reduceIte, t_lt, t_nlt, t_le, t_nle, t_eq, t_neq, w32_id, w64_id, jb_s, and_true, true_and, and_self, and_false, false_and, or_true, true_or, or_false, false_or, or_self, not_false_eq_true, not_true_eq_false, u_ne, u_eq, u_u, Int.reduceAdd, Int.reduceSub, Int.reduceMul, Int.reduceNeg, Int.zero_add, Int.add_zero, n15, n16, q10, q11, q12, q13, q14, Nat.add_zero]
  | succ k ih =>
    intro f i h1 h2
    obtain ⟨f, rfl⟩ : ∃ g, f = g + 1 := ⟨f - 1, by omega⟩
    have := ih f (i + 1) (by omega) (by omega)
    rw [show i + 1 + k = i + (k + 1) by omega] at this
    rw [Jc_power_5]
    simp (disch := omega) only [↓jb_m, ↓jm_s, ↓reduceIte, t_lt, t_nlt, t_le, t_nle, t_eq, t_neq, w32_id, w64_id, jb_s, and_true, true_and, and_self, and_false, false_and, or_true, true_or, or_false, false_or, or_self, not_false_eq_true, not_true_eq_false, u_ne, u_eq, u_u, Int.reduceAdd, Int.reduceSub, Int.reduceMul, Int.reduceNeg, Int.zero_add, Int.add_zero, n15, n16, q10, q11, q12, q13, q14]
    exact this
theorem Jc_power_eq {b : Int} {s : jM} (hb : 0 ≤ b ∧ b ≤ 16) {k : Int} (hk : 0 ≤ k ∧ k < 100) : Jc_power b k s = some (pw b k.toNat, s) := by
  have := power_eq (s := s) hb k.toNat jFU 0 (by omega) (Nat.lt_of_lt_of_le (m := 400) (by omega) (jFU_ge (by decide)))
  rw [Nat.zero_add, Int.toNat_of_nonneg hk.1] at this
  exact this
def bG (p : Int) (n : Nat) (k : Int) : Int → Int := fun i => if i < k then 0 else bT p n i.toNat
theorem bG_b {p : Int} (hp : 0 ≤ p ∧ p ≤ 16) {n : Nat} (hn : n < 13) {k : Int} : ∀ m, m < 14 → 0 ≤ psum (bG p n k) m ∧ psum (bG p n k) m ≤ 260082878480646144 * m := by
  intro m
  induction m with
  | zero => intro _; exact ⟨by show (0 : Int) ≤ 0; omega, by show (0 : Int) ≤ 260082878480646144 * ((0 : Nat) : Int); omega⟩
  | succ m ih =>
    intro h
    have := ih (by omega)
    have g : 0 ≤ bG p n k m ∧ bG p n k m ≤ 260082878480646144 := by
      unfold bG
      split
      · omega
      · exact bT_b hp hn (by omega)
    show 0 ≤ psum (bG p n k) m + bG p n k m ∧ psum (bG p n k) m + bG p n k m ≤ _
    omega
theorem bG_tail {p : Int} {n : Nat} (hn : n < 13) {k : Int} : ∀ m : Nat, n + 1 + m < 15 → psum (bG p n k) (n + 1 + m) = psum (bG p n k) (n + 1) := by
  intro m
  induction m with
  | zero => intro _; rfl
  | succ m ih =>
    intro h
    show psum (bG p n k) (n + 1 + m) + bG p n k ((n + 1 + m : Nat) : Int) = _
    rw [ih (by omega)]
    have : bG p n k ((n + 1 + m : Nat) : Int) = 0 := by
      unfold bG
      split
      · rfl
      · exact bT_0 hn (by omega) (by omega)
    omega
theorem jldiv_e {a b : Int} (h : 0 ≤ a) (h2 : a < 9223372036854775808) (h3 : 1 ≤ b) (h4 : b < 9223372036854775808) : jldiv a b = a / b := by
  unfold jldiv
  rw [w64_id (by omega) h2, w64_id (by omega) h4, Int.tdiv_eq_ediv_of_nonneg h]
theorem bubC_0 {s : jM} {n : Nat} (hn : n < 13) {k : Int} (x3 x5 : Int) (f : Nat) : Jc_bubbles_34 (f + 1) 0 n k x3 x5 ((n : Int) + 1) s = jb (Jc_tell 0 x5 (pw 16 n) s) fun v2 s2 => if v2 = 0 ∨ v2 = 1 then some (v2, s2) else none := by
  have hp16 := Jc_power_eq (b := 16) (s := s) (by omega) (k := n) (by omega)
  rw [Int.toNat_natCast] at hp16
  have hlt : w32 (n : Int) < w32 ((n : Int) + 1) := by rw [w32_id (by omega) (by omega), w32_id (by omega) (by omega)]; omega
  rw [Jc_bubbles_34, if_pos hlt, hp16, jb_t]
theorem bubC_1 {s : jM} {n : Nat} (hn : n < 13) {k : Int} (hk : 0 ≤ k ∧ k ≤ 12) {i : Nat} (hi : i ≤ n) (hik : (i : Int) < k) (x5 : Int) (f : Nat) : Jc_bubbles_34 (f + 1) 0 n k (wy n i) x5 i s = Jc_bubbles_34 f 0 n k (wy n (i + 1)) x5 ((i : Int) + 1) s := by
  have a := wy_b n hn i (by omega)
  have q1 : 0 ≤ wy n i * ((n : Int) - i) := Int.mul_nonneg a.1 (by omega)
  have q2 : wy n i * ((n : Int) - i) ≤ 924 * 12 := Int.mul_le_mul a.2.1 (by omega) (by omega) (by omega)
  have hd := jldiv_e (a := wy n i * ((n : Int) - i)) (b := (i : Int) + 1) q1 (by omega) (by omega) (by omega)
  have hw : wy n (i + 1) = wy n i * ((n : Int) - i) / ((i : Int) + 1) := rfl
  rw [hw, Jc_bubbles_34]
  clear hw a
  generalize wy n i = W at hd q1 q2 ⊢
  simp (disch := omega) only [↓jb_m, ↓jm_s, ↓reduceIte, t_lt, t_nlt, t_le, t_nle, t_eq, t_neq, w32_id, w64_id, jb_s, and_true, true_and, and_self, and_false, false_and, or_true, true_or, or_false, false_or, or_self, not_false_eq_true, not_true_eq_false, u_ne, u_eq, u_u, Int.reduceAdd, Int.reduceSub, Int.reduceMul, Int.reduceNeg, Int.zero_add, Int.add_zero, n15, n16, q10, q11, q12, q13, q14, Jc_bubbles_83, hd]
theorem bubC_2 {s : jM} (hj : jok 3 (s 0 5) = true) {p : Int} (hp : 0 ≤ p ∧ p ≤ 16) (h1 : s (s 0 5) 1 = p) {n : Nat} (hn : n < 13) {k : Int} (hk : 0 ≤ k ∧ k ≤ 12) {i : Nat} (hi : i ≤ n) (hik : ¬ (i : Int) < k) (x5 : Int) (f : Nat) : Jc_bubbles_34 (f + 1) 0 n k (wy n i) x5 i s = Jc_bubbles_34 f 0 n k (wy n (i + 1)) (x5 + bT p n i) ((i : Int) + 1) s := by
  have c1 : ¬ w32 (n : Int) < w32 (i : Int) := by rw [w32_id (by omega) (by omega), w32_id (by omega) (by omega)]; omega
  have c2 : ¬ w32 (i : Int) < w32 k := by rw [w32_id (by omega) (by omega), w32_id (by omega) (by omega)]; omega
  have c3 : ¬ w64 (w32 ((i : Int) + 1)) = 0 := by rw [w32_id (by omega) (by omega), w64_id (by omega) (by omega)]; omega
  have c4 : w32 ((i : Int) + 1) = (i : Int) + 1 := w32_id (by omega) (by omega)
  have c5 : w32 ((n : Int) - i) = (n : Int) - i := w32_id (by omega) (by omega)
  have g1 := Jc_power_eq (b := p) (s := s) hp (k := (i : Int)) (by omega)
  have g2 := Jc_power_eq (b := 16 - p) (s := s) (by omega) (k := (n : Int) - i) (by omega)
  rw [Int.toNat_natCast] at g1
  rw [show ((n : Int) - i).toNat = n - i by omega] at g2
  have b1 : (0 : Int) ≤ n - i ∧ (n : Int) - i ≤ 12 := by omega
  have b2 : (1 : Int) ≤ i + 1 ∧ (i : Int) + 1 < 9223372036854775808 := by omega
  have b3 : (i : Nat) < 14 := by omega
  have a := wy_b n hn i b3
  have q1 : 0 ≤ wy n i * ((n : Int) - i) := Int.mul_nonneg a.1 b1.1
  have q2 : wy n i * ((n : Int) - i) ≤ 924 * 12 := Int.mul_le_mul a.2.1 b1.2 b1.1 (by decide)
  have hd := jldiv_e (a := wy n i * ((n : Int) - i)) (b := (i : Int) + 1) q1 (Int.lt_of_le_of_lt q2 (by decide)) b2.1 b2.2
  have hw : wy n (i + 1) = wy n i * ((n : Int) - i) / ((i : Int) + 1) := rfl
  have hb : bT p n i = wy n i * pw p i * pw (16 - p) (n - i) := by
    unfold bT
    rw [Int.mul_assoc]
  rw [Jc_bubbles_34, if_neg c1, if_neg c2, if_pos hj, h1, g1, jb_t, if_pos hj, h1, g2, jb_t, Jc_bubbles_83, if_pos c3, c4, c5, hd, hw, hb]
theorem bubC {s : jM} (hj : jok 3 (s 0 5) = true) {p : Int} (hp : 0 ≤ p ∧ p ≤ 16) (h1 : s (s 0 5) 1 = p) {n : Nat} (hn : n < 13) {k : Int} (hk : 0 ≤ k ∧ k ≤ 12) : ∀ (m f i : Nat), i + m = n + 1 → m < f → Jc_bubbles_34 f 0 n k (wy n i) (psum (bG p n k) i) i s = jb (Jc_tell 0 (psum (bG p n k) (n + 1)) (pw 16 n) s) fun v2 s2 => if v2 = 0 ∨ v2 = 1 then some (v2, s2) else none := by
  intro m
  induction m with
  | zero =>
    intro f i h2 h3
    obtain ⟨f, rfl⟩ : ∃ g, f = g + 1 := ⟨f - 1, by omega⟩
    have e : i = n + 1 := by omega
    subst e
    have hc : ((n + 1 : Nat) : Int) = (n : Int) + 1 := by omega
    rw [hc, bubC_0 hn]
  | succ m ih =>
    intro f i h2 h3
    obtain ⟨f, rfl⟩ : ∃ g, f = g + 1 := ⟨f - 1, by omega⟩
    have hps : psum (bG p n k) (i + 1) = psum (bG p n k) i + bG p n k i := rfl
    have hi := ih f (i + 1) (by omega) (by omega)
    have hc : ((i + 1 : Nat) : Int) = (i : Int) + 1 := by omega
    rw [hc, hps] at hi
    by_cases hik : (i : Int) < k
    · have hg : bG p n k i = 0 := by
        unfold bG
        rw [if_pos hik]
      rw [hg, Int.add_zero] at hi
      rw [bubC_1 hn hk (by omega) hik, hi]
    · have hg : bG p n k i = bT p n i := by
        unfold bG
        rw [if_neg hik, Int.toNat_natCast]
      rw [hg] at hi
      rw [bubC_2 hj hp h1 hn hk (by omega) hik, hi]
/-! the reference's -/
def a169 (a _j : Int) : Prop := a = 169
theorem bub_45 {x0 n k : Int} : ∀ (f : Nat) (i : Int) (s : jM), 0 ≤ i → i ≤ 13 → (13 - i).toNat < f → (∀ j, 0 ≤ j → j < i → s 169 j = if j = 0 then 1 else 0) → ∃ t, Md_bubbles_45 f 155 n k x0 i s = Md_bubbles_78 jFU 155 n k x0 0 t ∧ EX a169 s t ∧ ∀ j, 0 ≤ j → j < 13 → t 169 j = if j = 0 then 1 else 0 := by
  intro f
  induction f with
  | zero => intro i s h1 h2 h3; omega
  | succ f ih =>
    intro i s h1 h2 h3 h4
    by_cases hi : i ≤ 12
    · by_cases h0 : i = 0
      · obtain ⟨t, t1, t2, t3⟩ := ih (i + 1) (jup s 169 i 1) (by omega) (by omega) (by omega) (fun j j1 j2 => by
          have : j = i := by omega
          rw [u_eq ⟨rfl, this⟩, if_pos (by omega)])
        refine ⟨t, ?_, EX.tr ((EX.rf _ _).up rfl) t2, t3⟩
        rw [Md_bubbles_45]
        simp (disch := omega) only [↓jb_m, ↓jm_s, ↓reduceIte, t_lt, t_nlt, t_le, t_nle, t_eq, t_neq, w32_id, w64_id, jb_s, and_true, true_and, and_self, and_false, false_and, or_true, true_or, or_false, false_or, or_self, not_false_eq_true, not_true_eq_false, u_ne, u_eq, u_u, Int.reduceAdd, Int.reduceSub, Int.reduceMul, Int.reduceNeg, Int.zero_add, Int.add_zero, n15, n16, q10, q11, q12, q13, q14]
        exact t1
      · obtain ⟨t, t1, t2, t3⟩ := ih (i + 1) (jup s 169 i 0) (by omega) (by omega) (by omega) (fun j j1 j2 => by
          by_cases e : j = i
          · rw [u_eq ⟨rfl, e⟩, if_neg (by omega)]
          · rw [u_ne (by omega)]; exact h4 j j1 (by omega))
        refine ⟨t, ?_, EX.tr ((EX.rf _ _).up rfl) t2, t3⟩
        rw [Md_bubbles_45]
        simp (disch := omega) only [↓jb_m, ↓jm_s, ↓reduceIte, t_lt, t_nlt, t_le, t_nle, t_eq, t_neq, w32_id, w64_id, jb_s, and_true, true_and, and_self, and_false, false_and, or_true, true_or, or_false, false_or, or_self, not_false_eq_true, not_true_eq_false, u_ne, u_eq, u_u, Int.reduceAdd, Int.reduceSub, Int.reduceMul, Int.reduceNeg, Int.zero_add, Int.add_zero, n15, n16, q10, q11, q12, q13, q14]
        exact t1
    · refine ⟨s, ?_, EX.rf _ _, fun j j1 j2 => h4 j j1 (by omega)⟩
      rw [Md_bubbles_45]
      simp (disch := omega) only [↓jb_m, ↓jm_s, ↓reduceIte, t_lt, t_nlt, t_le, t_nle, t_eq, t_neq, w32_id, w64_id, jb_s, and_true, true_and, and_self, and_false, false_and, or_true, true_or, or_false, false_or, or_self, not_false_eq_true, not_true_eq_false, u_ne, u_eq, u_u, Int.reduceAdd, Int.reduceSub, Int.reduceMul, Int.reduceNeg, Int.zero_add, Int.add_zero, n15, n16, q10, q11, q12, q13, q14]
theorem bub_88 {x0 n k d p : Int} {D : Nat} {k78 : Int → Int → Int → Int → Int → jM → Option (Int × jM)} (hp : 0 ≤ p ∧ p ≤ 16) (hD : D < 12) : ∀ (f : Nat) (i : Int) (s : jM), s 160 4 = p → 0 ≤ i → i ≤ 12 → i.toNat < f → (∀ j, 0 ≤ j → j ≤ i → s 169 j = bT p D j.toNat) → (∀ j, i < j → j < 13 → s 169 j = bT p (D + 1) j.toNat) → ∃ t, Md_bubbles_88 k78 f 155 n k x0 d i s = k78 155 n k (x0 * 16) (d + 1) t ∧ EX a169 s t ∧ ∀ j, 0 ≤ j → j < 13 → t 169 j = bT p (D + 1) j.toNat := by
  intro f
  induction f with
  | zero => intro i s h0 h1 h2 h3; omega
  | succ f ih =>
    intro i s h0 h1 h2 h3 h4 h5
    by_cases hi : 0 < i
    · have e1 := h4 i (by omega) (by omega)
      have e2 := h4 (i - 1) (by omega) (by omega)
      have hs := bT_s (p := p) (n := D) (i := (i - 1).toNat) hD (by omega)
      rw [show (i - 1).toNat + 1 = i.toNat by omega] at hs
      obtain ⟨t, t1, t2, t3⟩ := ih (i - 1) (jup s 169 i (bT p D i.toNat * (16 - p) + bT p D (i - 1).toNat * p)) (by rw [u_ne (by omega)]; exact h0) (by omega) (by omega) (by omega) (fun j j1 j2 => by rw [u_ne (by omega)]; exact h4 j j1 (by omega)) (fun j j1 j2 => by
        by_cases e : j = i
        · rw [u_eq ⟨rfl, e⟩, e, hs]
        · rw [u_ne (by omega)]; exact h5 j (by omega) j2)
      refine ⟨t, ?_, EX.tr ((EX.rf _ _).up rfl) t2, t3⟩
      rw [Md_bubbles_88]
      simp (disch := omega) only [↓jb_m, ↓jm_s, ↓reduceIte, t_lt, t_nlt, t_le, t_nle, t_eq, t_neq, w32_id, w64_id, jb_s, and_true, true_and, and_self, and_false, false_and, or_true, true_or, or_false, false_or, or_self, not_false_eq_true, not_true_eq_false, u_ne, u_eq, u_u, Int.reduceAdd, Int.reduceSub, Int.reduceMul, Int.reduceNeg, Int.zero_add, Int.add_zero, n15, n16, q10, q11, q12, q13, q14, h0, e1, e2]
      rw [show i + -1 = i - 1 by omega]
      exact t1
    · have e : i = 0 := by omega
      subst e
      have e1 := h4 0 (by omega) (by omega)
      refine ⟨jup s 169 0 (bT p D 0 * (16 - p)), ?_, (EX.rf _ _).up rfl, fun j j1 j2 => ?_⟩
      · rw [Md_bubbles_88]
        simp (disch := omega) only [↓jb_m, ↓jm_s, ↓reduceIte, t_lt, t_nlt, t_le, t_nle, t_eq, t_neq, w32_id, w64_id, jb_s, and_true, true_and, and_self, and_false, false_and, or_true, true_or, or_false, false_or, or_self, not_false_eq_true, not_true_eq_false, u_ne, u_eq, u_u, Int.reduceAdd, Int.reduceSub, Int.reduceMul, Int.reduceNeg, Int.zero_add, Int.add_zero, n15, n16, q10, q11, q12, q13, q14, h0, e1]
        rfl
      · by_cases e : j = 0
        · rw [u_eq ⟨rfl, e⟩, e]
          exact bT_s0.symm
        · rw [u_ne (by omega)]
          exact h5 j (by omega) j2
theorem bub_78 {k p : Int} {n : Nat} (hp : 0 ≤ p ∧ p ≤ 16) (hn : n < 13) : ∀ (m f D : Nat) (s : jM), D + m = n → m < f → s 160 4 = p → (∀ j, 0 ≤ j → j < 13 → s 169 j = bT p D j.toNat) → ∃ t, Md_bubbles_78 f 155 n k (pw 16 D) D s = Md_bubbles_179 jFU 155 (pw 16 n) 0 k t ∧ EX a169 s t ∧ ∀ j, 0 ≤ j → j < 13 → t 169 j = bT p n j.toNat := by
  intro m
  induction m with
  | zero =>
    intro f D s h1 h2 h3 h4
    obtain ⟨f, rfl⟩ : ∃ g, f = g + 1 := ⟨f - 1, by omega⟩
    have e : D = n := by omega
    subst e
    refine ⟨s, ?_, EX.rf _ _, h4⟩
    rw [Md_bubbles_78]
    simp (disch := omega) only [↓jb_m, ↓jm_s, ↓reduceIte, t_lt, t_nlt, t_le, t_nle, t_eq, t_neq, w32_id, w64_id, jb_s, and_true, true_and, and_self, and_false, false_and, or_true, true_or, or_false, false_or, or_self, not_false_eq_true, not_true_eq_false, u_ne, u_eq, u_u, Int.reduceAdd, Int.reduceSub, Int.reduceMul, Int.reduceNeg, Int.zero_add, Int.add_zero, n15, n16, q10, q11, q12, q13, q14]
  | succ m ih =>
    intro f D s h1 h2 h3 h4
    obtain ⟨f, rfl⟩ : ∃ g, f = g + 1 := ⟨f - 1, by omega⟩
    obtain ⟨t, t1, t2, t3⟩ := bub_88 (x0 := pw 16 D) (n := n) (k := k) (d := D) (k78 := Md_bubbles_78 f) hp (D := D) (by omega) jFU 12 s h3 (by omega) (by omega) (by unfold jFU; omega) (fun j j1 j2 => h4 j j1 (by omega)) (fun j j1 j2 => by omega)
    obtain ⟨v, v1, v2, v3⟩ := ih f (D + 1) t (by omega) (by omega) (by rw [t2 160 4 (by unfold a169; omega)]; exact h3) t3
    have hc : ((D + 1 : Nat) : Int) = (D : Int) + 1 := by omega
    have hw : pw 16 (D + 1) = pw 16 D * 16 := rfl
    rw [hc, hw] at v1
    refine ⟨v, ?_, t2.tr v2, v3⟩
    rw [Md_bubbles_78]
    simp (disch := omega) only [↓jb_m, ↓jm_s, ↓reduceIte, t_lt, t_nlt, t_le, t_nle, t_eq, t_neq, w32_id, w64_id, jb_s, and_true, true_and, and_self, and_false, false_and, or_true, true_or, or_false, false_or, or_self, not_false_eq_true, not_true_eq_false, u_ne, u_eq, u_u, Int.reduceAdd, Int.reduceSub, Int.reduceMul, Int.reduceNeg, Int.zero_add, Int.add_zero, n15, n16, q10, q11, q12, q13, q14]
    rw [t1]
    exact v1
theorem bub_179 {k p b : Int} {n : Nat} (hn : n < 13) (hk : 0 ≤ k ∧ k ≤ 12) {s : jM} (h : ∀ j, 0 ≤ j → j < 13 → s 169 j = bT p n j.toNat) : ∀ (m f i : Nat), i + m = 13 → m < f → k ≤ i → Md_bubbles_179 f 155 b (psum (bG p n k) i) i s = jb (Md_fraction 155 (psum (bG p n k) 13) b s) fun v1 s1 => if v1 = 0 ∨ v1 = 1 then some (v1, s1) else none := by
  intro m
  induction m with
  | zero =>
    intro f i h1 h2 h3
    obtain ⟨f, rfl⟩ : ∃ g, f = g + 1 := ⟨f - 1, by omega⟩
    have e : i = 13 := by omega
    subst e
    have hlt : 12 < w32 ((13 : Nat) : Int) := by decide
    rw [Md_bubbles_179, if_pos hlt]
  | succ m ih =>
    intro f i h1 h2 h3
    obtain ⟨f, rfl⟩ : ∃ g, f = g + 1 := ⟨f - 1, by omega⟩
    have hps : psum (bG p n k) (i + 1) = psum (bG p n k) i + bG p n k i := rfl
    have hg : bG p n k i = bT p n i := by
      unfold bG
      rw [if_neg (by omega), Int.toNat_natCast]
    have hi := ih f (i + 1) (by omega) (by omega) (by omega)
    have hc : ((i + 1 : Nat) : Int) = (i : Int) + 1 := by omega
    rw [hc, hps, hg] at hi
    have e1 := h i (by omega) (by omega)
    rw [Int.toNat_natCast] at e1
    rw [Md_bubbles_179]
    simp (disch := omega) only [↓jb_m, ↓jm_s, ↓reduceIte, t_lt, t_nlt, t_le, t_nle, t_eq, t_neq, w32_id, w64_id, jb_s, and_true, true_and, and_self, and_false, false_and, or_true, true_or, or_false, false_or, or_self, not_false_eq_true, not_true_eq_false, u_ne, u_eq, u_u, Int.reduceAdd, Int.reduceSub, Int.reduceMul, Int.reduceNeg, Int.zero_add, Int.add_zero, n15, n16, q10, q11, q12, q13, q14, e1]
    exact hi
theorem bub_ge {m : Nat} (h : m < 400) : m < jFU := Nat.lt_of_lt_of_le h (jFU_ge (by decide))
theorem bub_cf {s : jM} (hj : jok 3 (s 0 5) = true) {p : Int} (hp : 0 ≤ p ∧ p ≤ 16) (h1 : s (s 0 5) 1 = p) {n : Nat} (hn : n < 13) {k : Int} (hk : 0 ≤ k ∧ k ≤ 12) {x y : Int} (t1 : ∀ s : jM, Jc_tell 0 (psum (bG p n k) (n + 1)) (pw 16 n) s = some (1, jup (jup (jup s 0 1 x) 0 2 y) 0 0 0)) : Jc_bubbles 0 n k s = some (1, jup (jup (jup s 0 1 x) 0 2 y) 0 0 0) := by
  have b1 : n + 1 < jFU := bub_ge (by omega)
  have c1 : ¬ w32 (n : Int) < 0 := by rw [w32_id (by omega) (by omega)]; omega
  have c2 : ¬ 12 < w32 (n : Int) := by rw [w32_id (by omega) (by omega)]; omega
  have c3 : ¬ w32 k < 0 := by rw [w32_id (by omega) (by omega)]; omega
  have c4 : ¬ 12 < w32 k := by rw [w32_id (by omega) (by omega)]; omega
  have hC := bubC (s := s) hj hp h1 hn hk (n + 1) jFU 0 (by omega) b1
  rw [t1, jb_t, if_pos (Or.inr rfl)] at hC
  rw [Jc_bubbles, if_neg c1, if_neg c2, if_neg c3, if_neg c4]
  exact hC
theorem isIn_y {a l u : Int} {s : jM} (h : 0 ≤ l) (h1 : l ≤ a) (h2 : a ≤ u) (h3 : u < 2147483648) : Md_isIn a l u s = some (1, s) := by
  simp (disch := omega) only [↓jb_m, ↓jm_s, ↓reduceIte, t_lt, t_nlt, t_le, t_nle, t_eq, t_neq, w32_id, w64_id, jb_s, and_true, true_and, and_self, and_false, false_and, or_true, true_or, or_false, false_or, or_self, not_false_eq_true, not_true_eq_false, u_ne, u_eq, u_u, Int.reduceAdd, Int.reduceSub, Int.reduceMul, Int.reduceNeg, Int.zero_add, Int.add_zero, n15, n16, q10, q11, q12, q13, q14, Md_isIn_1]
theorem bub_mf {s : jM} {p : Int} (hp : 0 ≤ p ∧ p ≤ 16) {n : Nat} (hn : n < 13) {k : Nat} (hk : k < 13) {x y : Int} (h4 : s 160 4 = p) (t2 : ∀ u : jM, Md_fraction 155 (psum (bG p n k) (n + 1)) (pw 16 n) u = some (1, jup (jup u 155 2 x) 155 3 y)) : ∃ v, Md_bubbles 155 n k s = some (1, jup (jup v 155 2 x) 155 3 y) ∧ EX a169 (jup (jup s 155 1 0) 155 0 0) v := by
  have b1 : n < jFU := bub_ge (by omega)
  have b2 : 13 - k < jFU := bub_ge (by omega)
  have c1 : w32 (n : Int) = n := w32_id (by omega) (by omega)
  have c2 : w32 (k : Int) = k := w32_id (by omega) (by omega)
  have i1 : ∀ v, Md_isIn (n : Int) 0 12 v = some (1, v) := fun v => isIn_y (by omega) (by omega) (by omega) (by omega)
  have i2 : ∀ v, Md_isIn (k : Int) 0 12 v = some (1, v) := fun v => isIn_y (by omega) (by omega) (by omega) (by omega)
  have c3 : ¬ w32 1 = 0 := by decide
  have j1 : (13 - (0 : Int)).toNat < jFU := bub_ge (by decide)
  have kk : (0 : Int) ≤ k ∧ (k : Int) ≤ 12 := by omega
  have kz : k + (13 - k) = 13 := by omega
  have kt : n + 1 + (12 - n) = 13 := by omega
  have kt2 : n + 1 + (12 - n) < 15 := by omega
  obtain ⟨u, hu⟩ : ∃ u, u = jup (jup s 155 1 0) 155 0 0 := ⟨_, rfl⟩
  have hu4 : u 160 4 = p := by rw [hu, u_ne (by omega), u_ne (by omega)]; exact h4
  obtain ⟨v1, a1, a2, a3⟩ := bub_45 (x0 := 1) (n := n) (k := k) jFU 0 u (by omega) (by omega) j1 (fun j j1 j2 => by omega)
  have hv1 : v1 160 4 = p := by rw [a2 160 4 (by unfold a169; omega)]; exact hu4
  have hv2 : ∀ j : Int, 0 ≤ j → j < 13 → v1 169 j = bT p 0 j.toNat := fun j j1 j2 => by
    have d1 : j.toNat < 14 := by omega
    have d2 : ¬ j = 0 → 0 < j.toNat := by omega
    rw [a3 j j1 j2]
    by_cases e : j = 0
    · rw [if_pos e, e]
      rfl
    · rw [if_neg e, bT_0 (by decide) d1 (d2 e)]
  obtain ⟨v2, b1', b2', b3⟩ := bub_78 (k := k) (p := p) (n := n) hp hn n jFU 0 v1 (Nat.zero_add n) b1 hv1 hv2
  have z0 : ∀ m : Nat, m ≤ k → psum (bG p n k) m = 0 := fun m => by
    induction m with
    | zero => intro _; rfl
    | succ m ih =>
      intro hm
      have d1 : m ≤ k := by omega
      have d2 : (m : Int) < k := by omega
      show psum (bG p n k) m + bG p n k m = 0
      rw [ih d1]
      unfold bG
      rw [if_pos d2]
      rfl
  have hR := bub_179 (p := p) (b := pw 16 n) hn kk b3 (13 - k) jFU k kz b2 (Int.le_refl _)
  have htl := bG_tail (p := p) (k := k) hn (12 - n) kt2
  rw [kt] at htl
  rw [z0 k (Nat.le_refl _), htl, t2, jb_t, if_pos (Or.inr rfl)] at hR
  refine ⟨v2, ?_, by rw [← hu]; exact a2.tr b2'⟩
  rw [Md_bubbles, c1, i1, jb_t, if_neg c3, c2, i2, jb_t, if_neg c3, ← hu, a1]
  exact b1'.trans hR
theorem bubbles_ok {s : jM} (h : INV s) {n k : Int} (hn : i32 n) (hk : i32 k) : OKc s (Jc_bubbles 0 n k) (Md_bubbles 155 n k) := by
  unfold i32 at hn hk
  obtain ⟨hb, hj, hj2, -⟩ := h.b
  have hse := h.2.2.2.2.2.1.1
  have hd := hd_at hse
  have e1 : s (s 0 5) 1 = s 160 4 := hd.1.2.1
  have hp : 0 ≤ s 160 4 ∧ s 160 4 ≤ 16 := by omega
  clear hd
  by_cases hv : 0 ≤ n ∧ n ≤ 12
  rotate_left
  · rcases (by omega : n < 0 ∨ 12 < n) with q | q
    · exact OKc.no (w := 5) (r := 0) h (by simp (disch := omega) only [↓jb_m, ↓jm_s, ↓reduceIte, t_lt, t_nlt, t_le, t_nle, t_eq, t_neq, w32_id, w64_id, jb_s, and_true, true_and, and_self, and_false, false_and, or_true, true_or, or_false, false_or, or_self, not_false_eq_true, not_true_eq_false, u_ne, u_eq, u_u, Int.reduceAdd, Int.reduceSub, Int.reduceMul, Int.reduceNeg, Int.zero_add, Int.add_zero, n15, n16, q10, q11, q12, q13, q14, Jc_bubbles, Jc_answer, Jc_refuse, Jc_deny, Jc_grant, Se_isMould, Se_isStuff, Se_isPlace, hj]) (by simp (disch := omega) only [↓jb_m, ↓jm_s, ↓reduceIte, t_lt, t_nlt, t_le, t_nle, t_eq, t_neq, w32_id, w64_id, jb_s, and_true, true_and, and_self, and_false, false_and, or_true, true_or, or_false, false_or, or_self, not_false_eq_true, not_true_eq_false, u_ne, u_eq, u_u, Int.reduceAdd, Int.reduceSub, Int.reduceMul, Int.reduceNeg, Int.zero_add, Int.add_zero, n15, n16, q10, q11, q12, q13, q14, Md_bubbles, Md_isMouldAt, Md_isStuffAt, Md_isPlaceAt, Md_isTray, Md_isIn_1, Md_isIn_0, Md_refuse, Md_no])
    · exact OKc.no (w := 5) (r := 0) h (by simp (disch := omega) only [↓jb_m, ↓jm_s, ↓reduceIte, t_lt, t_nlt, t_le, t_nle, t_eq, t_neq, w32_id, w64_id, jb_s, and_true, true_and, and_self, and_false, false_and, or_true, true_or, or_false, false_or, or_self, not_false_eq_true, not_true_eq_false, u_ne, u_eq, u_u, Int.reduceAdd, Int.reduceSub, Int.reduceMul, Int.reduceNeg, Int.zero_add, Int.add_zero, n15, n16, q10, q11, q12, q13, q14, Jc_bubbles, Jc_answer, Jc_refuse, Jc_deny, Jc_grant, Se_isMould, Se_isStuff, Se_isPlace, hj]) (by simp (disch := omega) only [↓jb_m, ↓jm_s, ↓reduceIte, t_lt, t_nlt, t_le, t_nle, t_eq, t_neq, w32_id, w64_id, jb_s, and_true, true_and, and_self, and_false, false_and, or_true, true_or, or_false, false_or, or_self, not_false_eq_true, not_true_eq_false, u_ne, u_eq, u_u, Int.reduceAdd, Int.reduceSub, Int.reduceMul, Int.reduceNeg, Int.zero_add, Int.add_zero, n15, n16, q10, q11, q12, q13, q14, Md_bubbles, Md_isMouldAt, Md_isStuffAt, Md_isPlaceAt, Md_isTray, Md_isIn_1, Md_isIn_0, Md_refuse, Md_no])
  by_cases hv2 : 0 ≤ k ∧ k ≤ 12
  rotate_left
  · rcases (by omega : k < 0 ∨ 12 < k) with q | q
    · exact OKc.no (w := 5) (r := 0) h (by simp (disch := omega) only [↓jb_m, ↓jm_s, ↓reduceIte, t_lt, t_nlt, t_le, t_nle, t_eq, t_neq, w32_id, w64_id, jb_s, and_true, true_and, and_self, and_false, false_and, or_true, true_or, or_false, false_or, or_self, not_false_eq_true, not_true_eq_false, u_ne, u_eq, u_u, Int.reduceAdd, Int.reduceSub, Int.reduceMul, Int.reduceNeg, Int.zero_add, Int.add_zero, n15, n16, q10, q11, q12, q13, q14, Jc_bubbles, Jc_answer, Jc_refuse, Jc_deny, Jc_grant, Se_isMould, Se_isStuff, Se_isPlace, hj]) (by simp (disch := omega) only [↓jb_m, ↓jm_s, ↓reduceIte, t_lt, t_nlt, t_le, t_nle, t_eq, t_neq, w32_id, w64_id, jb_s, and_true, true_and, and_self, and_false, false_and, or_true, true_or, or_false, false_or, or_self, not_false_eq_true, not_true_eq_false, u_ne, u_eq, u_u, Int.reduceAdd, Int.reduceSub, Int.reduceMul, Int.reduceNeg, Int.zero_add, Int.add_zero, n15, n16, q10, q11, q12, q13, q14, Md_bubbles, Md_isMouldAt, Md_isStuffAt, Md_isPlaceAt, Md_isTray, Md_isIn_1, Md_isIn_0, Md_refuse, Md_no])
    · exact OKc.no (w := 5) (r := 0) h (by simp (disch := omega) only [↓jb_m, ↓jm_s, ↓reduceIte, t_lt, t_nlt, t_le, t_nle, t_eq, t_neq, w32_id, w64_id, jb_s, and_true, true_and, and_self, and_false, false_and, or_true, true_or, or_false, false_or, or_self, not_false_eq_true, not_true_eq_false, u_ne, u_eq, u_u, Int.reduceAdd, Int.reduceSub, Int.reduceMul, Int.reduceNeg, Int.zero_add, Int.add_zero, n15, n16, q10, q11, q12, q13, q14, Jc_bubbles, Jc_answer, Jc_refuse, Jc_deny, Jc_grant, Se_isMould, Se_isStuff, Se_isPlace, hj]) (by simp (disch := omega) only [↓jb_m, ↓jm_s, ↓reduceIte, t_lt, t_nlt, t_le, t_nle, t_eq, t_neq, w32_id, w64_id, jb_s, and_true, true_and, and_self, and_false, false_and, or_true, true_or, or_false, false_or, or_self, not_false_eq_true, not_true_eq_false, u_ne, u_eq, u_u, Int.reduceAdd, Int.reduceSub, Int.reduceMul, Int.reduceNeg, Int.zero_add, Int.add_zero, n15, n16, q10, q11, q12, q13, q14, Md_bubbles, Md_isMouldAt, Md_isStuffAt, Md_isPlaceAt, Md_isTray, Md_isIn_1, Md_isIn_0, Md_refuse, Md_no])
  obtain ⟨N, rfl⟩ : ∃ N : Nat, n = N := ⟨n.toNat, by omega⟩
  obtain ⟨K, rfl⟩ : ∃ K : Nat, k = K := ⟨k.toNat, by omega⟩
  have hN : N < 13 := by omega
  have hK : K < 13 := by omega
  have hN1 : N + 1 < 14 := by omega
  have hN2 : 260082878480646144 * ((N + 1 : Nat) : Int) ≤ 260082878480646144 * 13 := by omega
  clear hn hk hv hb hj2
  have hB := bG_b (k := K) hp hN (N + 1) hN1
  have hp16 := pw16_b N hN
  obtain ⟨x, y, t1, t2⟩ := tell_eq (a := psum (bG (s 160 4) N K) (N + 1)) (b := pw 16 N) ⟨hB.1, Int.lt_of_le_of_lt (Int.le_trans hB.2 hN2) (by decide)⟩ ⟨hp16.1, Int.lt_of_le_of_lt hp16.2 (by decide)⟩
  have hf := bub_cf hj hp e1 hN hv2 t1
  have hs4 : jup (jup (jup s 0 1 x) 0 2 y) 0 0 0 160 4 = s 160 4 := by rw [u_ne (by decide), u_ne (by decide), u_ne (by decide)]
  obtain ⟨v, v1, v2⟩ := bub_mf hp hN hK hs4 t2
  exact OKc.fr (u := s) (x := x) (y := y) (v := v) h hf v1 (v2.wk (fun a b z => by unfold a169 at z; omega))
