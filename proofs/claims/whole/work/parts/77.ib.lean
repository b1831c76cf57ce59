/-! what was read stands where the See that is now stands -/
theorem PATH_cg {c c' : Int → Int} (h8 : c' 8 = c 8) (hb : c 8 ≤ 10) (e : ∀ o, 24 ≤ o → o < 54 → c' o = c o) : ∀ (n : Nat) (S p q : Int), PATH c' n S p q → PATH c n S p q := by
  intro n
  induction n with
  | zero => intro S p q h; exact h
  | succ n ih =>
    intro S p q h
    obtain ⟨r, z, ⟨x, x1, x2, x3, x4⟩, h2⟩ := h
    rw [h8] at x2
    rw [e _ (by omega) (by omega), e _ (by omega) (by omega)] at x3
    rw [e _ (by omega) (by omega)] at x4
    exact ⟨r, z, ⟨x, x1, x2, x3, x4⟩, ih _ _ _ h2⟩
theorem MINP_cg {k far : Int} {d c c' : Int → Int} (h8 : c' 8 = c 8) (hb : c 8 ≤ 10) (e : ∀ o, 24 ≤ o → o < 54 → c' o = c o) (h : MINP k far d c) : MINP k far d c' := by
  have f1 := PATH_cg h8 hb e
  have f2 := PATH_cg (c := c') (c' := c) h8.symm (by omega) (fun o o1 o2 => (e o o1 o2).symm)
  intro p q p1 p2 q1 q2
  obtain ⟨a, b⟩ := h p q p1 p2 q1 q2
  refine ⟨fun n S hp => a n S (f1 n S p q hp), ?_⟩
  rcases b with ⟨b1, b2⟩ | ⟨n, S, b1, b2⟩
  · exact Or.inl ⟨b1, fun n S hp => b2 n S (f1 n S p q hp)⟩
  · exact Or.inr ⟨n, S, f2 n S p q b1, b2⟩
theorem WKS_cg {c c' : Int → Int} (h8 : c' 8 = c 8) (hb : c 8 ≤ 10) (h1 : c' 1 = c 1) (e : ∀ o, 24 ≤ o → o < 54 → c' o = c o) (h : WKS c) : WKS c' := by
  intro x x1 x2
  rw [h8] at x2
  rw [e (24 + x) (by omega) (by omega), e (34 + x) (by omega) (by omega), e (44 + x) (by omega) (by omega), h1]
  exact h x x1 x2
theorem iB_of {B : Int} (hB : B = 30 ∨ B = 55) {s u v : jM} (h : RDs B s u) (F : ∀ a b, B ≤ a → a < B + 25 → a ≠ B + 5 → v a b = s a b) (hM : MINP 64 1000000 (v (B + 5)) (cR u)) (Gc : ∀ o, 0 ≤ o → o < 381 → v 160 o = u 160 (1524 + o)) (Gw : ∀ i, 0 ≤ i → i < 16 → v 163 i = u 163 (64 + i)) : iB (vw v B) (cw v 0) (ww v 0) := by
  have bd := RS_b h
  obtain ⟨-, r2, r3, r4, r5, ⟨r6, -⟩, r7⟩ := h
  have cc : ∀ o, 0 ≤ o → o < 381 → cw v 0 o = u 160 (1524 + o) := fun o a b => by rw [cw_at ⟨a, b⟩]; exact Gc o a b
  have V0 : ∀ b, vw v B 0 b = s B b := fun b => by rw [vw_at (by omega), Int.add_zero]; exact F _ _ (by omega) (by omega) (by omega)
  have VV : ∀ i b, 0 ≤ i → i < 25 → i ≠ 5 → vw v B i b = s (B + i) b := fun i b a1 a2 a3 => by rw [vw_at (by omega)]; exact F _ _ (by omega) (by omega) (by omega)
  have c0 : cw v 0 0 = u 160 1524 := cc 0 (by omega) (by omega)
  have c1 : cw v 0 1 = u 160 1525 := cc 1 (by omega) (by omega)
  have c2 : cw v 0 2 = u 160 1526 := cc 2 (by omega) (by omega)
  have c3 : cw v 0 3 = u 160 1527 := cc 3 (by omega) (by omega)
  have c4 : cw v 0 4 = u 160 1528 := cc 4 (by omega) (by omega)
  have c5 : cw v 0 5 = u 160 1529 := cc 5 (by omega) (by omega)
  have c6 : cw v 0 6 = u 160 1530 := cc 6 (by omega) (by omega)
  have c7 : cw v 0 7 = u 160 1531 := cc 7 (by omega) (by omega)
  have c8 : cw v 0 8 = u 160 1532 := cc 8 (by omega) (by omega)
  have z5 := r7.2.2 1529 (by omega)
  have z6 := r7.2.2 1530 (by omega)
  have z7 := r7.2.2 1531 (by omega)
  have zz : ∀ o, 69 ≤ o → o < 381 → cw v 0 o = 0 := fun o a b => by rw [cc o (by omega) b]; exact r7.2.2 _ (by omega)
  have hse : iSe (vw v B) (cw v 0) := by
    refine ⟨?_, fun j j1 j2 => ?_, fun i i1 i2 => ?_, fun i i1 i2 => zz _ (by omega) (by omega), ?_⟩
    · unfold iHd
      rw [V0, V0, V0, V0, V0, V0, V0, V0, c0, c1, c2, c3, c4, c5, c6, c8]
      unfold RHd at r2
      omega
    · rw [c0] at j2
      have := r4 j j1 j2
      unfold iSt
      rw [VV 1 j (by omega) (by omega) (by omega), VV 2 j (by omega) (by omega) (by omega), VV 3 j (by omega) (by omega) (by omega), cc (9 + j) (by omega) (by omega), cc (14 + j) (by omega) (by omega), cc (19 + j) (by omega) (by omega), show 1524 + (9 + j) = 1533 + j by omega, show 1524 + (14 + j) = 1538 + j by omega, show 1524 + (19 + j) = 1543 + j by omega]
      omega
    · rw [c2] at i2
      obtain ⟨⟨h1, h2, h3⟩, h4, h5, h6⟩ := r5 i i1 i2
      have mc : mcnt (cw v 0) i = 0 := sum5_0 (fun j j1 j2 => zz _ (by omega) (by omega))
      have ms : mstr (cw v 0) i = 0 := sum5_0 (fun j j1 j2 => by
        show cw v 0 (84 + 5 * i + j) * cw v 0 (9 + j) = 0
        rw [zz (84 + 5 * i + j) (by omega) (by omega), Int.zero_mul])
      have w : ∀ b, vw v B (15 + 2 * i) b = s (B + (15 + 2 * i)) b := fun b => VV _ b (by omega) (by omega) (by omega)
      have k1 : cw v 0 (54 + i) = u 160 (1578 + i) := by rw [cc (54 + i) (by omega) (by omega), show 1524 + (54 + i) = 1578 + i by omega]
      have k2 : cw v 0 (59 + i) = u 160 (1583 + i) := by rw [cc (59 + i) (by omega) (by omega), show 1524 + (59 + i) = 1583 + i by omega]
      have k3 : cw v 0 (64 + i) = u 160 (1588 + i) := by rw [cc (64 + i) (by omega) (by omega), show 1524 + (64 + i) = 1588 + i by omega]
      have k4 := zz (69 + i) (by omega) (by omega)
      have k5 := zz (74 + i) (by omega) (by omega)
      have k6 := zz (79 + i) (by omega) (by omega)
      refine ⟨?_, fun j j1 j2 => ?_, fun j j1 j2 j3 => zz _ (by omega) (by omega), ?_, ?_, ?_, ?_⟩
      · rw [w, w, w, w, w, w, w, w, k1, k2, k3, k4, k5, k6, ms, mc]
        exact ⟨h1, h2, h3, h5 3 (by omega) (by omega), h5 4 (by omega) (by omega), h5 5 (by omega) (by omega), h5 6 (by omega) (by omega), h5 7 (by omega) (by omega)⟩
      · rw [VV (16 + 2 * i) j (by omega) (by omega) (by omega), zz (84 + 5 * i + j) (by omega) (by omega)]
        exact ⟨h6 j j1 j2, Int.le_refl 0⟩
      · rw [k1, k2, k3, k4, k5, mc, ms, c1]
        omega
      · intro _
        exact ⟨mc, k5⟩
      · intro hh
        exact absurd k4 hh
      · intro hh
        rw [k4] at hh
        omega
    · rw [c7, z7]
      exact (sum5_0 (fun i i1 i2 => zz _ (by omega) (by omega))).symm
  refine ⟨hse, by rw [c5]; omega, ?_⟩
  have x0 : xV (vw v B) 0 8 = s B 8 := by rw [xV_at (by omega)]; exact V0 8
  have x5 : xV (vw v B) 5 = v (B + 5) := funext fun b => by rw [xV_at (by omega), vw_at (by omega)]
  have x6 : xV (vw v B) 6 = s (B + 6) := funext fun b => by rw [xV_at (by omega)]; exact VV _ b (by omega) (by omega) (by omega)
  have x7 : xV (vw v B) 7 = s (B + 7) := funext fun b => by rw [xV_at (by omega)]; exact VV _ b (by omega) (by omega) (by omega)
  have x8 : xV (vw v B) 8 = s (B + 8) := funext fun b => by rw [xV_at (by omega)]; exact VV _ b (by omega) (by omega) (by omega)
  have x9 : xV (vw v B) 9 = s (B + 9) := funext fun b => by rw [xV_at (by omega)]; exact VV _ b (by omega) (by omega) (by omega)
  have cx : ∀ o, (0 ≤ o ∧ o ≤ 2) ∨ o = 8 ∨ (24 ≤ o ∧ o < 54) ∨ (109 ≤ o ∧ o < 381) → xc (cw v 0) o = cR u o := fun o q => by rw [xc_at (by omega)]; exact cc o (by omega) (by omega)
  have e8 : xc (cw v 0) 8 = cR u 8 := cx 8 (by omega)
  have b8 : cR u 8 ≤ 10 := bd.2.2.2.2.2
  have ce : ∀ o, 24 ≤ o → o < 54 → xc (cw v 0) o = cR u o := fun o a b => cx o (by omega)
  unfold iX iY
  refine ⟨?_, by rw [x5]; exact MINP_cg e8 b8 ce hM, WKS_cg e8 b8 (cx 1 (by omega)) ce r6, ?_⟩
  · obtain ⟨n1, n2, n3, n4, n5⟩ := r3
    unfold NMS
    rw [x0, x6, x7, x8]
    refine ⟨?_, fun k k1 k2 => ?_, fun t j t1 t2 j1 j2 => ?_, n5⟩
    · rw [cx 0 (by omega), cx 1 (by omega), cx 2 (by omega)]; exact n1
    · obtain ⟨y1, y2, y3, y4, y5⟩ := n3 k k1 k2
      have yb := n2 (s (B + 7) k) y1 y2
      have nb := nfr_b ⟨y1, y2⟩ (j := s (B + 8) k) ⟨y3, by omega⟩
      rw [cx (s (B + 7) k) (by omega), ww_at nb, Gw _ nb.1 nb.2]
      exact ⟨y1, y2, y3, y4, y5⟩
    · rw [cx t (by omega)] at j2
      exact n4 t j t1 t2 j1 j2
  · unfold FST
    rw [x9]
    have e : xc (cw v 0) 109 = 0 := by rw [cx 109 (by omega)]; exact r7.2.2 1633 (by omega)
    exact Or.inl ⟨r7.1, e, r7.2.1⟩
/-! the beginning -/
def rB9 (B a b : Int) : Prop := (a = B ∧ 0 ≤ b ∧ b ≤ 8) ∨ a = B + 5 ∨ (a = B + 9 ∧ 0 ≤ b ∧ b ≤ 2)
theorem clr47 {B : Int} : ∀ (d f k : Nat) (s : jM), k + d = 36 → d < f → (∀ i, 0 ≤ i → i < (k : Int) → s (B + 5) i = if i % 7 = 0 then 0 else 1000000) → ∃ t, Se_clear_47 f B k s = some (0, jup (jup (jup t (B + 9) 0 0) (B + 9) 1 0) (B + 9) 2 0) ∧ (∀ i, 0 ≤ i → i < 36 → t (B + 5) i = if i % 7 = 0 then 0 else 1000000) ∧ EX (r5 B) s t := by
  intro d
  induction d with
  | zero =>
    intro f k s h1 h2 h3
    obtain ⟨f, rfl⟩ : ∃ g, f = g + 1 := ⟨f - 1, by omega⟩
    have e : k = 36 := by omega
    subst e
    exact ⟨s, by rw [Se_clear_47, if_neg (by decide), Fe_clear, jb_t], h3, EX.rf _ _⟩
  | succ d ih =>
    intro f k s h1 h2 h3
    obtain ⟨f, rfl⟩ : ∃ g, f = g + 1 := ⟨f - 1, by omega⟩
    have c1 : (k : Int) < 36 := by omega
    have c2 : (0 : Int) ≤ k ∧ (k : Int) < 36 := by omega
    have c3 : ((k + 1 : Nat) : Int) = (k : Int) + 1 := by omega
    have c4 : k < 1000 := by omega
    have jr : w32 (jrem k 7) = (k : Int) % 7 := by rw [jrem_e (by omega) (by omega) (by omega) (by omega), w32_id (by omega) (by omega)]
    have hd : Se_clear_47 (f + 1) B k s = Se_clear_47 f B ((k : Int) + 1) (jup s (B + 5) k (if (k : Int) % 7 = 0 then 0 else 1000000)) := by
      rw [Se_clear_47, w32n c4, if_pos c1, jr, if_pos c2]
      by_cases q : (k : Int) % 7 = 0
      · rw [if_pos q, if_pos q]
      · rw [if_neg q, if_neg q, if_pos c2]
    obtain ⟨t, t1, t2, t3⟩ := ih f (k + 1) (jup s (B + 5) k (if (k : Int) % 7 = 0 then 0 else 1000000)) (by omega) (by omega) (fun i i1 i2 => by
      by_cases q : i = k
      · rw [u_eq ⟨rfl, q⟩, q]
      · rw [u_ne (by omega)]; exact h3 i i1 (by omega))
    rw [c3] at t1
    exact ⟨t, by rw [hd]; exact t1, t2, EX.tr ((EX.rf (r5 B) s).up rfl) t3⟩
theorem clear_eq {B : Int} (s : jM) : ∃ t, Se_clear B s = some (0, t) ∧ EX (rB9 B) s t ∧ (t B 0 = 3 ∧ t B 1 = 2 ∧ (∀ b, 2 ≤ b → b ≤ 8 → t B b = 0)) ∧ (∀ i, 0 ≤ i → i < 36 → t (B + 5) i = if i % 7 = 0 then 0 else 1000000) ∧ t (B + 9) 0 = 0 ∧ t (B + 9) 2 = 0 := by
  obtain ⟨S, hS⟩ : ∃ S, S = jup (jup (jup (jup (jup (jup (jup (jup (jup s B 0 3) B 1 2) B 2 0) B 3 0) B 4 0) B 5 0) B 6 0) B 7 0) B 8 0 := ⟨_, rfl⟩
  obtain ⟨t, t1, t2, t3⟩ := clr47 (B := B) 36 jFU 0 S (by omega) (bub_ge (by omega)) (fun i i1 i2 => by omega)
  have SE : EX (rB9 B) s S := by
    rw [hS]
    exact (((((((((EX.rf _ _).up (Or.inl ⟨rfl, by omega, by omega⟩)).up (Or.inl ⟨rfl, by omega, by omega⟩)).up (Or.inl ⟨rfl, by omega, by omega⟩)).up (Or.inl ⟨rfl, by omega, by omega⟩)).up (Or.inl ⟨rfl, by omega, by omega⟩)).up (Or.inl ⟨rfl, by omega, by omega⟩)).up (Or.inl ⟨rfl, by omega, by omega⟩)).up (Or.inl ⟨rfl, by omega, by omega⟩)).up (Or.inl ⟨rfl, by omega, by omega⟩)
  refine ⟨_, by rw [Se_clear, ← hS]; exact t1, ?_, ⟨?_, ?_, fun b b1 b2 => ?_⟩, fun i i1 i2 => ?_, ?_, ?_⟩
  · exact (((SE.tr (t3.wk (fun a b q => Or.inr (Or.inl q)))).up (Or.inr (Or.inr ⟨rfl, by omega, by omega⟩))).up (Or.inr (Or.inr ⟨rfl, by omega, by omega⟩))).up (Or.inr (Or.inr ⟨rfl, by omega, by omega⟩))
  · rw [u_ne (by omega), u_ne (by omega), u_ne (by omega), t3 _ _ (by unfold r5; omega), hS]
    simp (disch := omega) only [↓jb_m, ↓jm_s, ↓reduceIte, t_lt, t_nlt, t_le, t_nle, t_eq, t_neq, w32_id, w64_id, jb_s, and_true, true_and, and_self, and_false, false_and, or_true, true_or, or_false, false_or, or_self, not_false_eq_true, not_true_eq_false, u_ne, u_eq, u_u, Int.reduceAdd, Int.reduceSub, Int.reduceMul, Int.reduceNeg, Int.zero_add, Int.add_zero, n15, n16, q10, q11, q12, q13, q14]
  · rw [u_ne (by omega), u_ne (by omega), u_ne (by omega), t3 _ _ (by unfold r5; omega), hS]
    simp (disch := omega) only [↓jb_m, ↓jm_s, ↓reduceIte, t_lt, t_nlt, t_le, t_nle, t_eq, t_neq, w32_id, w64_id, jb_s, and_true, true_and, and_self, and_false, false_and, or_true, true_or, or_false, false_or, or_self, not_false_eq_true, not_true_eq_false, u_ne, u_eq, u_u, Int.reduceAdd, Int.reduceSub, Int.reduceMul, Int.reduceNeg, Int.zero_add, Int.add_zero, n15, n16, q10, q11, q12, q13, q14]
  · rw [u_ne (by omega), u_ne (by omega), u_ne (by omega), t3 _ _ (by unfold r5; omega), hS]
    rcases (by omega : b = 2 ∨ b = 3 ∨ b = 4 ∨ b = 5 ∨ b = 6 ∨ b = 7 ∨ b = 8) with q | q | q | q | q | q | q <;> subst q <;> simp (disch := omega) only [↓jb_m, ↓jm_s, ↓reduceIte, t_lt, t_nlt, t_le, t_nle, t_eq, t_neq, w32_id, w64_id, jb_s, and_true, true_and, and_self, and_false, false_and, or_true, true_or, or_false, false_or, or_self, not_false_eq_true, not_true_eq_false, u_ne, u_eq, u_u, Int.reduceAdd, Int.reduceSub, Int.reduceMul, Int.reduceNeg, Int.zero_add, Int.add_zero, n15, n16, q10, q11, q12, q13, q14]
  · rw [u_ne (by omega), u_ne (by omega), u_ne (by omega)]; exact t2 i i1 i2
  · rw [u_ne (by omega), u_ne (by omega), u_eq ⟨rfl, rfl⟩]
  · rw [u_eq ⟨rfl, rfl⟩]
def r152 (a b : Int) : Prop := a = 160 ∧ 1524 ≤ b
theorem emp8 : ∀ (d f k : Nat) (u : jM), k + d = 381 → d < f → (∀ o, 1524 ≤ o → o < 1524 + (k : Int) → u 160 o = 0) → ∃ t, Md_empties_8 f 155 1524 k u = some (0, jup (jup t 160 1527 3) 160 1528 2) ∧ (∀ o, 1524 ≤ o → o < 1905 → t 160 o = 0) ∧ EX r152 u t := by
  intro d
  induction d with
  | zero =>
    intro f k u h1 h2 h3
    obtain ⟨f, rfl⟩ : ∃ g, f = g + 1 := ⟨f - 1, by omega⟩
    have e : k = 381 := by omega
    subst e
    refine ⟨u, ?_, fun o a b => h3 o a (by omega), EX.rf _ _⟩
    rw [Md_empties_8, if_neg (by decide), if_pos (by decide)]
    rfl
  | succ d ih =>
    intro f k u h1 h2 h3
    obtain ⟨f, rfl⟩ : ∃ g, f = g + 1 := ⟨f - 1, by omega⟩
    have c1 : (k : Int) < 381 := by omega
    have c3 : ((k + 1 : Nat) : Int) = (k : Int) + 1 := by omega
    have c4 : k < 1000 := by omega
    have c6 : w32 (1524 + (k : Int)) = 1524 + k := w32_id (by omega) (by omega)
    obtain ⟨t, t1, t2, t3⟩ := ih f (k + 1) (jup u 160 (1524 + k) 0) (by omega) (by omega) (fun o a b => by
      by_cases q : o = 1524 + k
      · exact u_eq ⟨rfl, q⟩
      · rw [u_ne (by omega)]; exact h3 o a (by omega))
    rw [c3] at t1
    refine ⟨t, ?_, t2, EX.tr ((EX.rf r152 u).up ⟨rfl, by omega⟩) t3⟩
    rw [Md_empties_8, w32n c4, if_pos c1, c6, if_pos (by clear c6; omega)]
    exact t1
theorem emp_eq (u : jM) : ∃ t, Md_empties 155 4 u = some (0, t) ∧ t 160 1527 = 3 ∧ t 160 1528 = 2 ∧ (∀ o, 1524 ≤ o → o < 1905 → o ≠ 1527 → o ≠ 1528 → t 160 o = 0) ∧ EX r152 u t := by
  obtain ⟨t, t1, t2, t3⟩ := emp8 381 jFU 0 u (by omega) (Nat.lt_of_lt_of_le (m := 1000) (by omega) (jFU_ge (by decide))) (fun o a b => by omega)
  refine ⟨_, t1, by rw [u_ne (by omega), u_eq ⟨rfl, rfl⟩], u_eq ⟨rfl, rfl⟩, fun o a b q1 q2 => ?_, (t3.up ⟨rfl, by omega⟩).up ⟨rfl, by omega⟩⟩
  rw [u_ne (by omega), u_ne (by omega)]
  exact t2 o a b
