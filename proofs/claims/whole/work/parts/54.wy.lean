/-! the WAY -/
theorem MINP_tri {k far : Int} {d c : Int → Int} (h : MINP k far d c) (hf : 54 * k + 6 < far) (hk : 1 ≤ k) {p r q x : Int} (hp : 0 ≤ p ∧ p < 6) (hr : 0 ≤ r ∧ r < 6) (hq : 0 ≤ q ∧ q < 6) (he : EDG c p r x) (hl : d (6 * r + q) < far) : d (6 * p + q) ≤ k * x + 1 + d (6 * r + q) := by
  rcases (h r q hr.1 hr.2 hq.1 hq.2).2 with ⟨a, -⟩ | ⟨n, S, a1, a2, a3, a4, a5⟩
  · omega
  · have := (h p q hp.1 hp.2 hq.1 hq.2).1 (n + 1) (S + x) ⟨r, x, he, by rw [show S + x - x = S by omega]; exact a1⟩
    rw [Int.mul_add] at this
    omega
/-- the reference's question of a place r: is it next on the way from p to q? -/
def NXT (c e : Int → Int) (p q r : Int) : Prop := ∃ x, EDG c p r x ∧ 16 * x + 1 + e (6 * r + q) = e (6 * p + q)
theorem EDG_b {c : Int → Int} (hw : WKS c) {p r x : Int} (h : EDG c p r x) : 0 ≤ p ∧ p < c 1 ∧ 0 ≤ r ∧ r < c 1 ∧ 0 ≤ x ∧ x ≤ 9 ∧ p ≠ r := by
  obtain ⟨i, i1, i2, i3, i4⟩ := h
  have := hw i i1 i2
  rcases i3 with z | z
  · obtain ⟨z1, z2⟩ := z
    omega
  · obtain ⟨z1, z2⟩ := z
    omega
/-- both ask alike -/
theorem NXT_iff {d e c : Int → Int} (hd : MINP 64 1000000 d c) (he : MINP 16 10000 e c) (hw : WKS c) {p q r : Int} (hp : 0 ≤ p ∧ p < 6) (hq : 0 ≤ q ∧ q < 6) (hr : 0 ≤ r ∧ r < 6) (hl : e (6 * p + q) < 10000) : NXT c e p q r ↔ (d (6 * p + r) % 64 = 1 ∧ d (6 * p + r) < 1000000 ∧ d (6 * p + r) + d (6 * r + q) = d (6 * p + q)) := by
  constructor
  · rintro ⟨x, hx, h2⟩
    have xb := EDG_b hw hx
    rcases MINP_2 hd he hp hq with ⟨a1, a2, -⟩ | ⟨n, S, a0, a1, a2, a3, a4, a5⟩
    · omega
    · rcases MINP_2 hd he hr hq with ⟨b1, b2, -⟩ | ⟨n2, S2, b0, b1, b2, b3, b4, b5⟩
      · omega
      · have e1 := (he p r hp.1 hp.2 hr.1 hr.2).1 1 x ⟨r, x, hx, rfl, by omega⟩
        have e2 := (hd p r hp.1 hp.2 hr.1 hr.2).1 1 x ⟨r, x, hx, rfl, by omega⟩
        rcases MINP_2 hd he hp hr with ⟨c1, c2, -⟩ | ⟨n1, S1, c0, c1, c2, c3, c4, c5⟩
        · omega
        · have e3 := (he p q hp.1 hp.2 hq.1 hq.2).1 (n1 + n2) (S1 + S2) (PATH_app _ _ _ _ _ _ _ c0 b0)
          rw [Int.natCast_add] at e3
          omega
  · rintro ⟨h1, h2, h3⟩
    rcases MINP_2 hd he hp hr with ⟨c1, c2, -⟩ | ⟨n1, S1, c0, c1, c2, c3, c4, c5⟩
    · omega
    · have hn : n1 = 1 := by omega
      subst hn
      obtain ⟨r', x, g1, g2⟩ := c0
      have g2 : r' = r ∧ S1 - x = 0 := g2
      rw [g2.1] at g1
      refine ⟨x, g1, ?_⟩
      rcases MINP_2 hd he hp hq with ⟨a1, a2, -⟩ | ⟨n, S, a0, a1, a2, a3, a4, a5⟩
      · omega
      · rcases MINP_2 hd he hr hq with ⟨b1, b2, -⟩ | ⟨n2, S2, b0, b1, b2, b3, b4, b5⟩
        · omega
        · omega
theorem NXT_ex {e c : Int → Int} (he : MINP 16 10000 e c) (hw : WKS c) (h1 : c 1 ≤ 6) {p q : Int} (hp : 0 ≤ p ∧ p < 6) (hq : 0 ≤ q ∧ q < 6) (hl : e (6 * p + q) < 10000) (hne : p ≠ q) : ∃ r, 0 ≤ r ∧ r < c 1 ∧ NXT c e p q r := by
  rcases (he p q hp.1 hp.2 hq.1 hq.2).2 with ⟨a, -⟩ | ⟨n, S, a1, a2, a3, a4, a5⟩
  · omega
  · cases n with
    | zero => have a1 : p = q ∧ S = 0 := a1; omega
    | succ n =>
      obtain ⟨r, x, g1, g2⟩ := a1
      have xb := EDG_b hw g1
      have t1 := (he r q (by omega) (by omega) hq.1 hq.2).1 n _ g2
      have hlt : e (6 * r + q) < 10000 := by omega
      have t2 := MINP_tri he (by omega) (by omega) hp (by omega) hq g1 hlt
      exact ⟨r, by omega, by omega, x, g1, by omega⟩
/-- a step of the way: one walk fewer -/
theorem NXT_less {e c : Int → Int} (he : MINP 16 10000 e c) (hw : WKS c) (h1 : c 1 ≤ 6) {p q r : Int} (hp : 0 ≤ p ∧ p < 6) (hq : 0 ≤ q ∧ q < 6) (hr : 0 ≤ r ∧ r < 6) (hl : e (6 * p + q) < 10000) (h : NXT c e p q r) : e (6 * r + q) < 10000 ∧ 0 ≤ e (6 * r + q) ∧ e (6 * p + q) % 16 = e (6 * r + q) % 16 + 1 := by
  obtain ⟨x, hx, h2⟩ := h
  have xb := EDG_b hw hx
  rcases (he p q hp.1 hp.2 hq.1 hq.2).2 with ⟨a, -⟩ | ⟨n, S, a1, a2, a3, a4, a5⟩
  · omega
  · rcases (he r q hr.1 hr.2 hq.1 hq.2).2 with ⟨b, -⟩ | ⟨n2, S2, b1, b2, b3, b4, b5⟩
    · omega
    · omega
/-- the reference's look over the walks, for one place -/
theorem nx15 {u : jM} {e c : Int → Int} {p q r : Int} {k2 : Int → Int → Int → Int → jM → Option (Int × jM)} (hc : ∀ o, o = 8 ∨ (24 ≤ o ∧ o < 54) → u 160 o = c o) (h8 : 0 ≤ c 8 ∧ c 8 ≤ 10) (he : ∀ j, 0 ≤ j → j < 36 → u 164 j = e j ∧ -1 ≤ e j ∧ e j ≤ 10000) (hw : WKS c) (h1 : c 1 ≤ 6) (hp : 0 ≤ p ∧ p < 6) (hq : 0 ≤ q ∧ q < 6) (hr : 0 ≤ r ∧ r < 6) : ∀ (f : Nat) (w : Int), 0 ≤ w → w ≤ c 8 → (c 8 - w).toNat < f → (∀ i, 0 ≤ i → i < w → ¬ (((c (24 + i) = p ∧ c (34 + i) = r) ∨ (c (24 + i) = r ∧ c (34 + i) = p)) ∧ 16 * c (44 + i) + 1 + e (6 * r + q) = e (6 * p + q))) → (NXT c e p q r ∧ Md_nextOn_15 k2 f 155 p q r w u = some (r, u)) ∨ (¬ NXT c e p q r ∧ Md_nextOn_15 k2 f 155 p q r w u = k2 155 p q (r + 1) u) := by
  intro f
  induction f with
  | zero => intro w h2 h3 h4; omega
  | succ f ih =>
    intro w h2 h3 h4 h5
    have e8 := hc 8 (by omega)
    by_cases hk : w < c 8
    · have hx := hw w h2 hk
      have a1 := hc (24 + w) (by omega)
      have a2 := hc (34 + w) (by omega)
      have a3 := hc (44 + w) (by omega)
      have a4 := he (6 * r + q) (by omega) (by omega)
      have a5 := he (6 * p + q) (by omega) (by omega)
      by_cases hg : ((c (24 + w) = p ∧ c (34 + w) = r) ∨ (c (24 + w) = r ∧ c (34 + w) = p)) ∧ 16 * c (44 + w) + 1 + e (6 * r + q) = e (6 * p + q)
      · refine Or.inl ⟨⟨c (44 + w), ⟨w, h2, hk, hg.1, rfl⟩, hg.2⟩, ?_⟩
        rw [Md_nextOn_15]
        rcases hg.1 with z | z
        · simp (disch := omega) only [↓jb_m, ↓jm_s, ↓reduceIte, t_lt, t_nlt, t_le, t_nle, t_eq, t_neq, w32_id, w64_id, jb_s, and_true, true_and, and_self, and_false, false_and, or_true, true_or, or_false, false_or, or_self, not_false_eq_true, not_true_eq_false, u_ne, u_eq, u_u, Int.reduceAdd, Int.reduceSub, Int.reduceMul, Int.reduceNeg, Int.zero_add, Int.add_zero, n15, n16, q10, q11, q12, q13, q14, Md_joins, Md_joins_26, Md_farOf]
        · by_cases z2 : c (24 + w) = p
          · exact absurd z2 (by omega)
          · simp (disch := omega) only [↓jb_m, ↓jm_s, ↓reduceIte, t_lt, t_nlt, t_le, t_nle, t_eq, t_neq, w32_id, w64_id, jb_s, and_true, true_and, and_self, and_false, false_and, or_true, true_or, or_false, false_or, or_self, not_false_eq_true, not_true_eq_false, u_ne, u_eq, u_u, Int.reduceAdd, Int.reduceSub, Int.reduceMul, Int.reduceNeg, Int.zero_add, Int.add_zero, n15, n16, q10, q11, q12, q13, q14, Md_joins, Md_joins_26, Md_farOf]
      · have := ih (w + 1) (by omega) (by omega) (by omega) (fun i i1 i2 => by
          by_cases ei : i = w
          · rw [ei]; exact hg
          · exact h5 i i1 (by omega))
        have hs : Md_nextOn_15 k2 (f + 1) 155 p q r w u = Md_nextOn_15 k2 f 155 p q r (w + 1) u := by
          rw [Md_nextOn_15]
          by_cases z1 : c (24 + w) = p
          · by_cases z2 : c (34 + w) = r
            · simp (disch := omega) only [↓jb_m, ↓jm_s, ↓reduceIte, t_lt, t_nlt, t_le, t_nle, t_eq, t_neq, w32_id, w64_id, jb_s, and_true, true_and, and_self, and_false, false_and, or_true, true_or, or_false, false_or, or_self, not_false_eq_true, not_true_eq_false, u_ne, u_eq, u_u, Int.reduceAdd, Int.reduceSub, Int.reduceMul, Int.reduceNeg, Int.zero_add, Int.add_zero, n15, n16, q10, q11, q12, q13, q14, Md_joins, Md_joins_26, Md_farOf]
            · by_cases z3 : c (24 + w) = r
              · by_cases z4 : c (34 + w) = p
                · simp (disch := omega) only [↓jb_m, ↓jm_s, ↓reduceIte, t_lt, t_nlt, t_le, t_nle, t_eq, t_neq, w32_id, w64_id, jb_s, and_true, true_and, and_self, and_false, false_and, or_true, true_or, or_false, false_or, or_self, not_false_eq_true, not_true_eq_false, u_ne, u_eq, u_u, Int.reduceAdd, Int.reduceSub, Int.reduceMul, Int.reduceNeg, Int.zero_add, Int.add_zero, n15, n16, q10, q11, q12, q13, q14, Md_joins, Md_joins_26, Md_farOf]
                · simp (disch := omega) only [↓jb_m, ↓jm_s, ↓reduceIte, t_lt, t_nlt, t_le, t_nle, t_eq, t_neq, w32_id, w64_id, jb_s, and_true, true_and, and_self, and_false, false_and, or_true, true_or, or_false, false_or, or_self, not_false_eq_true, not_true_eq_false, u_ne, u_eq, u_u, Int.reduceAdd, Int.reduceSub, Int.reduceMul, Int.reduceNeg, Int.zero_add, Int.add_zero, n15, n16, q10, q11, q12, q13, q14, Md_joins, Md_joins_26, Md_farOf]
              · simp (disch := omega) only [↓jb_m, ↓jm_s, ↓reduceIte, t_lt, t_nlt, t_le, t_nle, t_eq, t_neq, w32_id, w64_id, jb_s, and_true, true_and, and_self, and_false, false_and, or_true, true_or, or_false, false_or, or_self, not_false_eq_true, not_true_eq_false, u_ne, u_eq, u_u, Int.reduceAdd, Int.reduceSub, Int.reduceMul, Int.reduceNeg, Int.zero_add, Int.add_zero, n15, n16, q10, q11, q12, q13, q14, Md_joins, Md_joins_26, Md_farOf]
          · by_cases z3 : c (24 + w) = r
            · by_cases z4 : c (34 + w) = p
              · simp (disch := omega) only [↓jb_m, ↓jm_s, ↓reduceIte, t_lt, t_nlt, t_le, t_nle, t_eq, t_neq, w32_id, w64_id, jb_s, and_true, true_and, and_self, and_false, false_and, or_true, true_or, or_false, false_or, or_self, not_false_eq_true, not_true_eq_false, u_ne, u_eq, u_u, Int.reduceAdd, Int.reduceSub, Int.reduceMul, Int.reduceNeg, Int.zero_add, Int.add_zero, n15, n16, q10, q11, q12, q13, q14, Md_joins, Md_joins_26, Md_farOf]
              · simp (disch := omega) only [↓jb_m, ↓jm_s, ↓reduceIte, t_lt, t_nlt, t_le, t_nle, t_eq, t_neq, w32_id, w64_id, jb_s, and_true, true_and, and_self, and_false, false_and, or_true, true_or, or_false, false_or, or_self, not_false_eq_true, not_true_eq_false, u_ne, u_eq, u_u, Int.reduceAdd, Int.reduceSub, Int.reduceMul, Int.reduceNeg, Int.zero_add, Int.add_zero, n15, n16, q10, q11, q12, q13, q14, Md_joins, Md_joins_26, Md_farOf]
            · simp (disch := omega) only [↓jb_m, ↓jm_s, ↓reduceIte, t_lt, t_nlt, t_le, t_nle, t_eq, t_neq, w32_id, w64_id, jb_s, and_true, true_and, and_self, and_false, false_and, or_true, true_or, or_false, false_or, or_self, not_false_eq_true, not_true_eq_false, u_ne, u_eq, u_u, Int.reduceAdd, Int.reduceSub, Int.reduceMul, Int.reduceNeg, Int.zero_add, Int.add_zero, n15, n16, q10, q11, q12, q13, q14, Md_joins, Md_joins_26, Md_farOf]
        rw [hs]
        exact this
    · refine Or.inr ⟨?_, ?_⟩
      · rintro ⟨x, ⟨i, i1, i2, i3, i4⟩, h6⟩
        exact h5 i i1 (by omega) ⟨i3, by rw [i4]; exact h6⟩
      · rw [Md_nextOn_15]
        simp (disch := omega) only [↓jb_m, ↓jm_s, ↓reduceIte, t_lt, t_nlt, t_le, t_nle, t_eq, t_neq, w32_id, w64_id, jb_s, and_true, true_and, and_self, and_false, false_and, or_true, true_or, or_false, false_or, or_self, not_false_eq_true, not_true_eq_false, u_ne, u_eq, u_u, Int.reduceAdd, Int.reduceSub, Int.reduceMul, Int.reduceNeg, Int.zero_add, Int.add_zero, n15, n16, q10, q11, q12, q13, q14]
theorem step_both {s u : jM} {b p q : Int} {e c : Int → Int} (hd : MINP 64 1000000 (s (b + 5)) c) (he' : MINP 16 10000 e c) (h5 : s b 5 = c 1) (hc : ∀ o, o = 1 ∨ o = 8 ∨ (24 ≤ o ∧ o < 54) → u 160 o = c o) (h8 : 0 ≤ c 8 ∧ c 8 ≤ 10) (he : ∀ j, 0 ≤ j → j < 36 → u 164 j = e j ∧ -1 ≤ e j ∧ e j ≤ 10000) (hw : WKS c) (h1 : c 1 ≤ 6) (hp : 0 ≤ p ∧ p < c 1) (hq : 0 ≤ q ∧ q < c 1) (hl : e (6 * p + q) < 10000) (hne : p ≠ q) : ∃ r, 0 ≤ r ∧ r < c 1 ∧ NXT c e p q r ∧ Se_stepTowards b p q s = some (r, s) ∧ Md_nextOn 155 p q u = some (r, u) := by
  obtain ⟨r0, r1, r2, r3⟩ := NXT_ex he' hw h1 ⟨hp.1, by omega⟩ ⟨hq.1, by omega⟩ hl hne
  have hdb : ∀ x y, 0 ≤ x → x < 6 → 0 ≤ y → y < 6 → 0 ≤ s (b + 5) (6 * x + y) ∧ s (b + 5) (6 * x + y) ≤ 1000000 := fun x y x1 x2 y1 y2 => by
    rcases (hd x y x1 x2 y1 y2).2 with ⟨a, -⟩ | ⟨n, S, -, a1, a2, a3, a4⟩ <;> omega
  have key : ∀ (n f g : Nat) (r : Int), 0 ≤ r → r + n = r0 → n < f → n < g → ∃ r', 0 ≤ r' ∧ r' < c 1 ∧ NXT c e p q r' ∧ Se_stepTowards_10 f b p q (s (b + 5) (6 * p + q)) r s = some (r', s) ∧ Md_nextOn_2 g 155 p q r u = some (r', u) := by
    intro n
    induction n with
    | zero =>
      intro f g r a1 a2 a3 a4
      obtain ⟨f, rfl⟩ : ∃ x, f = x + 1 := ⟨f - 1, by omega⟩
      obtain ⟨g, rfl⟩ : ∃ x, g = x + 1 := ⟨g - 1, by omega⟩
      have e0 : r = r0 := by omega
      subst e0
      have hb1 := hdb p r hp.1 (by omega) r1 (by omega)
      have hb2 := hdb r q r1 (by omega) hq.1 (by omega)
      have hb3 := hdb p q hp.1 (by omega) hq.1 (by omega)
      obtain ⟨z1, z2, z3⟩ := (NXT_iff hd he' hw ⟨hp.1, by omega⟩ ⟨hq.1, by omega⟩ ⟨r1, by omega⟩ hl).mp r3
      have ej := jrem_e (a := s (b + 5) (6 * p + r)) (b := 64) (by omega) (by omega) (by omega) (by omega)
      refine ⟨r, r1, r2, r3, ?_, ?_⟩
      · rw [Se_stepTowards_10]
        simp (disch := omega) only [↓jb_m, ↓jm_s, ↓reduceIte, t_lt, t_nlt, t_le, t_nle, t_eq, t_neq, w32_id, w64_id, jb_s, and_true, true_and, and_self, and_false, false_and, or_true, true_or, or_false, false_or, or_self, not_false_eq_true, not_true_eq_false, u_ne, u_eq, u_u, Int.reduceAdd, Int.reduceSub, Int.reduceMul, Int.reduceNeg, Int.zero_add, Int.add_zero, n15, n16, q10, q11, q12, q13, q14, h5, Se_wayLength, m6, ej]
      · have e1 := hc 1 (by omega)
        rw [Md_nextOn_2]
        simp (disch := omega) only [↓jb_m, ↓jm_s, ↓reduceIte, t_lt, t_nlt, t_le, t_nle, t_eq, t_neq, w32_id, w64_id, jb_s, and_true, true_and, and_self, and_false, false_and, or_true, true_or, or_false, false_or, or_self, not_false_eq_true, not_true_eq_false, u_ne, u_eq, u_u, Int.reduceAdd, Int.reduceSub, Int.reduceMul, Int.reduceNeg, Int.zero_add, Int.add_zero, n15, n16, q10, q11, q12, q13, q14, e1]
        rcases nx15 (k2 := Md_nextOn_2 g) (fun o ho => hc o (by omega)) h8 he hw h1 ⟨hp.1, by omega⟩ ⟨hq.1, by omega⟩ ⟨r1, by omega⟩ jFU 0 (by omega) (by omega) (by unfold jFU; omega) (fun i i1 i2 => by omega) with ⟨-, y⟩ | ⟨y, -⟩
        · exact y
        · exact absurd r3 y
    | succ n ih =>
      intro f g r a1 a2 a3 a4
      obtain ⟨f, rfl⟩ : ∃ x, f = x + 1 := ⟨f - 1, by omega⟩
      obtain ⟨g, rfl⟩ : ∃ x, g = x + 1 := ⟨g - 1, by omega⟩
      have hb1 := hdb p r hp.1 (by omega) a1 (by omega)
      have hb2 := hdb r q a1 (by omega) hq.1 (by omega)
      have hb3 := hdb p q hp.1 (by omega) hq.1 (by omega)
      have ej := jrem_e (a := s (b + 5) (6 * p + r)) (b := 64) (by omega) (by omega) (by omega) (by omega)
      have hiff := NXT_iff hd he' hw (p := p) (q := q) (r := r) ⟨hp.1, by omega⟩ ⟨hq.1, by omega⟩ ⟨a1, by omega⟩ hl
      have e1 := hc 1 (by omega)
      have hn := nx15 (k2 := Md_nextOn_2 g) (fun o ho => hc o (by omega)) h8 he hw h1 (p := p) (q := q) (r := r) ⟨hp.1, by omega⟩ ⟨hq.1, by omega⟩ ⟨a1, by omega⟩ jFU 0 (by omega) (by omega) (by unfold jFU; omega) (fun i i1 i2 => by omega)
      rcases hn with ⟨x1, x2⟩ | ⟨x1, x2⟩
      · obtain ⟨z1, z2, z3⟩ := hiff.mp x1
        refine ⟨r, a1, by omega, x1, ?_, ?_⟩
        · rw [Se_stepTowards_10]
          simp (disch := omega) only [↓jb_m, ↓jm_s, ↓reduceIte, t_lt, t_nlt, t_le, t_nle, t_eq, t_neq, w32_id, w64_id, jb_s, and_true, true_and, and_self, and_false, false_and, or_true, true_or, or_false, false_or, or_self, not_false_eq_true, not_true_eq_false, u_ne, u_eq, u_u, Int.reduceAdd, Int.reduceSub, Int.reduceMul, Int.reduceNeg, Int.zero_add, Int.add_zero, n15, n16, q10, q11, q12, q13, q14, h5, Se_wayLength, m6, ej]
        · rw [Md_nextOn_2]
          simp (disch := omega) only [↓jb_m, ↓jm_s, ↓reduceIte, t_lt, t_nlt, t_le, t_nle, t_eq, t_neq, w32_id, w64_id, jb_s, and_true, true_and, and_self, and_false, false_and, or_true, true_or, or_false, false_or, or_self, not_false_eq_true, not_true_eq_false, u_ne, u_eq, u_u, Int.reduceAdd, Int.reduceSub, Int.reduceMul, Int.reduceNeg, Int.zero_add, Int.add_zero, n15, n16, q10, q11, q12, q13, q14, e1]
          exact x2
      · have hno : ¬ (s (b + 5) (6 * p + r) % 64 = 1 ∧ s (b + 5) (6 * p + r) < 1000000 ∧ s (b + 5) (6 * p + r) + s (b + 5) (6 * r + q) = s (b + 5) (6 * p + q)) := fun z => x1 (hiff.mpr z)
        obtain ⟨r', y1, y2, y3, y4, y5⟩ := ih f g (r + 1) (by omega) (by omega) (by omega) (by omega)
        refine ⟨r', y1, y2, y3, ?_, ?_⟩
        · rw [Se_stepTowards_10]
          by_cases z1 : s (b + 5) (6 * p + r) % 64 = 1
          · by_cases z2 : s (b + 5) (6 * p + r) < 1000000
            · simp (disch := omega) only [↓jb_m, ↓jm_s, ↓reduceIte, t_lt, t_nlt, t_le, t_nle, t_eq, t_neq, w32_id, w64_id, jb_s, and_true, true_and, and_self, and_false, false_and, or_true, true_or, or_false, false_or, or_self, not_false_eq_true, not_true_eq_false, u_ne, u_eq, u_u, Int.reduceAdd, Int.reduceSub, Int.reduceMul, Int.reduceNeg, Int.zero_add, Int.add_zero, n15, n16, q10, q11, q12, q13, q14, h5, Se_wayLength, m6, ej]
              exact y4
            · exact absurd z1 (by omega)
          · simp (disch := omega) only [↓jb_m, ↓jm_s, ↓reduceIte, t_lt, t_nlt, t_le, t_nle, t_eq, t_neq, w32_id, w64_id, jb_s, and_true, true_and, and_self, and_false, false_and, or_true, true_or, or_false, false_or, or_self, not_false_eq_true, not_true_eq_false, u_ne, u_eq, u_u, Int.reduceAdd, Int.reduceSub, Int.reduceMul, Int.reduceNeg, Int.zero_add, Int.add_zero, n15, n16, q10, q11, q12, q13, q14, h5, Se_wayLength, m6, ej]
            exact y4
        · rw [Md_nextOn_2]
          simp (disch := omega) only [↓jb_m, ↓jm_s, ↓reduceIte, t_lt, t_nlt, t_le, t_nle, t_eq, t_neq, w32_id, w64_id, jb_s, and_true, true_and, and_self, and_false, false_and, or_true, true_or, or_false, false_or, or_self, not_false_eq_true, not_true_eq_false, u_ne, u_eq, u_u, Int.reduceAdd, Int.reduceSub, Int.reduceMul, Int.reduceNeg, Int.zero_add, Int.add_zero, n15, n16, q10, q11, q12, q13, q14, e1]
          rw [x2]
          exact y5
  obtain ⟨r', y1, y2, y3, y4, y5⟩ := key r0.toNat jFU jFU 0 (by omega) (by omega) (Nat.lt_of_lt_of_le (m := 400) (by omega) (jFU_ge (by decide))) (Nat.lt_of_lt_of_le (m := 400) (by omega) (jFU_ge (by decide)))
  refine ⟨r', y1, y2, y3, ?_, y5⟩
  simp (disch := omega) only [↓jb_m, ↓jm_s, ↓reduceIte, t_lt, t_nlt, t_le, t_nle, t_eq, t_neq, w32_id, w64_id, jb_s, and_true, true_and, and_self, and_false, false_and, or_true, true_or, or_false, false_or, or_self, not_false_eq_true, not_true_eq_false, u_ne, u_eq, u_u, Int.reduceAdd, Int.reduceSub, Int.reduceMul, Int.reduceNeg, Int.zero_add, Int.add_zero, n15, n16, q10, q11, q12, q13, q14, Se_stepTowards, Se_wayLength, m6]
  exact y4
theorem way_ok {s : jM} (h : INV s) {p q k : Int} (hp : i32 p) (hq : i32 q) (hk : i32 k) : OKc s (Jc_way 0 p q k) (Md_way 155 p q k) := by
  unfold i32 at hp hq hk
  obtain ⟨hb, hj, hj2, -⟩ := h.b
  have hse := h.2.2.2.2.2.1.1
  obtain ⟨e5, c1⟩ := hd1 hse
  have hX := h.2.2.2.2.2.1.2.2
  by_cases hv : 0 ≤ p ∧ p < s 160 1
  rotate_left
  · rcases (by omega : p < 0 ∨ s 160 1 ≤ p) with z | z
    · exact OKc.no (w := 2) (r := -1) h (by simp (disch := omega) only [↓jb_m, ↓jm_s, ↓reduceIte, t_lt, t_nlt, t_le, t_nle, t_eq, t_neq, w32_id, w64_id, jb_s, and_true, true_and, and_self, and_false, false_and, or_true, true_or, or_false, false_or, or_self, not_false_eq_true, not_true_eq_false, u_ne, u_eq, u_u, Int.reduceAdd, Int.reduceSub, Int.reduceMul, Int.reduceNeg, Int.zero_add, Int.add_zero, n15, n16, q10, q11, q12, q13, q14, Jc_way, Jc_answer, Jc_refuse, Jc_deny, Jc_grant, Se_isMould, Se_isStuff, Se_isPlace, hj]) (by simp (disch := omega) only [↓jb_m, ↓jm_s, ↓reduceIte, t_lt, t_nlt, t_le, t_nle, t_eq, t_neq, w32_id, w64_id, jb_s, and_true, true_and, and_self, and_false, false_and, or_true, true_or, or_false, false_or, or_self, not_false_eq_true, not_true_eq_false, u_ne, u_eq, u_u, Int.reduceAdd, Int.reduceSub, Int.reduceMul, Int.reduceNeg, Int.zero_add, Int.add_zero, n15, n16, q10, q11, q12, q13, q14, Md_way, Md_isMouldAt, Md_isStuffAt, Md_isPlaceAt, Md_isTray, Md_isIn_1, Md_isIn_0, Md_refuse, Md_no])
    · exact OKc.no (w := 2) (r := -1) h (by simp (disch := omega) only [↓jb_m, ↓jm_s, ↓reduceIte, t_lt, t_nlt, t_le, t_nle, t_eq, t_neq, w32_id, w64_id, jb_s, and_true, true_and, and_self, and_false, false_and, or_true, true_or, or_false, false_or, or_self, not_false_eq_true, not_true_eq_false, u_ne, u_eq, u_u, Int.reduceAdd, Int.reduceSub, Int.reduceMul, Int.reduceNeg, Int.zero_add, Int.add_zero, n15, n16, q10, q11, q12, q13, q14, Jc_way, Jc_answer, Jc_refuse, Jc_deny, Jc_grant, Se_isMould, Se_isStuff, Se_isPlace, hj]) (by simp (disch := omega) only [↓jb_m, ↓jm_s, ↓reduceIte, t_lt, t_nlt, t_le, t_nle, t_eq, t_neq, w32_id, w64_id, jb_s, and_true, true_and, and_self, and_false, false_and, or_true, true_or, or_false, false_or, or_self, not_false_eq_true, not_true_eq_false, u_ne, u_eq, u_u, Int.reduceAdd, Int.reduceSub, Int.reduceMul, Int.reduceNeg, Int.zero_add, Int.add_zero, n15, n16, q10, q11, q12, q13, q14, Md_way, Md_isMouldAt, Md_isStuffAt, Md_isPlaceAt, Md_isTray, Md_isIn_1, Md_isIn_0, Md_refuse, Md_no])
  by_cases hv2 : 0 ≤ q ∧ q < s 160 1
  rotate_left
  · rcases (by omega : q < 0 ∨ s 160 1 ≤ q) with z | z
    · exact OKc.no (w := 2) (r := -1) h (by simp (disch := omega) only [↓jb_m, ↓jm_s, ↓reduceIte, t_lt, t_nlt, t_le, t_nle, t_eq, t_neq, w32_id, w64_id, jb_s, and_true, true_and, and_self, and_false, false_and, or_true, true_or, or_false, false_or, or_self, not_false_eq_true, not_true_eq_false, u_ne, u_eq, u_u, Int.reduceAdd, Int.reduceSub, Int.reduceMul, Int.reduceNeg, Int.zero_add, Int.add_zero, n15, n16, q10, q11, q12, q13, q14, Jc_way, Jc_answer, Jc_refuse, Jc_deny, Jc_grant, Se_isMould, Se_isStuff, Se_isPlace, hj]) (by simp (disch := omega) only [↓jb_m, ↓jm_s, ↓reduceIte, t_lt, t_nlt, t_le, t_nle, t_eq, t_neq, w32_id, w64_id, jb_s, and_true, true_and, and_self, and_false, false_and, or_true, true_or, or_false, false_or, or_self, not_false_eq_true, not_true_eq_false, u_ne, u_eq, u_u, Int.reduceAdd, Int.reduceSub, Int.reduceMul, Int.reduceNeg, Int.zero_add, Int.add_zero, n15, n16, q10, q11, q12, q13, q14, Md_way, Md_isMouldAt, Md_isStuffAt, Md_isPlaceAt, Md_isTray, Md_isIn_1, Md_isIn_0, Md_refuse, Md_no])
    · exact OKc.no (w := 2) (r := -1) h (by simp (disch := omega) only [↓jb_m, ↓jm_s, ↓reduceIte, t_lt, t_nlt, t_le, t_nle, t_eq, t_neq, w32_id, w64_id, jb_s, and_true, true_and, and_self, and_false, false_and, or_true, true_or, or_false, false_or, or_self, not_false_eq_true, not_true_eq_false, u_ne, u_eq, u_u, Int.reduceAdd, Int.reduceSub, Int.reduceMul, Int.reduceNeg, Int.zero_add, Int.add_zero, n15, n16, q10, q11, q12, q13, q14, Jc_way, Jc_answer, Jc_refuse, Jc_deny, Jc_grant, Se_isMould, Se_isStuff, Se_isPlace, hj]) (by simp (disch := omega) only [↓jb_m, ↓jm_s, ↓reduceIte, t_lt, t_nlt, t_le, t_nle, t_eq, t_neq, w32_id, w64_id, jb_s, and_true, true_and, and_self, and_false, false_and, or_true, true_or, or_false, false_or, or_self, not_false_eq_true, not_true_eq_false, u_ne, u_eq, u_u, Int.reduceAdd, Int.reduceSub, Int.reduceMul, Int.reduceNeg, Int.zero_add, Int.add_zero, n15, n16, q10, q11, q12, q13, q14, Md_way, Md_isMouldAt, Md_isStuffAt, Md_isPlaceAt, Md_isTray, Md_isIn_1, Md_isIn_0, Md_refuse, Md_no])
  have h8 := (hd_at hse).2.2.2.2.2.2.2.2.2.2.2.2
  obtain ⟨x1, x2⟩ := iY_at hX
  have xa : ∀ o, (0 ≤ o ∧ o ≤ 2) ∨ o = 8 ∨ (24 ≤ o ∧ o < 54) → xc (cw s 0) o = s 160 o := fun o ho => xcw_at (by omega)
  have x1' := xa 1 (by omega)
  have x8' := xa 8 (by omega)
  have far : ∀ w, ∃ u1, Md_laysFar 155 (jup (jup (jup s 0 0 w) 155 1 0) 155 0 0) = some (0, u1) ∧ EX a164 (jup (jup (jup s 0 0 w) 155 1 0) 155 0 0) u1 ∧ MINP 16 10000 (u1 164) (xc (cw s 0)) := fun w => by
    have hcu : cw (jup (jup (jup s 0 0 w) 155 1 0) 155 0 0) 0 = cw s 0 := cw_congr (fun o _ _ => by simp (disch := omega) only [↓jb_m, ↓jm_s, ↓reduceIte, t_lt, t_nlt, t_le, t_nle, t_eq, t_neq, w32_id, w64_id, jb_s, and_true, true_and, and_self, and_false, false_and, or_true, true_or, or_false, false_or, or_self, not_false_eq_true, not_true_eq_false, u_ne, u_eq, u_u, Int.reduceAdd, Int.reduceSub, Int.reduceMul, Int.reduceNeg, Int.zero_add, Int.add_zero, n15, n16, q10, q11, q12, q13, q14])
    obtain ⟨u1, k1, k2, k3⟩ := far_eq (u := jup (jup (jup s 0 0 w) 155 1 0) 155 0 0) (by rw [hcu]; exact x2) (by simp (disch := omega) only [↓jb_m, ↓jm_s, ↓reduceIte, t_lt, t_nlt, t_le, t_nle, t_eq, t_neq, w32_id, w64_id, jb_s, and_true, true_and, and_self, and_false, false_and, or_true, true_or, or_false, false_or, or_self, not_false_eq_true, not_true_eq_false, u_ne, u_eq, u_u, Int.reduceAdd, Int.reduceSub, Int.reduceMul, Int.reduceNeg, Int.zero_add, Int.add_zero, n15, n16, q10, q11, q12, q13, q14]) (by simp (disch := omega) only [↓jb_m, ↓jm_s, ↓reduceIte, t_lt, t_nlt, t_le, t_nle, t_eq, t_neq, w32_id, w64_id, jb_s, and_true, true_and, and_self, and_false, false_and, or_true, true_or, or_false, false_or, or_self, not_false_eq_true, not_true_eq_false, u_ne, u_eq, u_u, Int.reduceAdd, Int.reduceSub, Int.reduceMul, Int.reduceNeg, Int.zero_add, Int.add_zero, n15, n16, q10, q11, q12, q13, q14])
    rw [hcu] at k3
    exact ⟨u1, k1, k2, k3⟩
  have no8 : ∀ u1, Md_laysFar 155 (jup (jup (jup s 0 0 8) 155 1 0) 155 0 0) = some (0, u1) → EX a164 (jup (jup (jup s 0 0 8) 155 1 0) 155 0 0) u1 → Jc_way 0 p q k s = some (-1, jup s 0 0 8) → Md_way 155 p q k (jup s 0 0 8) = some (-1, jup u1 155 0 8) → OKc s (Jc_way 0 p q k) (Md_way 155 p q k) := fun u1 k1 k2 g1 g2 => by
    refine OKc.scr (w := 8) (r := -1) (v := jup u1 155 0 8) h g1 g2 (fun a b z => ?_)
    by_cases e : a = 155 ∧ b = 0
    · rw [u_eq e, u_eq e]
    · rw [u_ne e, k2 a b (by unfold a164; omega), u_ne e, u_ne e]
  obtain ⟨u8, k1, k2, k3⟩ := far 8
  rcases MINP_2 x1 k3 (p := p) (q := q) (by omega) (by omega) with ⟨a1, a2, -⟩ | ⟨n, S, a0, a1, a2, a3, a4, a5⟩
  · refine no8 u8 k1 k2 ?_ ?_
    · simp (disch := omega) only [↓jb_m, ↓jm_s, ↓reduceIte, t_lt, t_nlt, t_le, t_nle, t_eq, t_neq, w32_id, w64_id, jb_s, and_true, true_and, and_self, and_false, false_and, or_true, true_or, or_false, false_or, or_self, not_false_eq_true, not_true_eq_false, u_ne, u_eq, u_u, Int.reduceAdd, Int.reduceSub, Int.reduceMul, Int.reduceNeg, Int.zero_add, Int.add_zero, n15, n16, q10, q11, q12, q13, q14, Jc_way, Se_placeOnWay, Se_wayLength, m6, Jc_answer, Jc_refuse, Jc_deny, Jc_grant, Se_isMould, Se_isStuff, Se_isPlace, hj]
    · by_cases hk0 : k < 0
      · simp (disch := omega) only [↓jb_m, ↓jm_s, ↓reduceIte, t_lt, t_nlt, t_le, t_nle, t_eq, t_neq, w32_id, w64_id, jb_s, and_true, true_and, and_self, and_false, false_and, or_true, true_or, or_false, false_or, or_self, not_false_eq_true, not_true_eq_false, u_ne, u_eq, u_u, Int.reduceAdd, Int.reduceSub, Int.reduceMul, Int.reduceNeg, Int.zero_add, Int.add_zero, n15, n16, q10, q11, q12, q13, q14, Md_way, k1, Md_farOf, Md_isMouldAt, Md_isStuffAt, Md_isPlaceAt, Md_isTray, Md_isIn_1, Md_isIn_0, Md_refuse, Md_no]
      · simp (disch := omega) only [↓jb_m, ↓jm_s, ↓reduceIte, t_lt, t_nlt, t_le, t_nle, t_eq, t_neq, w32_id, w64_id, jb_s, and_true, true_and, and_self, and_false, false_and, or_true, true_or, or_false, false_or, or_self, not_false_eq_true, not_true_eq_false, u_ne, u_eq, u_u, Int.reduceAdd, Int.reduceSub, Int.reduceMul, Int.reduceNeg, Int.zero_add, Int.add_zero, n15, n16, q10, q11, q12, q13, q14, Md_way, k1, Md_farOf, Md_isMouldAt, Md_isStuffAt, Md_isPlaceAt, Md_isTray, Md_isIn_1, Md_isIn_0, Md_refuse, Md_no]
  · have ej := jrem_e (a := s (s 0 5 + 5) (6 * p + q)) (b := 64) (by omega) (by omega) (by omega) (by omega)
    by_cases hk0 : k < 0
    · refine no8 u8 k1 k2 ?_ ?_
      · simp (disch := omega) only [↓jb_m, ↓jm_s, ↓reduceIte, t_lt, t_nlt, t_le, t_nle, t_eq, t_neq, w32_id, w64_id, jb_s, and_true, true_and, and_self, and_false, false_and, or_true, true_or, or_false, false_or, or_self, not_false_eq_true, not_true_eq_false, u_ne, u_eq, u_u, Int.reduceAdd, Int.reduceSub, Int.reduceMul, Int.reduceNeg, Int.zero_add, Int.add_zero, n15, n16, q10, q11, q12, q13, q14, Jc_way, Se_placeOnWay, Se_wayLength, m6, Jc_answer, Jc_refuse, Jc_deny, Jc_grant, Se_isMould, Se_isStuff, Se_isPlace, hj]
      · simp (disch := omega) only [↓jb_m, ↓jm_s, ↓reduceIte, t_lt, t_nlt, t_le, t_nle, t_eq, t_neq, w32_id, w64_id, jb_s, and_true, true_and, and_self, and_false, false_and, or_true, true_or, or_false, false_or, or_self, not_false_eq_true, not_true_eq_false, u_ne, u_eq, u_u, Int.reduceAdd, Int.reduceSub, Int.reduceMul, Int.reduceNeg, Int.zero_add, Int.add_zero, n15, n16, q10, q11, q12, q13, q14, Md_way, k1, Md_farOf, Md_isMouldAt, Md_isStuffAt, Md_isPlaceAt, Md_isTray, Md_isIn_1, Md_isIn_0, Md_refuse, Md_no]
    · -- the steps that both take
      have walk : ∀ (j : Nat) (u : jM) (i r : Int) (f g : Nat), MINP 16 10000 (u 164) (xc (cw s 0)) → (∀ o, u 160 o = s 160 o) → 0 ≤ i → i + j = k → k < 1000 → j < f → j < g → 0 ≤ r → r < s 160 1 → u 164 (6 * r + q) < 10000 → 0 ≤ u 164 (6 * r + q) → (j : Int) ≤ u 164 (6 * r + q) % 16 → ∃ r', (0 ≤ r' ∧ r' < s 160 1) ∧ Se_placeOnWay_36 f (s 0 5) q k r i s = some (r', s) ∧ Md_way_65 g 155 q k r i u = some (r', u) := by
        intro j
        induction j with
        | zero =>
          intro u i r f g w1 w2 w3 w4 w4' w5 w6 w7 w8 w9 w10 w11
          obtain ⟨f, rfl⟩ : ∃ x, f = x + 1 := ⟨f - 1, by omega⟩
          obtain ⟨g, rfl⟩ : ∃ x, g = x + 1 := ⟨g - 1, by omega⟩
          refine ⟨r, ⟨w7, w8⟩, ?_, ?_⟩
          · rw [Se_placeOnWay_36]
            simp (disch := omega) only [↓jb_m, ↓jm_s, ↓reduceIte, t_lt, t_nlt, t_le, t_nle, t_eq, t_neq, w32_id, w64_id, jb_s, and_true, true_and, and_self, and_false, false_and, or_true, true_or, or_false, false_or, or_self, not_false_eq_true, not_true_eq_false, u_ne, u_eq, u_u, Int.reduceAdd, Int.reduceSub, Int.reduceMul, Int.reduceNeg, Int.zero_add, Int.add_zero, n15, n16, q10, q11, q12, q13, q14]
          · rw [Md_way_65]
            simp (disch := omega) only [↓jb_m, ↓jm_s, ↓reduceIte, t_lt, t_nlt, t_le, t_nle, t_eq, t_neq, w32_id, w64_id, jb_s, and_true, true_and, and_self, and_false, false_and, or_true, true_or, or_false, false_or, or_self, not_false_eq_true, not_true_eq_false, u_ne, u_eq, u_u, Int.reduceAdd, Int.reduceSub, Int.reduceMul, Int.reduceNeg, Int.zero_add, Int.add_zero, n15, n16, q10, q11, q12, q13, q14]
        | succ j ih =>
          intro u i r f g w1 w2 w3 w4 w4' w5 w6 w7 w8 w9 w10 w11
          obtain ⟨f, rfl⟩ : ∃ x, f = x + 1 := ⟨f - 1, by omega⟩
          obtain ⟨g, rfl⟩ : ∃ x, g = x + 1 := ⟨g - 1, by omega⟩
          have hne : r ≠ q := fun e => by
            have := (w1 r q w7 (by omega) hv2.1 (by omega)).1 0 0 ⟨e, rfl⟩
            omega
          have hub : ∀ y, 0 ≤ y → y < 36 → u 164 y = u 164 y ∧ -1 ≤ u 164 y ∧ u 164 y ≤ 10000 := fun y y1 y2 => by
            rcases (w1 (y / 6) (y % 6) (by omega) (by omega) (by omega) (by omega)).2 with ⟨z, -⟩ | ⟨n', S', -, z1, z2, z3, z4⟩
            · rw [show 6 * (y / 6) + y % 6 = y by omega] at z
              omega
            · rw [show 6 * (y / 6) + y % 6 = y by omega] at z4
              omega
          obtain ⟨r', y1, y2, y3, y4, y5⟩ := step_both (s := s) (u := u) (b := s 0 5) (p := r) (q := q) (e := u 164) (c := xc (cw s 0)) x1 w1 (by rw [x1']; exact e5) (fun o ho => by rw [w2, xa o (by omega)]) (by rw [x8']; omega) hub x2 (by rw [x1']; omega) (by rw [x1']; omega) (by rw [x1']; omega) w9 hne
          rw [x1'] at y2
          have hless := NXT_less w1 x2 (by rw [x1']; omega) (p := r) (q := q) (r := r') ⟨w7, by omega⟩ ⟨hv2.1, by omega⟩ ⟨y1, by omega⟩ w9 y3
          obtain ⟨r'', z0, z1, z2⟩ := ih u (i + 1) r' f g w1 w2 (by omega) (by omega) w4' (by omega) (by omega) y1 y2 hless.1 hless.2.1 (by omega)
          refine ⟨r'', z0, ?_, ?_⟩
          · rw [Se_placeOnWay_36]
            simp (disch := omega) only [↓jb_m, ↓jm_s, ↓reduceIte, t_lt, t_nlt, t_le, t_nle, t_eq, t_neq, w32_id, w64_id, jb_s, and_true, true_and, and_self, and_false, false_and, or_true, true_or, or_false, false_or, or_self, not_false_eq_true, not_true_eq_false, u_ne, u_eq, u_u, Int.reduceAdd, Int.reduceSub, Int.reduceMul, Int.reduceNeg, Int.zero_add, Int.add_zero, n15, n16, q10, q11, q12, q13, q14, y4]
            exact z1
          · rw [Md_way_65]
            simp (disch := omega) only [↓jb_m, ↓jm_s, ↓reduceIte, t_lt, t_nlt, t_le, t_nle, t_eq, t_neq, w32_id, w64_id, jb_s, and_true, true_and, and_self, and_false, false_and, or_true, true_or, or_false, false_or, or_self, not_false_eq_true, not_true_eq_false, u_ne, u_eq, u_u, Int.reduceAdd, Int.reduceSub, Int.reduceMul, Int.reduceNeg, Int.zero_add, Int.add_zero, n15, n16, q10, q11, q12, q13, q14, y5]
            exact z2
      -- the reference alone, to the end of the way
      have over : ∀ (j : Nat) (u : jM) (i r : Int) (g : Nat), MINP 16 10000 (u 164) (xc (cw s 0)) → (∀ o, u 160 o = s 160 o) → 0 ≤ i → i + j < k → i + j < 500 → j ≤ 5 → j < g → 0 ≤ r → r < s 160 1 → u 164 (6 * r + q) < 10000 → 0 ≤ u 164 (6 * r + q) → u 164 (6 * r + q) % 16 = j → Md_way_65 g 155 q k r i u = some (-1, jup u 155 0 8) := by
        intro j
        induction j with
        | zero =>
          intro u i r g w1 w2 w3 w4 w4' w5 w6 w7 w8 w9 w10 w11
          obtain ⟨g, rfl⟩ : ∃ x, g = x + 1 := ⟨g - 1, by omega⟩
          have e : r = q := by
            rcases (w1 r q w7 (by omega) hv2.1 (by omega)).2 with ⟨z, -⟩ | ⟨n', S', z0, z1, z2, z3, z4⟩
            · omega
            · cases n' with
              | zero => exact z0.1
              | succ n' => omega
          rw [Md_way_65]
          simp (disch := omega) only [↓jb_m, ↓jm_s, ↓reduceIte, t_lt, t_nlt, t_le, t_nle, t_eq, t_neq, w32_id, w64_id, jb_s, and_true, true_and, and_self, and_false, false_and, or_true, true_or, or_false, false_or, or_self, not_false_eq_true, not_true_eq_false, u_ne, u_eq, u_u, Int.reduceAdd, Int.reduceSub, Int.reduceMul, Int.reduceNeg, Int.zero_add, Int.add_zero, n15, n16, q10, q11, q12, q13, q14, Md_refuse]
        | succ j ih =>
          intro u i r g w1 w2 w3 w4 w4' w5 w6 w7 w8 w9 w10 w11
          obtain ⟨g, rfl⟩ : ∃ x, g = x + 1 := ⟨g - 1, by omega⟩
          have hne : r ≠ q := fun e => by
            have := (w1 r q w7 (by omega) hv2.1 (by omega)).1 0 0 ⟨e, rfl⟩
            omega
          have hub : ∀ y, 0 ≤ y → y < 36 → u 164 y = u 164 y ∧ -1 ≤ u 164 y ∧ u 164 y ≤ 10000 := fun y y1 y2 => by
            rcases (w1 (y / 6) (y % 6) (by omega) (by omega) (by omega) (by omega)).2 with ⟨z, -⟩ | ⟨n', S', -, z1, z2, z3, z4⟩
            · rw [show 6 * (y / 6) + y % 6 = y by omega] at z
              omega
            · rw [show 6 * (y / 6) + y % 6 = y by omega] at z4
              omega
          obtain ⟨r', y1, y2, y3, y4, y5⟩ := step_both (s := s) (u := u) (b := s 0 5) (p := r) (q := q) (e := u 164) (c := xc (cw s 0)) x1 w1 (by rw [x1']; exact e5) (fun o ho => by rw [w2, xa o (by omega)]) (by rw [x8']; omega) hub x2 (by rw [x1']; omega) (by rw [x1']; omega) (by rw [x1']; omega) w9 hne
          rw [x1'] at y2
          have hless := NXT_less w1 x2 (by rw [x1']; omega) (p := r) (q := q) (r := r') ⟨w7, by omega⟩ ⟨hv2.1, by omega⟩ ⟨y1, by omega⟩ w9 y3
          have := ih u (i + 1) r' g w1 w2 (by omega) (by omega) (by omega) (by omega) (by omega) y1 y2 hless.1 hless.2.1 (by omega)
          rw [Md_way_65]
          simp (disch := omega) only [↓jb_m, ↓jm_s, ↓reduceIte, t_lt, t_nlt, t_le, t_nle, t_eq, t_neq, w32_id, w64_id, jb_s, and_true, true_and, and_self, and_false, false_and, or_true, true_or, or_false, false_or, or_self, not_false_eq_true, not_true_eq_false, u_ne, u_eq, u_u, Int.reduceAdd, Int.reduceSub, Int.reduceMul, Int.reduceNeg, Int.zero_add, Int.add_zero, n15, n16, q10, q11, q12, q13, q14, y5]
          exact this
      by_cases hkn : k ≤ n
      · obtain ⟨u0', g1, g2, g3⟩ := far 0
        have e0 : u0' 164 (6 * p + q) = 16 * S + n := by
          rcases MINP_2 x1 g3 (p := p) (q := q) (by omega) (by omega) with ⟨b1, b2, -⟩ | ⟨n', S', b0, b1, b2, b3, b4, b5⟩ <;> omega
        obtain ⟨r', w0, w1, w2⟩ := walk k.toNat u0' 0 p jFU jFU g3 (fun o => by rw [g2 160 o (by unfold a164; omega)]; simp (disch := omega) only [↓jb_m, ↓jm_s, ↓reduceIte, t_lt, t_nlt, t_le, t_nle, t_eq, t_neq, w32_id, w64_id, jb_s, and_true, true_and, and_self, and_false, false_and, or_true, true_or, or_false, false_or, or_self, not_false_eq_true, not_true_eq_false, u_ne, u_eq, u_u, Int.reduceAdd, Int.reduceSub, Int.reduceMul, Int.reduceNeg, Int.zero_add, Int.add_zero, n15, n16, q10, q11, q12, q13, q14]) (by omega) (by omega) (by omega) (Nat.lt_of_lt_of_le (m := 400) (by omega) (jFU_ge (by decide))) (Nat.lt_of_lt_of_le (m := 400) (by omega) (jFU_ge (by decide))) hv.1 hv.2 (by omega) (by omega) (by omega)
        refine OKc.scr (w := 0) (r := r') (v := u0') h ?_ ?_ (g2.wk (fun a b z => by unfold a164 at z; omega))
        · simp (disch := omega) only [↓jb_m, ↓jm_s, ↓reduceIte, t_lt, t_nlt, t_le, t_nle, t_eq, t_neq, w32_id, w64_id, jb_s, and_true, true_and, and_self, and_false, false_and, or_true, true_or, or_false, false_or, or_self, not_false_eq_true, not_true_eq_false, u_ne, u_eq, u_u, Int.reduceAdd, Int.reduceSub, Int.reduceMul, Int.reduceNeg, Int.zero_add, Int.add_zero, n15, n16, q10, q11, q12, q13, q14, Jc_way, Se_placeOnWay, Se_wayLength, m6, ej, w1, Jc_answer, Jc_refuse, Jc_deny, Jc_grant, Se_isMould, Se_isStuff, Se_isPlace, hj]
        · simp (disch := omega) only [↓jb_m, ↓jm_s, ↓reduceIte, t_lt, t_nlt, t_le, t_nle, t_eq, t_neq, w32_id, w64_id, jb_s, and_true, true_and, and_self, and_false, false_and, or_true, true_or, or_false, false_or, or_self, not_false_eq_true, not_true_eq_false, u_ne, u_eq, u_u, Int.reduceAdd, Int.reduceSub, Int.reduceMul, Int.reduceNeg, Int.zero_add, Int.add_zero, n15, n16, q10, q11, q12, q13, q14, Md_way, g1, Md_farOf, Md_isMouldAt, Md_isStuffAt, Md_isPlaceAt, Md_isTray, Md_isIn_1, Md_isIn_0, Md_refuse, Md_no]
          exact w2
      · refine no8 u8 k1 k2 ?_ ?_
        · simp (disch := omega) only [↓jb_m, ↓jm_s, ↓reduceIte, t_lt, t_nlt, t_le, t_nle, t_eq, t_neq, w32_id, w64_id, jb_s, and_true, true_and, and_self, and_false, false_and, or_true, true_or, or_false, false_or, or_self, not_false_eq_true, not_true_eq_false, u_ne, u_eq, u_u, Int.reduceAdd, Int.reduceSub, Int.reduceMul, Int.reduceNeg, Int.zero_add, Int.add_zero, n15, n16, q10, q11, q12, q13, q14, Jc_way, Se_placeOnWay, Se_wayLength, m6, ej, Jc_answer, Jc_refuse, Jc_deny, Jc_grant, Se_isMould, Se_isStuff, Se_isPlace, hj]
        · have := over n u8 0 p jFU k3 (fun o => by rw [k2 160 o (by unfold a164; omega)]; simp (disch := omega) only [↓jb_m, ↓jm_s, ↓reduceIte, t_lt, t_nlt, t_le, t_nle, t_eq, t_neq, w32_id, w64_id, jb_s, and_true, true_and, and_self, and_false, false_and, or_true, true_or, or_false, false_or, or_self, not_false_eq_true, not_true_eq_false, u_ne, u_eq, u_u, Int.reduceAdd, Int.reduceSub, Int.reduceMul, Int.reduceNeg, Int.zero_add, Int.add_zero, n15, n16, q10, q11, q12, q13, q14]) (by omega) (by omega) (by omega) (by omega) (Nat.lt_of_lt_of_le (m := 400) (by omega) (jFU_ge (by decide))) hv.1 hv.2 (by omega) (by omega) (by omega)
          simp (disch := omega) only [↓jb_m, ↓jm_s, ↓reduceIte, t_lt, t_nlt, t_le, t_nle, t_eq, t_neq, w32_id, w64_id, jb_s, and_true, true_and, and_self, and_false, false_and, or_true, true_or, or_false, false_or, or_self, not_false_eq_true, not_true_eq_false, u_ne, u_eq, u_u, Int.reduceAdd, Int.reduceSub, Int.reduceMul, Int.reduceNeg, Int.zero_add, Int.add_zero, n15, n16, q10, q11, q12, q13, q14, Md_way, k1, Md_farOf, Md_isMouldAt, Md_isStuffAt, Md_isPlaceAt, Md_isTray, Md_isIn_1, Md_isIn_0, Md_refuse, Md_no]
          exact this
