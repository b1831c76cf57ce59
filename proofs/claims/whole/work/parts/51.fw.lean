/-! WALKS: the least shaken ways, by any scale -/
theorem PATH_b {c : Int → Int} (h : WKS c) : ∀ (n : Nat) (S p q : Int), PATH c n S p q → 0 ≤ S ∧ S ≤ 9 * n ∧ (1 ≤ n → 0 ≤ p ∧ p < c 1 ∧ 0 ≤ q ∧ q < c 1) := by
  intro n
  induction n with
  | zero => intro S p q hp; have hp : p = q ∧ S = 0 := hp; omega
  | succ n ih =>
    intro S p q hp
    obtain ⟨r, e, ⟨x, x1, x2, x3, x4⟩, h2⟩ := hp
    have hw := h x x1 x2
    have := ih _ _ _ h2
    cases n with
    | zero => have h2 : r = q ∧ S - e = 0 := h2; omega
    | succ n => omega
theorem PATH_app {c : Int → Int} : ∀ (n m : Nat) (S T p r q : Int), PATH c n S p r → PATH c m T r q → PATH c (n + m) (S + T) p q := by
  intro n
  induction n with
  | zero =>
    intro m S T p r q h1 h2
    have h1 : p = r ∧ S = 0 := h1
    rw [h1.1, h1.2, Nat.zero_add, Int.zero_add]
    exact h2
  | succ n ih =>
    intro m S T p r q h1 h2
    obtain ⟨a, e, g1, g2⟩ := h1
    rw [show n + 1 + m = n + m + 1 by omega]
    refine ⟨a, e, g1, ?_⟩
    rw [show S + T - e = (S - e) + T by omega]
    exact ih m _ _ _ _ _ g2 h2
/-- the walks so far -/
def EDW (c : Int → Int) (w p r h : Int) : Prop := ∃ x, 0 ≤ x ∧ x < w ∧ ((c (24 + x) = p ∧ c (34 + x) = r) ∨ (c (24 + x) = r ∧ c (34 + x) = p)) ∧ c (44 + x) = h
def E0 (k far : Int) (d : Int → Int) (c : Int → Int) (w : Int) : Prop := ∀ p q, 0 ≤ p → p < 6 → 0 ≤ q → q < 6 → (p = q → d (6 * p + q) = 0) ∧ (p ≠ q → (∀ h, EDW c w p q h → d (6 * p + q) ≤ k * h + 1) ∧ (d (6 * p + q) = far ∨ ∃ h, EDW c w p q h ∧ d (6 * p + q) = k * h + 1))
/-- through the first m places -/
def FWI (k far : Int) (d : Int → Int) (c : Int → Int) (m : Int) : Prop := (∀ p q, 0 ≤ p → p < 6 → 0 ≤ q → q < 6 → 0 ≤ d (6 * p + q) ∧ d (6 * p + q) ≤ far ∧ (p = q → d (6 * p + q) = 0) ∧ (d (6 * p + q) < far → ∃ n S, PATH c n S p q ∧ d (6 * p + q) = k * S + n) ∧ ∀ h, EDG c p q h → d (6 * p + q) ≤ k * h + 1) ∧
  ∀ p q v, 0 ≤ p → p < 6 → 0 ≤ q → q < 6 → 0 ≤ v → v < m → d (6 * p + q) ≤ d (6 * p + v) + d (6 * v + q)
theorem E0_FWI {k far : Int} {d c : Int → Int} (h : E0 k far d c (c 8)) (hw : WKS c) (hk : 1 ≤ k ∧ k ≤ 100) (hf : 1000 ≤ far) : FWI k far d c 0 := by
  refine ⟨fun p q p1 p2 q1 q2 => ?_, fun p q v _ _ _ _ v1 v2 => by omega⟩
  obtain ⟨h1, h2⟩ := h p q p1 p2 q1 q2
  by_cases e : p = q
  · have e0 := h1 e
    refine ⟨by omega, by omega, fun _ => e0, fun _ => ⟨0, 0, ⟨e, rfl⟩, by rw [e0, Int.mul_zero]; rfl⟩, fun x hx => ?_⟩
    obtain ⟨y, y1, y2, y3, y4⟩ := hx
    have := (hw y y1 y2)
    exact absurd e (by omega)
  · obtain ⟨h3, h4⟩ := h2 e
    have hb : 0 ≤ d (6 * p + q) ∧ d (6 * p + q) ≤ far := by
      rcases h4 with h4 | ⟨x, ⟨y, y1, y2, y3, y4⟩, h4⟩
      · omega
      · have := hw y y1 y2
        have b1 : 0 ≤ k * x := Int.mul_nonneg (by omega) (by omega)
        have b2 : k * x ≤ 100 * 9 := Int.mul_le_mul hk.2 (by omega) (by omega) (by omega)
        omega
    refine ⟨hb.1, hb.2, fun z => absurd z e, fun z => ?_, h3⟩
    rcases h4 with h4 | ⟨x, hx, h4⟩
    · omega
    · refine ⟨1, x, ⟨q, x, hx, rfl, by omega⟩, ?_⟩
      rw [h4]
      rfl
/-- one place more: all at once -/
def dP (d : Int → Int) (m j : Int) : Int := if d (6 * (j / 6) + m) + d (6 * m + j % 6) < d j then d (6 * (j / 6) + m) + d (6 * m + j % 6) else d j
theorem dP_at {d : Int → Int} {m p q : Int} (hq : 0 ≤ q ∧ q < 6) : dP d m (6 * p + q) = if d (6 * p + m) + d (6 * m + q) < d (6 * p + q) then d (6 * p + m) + d (6 * m + q) else d (6 * p + q) := by
  unfold dP
  rw [show (6 * p + q) / 6 = p by omega, show (6 * p + q) % 6 = q by omega]
theorem FWI_step {k far : Int} {d d' c : Int → Int} {m : Int} (h : FWI k far d c m) (hm : 0 ≤ m ∧ m < 6) (hd : ∀ p q, 0 ≤ p → p < 6 → 0 ≤ q → q < 6 → d' (6 * p + q) = dP d m (6 * p + q)) : FWI k far d' c (m + 1) := by
  obtain ⟨h1, h2⟩ := h
  refine ⟨fun p q p1 p2 q1 q2 => ?_, fun p q v p1 p2 q1 q2 v1 v2 => ?_⟩
  · obtain ⟨a1, a2, a3, a4, a5⟩ := h1 p q p1 p2 q1 q2
    obtain ⟨b1, b2, b3, b4, b5⟩ := h1 p m p1 p2 hm.1 hm.2
    obtain ⟨e1, e2, e3, e4, e5⟩ := h1 m q hm.1 hm.2 q1 q2
    rw [hd p q p1 p2 q1 q2, dP_at ⟨q1, q2⟩]
    by_cases hc : d (6 * p + m) + d (6 * m + q) < d (6 * p + q)
    · rw [if_pos hc]
      refine ⟨by omega, by omega, fun z => by have := a3 z; omega, fun _ => ?_, fun x hx => by have := a5 x hx; omega⟩
      obtain ⟨n1, S1, y1, y2⟩ := b4 (by omega)
      obtain ⟨n2, S2, z1, z2⟩ := e4 (by omega)
      refine ⟨n1 + n2, S1 + S2, PATH_app _ _ _ _ _ _ _ y1 z1, ?_⟩
      rw [y2, z2, Int.mul_add, Int.natCast_add]
      omega
    · rw [if_neg hc]
      exact ⟨a1, a2, a3, a4, a5⟩
  · rw [hd p q p1 p2 q1 q2, hd p v p1 p2 v1 (by omega), hd v q v1 (by omega) q1 q2, dP_at ⟨q1, q2⟩, dP_at ⟨v1, by omega⟩, dP_at ⟨q1, q2⟩]
    have n1 := (h1 p m p1 p2 hm.1 hm.2).1
    have n2 := (h1 m q hm.1 hm.2 q1 q2).1
    have n3 := (h1 m v hm.1 hm.2 v1 (by omega)).1
    have n4 := (h1 v m v1 (by omega) hm.1 hm.2).1
    have n5 := (h1 m m hm.1 hm.2 hm.1 hm.2).2.2.1 rfl
    by_cases e : v = m
    · rw [e, n5]
      split <;> split <;> split <;> omega
    · have t1 := h2 p q v p1 p2 q1 q2 v1 (by omega)
      have t2 := h2 m q v hm.1 hm.2 q1 q2 v1 (by omega)
      have t3 := h2 p m v p1 p2 hm.1 hm.2 v1 (by omega)
      split <;> split <;> split <;> omega
theorem FWI_le {k far : Int} {d c : Int → Int} (h : FWI k far d c 6) (hw : WKS c) (h1 : c 1 ≤ 6) : ∀ (n : Nat) (S p q : Int), 0 ≤ p → p < 6 → 0 ≤ q → q < 6 → PATH c n S p q → d (6 * p + q) ≤ k * S + n := by
  intro n
  induction n with
  | zero =>
    intro S p q p1 p2 q1 q2 hp
    have hp : p = q ∧ S = 0 := hp
    have := (h.1 p q p1 p2 q1 q2).2.2.1 hp.1
    rw [this, hp.2, Int.mul_zero]
    omega
  | succ n ih =>
    intro S p q p1 p2 q1 q2 hp
    obtain ⟨r, e, g1, g2⟩ := hp
    obtain ⟨x, x1, x2, x3, x4⟩ := id g1
    have hx := hw x x1 x2
    have r1 : 0 ≤ r ∧ r < 6 := by omega
    have t1 := (h.1 p r p1 p2 r1.1 r1.2).2.2.2.2 e g1
    have t2 := ih _ r q r1.1 r1.2 q1 q2 g2
    have t3 := h.2 p q r p1 p2 q1 q2 r1.1 r1.2
    rw [Int.mul_sub] at t2
    omega
def rk1 (a x : Int) : Int := if a < x then 1 else 0
def rk (d : Int → Int) (q x : Int) : Int := rk1 (d (6 * 0 + q)) x + rk1 (d (6 * 1 + q)) x + rk1 (d (6 * 2 + q)) x + rk1 (d (6 * 3 + q)) x + rk1 (d (6 * 4 + q)) x + rk1 (d (6 * 5 + q)) x
theorem rk1_b (a x : Int) : 0 ≤ rk1 a x ∧ rk1 a x ≤ 1 := by unfold rk1; split <;> omega
theorem rk1_m (a : Int) {x y : Int} (h : x ≤ y) : rk1 a x ≤ rk1 a y := by unfold rk1; split <;> split <;> omega
theorem rk_s {d : Int → Int} {q r y : Int} (hr : 0 ≤ r ∧ r < 6) (h : d (6 * r + q) < y) : rk d q (d (6 * r + q)) + 1 ≤ rk d q y := by
  have m0 := rk1_m (d (6 * 0 + q)) (Int.le_of_lt h)
  have m1 := rk1_m (d (6 * 1 + q)) (Int.le_of_lt h)
  have m2 := rk1_m (d (6 * 2 + q)) (Int.le_of_lt h)
  have m3 := rk1_m (d (6 * 3 + q)) (Int.le_of_lt h)
  have m4 := rk1_m (d (6 * 4 + q)) (Int.le_of_lt h)
  have m5 := rk1_m (d (6 * 5 + q)) (Int.le_of_lt h)
  have e1 : rk1 (d (6 * r + q)) y = 1 := if_pos h
  have e0 : rk1 (d (6 * r + q)) (d (6 * r + q)) = 0 := if_neg (by omega)
  unfold rk
  rcases (by omega : r = 0 ∨ r = 1 ∨ r = 2 ∨ r = 3 ∨ r = 4 ∨ r = 5) with z | z | z | z | z | z <;> subst z <;> omega
theorem rk_5 {d : Int → Int} {p q : Int} (hp : 0 ≤ p ∧ p < 6) : rk d q (d (6 * p + q)) ≤ 5 := by
  have m0 := rk1_b (d (6 * 0 + q)) (d (6 * p + q))
  have m1 := rk1_b (d (6 * 1 + q)) (d (6 * p + q))
  have m2 := rk1_b (d (6 * 2 + q)) (d (6 * p + q))
  have m3 := rk1_b (d (6 * 3 + q)) (d (6 * p + q))
  have m4 := rk1_b (d (6 * 4 + q)) (d (6 * p + q))
  have m5 := rk1_b (d (6 * 5 + q)) (d (6 * p + q))
  have e0 : rk1 (d (6 * p + q)) (d (6 * p + q)) = 0 := if_neg (by omega)
  unfold rk
  rcases (by omega : p = 0 ∨ p = 1 ∨ p = 2 ∨ p = 3 ∨ p = 4 ∨ p = 5) with z | z | z | z | z | z <;> subst z <;> omega
theorem rk_0 {d : Int → Int} {q x : Int} : 0 ≤ rk d q x := by
  have m0 := rk1_b (d (6 * 0 + q)) x
  have m1 := rk1_b (d (6 * 1 + q)) x
  have m2 := rk1_b (d (6 * 2 + q)) x
  have m3 := rk1_b (d (6 * 3 + q)) x
  have m4 := rk1_b (d (6 * 4 + q)) x
  have m5 := rk1_b (d (6 * 5 + q)) x
  unfold rk
  omega
theorem FWI_short {k far : Int} {d c : Int → Int} (h : FWI k far d c 6) (hw : WKS c) (h1 : c 1 ≤ 6) (hk : 1 ≤ k) : ∀ (N : Nat) (p q : Int), 0 ≤ p → p < 6 → 0 ≤ q → q < 6 → d (6 * p + q) < far → d (6 * p + q) < N → ∃ (n : Nat) (S : Int), PATH c n S p q ∧ d (6 * p + q) = k * S + n ∧ (n : Int) ≤ rk d q (d (6 * p + q)) := by
  intro N
  induction N with
  | zero =>
    intro p q p1 p2 q1 q2 h2 h3
    have := (h.1 p q p1 p2 q1 q2).1
    omega
  | succ N ih =>
    intro p q p1 p2 q1 q2 h2 h3
    obtain ⟨n, S, g1, g2⟩ := (h.1 p q p1 p2 q1 q2).2.2.2.1 h2
    cases n with
    | zero =>
      have := rk_0 (d := d) (q := q) (x := d (6 * p + q))
      exact ⟨0, S, g1, g2, by omega⟩
    | succ n =>
      obtain ⟨r, e, x1, x2⟩ := g1
      obtain ⟨x, y1, y2, y3, y4⟩ := id x1
      have hx := hw x y1 y2
      have r1 : 0 ≤ r ∧ r < 6 := by omega
      have t1 := (h.1 p r p1 p2 r1.1 r1.2).2.2.2.2 e x1
      have t2 := FWI_le h hw h1 n _ r q r1.1 r1.2 q1 q2 x2
      have t3 := h.2 p q r p1 p2 q1 q2 r1.1 r1.2
      rw [Int.mul_sub] at t2
      have ke : 0 ≤ k * e := Int.mul_nonneg (by omega) (by omega)
      obtain ⟨n2, S2, z1, z2, z3⟩ := ih r q r1.1 r1.2 q1 q2 (by omega) (by omega)
      have hs := rk_s (d := d) (q := q) (r := r) (y := d (6 * p + q)) r1 (by omega)
      refine ⟨n2 + 1, S2 + e, ⟨r, e, x1, ?_⟩, ?_, by omega⟩
      · rw [show S2 + e - e = S2 by omega]
        exact z1
      · rw [Int.mul_add]
        omega
theorem FWI_MINP {k far : Int} {d c : Int → Int} (h : FWI k far d c 6) (hw : WKS c) (h1 : c 1 ≤ 6) (hk : 1 ≤ k) (hf : 54 * k + 6 < far) : MINP k far d c := by
  have short : ∀ p q, 0 ≤ p → p < 6 → 0 ≤ q → q < 6 → d (6 * p + q) < far → ∃ (n : Nat) (S : Int), PATH c n S p q ∧ n ≤ 5 ∧ 0 ≤ S ∧ S ≤ 45 ∧ d (6 * p + q) = k * S + n := by
    intro p q p1 p2 q1 q2 h2
    have h0 := (h.1 p q p1 p2 q1 q2).1
    obtain ⟨n, S, g1, g2, g3⟩ := FWI_short h hw h1 hk ((d (6 * p + q)).toNat + 1) p q p1 p2 q1 q2 h2 (by omega)
    have := rk_5 (d := d) (q := q) (p := p) ⟨p1, p2⟩
    have := PATH_b hw n S p q g1
    exact ⟨n, S, g1, by omega, by omega, by omega, g2⟩
  have reach : ∀ (n : Nat) (S p q : Int), 0 ≤ p → p < 6 → 0 ≤ q → q < 6 → PATH c n S p q → d (6 * p + q) < far := by
    intro n
    induction n with
    | zero =>
      intro S p q p1 p2 q1 q2 hp
      have hp : p = q ∧ S = 0 := hp
      have := (h.1 p q p1 p2 q1 q2).2.2.1 hp.1
      omega
    | succ n ih =>
      intro S p q p1 p2 q1 q2 hp
      obtain ⟨r, e, g1, g2⟩ := hp
      obtain ⟨x, x1, x2, x3, x4⟩ := id g1
      have hx := hw x x1 x2
      have r1 : 0 ≤ r ∧ r < 6 := by omega
      have t1 := (h.1 p r p1 p2 r1.1 r1.2).2.2.2.2 e g1
      have t3 := h.2 p q r p1 p2 q1 q2 r1.1 r1.2
      obtain ⟨n2, S2, z1, z2, z3, z4, z5⟩ := short r q r1.1 r1.2 q1 q2 (ih _ r q r1.1 r1.2 q1 q2 g2)
      have b1 : k * e ≤ k * 9 := Int.mul_le_mul_of_nonneg_left (by omega) (by omega)
      have b2 : k * S2 ≤ k * 45 := Int.mul_le_mul_of_nonneg_left (by omega) (by omega)
      omega
  intro p q p1 p2 q1 q2
  refine ⟨fun n S hp => FWI_le h hw h1 n S p q p1 p2 q1 q2 hp, ?_⟩
  by_cases hl : d (6 * p + q) < far
  · exact Or.inr (short p q p1 p2 q1 q2 hl)
  · have := (h.1 p q p1 p2 q1 q2).2.1
    exact Or.inl ⟨by omega, fun n S hp => hl (reach n S p q p1 p2 q1 q2 hp)⟩
/-- both scales tell alike -/
theorem MINP_2 {d e c : Int → Int} (h1 : MINP 64 1000000 d c) (h2 : MINP 16 10000 e c) {p q : Int} (hp : 0 ≤ p ∧ p < 6) (hq : 0 ≤ q ∧ q < 6) : (d (6 * p + q) = 1000000 ∧ e (6 * p + q) = 10000 ∧ ∀ n S, ¬ PATH c n S p q) ∨ ∃ (n : Nat) (S : Int), PATH c n S p q ∧ n ≤ 5 ∧ 0 ≤ S ∧ S ≤ 45 ∧ d (6 * p + q) = 64 * S + n ∧ e (6 * p + q) = 16 * S + n := by
  obtain ⟨a1, a2⟩ := h1 p q hp.1 hp.2 hq.1 hq.2
  obtain ⟨b1, b2⟩ := h2 p q hp.1 hp.2 hq.1 hq.2
  rcases a2 with ⟨a2, a3⟩ | ⟨n, S, a2, a3, a4, a5, a6⟩
  · rcases b2 with ⟨b2, b3⟩ | ⟨m, T, b2, b3, b4, b5, b6⟩
    · exact Or.inl ⟨a2, b2, a3⟩
    · exact absurd b2 (a3 m T)
  · rcases b2 with ⟨b2, b3⟩ | ⟨m, T, b2, b3, b4, b5, b6⟩
    · exact absurd a2 (b3 n S)
    · have x1 := a1 m T b2
      have x2 := b1 n S a2
      exact Or.inr ⟨n, S, a2, a3, a4, a5, a6, by omega⟩
