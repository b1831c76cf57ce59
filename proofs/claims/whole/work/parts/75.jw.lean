/-! the class joins the walks -/
def r5 (B a _b : Int) : Prop := a = B + 5
theorem wayLen {B p q : Int} {s : jM} (hp : 0 ≤ p ∧ p < 6) (hq : 0 ≤ q ∧ q < 6) : Se_wayLength B p q s = some (s (B + 5) (6 * p + q), s) := by
  rw [Se_wayLength, show p * 6 + q = 6 * p + q by omega, w32_id (x := 6 * p + q) (by omega) (by omega), if_pos (by omega)]
theorem jw22 {B m p q : Int} {k12 : Int → Int → Int → jM → Option (Int × jM)} {s : jM} {f : Nat} (hm : 0 ≤ m ∧ m < 6) (hp : 0 ≤ p ∧ p < 6) (h5 : 0 ≤ s B 5 ∧ s B 5 ≤ 6) (hq : 0 ≤ q ∧ q < s B 5) : Se_joinWalks_22 k12 (f + 1) B m p q s = Se_joinWalks_22 k12 f B m p (q + 1) (jup s (B + 5) (6 * p + q) (jmin (s (B + 5) (6 * p + q)) (s (B + 5) (6 * p + m) + s (B + 5) (6 * m + q)))) := by
  rw [Se_joinWalks_22, w32_id (x := q) (by omega) (by omega), w32_id (x := s B 5) (by omega) (by omega), if_pos hq.2, wayLen hp hm, jb_t, wayLen hm (by omega), jb_t, wayLen hp (by omega), jb_t, show p * 6 + q = 6 * p + q by omega, w32_id (x := 6 * p + q) (by omega) (by omega), if_pos (by omega)]
theorem jw22e {B m p q : Int} {k12 : Int → Int → Int → jM → Option (Int × jM)} {s : jM} {f : Nat} (h5 : 0 ≤ s B 5 ∧ s B 5 ≤ 6) (hq : q = s B 5) : Se_joinWalks_22 k12 (f + 1) B m p q s = k12 B m (p + 1) s := by
  rw [Se_joinWalks_22, w32_id (x := q) (by omega) (by omega), w32_id (x := s B 5) (by omega) (by omega), if_neg (by omega)]
/-! whatever lies there, it ends -/
theorem jt22 {B m p n : Int} {k12 : Int → Int → Int → jM → Option (Int × jM)} (hn : 0 ≤ n ∧ n ≤ 6) (hm : 0 ≤ m ∧ m < 6) (hp : 0 ≤ p ∧ p < 6) : ∀ (d f : Nat) (q : Int) (s : jM), q + d = n → 0 ≤ q → d < f → s B 5 = n → ∃ t, Se_joinWalks_22 k12 f B m p q s = k12 B m (p + 1) t ∧ EX (r5 B) s t := by
  intro d
  induction d with
  | zero =>
    intro f q s h1 h2 h3 h4
    obtain ⟨f, rfl⟩ : ∃ g, f = g + 1 := ⟨f - 1, by omega⟩
    exact ⟨s, jw22e (by omega) (by omega), EX.rf _ _⟩
  | succ d ih =>
    intro f q s h1 h2 h3 h4
    obtain ⟨f, rfl⟩ : ∃ g, f = g + 1 := ⟨f - 1, by omega⟩
    rw [jw22 hm hp (by omega) (by omega)]
    obtain ⟨t, t1, t2⟩ := ih f (q + 1) (jup s (B + 5) (6 * p + q) (jmin (s (B + 5) (6 * p + q)) (s (B + 5) (6 * p + m) + s (B + 5) (6 * m + q)))) (by omega) (by omega) (by omega) (by rw [u_ne (by omega)]; exact h4)
    exact ⟨t, t1, EX.tr ((EX.rf (r5 B) s).up rfl) t2⟩
theorem jt12 {B m n : Int} {k2 : Int → Int → jM → Option (Int × jM)} (hn : 0 ≤ n ∧ n ≤ 6) (hm : 0 ≤ m ∧ m < 6) : ∀ (d f : Nat) (p : Int) (s : jM), p + d = n → 0 ≤ p → d < f → s B 5 = n → ∃ t, Se_joinWalks_12 k2 f B m p s = k2 B (m + 1) t ∧ EX (r5 B) s t := by
  intro d
  induction d with
  | zero =>
    intro f p s h1 h2 h3 h4
    obtain ⟨f, rfl⟩ : ∃ g, f = g + 1 := ⟨f - 1, by omega⟩
    exact ⟨s, by rw [Se_joinWalks_12, w32_id (x := p) (by omega) (by omega), w32_id (x := s B 5) (by omega) (by omega), if_neg (by omega)], EX.rf _ _⟩
  | succ d ih =>
    intro f p s h1 h2 h3 h4
    obtain ⟨f, rfl⟩ : ∃ g, f = g + 1 := ⟨f - 1, by omega⟩
    obtain ⟨v, v1, v2⟩ := jt22 (k12 := Se_joinWalks_12 k2 f) (p := p) hn hm (by omega) n.toNat jFU 0 s (by omega) (by omega) (bub_ge (by omega)) h4
    obtain ⟨t, t1, t2⟩ := ih f (p + 1) v (by omega) (by omega) (by omega) (by rw [v2 _ _ (by unfold r5; omega)]; exact h4)
    refine ⟨t, ?_, v2.tr t2⟩
    rw [Se_joinWalks_12, w32_id (x := p) (by omega) (by omega), w32_id (x := s B 5) (by omega) (by omega), if_pos (by omega), v1]
    exact t1
theorem jt2 {B n : Int} (hn : 0 ≤ n ∧ n ≤ 6) : ∀ (d f : Nat) (m : Int) (s : jM), m + d = n → 0 ≤ m → d < f → s B 5 = n → ∃ t, Se_joinWalks_2 f B m s = some (0, t) ∧ EX (r5 B) s t := by
  intro d
  induction d with
  | zero =>
    intro f p s h1 h2 h3 h4
    obtain ⟨f, rfl⟩ : ∃ g, f = g + 1 := ⟨f - 1, by omega⟩
    exact ⟨s, by rw [Se_joinWalks_2, w32_id (x := p) (by omega) (by omega), w32_id (x := s B 5) (by omega) (by omega), if_neg (by omega)], EX.rf _ _⟩
  | succ d ih =>
    intro f m s h1 h2 h3 h4
    obtain ⟨f, rfl⟩ : ∃ g, f = g + 1 := ⟨f - 1, by omega⟩
    obtain ⟨v, v1, v2⟩ := jt12 (k2 := Se_joinWalks_2 f) (m := m) hn (by omega) n.toNat jFU 0 s (by omega) (by omega) (bub_ge (by omega)) h4
    obtain ⟨t, t1, t2⟩ := ih f (m + 1) v (by omega) (by omega) (by omega) (by rw [v2 _ _ (by unfold r5; omega)]; exact h4)
    refine ⟨t, ?_, v2.tr t2⟩
    rw [Se_joinWalks_2, w32_id (x := m) (by omega) (by omega), w32_id (x := s B 5) (by omega) (by omega), if_pos (by omega), v1]
    exact t1
theorem join_t {B : Int} {s : jM} (h5 : 0 ≤ s B 5 ∧ s B 5 ≤ 6) : ∃ t, Se_joinWalks B s = some (0, t) ∧ EX (r5 B) s t := jt2 h5 (s B 5).toNat jFU 0 s (by omega) (by omega) (bub_ge (by omega)) rfl
/-! what it finds -/
theorem jg22 {d : Int → Int} {B m p n : Int} {k12 : Int → Int → Int → jM → Option (Int × jM)} (hn : 0 ≤ n ∧ n ≤ 6) (hm : 0 ≤ m ∧ m < 6) (hp : 0 ≤ p ∧ p < 6) (h0 : d (6 * m + m) = 0) (hb : ∀ j, 0 ≤ j → j < 36 → 0 ≤ d j ∧ d j ≤ 1000000) (hq0 : ∀ q, n ≤ q → q < 6 → dP d m (6 * p + q) = d (6 * p + q)) : ∀ (f : Nat) (q : Int) (s : jM), 0 ≤ q → q ≤ n → (n - q).toNat < f → s B 5 = n → (∀ j, 0 ≤ j → j < 36 → s (B + 5) j = cur d m (6 * p + q) j) → ∃ t, Se_joinWalks_22 k12 f B m p q s = k12 B m (p + 1) t ∧ EX (r5 B) s t ∧ ∀ j, 0 ≤ j → j < 36 → t (B + 5) j = cur d m (6 * (p + 1)) j := by
  intro f
  induction f with
  | zero => intro q s h1 h2 h3; omega
  | succ f ih =>
    intro q s h1 h2 h3 h5 h4
    by_cases hk : q < n
    · have q6 : 0 ≤ q ∧ q < 6 := by omega
      have g1 : s (B + 5) (6 * p + q) = d (6 * p + q) := by rw [h4 _ (by omega) (by omega)]; unfold cur; rw [if_neg (by omega)]
      have g2 : s (B + 5) (6 * p + m) = d (6 * p + m) := by rw [h4 _ (by omega) (by omega), cur_m1 hm h0]
      have g3 : s (B + 5) (6 * m + q) = d (6 * m + q) := by rw [h4 _ (by omega) (by omega), cur_m2 q6 h0]
      have b1 := hb (6 * p + q) (by omega) (by omega)
      have b2 := hb (6 * p + m) (by omega) (by omega)
      have b3 := hb (6 * m + q) (by omega) (by omega)
      have hjm := jmin_e (a := d (6 * p + q)) (b := d (6 * p + m) + d (6 * m + q)) ⟨by omega, by omega⟩ ⟨by omega, by omega⟩
      rw [← dP_at q6] at hjm
      obtain ⟨t, t1, t2, t3⟩ := ih (q + 1) (jup s (B + 5) (6 * p + q) (dP d m (6 * p + q))) (by omega) (by omega) (by omega) (by rw [u_ne (by omega)]; exact h5) (fun j j1 j2 => by
        by_cases e : j = 6 * p + q
        · rw [u_eq ⟨rfl, e⟩, e]
          unfold cur
          rw [if_pos (by omega)]
        · rw [u_ne (by omega), h4 j j1 j2]
          unfold cur
          by_cases e2 : j < 6 * p + q
          · rw [if_pos e2, if_pos (by omega)]
          · rw [if_neg e2, if_neg (by omega)])
      refine ⟨t, ?_, EX.tr ((EX.rf (r5 B) s).up rfl) t2, t3⟩
      rw [jw22 hm hp (by omega) (by omega), g1, g2, g3, hjm]
      exact t1
    · refine ⟨s, jw22e (by omega) (by omega), EX.rf _ _, fun j j1 j2 => ?_⟩
      rw [h4 j j1 j2]
      unfold cur
      by_cases e : j < 6 * p + q
      · rw [if_pos e, if_pos (by omega)]
      · rw [if_neg e]
        by_cases e2 : j < 6 * (p + 1)
        · have := hq0 (j - 6 * p) (by omega) (by omega)
          rw [show 6 * p + (j - 6 * p) = j by omega] at this
          rw [if_pos e2, this]
        · rw [if_neg e2]
theorem jg12 {d : Int → Int} {B m n : Int} {k2 : Int → Int → jM → Option (Int × jM)} (hn : 0 ≤ n ∧ n ≤ 6) (hm : 0 ≤ m ∧ m < 6) (h0 : d (6 * m + m) = 0) (hb : ∀ j, 0 ≤ j → j < 36 → 0 ≤ d j ∧ d j ≤ 1000000) (hq0 : ∀ p q, 0 ≤ p → p < 6 → 0 ≤ q → q < 6 → n ≤ p ∨ n ≤ q → dP d m (6 * p + q) = d (6 * p + q)) : ∀ (f : Nat) (p : Int) (s : jM), 0 ≤ p → p ≤ n → (n - p).toNat < f → s B 5 = n → (∀ j, 0 ≤ j → j < 36 → s (B + 5) j = cur d m (6 * p) j) → ∃ t, Se_joinWalks_12 k2 f B m p s = k2 B (m + 1) t ∧ EX (r5 B) s t ∧ ∀ j, 0 ≤ j → j < 36 → t (B + 5) j = dP d m j := by
  intro f
  induction f with
  | zero => intro q s h1 h2 h3; omega
  | succ f ih =>
    intro p s h1 h2 h3 h5 h4
    by_cases hk : p < n
    · obtain ⟨t, t1, t2, t3⟩ := jg22 (k12 := Se_joinWalks_12 k2 f) (B := B) (p := p) hn hm (by omega) h0 hb (fun q a b => hq0 p q (by omega) (by omega) (by omega) b (Or.inr a)) jFU 0 s (by omega) (by omega) (bub_ge (by omega)) h5 (fun j j1 j2 => by rw [h4 j j1 j2, Int.add_zero])
      obtain ⟨v, v1, v2, v3⟩ := ih (p + 1) t (by omega) (by omega) (by omega) (by rw [t2 _ _ (by unfold r5; omega)]; exact h5) t3
      refine ⟨v, ?_, t2.tr v2, v3⟩
      rw [Se_joinWalks_12, w32_id (x := p) (by omega) (by omega), w32_id (x := s B 5) (by omega) (by omega), if_pos (by omega), t1]
      exact v1
    · refine ⟨s, by rw [Se_joinWalks_12, w32_id (x := p) (by omega) (by omega), w32_id (x := s B 5) (by omega) (by omega), if_neg (by omega)], EX.rf _ _, fun j j1 j2 => ?_⟩
      rw [h4 j j1 j2]
      unfold cur
      by_cases e : j < 6 * p
      · rw [if_pos e]
      · rw [if_neg e]
        have := hq0 (j / 6) (j % 6) (by omega) (by omega) (by omega) (by omega) (Or.inl (by omega))
        rw [show 6 * (j / 6) + j % 6 = j by omega] at this
        exact this.symm
/-- beyond the places nothing is reached -/
theorem FWI_far {d c : Int → Int} {m p q : Int} (h : FWI 64 1000000 d c m) (hw : WKS c) (hp : 0 ≤ p ∧ p < 6) (hq : 0 ≤ q ∧ q < 6) (hne : p ≠ q) (ho : c 1 ≤ p ∨ c 1 ≤ q) : d (6 * p + q) = 1000000 := by
  obtain ⟨a1, a2, -, a4, -⟩ := h.1 p q hp.1 hp.2 hq.1 hq.2
  by_cases z : d (6 * p + q) < 1000000
  · obtain ⟨n, S, n1, n2⟩ := a4 z
    obtain ⟨b1, b2, b3⟩ := PATH_b hw n S p q n1
    rcases n with _ | n
    · have n1 : p = q ∧ S = 0 := n1
      exact absurd n1.1 hne
    · have := b3 (by omega)
      omega
  · omega
theorem dP_out {d c : Int → Int} {m n p q : Int} (h : FWI 64 1000000 d c m) (hw : WKS c) (hc : c 1 = n) (hm : 0 ≤ m ∧ m < 6) (hp : 0 ≤ p ∧ p < 6) (hq : 0 ≤ q ∧ q < 6) (ho : n ≤ p ∨ n ≤ q ∨ n ≤ m) : dP d m (6 * p + q) = d (6 * p + q) := by
  rw [dP_at hq]
  obtain ⟨a1, a2, a3, -⟩ := h.1 p q hp.1 hp.2 hq.1 hq.2
  obtain ⟨b1, b2, b3, -⟩ := h.1 p m hp.1 hp.2 hm.1 hm.2
  obtain ⟨c1, c2, c3, -⟩ := h.1 m q hm.1 hm.2 hq.1 hq.2
  by_cases e1 : p = m
  · have z := b3 e1
    subst e1
    rw [z, if_neg (by omega)]
  · by_cases e2 : m = q
    · have z := c3 e2
      subst e2
      rw [z, if_neg (by omega)]
    · by_cases y : n ≤ p ∨ n ≤ m
      · have z := FWI_far h hw hp hm e1 (by omega)
        rw [if_neg (by omega)]
      · have z := FWI_far h hw hm hq e2 (by omega)
        rw [if_neg (by omega)]
theorem jg2 {B n : Int} {c : Int → Int} (hn : 0 ≤ n ∧ n ≤ 6) (hw : WKS c) (hc : c 1 = n) : ∀ (f : Nat) (m : Int) (s : jM), 0 ≤ m → m ≤ n → (n - m).toNat < f → s B 5 = n → FWI 64 1000000 (s (B + 5)) c m → ∃ t, Se_joinWalks_2 f B m s = some (0, t) ∧ EX (r5 B) s t ∧ FWI 64 1000000 (t (B + 5)) c n := by
  intro f
  induction f with
  | zero => intro m s h1 h2 h3; omega
  | succ f ih =>
    intro m s h1 h2 h3 h5 h4
    by_cases hk : m < n
    · have m6 : 0 ≤ m ∧ m < 6 := by omega
      have hb : ∀ j, 0 ≤ j → j < 36 → 0 ≤ s (B + 5) j ∧ s (B + 5) j ≤ 1000000 := fun j j1 j2 => by
        have := h4.1 (j / 6) (j % 6) (by omega) (by omega) (by omega) (by omega)
        rw [show 6 * (j / 6) + j % 6 = j by omega] at this
        exact ⟨this.1, this.2.1⟩
      have h0 := (h4.1 m m m6.1 m6.2 m6.1 m6.2).2.2.1 rfl
      obtain ⟨t, t1, t2, t3⟩ := jg12 (d := s (B + 5)) (k2 := Se_joinWalks_2 f) (B := B) hn m6 h0 hb (fun p q p1 p2 q1 q2 z => dP_out h4 hw hc m6 ⟨p1, p2⟩ ⟨q1, q2⟩ (z.imp id Or.inl)) jFU 0 s (by omega) (by omega) (bub_ge (by omega)) h5 (fun j j1 j2 => by unfold cur; rw [if_neg (by omega)])
      obtain ⟨v, v1, v2, v3⟩ := ih (m + 1) t (by omega) (by omega) (by omega) (by rw [t2 _ _ (by unfold r5; omega)]; exact h5) (FWI_step h4 m6 (fun p q p1 p2 q1 q2 => t3 _ (by omega) (by omega)))
      refine ⟨v, ?_, t2.tr v2, v3⟩
      rw [Se_joinWalks_2, w32_id (x := m) (by omega) (by omega), w32_id (x := s B 5) (by omega) (by omega), if_pos (by omega), t1]
      exact v1
    · have e : m = n := by omega
      exact ⟨s, by rw [Se_joinWalks_2, w32_id (x := m) (by omega) (by omega), w32_id (x := s B 5) (by omega) (by omega), if_neg (by omega)], EX.rf _ _, by rw [← e]; exact h4⟩
theorem FWI_up {d c : Int → Int} {n : Int} (hw : WKS c) (hc : c 1 = n) : ∀ (k : Nat) (m : Int), 0 ≤ m → n ≤ m → m + k = 6 → FWI 64 1000000 d c m → FWI 64 1000000 d c 6 := by
  intro k
  induction k with
  | zero => intro m _ _ h1 h; rw [show (6 : Int) = m by omega]; exact h
  | succ k ih =>
    intro m m0 m1 h1 h
    exact ih (m + 1) (by omega) (by omega) (by omega) (FWI_step h (by omega) (fun p q p1 p2 q1 q2 => (dP_out h hw hc (by omega) ⟨p1, p2⟩ ⟨q1, q2⟩ (Or.inr (Or.inr m1))).symm))
theorem join_eq {B : Int} {s u : jM} (h : RDs B s u) : ∃ t, Se_joinWalks B s = some (0, t) ∧ EX (r5 B) s t ∧ MINP 64 1000000 (t (B + 5)) (cR u) := by
  have bd := RS_b h
  have c5 : s B 5 = u 160 1525 := h.2.1.2.2.2.2.2.2.2.2.2.1
  obtain ⟨hw, he⟩ := h.2.2.2.2.2.1
  have f0 := E0_FWI (k := 64) (far := 1000000) (c := cR u) he hw (by omega) (by omega)
  have c1 : cR u 1 = u 160 1525 := rfl
  obtain ⟨t, t1, t2, t3⟩ := jg2 (B := B) (n := u 160 1525) bd.2.2.1 hw c1 jFU 0 s (by omega) (by omega) (bub_ge (by omega)) c5 f0
  refine ⟨t, t1, t2, FWI_MINP (FWI_up hw c1 (6 - u 160 1525).toNat (u 160 1525) (by omega) (Int.le_refl _) (by omega) t3) hw (by rw [c1]; omega) (by omega) (by omega)⟩
