/-! names, walks and feasts of a See V and of a block c with its names w -/
/-- letters (1 to 26) as a byte each, as five bits each -/
def enc8 (l : List Int) : Int := l.foldl (fun n d => 256 * n + (96 + d)) 0
def enc5 (l : List Int) : Int := l.foldl (fun n d => 32 * n + d) 0
def LTR (l : List Int) : Prop := l ≠ [] ∧ l.length ≤ 8 ∧ ∀ d ∈ l, 1 ≤ d ∧ d ≤ 26
def WD (x y : Int) : Prop := ∃ l, LTR l ∧ x = enc8 l ∧ y = enc5 l
def nfr (t : Int) : Int := if t = 0 then 0 else if t = 1 then 5 else 11
def NMS (V : jM) (c w : Int → Int) : Prop :=
  V 0 8 = c 0 + c 1 + c 2 ∧
  (∀ k, 0 ≤ k → k < V 0 8 → 0 ≤ V 7 k ∧ V 7 k ≤ 2 ∧ 0 ≤ V 8 k ∧ V 8 k < c (V 7 k) ∧ WD (V 6 k) (w (nfr (V 7 k) + V 8 k))) ∧
  (∀ t j, 0 ≤ t → t ≤ 2 → 0 ≤ j → j < c t → ∃ k, 0 ≤ k ∧ k < V 0 8 ∧ V 7 k = t ∧ V 8 k = j) ∧
  (∀ k k', 0 ≤ k → k < V 0 8 → 0 ≤ k' → k' < V 0 8 → V 6 k = V 6 k' → k = k')
/-- a walk that shakes h; ways of n walks that shake S together -/
def EDG (c : Int → Int) (p r h : Int) : Prop := ∃ x, 0 ≤ x ∧ x < c 8 ∧ ((c (24 + x) = p ∧ c (34 + x) = r) ∨ (c (24 + x) = r ∧ c (34 + x) = p)) ∧ c (44 + x) = h
def PATH (c : Int → Int) : Nat → Int → Int → Int → Prop
  | 0, S, p, q => p = q ∧ S = 0
  | n + 1, S, p, q => ∃ r h, EDG c p r h ∧ PATH c n (S - h) r q
/-- d tells, by k times the shakes and the walks, the least of all ways; far where there is none -/
def MINP (k far : Int) (d : Int → Int) (c : Int → Int) : Prop := ∀ p q, 0 ≤ p → p < 6 → 0 ≤ q → q < 6 → (∀ n S, PATH c n S p q → d (6 * p + q) ≤ k * S + n) ∧ ((d (6 * p + q) = far ∧ ∀ n S, ¬ PATH c n S p q) ∨ ∃ (n : Nat) (S : Int), PATH c n S p q ∧ n ≤ 5 ∧ 0 ≤ S ∧ S ≤ 45 ∧ d (6 * p + q) = k * S + n)
def WKS (c : Int → Int) : Prop := ∀ x, 0 ≤ x → x < c 8 → 0 ≤ c (24 + x) ∧ c (24 + x) < c 1 ∧ 0 ≤ c (34 + x) ∧ c (34 + x) < c 1 ∧ c (24 + x) ≠ c (34 + x) ∧ 0 ≤ c (44 + x) ∧ c (44 + x) ≤ 9
/-- step a of the reference's is line l of the class's -/
def STP (V : jM) (c : Int → Int) (a l : Int) : Prop :=
  (c (111 + 9 * a) = 0 ∧ V 10 l = 13 ∧ V 11 l = c (112 + 9 * a) ∧ V 12 l = c (113 + 9 * a) ∧ V 13 l = c (114 + 9 * a) ∧ 0 ≤ c (112 + 9 * a) ∧ c (112 + 9 * a) < c 2 ∧ 0 ≤ c (113 + 9 * a) ∧ c (113 + 9 * a) < c 0 ∧ 1 ≤ c (114 + 9 * a) ∧ c (114 + 9 * a) ≤ 9) ∨
  (((c (111 + 9 * a) = 1 ∧ V 10 l = 14) ∨ (c (111 + 9 * a) = 2 ∧ V 10 l = 15) ∨ (c (111 + 9 * a) = 3 ∧ V 10 l = 16)) ∧ V 11 l = c (112 + 9 * a) ∧ 0 ≤ c (112 + 9 * a) ∧ c (112 + 9 * a) < c 2) ∨
  (c (111 + 9 * a) = 4 ∧ V 10 l = 17 ∧ V 11 l = c (112 + 9 * a) ∧ V 12 l = c (113 + 9 * a) ∧ 0 ≤ c (112 + 9 * a) ∧ c (112 + 9 * a) < c 2 ∧ 0 ≤ c (113 + 9 * a) ∧ c (113 + 9 * a) < c 1) ∨
  (c (111 + 9 * a) = 5 ∧ V 10 l = 18 ∧ V 13 l = c (112 + 9 * a) ∧ 1 ≤ c (112 + 9 * a) ∧ c (112 + 9 * a) ≤ 60) ∨
  (c (111 + 9 * a) = 6 ∧ V 10 l = 0 ∧ V 13 l = c (112 + 9 * a) ∧ 0 ≤ c (112 + 9 * a) ∧ c (112 + 9 * a) ≤ 9) ∨
  (c (111 + 9 * a) = 7 ∧ V 10 l = 19) ∨ (c (111 + 9 * a) = 10 ∧ V 10 l = 25)
def WHN (V : jM) (c : Int → Int) (a l : Int) : Prop := c (111 + 9 * a) = 8 ∧ V 11 l = c (112 + 9 * a) ∧ 0 ≤ c (112 + 9 * a) ∧ c (112 + 9 * a) < c 2 ∧
  ((c (116 + 9 * a) = 0 ∧ V 10 l = 21) ∨ (c (116 + 9 * a) = 1 ∧ V 10 l = 22 ∧ V 12 l = c (118 + 9 * a) ∧ V 13 l = c (117 + 9 * a) ∧ 60 ≤ c (118 + 9 * a) ∧ c (118 + 9 * a) ≤ 62 ∧ 0 ≤ c (117 + 9 * a) ∧ c (117 + 9 * a) ≤ 99) ∨ (c (116 + 9 * a) = 2 ∧ V 10 l = 12 ∧ V 12 l = c (113 + 9 * a) ∧ 0 ≤ c (113 + 9 * a) ∧ c (113 + 9 * a) < c 1))
def LOP (V : jM) (c : Int → Int) (a l : Int) : Prop := c (111 + 9 * a) = 9 ∧ V 10 l = 23 ∧ V 13 l = c (112 + 9 * a) ∧ 1 ≤ c (112 + 9 * a) ∧ c (112 + 9 * a) ≤ 99
/-- steps a to b (b not) are lines l to m, no deeper than d -/
def BLK (V : jM) (c : Int → Int) : Nat → Nat → Int → Int → Int → Int → Prop
  | 0, _, a, b, l, m => a = b ∧ l = m
  | n + 1, d, a, b, l, m => (a = b ∧ l = m) ∨ (STP V c a l ∧ c (119 + 9 * a) = a + 1 ∧ BLK V c n d (a + 1) b (l + 1) m) ∨
    (∃ d' e g, d = d' + 1 ∧ (WHN V c a l ∨ LOP V c a l) ∧ c (119 + 9 * a) = e ∧ V 14 l = g ∧ V 10 g = 24 ∧ V 14 g = l ∧ a < e ∧ l < g ∧ BLK V c n d' (a + 1) e (l + 1) g ∧ BLK V c n d e b (g + 1) m)
def FST (V : jM) (c : Int → Int) : Prop := (V 9 0 = 0 ∧ c 109 = 0 ∧ V 9 2 = 0) ∨ (V 9 0 = 1 ∧ c 109 = 1 ∧ V 9 1 = c 110 ∧ 0 ≤ c 110 ∧ c 110 ≤ 30 ∧ 0 ≤ V 9 2 ∧ V 9 2 ≤ 60 ∧ ∃ n, BLK V c n 3 0 (c 110) 0 (V 9 2))
def iY (V : jM) (c w : Int → Int) : Prop := NMS V c w ∧ MINP 64 1000000 (V 5) c ∧ WKS c ∧ FST V c
theorem BLK_le {V : jM} {c : Int → Int} : ∀ (n d : Nat) (a b l m : Int), BLK V c n d a b l m → a ≤ b ∧ l ≤ m := by
  intro n
  induction n with
  | zero => intro d a b l m h; have h : a = b ∧ l = m := h; omega
  | succ n ih =>
    intro d a b l m h
    rcases h with h | ⟨-, -, h⟩ | ⟨d', e, g, -, -, -, -, -, -, h1, h2, h3, h4⟩
    · omega
    · have := ih _ _ _ _ _ h
      omega
    · have := ih _ _ _ _ _ h3
      have := ih _ _ _ _ _ h4
      omega
theorem BLK_congr {V V' : jM} {c : Int → Int} {lo hi : Int} (hv : ∀ i j, 10 ≤ i → i ≤ 14 → lo ≤ j → j < hi → V' i j = V i j) : ∀ (n d : Nat) (a b l m : Int), lo ≤ l → m ≤ hi → BLK V c n d a b l m → BLK V' c n d a b l m := by
  intro n
  induction n with
  | zero => intro d a b l m h1 h2 h; exact h
  | succ n ih =>
    intro d a b l m h1 h2 h
    rcases h with h | ⟨x1, x2, h⟩ | ⟨d', e, g, x1, x2, x3, x4, x5, x6, y1, y2, h3, h4⟩
    · exact Or.inl h
    · have hle := BLK_le _ _ _ _ _ _ h
      refine Or.inr (Or.inl ⟨?_, x2, ih _ _ _ _ _ (by omega) h2 h⟩)
      unfold STP at x1 ⊢
      rw [hv 10 l (by omega) (by omega) h1 (by omega), hv 11 l (by omega) (by omega) h1 (by omega), hv 12 l (by omega) (by omega) h1 (by omega), hv 13 l (by omega) (by omega) h1 (by omega)]
      exact x1
    · have hle := BLK_le _ _ _ _ _ _ h4
      refine Or.inr (Or.inr ⟨d', e, g, x1, ?_, x3, ?_, ?_, ?_, y1, y2, ih _ _ _ _ _ (by omega) (by omega) h3, ih _ _ _ _ _ (by omega) h2 h4⟩)
      · unfold WHN LOP at x2 ⊢
        rw [hv 10 l (by omega) (by omega) h1 (by omega), hv 11 l (by omega) (by omega) h1 (by omega), hv 12 l (by omega) (by omega) h1 (by omega), hv 13 l (by omega) (by omega) h1 (by omega)]
        exact x2
      · rw [hv 14 l (by omega) (by omega) h1 (by omega)]; exact x4
      · rw [hv 10 g (by omega) (by omega) (by omega) (by omega)]; exact x5
      · rw [hv 14 g (by omega) (by omega) (by omega) (by omega)]; exact x6
theorem MINP_congr {k far : Int} {d d' c : Int → Int} (h : ∀ j, 0 ≤ j → j < 36 → d' j = d j) (hm : MINP k far d c) : MINP k far d' c := by
  intro p q p1 p2 q1 q2
  rw [h (6 * p + q) (by omega) (by omega)]
  exact hm p q p1 p2 q1 q2
theorem iY_copy {V V' : jM} {c w : Int → Int} (h : iY V c w) (hc : 0 ≤ V 0 8 ∧ V 0 8 ≤ 16) (h0 : V' 0 8 = V 0 8) (h5 : ∀ j, 0 ≤ j → j < 36 → V' 5 j = V 5 j) (h6 : ∀ i j, 6 ≤ i → i ≤ 8 → 0 ≤ j → j < 16 → V' i j = V i j) (h9 : ∀ j, 0 ≤ j → j ≤ 2 → V' 9 j = V 9 j) (h10 : ∀ i j, 10 ≤ i → i ≤ 14 → 0 ≤ j → j < V 9 2 → V' i j = V i j) : iY V' c w := by
  obtain ⟨⟨n1, n2, n3, n4⟩, m, wk, f⟩ := h
  refine ⟨⟨by rw [h0]; exact n1, fun k k1 k2 => ?_, fun t j t1 t2 j1 j2 => ?_, fun k k' k1 k2 k3 k4 => ?_⟩, MINP_congr h5 m, wk, ?_⟩
  · rw [h0] at k2
    rw [h6 6 k (by omega) (by omega) k1 (by omega), h6 7 k (by omega) (by omega) k1 (by omega), h6 8 k (by omega) (by omega) k1 (by omega)]
    exact n2 k k1 k2
  · obtain ⟨k, k1, k2, k3, k4⟩ := n3 t j t1 t2 j1 j2
    exact ⟨k, k1, by rw [h0]; exact k2, by rw [h6 7 k (by omega) (by omega) k1 (by omega)]; exact k3, by rw [h6 8 k (by omega) (by omega) k1 (by omega)]; exact k4⟩
  · rw [h0] at k2 k4
    rw [h6 6 k (by omega) (by omega) k1 (by omega), h6 6 k' (by omega) (by omega) k3 (by omega)]
    exact n4 k k' k1 k2 k3 k4
  · unfold FST at f ⊢
    rw [h9 0 (by omega) (by omega), h9 1 (by omega) (by omega), h9 2 (by omega) (by omega)]
    rcases f with f | ⟨f1, f2, f3, f4, f5, f6, f7, n, f8⟩
    · exact Or.inl f
    · exact Or.inr ⟨f1, f2, f3, f4, f5, f6, f7, n, BLK_congr (lo := 0) (hi := V 9 2) (fun i j i1 i2 j1 j2 => h10 i j i1 i2 j1 j2) _ _ _ _ _ _ (by omega) (by omega) f8⟩
