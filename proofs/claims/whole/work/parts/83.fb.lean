/-! feasts: blocks -/
def VF (F : Int) (s : jM) : jM := fun i j => s (F - 9 + i) j
def cF (u : jM) : Int → Int := fun o => if o ≤ 2 then u 160 o else u 160 (1524 + o)
def rKc (F l dep x y : Int) : Prop := (x = 11 ∧ 2 ≤ y ∧ y ≤ 9) ∨ (x = F ∧ (y = 1 ∨ y = 2)) ∨ (F + 1 ≤ x ∧ x ≤ F + 5 ∧ l ≤ y) ∨ (x = 14 ∧ y = 3) ∨ (x = 15 ∧ dep ≤ y)
def rKr (e x y : Int) : Prop := (x = 155 ∧ ((12 ≤ y ∧ y ≤ 19) ∨ y = 26)) ∨ (x = 160 ∧ e ≤ y)
def BKE (V : jM) (c : Int → Int) (d : Nat) (a b l m : Int) : Prop := ∃ n, BLK V c n d a b l m
def ONE (V : jM) (c : Int → Int) (d : Nat) (a b l m : Int) : Prop := (STP V c a l ∧ c (119 + 9 * a) = a + 1 ∧ b = a + 1 ∧ m = l + 1) ∨ ∃ d' g, d = d' + 1 ∧ (WHN V c a l ∨ LOP V c a l) ∧ c (119 + 9 * a) = b ∧ V 14 l = g ∧ V 10 g = 24 ∧ V 14 g = l ∧ a < b ∧ l < g ∧ BKE V c d' (a + 1) b (l + 1) g ∧ m = g + 1
theorem BLK_mono {V : jM} {c : Int → Int} : ∀ (n d : Nat) (a b l m : Int), BLK V c n d a b l m → BLK V c (n + 1) d a b l m := by
  intro n
  induction n with
  | zero => intro d a b l m h; exact Or.inl h
  | succ n ih =>
    intro d a b l m h
    rcases h with h | ⟨h1, h2, h3⟩ | ⟨d', e, g, h1, h2, h3, h4, h5, h6, h7, h8, h9, h10⟩
    · exact Or.inl h
    · exact Or.inr (Or.inl ⟨h1, h2, ih _ _ _ _ _ h3⟩)
    · exact Or.inr (Or.inr ⟨d', e, g, h1, h2, h3, h4, h5, h6, h7, h8, ih _ _ _ _ _ h9, ih _ _ _ _ _ h10⟩)
theorem BLK_add {V : jM} {c : Int → Int} {n d : Nat} {a b l m : Int} (h : BLK V c n d a b l m) : ∀ k, BLK V c (n + k) d a b l m := by
  intro k
  induction k with
  | zero => exact h
  | succ k ih => exact BLK_mono _ _ _ _ _ _ ih
theorem BKE_nil {V : jM} {c : Int → Int} {d : Nat} {a l : Int} : BKE V c d a a l l := ⟨0, rfl, rfl⟩
theorem ONE_cons {V : jM} {c : Int → Int} {d : Nat} {a b b' l m m' : Int} (h : ONE V c d a b l m) (h2 : BKE V c d b b' m m') : BKE V c d a b' l m' := by
  obtain ⟨n, h2⟩ := h2
  rcases h with ⟨h3, h4, h5, h6⟩ | ⟨d', g, h3, h4, h5, h6, h7, h8, h9, h10, ⟨n', h11⟩, h12⟩
  · subst h5 h6
    exact ⟨n + 1, Or.inr (Or.inl ⟨h3, h4, h2⟩)⟩
  · subst h12
    refine ⟨n' + n + 1, Or.inr (Or.inr ⟨d', b, g, h3, h4, h5, h6, h7, h8, h9, h10, BLK_add h11 n, ?_⟩)⟩
    rw [Nat.add_comm n' n]
    exact BLK_add h2 n'
/-- what lies beyond does not matter -/
theorem BLK_cg {V V' : jM} {c c' : Int → Int} {lo hi p q : Int} (hv : ∀ i j, 10 ≤ i → i ≤ 14 → lo ≤ j → j < hi → V' i j = V i j) (hc0 : c' 0 = c 0 ∧ c' 1 = c 1 ∧ c' 2 = c 2) (hc : ∀ o, 111 + 9 * p ≤ o → o < 111 + 9 * q → c' o = c o) : ∀ (n d : Nat) (a b l m : Int), lo ≤ l → m ≤ hi → p ≤ a → b ≤ q → BLK V c n d a b l m → BLK V' c' n d a b l m := by
  obtain ⟨z0, z1, z2⟩ := hc0
  intro n
  induction n with
  | zero => intro d a b l m h1 h2 h3 h4 h; exact h
  | succ n ih =>
    intro d a b l m h1 h2 h3 h4 h
    have cell : a < b → c' (111 + 9 * a) = c (111 + 9 * a) ∧ c' (112 + 9 * a) = c (112 + 9 * a) ∧ c' (113 + 9 * a) = c (113 + 9 * a) ∧ c' (114 + 9 * a) = c (114 + 9 * a) ∧ c' (116 + 9 * a) = c (116 + 9 * a) ∧ c' (117 + 9 * a) = c (117 + 9 * a) ∧ c' (118 + 9 * a) = c (118 + 9 * a) ∧ c' (119 + 9 * a) = c (119 + 9 * a) := fun z => ⟨hc _ (by omega) (by omega), hc _ (by omega) (by omega), hc _ (by omega) (by omega), hc _ (by omega) (by omega), hc _ (by omega) (by omega), hc _ (by omega) (by omega), hc _ (by omega) (by omega), hc _ (by omega) (by omega)⟩
    rcases h with h | ⟨x1, x2, h⟩ | ⟨d', e, g, x1, x2, x3, x4, x5, x6, y1, y2, k3, k4⟩
    · exact Or.inl h
    · have hle := BLK_le _ _ _ _ _ _ h
      obtain ⟨c1, c2, c3, c4, c5, c6, c7, c8⟩ := cell (by omega)
      refine Or.inr (Or.inl ⟨?_, by rw [c8]; exact x2, ih _ _ _ _ _ (by omega) h2 (by omega) h4 h⟩)
      unfold STP at x1 ⊢
      rw [hv 10 l (by omega) (by omega) h1 (by omega), hv 11 l (by omega) (by omega) h1 (by omega), hv 12 l (by omega) (by omega) h1 (by omega), hv 13 l (by omega) (by omega) h1 (by omega), c1, c2, c3, c4, z0, z1, z2]
      exact x1
    · have hle := BLK_le _ _ _ _ _ _ k4
      have hle2 := BLK_le _ _ _ _ _ _ k3
      obtain ⟨c1, c2, c3, c4, c5, c6, c7, c8⟩ := cell (by omega)
      refine Or.inr (Or.inr ⟨d', e, g, x1, ?_, by rw [c8]; exact x3, ?_, ?_, ?_, y1, y2, ih _ _ _ _ _ (by omega) (by omega) (by omega) (by omega) k3, ih _ _ _ _ _ (by omega) h2 (by omega) h4 k4⟩)
      · unfold WHN LOP at x2 ⊢
        rw [hv 10 l (by omega) (by omega) h1 (by omega), hv 11 l (by omega) (by omega) h1 (by omega), hv 12 l (by omega) (by omega) h1 (by omega), hv 13 l (by omega) (by omega) h1 (by omega), c1, c2, c3, c5, c6, c7, z1, z2]
        exact x2
      · rw [hv 14 l (by omega) (by omega) h1 (by omega)]; exact x4
      · rw [hv 10 g (by omega) (by omega) (by omega) (by omega)]; exact x5
      · rw [hv 14 g (by omega) (by omega) (by omega) (by omega)]; exact x6
theorem cF_e {u : jM} {a k : Int} (ha : 0 ≤ a) (hk : 111 ≤ k) : cF u (k + 9 * a) = u 160 (1524 + (k + 9 * a)) := by
  unfold cF
  rw [if_neg (by omega)]
/-- the head of a step, told as BLK tells it -/
theorem HDr_STP {F l a : Int} {s u : jM} (ha : 0 ≤ a) (h : HDr F l (1635 + 9 * a) 0 s u) : STP (VF F s) (cF u) a l := by
  have v10 : VF F s 10 l = s (F + 1) l := by show s (F - 9 + 10) l = _; rw [show F - 9 + 10 = F + 1 by omega]
  have v11 : VF F s 11 l = s (F + 2) l := by show s (F - 9 + 11) l = _; rw [show F - 9 + 11 = F + 2 by omega]
  have v12 : VF F s 12 l = s (F + 3) l := by show s (F - 9 + 12) l = _; rw [show F - 9 + 12 = F + 3 by omega]
  have v13 : VF F s 13 l = s (F + 4) l := by show s (F - 9 + 13) l = _; rw [show F - 9 + 13 = F + 4 by omega]
  have c1 : cF u (111 + 9 * a) = u 160 (1635 + 9 * a) := by rw [cF_e ha (by omega), show 1524 + (111 + 9 * a) = 1635 + 9 * a by omega]
  have c2 : cF u (112 + 9 * a) = u 160 (1635 + 9 * a + 1) := by rw [cF_e ha (by omega), show 1524 + (112 + 9 * a) = 1635 + 9 * a + 1 by omega]
  have c3 : cF u (113 + 9 * a) = u 160 (1635 + 9 * a + 2) := by rw [cF_e ha (by omega), show 1524 + (113 + 9 * a) = 1635 + 9 * a + 2 by omega]
  have c4 : cF u (114 + 9 * a) = u 160 (1635 + 9 * a + 3) := by rw [cF_e ha (by omega), show 1524 + (114 + 9 * a) = 1635 + 9 * a + 3 by omega]
  have k0 : cF u 0 = u 160 0 := rfl
  have k1 : cF u 1 = u 160 1 := rfl
  have k2 : cF u 2 = u 160 2 := rfl
  rcases h with ⟨-, k, w, kd, kn, h1, h2, h3⟩ | ⟨h0, -⟩
  rotate_left
  · omega
  obtain ⟨r1, r2, r3, r4, r5, r6⟩ := h3
  unfold STP
  rw [v10, v11, v12, v13, c1, c2, c3, c4, k0, k1, k2, h1, h2]
  clear v10 v11 v12 v13 c1 c2 c3 c4 k0 k1 k2 h1 h2
  rcases kd with ⟨p, q⟩ | ⟨p, q⟩ | ⟨p, q⟩ | ⟨p, q⟩ | ⟨p, q⟩ | ⟨p, q⟩ | ⟨p, q⟩ | ⟨p, q⟩ | ⟨p, q⟩ | ⟨p, q⟩ <;> subst p <;> subst q
  · exact Or.inl ⟨rfl, rfl, r1 rfl⟩
  · exact Or.inr (Or.inl ⟨Or.inl ⟨rfl, rfl⟩, r2 (Or.inl rfl)⟩)
  · exact Or.inr (Or.inl ⟨Or.inr (Or.inl ⟨rfl, rfl⟩), r2 (Or.inr (Or.inl rfl))⟩)
  · exact Or.inr (Or.inl ⟨Or.inr (Or.inr ⟨rfl, rfl⟩), r2 (Or.inr (Or.inr rfl))⟩)
  · exact Or.inr (Or.inr (Or.inl ⟨rfl, rfl, r3 rfl⟩))
  · exact Or.inr (Or.inr (Or.inr (Or.inl ⟨rfl, rfl, r4 rfl⟩)))
  · exact Or.inr (Or.inr (Or.inr (Or.inr (Or.inl ⟨rfl, rfl, r5 rfl⟩))))
  · exact Or.inr (Or.inr (Or.inr (Or.inr (Or.inr (Or.inl ⟨rfl, rfl⟩)))))
  · exact absurd rfl kn
  · exact Or.inr (Or.inr (Or.inr (Or.inr (Or.inr (Or.inr ⟨rfl, rfl⟩)))))
theorem HDr_HED {F l a : Int} {s u : jM} (ha : 0 ≤ a) (h : HDr F l (1635 + 9 * a) 1 s u) : WHN (VF F s) (cF u) a l ∨ LOP (VF F s) (cF u) a l := by
  have v10 : VF F s 10 l = s (F + 1) l := by show s (F - 9 + 10) l = _; rw [show F - 9 + 10 = F + 1 by omega]
  have v11 : VF F s 11 l = s (F + 2) l := by show s (F - 9 + 11) l = _; rw [show F - 9 + 11 = F + 2 by omega]
  have v12 : VF F s 12 l = s (F + 3) l := by show s (F - 9 + 12) l = _; rw [show F - 9 + 12 = F + 3 by omega]
  have v13 : VF F s 13 l = s (F + 4) l := by show s (F - 9 + 13) l = _; rw [show F - 9 + 13 = F + 4 by omega]
  have c1 : cF u (111 + 9 * a) = u 160 (1635 + 9 * a) := by rw [cF_e ha (by omega), show 1524 + (111 + 9 * a) = 1635 + 9 * a by omega]
  have c2 : cF u (112 + 9 * a) = u 160 (1635 + 9 * a + 1) := by rw [cF_e ha (by omega), show 1524 + (112 + 9 * a) = 1635 + 9 * a + 1 by omega]
  have c3 : cF u (113 + 9 * a) = u 160 (1635 + 9 * a + 2) := by rw [cF_e ha (by omega), show 1524 + (113 + 9 * a) = 1635 + 9 * a + 2 by omega]
  have c5 : cF u (116 + 9 * a) = u 160 (1635 + 9 * a + 5) := by rw [cF_e ha (by omega), show 1524 + (116 + 9 * a) = 1635 + 9 * a + 5 by omega]
  have c6 : cF u (117 + 9 * a) = u 160 (1635 + 9 * a + 6) := by rw [cF_e ha (by omega), show 1524 + (117 + 9 * a) = 1635 + 9 * a + 6 by omega]
  have c7 : cF u (118 + 9 * a) = u 160 (1635 + 9 * a + 7) := by rw [cF_e ha (by omega), show 1524 + (118 + 9 * a) = 1635 + 9 * a + 7 by omega]
  have k1 : cF u 1 = u 160 1 := rfl
  have k2 : cF u 2 = u 160 2 := rfl
  rcases h with ⟨h0, -⟩ | ⟨-, ⟨h1, h2, h3⟩ | ⟨h1, h2⟩⟩
  · omega
  · right
    unfold LOP
    rw [v10, v13, c1, c2, h1, h2]
    exact ⟨rfl, rfl, h3.2.2.2.2.2 rfl⟩
  · left
    obtain ⟨g1, g2, g3, g4⟩ := h2
    unfold WHN
    rw [v10, v11, v12, v13, c1, c2, c3, c5, c6, c7, k1, k2, h1]
    refine ⟨rfl, g1, g2, g3, ?_⟩
    rcases g4 with ⟨p1, p2⟩ | ⟨p1, p2, p3, p4, p5, p6, p7, p8⟩ | ⟨p1, p2, p3, p4, p5⟩
    · exact Or.inl ⟨p1, p2⟩
    · exact Or.inr (Or.inl ⟨p1, p2, p3, p4, p5, p6, p7, p8⟩)
    · exact Or.inr (Or.inr ⟨p1, p2, p3, p4, p5⟩)
