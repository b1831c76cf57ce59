/-! live: blocks -/
theorem WHN_kd {V : jM} {c : Int → Int} {a l : Int} (h : WHN V c a l) : c (111 + 9 * a) = 8 ∧ (V 10 l = 21 ∨ V 10 l = 22 ∨ V 10 l = 12) := by
  unfold WHN at h
  obtain ⟨h1, -, -, -, h2⟩ := h
  refine ⟨h1, ?_⟩
  rcases h2 with h2 | h2 | h2
  · exact Or.inl h2.2
  · exact Or.inr (Or.inl h2.2.1)
  · exact Or.inr (Or.inr h2.2.1)
theorem LX_WHN {B a l : Int} (hB : B = 30 ∨ B = 55) {s0 u0 s u : jM} {w : Int → Int} (h : LX B s0 u0 w s u) (ha : 0 ≤ a ∧ a < 30) (hS : WHN (xV (vw s0 B)) (xc (cw u0 0)) a l) : WHN (vw s B) (cw u 0) a l := by
  have hv : ∀ i, 10 ≤ i → i ≤ 13 → vw s B i l = xV (vw s0 B) i l := fun i _ _ => (vw_at (by omega)).trans (LX_v hB h.2.1 (by omega))
  have hc : ∀ o, (0 ≤ o ∧ o ≤ 2) ∨ (111 + 9 * a ≤ o ∧ o < 119 + 9 * a) → cw u 0 o = xc (cw u0 0) o := fun o _ => (cw_at (by omega)).trans (LX_q h.2.2.1 (by omega))
  unfold WHN at hS ⊢
  rw [hv 10 (by omega) (by omega), hv 11 (by omega) (by omega), hv 12 (by omega) (by omega), hv 13 (by omega) (by omega), hc 1 (by omega), hc 2 (by omega), hc (111 + 9 * a) (by omega), hc (112 + 9 * a) (by omega), hc (113 + 9 * a) (by omega), hc (116 + 9 * a) (by omega), hc (117 + 9 * a) (by omega), hc (118 + 9 * a) (by omega)]
  exact hS
theorem hd_when {B a l e g k : Int} {s0 u0 s u : jM} {w : Int → Int} {x : Nat} {rec : Int → Int → Int → jM → Option (Int × jM)} (hB : B = 30 ∨ B = 55) (h : LX B s0 u0 w s u) (h38 : u 155 38 = 0) (hx : (x : Int) + 100 * (300 - s 27 3) ≤ 500000) (ha : 0 ≤ a ∧ a < e ∧ e ≤ 30) (hl : 0 ≤ l ∧ l < g ∧ g < xV (vw s0 B) 9 2 ∧ xV (vw s0 B) 9 2 ≤ 60) (hS : WHN (xV (vw s0 B)) (xc (cw u0 0)) a l) (he : xc (cw u0 0) (119 + 9 * a) = e) (hg1 : xV (vw s0 B) 14 l = g) (hg2 : xV (vw s0 B) 10 g = 24) (hg3 : xV (vw s0 B) 14 g = l) (hk : 0 ≤ k) (hb : ∀ (x : Nat) (s u : jM), LX B s0 u0 w s u → u 155 38 = 0 → (x : Int) + 100 * (300 - s 27 3) ≤ 500000 → RES B s0 u0 w (l + 1) g 0 k (l + 1) g x s (rec 155 (a + 1) e u)) : RES B s0 u0 w l (g + 1) 0 1 l (g + 1) x s (Md_doOne rec 155 a u) := by
  have wk := WHN_kd hS
  have sb := h.2.2.2.2.1
  by_cases h3 : s 27 3 = 300
  · exact hd_300 hB h (by omega) ⟨hl.1, by omega, hl.2.2.2⟩ rfl (by omega) h3
  have v9 : s (B + 9) 2 = xV (vw s0 B) 9 2 := LX_v hB h.2.1 (by omega)
  have v10 : s (B + 10) l = xV (vw s0 B) 10 l := LX_v hB h.2.1 (by omega)
  have v14 : s (B + 14) l = g := (LX_v hB h.2.1 (by omega)).trans hg1
  have c1 : u 160 (111 + 9 * a) = xc (cw u0 0) (111 + 9 * a) := LX_q h.2.2.1 (by omega)
  obtain ⟨q, hq⟩ : ∃ q, s 27 3 = q := ⟨_, rfl⟩
  have qb : 0 ≤ q ∧ q < 300 := by omega
  have e40 : u 155 40 = q := by rw [← h.2.2.2.1]; exact hq
  have hl2 : 0 ≤ l ∧ l < 60 := ⟨hl.1, by omega⟩
  have h' := LX_3 hB h hq qb.2
  have k1 : jup s 27 3 (q + 1) (B + 10) l = xV (vw s0 B) 10 l := by rw [u_ne (by omega)]; exact v10
  obtain ⟨r, hr, d1, d2⟩ := holds_both hB h'.1 hl2 ⟨ha.1, by omega⟩ (LX_WHN hB h' ⟨ha.1, by omega⟩ hS)
  rw [k1] at d1
  have W := lr_when hB h.1.2.1 (show x ≤ 900000 by omega) hl2 (by rw [v9]; exact ⟨by omega, hl.2.2.2⟩) v10 wk.2 hq qb d1 hr
  have u38 : jup u 155 40 (q + 1) 155 38 = 0 := by rw [u_ne (by omega)]; exact h38
  have s3 : jup s 27 3 (q + 1) 27 3 = q + 1 := u_eq ⟨rfl, rfl⟩
  have s28 : ∀ j, jup s 27 3 (q + 1) 28 j = s 28 j := fun j => u_ne (by omega)
  have M := ro_hd (rec := rec) (w := 8) ⟨ha.1, show a < 30 by omega⟩ e40 qb (by rw [c1]; exact wk.1) (by omega)
  rw [if_neg (show ¬ (8 : Int) < 8 by decide), if_pos rfl, d2, jb_t] at M
  rcases hr with z | z
  · subst z
    rw [if_pos rfl, v14] at W
    rw [if_pos (show w32 0 = 0 by decide), Md_doOne_110, if_neg (show ¬ w32 8 = 9 by decide), if_neg (show ¬ 9 < w32 8 by decide)] at M
    exact Or.inr ⟨x + 1, _, _, W, M, h', u38, by rw [s3, hq]; omega, by rw [s3, hq]; omega, fun j _ => s28 j⟩
  · subst z
    have c : jup u 155 40 (q + 1) 160 (111 + 9 * a + 8) = e := by
      rw [show (111 : Int) + 9 * a + 8 = 119 + 9 * a by omega, ← he]
      exact LX_q h'.2.2.1 (by omega)
    rw [if_neg (show ¬ (1 : Int) = 0 by decide)] at W
    rw [if_neg (show ¬ w32 1 = 0 by decide), w32_id (x := 111 + 9 * a + 8) (by omega) (by omega), if_pos (c := 0 ≤ 111 + 9 * a + 8 ∧ 111 + 9 * a + 8 < 1905) (by omega), c] at M
    rcases hb (x + 1) _ _ h' u38 (by rw [s3]; omega) with ⟨s', u', a1, a2, a3, a4⟩ | ⟨x', s', u', a1, a2, a3, a4, a5, a6, a7⟩
    · rw [a2, jb_t] at M
      exact Or.inl ⟨s', u', W.trans a1, M, a3, a4⟩
    · rw [a2, jb_t] at M
      rw [s3] at a5 a6
      have sb' := a3.2.2.2.2.1
      have y9 : s' (B + 9) 2 = xV (vw s0 B) 9 2 := LX_v hB a3.2.1 (by omega)
      have y10 : s' (B + 10) g = 24 := (LX_v hB a3.2.1 (by omega)).trans hg2
      have y14 : s' (B + 14) g = l := (LX_v hB a3.2.1 (by omega)).trans hg3
      have z10 : s' (B + 10) l = xV (vw s0 B) 10 l := LX_v hB a3.2.1 (by omega)
      have E := lr_end hB a3.1.2.1 (show x' ≤ 900000 by omega) ⟨by omega, by omega⟩ (by rw [y9]; exact hl.2.2) y10 y14 hl2 z10 (by omega) (by omega)
      rw [if_neg (c := xV (vw s0 B) 10 l = 23) (by omega)] at E
      exact Or.inr ⟨x' + 1, s', u', W.trans (a1.trans E), M, a3, a4, by rw [hq]; omega, by rw [hq]; omega, fun j hj => (a7 j (by omega)).trans (s28 j)⟩
theorem d119_nil {rec : Int → Int → Int → jM → Option (Int × jM)} {a e N : Int} {u : jM} (ha : 0 ≤ a ∧ a < 30) (h38 : u 155 38 = 0) (hN : u 160 (112 + 9 * a) = N) (hN9 : N ≤ 99) (he : u 160 (119 + 9 * a) = e) (hr : rec 155 (a + 1) e u = some (0, u)) : ∀ (r f : Nat) (y : Int), y + r = N → 0 ≤ y → r < f → Md_doOne_119 rec f 155 a (111 + 9 * a) y u = some (0, u) := by
  have hN' : u (155 + 5) (111 + 9 * a + 1) = N := by
    rw [show (111 : Int) + 9 * a + 1 = 112 + 9 * a by omega]
    exact hN
  have he' : u (155 + 5) (111 + 9 * a + 8) = e := by
    rw [show (111 : Int) + 9 * a + 8 = 119 + 9 * a by omega]
    exact he
  intro r
  induction r with
  | zero =>
    intro f y h1 h2 h3
    obtain ⟨f, rfl⟩ : ∃ g, f = g + 1 := ⟨f - 1, by omega⟩
    rw [Md_doOne_119, w32_id (x := 111 + 9 * a + 1) (by omega) (by omega), if_pos (c := 0 ≤ 111 + 9 * a + 1 ∧ 111 + 9 * a + 1 < 1905) (by omega), hN', w32_id (x := y) (by omega) (by omega), w32_id (x := N) (by omega) (by omega), if_neg (by omega)]
  | succ r ih =>
    intro f y h1 h2 h3
    obtain ⟨f, rfl⟩ : ∃ g, f = g + 1 := ⟨f - 1, by omega⟩
    rw [Md_doOne_119, w32_id (x := 111 + 9 * a + 1) (by omega) (by omega), if_pos (c := 0 ≤ 111 + 9 * a + 1 ∧ 111 + 9 * a + 1 < 1905) (by omega), hN', w32_id (x := y) (by omega) (by omega), w32_id (x := N) (by omega) (by omega), if_pos (by omega), h38, if_pos (show w32 0 = 0 by decide), w32_id (x := 111 + 9 * a + 8) (by omega) (by omega), if_pos (c := 0 ≤ 111 + 9 * a + 8 ∧ 111 + 9 * a + 8 < 1905) (by omega), he', hr, jb_t]
    exact ih f (y + 1) (by omega) (by omega) (by omega)
/-- the rounds of a loop that are left -/
theorem loop_run {B a e l g N : Int} {s0 u0 : jM} {w : Int → Int} {rec : Int → Int → Int → jM → Option (Int × jM)} (hB : B = 30 ∨ B = 55) (ha : 0 ≤ a ∧ a < e ∧ e ≤ 30) (hl : 0 ≤ l ∧ l + 1 < g ∧ g < xV (vw s0 B) 9 2 ∧ xV (vw s0 B) 9 2 ≤ 60) (k10 : xV (vw s0 B) 10 l = 23) (hg2 : xV (vw s0 B) 10 g = 24) (hg3 : xV (vw s0 B) 14 g = l) (hN : xc (cw u0 0) (112 + 9 * a) = N) (hN9 : N ≤ 99) (he : xc (cw u0 0) (119 + 9 * a) = e) (hb : ∀ (x : Nat) (s u : jM), LX B s0 u0 w s u → u 155 38 = 0 → (x : Int) + 100 * (300 - s 27 3) ≤ 500000 → RES B s0 u0 w (l + 1) g 0 1 (l + 1) g x s (rec 155 (a + 1) e u)) : ∀ (r f : Nat) (y : Int) (x : Nat) (s u : jM), LX B s0 u0 w s u → u 155 38 = 0 → s 28 l = r + 1 → y + (r + 1) = N → 0 ≤ y → r + 1 < f → (x : Int) + (r + 1) + 100 * (300 - s 27 3) ≤ 500000 → RES B s0 u0 w l (g + 1) (r + 1) 1 (l + 1) (g + 1) x s (Md_doOne_119 rec f 155 a (111 + 9 * a) y u) := by
  have D : ∀ (f : Nat) (y : Int) (u : jM), EX eR u0 u → 0 ≤ y → y ≤ N → Md_doOne_119 rec (f + 1) 155 a (111 + 9 * a) y u = if y < N then (if w32 (u 155 38) = 0 then jb (rec 155 (a + 1) e u) fun v1 s1 => Md_doOne_119 rec f 155 a (111 + 9 * a) (y + 1) s1 else some (0, u)) else some (0, u) := fun f y u hx y1 y2 => by
    have hN' : u (155 + 5) (111 + 9 * a + 1) = N := by
      rw [show (111 : Int) + 9 * a + 1 = 112 + 9 * a by omega, ← hN]
      exact LX_q hx (by omega)
    have he' : u (155 + 5) (111 + 9 * a + 8) = e := by
      rw [show (111 : Int) + 9 * a + 8 = 119 + 9 * a by omega, ← he]
      exact LX_q hx (by omega)
    rw [Md_doOne_119, w32_id (x := 111 + 9 * a + 1) (by omega) (by omega), if_pos (c := 0 ≤ 111 + 9 * a + 1 ∧ 111 + 9 * a + 1 < 1905) (by omega), hN', w32_id (x := y) (by omega) (by omega), w32_id (x := N) (by omega) (by omega), w32_id (x := 111 + 9 * a + 8) (by omega) (by omega), if_pos (c := 0 ≤ 111 + 9 * a + 8 ∧ 111 + 9 * a + 8 < 1905) (by omega), he']
  have hl2 : 0 ≤ l ∧ l < 60 := ⟨hl.1, by omega⟩
  intro r
  induction r with
  | zero =>
    intro f y x s u h h38 h28 hy y0 hf hx
    obtain ⟨f, rfl⟩ : ∃ g, f = g + 2 := ⟨f - 2, by omega⟩
    have sb := h.2.2.2.2.1
    have M := D (f + 1) y u h.2.2.1 y0 (by omega)
    rw [if_pos (c := y < N) (by omega), h38, if_pos (show w32 0 = 0 by decide)] at M
    rcases hb x s u h h38 (by omega) with ⟨s', u', a1, a2, a3, a4⟩ | ⟨x', s', u', a1, a2, a3, a4, a5, a6, a7⟩
    · rw [a2, jb_t, d119_stop ⟨ha.1, by omega⟩ a3] at M
      exact Or.inl ⟨s', u', a1, M, a3, a4⟩
    · rw [a2, jb_t, D f (y + 1) u' a3.2.2.1 (by omega) (by omega), if_neg (c := y + 1 < N) (by omega)] at M
      have sb' := a3.2.2.2.2.1
      have y9 : s' (B + 9) 2 = xV (vw s0 B) 9 2 := LX_v hB a3.2.1 (by omega)
      have y10 : s' (B + 10) g = 24 := (LX_v hB a3.2.1 (by omega)).trans hg2
      have y14 : s' (B + 14) g = l := (LX_v hB a3.2.1 (by omega)).trans hg3
      have z10 : s' (B + 10) l = 23 := (LX_v hB a3.2.1 (by omega)).trans k10
      have z28 : s' 28 l = 1 := by rw [a7 l (by omega), h28]; rfl
      have E := lr_end hB a3.1.2.1 (show x' ≤ 900000 by omega) ⟨by omega, by omega⟩ (by rw [y9]; exact hl.2.2) y10 y14 hl2 z10 (by omega) (fun _ => by rw [z28]; omega)
      rw [if_pos rfl, z28, if_neg (show ¬ (1 : Int) < 1 by decide)] at E
      have e3 : jup s' 28 l (1 - 1) 27 3 = s' 27 3 := u_ne (by omega)
      exact Or.inr ⟨x' + 1, _, u', a1.trans E, M, LX_28 hB a3, a4, by rw [e3]; omega, by rw [e3]; omega, fun j hj => by rw [u_ne (by omega)]; exact a7 j (by omega)⟩
  | succ r ih =>
    intro f y x s u h h38 h28 hy y0 hf hx
    obtain ⟨f, rfl⟩ : ∃ g, f = g + 2 := ⟨f - 2, by omega⟩
    have sb := h.2.2.2.2.1
    have M := D (f + 1) y u h.2.2.1 y0 (by omega)
    rw [if_pos (c := y < N) (by omega), h38, if_pos (show w32 0 = 0 by decide)] at M
    rcases hb x s u h h38 (by omega) with ⟨s', u', a1, a2, a3, a4⟩ | ⟨x', s', u', a1, a2, a3, a4, a5, a6, a7⟩
    · rw [a2, jb_t, d119_stop ⟨ha.1, by omega⟩ a3] at M
      exact Or.inl ⟨s', u', a1, M, a3, a4⟩
    · rw [a2, jb_t] at M
      have sb' := a3.2.2.2.2.1
      have y9 : s' (B + 9) 2 = xV (vw s0 B) 9 2 := LX_v hB a3.2.1 (by omega)
      have y10 : s' (B + 10) g = 24 := (LX_v hB a3.2.1 (by omega)).trans hg2
      have y14 : s' (B + 14) g = l := (LX_v hB a3.2.1 (by omega)).trans hg3
      have z10 : s' (B + 10) l = 23 := (LX_v hB a3.2.1 (by omega)).trans k10
      have z28 : s' 28 l = (r : Int) + 2 := by rw [a7 l (by omega), h28]; omega
      have E := lr_end hB a3.1.2.1 (show x' ≤ 900000 by omega) ⟨by omega, by omega⟩ (by rw [y9]; exact hl.2.2) y10 y14 hl2 z10 (by omega) (fun _ => by rw [z28]; omega)
      rw [if_pos rfl, z28, if_pos (c := 1 < (r : Int) + 2) (by omega)] at E
      have e3 : jup s' 28 l ((r : Int) + 2 - 1) 27 3 = s' 27 3 := u_ne (by omega)
      have I := ih (f + 1) (y + 1) (x' + 1) (jup s' 28 l ((r : Int) + 2 - 1)) u' (LX_28 hB a3) a4 (by rw [u_eq ⟨rfl, rfl⟩]; omega) (by omega) (by omega) (by omega) (by rw [e3]; omega)
      exact RES_tr I M (a1.trans E) (by rw [e3]; omega) (by rw [e3]; omega) (fun j hj => by rw [u_ne (by omega)]; exact a7 j (by omega)) ⟨by omega, by omega⟩
theorem hd_loop {B a l e g : Int} {s0 u0 s u : jM} {w : Int → Int} {x : Nat} {rec : Int → Int → Int → jM → Option (Int × jM)} (hB : B = 30 ∨ B = 55) (h : LX B s0 u0 w s u) (h38 : u 155 38 = 0) (hx : (x : Int) + 100 * (300 - s 27 3) ≤ 500000) (ha : 0 ≤ a ∧ a < e ∧ e ≤ 30) (hl : 0 ≤ l ∧ l < g ∧ g < xV (vw s0 B) 9 2 ∧ xV (vw s0 B) 9 2 ≤ 60) (hS : LOP (xV (vw s0 B)) (xc (cw u0 0)) a l) (he : xc (cw u0 0) (119 + 9 * a) = e) (hg1 : xV (vw s0 B) 14 l = g) (hg2 : xV (vw s0 B) 10 g = 24) (hg3 : xV (vw s0 B) 14 g = l) (hb : (g = l + 1 ∧ ∀ u, rec 155 (a + 1) e u = some (0, u)) ∨ (l + 1 < g ∧ ∀ (x : Nat) (s u : jM), LX B s0 u0 w s u → u 155 38 = 0 → (x : Int) + 100 * (300 - s 27 3) ≤ 500000 → RES B s0 u0 w (l + 1) g 0 1 (l + 1) g x s (rec 155 (a + 1) e u))) : RES B s0 u0 w l (g + 1) 0 1 l (g + 1) x s (Md_doOne rec 155 a u) := by
  obtain ⟨w1, w2, w3, w4, w5⟩ := hS
  have sb := h.2.2.2.2.1
  by_cases h3 : s 27 3 = 300
  · exact hd_300 hB h (by omega) ⟨hl.1, by omega, hl.2.2.2⟩ w2 (by omega) h3
  have v9 : s (B + 9) 2 = xV (vw s0 B) 9 2 := LX_v hB h.2.1 (by omega)
  have v10 : s (B + 10) l = 23 := (LX_v hB h.2.1 (by omega)).trans w2
  have v13 : s (B + 13) l = xc (cw u0 0) (112 + 9 * a) := (LX_v hB h.2.1 (by omega)).trans w3
  have v14 : s (B + 14) l = g := (LX_v hB h.2.1 (by omega)).trans hg1
  have c1 : u 160 (111 + 9 * a) = xc (cw u0 0) (111 + 9 * a) := LX_q h.2.2.1 (by omega)
  obtain ⟨q, hq⟩ : ∃ q, s 27 3 = q := ⟨_, rfl⟩
  have qb : 0 ≤ q ∧ q < 300 := by omega
  have e40 : u 155 40 = q := by rw [← h.2.2.2.1]; exact hq
  have hl2 : 0 ≤ l ∧ l < 60 := ⟨hl.1, by omega⟩
  obtain ⟨N, hN⟩ : ∃ N, xc (cw u0 0) (112 + 9 * a) = N := ⟨_, rfl⟩
  rw [hN] at v13 w4 w5
  have h' := LX_3 hB h hq qb.2
  have h2 : LX B s0 u0 w (jup (jup s 27 3 (q + 1)) 28 l N) (jup u 155 40 (q + 1)) := LX_28 hB h'
  have W := lr_loop hB h.1.2.1 (show x ≤ 900000 by omega) hl2 (by rw [v9]; exact ⟨by omega, hl.2.2.2⟩) v10 hq qb (by rw [v14]; omega)
  rw [v13, v14] at W
  have u38 : jup u 155 40 (q + 1) 155 38 = 0 := by rw [u_ne (by omega)]; exact h38
  have s3 : jup (jup s 27 3 (q + 1)) 28 l N 27 3 = q + 1 := by rw [u_ne (by omega)]; exact u_eq ⟨rfl, rfl⟩
  have s28 : ∀ j, j < l ∨ g + 1 ≤ j → jup (jup s 27 3 (q + 1)) 28 l N 28 j = s 28 j := fun j hj => by rw [u_ne (by omega), u_ne (by omega)]
  have M := ro_hd (rec := rec) (w := 9) ⟨ha.1, show a < 30 by omega⟩ e40 qb (by rw [c1]; exact w1) (by omega)
  rw [if_neg (show ¬ (9 : Int) < 8 by decide), if_neg (show ¬ (9 : Int) = 8 by decide), Md_doOne_110, if_pos (show w32 9 = 9 by decide)] at M
  rcases hb with ⟨b1, b2⟩ | ⟨b1, b2⟩
  · rw [if_pos b1, show l + 2 = g + 1 by omega] at W
    rw [d119_nil (N := N) (e := e) ⟨ha.1, by omega⟩ u38 ((LX_q h'.2.2.1 (by omega)).trans hN) w5 ((LX_q h'.2.2.1 (by omega)).trans he) (b2 _) N.toNat jFU 0 (by omega) (by omega) (bub_ge (by omega))] at M
    exact Or.inr ⟨x + 1, _, _, W, M, h2, u38, by rw [s3, hq]; omega, by rw [s3, hq]; omega, s28⟩
  · rw [if_neg (c := g = l + 1) (by omega)] at W
    obtain ⟨r, hr⟩ : ∃ r : Nat, N = r + 1 := ⟨(N - 1).toNat, by omega⟩
    have I := loop_run hB ha ⟨hl.1, b1, hl.2.2⟩ w2 hg2 hg3 hN w5 he b2 r jFU 0 (x + 1) _ _ h2 u38 (by rw [u_eq ⟨rfl, rfl⟩]; exact hr) (by omega) (by omega) (bub_ge (by omega)) (by rw [s3]; omega)
    exact RES_tr I M W (by rw [s3, hq]; omega) (by rw [s3, hq]; omega) s28 ⟨by omega, by omega⟩
theorem BLK_0 {V : jM} {c : Int → Int} {n d : Nat} {a b l m : Int} (h : BLK V c n d a b l m) : a = b ↔ l = m := by
  cases n with
  | zero => have h : a = b ∧ l = m := h; omega
  | succ n =>
    rcases h with h | ⟨-, -, h⟩ | ⟨d', e, g, -, -, -, -, -, -, h1, h2, h3, h4⟩
    · omega
    · have := BLK_le _ _ _ _ _ _ h
      omega
    · have := BLK_le _ _ _ _ _ _ h3
      have := BLK_le _ _ _ _ _ _ h4
      omega
theorem run_blk {B : Int} {s0 u0 : jM} {w : Int → Int} (hB : B = 30 ∨ B = 55) (hL : xV (vw s0 B) 9 2 ≤ 60) : ∀ (n d : Nat) (a b l m : Int) (k g : Nat) (x : Nat) (s u : jM), BLK (xV (vw s0 B)) (xc (cw u0 0)) n d a b l m → d ≤ k → 0 ≤ a → b ≤ 30 → 0 ≤ l → m ≤ xV (vw s0 B) 9 2 → b - a < g → LX B s0 u0 w s u → u 155 38 = 0 → (x : Int) + 100 * (300 - s 27 3) ≤ 500000 → RES B s0 u0 w l m 0 (if a < b then 1 else 0) l m x s (Md_doAll_2 (Md_doAll k) g 155 b a u) := by
  have nil : ∀ (rec : Int → Int → Int → jM → Option (Int × jM)) (a : Int) (g : Nat) (u : jM), Md_doAll_2 rec (g + 1) 155 a a u = some (0, u) := fun rec a g u => by
    rw [Md_doAll_2, if_neg (Int.lt_irrefl _)]
  have nilR : ∀ (k g : Nat) (a l : Int) (x : Nat) (s u : jM), LX B s0 u0 w s u → u 155 38 = 0 → a - a < g → RES B s0 u0 w l l 0 (if a < a then 1 else 0) l l x s (Md_doAll_2 (Md_doAll k) g 155 a a u) := fun k g a l x s u h h38 hg => by
    obtain ⟨g, rfl⟩ : ∃ f, g = f + 1 := ⟨g - 1, by omega⟩
    rw [nil, if_neg (Int.lt_irrefl _)]
    exact Or.inr ⟨x, s, u, rfl, rfl, h, h38, by omega, by omega, fun j _ => rfl⟩
  intro n
  induction n with
  | zero =>
    intro d a b l m k g x s u hb hk ha hb3 hl hm hg h h38 hx
    obtain ⟨e1, e2⟩ : a = b ∧ l = m := hb
    subst e1 e2
    exact nilR k g a l x s u h h38 hg
  | succ n ih =>
    intro d a b l m k g x s u hb hk ha hb3 hl hm hg h h38 hx
    have sb := h.2.2.2.2.1
    rcases hb with hb | ⟨x1, x2, hb⟩ | ⟨d', e, f, x1, x2, x3, x4, x5, x6, y1, y2, k3, k4⟩
    · obtain ⟨e1, e2⟩ := hb
      subst e1 e2
      exact nilR k g a l x s u h h38 hg
    · have hle := BLK_le _ _ _ _ _ _ hb
      obtain ⟨g, rfl⟩ : ∃ f, g = f + 2 := ⟨g - 2, by omega⟩
      rw [if_pos (c := a < b) (by omega)]
      refine RES_seq (m := l + 1) ⟨ha, by omega, hb3⟩ ⟨by omega, hle.2⟩ x2 h38 (hd_stp hB h h38 (by omega) ⟨ha, by omega⟩ ⟨hl, by omega, hL⟩ x1) (fun x' s' u' g1 g2 g3 g4 => ?_)
      have sb' := g1.2.2.2.2.1
      have I := ih d (a + 1) b (l + 1) m k (g + 1) x' s' u' hb hk (by omega) hb3 (by omega) hm (by omega) g1 g2 (by omega)
      exact RES_tr I rfl rfl (by omega) (by split <;> omega) (fun j _ => rfl) ⟨by omega, by omega⟩
    · have hle := BLK_le _ _ _ _ _ _ k4
      have hle2 := BLK_le _ _ _ _ _ _ k3
      have h0 := BLK_0 k3
      obtain ⟨g, rfl⟩ : ∃ f, g = f + 2 := ⟨g - 2, by omega⟩
      obtain ⟨k, rfl⟩ : ∃ f, k = f + 1 := ⟨k - 1, by omega⟩
      rw [if_pos (c := a < b) (by omega)]
      have hbody : ∀ (x : Nat) (s u : jM), LX B s0 u0 w s u → u 155 38 = 0 → (x : Int) + 100 * (300 - s 27 3) ≤ 500000 → RES B s0 u0 w (l + 1) f 0 (if a + 1 < e then 1 else 0) (l + 1) f x s (Md_doAll (k + 1) 155 (a + 1) e u) := fun x s u z1 z2 z3 => by
        rw [Md_doAll, Md_doAll_b]
        exact ih d' (a + 1) e (l + 1) f k jFU x s u k3 (by omega) (by omega) (by omega) (by omega) (by omega) (by have := bub_ge (m := 40) (by omega); omega) z1 z2 z3
      have hone : RES B s0 u0 w l (f + 1) 0 1 l (f + 1) x s (Md_doOne (Md_doAll (k + 1)) 155 a u) := by
        rcases x2 with x2 | x2
        · exact hd_when hB h h38 hx ⟨ha, by omega, by omega⟩ ⟨hl, y2, by omega, hL⟩ x2 x3 x4 x5 x6 (by split <;> omega) hbody
        · refine hd_loop hB h h38 hx ⟨ha, by omega, by omega⟩ ⟨hl, y2, by omega, hL⟩ x2 x3 x4 x5 x6 ?_
          by_cases z : a + 1 = e
          · refine Or.inl ⟨by omega, fun u => ?_⟩
            obtain ⟨f', hf'⟩ : ∃ f', jFU = f' + 1 := ⟨jFU - 1, by have := bub_ge (m := 40) (by omega); omega⟩
            rw [Md_doAll, Md_doAll_b, ← z, hf']
            exact nil _ _ _ _
          · rw [if_pos (c := a + 1 < e) (by omega)] at hbody
            exact Or.inr ⟨by omega, hbody⟩
      refine RES_seq (m := f + 1) ⟨ha, by omega, hb3⟩ ⟨by omega, hle.2⟩ x3 h38 hone (fun x' s' u' g1 g2 g3 g4 => ?_)
      have sb' := g1.2.2.2.2.1
      have I := ih d e b (f + 1) m (k + 1) (g + 1) x' s' u' k4 hk (by omega) hb3 (by omega) hm (by omega) g1 g2 (by omega)
      exact RES_tr I rfl rfl (by omega) (by split <;> omega) (fun j _ => rfl) ⟨by omega, by omega⟩
