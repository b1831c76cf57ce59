/-! live: a block on both sides -/
def eC (B x y : Int) : Prop := cdy B x y ∨ (x = 27 ∧ 0 ≤ y ∧ y ≤ 5) ∨ x = 28
def eR (x y : Int) : Prop := rdy x y ∨ (x = 155 ∧ 38 ≤ y ∧ y ≤ 45 ∧ y ≠ 43 ∧ y ≠ 44)
def LX (B : Int) (s0 u0 : jM) (w : Int → Int) (s u : jM) : Prop := RR B s u w ∧ EX (eC B) s0 s ∧ EX eR u0 u ∧ s 27 3 = u 155 40 ∧ (0 ≤ s 27 3 ∧ s 27 3 ≤ 300) ∧ s 27 4 = u 155 41 ∧ s 27 5 = u 155 45 ∧ u 155 42 - u 160 5 = u0 155 42 - u0 160 5
theorem RR_o {B : Int} (hB : B = 30 ∨ B = 55) {s u t v : jM} {w : Int → Int} (h : RR B s u w) (e : ∀ x y, B ≤ x → x < B + 25 → t x y = s x y) (e0 : t 27 0 = s 27 0) (e1 : t 27 1 = s 27 1) (e2 : t 27 2 = s 27 2) (e3 : ∀ y, v 160 y = u 160 y) (e4 : v 155 39 = u 155 39) : RR B t v w := by
  unfold RR at h ⊢
  rw [vw_congr (s := s) (b := B) (fun i j _ _ => e _ _ (by omega) (by omega)), cw_congr (s := u) (q := 0) (fun o _ _ => e3 _), e0, e1, e2, e3, e4]
  exact h
theorem LX_v {B : Int} (hB : B = 30 ∨ B = 55) {s0 s : jM} (h : EX (eC B) s0 s) {i j : Int} (hi : 9 ≤ i ∧ i < 15) : s (B + i) j = xV (vw s0 B) i j := by
  unfold xV
  rw [if_pos (by omega), vw_at (by omega)]
  exact h _ _ (by unfold eC cdy; omega)
theorem LX_q {u0 u : jM} (h : EX eR u0 u) {o : Int} (ho : (0 ≤ o ∧ o ≤ 2) ∨ (109 ≤ o ∧ o < 381)) : u 160 o = xc (cw u0 0) o := by
  unfold xc
  rw [if_pos (by omega), cw_at (by omega)]
  exact h _ _ (by unfold eR rdy; omega)
theorem LX_3 {B q : Int} (hB : B = 30 ∨ B = 55) {s0 u0 s u : jM} {w : Int → Int} (h : LX B s0 u0 w s u) (h3 : s 27 3 = q) (hq : q < 300) : LX B s0 u0 w (jup s 27 3 (q + 1)) (jup u 155 40 (q + 1)) := by
  obtain ⟨a1, a2, a3, a4, a5, a6, a7, a8⟩ := h
  refine ⟨RR_o hB a1 (fun x y _ _ => u_ne (by omega)) (u_ne (by omega)) (u_ne (by omega)) (u_ne (by omega)) (fun y => u_ne (by omega)) (u_ne (by omega)), a2.up (Or.inr (Or.inl ⟨rfl, by omega, by omega⟩)), a3.up (Or.inr ⟨rfl, by omega⟩), ?_, ?_, ?_, ?_, ?_⟩
  · rw [u_eq ⟨rfl, rfl⟩, u_eq ⟨rfl, rfl⟩]
  · rw [u_eq ⟨rfl, rfl⟩]; omega
  · rw [u_ne (by omega), u_ne (by omega)]; exact a6
  · rw [u_ne (by omega), u_ne (by omega)]; exact a7
  · rw [u_ne (by omega), u_ne (by omega)]; exact a8
theorem LX_28 {B j v : Int} (hB : B = 30 ∨ B = 55) {s0 u0 s u : jM} {w : Int → Int} (h : LX B s0 u0 w s u) : LX B s0 u0 w (jup s 28 j v) u := by
  obtain ⟨a1, a2, a3, a4, a5, a6, a7, a8⟩ := h
  refine ⟨RR_o hB a1 (fun x y _ _ => u_ne (by omega)) (u_ne (by omega)) (u_ne (by omega)) (u_ne (by omega)) (fun y => rfl) rfl, a2.up (Or.inr (Or.inr rfl)), a3, ?_, ?_, ?_, ?_, a8⟩
  · rw [u_ne (by omega)]; exact a4
  · rw [u_ne (by omega)]; exact a5
  · rw [u_ne (by omega)]; exact a6
  · rw [u_ne (by omega)]; exact a7
theorem LX_38 {B : Int} (hB : B = 30 ∨ B = 55) {s0 u0 s u : jM} {w : Int → Int} (h : LX B s0 u0 w s u) : LX B s0 u0 w s (jup u 155 38 1) := by
  obtain ⟨a1, a2, a3, a4, a5, a6, a7, a8⟩ := h
  refine ⟨RR_o hB a1 (fun x y _ _ => rfl) rfl rfl rfl (fun y => u_ne (by omega)) (u_ne (by omega)), a2, a3.up (Or.inr ⟨rfl, by omega⟩), ?_, a5, ?_, ?_, ?_⟩
  · rw [u_ne (by omega)]; exact a4
  · rw [u_ne (by omega)]; exact a6
  · rw [u_ne (by omega)]; exact a7
  · rw [u_ne (by omega), u_ne (by omega)]; exact a8
theorem LX_5 {B : Int} (hB : B = 30 ∨ B = 55) {s0 u0 s u : jM} {w : Int → Int} (h : LX B s0 u0 w s u) : LX B s0 u0 w (jup s 27 5 1) (jup (jup u 155 38 1) 155 45 1) := by
  obtain ⟨a1, a2, a3, a4, a5, a6, a7, a8⟩ := LX_38 hB h
  refine ⟨RR_o hB a1 (fun x y _ _ => u_ne (by omega)) (u_ne (by omega)) (u_ne (by omega)) (u_ne (by omega)) (fun y => u_ne (by omega)) (u_ne (by omega)), a2.up (Or.inr (Or.inl ⟨rfl, by omega, by omega⟩)), a3.up (Or.inr ⟨rfl, by omega⟩), ?_, ?_, ?_, ?_, ?_⟩
  · rw [u_ne (by omega), u_ne (by omega)]; exact a4
  · rw [u_ne (by omega)]; exact a5
  · rw [u_ne (by omega), u_ne (by omega)]; exact a6
  · rw [u_eq ⟨rfl, rfl⟩, u_eq ⟨rfl, rfl⟩]
  · rw [u_ne (by omega), u_ne (by omega)]; exact a8
theorem LX_deed {B z : Int} (hB : B = 30 ∨ B = 55) {s0 u0 s u t v : jM} {w : Int → Int} (h : LX B s0 u0 w s u) (d4 : RR B t v w) (d5 : EX (dC B) s t) (d6 : EX dR u v) (d7 : v 155 42 - v 160 5 = u 155 42 - u 160 5) : LX B s0 u0 w (jup t 27 4 (s 27 4 + z)) (jup v 155 41 (u 155 41 + z)) := by
  obtain ⟨a1, a2, a3, a4, a5, a6, a7, a8⟩ := h
  have t3 : t 27 3 = s 27 3 := d5 _ _ (by unfold dC cdy; omega)
  have t5 : t 27 5 = s 27 5 := d5 _ _ (by unfold dC cdy; omega)
  have v40 : v 155 40 = u 155 40 := d6 _ _ (by unfold dR rdy; omega)
  have v45 : v 155 45 = u 155 45 := d6 _ _ (by unfold dR rdy; omega)
  have g1 : EX (eC B) s0 t := a2.tr (d5.wk (fun x y z => z.elim Or.inl (fun q => Or.inr (Or.inl ⟨q.1, by omega, by omega⟩))))
  have g2 : EX eR u0 v := a3.tr (d6.wk (fun x y z => z.elim Or.inl (fun q => Or.inr ⟨q.1, by omega⟩)))
  refine ⟨RR_o hB d4 (fun x y _ _ => u_ne (by omega)) (u_ne (by omega)) (u_ne (by omega)) (u_ne (by omega)) (fun y => u_ne (by omega)) (u_ne (by omega)), g1.up (Or.inr (Or.inl ⟨rfl, by omega, by omega⟩)), g2.up (Or.inr ⟨rfl, by omega⟩), ?_, ?_, ?_, ?_, ?_⟩
  · rw [u_ne (by omega), u_ne (by omega), t3, v40]; exact a4
  · rw [u_ne (by omega), t3]; exact a5
  · rw [u_eq ⟨rfl, rfl⟩, u_eq ⟨rfl, rfl⟩, a6]
  · rw [u_ne (by omega), u_ne (by omega), t5, v45]; exact a7
  · rw [u_ne (by omega), u_ne (by omega), d7]; exact a8
/-- what runs on both sides from line l: either both stop, or the class stands at line m -/
def RES (B : Int) (s0 u0 : jM) (w : Int → Int) (lo hi z k l m : Int) (x : Nat) (s : jM) (R : Option (Int × jM)) : Prop :=
  (∃ s' u', LR x l s = some (0, s') ∧ R = some (0, u') ∧ u' 155 38 = 1 ∧ LX B s0 u0 w s' u') ∨
  (∃ (x' : Nat) (s' u' : jM), LR x l s = LR x' m s' ∧ R = some (0, u') ∧ LX B s0 u0 w s' u' ∧ u' 155 38 = 0 ∧ (x' : Int) ≤ x + z + 100 * (s' 27 3 - s 27 3) ∧ s 27 3 + k ≤ s' 27 3 ∧ ∀ j, j < lo ∨ hi ≤ j → s' 28 j = s 28 j)
theorem RES_tr {B : Int} {s0 u0 : jM} {w : Int → Int} {lo hi z k l2 m lo' hi' z' k' l : Int} {x x2 : Nat} {s s2 : jM} {R R' : Option (Int × jM)} (h : RES B s0 u0 w lo hi z k l2 m x2 s2 R) (hR : R' = R) (e : LR x l s = LR x2 l2 s2) (hx : (x2 : Int) + z ≤ x + z' + 100 * (s2 27 3 - s 27 3)) (hk : s 27 3 + k' ≤ s2 27 3 + k) (hf : ∀ j, j < lo' ∨ hi' ≤ j → s2 28 j = s 28 j) (hl : lo' ≤ lo ∧ hi ≤ hi') : RES B s0 u0 w lo' hi' z' k' l m x s R' := by
  subst hR
  rcases h with ⟨s', u', a1, a2, a3, a4⟩ | ⟨x', s', u', a1, a2, a3, a4, a5, a6, a7⟩
  · exact Or.inl ⟨s', u', e.trans a1, a2, a3, a4⟩
  · exact Or.inr ⟨x', s', u', e.trans a1, a2, a3, a4, by omega, by omega, fun j hj => (a7 j (by omega)).trans (hf j hj)⟩
theorem d2_stop {rec : Int → Int → Int → jM → Option (Int × jM)} {g : Nat} {b y : Int} {u : jM} (h : u 155 38 = 1) : Md_doAll_2 rec (g + 1) 155 b y u = some (0, u) := by
  rw [Md_doAll_2, h, if_neg (show ¬ w32 1 = 0 by decide)]
  split <;> rfl
theorem d119_stop {rec : Int → Int → Int → jM → Option (Int × jM)} {g : Nat} {a y : Int} {u : jM} (ha : 0 ≤ a ∧ a < 30) (h : u 155 38 = 1) : Md_doOne_119 rec (g + 1) 155 a (111 + 9 * a) y u = some (0, u) := by
  rw [Md_doOne_119, h, if_neg (show ¬ w32 1 = 0 by decide), w32_id (x := 111 + 9 * a + 1) (by omega) (by omega), if_pos (c := 0 ≤ 111 + 9 * a + 1 ∧ 111 + 9 * a + 1 < 1905) (by omega)]
  split <;> rfl
/-- one of a block, and what is behind it -/
theorem RES_seq {B : Int} {s0 u0 : jM} {w : Int → Int} {rec : Int → Int → Int → jM → Option (Int × jM)} {g : Nat} {a b e l m m2 : Int} {x : Nat} {s u : jM} (ha : 0 ≤ a ∧ a < b ∧ b ≤ 30) (hlm : l ≤ m ∧ m ≤ m2) (he : xc (cw u0 0) (119 + 9 * a) = e) (hu : u 155 38 = 0) (h1 : RES B s0 u0 w l m 0 1 l m x s (Md_doOne rec 155 a u)) (h2 : ∀ (x' : Nat) (s' u' : jM), LX B s0 u0 w s' u' → u' 155 38 = 0 → (x' : Int) ≤ x + 100 * (s' 27 3 - s 27 3) → s 27 3 + 1 ≤ s' 27 3 → RES B s0 u0 w m m2 0 0 m m2 x' s' (Md_doAll_2 rec (g + 1) 155 b e u')) : RES B s0 u0 w l m2 0 1 l m2 x s (Md_doAll_2 rec (g + 2) 155 b a u) := by
  have D : ∀ u', Md_doOne rec 155 a u = some (0, u') → EX eR u0 u' → Md_doAll_2 rec (g + 2) 155 b a u = Md_doAll_2 rec (g + 1) 155 b e u' := fun u' h hx => by
    have c : u' (155 + 5) (111 + 9 * a + 8) = e := by
      rw [show (111 : Int) + 9 * a + 8 = 119 + 9 * a by omega, ← he]
      exact LX_q hx (by omega)
    rw [Md_doAll_2, w32_id (x := a) (by omega) (by omega), w32_id (x := b) (by omega) (by omega), if_pos ha.2.1, hu, if_pos (show w32 0 = 0 by decide), h, jb_t, w32_id (x := 111 + 9 * a + 8) (by omega) (by omega), if_pos (c := 0 ≤ 111 + 9 * a + 8 ∧ 111 + 9 * a + 8 < 1905) (by omega), c]
  rcases h1 with ⟨s', u', a1, a2, a3, a4⟩ | ⟨x', s', u', a1, a2, a3, a4, a5, a6, a7⟩
  · exact Or.inl ⟨s', u', a1, by rw [D u' a2 a4.2.2.1]; exact d2_stop a3, a3, a4⟩
  · exact RES_tr (h2 x' s' u' a3 a4 (by omega) a6) (D u' a2 a3.2.2.1) a1 (by omega) (by omega) (fun j hj => a7 j (by omega)) ⟨by omega, by omega⟩
theorem hd_300 {B a l k lo hi z kk m : Int} {s0 u0 s u : jM} {w : Int → Int} {x : Nat} {rec : Int → Int → Int → jM → Option (Int × jM)} (hB : B = 30 ∨ B = 55) (h : LX B s0 u0 w s u) (hx : x ≤ 900000) (hl : 0 ≤ l ∧ l < xV (vw s0 B) 9 2 ∧ xV (vw s0 B) 9 2 ≤ 60) (hk : xV (vw s0 B) 10 l = k) (kb : 0 ≤ k ∧ k ≤ 25 ∧ k ≠ 24) (h3 : s 27 3 = 300) : RES B s0 u0 w lo hi z kk l m x s (Md_doOne rec 155 a u) := by
  have v9 : s (B + 9) 2 = xV (vw s0 B) 9 2 := LX_v hB h.2.1 (by omega)
  have v10 : s (B + 10) l = xV (vw s0 B) 10 l := LX_v hB h.2.1 (by omega)
  refine Or.inl ⟨jup s 27 5 1, jup (jup u 155 38 1) 155 45 1, lr_300 hB h.1.2.1 hx ⟨hl.1, by omega⟩ (by rw [v9]; exact hl.2) (by rw [v10]; exact hk) kb h3, ro_300 (by rw [← h.2.2.2.1]; exact h3), ?_, LX_5 hB h⟩
  rw [u_ne (by omega), u_eq ⟨rfl, rfl⟩]
theorem STP_kd {V : jM} {c : Int → Int} {a l : Int} (h : STP V c a l) : (c (111 + 9 * a) = 10 ∧ V 10 l = 25) ∨ ((0 ≤ c (111 + 9 * a) ∧ c (111 + 9 * a) < 8) ∧ (V 10 l = 0 ∨ (13 ≤ V 10 l ∧ V 10 l ≤ 19))) := by
  unfold STP at h
  rcases h with h | ⟨h, -⟩ | h | h | h | h | h <;> omega
theorem LX_STP {B a l : Int} (hB : B = 30 ∨ B = 55) {s0 u0 s u : jM} {w : Int → Int} (h : LX B s0 u0 w s u) (ha : 0 ≤ a ∧ a < 30) (hS : STP (xV (vw s0 B)) (xc (cw u0 0)) a l) : STP (vw s B) (cw u 0) a l :=
  STP_cg hS (fun i _ _ => (vw_at (by omega)).trans (LX_v hB h.2.1 (by omega))) ⟨(cw_at (by omega)).trans (LX_q h.2.2.1 (by omega)), (cw_at (by omega)).trans (LX_q h.2.2.1 (by omega)), (cw_at (by omega)).trans (LX_q h.2.2.1 (by omega))⟩ (fun o _ _ => (cw_at (by omega)).trans (LX_q h.2.2.1 (by omega)))
theorem hd_stp {B a l : Int} {s0 u0 s u : jM} {w : Int → Int} {x : Nat} {rec : Int → Int → Int → jM → Option (Int × jM)} (hB : B = 30 ∨ B = 55) (h : LX B s0 u0 w s u) (h38 : u 155 38 = 0) (hx : x ≤ 900000) (ha : 0 ≤ a ∧ a < 30) (hl : 0 ≤ l ∧ l < xV (vw s0 B) 9 2 ∧ xV (vw s0 B) 9 2 ≤ 60) (hS : STP (xV (vw s0 B)) (xc (cw u0 0)) a l) : RES B s0 u0 w l (l + 1) 0 1 l (l + 1) x s (Md_doOne rec 155 a u) := by
  have wk := STP_kd hS
  by_cases h3 : s 27 3 = 300
  · exact hd_300 hB h hx hl rfl (by omega) h3
  have v9 : s (B + 9) 2 = xV (vw s0 B) 9 2 := LX_v hB h.2.1 (by omega)
  have v10 : s (B + 10) l = xV (vw s0 B) 10 l := LX_v hB h.2.1 (by omega)
  have c1 : u 160 (111 + 9 * a) = xc (cw u0 0) (111 + 9 * a) := LX_q h.2.2.1 (by omega)
  obtain ⟨q, hq⟩ : ∃ q, s 27 3 = q := ⟨_, rfl⟩
  have qb : 0 ≤ q ∧ q < 300 := by
    have := h.2.2.2.2.1
    omega
  have e40 : u 155 40 = q := by rw [← h.2.2.2.1]; exact hq
  have hl2 : 0 ≤ l ∧ l < 60 := ⟨hl.1, by omega⟩
  have h' := LX_3 hB h hq qb.2
  rcases wk with ⟨w1, w2⟩ | ⟨w1, w2⟩
  · refine Or.inl ⟨jup s 27 3 (q + 1), jup (jup u 155 40 (q + 1)) 155 38 1, lr_stop hB h.1.2.1 hx hl2 (by rw [v9]; exact hl.2) (by rw [v10]; exact w2) hq qb, ?_, u_eq ⟨rfl, rfl⟩, LX_38 hB h'⟩
    rw [ro_hd (w := 10) ha e40 qb (by rw [c1]; exact w1) (by omega), if_neg (show ¬ (10 : Int) < 8 by decide), if_neg (show ¬ (10 : Int) = 8 by decide), Md_doOne_110, if_neg (show ¬ w32 10 = 9 by decide), if_pos (show 9 < w32 10 by decide)]
  · have k1 : jup s 27 3 (q + 1) (B + 10) l = xV (vw s0 B) 10 l := by rw [u_ne (by omega)]; exact v10
    have hS' := LX_STP hB h' ha hS
    obtain ⟨r, t, v, d1, d2, d3, d4, d5, d6, d7⟩ := deed_both hB h'.1 hl2 ha hS' (by rw [k1]; omega)
    rw [k1] at d1
    have s4 : jup s 27 3 (q + 1) 27 4 = s 27 4 := u_ne (by omega)
    have u4 : jup u 155 40 (q + 1) 155 41 = u 155 41 := u_ne (by omega)
    have L := LX_deed (z := 1 - r) hB h' d4 d5 d6 d7
    rw [s4, u4] at L
    have v38 : v 155 38 = 0 := by
      rw [d6 _ _ (by unfold dR rdy; omega), u_ne (by omega)]
      exact h38
    have t3 : t 27 3 = q + 1 := by rw [d5 _ _ (by unfold dC cdy; omega), u_eq ⟨rfl, rfl⟩]
    refine Or.inr ⟨x + 1, jup t 27 4 (s 27 4 + (1 - r)), jup v 155 41 (u 155 41 + (1 - r)), lr_deed hB h.1.2.1 hx hl2 (by rw [v9]; exact hl.2) v10 w2 hq qb d1 d3, ?_, L, ?_, ?_, ?_, fun j _ => ?_⟩
    · rw [ro_hd ha e40 qb c1 (by omega), if_pos w1.2, d2, jb_t]
      rcases d3 with z | z
      · subst z
        rw [if_pos (by decide), show u 155 41 + 1 = u 155 41 + (1 - 0) by omega]
      · subst z
        rw [if_neg (by decide), show u 155 41 + 0 = u 155 41 + (1 - 1) by omega]
    · rw [u_ne (by omega)]; exact v38
    · rw [u_ne (by omega), t3, hq]; omega
    · rw [u_ne (by omega), t3, hq]; omega
    · rw [u_ne (by omega), d5 _ _ (by unfold dC cdy; omega), u_ne (by omega)]
