/-! live: one deed on both sides -/
def RR (B : Int) (s u : jM) (w : Int → Int) : Prop := s 27 0 = B ∧ s 27 1 = B + 9 ∧ s 27 2 = u 155 39 ∧ (0 ≤ s 27 2 ∧ s 27 2 ≤ 70000) ∧ iSe (vw s B) (cw u 0) ∧ u 160 5 ≤ 9999 ∧ iX (vw s B) (cw u 0) w
def dC (B x y : Int) : Prop := cdy B x y ∨ (x = 27 ∧ y = 2)
def dR (x y : Int) : Prop := rdy x y ∨ (x = 155 ∧ (y = 39 ∨ y = 42))
theorem RR_fin {B : Int} (hB : B = 30 ∨ B = 55) {s u t v : jM} {w : Int → Int} (h : RR B s u w) (e1 : EX (dC B) s t) (e2 : EX dR u v) (e3 : iSe (vw t B) (cw v 0)) (e4 : v 160 5 ≤ 9999) (e5 : t 27 2 = v 155 39) (e6 : 0 ≤ t 27 2 ∧ t 27 2 ≤ 70000) : RR B t v w := by
  obtain ⟨h1, h2, -, -, -, -, h7⟩ := h
  refine ⟨by rw [e1 _ _ (by unfold dC cdy; omega)]; exact h1, by rw [e1 _ _ (by unfold dC cdy; omega)]; exact h2, e5, e6, e3, e4, iX_congr h7 (fun i j q => ?_) (fun o q => ?_) rfl⟩
  · rw [vw_at (by omega), vw_at (by omega)]
    exact e1 _ _ (by unfold dC cdy; omega)
  · by_cases z : 0 ≤ o ∧ o < 381
    · rw [cw_at z, cw_at z]
      exact e2 _ _ (by unfold dR rdy; omega)
    · show (if 0 ≤ o ∧ o < 381 then v 160 (381 * 0 + o) else 0) = if 0 ≤ o ∧ o < 381 then u 160 (381 * 0 + o) else 0
      rw [if_neg z, if_neg z]
theorem b01i {r : Int} (h : r = 0 ∨ r = 1) {t : jM} : (if r = 0 ∨ r = 1 then some (r, t) else none) = some (r, t) := if_pos h
/-! the class's deeds leave the minutes alone -/
theorem some_2 {r r' : Int} {s t : jM} (h : some (r, s) = some (r', t)) : s = t := congrArg Prod.snd (Option.some.inj h)
theorem jb_i {F : Option (Int × jM)} {f : Int → jM → Option (Int × jM)} {r : Int} {t : jM} (h : jb F f = some (r, t)) : ∃ v s, F = some (v, s) ∧ f v s = some (r, t) := by
  cases F with
  | none => cases h
  | some p => exact ⟨p.1, p.2, rfl, h⟩
theorem weaken_o {k y r : Int} {s t : jM} (h : Mo_weaken k y s = some (r, t)) {a b : Int} (ha : a ≠ k ∧ a ≠ k + 1) : t a b = s a b := by
  rw [Mo_weaken] at h
  split at h
  · split at h
    · rw [Mo_makeVoid_eq, jb_t] at h
      rw [← some_2 h, u_ne (by omega), moV_o ha, u_ne (by omega)]
    · rw [← some_2 h, u_ne (by omega)]
  · rw [← some_2 h]
theorem add_o {k x n g r : Int} {s t : jM} (h : Mo_add k x n g s = some (r, t)) {a b : Int} (ha : a ≠ k ∧ a ≠ k + 1) : t a b = s a b := by
  rw [Mo_add, jm_s] at h
  split at h
  · rw [← some_2 h, u_ne (by omega), u_ne (by omega), u_ne (by omega), u_ne (by omega), u_ne (by omega)]
  · cases h
theorem press_2 {B m r : Int} {s t : jM} (h : Se_press B m s = some (r, t)) : t B 2 = s B 2 := by
  rw [Se_press] at h
  split at h
  · rename_i c
    split at h
    · split at h
      · obtain ⟨v, s1, h1, h2⟩ := jb_i h
        rw [← some_2 h2]
        exact weaken_o h1 (by omega)
      · obtain ⟨v, s1, h1, h2⟩ := jb_i h
        rw [← some_2 h2]
        exact weaken_o h1 (by omega)
    · rw [← some_2 h]
  · cases h
theorem void_2 {B m r : Int} {s t : jM} (h : Se_voidOut B m s = some (r, t)) : t B 2 = s B 2 := by
  rw [Se_voidOut] at h
  split at h
  · rename_i c
    split at h
    · rw [← some_2 h]
    · rw [Mo_makeVoid_eq, jb_t] at h
      rw [← some_2 h]
      exact moV_o (by omega)
  · cases h
theorem turn_2 {B m r : Int} {s t : jM} (h : Se_turnOut B m s = some (r, t)) : t B 2 = s B 2 := by
  rw [Se_turnOut] at h
  split at h
  · rename_i c
    obtain ⟨v, s1, h1, h2⟩ := jb_i h
    have e1 : s1 = s := by
      rw [Mo_canBeTurnedOut] at h1
      split at h1
      · split at h1
        · exact (some_2 h1).symm
        · exact (some_2 h1).symm
      · exact (some_2 h1).symm
    subst e1
    split at h2
    · rw [← some_2 h2]
    · obtain ⟨v3, s3, h3, h4⟩ := jb_i h2
      rw [← some_2 h4, weaken_o h3 (by omega), u_ne (by omega)]
  · cases h
theorem heat_2 {B n r : Int} {s t : jM} (h : Se_heatTo B n s = some (r, t)) : t B 2 = s B 2 := by
  rw [Se_heatTo] at h
  split at h
  · rw [← some_2 h]
  · rw [← some_2 h, u_ne (by omega)]
theorem bring_2 {B m p r : Int} {s t : jM} (h : Se_bring B m p s = some (r, t)) : t B 2 = s B 2 := by
  rw [Se_bring] at h
  split at h
  · rename_i c
    obtain ⟨v, s1, h1, h2⟩ := jb_i h
    have e1 : s1 = s := by
      rw [Se_shakesBetween, Se_wayLength] at h1
      obtain ⟨v3, s3, h3, h4⟩ := jb_i h1
      split at h3
      · have e := some_2 h3
        subst e
        split at h4
        · exact (some_2 h4).symm
        · exact (some_2 h4).symm
      · cases h3
    subst e1
    split at h2
    · rw [← some_2 h2]
    · split at h2
      · rw [← some_2 h2]
      · obtain ⟨v3, s3, h3, h4⟩ := jb_i h2
        rw [← some_2 h4, weaken_o h3 (by omega), u_ne (by omega)]
  · cases h
theorem pour_2 {B m k n r : Int} {s t : jM} (h : Se_pourInto B m k n s = some (r, t)) : t B 2 = s B 2 := by
  rw [Se_pourInto] at h
  split at h
  · rename_i c
    split at h
    · rw [← some_2 h]
    · split at h
      · split at h
        · rw [← some_2 h]
        · split at h
          · rw [← some_2 h]
          · split at h
            · rw [jm_s] at h
              obtain ⟨v, s1, h1, h2⟩ := jb_i h
              rw [← some_2 h2, add_o h1 (by omega), u_ne (by omega), u_ne (by omega)]
            · cases h
      · cases h
  · cases h
theorem deed_both {B a l : Int} (hB : B = 30 ∨ B = 55) {s u : jM} {w : Int → Int} (h : RR B s u w) (hl : 0 ≤ l ∧ l < 60) (ha : 0 ≤ a ∧ a < 30) (hS : STP (vw s B) (cw u 0) a l) (hk : s (B + 10) l ≠ 25) : ∃ r t v, Li_happens 27 l (s (B + 10) l) s = some (r, t) ∧ Md_does 155 (111 + 9 * a) u = some (r, v) ∧ (r = 0 ∨ r = 1) ∧ RR B t v w ∧ EX (dC B) s t ∧ EX dR u v ∧ v 155 42 - v 160 5 = u 155 42 - u 160 5 := by
  have hh := h
  obtain ⟨h1, h2, h3, h4, h5, h6, h7⟩ := h
  have hd := (hd_at h5).2
  have j4 : jok 4 (B + 9) = true := by rcases hB with q | q <;> subst q <;> decide +kernel
  have lw : w32 l = l := w32_id (by omega) (by omega)
  obtain ⟨e, he⟩ : ∃ e, e = 111 + 9 * a := ⟨_, rfl⟩
  have eb : 111 ≤ e ∧ e + 8 < 1905 := by omega
  have E1 : w32 (e + 1) = e + 1 := w32_id (by omega) (by omega)
  have E2 : w32 (e + 2) = e + 2 := w32_id (by omega) (by omega)
  have E3 : w32 (e + 3) = e + 3 := w32_id (by omega) (by omega)
  have v10 : vw s B 10 l = s (B + 10) l := vw_at (by omega)
  have v11 : vw s B 11 l = s (B + 11) l := vw_at (by omega)
  have v12 : vw s B 12 l = s (B + 12) l := vw_at (by omega)
  have v13 : vw s B 13 l = s (B + 13) l := vw_at (by omega)
  have c0 : cw u 0 0 = u 160 0 := cw_at (by omega)
  have c1 : cw u 0 1 = u 160 1 := cw_at (by omega)
  have c2 : cw u 0 2 = u 160 2 := cw_at (by omega)
  have d1 : cw u 0 (111 + 9 * a) = u 160 e := by rw [cw_at (by omega), he]
  have d2 : cw u 0 (112 + 9 * a) = u 160 (e + 1) := by rw [cw_at (by omega), show e + 1 = 112 + 9 * a by omega]
  have d3 : cw u 0 (113 + 9 * a) = u 160 (e + 2) := by rw [cw_at (by omega), show e + 2 = 113 + 9 * a by omega]
  have d4 : cw u 0 (114 + 9 * a) = u 160 (e + 3) := by rw [cw_at (by omega), show e + 3 = 114 + 9 * a by omega]
  unfold STP at hS
  rw [v10, v11, v12, v13, c0, c1, c2, d1, d2, d3, d4] at hS
  clear v10 v11 v12 v13 c0 c1 c2 d1 d2 d3 d4
  rw [← he]
  have r2 : B + 9 + 2 = B + 11 := by omega
  have r3 : B + 9 + 3 = B + 12 := by omega
  have r4 : B + 9 + 4 = B + 13 := by omega
  have hc : jok 4 (s 27 1) = true ∧ (0 ≤ (w32 l) ∧ (w32 l) < 60) := by rw [h2, lw]; exact ⟨j4, hl⟩
  -- what the operations give
  have fin : ∀ (r : Int) (t v : jM), (r = 0 ∨ r = 1) → R2 B s u t v → t B 2 = s B 2 → ∀ F G : Option (Int × jM), F = some (r, t) → G = some (r, v) → ∃ r t v, F = some (r, t) ∧ G = some (r, v) ∧ (r = 0 ∨ r = 1) ∧ RR B t v w ∧ EX (dC B) s t ∧ EX dR u v ∧ v 155 42 - v 160 5 = u 155 42 - u 160 5 := fun r t v hr hR h2' F G hF hG => by
    have g1 : EX (dC B) s t := hR.1.wk (fun x y z => Or.inl z)
    have g2 : EX dR u v := hR.2.1.wk (fun x y z => Or.inl z)
    have t2 : t 27 2 = s 27 2 := hR.1 _ _ (by unfold cdy; omega)
    have v2 : v 155 39 = u 155 39 := hR.2.1 _ _ (by unfold rdy; omega)
    have v4 : v 155 42 = u 155 42 := hR.2.1 _ _ (by unfold rdy; omega)
    have m1 := (hd_at h5).1.2.2.1
    have m2 := (hd_at hR.2.2.1).1.2.2.1
    exact ⟨r, t, v, hF, hG, hr, RR_fin hB hh g1 g2 hR.2.2.1 (hR.2.2.2 h6) (by rw [t2, v2]; exact h3) (by rw [t2]; exact h4), g1, g2, by omega⟩
  rcases hS with ⟨w0, k0, q2, q3, q4, p1, p2, p3, p4, p5, p6⟩ | ⟨wk, q2, p1, p2⟩ | ⟨w0, k0, q2, q3, p1, p2, p3, p4⟩ | ⟨w0, k0, q4, p1, p2⟩ | ⟨w0, k0, q4, p1, p2⟩ | ⟨w0, k0⟩ | ⟨w0, k0⟩
  · obtain ⟨r, t, v, o1, o2, o3, o4⟩ := op_pour h5 (m := u 160 (e + 1)) (k := u 160 (e + 2)) (n := u 160 (e + 3)) ⟨p1, p2⟩ ⟨p3, p4⟩ ⟨p5, p6⟩
    refine fin r t v o4 o3 (pour_2 o1) _ _ ?_ ?_
    · rw [k0, lh_13 hc, h1, h2, lw, if_pos ⟨jok3 hB, j4, hl, j4, hl⟩, r2, r3, r4, q2, q3, q4, o1, jb_t, b01i o4]
    · rw [md_0 eb w0, E1, E2, E3, if_pos (by omega), o2, jb_t, b01i o4]
  · rcases wk with ⟨w0, k0⟩ | ⟨w0, k0⟩ | ⟨w0, k0⟩
    · obtain ⟨r, t, v, o1, o2, o3, o4⟩ := op_void h5 (m := u 160 (e + 1)) ⟨p1, p2⟩
      refine fin r t v o4 o3 (void_2 o1) _ _ ?_ ?_
      · rw [k0, lh_14 hc, h1, h2, lw, if_pos (jok3 hB), r2, q2, o1, jb_t, b01i o4]
      · rw [md_1 eb w0, E1, o2, jb_t, b01i o4]
    · obtain ⟨r, t, v, o1, o2, o3, o4⟩ := op_knock h5 (m := u 160 (e + 1)) ⟨p1, p2⟩
      refine fin r t v o4 o3 (turn_2 o1) _ _ ?_ ?_
      · rw [k0, lh_15 hc, h1, h2, lw, if_pos (jok3 hB), r2, q2, o1, jb_t, b01i o4]
      · rw [md_2 eb w0, E1, o2, jb_t, b01i o4]
    · obtain ⟨r, t, v, o1, o2, o3, o4⟩ := op_touch h5 (m := u 160 (e + 1)) ⟨p1, p2⟩
      refine fin r t v o4 o3 (press_2 o1) _ _ ?_ ?_
      · rw [k0, lh_16 hc, h1, h2, lw, if_pos (jok3 hB), r2, q2, o1, jb_t, b01i o4]
      · rw [md_3 eb w0, E1, o2, jb_t, b01i o4]
  · obtain ⟨r, t, v, o1, o2, o3, o4⟩ := op_carry h5 h7 (m := u 160 (e + 1)) (p := u 160 (e + 2)) ⟨p1, p2⟩ ⟨p3, p4⟩
    refine fin r t v o4 o3 (bring_2 o1) _ _ ?_ ?_
    · rw [k0, lh_17 hc, h1, h2, lw, if_pos ⟨jok3 hB, j4, hl⟩, r2, r3, q2, q3, o1, jb_t, b01i o4]
    · rw [md_4 eb w0, E1, E2, if_pos (by omega), o2, jb_t, b01i o4]
  · obtain ⟨r, t, v, o1, o2, o3, o4, o5, o6, o7, o8⟩ := min_both h5 h6 (n := u 160 (e + 1)) ⟨p1, p2⟩
    have g1 : EX (dC B) s t := o3.wk (fun x y z => Or.inl z)
    have g2 : EX dR u v := fun x y z => o4 x y (fun q => z (Or.inl q)) (fun q => z (Or.inr ⟨q.1, Or.inr q.2⟩))
    have t2 : t 27 2 = s 27 2 := o3 _ _ (by unfold cdy; omega)
    have v2 : v 155 39 = u 155 39 := o4 _ _ (by unfold rdy; omega) (by omega)
    refine ⟨r, t, v, ?_, ?_, o7, RR_fin hB hh g1 g2 o5 o6 (by rw [t2, v2]; exact h3) (by rw [t2]; exact h4), g1, g2, by omega⟩
    · rw [k0, lh_18 hc, h1, h2, lw, if_pos ⟨jok3 hB, j4, hl⟩, r4, q4, o1, jb_t, b01i o7]
    · rw [md_5 eb w0, E1, o2, jb_t, b01i o7]
  · obtain ⟨r, t, v, o1, o2, o3, o4⟩ := op_heat h5 (n := u 160 (e + 1)) ⟨p1, p2⟩
    refine fin r t v o4 o3 (heat_2 o1) _ _ ?_ ?_
    · rw [k0, lh_0 hc, h1, h2, lw, if_pos ⟨jok3 hB, j4, hl⟩, r4, q4, o1, jb_t, b01i o4]
    · rw [md_6 eb w0, E1, o2, jb_t, b01i o4]
  · have hd1 := (hd_at h5).1
    have b6 : s B 6 = u 160 2 := hd1.2.2.2.2.2.2.1
    have b1 : s B 1 = u 160 4 := hd1.2.1
    by_cases z : u 160 2 = 0
    · refine ⟨0, s, u, ?_, ?_, Or.inl rfl, hh, EX.rf _ _, EX.rf _ _, rfl⟩
      · have dt : Li_drawTouched 27 s = some (-1, s) := by rw [Li_drawTouched, h1, if_pos (jok3 hB), b6, z, if_neg (by decide)]
        rw [k0, lh_19 hc, dt, jb_t, if_pos (by decide)]
      · have ia : Md_isAny 155 u = some (0, u) := by
          have z' : u (155 + 5) 2 = 0 := z
          rw [Md_isAny, z', if_pos (by decide)]
        rw [md_7 eb w0, ia, jb_t, if_pos (Or.inl rfl)]
    · have w2 : w32 (u 160 2) = u 160 2 := w32_id (by omega) (by omega)
      have w4 : w32 (u 160 4) = u 160 4 := w32_id (by omega) (by omega)
      obtain ⟨r1, y1, a1, a2, a3, a4, a5⟩ := draw_both (n := u 160 2) (x := s 27 2) (by omega) ⟨rfl, h3.symm⟩ h4
      obtain ⟨r2', y2, c1, c2, c3, c4, c5⟩ := draw_both (n := 16) (s := jup s 27 2 y1) (u := jup u 155 39 y1) (x := y1) (by omega) ⟨u_eq ⟨rfl, rfl⟩, u_eq ⟨rfl, rfl⟩⟩ (by omega)
      rw [u_u] at c1 c2
      obtain ⟨S, hS'⟩ : ∃ S, S = jup s 27 2 y2 := ⟨_, rfl⟩
      obtain ⟨U, hU'⟩ : ∃ U, U = jup u 155 39 y2 := ⟨_, rfl⟩
      rw [← hS'] at c1
      rw [← hU'] at c2
      have S2 : S 27 2 = y2 := by rw [hS', u_eq ⟨rfl, rfl⟩]
      have U2 : U 155 39 = y2 := by rw [hU', u_eq ⟨rfl, rfl⟩]
      have Se : ∀ x y, ¬ (x = 27 ∧ y = 2) → S x y = s x y := fun x y q => by rw [hS', u_ne q]
      have Ue : ∀ x y, ¬ (x = 155 ∧ y = 39) → U x y = u x y := fun x y q => by rw [hU', u_ne q]
      have eS : EX (dC B) s S := fun x y q => Se x y (fun p => q (Or.inr p))
      have eU : EX dR u U := fun x y q => Ue x y (fun p => q (Or.inr ⟨p.1, Or.inl p.2⟩))
      have iS : iSe (vw S B) (cw U 0) := by
        rw [vw_congr (s := s) (b := B) (fun i j _ _ => Se _ _ (by omega)), cw_congr (s := u) (q := 0) (fun o _ _ => Ue _ _ (by omega))]
        exact h5
      have wr1 : w32 r1 = r1 := w32_id (by omega) (by omega)
      have wr2 : w32 r2' = r2' := w32_id (by omega) (by omega)
      have S0 : S 27 0 = B := by rw [Se _ _ (by omega)]; exact h1
      have dt : Li_drawTouched 27 s = if r2' < u 160 4 then some (r1, S) else some (-1, S) := by
        have j0 : jup s 27 2 y1 27 0 = B := by rw [u_ne (by omega)]; exact h1
        have s1 : S B 1 = u 160 4 := by rw [Se _ _ (by omega)]; exact b1
        rw [Li_drawTouched, h1, if_pos (jok3 hB), b6, w2, if_pos (by omega), if_pos (jok3 hB), a1, jb_t, c1, jb_t, S0, if_pos (jok3 hB), s1, w4, wr2]
      have ia : Md_isAny 155 u = if r2' < u 160 4 then (jb (Md_touches 155 r1 U) fun v3 s3 => if (w32 v3) = 0 then (some (0, s3)) else (some (1, s3))) else some (0, U) := by
        have z' : u (155 + 5) 2 = u 160 2 := rfl
        have z4 : U (155 + 5) 4 = u 160 4 := Ue 160 4 (by omega)
        rw [Md_isAny, z', w2, if_neg z, a2, jb_t, c2, jb_t, z4, w4, wr2]
      by_cases q : r2' < u 160 4
      · rw [if_pos q] at dt ia
        obtain ⟨r, t, v, o1, o2, o3, o4⟩ := op_touch iS (m := r1) ⟨a4, by rw [Ue _ _ (by omega)]; exact a5⟩
        have g1 : EX (dC B) s t := eS.tr (o3.1.wk (fun x y z => Or.inl z))
        have g2 : EX dR u v := eU.tr (o3.2.1.wk (fun x y z => Or.inl z))
        have t2 : t 27 2 = y2 := by rw [o3.1 _ _ (by unfold cdy; omega), S2]
        have v2 : v 155 39 = y2 := by rw [o3.2.1 _ _ (by unfold rdy; omega), U2]
        have v4 : v 155 42 = u 155 42 := by rw [o3.2.1 _ _ (by unfold rdy; omega), Ue _ _ (by omega)]
        have m1 := (hd_at h5).1.2.2.1
        have m2 := (hd_at o3.2.2.1).1.2.2.1
        have m3 : t B 2 = s B 2 := by rw [press_2 o1, Se _ _ (by omega)]
        have m5 : v 160 5 ≤ 9999 := o3.2.2.2 (by rw [Ue _ _ (by omega)]; exact h6)
        refine ⟨r, t, v, ?_, ?_, o4, RR_fin hB hh g1 g2 o3.2.2.1 m5 (by rw [t2, v2]) (by rw [t2]; omega), g1, g2, by omega⟩
        · rw [k0, lh_19 hc, dt, jb_t, wr1, if_neg (by omega), S0, if_pos (jok3 hB), o1, jb_t]
          rcases o4 with y | y <;> subst y <;> rfl
        · rw [md_7 eb w0, ia, o2, jb_t]
          rcases o4 with y | y <;> subst y <;> rfl
      · rw [if_neg q] at dt ia
        refine ⟨0, S, U, ?_, ?_, Or.inl rfl, RR_fin hB hh eS eU iS (by rw [Ue _ _ (by omega)]; exact h6) (by rw [S2, U2]) (by rw [S2]; omega), eS, eU, ?_⟩
        · rw [k0, lh_19 hc, dt, jb_t, if_pos (by decide)]
        · rw [md_7 eb w0, ia, jb_t, if_pos (Or.inl rfl)]
        · rw [Ue _ _ (by omega), Ue _ _ (by omega)]
  · exact absurd k0 hk
