/-! live: whether it is so -/
theorem so_eq {e m : Int} {u : jM} (he : 111 ≤ e ∧ e + 8 < 1905) (hm : u 160 (e + 1) = m) (m5 : 0 ≤ m ∧ m < 5) : Md_isSo 155 e u = if (w32 (u 160 (e + 5))) = 0 then (if (w32 (u 160 (69 + m))) = 2 then (some (1, u)) else (some (0, u))) else (if (w32 (u 160 (e + 5))) = 2 then (if (w32 (u 160 (64 + m))) = (w32 (u 160 (e + 2))) then (some (1, u)) else (some (0, u))) else (if (w32 (u 160 (e + 7))) = 60 then (if (w32 (u 160 (74 + m))) < (w32 (u 160 (e + 6))) then (some (1, u)) else (some (0, u))) else (if (w32 (u 160 (e + 7))) = 62 then (if (w32 (u 160 (e + 6))) < (w32 (u 160 (74 + m))) then (some (1, u)) else (some (0, u))) else (if (w32 (u 160 (74 + m))) = (w32 (u 160 (e + 6))) then (some (1, u)) else (some (0, u)))))) := by
  have hm' : u (155 + 5) (e + 1) = m := hm
  rw [Md_isSo, w32_id (x := e + 5) (by omega) (by omega), w32_id (x := e + 1) (by omega) (by omega), if_pos (c := (0 ≤ e + 5 ∧ e + 5 < 1905) ∧ (0 ≤ e + 1 ∧ e + 1 < 1905)) (by omega), hm', w32_id (x := 69 + m) (by omega) (by omega), w32_id (x := 64 + m) (by omega) (by omega), w32_id (x := 74 + m) (by omega) (by omega), w32_id (x := e + 2) (by omega) (by omega), w32_id (x := e + 6) (by omega) (by omega), w32_id (x := e + 7) (by omega) (by omega), if_pos (c := 0 ≤ 69 + m ∧ 69 + m < 1905) (by omega), if_pos (c := (0 ≤ 64 + m ∧ 64 + m < 1905) ∧ (0 ≤ e + 2 ∧ e + 2 < 1905)) (by omega), if_pos (c := (0 ≤ 74 + m ∧ 74 + m < 1905) ∧ (0 ≤ e + 7 ∧ e + 7 < 1905)) (by omega)]
  simp only [if_pos (show 0 ≤ e + 7 ∧ e + 7 < 1905 by omega), if_pos (show 0 ≤ e + 6 ∧ e + 6 < 1905 by omega)]
  rfl
theorem holds_both {B a l : Int} (hB : B = 30 ∨ B = 55) {s u : jM} {w : Int → Int} (h : RR B s u w) (hl : 0 ≤ l ∧ l < 60) (ha : 0 ≤ a ∧ a < 30) (hS : WHN (vw s B) (cw u 0) a l) : ∃ r, (r = 0 ∨ r = 1) ∧ Li_holds 27 l (s (B + 10) l) s = some (r, s) ∧ Md_isSo 155 (111 + 9 * a) u = some (r, u) := by
  obtain ⟨h1, h2, h3, h4, h5, h6, h7⟩ := h
  have j4 : jok 4 (B + 9) = true := by rcases hB with q | q <;> subst q <;> decide +kernel
  have lw : w32 l = l := w32_id (by omega) (by omega)
  obtain ⟨e, he⟩ : ∃ e, e = 111 + 9 * a := ⟨_, rfl⟩
  have eb : 111 ≤ e ∧ e + 8 < 1905 := by omega
  have v10 : vw s B 10 l = s (B + 10) l := vw_at (by omega)
  have v11 : vw s B 11 l = s (B + 11) l := vw_at (by omega)
  have v12 : vw s B 12 l = s (B + 12) l := vw_at (by omega)
  have v13 : vw s B 13 l = s (B + 13) l := vw_at (by omega)
  have c1 : cw u 0 1 = u 160 1 := cw_at (by omega)
  have c2 : cw u 0 2 = u 160 2 := cw_at (by omega)
  have d1 : cw u 0 (111 + 9 * a) = u 160 e := by rw [cw_at (by omega), he]
  have d2 : cw u 0 (112 + 9 * a) = u 160 (e + 1) := by rw [cw_at (by omega), show e + 1 = 112 + 9 * a by omega]
  have d3 : cw u 0 (113 + 9 * a) = u 160 (e + 2) := by rw [cw_at (by omega), show e + 2 = 113 + 9 * a by omega]
  have d6 : cw u 0 (116 + 9 * a) = u 160 (e + 5) := by rw [cw_at (by omega), show e + 5 = 116 + 9 * a by omega]
  have d7 : cw u 0 (117 + 9 * a) = u 160 (e + 6) := by rw [cw_at (by omega), show e + 6 = 117 + 9 * a by omega]
  have d8 : cw u 0 (118 + 9 * a) = u 160 (e + 7) := by rw [cw_at (by omega), show e + 7 = 118 + 9 * a by omega]
  unfold WHN at hS
  rw [v10, v11, v12, v13, c1, c2, d1, d2, d3, d6, d7, d8] at hS
  clear v10 v11 v12 v13 c1 c2 d1 d2 d3 d6 d7 d8
  rw [← he]
  obtain ⟨w0, q2, p1, p2, hS⟩ := hS
  obtain ⟨m, hm⟩ : ∃ m, m = u 160 (e + 1) := ⟨_, rfl⟩
  rw [← hm] at q2 p1 p2
  have mo := mo_at h5 ⟨p1, p2⟩
  have hd := (hd_at h5).2
  have E1 : w32 (e + 1) = e + 1 := w32_id (by omega) (by omega)
  have E2 : w32 (e + 2) = e + 2 := w32_id (by omega) (by omega)
  have E5 : w32 (e + 5) = e + 5 := w32_id (by omega) (by omega)
  have E6 : w32 (e + 6) = e + 6 := w32_id (by omega) (by omega)
  have E7 : w32 (e + 7) = e + 7 := w32_id (by omega) (by omega)
  have mw : w32 m = m := w32_id (by omega) (by omega)
  have M3 : s (B + 4 + 11 + 2 * m) 3 = u 160 (69 + m) := by rw [show B + 4 + 11 + 2 * m = B + (15 + 2 * m) by omega]; exact mo.2.1.2.2.2.1
  have M2 : s (B + 4 + 11 + 2 * m) 2 = u 160 (64 + m) := by rw [show B + 4 + 11 + 2 * m = B + (15 + 2 * m) by omega]; exact mo.2.1.2.2.1
  have M4 : s (B + 4 + 11 + 2 * m) 4 = u 160 (74 + m) := by rw [show B + 4 + 11 + 2 * m = B + (15 + 2 * m) by omega]; exact mo.2.1.2.2.2.2.1
  have r2 : B + 9 + 2 = B + 11 := by omega
  have r3 : B + 9 + 3 = B + 12 := by omega
  have r4 : B + 9 + 4 = B + 13 := by omega
  have hc0 : ∀ k, Li_holds 27 l k s = if (w32 k) = 21 then (if (w32 (u 160 (69 + m))) = 2 then (some (1, s)) else (some (0, s))) else (if (w32 k) = 12 then (if (w32 (u 160 (64 + m))) = (w32 (s (B + 12) l)) then (some (1, s)) else (some (0, s))) else (if (w32 (s (B + 12) l)) = 60 then (if (w32 (u 160 (74 + m))) < (w32 (s (B + 13) l)) then (some (1, s)) else (some (0, s))) else (if (w32 (s (B + 12) l)) = 62 then (if (w32 (s (B + 13) l)) < (w32 (u 160 (74 + m))) then (some (1, s)) else (some (0, s))) else (if (w32 (u 160 (74 + m))) = (w32 (s (B + 13) l)) then (some (1, s)) else (some (0, s)))))) := fun k => by
    rw [Li_holds, h1, h2, lw, r2, r3, r4, q2, mw, if_pos ⟨jok3 hB, j4, hl, p1, mo.1⟩, M2, M3, M4, if_pos (c := jok 4 (B + 9) = true ∧ (0 ≤ l ∧ l < 60)) ⟨j4, hl⟩, if_pos (c := jok 4 (B + 9) = true ∧ (0 ≤ l ∧ l < 60) ∧ jok 4 (B + 9) = true ∧ (0 ≤ l ∧ l < 60)) ⟨j4, hl, j4, hl⟩]
  have hr0 := so_eq eb hm.symm ⟨p1, mo.1⟩
  have bool : ∀ (P : Prop) [Decidable P], ∃ r : Int, (r = 0 ∨ r = 1) ∧ (if P then some ((1 : Int), s) else some (0, s)) = some (r, s) ∧ (if P then some ((1 : Int), u) else some (0, u)) = some (r, u) := fun P _ => by
    by_cases z : P
    · exact ⟨1, Or.inr rfl, if_pos z, if_pos z⟩
    · exact ⟨0, Or.inl rfl, if_neg z, if_neg z⟩
  rcases hS with ⟨w5, k0⟩ | ⟨w5, k0, q3, q4, -⟩ | ⟨w5, k0, q3, -⟩
  · rw [k0, hc0, hr0, w5, if_pos (show w32 21 = 21 by decide), if_pos (show w32 0 = 0 by decide)]
    exact bool _
  · rw [k0, hc0, hr0, w5, q3, q4, if_neg (show ¬ w32 22 = 21 by decide), if_neg (show ¬ w32 22 = 12 by decide), if_neg (show ¬ w32 1 = 0 by decide), if_neg (show ¬ w32 1 = 2 by decide)]
    by_cases z : w32 (u 160 (e + 7)) = 60
    · rw [if_pos z, if_pos z]
      exact bool _
    · rw [if_neg z, if_neg z]
      by_cases z2 : w32 (u 160 (e + 7)) = 62
      · rw [if_pos z2, if_pos z2]
        exact bool _
      · rw [if_neg z2, if_neg z2]
        exact bool _
  · rw [k0, hc0, hr0, w5, q3, if_neg (show ¬ w32 12 = 21 by decide), if_pos (show w32 12 = 12 by decide), if_neg (show ¬ w32 2 = 0 by decide), if_pos (show w32 2 = 2 by decide)]
    exact bool _
