/-! live: draws, minutes -/
theorem draw_both {n x : Int} {s u : jM} (hn : 1 ≤ n ∧ n ≤ 100) (hx : s 27 2 = x ∧ u 155 39 = x) (hb : 0 ≤ x ∧ x ≤ 70000) : ∃ r y, Li_draw 27 n s = some (r, jup s 27 2 y) ∧ Md_draw 155 n u = some (r, jup u 155 39 y) ∧ (0 ≤ y ∧ y < 65536) ∧ 0 ≤ r ∧ r < n := by
  have e1 : jrem (x * 2971 + 10867) 65536 = (x * 2971 + 10867) % 65536 := jrem_e (by omega) (by omega) (by omega) (by omega)
  obtain ⟨y, hy⟩ : ∃ y, y = (x * 2971 + 10867) % 65536 := ⟨_, rfl⟩
  have yb : 0 ≤ y ∧ y < 65536 := by omega
  rw [← hy] at e1
  have e2 : jdiv y 8 = y / 8 := by rw [jdiv, w32_id (by omega) (by omega), w32_id (by omega) (by omega), Int.tdiv_eq_ediv_of_nonneg yb.1]
  have e3 : jrem (y / 8) n = (y / 8) % n := jrem_e (by omega) (by omega) (by omega) (by omega)
  have w : w32 n = n := w32_id (by omega) (by omega)
  have m1 := Int.emod_nonneg (y / 8) (show n ≠ 0 by omega)
  have m2 := Int.emod_lt_of_pos (y / 8) (show 0 < n by omega)
  refine ⟨(y / 8) % n, y, ?_, ?_, yb, m1, m2⟩
  · rw [Li_draw, hx.1, e1, u_eq ⟨rfl, rfl⟩, w, if_pos (by omega), if_pos (by omega), e2, e3]
  · rw [Md_draw, hx.2, e1, u_eq ⟨rfl, rfl⟩, w, if_pos (by omega), e2, e3]
theorem any18 {N : Int} (hN : 0 ≤ N ∧ N ≤ 99) : ∀ (k f : Nat) (x : Int) (u v : jM), ITER k u v → 0 ≤ x → N = x + k → k < f → Md_anyMinutes_18 f 155 N x u = some (1, jup v 155 42 (v 155 42 + N)) := by
  intro k
  induction k with
  | zero =>
    intro f x u v h h1 h2 h3
    obtain ⟨f, rfl⟩ : ∃ g, f = g + 1 := ⟨f - 1, by omega⟩
    have e : v = u := h
    subst e
    rw [Md_anyMinutes_18, w32_id (x := x) (by omega) (by omega), w32_id (x := N) (by omega) (by omega), if_neg (by omega)]
  | succ k ih =>
    intro f x u v h h1 h2 h3
    obtain ⟨f, rfl⟩ : ∃ g, f = g + 1 := ⟨f - 1, by omega⟩
    obtain ⟨w, w1, w2⟩ := h
    rw [Md_anyMinutes_18, w32_id (x := x) (by omega) (by omega), w32_id (x := N) (by omega) (by omega), if_pos (by omega), w1, jb_t]
    exact ih f (x + 1) w v w2 (by omega) (by omega) (by omega)
/-- minutes on both sides, as a deed -/
theorem min_both {s u : jM} {b n : Int} (h : iSe (vw s b) (cw u 0)) (h5 : u 160 5 ≤ 9999) (hn : 1 ≤ n ∧ n ≤ 60) : ∃ r t v, Se_passMinutes b n s = some (r, t) ∧ Md_anyMinutes 155 n u = some (r, v) ∧ EX (cdy b) s t ∧ (∀ x y, ¬ rdy x y → ¬ (x = 155 ∧ y = 42) → v x y = u x y) ∧ iSe (vw t b) (cw v 0) ∧ v 160 5 ≤ 9999 ∧ (r = 0 ∨ r = 1) ∧ v 155 42 - v 160 5 = u 155 42 - u 160 5 := by
  have hd := (hd_at h).2
  have wn : w32 (u 160 5 + n) = u 160 5 + n := w32_id (by omega) (by omega)
  have e5 : u (155 + 5) 5 = u 160 5 := rfl
  by_cases q : u 160 5 + n ≤ 9999
  · obtain ⟨t, v, a1, a2, a3, a4, a5⟩ := op_min h h5 (by omega) q
    have r := any18 (N := n) (by omega) n.toNat jFU 0 u v a2 (by omega) (by omega) (bub_ge (by omega))
    refine ⟨1, t, jup v 155 42 (v 155 42 + n), a1, ?_, a4.1, fun x y z1 z2 => by rw [u_ne z2]; exact a4.2.1 x y z1, ?_, ?_, Or.inr rfl, ?_⟩
    · rw [Md_anyMinutes, e5, wn, if_neg (by omega)]
      exact r
    · rw [show cw (jup v 155 42 (v 155 42 + n)) 0 = cw v 0 from cw_congr (fun o _ _ => u_ne (by omega))]
      exact a4.2.2.1
    · rw [u_ne (by omega), a5]; omega
    · rw [u_eq ⟨rfl, rfl⟩, u_ne (by omega), a5, a3 155 42 (by unfold gdz; omega)]
      omega
  · have a1 := op_min0 (s := s) h h5 (n := n) (by omega) (by omega)
    refine ⟨0, s, u, a1, ?_, EX.rf _ _, fun _ _ _ _ => rfl, h, h5, Or.inl rfl, rfl⟩
    rw [Md_anyMinutes, e5, wn, if_pos (by omega)]
