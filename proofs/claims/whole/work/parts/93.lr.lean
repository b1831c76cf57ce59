/-! live: the class's steps -/
def LR (x : Nat) (l : Int) (s : jM) : Option (Int × jM) := Li_run_38 (jFU - x) 27 l x s
theorem lr_f {x : Nat} (hx : x ≤ 900000) : ∃ n, jFU - x = n + 1 ∧ jFU - (x + 1) = n := by
  have : 1000000 ≤ jFU := jFU_ge (by decide)
  exact ⟨jFU - (x + 1), by omega, rfl⟩
/-- the line lies behind the last -/
theorem lr_out {B l : Int} {x : Nat} {s : jM} (hB : B = 30 ∨ B = 55) (h1 : s 27 1 = B + 9) (hx : x ≤ 900000) (h2 : s (B + 9) 2 = l) (hl : 0 ≤ l ∧ l ≤ 60) : LR x l s = some (0, s) := by
  obtain ⟨n, n1, n2⟩ := lr_f hx
  have j4 : jok 4 (B + 9) = true := by rcases hB with q | q <;> subst q <;> decide +kernel
  unfold LR
  rw [n1, Li_run_38, w32_id (x := (x : Int)) (by omega) (by omega), if_pos (by omega), h1, if_pos j4, h2, w32_id (x := l) (by omega) (by omega), if_neg (by omega)]
/-- a deed -/
theorem lr_deed {B l k q r : Int} {x : Nat} {s t : jM} (hB : B = 30 ∨ B = 55) (h1 : s 27 1 = B + 9) (hx : x ≤ 900000) (hl : 0 ≤ l ∧ l < 60) (h2 : l < s (B + 9) 2 ∧ s (B + 9) 2 ≤ 60) (hk : s (B + 10) l = k) (kd : k = 0 ∨ (13 ≤ k ∧ k ≤ 19)) (h3 : s 27 3 = q) (hq : 0 ≤ q ∧ q < 300) (hh : Li_happens 27 l k (jup s 27 3 (q + 1)) = some (r, t)) (hr : r = 0 ∨ r = 1) : LR x l s = LR (x + 1) (l + 1) (jup t 27 4 (s 27 4 + (1 - r))) := by
  obtain ⟨n, n1, n2⟩ := lr_f hx
  have j4 : jok 4 (B + 9) = true := by rcases hB with q | q <;> subst q <;> decide +kernel
  have c3 : (x : Int) + 1 = ((x + 1 : Nat) : Int) := by omega
  have r1 : B + 9 + 1 = B + 10 := by omega
  have y4 : jup s 27 3 (q + 1) 27 4 = s 27 4 := u_ne (by omega)
  unfold LR
  rw [n1, n2, Li_run_38, w32_id (x := (x : Int)) (by omega) (by omega), if_pos (by omega), h1, if_pos j4, w32_id (x := l) (by omega) (by omega), w32_id (x := s (B + 9) 2) (by omega) (by omega), if_pos h2.1, r1, hk, w32_id (x := k) (by omega) (by omega), h3, w32_id (x := q) (by omega) (by omega), if_pos (c := jok 4 (B + 9) = true ∧ (0 ≤ l ∧ l < 60)) ⟨j4, hl⟩, if_neg (c := k = 24) (by omega), if_pos (c := q < 300) hq.2, if_neg (c := k = 25) (by omega), if_neg (c := k = 23) (by omega), if_neg (c := k = 21) (by omega), if_neg (c := k = 22) (by omega), if_neg (c := k = 12) (by omega), hh, jb_t, y4, c3]
  rcases hr with z | z
  · subst z
    rw [if_pos (by decide), show s 27 4 + 1 = s 27 4 + (1 - 0) by omega]
  · subst z
    rw [if_neg (by decide), show s 27 4 + 0 = s 27 4 + (1 - 1) by omega]
