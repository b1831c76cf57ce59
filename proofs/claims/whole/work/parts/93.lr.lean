/-! live: the class's steps -/
def LR (x : Nat) (l : Int) (s : jM) : Option (Int × jM) := Li_run_38 (jFU - x) 27 l x s
theorem lr_f {x : Nat} (hx : x ≤ 900000) : ∃ n, jFU - x = n + 1 ∧ jFU - (x + 1) = n := by
  have : 1000000 ≤ jFU := jFU_ge (by decide)
  exact ⟨jFU - (x + 1), by omega, rfl⟩
/-- the line lies behind the last -/
theorem lr_out {B l : Int} {x : Nat} {s : jM} (hB : B = 30 ∨ B = 55) (h1 : s 27 1 = B + 9) (hx : x ≤ 900000) (h2 : s (B + 9) 2 = l) (hl : 0 ≤ l ∧ l ≤ 60) : LR x l s = some (0, s) := by
  obtain ⟨n, n1, n2⟩ := lr_f hx
  have j4 : jok 4 (B + 9) = true := by rcases hB with q | q <;> subst q <;> decide +kernel
  unfold LR
  rw [n1, Li_run_38, w32_id (x := (x : Int)) (by omega) (by omega), if_pos (by omega), h1, if_pos j4, h2, w32_id (x := l) (by omega) (by omega), if_neg (by omega)]
/-- a deed -/
theorem lr_deed {B l k q r : Int} {x : Nat} {s t : jM} (hB : B = 30 ∨ B = 55) (h1 : s 27 1 = B + 9) (hx : x ≤ 900000) (hl : 0 ≤ l ∧ l < 60) (h2 : l < s (B + 9) 2 ∧ s (B + 9) 2 ≤ 60) (hk : s (B + 10) l = k) (kd : k = 0 ∨ (13 ≤ k ∧ k ≤ 19)) (h3 : s 27 3 = q) (hq : 0 ≤ q ∧ q < 300) (hh : Li_happens 27 l k (jup s 27 3 (q + 1)) = some (r, t)) (hr : r = 0 ∨ r = 1) : LR x l s = LR (x + 1) (l + 1) (jup t 27 4 (s 27 4 + (1 - r))) := by
  obtain ⟨n, n1, n2⟩ := lr_f hx
  have j4 : jok 4 (B + 9) = true := by rcases hB with q | q <;> subst q <;> decide +kernel
  have c3 : (x : Int) + 1 = ((x + 1 : Nat) : Int) := by omega
  have r1 : B + 9 + 1 = B + 10 := by omega
  have y4 : jup s 27 3 (q + 1) 27 4 = s 27 4 := u_ne (by omega)
  unfold LR
  rw [n1, n2, Li_run_38, w32_id (x := (x : Int)) (by omega) (by omega), if_pos (by omega), h1, if_pos j4, w32_id (x := l) (by omega) (by omega), w32_id (x := s (B + 9) 2) (by omega) (by omega), if_pos h2.1, r1, hk, w32_id (x := k) (by omega) (by omega), h3, w32_id (x := q) (by omega) (by omega), if_pos (c := jok 4 (B + 9) = true ∧ (0 ≤ l ∧ l < 60)) ⟨j4, hl⟩, if_neg (c := k = 24) (by omega), if_pos (c := q < 300) hq.2, if_neg (c := k = 25) (by omega), if_neg (c := k = 23) (by omega), if_neg (c := k = 21) (by omega), if_neg (c := k = 22) (by omega), if_neg (c := k = 12) (by omega), hh, jb_t, y4, c3]
  rcases hr with z | z
  · subst z
    rw [if_pos (by decide), show s 27 4 + 1 = s 27 4 + (1 - 0) by omega]
  · subst z
    rw [if_neg (by decide), show s 27 4 + 0 = s 27 4 + (1 - 1) by omega]
/-- stop -/
theorem lr_stop {B l q : Int} {x : Nat} {s : jM} (hB : B = 30 ∨ B = 55) (h1 : s 27 1 = B + 9) (hx : x ≤ 900000) (hl : 0 ≤ l ∧ l < 60) (h2 : l < s (B + 9) 2 ∧ s (B + 9) 2 ≤ 60) (hk : s (B + 10) l = 25) (h3 : s 27 3 = q) (hq : 0 ≤ q ∧ q < 300) : LR x l s = some (0, jup s 27 3 (q + 1)) := by
  obtain ⟨n, n1, n2⟩ := lr_f hx
  have j4 : jok 4 (B + 9) = true := by rcases hB with q | q <;> subst q <;> decide +kernel
  have r1 : B + 9 + 1 = B + 10 := by omega
  unfold LR
  rw [n1, Li_run_38, w32_id (x := (x : Int)) (by omega) (by omega), if_pos (by omega), h1, if_pos j4, w32_id (x := l) (by omega) (by omega), w32_id (x := s (B + 9) 2) (by omega) (by omega), if_pos h2.1, r1, hk, h3, w32_id (x := q) (by omega) (by omega), if_pos (c := jok 4 (B + 9) = true ∧ (0 ≤ l ∧ l < 60)) ⟨j4, hl⟩, if_neg (show ¬ w32 25 = 24 by decide), if_pos (c := q < 300) hq.2, if_pos (show w32 25 = 25 by decide)]
/-- three hundred steps are done -/
theorem lr_300 {B l k : Int} {x : Nat} {s : jM} (hB : B = 30 ∨ B = 55) (h1 : s 27 1 = B + 9) (hx : x ≤ 900000) (hl : 0 ≤ l ∧ l < 60) (h2 : l < s (B + 9) 2 ∧ s (B + 9) 2 ≤ 60) (hk : s (B + 10) l = k) (kb : 0 ≤ k ∧ k ≤ 25 ∧ k ≠ 24) (h3 : s 27 3 = 300) : LR x l s = some (0, jup s 27 5 1) := by
  obtain ⟨n, n1, n2⟩ := lr_f hx
  have j4 : jok 4 (B + 9) = true := by rcases hB with q | q <;> subst q <;> decide +kernel
  have r1 : B + 9 + 1 = B + 10 := by omega
  unfold LR
  rw [n1, Li_run_38, w32_id (x := (x : Int)) (by omega) (by omega), if_pos (by omega), h1, if_pos j4, w32_id (x := l) (by omega) (by omega), w32_id (x := s (B + 9) 2) (by omega) (by omega), if_pos h2.1, r1, hk, w32_id (x := k) (by omega) (by omega), h3, if_pos (c := jok 4 (B + 9) = true ∧ (0 ≤ l ∧ l < 60)) ⟨j4, hl⟩, if_neg (c := k = 24) kb.2.2, if_neg (show ¬ w32 300 < 300 by decide)]
/-- when -/
theorem lr_when {B l k q r : Int} {x : Nat} {s : jM} (hB : B = 30 ∨ B = 55) (h1 : s 27 1 = B + 9) (hx : x ≤ 900000) (hl : 0 ≤ l ∧ l < 60) (h2 : l < s (B + 9) 2 ∧ s (B + 9) 2 ≤ 60) (hk : s (B + 10) l = k) (kd : k = 21 ∨ k = 22 ∨ k = 12) (h3 : s 27 3 = q) (hq : 0 ≤ q ∧ q < 300) (hh : Li_holds 27 l k (jup s 27 3 (q + 1)) = some (r, jup s 27 3 (q + 1))) (hr : r = 0 ∨ r = 1) : LR x l s = if r = 0 then LR (x + 1) (s (B + 14) l + 1) (jup s 27 3 (q + 1)) else LR (x + 1) (l + 1) (jup s 27 3 (q + 1)) := by
  obtain ⟨n, n1, n2⟩ := lr_f hx
  have j4 : jok 4 (B + 9) = true := by rcases hB with q | q <;> subst q <;> decide +kernel
  have c3 : (x : Int) + 1 = ((x + 1 : Nat) : Int) := by omega
  have r1 : B + 9 + 1 = B + 10 := by omega
  have r5 : B + 9 + 5 = B + 14 := by omega
  have y1 : jup s 27 3 (q + 1) 27 1 = B + 9 := by rw [u_ne (by omega)]; exact h1
  have y2 : jup s 27 3 (q + 1) (B + 14) l = s (B + 14) l := u_ne (by omega)
  have e154 : Li_run_154 (Li_run_38 n) 27 l (x : Int) k (jup s 27 3 (q + 1)) = if r = 0 then Li_run_38 n 27 (s (B + 14) l + 1) ((x + 1 : Nat) : Int) (jup s 27 3 (q + 1)) else Li_run_38 n 27 (l + 1) ((x + 1 : Nat) : Int) (jup s 27 3 (q + 1)) := by
    rw [Li_run_154, hh, jb_t, y1, w32_id (x := l) (by omega) (by omega), if_pos (c := jok 4 (B + 9) = true ∧ (0 ≤ l ∧ l < 60)) ⟨j4, hl⟩, r5, y2, c3]
    rcases hr with z | z
    · subst z
      rw [if_pos (by decide), if_pos rfl]
    · subst z
      rw [if_neg (by decide), if_neg (by decide)]
  unfold LR
  rw [n1, n2, Li_run_38, w32_id (x := (x : Int)) (by omega) (by omega), if_pos (by omega), h1, if_pos j4, w32_id (x := l) (by omega) (by omega), w32_id (x := s (B + 9) 2) (by omega) (by omega), if_pos h2.1, r1, hk, w32_id (x := k) (by omega) (by omega), h3, w32_id (x := q) (by omega) (by omega), if_pos (c := jok 4 (B + 9) = true ∧ (0 ≤ l ∧ l < 60)) ⟨j4, hl⟩, if_neg (c := k = 24) (by omega), if_pos (c := q < 300) hq.2, if_neg (c := k = 25) (by omega), if_neg (c := k = 23) (by omega), e154]
  rcases kd with z | z | z
  · rw [if_pos (c := k = 21) z]
  · rw [if_neg (c := k = 21) (by omega), if_pos (c := k = 22) z]
  · rw [if_neg (c := k = 21) (by omega), if_neg (c := k = 22) (by omega), if_pos (c := k = 12) z]
/-- a loop begins -/
theorem lr_loop {B l q : Int} {x : Nat} {s : jM} (hB : B = 30 ∨ B = 55) (h1 : s 27 1 = B + 9) (hx : x ≤ 900000) (hl : 0 ≤ l ∧ l < 60) (h2 : l < s (B + 9) 2 ∧ s (B + 9) 2 ≤ 60) (hk : s (B + 10) l = 23) (h3 : s 27 3 = q) (hq : 0 ≤ q ∧ q < 300) (hg : 0 ≤ s (B + 14) l ∧ s (B + 14) l < 60) : LR x l s = LR (x + 1) (if s (B + 14) l = l + 1 then l + 2 else l + 1) (jup (jup s 27 3 (q + 1)) 28 l (s (B + 13) l)) := by
  obtain ⟨n, n1, n2⟩ := lr_f hx
  have j4 : jok 4 (B + 9) = true := by rcases hB with q | q <;> subst q <;> decide +kernel
  have c3 : (x : Int) + 1 = ((x + 1 : Nat) : Int) := by omega
  have r1 : B + 9 + 1 = B + 10 := by omega
  have r4 : B + 9 + 4 = B + 13 := by omega
  have r5 : B + 9 + 5 = B + 14 := by omega
  have y1 : jup s 27 3 (q + 1) 27 1 = B + 9 := by rw [u_ne (by omega)]; exact h1
  have y2 : jup s 27 3 (q + 1) (B + 13) l = s (B + 13) l := u_ne (by omega)
  have y3 : jup (jup s 27 3 (q + 1)) 28 l (s (B + 13) l) 27 1 = B + 9 := by rw [u_ne (by omega)]; exact y1
  have y5 : jup (jup s 27 3 (q + 1)) 28 l (s (B + 13) l) (B + 14) l = s (B + 14) l := by rw [u_ne (by omega), u_ne (by omega)]
  have bl : Li_behindLoop 27 l (jup s 27 3 (q + 1)) = some ((if s (B + 14) l = l + 1 then l + 2 else l + 1), jup (jup s 27 3 (q + 1)) 28 l (s (B + 13) l)) := by
    rw [Li_behindLoop, y1, w32_id (x := l) (by omega) (by omega), r4, y2]
    show (if jok 4 (B + 9) = true ∧ (0 ≤ l ∧ l < 60) ∧ (0 ≤ l ∧ l < 60) ∧ jok 4 (jup (jup s 27 3 (q + 1)) 28 l (s (B + 13) l) 27 1) = true ∧ (0 ≤ l ∧ l < 60) then if w32 (jup (jup s 27 3 (q + 1)) 28 l (s (B + 13) l) (jup (jup s 27 3 (q + 1)) 28 l (s (B + 13) l) 27 1 + 5) l) = w32 (l + 1) then some (l + 2, jup (jup s 27 3 (q + 1)) 28 l (s (B + 13) l)) else some (l + 1, jup (jup s 27 3 (q + 1)) 28 l (s (B + 13) l)) else none) = _
    rw [y3, r5, y5, if_pos ⟨j4, hl, hl, j4, hl⟩, w32_id (x := s (B + 14) l) (by omega) (by omega), w32_id (x := l + 1) (by omega) (by omega)]
    by_cases z : s (B + 14) l = l + 1
    · rw [if_pos z, if_pos z]
    · rw [if_neg z, if_neg z]
  unfold LR
  rw [n1, n2, Li_run_38, w32_id (x := (x : Int)) (by omega) (by omega), if_pos (by omega), h1, if_pos j4, w32_id (x := l) (by omega) (by omega), w32_id (x := s (B + 9) 2) (by omega) (by omega), if_pos h2.1, r1, hk, h3, w32_id (x := q) (by omega) (by omega), if_pos (c := jok 4 (B + 9) = true ∧ (0 ≤ l ∧ l < 60)) ⟨j4, hl⟩, if_neg (show ¬ w32 23 = 24 by decide), if_pos (c := q < 300) hq.2, if_neg (show ¬ w32 23 = 25 by decide), if_pos (show w32 23 = 23 by decide), bl, jb_t, c3]
/-- the end of a block -/
theorem lr_end {B l p k : Int} {x : Nat} {s : jM} (hB : B = 30 ∨ B = 55) (h1 : s 27 1 = B + 9) (hx : x ≤ 900000) (hl : 0 ≤ l ∧ l < 60) (h2 : l < s (B + 9) 2 ∧ s (B + 9) 2 ≤ 60) (hk : s (B + 10) l = 24) (hp : s (B + 14) l = p) (pb : 0 ≤ p ∧ p < 60) (hq : s (B + 10) p = k) (kb : 0 ≤ k ∧ k ≤ 25) (hc : k = 23 → 1 ≤ s 28 p ∧ s 28 p ≤ 99) : LR x l s = if k = 23 then LR (x + 1) (if 1 < s 28 p then p + 1 else l + 1) (jup s 28 p (s 28 p - 1)) else LR (x + 1) (l + 1) s := by
  obtain ⟨n, n1, n2⟩ := lr_f hx
  have j4 : jok 4 (B + 9) = true := by rcases hB with q | q <;> subst q <;> decide +kernel
  have c3 : (x : Int) + 1 = ((x + 1 : Nat) : Int) := by omega
  have r1 : B + 9 + 1 = B + 10 := by omega
  have r5 : B + 9 + 5 = B + 14 := by omega
  have be : Li_behindEnd 27 l s = if k = 23 then some ((if 1 < s 28 p then p + 1 else l + 1), jup s 28 p (s 28 p - 1)) else some (l + 1, s) := by
    have y1 : jup s 28 p (s 28 p - 1) 28 p = s 28 p - 1 := u_eq ⟨rfl, rfl⟩
    rw [Li_behindEnd, h1, w32_id (x := l) (by omega) (by omega), r5, hp, w32_id (x := p) (by omega) (by omega), r1, hq, w32_id (x := k) (by omega) (by omega), if_pos ⟨j4, hl, j4, pb⟩]
    by_cases z : k = 23
    · have cb := hc z
      rw [if_pos z, if_pos z, if_pos ⟨pb, pb⟩, jm_s]
      show (if 0 ≤ p ∧ p < 60 then if 0 < w32 (jup s 28 p (s 28 p - 1) 28 p) then some (p + 1, jup s 28 p (s 28 p - 1)) else some (l + 1, jup s 28 p (s 28 p - 1)) else none) = _
      rw [if_pos pb, y1, w32_id (x := s 28 p - 1) (by omega) (by omega)]
      by_cases z2 : 1 < s 28 p
      · rw [if_pos z2, if_pos (by omega)]
      · rw [if_neg z2, if_neg (by omega)]
    · rw [if_neg z, if_neg z]
  unfold LR
  rw [n1, n2, Li_run_38, w32_id (x := (x : Int)) (by omega) (by omega), if_pos (by omega), h1, if_pos j4, w32_id (x := l) (by omega) (by omega), w32_id (x := s (B + 9) 2) (by omega) (by omega), if_pos h2.1, r1, hk, if_pos (c := jok 4 (B + 9) = true ∧ (0 ≤ l ∧ l < 60)) ⟨j4, hl⟩, if_pos (show w32 24 = 24 by decide), be, c3]
  by_cases z : k = 23
  · rw [if_pos z, if_pos z, jb_t]
  · rw [if_neg z, if_neg z, jb_t]
