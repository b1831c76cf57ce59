/-! live: the reference's steps -/
theorem ro_300 {rec : Int → Int → Int → jM → Option (Int × jM)} {a : Int} {u : jM} (h : u 155 40 = 300) : Md_doOne rec 155 a u = some (0, jup (jup u 155 38 1) 155 45 1) := by
  rw [Md_doOne, h, if_pos (by decide)]
theorem ro_hd {rec : Int → Int → Int → jM → Option (Int × jM)} {a w q : Int} {u : jM} (ha : 0 ≤ a ∧ a < 30) (h : u 155 40 = q) (hq : 0 ≤ q ∧ q < 300) (hw : u 160 (111 + 9 * a) = w) (wb : 0 ≤ w ∧ w ≤ 10) : Md_doOne rec 155 a u = if w < 8 then (jb (Md_does 155 (111 + 9 * a) (jup u 155 40 (q + 1))) fun v2 s2 => if (w32 v2) = 0 then (some (0, (jup s2 155 41 (u 155 41 + 1)))) else (some (0, (jup s2 155 41 (u 155 41 + 0))))) else (if w = 8 then (jb (Md_isSo 155 (111 + 9 * a) (jup u 155 40 (q + 1))) fun v3 s3 => if (w32 v3) = 0 then (Md_doOne_110 rec 155 a (111 + 9 * a) w s3) else (if (0 ≤ (w32 ((111 + (9 * a)) + 8)) ∧ (w32 ((111 + (9 * a)) + 8)) < 1905) then jb (rec 155 (a + 1) (s3 160 (w32 ((111 + (9 * a)) + 8))) s3) fun v4 s4 => some (0, s4) else none)) else (Md_doOne_110 rec 155 a (111 + 9 * a) w (jup u 155 40 (q + 1)))) := by
  have e : w32 (111 + 9 * a) = 111 + 9 * a := w32_id (by omega) (by omega)
  have y : jup u 155 40 (q + 1) (155 + 5) (111 + 9 * a) = w := by
    show jup u 155 40 (q + 1) 160 (111 + 9 * a) = w
    rw [u_ne (by omega)]; exact hw
  have y2 : jup u 155 40 (q + 1) 155 41 = u 155 41 := u_ne (by omega)
  rw [Md_doOne, h, w32_id (x := q) (by omega) (by omega), if_neg (by omega), e, if_pos (by clear e; omega), y, y2, w32_id (x := w) (by omega) (by omega)]
  rfl
