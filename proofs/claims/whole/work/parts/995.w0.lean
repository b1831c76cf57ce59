/-! the pure machine's cells behind the constructors (printed by wip/whole/gen_st.py) -/
def ktm : Nat → Int32 := upd (upd (upd (upd (fun _ => 0) 0 (-1)) 1 (-1)) 2 (-1)) 3 (-1)
def kcc : Nat → Int32 := upd (upd (fun _ => 0) 3 3) 4 2
def ks0 (b : Int) : Int := if b = 0 then 3 else if b = 1 then 2 else 0
def ks5 (b : Int) : Int := (knr 36 b.toNat).toInt
def js0 (L : Nat) (xs : Nat → Int32) : jM := fun a b =>
  if a = -1 then (xs b.toNat).toInt else if a = -2 then (L : Int) else
  if a = 0 then (if b = 2 then 1 else if b = 3 then -1 else if b = 4 then -1 else if b = 5 then 30 else if b = 6 then 55 else 0) else
  if a = 13 then (if b = 0 then -1 else if b = 1 then -1 else 0) else
  if a = 14 then (if b = 0 then -1 else if b = 1 then -1 else if b = 2 then -1 else 0) else
  if a = 27 then (if b = 0 then -1 else if b = 1 then -1 else 0) else
  if a = 30 then ks0 b else if a = 35 then ks5 b else if a = 55 then ks0 b else if a = 60 then ks5 b else if a = 80 then ks0 b else if a = 85 then ks5 b else
  if a = 105 then ks0 b else if a = 110 then ks5 b else if a = 130 then ks0 b else if a = 135 then ks5 b else
  if a = 155 then (if b = 3 then 1 else if b = 10 then -1 else if b = 11 then -1 else 0) else
  if a = 157 then (ktm b.toNat).toInt else if a = 160 then (kcc b.toNat).toInt else 0
theorem kcc_0 {n : Nat} (h : n ≠ 3) (h2 : n ≠ 4) : kcc n = 0 := by
  unfold kcc upd
  rw [if_neg h2, if_neg h]
section W0
variable {L : Nat} {xs : Nat → Int32}
theorem js0_160 {o : Int} (h0 : 0 ≤ o) (h : o ≠ 3) (h2 : o ≠ 4) : js0 L xs 160 o = 0 := by
  show (kcc o.toNat).toInt = 0
  rw [kcc_0 (by omega) (by omega)]
  rfl
theorem js0_157 {o : Int} : js0 L xs 157 o = (ktm o.toNat).toInt := rfl
theorem js0_near (p q : Int) (hp : 0 ≤ p ∧ p < 6) (hq : 0 ≤ q ∧ q < 6) : js0 L xs 35 (6 * p + q) = if p = q then 0 else 1000000 := by
  show ks5 (6 * p + q) = _
  have hp' : p = 0 ∨ p = 1 ∨ p = 2 ∨ p = 3 ∨ p = 4 ∨ p = 5 := by omega
  have hq' : q = 0 ∨ q = 1 ∨ q = 2 ∨ q = 3 ∨ q = 4 ∨ q = 5 := by omega
  rcases hp' with rfl | rfl | rfl | rfl | rfl | rfl <;> rcases hq' with rfl | rfl | rfl | rfl | rfl | rfl <;> decide +kernel
theorem PATH_0 {c : Int → Int} (h8 : c 8 = 0) {n : Nat} {S p q : Int} (h : PATH c n S p q) : n = 0 ∧ p = q ∧ S = 0 := by
  cases n with
  | zero =>
    have h : p = q ∧ S = 0 := h
    exact ⟨rfl, h⟩
  | succ n =>
    obtain ⟨r, z, ⟨x, x1, x2, -⟩, -⟩ := h
    omega
theorem js0_B : iB (vw (js0 L xs) 30) (cw (js0 L xs) 0) (ww (js0 L xs) 0) := by
  have c160 : ∀ o, 0 ≤ o → o < 381 → o ≠ 3 → o ≠ 4 → cw (js0 L xs) 0 o = 0 := fun o h1 h2 h3 h4 => by
    rw [cw_at ⟨h1, h2⟩]
    exact js0_160 h1 h3 h4
  have c3 : cw (js0 L xs) 0 3 = 3 := by
    rw [cw_at (by omega)]
    show (kcc (3 : Int).toNat).toInt = 3
    decide +kernel
  have c4 : cw (js0 L xs) 0 4 = 2 := by
    rw [cw_at (by omega)]
    show (kcc (4 : Int).toNat).toInt = 2
    decide +kernel
  have z := fun o h1 h2 h3 h4 => c160 o h1 h2 h3 h4
  have v0 : ∀ j, vw (js0 L xs) 30 0 j = ks0 j := fun j => by rw [vw_at (by omega)]; rfl
  have v5 : ∀ j, vw (js0 L xs) 30 5 j = js0 L xs 35 j := fun j => by rw [vw_at (by omega)]; rfl
  have v9 : ∀ j, vw (js0 L xs) 30 9 j = 0 := fun j => by rw [vw_at (by omega)]; rfl
  have xz : ∀ o, 0 ≤ o → o < 381 → ((0 ≤ o ∧ o ≤ 2) ∨ o = 8 ∨ (24 ≤ o ∧ o < 54) ∨ 109 ≤ o) → xc (cw (js0 L xs) 0) o = 0 := fun o h1 h2 h3 => by
    rw [xc_at h3]
    exact c160 o h1 h2 (by omega) (by omega)
  refine ⟨⟨⟨⟨?_, ?_, ?_, ?_, ?_, ?_, ?_, ?_⟩, ?_⟩, fun j j1 j2 => ?_, fun i i1 i2 => ?_, fun i i1 i2 => ?_, ?_⟩, ?_, ⟨⟨?_, fun k k1 k2 => ?_, fun t j t1 t2 j1 j2 => ?_, fun k k' k1 k2 => ?_⟩, fun p q p1 p2 q1 q2 => ?_, fun x x1 x2 => ?_, Or.inl ⟨?_, ?_, ?_⟩⟩⟩
  · rw [v0, c3]; decide +kernel
  · rw [v0, c4]; decide +kernel
  · rw [v0, z 5 (by omega) (by omega) (by omega) (by omega)]; decide +kernel
  · rw [v0, z 6 (by omega) (by omega) (by omega) (by omega)]; decide +kernel
  · rw [v0, z 0 (by omega) (by omega) (by omega) (by omega)]; decide +kernel
  · rw [v0, z 1 (by omega) (by omega) (by omega) (by omega)]; decide +kernel
  · rw [v0, z 2 (by omega) (by omega) (by omega) (by omega)]; decide +kernel
  · rw [v0, z 8 (by omega) (by omega) (by omega) (by omega)]; decide +kernel
  · rw [z 0 (by omega) (by omega) (by omega) (by omega), z 1 (by omega) (by omega) (by omega) (by omega), z 2 (by omega) (by omega) (by omega) (by omega), c3, c4, z 5 (by omega) (by omega) (by omega) (by omega), z 8 (by omega) (by omega) (by omega) (by omega)]
    decide
  · rw [z 0 (by omega) (by omega) (by omega) (by omega)] at j2; omega
  · rw [z 2 (by omega) (by omega) (by omega) (by omega)] at i2; omega
  · rw [z 2 (by omega) (by omega) (by omega) (by omega)] at i1
    exact z _ (by omega) (by omega) (by omega) (by omega)
  · rw [z 7 (by omega) (by omega) (by omega) (by omega)]
    exact (sum5_0 (fun j j1 j2 => z _ (by omega) (by omega) (by omega) (by omega))).symm
  · rw [z 5 (by omega) (by omega) (by omega) (by omega)]; decide
  · rw [xV_at (by omega), v0, xz 0 (by omega) (by omega) (by omega), xz 1 (by omega) (by omega) (by omega), xz 2 (by omega) (by omega) (by omega)]; decide +kernel
  · rw [xV_at (by omega), v0, show ks0 8 = 0 by decide +kernel] at k2; omega
  · rw [xz t (by omega) (by omega) (by omega)] at j2; omega
  · rw [xV_at (by omega), v0, show ks0 8 = 0 by decide +kernel] at k2; omega
  · have h8 : xc (cw (js0 L xs) 0) 8 = 0 := xz 8 (by omega) (by omega) (by omega)
    rw [xV_at (by omega), v5, js0_near p q ⟨p1, p2⟩ ⟨q1, q2⟩]
    by_cases e : p = q
    · rw [if_pos e]
      refine ⟨fun n S h => ?_, Or.inr ⟨0, 0, ⟨e, rfl⟩, by omega, by omega, by omega, by omega⟩⟩
      obtain ⟨n0, -, S0⟩ := PATH_0 h8 h
      subst n0 S0
      omega
    · rw [if_neg e]
      refine ⟨fun n S h => absurd (PATH_0 h8 h).2.1 e, Or.inl ⟨rfl, fun n S h => absurd (PATH_0 h8 h).2.1 e⟩⟩
  · rw [xz 8 (by omega) (by omega) (by omega)] at x2; omega
  · rw [xV_at (by omega), v9]
  · exact xz 109 (by omega) (by omega) (by omega)
  · rw [xV_at (by omega), v9]
theorem js0_INV : INV (js0 L xs) := by
  refine ⟨⟨by simp [js0], by simp [js0], by simp [js0], by simp [js0], by simp [js0]⟩, fun t t1 t2 => ?_, ⟨by simp [js0], by simp [js0], by simp [js0], fun i i1 i2 => ?_⟩, ⟨by simp [js0], Or.inl (by simp [js0]), fun j j1 j2 => by simp [js0]⟩, ⟨Or.inl ⟨by simp [js0], by simp [js0]⟩, by simp [js0], by simp [js0], by simp [js0]⟩, ?_, fun q q1 q2 => ?_⟩
  · rcases (by omega : t = 0 ∨ t = 1 ∨ t = 2 ∨ t = 3) with rfl | rfl | rfl | rfl <;> exact Or.inl ⟨by simp [js0], by rw [js0_157]; decide +kernel⟩
  · have e : js0 L xs 11 0 = 0 := by simp [js0]
    omega
  · rw [show js0 L xs 0 5 = 30 by simp [js0]]
    exact js0_B
  · have e : js0 L xs 0 7 = 0 := by simp [js0]
    omega
theorem js0_SC (hL : L ≤ 3072) : SC (js0 L xs) := by
  have e : js0 L xs (-2) 0 = (L : Int) := by simp [js0]
  refine ⟨by omega, fun j j1 j2 => ?_⟩
  show i32 (xs j.toNat).toInt
  exact ⟨Int32.le_toInt _, Int32.toInt_lt _⟩
end W0
