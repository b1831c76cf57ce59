/-! a number -/
def r6 (a b : Int) : Prop := a = 11 ∧ b = 6
def r67 (a b : Int) : Prop := a = 155 ∧ (b = 14 ∨ b = 16 ∨ b = 17)
theorem num_eq {st L : Int} (hst : 0 ≤ st) (hL : L ≤ 900) : ∀ (d f f2 k : Nat) (s u : jM), st + k + d = L → d < f → d < f2 → s 11 1 = L → s 11 3 = st → u 155 9 = L → u 155 15 = st → u 155 16 = st + k → (∀ i, 0 ≤ i → i < L → s 12 i = u 159 i ∧ -128 ≤ s 12 i ∧ s 12 i ≤ 127) → s 11 6 = u 155 17 → 0 ≤ s 11 6 → ((k = 0 ∧ s 11 6 = 0) ∨ (k = 1 ∧ s 11 6 ≤ 9) ∨ (k = 2 ∧ s 11 6 ≤ 99) ∨ (k = 3 ∧ s 11 6 ≤ 999) ∨ (4 ≤ k ∧ s 11 6 ≤ 9999)) → ∃ (e : Nat) (s' u' : jM), k ≤ e ∧ st + e ≤ L ∧ Te_scanNumber_10 f 11 (st + k) s = some (0, jup (jup s' 11 4 (if 4 < e then 4 else 2)) 11 2 (st + e)) ∧ Md_advance_210 f2 155 u = some (0, u') ∧ EX r6 s s' ∧ EX r67 u u' ∧ u' 155 16 = st + e ∧ u' 155 14 = (if 4 < e then 4 else 2) ∧ s' 11 6 = u' 155 17 ∧ 0 ≤ s' 11 6 ∧ s' 11 6 ≤ 9999 ∧ (k = e → st + k < L → ¬ (48 ≤ s 12 (st + k) ∧ s 12 (st + k) ≤ 57)) := by
  intro d
  induction d with
  | zero =>
    intro f f2 k s u h1 h2 h3 h4 h5 h6 h7 h8 h9 h10 h11 h12
    obtain ⟨f, rfl⟩ : ∃ g, f = g + 1 := ⟨f - 1, by omega⟩
    obtain ⟨f2, rfl⟩ : ∃ g, f2 = g + 1 := ⟨f2 - 1, by omega⟩
    have k4 : k < 1000 := by omega
    refine ⟨k, s, jup u 155 14 (if 4 < k then 4 else 2), Nat.le_refl _, by omega, ?_, ?_, EX.rf _ _, (EX.rf _ _).up ⟨rfl, by omega⟩, by rw [u_ne (by omega)]; exact h8, u_eq ⟨rfl, rfl⟩, by rw [u_ne (by omega)]; exact h10, h11, by omega, fun _ q => by omega⟩
    · rw [Te_scanNumber_10, h4, w32_id (x := st + (k : Int)) (by omega) (by omega), w32_id (x := L) (by omega) (by omega), if_neg (by omega), Te_scanNumber_77, h5, show st + (k : Int) - st = k by omega, w32n k4]
      by_cases q : 4 < k
      · rw [if_pos (by omega), if_pos q]
      · rw [if_neg (by omega), if_neg q]
    · rw [Md_advance_210, h8, look_end (L := L) (by omega) h6 (by omega), jb_t, Md_isDigit, if_pos (by decide), jb_t, if_pos (by decide), h8, h7, show st + (k : Int) - st = k by omega, w32n k4]
      by_cases q : 4 < k
      · rw [if_pos (by omega), if_pos q]
      · rw [if_neg (by omega), if_neg q]
  | succ d ih =>
    intro f f2 k s u h1 h2 h3 h4 h5 h6 h7 h8 h9 h10 h11 h12
    obtain ⟨f, rfl⟩ : ∃ g, f = g + 1 := ⟨f - 1, by omega⟩
    obtain ⟨f2, rfl⟩ : ∃ g, f2 = g + 1 := ⟨f2 - 1, by omega⟩
    have c2 : st + (k : Int) < L := by omega
    have c3 : 0 ≤ st + (k : Int) ∧ st + (k : Int) < 900 := by omega
    have c4 : st + ((k + 1 : Nat) : Int) = st + k + 1 := by omega
    have k4 : k < 1000 := by omega
    obtain ⟨b1, b2, b3⟩ := h9 (st + k) (by omega) c2
    obtain ⟨b, hb⟩ : ∃ b, b = s 12 (st + k) := ⟨_, rfl⟩
    rw [← hb] at b1 b2 b3 ⊢
    have lk := fun (v : jM) (v1 : v 155 9 = L) (v2 : v 159 (st + k) = b) => look_eq hL v1 ⟨c3.1, c2⟩ v2 ⟨b2, b3⟩
    have hc : Te_scanNumber_10 (f + 1) 11 (st + k) s = if 48 ≤ b ∧ b ≤ 57 then (if (k : Int) < 4 then Te_scanNumber_10 f 11 (st + k + 1) (jup s 11 6 (s 11 6 * 10 + b - 48)) else Te_scanNumber_10 f 11 (st + k + 1) s) else some (0, jup (jup s 11 4 (if 4 < k then 4 else 2)) 11 2 (st + k)) := by
      have e77 : Te_scanNumber_77 11 (st + k) s = some (0, jup (jup s 11 4 (if 4 < k then 4 else 2)) 11 2 (st + k)) := by
        rw [Te_scanNumber_77, h5, show st + (k : Int) - st = k by omega, w32n k4]
        by_cases q : 4 < k
        · rw [if_pos (by omega), if_pos q]
        · rw [if_neg (by omega), if_neg q]
      rw [Te_scanNumber_10, h4, w32_id (x := st + (k : Int)) (by omega) (by omega), w32_id (x := L) (by omega) (by omega), if_pos c2, if_pos c3, e77]
      show (if w32 (s 12 (st + k)) < 48 then _ else _) = _
      rw [← hb, w32_id (x := b) (by omega) (by omega)]
      by_cases q1 : b < 48
      · rw [if_pos q1, if_neg (c := 48 ≤ b ∧ b ≤ 57) (by omega)]
      · rw [if_neg q1, if_pos c3]
        show (if 57 < w32 (s 12 (st + k)) then _ else (if w32 (st + k - s 11 3) < 4 then (if _ then Te_scanNumber_10 f 11 _ (jup s 11 6 (s 11 6 * 10 + s 12 (st + k) - 48)) else none) else _)) = _
        rw [← hb, w32_id (x := b) (by omega) (by omega), h5, show st + (k : Int) - st = k by omega, w32n k4]
        by_cases q2 : 57 < b
        · rw [if_pos q2, if_neg (c := 48 ≤ b ∧ b ≤ 57) (by omega)]
        · rw [if_neg q2, if_pos c3, if_pos (c := 48 ≤ b ∧ b ≤ 57) (by omega)]
    have hr : Md_advance_210 (f2 + 1) 155 u = if 48 ≤ b ∧ b ≤ 57 then (if (k : Int) < 4 then Md_advance_210 f2 155 (jup (jup u 155 17 (10 * u 155 17 + b - 48)) 155 16 (st + k + 1)) else Md_advance_210 f2 155 (jup u 155 16 (st + k + 1))) else some (0, jup u 155 14 (if 4 < k then 4 else 2)) := by
      have fin : (if 4 < w32 (u 155 16 - u 155 15) then some (0, jup u 155 14 4) else some (0, jup u 155 14 2)) = some ((0 : Int), jup u 155 14 (if 4 < k then 4 else 2)) := by
        rw [h8, h7, show st + (k : Int) - st = k by omega, w32n k4]
        by_cases q : 4 < k
        · rw [if_pos (by omega), if_pos q]
        · rw [if_neg (by omega), if_neg q]
      rw [Md_advance_210, h8, lk u h6 b1.symm, jb_t, Md_isDigit]
      by_cases q : 48 ≤ b ∧ b ≤ 57
      · have eu : ub b = b := if_neg (by omega)
        rw [eu, w32_id (x := b) (by omega) (by omega), if_neg (by omega), if_neg (by omega), jb_t, if_neg (by decide), h8, h7, show st + (k : Int) - st = k by omega, w32n k4, if_pos q]
        by_cases z : (k : Int) < 4
        · rw [if_pos z, if_pos z, lk u h6 b1.symm, jb_t, eu, u_ne (by omega), h8]
        · rw [if_neg z, if_neg z]
      · have eu : ub b < 48 ∨ 57 < ub b := by
          unfold ub
          split <;> omega
        rw [if_neg q, w32_ub ⟨b2, b3⟩]
        by_cases z : ub b < 48
        · rw [if_pos z, jb_t, if_pos (by decide)]; exact fin
        · rw [if_neg z, if_pos (eu.resolve_left z), jb_t, if_pos (by decide)]; exact fin
    rw [hc, hr]
    clear hc hr lk
    by_cases q : 48 ≤ b ∧ b ≤ 57
    · rw [if_pos q, if_pos q]
      by_cases z : (k : Int) < 4
      · rw [if_pos z, if_pos z]
        obtain ⟨e, s', u', e1, e2, e3, e4, e5, e6, e7, e8, e9, e10, e11, -⟩ := ih f f2 (k + 1) (jup s 11 6 (s 11 6 * 10 + b - 48)) (jup (jup u 155 17 (10 * u 155 17 + b - 48)) 155 16 (st + k + 1)) (by omega) (by omega) (by omega) (by rw [u_ne (by omega)]; exact h4) (by rw [u_ne (by omega)]; exact h5) (by rw [u_ne (by omega), u_ne (by omega)]; exact h6) (by rw [u_ne (by omega), u_ne (by omega)]; exact h7) (by rw [u_eq ⟨rfl, rfl⟩]; omega) (fun i i1 i2 => by rw [u_ne (by omega), u_ne (by omega), u_ne (by omega)]; exact h9 i i1 i2) (by rw [u_eq ⟨rfl, rfl⟩, u_ne (by omega), u_eq ⟨rfl, rfl⟩]; omega) (by rw [u_eq ⟨rfl, rfl⟩]; omega) (by rw [u_eq ⟨rfl, rfl⟩]; omega)
        rw [c4] at e3
        exact ⟨e, s', u', by omega, e2, e3, e4, ((EX.rf _ _).up ⟨rfl, rfl⟩).tr e5, (((EX.rf _ _).up ⟨rfl, by omega⟩).up ⟨rfl, by omega⟩).tr e6, e7, e8, e9, e10, e11, fun z => by omega⟩
      · rw [if_neg z, if_neg z]
        obtain ⟨e, s', u', e1, e2, e3, e4, e5, e6, e7, e8, e9, e10, e11, -⟩ := ih f f2 (k + 1) s (jup u 155 16 (st + k + 1)) (by omega) (by omega) (by omega) h4 h5 (by rw [u_ne (by omega)]; exact h6) (by rw [u_ne (by omega)]; exact h7) (by rw [u_eq ⟨rfl, rfl⟩]; omega) (fun i i1 i2 => by rw [u_ne (by omega)]; exact h9 i i1 i2) (by rw [u_ne (by omega)]; exact h10) h11 (by omega)
        rw [c4] at e3
        exact ⟨e, s', u', by omega, e2, e3, e4, e5, ((EX.rf _ _).up ⟨rfl, by omega⟩).tr e6, e7, e8, e9, e10, e11, fun z => by omega⟩
    · rw [if_neg q, if_neg q]
      exact ⟨k, s, jup u 155 14 (if 4 < k then 4 else 2), Nat.le_refl _, by omega, rfl, rfl, EX.rf _ _, (EX.rf _ _).up ⟨rfl, by omega⟩, by rw [u_ne (by omega)]; exact h8, u_eq ⟨rfl, rfl⟩, by rw [u_ne (by omega)]; exact h10, h11, by omega, fun _ _ => q⟩
