/-! FILLINGS: the reference's side -/
def r166 (k a b : Int) : Prop := a = 166 ∧ k ≤ b ∧ b < 5
theorem mx69 {rec : Int → Int → Int → Int → Int → Int → Int → jM → Option (Int × jM)} : ∀ (m f k : Nat) (s : jM), k + m = 5 → m < f → ∃ t, Md_mixes_69 rec f 155 k s = some (0, t) ∧ (∀ j, (k : Int) ≤ j → j < 5 → t 166 j = s 165 j) ∧ EX (r166 k) s t := by
  intro m
  induction m with
  | zero =>
    intro f k s h1 h2
    obtain ⟨f, rfl⟩ : ∃ g, f = g + 1 := ⟨f - 1, by omega⟩
    have e : k = 5 := by omega
    subst e
    exact ⟨s, by rw [Md_mixes_69, if_neg (by decide)], fun j j1 j2 => by omega, EX.rf _ _⟩
  | succ m ih =>
    intro f k s h1 h2
    obtain ⟨f, rfl⟩ : ∃ g, f = g + 1 := ⟨f - 1, by omega⟩
    obtain ⟨t, t1, t2, t3⟩ := ih f (k + 1) (jup s 166 k (s 165 k)) (by omega) (by omega)
    have c1 : (k : Int) < 5 := by omega
    have c2 : (0 : Int) ≤ k ∧ (k : Int) < 5 := by omega
    have c3 : ((k + 1 : Nat) : Int) = (k : Int) + 1 := by omega
    have c4 : k < 1000 := by omega
    rw [c3] at t1
    refine ⟨t, ?_, fun j j1 j2 => ?_, EX.tr ((EX.rf _ _).up ⟨rfl, by omega, by omega⟩) (t3.wk (fun a b q => ⟨q.1, by have := q.2; omega, q.2.2⟩))⟩
    · rw [Md_mixes_69, w32n c4, if_pos c1, if_pos ⟨c2, c2⟩]
      exact t1
    · by_cases q : j = k
      · rw [q, t3 166 k (by unfold r166; omega)]
        exact u_eq ⟨rfl, rfl⟩
      · rw [t2 j (by omega) j2, u_ne (by omega)]
theorem vis_m {need : Int} {sg kp : Int → Int} {W : jM} {xs : List Int} : vis need sg kp W xs 1 1 = if W 1 1 < sm sg xs 0 then sm sg xs 0 else W 1 1 := by
  by_cases q : ¬ sm sg xs 0 < need ∧ (W 1 0 < 0 ∨ sm kp xs 0 < W 1 0)
  · have e2 : vis need sg kp W xs = fun r c => if r = 1 ∧ c = 0 then sm kp xs 0 else if r = 2 then xs.getD c.toNat 0 else jup (jup W 0 (sm sg xs 0) (W 0 (sm sg xs 0) + 1)) 1 1 (if W 1 1 < sm sg xs 0 then sm sg xs 0 else W 1 1) r c := if_pos q
    rw [e2]
    rfl
  · have e2 : vis need sg kp W xs = jup (jup W 0 (sm sg xs 0) (W 0 (sm sg xs 0) + 1)) 1 1 (if W 1 1 < sm sg xs 0 then sm sg xs 0 else W 1 1) := if_neg q
    rw [e2]
    exact u_eq ⟨rfl, rfl⟩
def rW (n : Nat) (u W : jM) : Prop := (∀ k, 0 ≤ k → k < 82 → u 167 k = W 0 k) ∧ u 155 31 = W 1 0 ∧ u 155 32 = W 1 1 ∧ (∀ j, 0 ≤ j → j < (n : Int) → u 166 j = W 2 j) ∧ (W 1 0 = -1 ∨ (0 ≤ W 1 0 ∧ W 1 0 ≤ 10000)) ∧ -1 ≤ W 1 1 ∧ W 1 1 ≤ 81
