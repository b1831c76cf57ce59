/-! feasts: one step's own text -/
def FR (B F dep : Int) (s u : jM) : Prop := FX B F s u ∧ s 14 3 = dep ∧ (0 ≤ dep ∧ dep ≤ 3) ∧ s F 1 = u 155 26 ∧ (0 ≤ s F 1 ∧ s F 1 ≤ 30) ∧ 0 ≤ s F 2 ∧ s F 2 + dep ≤ 2 * s F 1 ∧ ∀ i, 0 ≤ i → i < dep → 0 ≤ s 15 i ∧ s 15 i < 60
def HDr (F l e op : Int) (s u : jM) : Prop := (op = 0 ∧ ∃ k w, KD k w ∧ k ≠ 23 ∧ s (F + 1) l = k ∧ u 160 e = w ∧ RST F l e k s u) ∨ (op = 1 ∧ ((s (F + 1) l = 23 ∧ u 160 e = 9 ∧ RST F l e 23 s u) ∨ (u 160 e = 8 ∧ WHr F l e s u)))
def rTs (F l dep a b : Int) : Prop := (a = 11 ∧ 2 ≤ b ∧ b ≤ 9) ∨ (a = F ∧ (b = 1 ∨ b = 2)) ∨ (F + 1 ≤ a ∧ a ≤ F + 4 ∧ b = l) ∨ (a = 14 ∧ b = 3) ∨ (a = 15 ∧ b = dep)
def rRs2 (e a b : Int) : Prop := (a = 155 ∧ ((12 ≤ b ∧ b ≤ 19) ∨ b = 26)) ∨ (a = 160 ∧ e ≤ b ∧ b ≤ e + 7)
theorem begs {k : Int} (h : -1 ≤ k ∧ k ≤ 25) (s : jM) : Fr_beginsStep k s = some (if k = 0 ∨ (13 ≤ k ∧ k ≤ 20) ∨ k = 23 ∨ k = 25 then 1 else 0, s) := by
  rcases (by omega : k = -1 ∨ k = 0 ∨ k = 1 ∨ k = 2 ∨ k = 3 ∨ k = 4 ∨ k = 5 ∨ k = 6 ∨ k = 7 ∨ k = 8 ∨ k = 9 ∨ k = 10 ∨ k = 11 ∨ k = 12 ∨ k = 13 ∨ k = 14 ∨ k = 15 ∨ k = 16 ∨ k = 17 ∨ k = 18 ∨ k = 19 ∨ k = 20 ∨ k = 21 ∨ k = 22 ∨ k = 23 ∨ k = 24 ∨ k = 25) with q | q | q | q | q | q | q | q | q | q | q | q | q | q | q | q | q | q | q | q | q | q | q | q | q | q | q <;> subst q <;> rfl
theorem s31_bd {rec : Int → Int → jM → Option (Int × jM)} {dep w op : Int} {u : jM} (h : 0 < u 155 12 ∧ u 155 12 ≤ 100) : Md_readStep_31 rec 155 dep w op u = some (0, u) := by
  rw [Md_readStep_31, if_neg (bd12n h), Md_readStep_57, if_neg (bd12n h), Md_readStep_83, if_pos (bd12 h)]
theorem s57_bd {rec : Int → Int → jM → Option (Int × jM)} {dep w op : Int} {u : jM} (h : 0 < u 155 12 ∧ u 155 12 ≤ 100) : Md_readStep_57 rec 155 dep w op u = some (0, u) := by
  rw [Md_readStep_57, if_neg (bd12n h), Md_readStep_83, if_pos (bd12 h)]
theorem s83_bd {rec : Int → Int → jM → Option (Int × jM)} {dep w op : Int} {u : jM} (h : 0 < u 155 12 ∧ u 155 12 ≤ 100) : Md_readStep_83 rec 155 dep w op u = some (0, u) := by
  rw [Md_readStep_83, if_pos (bd12 h)]
theorem step_fault {c : Int} (hc : 0 < c ∧ c ≤ 100) {s u : jM} (h : TW s u) (hk : s 11 4 ≠ 4) : ∃ s' u', Te_fail 11 c s = some (0, s') ∧ Md_fail 155 c (u 155 15) u = some (0, u') ∧ BD s' u' ∧ EX rC s s' ∧ EX rD u u' := by
  obtain ⟨s', u', b1, b2, b3, b4, b5⟩ := both_fail h hc
  rw [if_neg hk] at b2
  exact ⟨s', u', b1, b2, b3, b4, b5⟩
theorem rest_when {e : Int} {U : jM} (he : 0 ≤ e ∧ e < 1905) (h : U 160 e = 8) {V : jM} (hv : Md_readTest 155 e U = some (0, V)) : Md_readRest 155 e U = some (0, V) := by
  have h5 : U (155 + 5) e = 8 := h
  rw [Md_readRest, w32_id (x := e) (by omega) (by omega), if_pos he, h5, if_neg (show ¬ w32 8 = 5 by decide), if_neg (show ¬ w32 8 = 6 by decide), if_neg (show ¬ w32 8 = 9 by decide), if_pos (show w32 8 = 8 by decide), hv, jb_t]
theorem HDr_cg {F l e op : Int} {s u s' u' : jM} (h : HDr F l e op s u) (a1 : ∀ x, F + 1 ≤ x → x ≤ F + 4 → s' x l = s x l) (a2 : ∀ o, u' 160 o = u 160 o) : HDr F l e op s' u' := by
  have b1 := a1 (F + 1) (by omega) (by omega)
  have b2 := a1 (F + 2) (by omega) (by omega)
  have b3 := a1 (F + 3) (by omega) (by omega)
  have b4 := a1 (F + 4) (by omega) (by omega)
  have r : ∀ k, RST F l e k s u → RST F l e k s' u' := fun k hk => by
    unfold RST at *
    simp only [b2, b3, b4, a2]
    exact hk
  have w : WHr F l e s u → WHr F l e s' u' := fun hk => by
    unfold WHr at *
    simp only [b1, b2, b3, b4, a2]
    exact hk
  rcases h with ⟨h0, k, w', h1, h2, h3, h4, h5⟩ | ⟨h0, ⟨h1, h2, h3⟩ | ⟨h1, h2⟩⟩
  · exact Or.inl ⟨h0, k, w', h1, h2, by rw [b1]; exact h3, by rw [a2]; exact h4, r k h5⟩
  · exact Or.inr ⟨h0, Or.inl ⟨by rw [b1]; exact h1, by rw [a2]; exact h2, r 23 h3⟩⟩
  · exact Or.inr ⟨h0, Or.inr ⟨by rw [a2]; exact h1, w h2⟩⟩
theorem kd_facts {k w : Int} (hw : (KD k w ∧ k ≠ 23 ∧ k ≠ 20) ∨ (k = 23 ∧ w = 9) ∨ (k = 20 ∧ w = 8)) : (0 ≤ w ∧ w ≤ 10) ∧ (k = 20 → w = 8) ∧ (k = 23 → w = 9) ∧ (k ≠ 20 → KD k w) ∧ (w = 8 → k = 20) ∧ (w = 9 → k = 23) := by
  rcases hw with ⟨h, h1, h2⟩ | ⟨h1, h2⟩ | ⟨h1, h2⟩
  · have f : (0 ≤ w ∧ w ≤ 10) ∧ w ≠ 8 ∧ w ≠ 9 := by
      rcases h with ⟨a, b⟩ | ⟨a, b⟩ | ⟨a, b⟩ | ⟨a, b⟩ | ⟨a, b⟩ | ⟨a, b⟩ | ⟨a, b⟩ | ⟨a, b⟩ | ⟨a, b⟩ | ⟨a, b⟩ <;> omega
    exact ⟨f.1, fun z => absurd z h2, fun z => absurd z h1, fun _ => h, fun z => absurd z f.2.1, fun z => absurd z f.2.2⟩
  · subst h1 h2
    exact ⟨by omega, fun z => by omega, fun _ => rfl, fun _ => Or.inr (Or.inr (Or.inr (Or.inr (Or.inr (Or.inr (Or.inr (Or.inr (Or.inl ⟨rfl, rfl⟩)))))))), fun z => by omega, fun _ => rfl⟩
  · subst h1 h2
    exact ⟨by omega, fun _ => rfl, fun z => by omega, fun z => absurd rfl z, fun _ => rfl, fun z => by omega⟩
theorem sw_val {k : Int} (q0 : k = 0 ∨ (13 ≤ k ∧ k ≤ 20) ∨ k = 23 ∨ k = 25) : ∃ w, (if k = 13 then 0 else if k = 14 then 1 else if k = 15 then 2 else if k = 16 then 3 else if k = 17 then 4 else if k = 18 then 5 else if k = 0 then 6 else if k = 19 then 7 else if k = 20 then 8 else if k = 23 then 9 else if k = 25 then 10 else (-1 : Int)) = w ∧ ((KD k w ∧ k ≠ 23 ∧ k ≠ 20) ∨ (k = 23 ∧ w = 9) ∨ (k = 20 ∧ w = 8)) := by
  refine ⟨_, rfl, ?_⟩
  unfold KD
  rcases (by omega : k = 0 ∨ k = 13 ∨ k = 14 ∨ k = 15 ∨ k = 16 ∨ k = 17 ∨ k = 18 ∨ k = 19 ∨ k = 20 ∨ k = 23 ∨ k = 25) with q | q | q | q | q | q | q | q | q | q | q <;> rw [q] <;> simp
theorem sw_no {k : Int} (q0 : ¬ (k = 0 ∨ (13 ≤ k ∧ k ≤ 20) ∨ k = 23 ∨ k = 25)) : (if k = 13 then 0 else if k = 14 then 1 else if k = 15 then 2 else if k = 16 then 3 else if k = 17 then 4 else if k = 18 then 5 else if k = 0 then 6 else if k = 19 then 7 else if k = 20 then 8 else if k = 23 then 9 else if k = 25 then 10 else (-1 : Int)) = -1 := by
  rw [if_neg (by omega), if_neg (by omega), if_neg (by omega), if_neg (by omega), if_neg (by omega), if_neg (by omega), if_neg (by omega), if_neg (by omega), if_neg (by omega), if_neg (by omega), if_neg (by omega)]
theorem step_mid {B F l e k w op : Int} (hB : B = 30 ∨ B = 55) (hF : (B = 30 ∧ F = 64) ∨ (B = 55 ∧ F = 39)) {s2 U2 : jM} (t2 : TW s2 U2) (X2 : FX B F s2 U2) (lb : 0 ≤ l ∧ l < 60) (eb : 1635 ≤ e ∧ e + 8 < 1905) (PE : U2 160 e = w) (R1 : s2 (F + 1) l = k) (kw8 : k = 20 → w = 8) (kw9 : k = 23 → w = 9) (kkd : k ≠ 20 → KD k w) (ko1 : k = 20 ∨ k = 23 → op = 1) (ko0 : k ≠ 20 → k ≠ 23 → op = 0) : ∃ s3 u3, (if k = 20 then Fr_takeTest 14 (s2 11 5) l s2 else Fr_takeRest 14 k l s2) = some (0, s3) ∧ Md_readRest 155 e U2 = some (0, u3) ∧ MO s2 U2 s3 u3 ∧ EX (rFt F l) s2 s3 ∧ EX (rFr e) U2 u3 ∧ FX B F s3 u3 ∧ (TW s3 u3 → HDr F l e op s3 u3) := by
  by_cases z : k = 20
  · have w8 := kw8 z
    obtain ⟨s3, u3, c1, c2, c3, c4, c5, c6, c7⟩ := test_both hB hF t2 X2 lb eb
    refine ⟨s3, u3, by rw [if_pos z]; exact c1, ?_, c3, c4, c5, c6, fun t => Or.inr ⟨ko1 (Or.inl z), Or.inr ⟨?_, c7 t⟩⟩⟩
    · exact rest_when ⟨by omega, by omega⟩ (by rw [PE, w8]) c2
    · rw [c5 _ _ (by unfold rFr; omega), PE, w8]
  · have kd := kkd z
    obtain ⟨s3, u3, c1, c2, c3, c4, c5, c6, c7⟩ := rest_both hB hF t2 X2 lb eb PE kd
    refine ⟨s3, u3, by rw [if_neg z]; exact c1, c2, c3, rFc_Ft c4, c5, c6, fun t => ?_⟩
    have k1 : s3 (F + 1) l = k := by rw [c4 _ _ (by unfold rFc; omega), R1]
    have k2 : u3 160 e = w := by rw [c5 _ _ (by unfold rFr; omega), PE]
    by_cases z2 : k = 23
    · have w9 := kw9 z2
      have r := c7 t
      rw [z2] at r k1
      exact Or.inr ⟨ko1 (Or.inr z2), Or.inl ⟨k1, by rw [k2, w9], r⟩⟩
    · exact Or.inl ⟨ko0 z z2, k, w, kd, z2, k1, k2, c7 t⟩
theorem step_main {B F dep k l a op w e : Int} {rec : Int → Int → jM → Option (Int × jM)} (hB : B = 30 ∨ B = 55) (hF : (B = 30 ∧ F = 64) ∨ (B = 55 ∧ F = 39)) {s u : jM} (h : TW s u) (hx : FX B F s u) (hd : s 14 3 = dep) (hd3 : 0 ≤ dep ∧ dep ≤ 3) (ha : s F 1 = a) (h1 : a = u 155 26) (hl : s F 2 = l) (ab : 0 ≤ a ∧ a < 30) (lb : 0 ≤ l ∧ l < 60) (kb : -1 ≤ k ∧ k ≤ 25) (opb : (op = 0 ∧ k ≠ 20 ∧ k ≠ 23) ∨ (op = 1 ∧ (k = 20 ∨ k = 23) ∧ dep < 3)) (kw8 : k = 20 → w = 8) (kw9 : k = 23 → w = 9) (kkd : k ≠ 20 → KD k w) (he : e = 1635 + 9 * a) : ∃ s' u', Fr_takeStep_90 14 k l op s = some (0, s') ∧ Md_readStep_83 rec 155 dep w op u = Md_readStep_142 rec jFU 155 dep op e u' ∧ MO s u s' u' ∧ (TW s' u' → s 11 2 ≤ s' 11 3) ∧ EX (rTs F l dep) s s' ∧ EX (rRs2 e) u u' ∧ FX B F s' u' ∧ s' F 1 = a + 1 ∧ u' 155 26 = a + 1 ∧ s' F 2 = l + 1 ∧ s' 14 3 = dep + op ∧ (op = 1 → s' 15 dep = l) ∧ (TW s' u' → HDr F l e op s' u') := by
  have hF' : F = 39 ∨ F = 64 := by omega
  have hB' : 30 ≤ B ∧ B ≤ 55 := by omega
  have hFB : B + 8 < F ∨ F + 5 < B := by omega
  obtain ⟨x0, x1, x2, x3⟩ := hx
  have hx : FX B F s u := ⟨x0, x1, x2, x3⟩
  have wk : ∀ i : Int, -1000 ≤ i → i ≤ 1000 → w32 i = i := fun i a b => w32_id (by omega) (by omega)
  have wk' : ∀ i : Int, 0 ≤ i → i ≤ 2000 → w32 i = i := fun i a b => w32_id (by omega) (by omega)
  have ko1 : k = 20 ∨ k = 23 → op = 1 := fun z => by omega
  have ko0 : k ≠ 20 → k ≠ 23 → op = 0 := fun z z2 => by omega
  -- the class's head
  have eb : 1635 ≤ e ∧ e + 8 < 1905 := by omega
  obtain ⟨S0, hS0⟩ : ∃ S0, S0 = if op = 0 then s else jup (jup s 15 dep l) 14 3 (dep + 1) := ⟨_, rfl⟩
  have Z0 : ∀ x y, ¬ (x = 14 ∧ y = 3) → ¬ (x = 15 ∧ y = dep) → S0 x y = s x y := fun x y z1 z2 => by
    rw [hS0]
    split
    · rfl
    · rw [u_ne z1, u_ne z2]
  have Z3 : S0 14 3 = dep + op := by
    rw [hS0]
    rcases opb with z | z
    · rw [if_pos z.1, hd]; omega
    · rw [if_neg (by omega), u_eq ⟨rfl, rfl⟩]; omega
  have Z5 : op = 1 → S0 15 dep = l := fun z => by rw [hS0, if_neg (by omega), u_ne (by omega), u_eq ⟨rfl, rfl⟩]
  obtain ⟨S1, hS1⟩ : ∃ S1, S1 = jup (jup (jup S0 (F + 1) l k) F 1 (a + 1)) F 2 (l + 1) := ⟨_, rfl⟩
  have Y : ∀ x y, ¬ (x = 14 ∧ y = 3) → ¬ (x = 15 ∧ y = dep) → ¬ (x = F + 1 ∧ y = l) → ¬ (x = F ∧ (y = 1 ∨ y = 2)) → S1 x y = s x y := fun x y z1 z2 z3 z4 => by rw [hS1, u_ne (by omega), u_ne (by omega), u_ne z3, Z0 x y z1 z2]
  have t1 : TW S1 u := TW_ex h (fun b => Y _ _ (by omega) (by omega) (by omega) (by omega)) (fun b => Y _ _ (by omega) (by omega) (by omega) (by omega)) (fun _ _ => rfl) (fun _ => rfl)
  obtain ⟨U0, hU0⟩ : ∃ U0, U0 = jup u 155 26 (a + 1) := ⟨_, rfl⟩
  have t1' : TW S1 U0 := TW_ex t1 (fun _ => rfl) (fun _ => rfl) (fun b z => by rw [hU0, u_ne (by omega)]) (fun b => by rw [hU0, u_ne (by omega)])
  obtain ⟨s2, u2, b1, b2, b3, b4, b5, b6⟩ := both_adv t1'
  obtain ⟨U2, hU2⟩ : ∃ U2, U2 = jup u2 160 e w := ⟨_, rfl⟩
  have f2 : ∀ x y, x ≠ 11 → s2 x y = S1 x y := fun x y z => b5 x y (fun q => z q.1)
  have g2 : ∀ x y, ¬ (x = 155 ∧ ((12 ≤ y ∧ y ≤ 19) ∨ y = 26)) → ¬ (x = 160 ∧ y = e) → U2 x y = u x y := fun x y z z2 => by
    rw [hU2, u_ne z2, b6 x y (fun q => z ⟨q.1, Or.inl q.2⟩), hU0, u_ne (by omega)]
  have t2 : TW s2 U2 := TW_ex b3 (fun _ => rfl) (fun _ => rfl) (fun b _ => by rw [hU2, u_ne (by omega)]) (fun b => by rw [hU2, u_ne (by omega)])
  have X2 : FX B F s2 U2 := FX_ex hB'.1 hx (fun x y q => by rw [f2 x y (by omega), Y x y (by omega) (by omega) (by omega) (by omega)]) (fun o o1 o2 => g2 _ _ (by omega) (by omega)) (fun i => g2 _ _ (by omega) (by omega))
  have P26 : U2 155 26 = a + 1 := by rw [hU2, u_ne (by omega), b6 _ _ (by unfold rD; omega), hU0, u_eq ⟨rfl, rfl⟩]
  have PE : U2 160 e = w := by rw [hU2, u_eq ⟨rfl, rfl⟩]
  have o2 : s 11 2 ≤ s2 11 3 := by
    rw [Y 11 2 (by omega) (by omega) (by omega) (by omega)] at b4
    exact b4
  have c90 : Fr_takeStep_90 14 k l op s = Fr_takeStep_114 14 k l S0 := by
    rw [Fr_takeStep_90, wk op (by omega) (by omega), hS0]
    rcases opb with z | z
    · rw [if_pos z.1, if_pos z.1]
    · rw [if_neg (c := op = 0) (by omega), if_neg (c := op = 0) (by omega), hd, wk dep (by omega) (by omega), if_pos (c := 0 ≤ dep ∧ dep < 3) (by omega)]
      show Fr_takeStep_114 14 k l (jup (jup s 15 dep l) 14 3 (jup s 15 dep l 14 3 + 1)) = _
      rw [u_ne (by omega), hd]
  have c114 : Fr_takeStep_114 14 k l S0 = if k = 20 then (jb (Fr_takeTest 14 (s2 11 5) l s2) fun v3 s3 => if jok 5 (s3 14 0) = true then jb (Te_takeStop (s3 14 0) s3) fun v4 s4 => some (0, s4) else none) else (jb (Fr_takeRest 14 k l s2) fun v5 s5 => if jok 5 (s5 14 0) = true then jb (Te_takeStop (s5 14 0) s5) fun v6 s6 => some (0, s6) else none) := by
    have y2 : S0 14 2 = F := by rw [Z0 _ _ (by omega) (by omega)]; exact x2
    have y3 : jup S0 (F + 1) l k 14 2 = F := by rw [u_ne (by omega)]; exact y2
    have y4 : jup S0 (F + 1) l k F 1 = a := by rw [u_ne (by omega), Z0 _ _ (by omega) (by omega)]; exact ha
    have y5 : jup (jup S0 (F + 1) l k) F 1 (a + 1) 14 2 = F := by rw [u_ne (by omega)]; exact y3
    have y6 : jup (jup S0 (F + 1) l k) F 1 (a + 1) F 2 = l := by rw [u_ne (by omega), u_ne (by omega), Z0 _ _ (by omega) (by omega)]; exact hl
    have y7 : S1 14 0 = 11 := by rw [Y _ _ (by omega) (by omega) (by omega) (by omega)]; exact x0
    have y8 : s2 14 0 = 11 := X2.1
    rw [Fr_takeStep_114, wk l (by omega) (by omega), y2, y3, y4, if_pos ⟨jok4 hF', lb, jok4 hF'⟩, jm_s, y5, y6, ← hS1, y7, if_pos ⟨jok4 hF', jok5⟩, b1, jb_t, y8, wk k (by omega) (by omega)]
    by_cases z : k = 20
    · rw [if_pos z, if_pos z, if_pos jok5]
    · rw [if_neg z, if_neg z]
  have r83 : Md_readStep_83 rec 155 dep w op u = jb (Md_readRest 155 e U2) fun v8 s8 => jb (Md_isSign 155 59 s8) fun v9 s9 => jb (Md_must 155 v9 s9) fun v10 s10 => Md_readStep_142 rec jFU 155 dep op e s10 := by
    rw [Md_readStep_83, if_neg (u12 h.2.2), ← h1, ← hU0, b2, jb_t, ← he, wk' e (by omega) (by omega), if_pos (by omega)]
    show (jb (Md_readRest 155 e (jup u2 160 e w)) _) = _
    rw [← hU2]
  obtain ⟨s3, u3, c1, c2, c3, c4, c5, c6, c7⟩ := step_mid hB hF t2 X2 lb eb PE (by rw [f2 _ _ (by omega), hS1, u_ne (by omega), u_ne (by omega), u_eq ⟨rfl, rfl⟩]) kw8 kw9 kkd ko1 ko0
  obtain ⟨y, ye, yv⟩ := sign_tot 59 (by omega) s3 u3
  obtain ⟨s4, u4, d1, d2, d3⟩ := tk_stop2 (MO_m c3) yv
  have f4 : ∀ x y, x ≠ 11 → s4 x y = s3 x y := fun x y z => d3.2.1 x y (fun q => z q.1)
  have g4 : ∀ x y, ¬ (x = 155 ∧ 12 ≤ y ∧ y ≤ 19) → u4 x y = u3 x y := fun x y z => d3.2.2.1 x y z
  have m34 : MO s3 u3 s4 u4 := ⟨d3.1, d3.2.2.2⟩
  refine ⟨s4, u4, ?_, ?_, ?_, ?_, ?_, ?_, ?_, ?_, ?_, ?_, ?_, ?_, ?_⟩
  · rw [c90, c114]
    by_cases z : k = 20
    · rw [if_pos z] at c1 ⊢
      rw [c1, jb_t, c6.1, if_pos jok5, d1, jb_t]
    · rw [if_neg z] at c1 ⊢
      rw [c1, jb_t, c6.1, if_pos jok5, d1, jb_t]
  · rw [r83, c2, jb_t, ye, jb_t, d2, jb_t]
  · refine ⟨?_, fun b => absurd h (nb_tw b)⟩
    rcases MO_m m34 with z | z
    · obtain ⟨z3, z4⟩ := MO_tw (MO_m c3) m34 z
      obtain ⟨-, z6⟩ := MO_tw (Or.inl t2) c3 z3
      have := h.1.2.2.2.2.1
      exact Or.inl ⟨z, by omega⟩
    · exact Or.inr z
  · intro z
    obtain ⟨z3, z4⟩ := MO_tw (MO_m c3) m34 z
    obtain ⟨-, z6⟩ := MO_tw (Or.inl t2) c3 z3
    omega
  · intro x y z
    unfold rTs at z
    by_cases z1 : x = 11
    · rw [d3.2.1 x y (by unfold rC; omega), c4 x y (by unfold rFt; omega), b5 x y (by unfold rC; omega), Y x y (by omega) (by omega) (by omega) (by omega)]
    · rw [f4 x y z1, c4 x y (by unfold rFt; omega), f2 x y z1, Y x y (by omega) (by omega) (by omega) (by omega)]
  · intro x y z
    unfold rRs2 at z
    rw [g4 x y (by omega), c5 x y (by unfold rFr; omega), g2 x y (by omega) (by omega)]
  · exact FX_ex hB'.1 c6 (fun x y q => f4 x y (by omega)) (fun o o1 o2 => g4 _ _ (by omega)) (fun i => g4 _ _ (by omega))
  · rw [f4 _ _ (by omega), c4 _ _ (by unfold rFt; omega), f2 _ _ (by omega), hS1, u_ne (by omega), u_eq ⟨rfl, rfl⟩]
  · rw [g4 _ _ (by omega), c5 _ _ (by unfold rFr; omega)]; exact P26
  · rw [f4 _ _ (by omega), c4 _ _ (by unfold rFt; omega), f2 _ _ (by omega), hS1, u_eq ⟨rfl, rfl⟩]
  · rw [f4 _ _ (by omega), c4 _ _ (by unfold rFt; omega), f2 _ _ (by omega), hS1, u_ne (by omega), u_ne (by omega), u_ne (by omega)]; exact Z3
  · intro z
    rw [f4 _ _ (by omega), c4 _ _ (by unfold rFt; omega), f2 _ _ (by omega), hS1, u_ne (by omega), u_ne (by omega), u_ne (by omega)]; exact Z5 z
  · intro z
    obtain ⟨z3, z4⟩ := MO_tw (MO_m c3) m34 z
    exact HDr_cg (c7 z3) (fun x a b => f4 _ _ (by omega)) (fun o => g4 _ _ (by omega))
theorem step1 {B F dep : Int} {rec : Int → Int → jM → Option (Int × jM)} (hB : B = 30 ∨ B = 55) (hF : (B = 30 ∧ F = 64) ∨ (B = 55 ∧ F = 39)) {s u : jM} (h : TW s u) (hr : FR B F dep s u) (h24 : s 11 5 ≠ 24) : (∃ s' u', Fr_takeStep 14 (s 11 5) (s F 2) s = some (0, s') ∧ Md_readStep_b rec 155 dep u = some (0, u') ∧ BD s' u' ∧ EX rC s s' ∧ EX rD u u') ∨ ∃ op s' u', (op = 0 ∨ op = 1) ∧ (op = 1 → dep < 3) ∧ Fr_takeStep 14 (s 11 5) (s F 2) s = some (0, s') ∧ Md_readStep_b rec 155 dep u = Md_readStep_142 rec jFU 155 dep op (1635 + 9 * s F 1) u' ∧ MO s u s' u' ∧ (TW s' u' → s 11 2 ≤ s' 11 3) ∧ EX (rTs F (s F 2) dep) s s' ∧ EX (rRs2 (1635 + 9 * s F 1)) u u' ∧ FX B F s' u' ∧ s' F 1 = s F 1 + 1 ∧ u' 155 26 = s F 1 + 1 ∧ s' F 2 = s F 2 + 1 ∧ s' 14 3 = dep + op ∧ (op = 1 → s' 15 dep = s F 2) ∧ s F 1 < 30 ∧ s F 2 < 60 ∧ (TW s' u' → HDr F (s F 2) (1635 + 9 * s F 1) op s' u') := by
  have hF' : F = 39 ∨ F = 64 := by omega
  have hB' : 30 ≤ B ∧ B ≤ 55 := by omega
  have hFB : B + 8 < F ∨ F + 5 < B := by omega
  obtain ⟨hx, hd, hd3, h1, h1b, h2, h2b, -⟩ := hr
  obtain ⟨x0, x1, x2, x3⟩ := hx
  have hx : FX B F s u := ⟨x0, x1, x2, x3⟩
  have k5 := TK_5 h.1
  obtain ⟨k, hk⟩ : ∃ k, k = s 11 5 := ⟨_, rfl⟩
  obtain ⟨l, hl⟩ : ∃ l, l = s F 2 := ⟨_, rfl⟩
  obtain ⟨a, ha⟩ : ∃ a, a = s F 1 := ⟨_, rfl⟩
  rw [← hk] at h24 ⊢
  rw [← hl] at h2 h2b ⊢
  rw [← ha] at h1 h1b h2b ⊢
  rw [← hk] at k5
  have wk : ∀ i : Int, -1000 ≤ i → i ≤ 1000 → w32 i = i := fun i a b => w32_id (by omega) (by omega)
  have wk' : ∀ i : Int, 0 ≤ i → i ≤ 2000 → w32 i = i := fun i a b => w32_id (by omega) (by omega)
  have bg := begs (k := k) (by omega) s
  have sw := stepWord_eq h.1
  rw [← hk] at sw
  have hc17 : ∀ t0, Fr_takeStep_17 14 k l t0 s = if k = 0 ∨ (13 ≤ k ∧ k ≤ 20) ∨ k = 23 ∨ k = 25 then (if a < 30 then (if l < 60 then (if (w32 t0) = 0 then (Fr_takeStep_90 14 k l t0 s) else (if dep < 3 then (Fr_takeStep_90 14 k l t0 s) else (jb (Te_fail 11 7 s) fun v9 s9 => some (0, s9)))) else (jb (Te_fail 11 6 s) fun v10 s10 => some (0, s10))) else (jb (Te_fail 11 6 s) fun v11 s11 => some (0, s11))) else (jb (Te_fail 11 2 s) fun v8 s8 => some (0, s8)) := fun t0 => by
    rw [Fr_takeStep_17, bg, jb_t, w32_if, x0, x2, if_pos jok5, if_pos (jok4 hF'), ← ha, hd, wk a (by omega) (by omega), wk l (by omega) (by omega), wk dep (by omega) (by omega), if_pos jok5, if_pos jok5]
  have hc : Fr_takeStep 14 k l s = Fr_takeStep_17 14 k l (if k = 20 ∨ k = 23 then 1 else 0) s := by
    rw [Fr_takeStep, wk k (by omega) (by omega)]
    by_cases q1 : k = 20
    · rw [if_pos q1, if_pos (Or.inl q1)]
    · rw [if_neg q1]
      by_cases q2 : k = 23
      · rw [if_pos q2, if_pos (Or.inr q2)]
      · rw [if_neg q2, if_neg (by omega)]
  by_cases q0 : k = 0 ∨ (13 ≤ k ∧ k ≤ 20) ∨ k = 23 ∨ k = 25
  rotate_left
  · left
    have sw' : Md_stepWord 155 u = some (-1, u) := by rw [sw, sw_no q0]
    obtain ⟨s', u', a1, a2, a3, a4, a5⟩ := both_amiss h
    refine ⟨s', u', ?_, ?_, a3, a4, a5⟩
    · rw [hc, hc17, if_neg q0, a1, jb_t]
    · rw [Md_readStep_b, sw', jb_t, if_neg (by decide), if_neg (by decide), if_pos (by decide), a2, jb_t, s31_bd (bdb a3)]
  have k4 : s 11 4 ≠ 4 := by
    have := TK_kw h.1 (by omega)
    omega
  obtain ⟨w, hww, hw⟩ := sw_val q0
  have hsw : Md_stepWord 155 u = some (w, u) := by rw [sw, hww]
  obtain ⟨wb, kw8, kw9, kkd, k8, k9⟩ := kd_facts hw
  clear hw hww sw
  have hr17 := hc17
  simp only [if_pos q0] at hc17
  clear q0 hr17 bg
  obtain ⟨op, hop⟩ : ∃ op, op = (if k = 20 ∨ k = 23 then (1 : Int) else 0) := ⟨_, rfl⟩
  have opb : (op = 0 ∧ k ≠ 20 ∧ k ≠ 23) ∨ (op = 1 ∧ (k = 20 ∨ k = 23)) := by
    rw [hop]
    by_cases z : k = 20 ∨ k = 23
    · rw [if_pos z]; exact Or.inr ⟨rfl, z⟩
    · rw [if_neg z]; exact Or.inl ⟨rfl, fun y => z (Or.inl y), fun y => z (Or.inr y)⟩
  rw [← hop] at hc
  have hrb : Md_readStep_b rec 155 dep u = Md_readStep_31 rec 155 dep w op u := by
    rw [Md_readStep_b, hsw, jb_t, wk w (by omega) (by omega)]
    by_cases z8 : w = 8
    · rw [if_pos z8, if_neg (by omega), show op = 1 by omega]
    · rw [if_neg z8]
      by_cases z9 : w = 9
      · rw [if_pos z9, if_neg (by omega), show op = 1 by omega]
      · rw [if_neg z9, if_neg (by omega), show op = 0 by omega]
  rw [hc, hc17, hrb, Md_readStep_31, if_pos (u12z h.2.2), ← h1, wk a (by omega) (by omega)]
  clear hc hc17 hrb hsw k8 k9
  by_cases qa : a < 30
  rotate_left
  · left
    obtain ⟨s', u', a1, a2, a3, a4, a5⟩ := step_fault (c := 6) (by omega) h k4
    exact ⟨s', u', by rw [if_neg qa, a1, jb_t], by rw [if_pos (by omega), a2, jb_t, s57_bd (bdb a3)], a3, a4, a5⟩
  have ql : l < 60 := by omega
  rw [if_pos qa, if_pos ql, if_neg (by omega : ¬ a = 30), Md_readStep_57, if_pos (u12z h.2.2), wk op (by omega) (by omega), wk dep (by omega) (by omega)]
  by_cases q3 : op = 1 ∧ dep = 3
  · left
    obtain ⟨s', u', a1, a2, a3, a4, a5⟩ := step_fault (c := 7) (by omega) h k4
    exact ⟨s', u', by rw [if_neg (by omega), if_neg (by omega), a1, jb_t], by rw [if_neg (by omega), if_pos q3.2, a2, jb_t, s83_bd (bdb a3)], a3, a4, a5⟩
  right
  have hcl : (if op = 0 then Fr_takeStep_90 14 k l op s else if dep < 3 then Fr_takeStep_90 14 k l op s else (jb (Te_fail 11 7 s) fun v9 s9 => some ((0 : Int), s9))) = Fr_takeStep_90 14 k l op s := by
    by_cases z : op = 0
    · rw [if_pos z]
    · rw [if_neg z, if_pos (by omega)]
  have hrl : (if op = 0 then Md_readStep_83 rec 155 dep w op u else if dep = 3 then (jb (Md_fail 155 7 (u 155 15) u) fun v11 s11 => Md_readStep_83 rec 155 dep w op s11) else Md_readStep_83 rec 155 dep w op u) = Md_readStep_83 rec 155 dep w op u := by
    by_cases z : op = 0
    · rw [if_pos z]
    · rw [if_neg z, if_neg (by omega)]
  rw [hcl, hrl]
  clear hcl hrl
  obtain ⟨s', u', y1, y2, y3, y4, y5, y6, y7, y8, y9, y10, y11, y12, y13⟩ := step_main (rec := rec) (k := k) (w := w) (op := op) (e := 1635 + 9 * a) hB hF h hx hd hd3 ha.symm h1 hl.symm ⟨h1b.1, qa⟩ ⟨h2, ql⟩ ⟨by omega, by omega⟩ (by omega) kw8 kw9 kkd rfl
  exact ⟨op, s', u', by omega, fun z => by omega, y1, y2, y3, y4, y5, y6, y7, y8, y9, y10, y11, y12, qa, ql, y13⟩
