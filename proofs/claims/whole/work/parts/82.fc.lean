/-! feasts: the end of a block; the class's loop -/
def rCl (F l o dep a b : Int) : Prop := (a = 11 ∧ 2 ≤ b ∧ b ≤ 9) ∨ (a = F ∧ b = 2) ∨ (a = F + 1 ∧ b = l) ∨ (a = F + 5 ∧ (b = l ∨ b = o)) ∨ (a = 14 ∧ b = 3)
theorem close1 {B F dep e : Int} {rec : Int → Int → jM → Option (Int × jM)} (hB : B = 30 ∨ B = 55) (hF : (B = 30 ∧ F = 64) ∨ (B = 55 ∧ F = 39)) {s u : jM} (h : TW s u) (hr : FR B F dep s u) (h24 : s 11 5 = 24) (hd : 1 ≤ dep) (he : 1635 ≤ e ∧ e + 8 < 1905) : ∃ s' u', Fr_takeClose 14 (s F 2) s = some (0, s') ∧ Md_readStep_170 rec 155 1 e u = some (0, u') ∧ (TW s' u' ∨ BD s' u') ∧ (TW s' u' → s 11 2 ≤ s' 11 3) ∧ EX (rCl F (s F 2) (s 15 (dep - 1)) dep) s s' ∧ (∀ a b, ¬ (a = 155 ∧ 12 ≤ b ∧ b ≤ 19) → ¬ (a = 160 ∧ b = e + 8) → u' a b = u a b) ∧ FX B F s' u' ∧ s' F 2 = s F 2 + 1 ∧ s' 14 3 = dep - 1 ∧ s' (F + 5) (s 15 (dep - 1)) = (if s 15 (dep - 1) = s F 2 then s 15 (dep - 1) else s F 2) ∧ s' (F + 5) (s F 2) = s 15 (dep - 1) ∧ s' (F + 1) (s F 2) = 24 ∧ u' 160 (e + 8) = u 155 26 := by
  have hF' : F = 39 ∨ F = 64 := by omega
  have hB' : 30 ≤ B ∧ B ≤ 55 := by omega
  have hFB : B + 8 < F ∨ F + 5 < B := by omega
  obtain ⟨hx, hd2, hd3, h1, h1b, h2, h2b, hst⟩ := hr
  obtain ⟨x0, x1, x2, x3⟩ := hx
  have hx : FX B F s u := ⟨x0, x1, x2, x3⟩
  have ob := hst (dep - 1) (by omega) (by omega)
  obtain ⟨l, hl⟩ : ∃ l, l = s F 2 := ⟨_, rfl⟩
  obtain ⟨o, ho⟩ : ∃ o, o = s 15 (dep - 1) := ⟨_, rfl⟩
  rw [← hl] at h2 h2b ⊢
  rw [← ho] at ob ⊢
  have lb : 0 ≤ l ∧ l < 60 := by omega
  clear hst h1
  have wk : ∀ i : Int, -1000 ≤ i → i ≤ 1000 → w32 i = i := fun i a b => w32_id (by omega) (by omega)
  obtain ⟨S, hS⟩ : ∃ S, S = jup (jup (jup (jup (jup s 14 3 (dep - 1)) (F + 5) o l) (F + 5) l o) (F + 1) l 24) F 2 (l + 1) := ⟨_, rfl⟩
  have Y : ∀ x y, ¬ (x = 14 ∧ y = 3) → ¬ (x = F + 5 ∧ (y = l ∨ y = o)) → ¬ (x = F + 1 ∧ y = l) → ¬ (x = F ∧ y = 2) → S x y = s x y := fun x y z1 z2 z3 z4 => by rw [hS, u_ne (by omega), u_ne (by omega), u_ne (by omega), u_ne (by omega), u_ne (by omega)]
  have t1 : TW S u := TW_ex h (fun b => Y _ _ (by omega) (by omega) (by omega) (by omega)) (fun b => Y _ _ (by omega) (by omega) (by omega) (by omega)) (fun _ _ => rfl) (fun _ => rfl)
  obtain ⟨s2, u2, b1, b2, b3, b4, b5, b6⟩ := both_adv t1
  obtain ⟨y, ye, yv⟩ := sign_tot 59 (by omega) s2 u2
  obtain ⟨s4, u4, d1, d2, d3⟩ := tk_stop2 (Or.inl b3) yv
  have f4 : ∀ x y, x ≠ 11 → s4 x y = S x y := fun x y z => by rw [d3.2.1 x y (fun q => z q.1), b5 x y (fun q => z q.1)]
  have g4 : ∀ x y, ¬ (x = 155 ∧ 12 ≤ y ∧ y ≤ 19) → u4 x y = u x y := fun x y z => by rw [d3.2.2.1 x y z, b6 x y z]
  have hc : Fr_takeClose 14 l s = some (0, s4) := by
    have y1 : jup s 14 3 (dep - 1) 14 3 = dep - 1 := u_eq ⟨rfl, rfl⟩
    have y2 : jup s 14 3 (dep - 1) 14 2 = F := by rw [u_ne (by omega)]; exact x2
    have y3 : jup s 14 3 (dep - 1) 15 (dep - 1) = o := by rw [u_ne (by omega)]; exact ho.symm
    have y3' : jup s 14 3 (dep - 1) (14 + 1) (dep - 1) = o := y3
    have y4 : jup (jup s 14 3 (dep - 1)) (F + 5) o l 14 2 = F := by rw [u_ne (by omega)]; exact y2
    have y5 : jup (jup (jup s 14 3 (dep - 1)) (F + 5) o l) (F + 5) l o 14 2 = F := by rw [u_ne (by omega)]; exact y4
    have y6 : jup (jup (jup (jup s 14 3 (dep - 1)) (F + 5) o l) (F + 5) l o) (F + 1) l 24 14 2 = F := by rw [u_ne (by omega)]; exact y5
    have y7 : jup (jup (jup (jup s 14 3 (dep - 1)) (F + 5) o l) (F + 5) l o) (F + 1) l 24 F 2 = l := by rw [u_ne (by omega), u_ne (by omega), u_ne (by omega), u_ne (by omega)]; exact hl.symm
    have y8 : S 14 0 = 11 := by rw [Y _ _ (by omega) (by omega) (by omega) (by omega)]; exact x0
    have y9 : s2 14 0 = 11 := by rw [b5 _ _ (by unfold rC; omega)]; exact y8
    rw [Fr_takeClose, hd2, wk dep (by omega) (by omega), if_pos (by omega), wk l (by omega) (by omega), if_pos lb.2, y1, y2, wk (dep - 1) (by omega) (by omega), y3', wk o (by omega) (by omega), if_pos ⟨by omega, jok4 hF', ob⟩, jm_s, y4, if_pos ⟨jok4 hF', lb⟩, jm_s, y5, y6, y7, if_pos ⟨jok4 hF', lb, jok4 hF'⟩, jm_s, ← hS, y8, if_pos jok5, b1, jb_t, y9, if_pos jok5, d1, jb_t]
  have hm : Md_readStep_170 rec 155 1 e u = some (0, jup u4 160 (e + 8) (u4 155 26)) := by
    obtain ⟨v, v1, v2⟩ := kt_24 s u
    have v3 : v = 1 := by rw [v2 h, if_pos h24]
    rw [Md_readStep_170, if_neg (by decide), v1, jb_t, v3, Md_must, if_neg (u12 h.2.2), if_neg (by decide), b2, jb_t, jb_t, ye, jb_t, d2, jb_t, w32_id (x := e + 8) (by omega) (by omega), if_pos (by omega)]
    rfl
  have u26 : u4 155 26 = u 155 26 := g4 _ _ (by omega)
  have m4 : TW s4 (jup u4 160 (e + 8) (u4 155 26)) ∨ BD s4 (jup u4 160 (e + 8) (u4 155 26)) := (EC_m d3).imp (fun z => TW_ex z (fun _ => rfl) (fun _ => rfl) (fun b _ => u_ne (by omega)) (fun b => u_ne (by omega))) (fun z => BD_ex z (fun _ => rfl) (fun _ => rfl) ⟨u_ne (by omega), u_ne (by omega)⟩)
  refine ⟨s4, _, hc, hm, m4, fun t => ?_, fun x y z => ?_, fun x y z1 z2 => by rw [u_ne z2]; exact g4 x y z1, FX_ex hB'.1 hx (fun x y q => by rw [f4 x y (by omega), Y x y (by omega) (by omega) (by omega) (by omega)]) (fun i i1 i2 => by rw [u_ne (by omega)]; exact g4 _ _ (by omega)) (fun i => by rw [u_ne (by omega)]; exact g4 _ _ (by omega)), ?_, ?_, ?_, ?_, ?_, ?_⟩
  · have t' : TW s4 u4 := TW_ex t (fun _ => rfl) (fun _ => rfl) (fun b _ => (u_ne (by omega)).symm) (fun b => (u_ne (by omega)).symm)
    obtain ⟨-, z⟩ := EC_tw (Or.inl b3) d3 t'
    rw [Y 11 2 (by omega) (by omega) (by omega) (by omega)] at b4
    omega
  · unfold rCl at z
    by_cases z1 : x = 11
    · rw [d3.2.1 x y (by unfold rC; omega), b5 x y (by unfold rC; omega), Y x y (by omega) (by omega) (by omega) (by omega)]
    · rw [f4 x y z1, Y x y (by omega) (by omega) (by omega) (by omega)]
  · rw [f4 _ _ (by omega), hS, u_eq ⟨rfl, rfl⟩]
  · rw [f4 _ _ (by omega), hS, u_ne (by omega), u_ne (by omega), u_ne (by omega), u_ne (by omega), u_eq ⟨rfl, rfl⟩]
  · rw [f4 _ _ (by omega), hS, u_ne (by omega), u_ne (by omega)]
    by_cases z : o = l
    · rw [if_pos z, u_eq ⟨rfl, z⟩]
    · rw [if_neg z, u_ne (by omega), u_eq ⟨rfl, rfl⟩]
  · rw [f4 _ _ (by omega), hS, u_ne (by omega), u_ne (by omega), u_eq ⟨rfl, rfl⟩]
  · rw [f4 _ _ (by omega), hS, u_ne (by omega), u_eq ⟨rfl, rfl⟩]
  · rw [u_eq ⟨rfl, rfl⟩, u26]
/-- the class's loop -/
def CL (x : Nat) (s : jM) : Option (Int × jM) := Fr_take_38 (jFU - x) 14 x s
theorem jFU_s {x : Nat} (hx : x ≤ 901) : ∃ n, jFU - x = n + 1 ∧ jFU - (x + 1) = n := by
  have : 2000 ≤ jFU := jFU_ge (by decide)
  exact ⟨jFU - (x + 1), by omega, rfl⟩
theorem isWellC (s : jM) : Te_isWell 11 s = some (if w32 (s 11 8) = 0 then 1 else 0, s) := by
  rw [Te_isWell]
  split <;> rfl
theorem cl_step {B F : Int} {x : Nat} (hF : F = 39 ∨ F = 64) {s u : jM} (h : TW s u) (hx : FX B F s u) (h9 : x ≤ 900) (hk : s 11 4 ≠ 0) : CL x s = if s 11 5 = 24 then (jb (Fr_takeClose 14 (s F 2) s) fun _ s5 => CL (x + 1) s5) else (jb (Fr_takeStep 14 (s 11 5) (s F 2) s) fun _ s6 => CL (x + 1) s6) := by
  obtain ⟨n, n1, n2⟩ := jFU_s (x := x) (by omega)
  have k := TK_5 h.1
  obtain ⟨x0, x1, x2, -⟩ := hx
  have c3 : (x : Int) + 1 = ((x + 1 : Nat) : Int) := by omega
  have c9 : ¬ w32 (x : Int) > 900 := by rw [w32_id (by omega) (by omega)]; omega
  unfold CL
  rw [n1, n2, Fr_take_38, if_neg c9, x0, if_pos jok5, isWellC, h.2.1, if_pos (by decide), jb_t, if_neg (by decide), x0, if_pos jok5, w32_id (x := s 11 4) (by omega) (by omega), if_neg hk, if_pos jok5, w32_id (x := s 11 5) (by omega) (by omega), x2, c3]
  by_cases z : s 11 5 = 24
  · rw [if_pos z, if_pos z, if_pos (jok4 hF)]
  · rw [if_neg z, if_neg z, if_pos ⟨jok5, jok4 hF⟩]
theorem cl_bad {x : Nat} (h9 : x ≤ 901) {s u : jM} (h : BD s u) (x0 : s 14 0 = 11) : CL x s = some (0, s) := by
  obtain ⟨n, n1, n2⟩ := jFU_s h9
  have w8 : ¬ w32 (s 11 8) = 0 := by rw [h.2.1]; exact bd12n (bdb h)
  have e116 : Fr_take_116 14 s = some (0, s) := by
    rw [Fr_take_116, x0, if_pos jok5, if_pos jok5, SB_fail (bdb h) _ (BD_SB h), jb_t, x0, if_pos jok5, isWellC, if_neg w8, jb_t]
    split <;> rfl
  unfold CL
  by_cases z : 900 < w32 (x : Int)
  · rw [n1, Fr_take_38, if_pos z, e116]
  · rw [n1, Fr_take_38, if_neg z, x0, if_pos jok5, isWellC, if_neg w8, jb_t, if_pos (by decide), e116]
theorem cl_end {B F dep : Int} {x : Nat} {s u : jM} (h : TW s u) (hx : FX B F s u) (h9 : x ≤ 900) (hk : s 11 4 = 0) (hd : s 14 3 = dep) (hd3 : 0 ≤ dep ∧ dep ≤ 3) : CL x s = if 0 < dep then (jb (Te_fail 11 2 s) fun _ s1 => if jok 5 (s1 14 0) = true then jb (Te_isWell (s1 14 0) s1) fun v2 s2 => if v2 = 0 ∨ v2 = 1 then some (v2, s2) else none else none) else some (1, s) := by
  obtain ⟨n, n1, n2⟩ := jFU_s (x := x) (by omega)
  obtain ⟨x0, x1, x2, -⟩ := hx
  have c9 : ¬ w32 (x : Int) > 900 := by rw [w32_id (by omega) (by omega)]; omega
  unfold CL
  rw [n1, Fr_take_38, if_neg c9, x0, if_pos jok5, isWellC, h.2.1, if_pos (by decide), jb_t, if_neg (by decide), x0, if_pos jok5, hk, if_pos (by decide), Fr_take_116, hd, w32_id (x := dep) (by omega) (by omega), x0, if_pos jok5, if_pos jok5, isWellC, h.2.1, if_pos (c := w32 0 = 0) (by decide), jb_t]
  rfl
