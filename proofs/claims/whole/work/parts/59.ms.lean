/-! MIX, MIX PART, STRONGEST, FILLINGS -/
def wR (W W' : jM) : Prop := (∀ k, W 0 k = W' 0 k) ∧ W 1 0 = W' 1 0 ∧ W 1 1 = W' 1 1 ∧ (W 1 0 = -1 ∨ ∀ j, W 2 j = W' 2 j)
theorem wR_vis {need : Int} {sg kp : Int → Int} {W W' : jM} {xs : List Int} (h : wR W W') : wR (vis need sg kp W xs) (vis need sg kp W' xs) := by
  obtain ⟨h1, h2, h3, h4⟩ := h
  have m1 := vis_m (need := need) (sg := sg) (kp := kp) (W := W) (xs := xs)
  have m2 := vis_m (need := need) (sg := sg) (kp := kp) (W := W') (xs := xs)
  refine ⟨fun k => by rw [vis_0, vis_0, h1, h1], ?_, by rw [m1, m2, h3], ?_⟩
  · by_cases q : ¬ sm sg xs 0 < need ∧ (W 1 0 < 0 ∨ sm kp xs 0 < W 1 0)
    · rw [(vis_y q).1, (vis_y (W := W') (by rw [← h2]; exact q)).1]
    · rw [(vis_n q).1, (vis_n (W := W') (by rw [← h2]; exact q)).1, h2]
  · by_cases q : ¬ sm sg xs 0 < need ∧ (W 1 0 < 0 ∨ sm kp xs 0 < W 1 0)
    · exact Or.inr fun j => by rw [(vis_y q).2, (vis_y (W := W') (by rw [← h2]; exact q)).2]
    · rcases h4 with z | z
      · exact Or.inl (by rw [(vis_n q).1, z])
      · exact Or.inr fun j => by rw [(vis_n q).2, (vis_n (W := W') (by rw [← h2]; exact q)).2, z]
theorem wR_fold {need : Int} {sg kp : Int → Int} : ∀ (L : List (List Int)) (W W' : jM), wR W W' → wR (L.foldl (vis need sg kp) W) (L.foldl (vis need sg kp) W') := by
  intro L
  induction L with
  | nil => intro W W' h; exact h
  | cons x L ih => intro W W' h; exact ih _ _ (wR_vis h)
theorem wR_0 {b b' : Int → Int} : wR (W0 b) (W0 b') := ⟨fun _ => rfl, rfl, rfl, Or.inl rfl⟩
def wH (N : Int) (W : jM) : Prop := (∀ k, 0 ≤ W 0 k ∧ W 0 k ≤ N) ∧ (-1 ≤ W 1 1 ∧ W 1 1 ≤ 81) ∧ (∀ k, 0 < W 0 k → k ≤ W 1 1) ∧ (0 ≤ W 1 1 → 0 < W 0 (W 1 1))
theorem wH_vis {need N : Int} {sg kp : Int → Int} {W : jM} {xs : List Int} (hS : 0 ≤ sm sg xs 0 ∧ sm sg xs 0 ≤ 81) (h : wH N W) : wH (N + 1) (vis need sg kp W xs) := by
  obtain ⟨h1, h2, h3, h4⟩ := h
  have v0 := fun k => vis_0 (need := need) (sg := sg) (kp := kp) (W := W) (xs := xs) k
  have vm := vis_m (need := need) (sg := sg) (kp := kp) (W := W) (xs := xs)
  unfold wH
  generalize vis need sg kp W xs = V at *
  generalize sm sg xs 0 = S at *
  have hS1 := h1 S
  refine ⟨fun k => ?_, by rw [vm]; split <;> omega, fun k q => ?_, fun q => ?_⟩
  · have := h1 k
    rw [v0]
    split <;> omega
  · have a := h3 k
    rw [v0] at q
    rw [vm]
    by_cases z : k = S
    · split <;> omega
    · rw [if_neg z] at q
      have a := a q
      split <;> omega
  · rw [v0]
    by_cases z : V 1 1 = S
    · rw [if_pos z]
      omega
    · rw [if_neg z, vm]
      rw [vm] at z q
      by_cases y : W 1 1 < S
      · rw [if_pos y] at z
        exact absurd rfl z
      · rw [if_neg y] at q ⊢
        exact h4 q
theorem wH_fold {need : Int} {sg kp : Int → Int} : ∀ (L : List (List Int)) (N : Int) (W : jM), (∀ v, v ∈ L → 0 ≤ sm sg v 0 ∧ sm sg v 0 ≤ 81) → wH N W → wH (N + L.length) (L.foldl (vis need sg kp) W) := by
  intro L
  induction L with
  | nil => intro N W _ h; rw [List.length_nil, show N + ((0 : Nat) : Int) = N by omega]; exact h
  | cons x L ih =>
    intro N W h1 h
    have := ih (N + 1) (vis need sg kp W x) (fun v hv => h1 v (List.mem_cons_of_mem _ hv)) (wH_vis (h1 x (List.mem_cons_self ..)) h)
    rw [List.length_cons, show N + ((L.length + 1 : Nat) : Int) = N + 1 + (L.length : Int) by omega]
    exact this
theorem wH_0 {b : Int → Int} : wH 0 (W0 b) := ⟨fun _ => ⟨Int.le_refl 0, Int.le_refl 0⟩, by show (-1 : Int) ≤ -1 ∧ (-1 : Int) ≤ 81; omega, fun k q => absurd q (Int.lt_irrefl 0), fun q => absurd q (by show ¬ (0 : Int) ≤ -1; omega)⟩
theorem wH_fl {n : Nat} (hn : n ≤ 5) {C need : Int} (hC : 0 ≤ C ∧ C ≤ 9) {sg kp g : Int → Int} (hsg : ∀ j, 0 ≤ j → j < (n : Int) → 0 ≤ sg j ∧ sg j ≤ 9) {b : Int → Int} : wH 10000 ((fl (cpl g n 0) C).foldl (vis need sg kp) (W0 b)) := by
  have hl : (cpl g n 0).length = n := cpl_len n 0
  have hlen := fl_len5 hn hl hC
  have hf := fl_fit hl hC
  have := wH_fold (need := need) (sg := sg) (kp := kp) (fl (cpl g n 0) C) 0 (W0 b) (fun v hv => by
    obtain ⟨f1, f2, f3⟩ := hf v hv
    have := sm_b (g := sg) (M := 9) v 0 (fun y hy => (f3 y hy).1) (fun i i1 i2 => hsg i i1 (by omega))
    omega) wH_0
  obtain ⟨a, b, c, d⟩ := this
  exact ⟨fun k => ⟨(a k).1, by have := (a k).2; omega⟩, b, c, d⟩
/-- the class: the greatest strength there is -/
theorem gs_eq {N : Int} (hN : N ≤ 10000) {W : jM} (h : wH N W) {s : jM} (hs : ∀ i, 0 ≤ i → i < 82 → s 20 i = W 0 i) : ∀ (k f : Nat), k ≤ 82 → k < f → W 1 1 < k → Fi_greatestStrength_3 f 16 ((k : Int) - 1) s = some (W 1 1, s) := by
  obtain ⟨h1, h2, h3, h4⟩ := h
  intro k
  induction k with
  | zero =>
    intro f k1 k2 k3
    obtain ⟨f, rfl⟩ : ∃ g, f = g + 1 := ⟨f - 1, by omega⟩
    rw [Fi_greatestStrength_3, if_pos (by decide), show W 1 1 = -1 by omega]
  | succ k ih =>
    intro f k1 k2 k3
    obtain ⟨f, rfl⟩ : ∃ g, f = g + 1 := ⟨f - 1, by omega⟩
    have e : ((k + 1 : Nat) : Int) - 1 = (k : Int) := by omega
    have c1 : ¬ (k : Int) < 0 := by omega
    have c2 : (0 : Int) ≤ k ∧ (k : Int) < 82 := by omega
    have c4 : k < 1000 := by omega
    have a := h1 k
    have b := h3 k
    have g := hs k c2.1 c2.2
    have w : w32 (s 20 k) = W 0 k := by rw [g, w32_id (by omega) (by omega)]
    rw [e, Fi_greatestStrength_3, w32n c4, if_neg c1, if_pos c2]
    show (if 0 < w32 (s 20 k) then _ else _) = _
    rw [w]
    by_cases q : 0 < W 0 k
    · have b := b q
      rw [if_pos q, show W 1 1 = k by omega]
    · rw [if_neg q]
      have z : W 1 1 ≠ k := fun z => q (by rw [← z]; exact h4 (by omega))
      exact ih f (by omega) (by omega) (by omega)
theorem aw_eq {s v : jM} (h : ∀ i, 0 ≤ i → i < 82 → v 167 i = s 20 i) : ∀ (m k f f2 : Nat) (a : Int), k + m = 82 → m < f → m < f2 → ∃ r, Fi_allWays_4 f 16 a k s = some (r, s) ∧ Md_fillings_35 f2 155 a k v = some (r, v) := by
  intro m
  induction m with
  | zero =>
    intro k f f2 a h1 h2 h3
    obtain ⟨f, rfl⟩ : ∃ g, f = g + 1 := ⟨f - 1, by omega⟩
    obtain ⟨f2, rfl⟩ : ∃ g, f2 = g + 1 := ⟨f2 - 1, by omega⟩
    have e : k = 82 := by omega
    subst e
    exact ⟨a, by rw [Fi_allWays_4, if_pos (by decide)], by rw [Md_fillings_35, if_neg (by decide)]⟩
  | succ m ih =>
    intro k f f2 a h1 h2 h3
    obtain ⟨f, rfl⟩ : ∃ g, f = g + 1 := ⟨f - 1, by omega⟩
    obtain ⟨f2, rfl⟩ : ∃ g, f2 = g + 1 := ⟨f2 - 1, by omega⟩
    have c1 : ¬ 81 < (k : Int) := by omega
    have c0 : (k : Int) < 82 := by omega
    have c2 : (0 : Int) ≤ k ∧ (k : Int) < 82 := by omega
    have c3 : ((k + 1 : Nat) : Int) = (k : Int) + 1 := by omega
    have c4 : k < 1000 := by omega
    obtain ⟨r, r1, r2⟩ := ih (k + 1) f f2 (a + s 20 k) (by omega) (by omega) (by omega)
    rw [c3] at r1 r2
    refine ⟨r, ?_, ?_⟩
    · rw [Fi_allWays_4, w32n c4, if_neg c1, if_pos c2]
      exact r1
    · rw [Md_fillings_35, w32n c4, if_pos c0, if_pos c2]
      show Md_fillings_35 f2 155 (a + v 167 k) ((k : Int) + 1) v = _
      rw [h k c2.1 c2.2]
      exact r2
/-! the reference's beginning -/
def r167 (a _b : Int) : Prop := a = 167
def r165 (a _b : Int) : Prop := a = 165
theorem lm13 {m need fg : Int} : ∀ (d f k : Nat) (s : jM), k + d = 82 → d < f → (∀ i, 0 ≤ i → i < (k : Int) → s 167 i = 0) → ∃ t, Md_laysMix_13 f 155 m need fg k s = Md_laysMix_37 jFU 155 m need fg 0 t ∧ (∀ i, 0 ≤ i → i < 82 → t 167 i = 0) ∧ EX r167 s t := by
  intro d
  induction d with
  | zero =>
    intro f k s h1 h2 h3
    obtain ⟨f, rfl⟩ : ∃ g, f = g + 1 := ⟨f - 1, by omega⟩
    have e : k = 82 := by omega
    subst e
    exact ⟨s, by rw [Md_laysMix_13, if_neg (by decide)], h3, EX.rf _ _⟩
  | succ d ih =>
    intro f k s h1 h2 h3
    obtain ⟨f, rfl⟩ : ∃ g, f = g + 1 := ⟨f - 1, by omega⟩
    obtain ⟨t, t1, t2, t3⟩ := ih f (k + 1) (jup s 167 k 0) (by omega) (by omega) (fun i i1 i2 => by
      by_cases q : i = k
      · exact u_eq ⟨rfl, q⟩
      · rw [u_ne (by omega)]; exact h3 i i1 (by omega))
    have c1 : (k : Int) < 82 := by omega
    have c2 : (0 : Int) ≤ k ∧ (k : Int) < 82 := by omega
    have c3 : ((k + 1 : Nat) : Int) = (k : Int) + 1 := by omega
    have c4 : k < 1000 := by omega
    rw [c3] at t1
    refine ⟨t, ?_, t2, EX.tr ((EX.rf _ _).up rfl) t3⟩
    rw [Md_laysMix_13, w32n c4, if_pos c1, if_pos c2]
    exact t1
theorem lm37 {m need fg : Int} (hm : 0 ≤ m ∧ m < 5) : ∀ (d f k : Nat) (s : jM), k + d = 5 → d < f → (∀ i, 0 ≤ i → i < (k : Int) → s 165 i = 0) → ∃ t, Md_laysMix_37 f 155 m need fg k s = (jb (Md_mixes 12 155 0 (t 160 (59 + m)) 0 0 need fg t) fun v1 s1 => some (0, s1)) ∧ (∀ i, 0 ≤ i → i < 5 → t 165 i = 0) ∧ EX r165 s t := by
  intro d
  induction d with
  | zero =>
    intro f k s h1 h2 h3
    obtain ⟨f, rfl⟩ : ∃ g, f = g + 1 := ⟨f - 1, by omega⟩
    have e : k = 5 := by omega
    subst e
    have c1 : w32 (59 + m) = 59 + m := w32_id (by omega) (by omega)
    have c2 : 0 ≤ 59 + m ∧ 59 + m < 1905 := by omega
    refine ⟨s, ?_, h3, EX.rf _ _⟩
    rw [Md_laysMix_37, if_neg (by decide), c1, if_pos c2]
    rfl
  | succ d ih =>
    intro f k s h1 h2 h3
    obtain ⟨f, rfl⟩ : ∃ g, f = g + 1 := ⟨f - 1, by omega⟩
    obtain ⟨t, t1, t2, t3⟩ := ih f (k + 1) (jup s 165 k 0) (by omega) (by omega) (fun i i1 i2 => by
      by_cases q : i = k
      · exact u_eq ⟨rfl, q⟩
      · rw [u_ne (by omega)]; exact h3 i i1 (by omega))
    have c1 : (k : Int) < 5 := by omega
    have c2 : (0 : Int) ≤ k ∧ (k : Int) < 5 := by omega
    have c3 : ((k + 1 : Nat) : Int) = (k : Int) + 1 := by omega
    have c4 : k < 1000 := by omega
    rw [c3] at t1
    refine ⟨t, ?_, t2, EX.tr ((EX.rf _ _).up rfl) t3⟩
    rw [Md_laysMix_37, w32n c4, if_pos c1, if_pos c2]
    exact t1
theorem lays_eq {n : Nat} (hn : n ≤ 5) {m need fg C : Int} (hm : 0 ≤ m ∧ m < 5) (hne : 0 ≤ need ∧ need ≤ 81) (hC : 0 ≤ C ∧ C ≤ 9) (hfg : fg = 0 ∨ fg = 1) {sg kp am : Int → Int} (hsg : ∀ j, 0 ≤ j → j < (n : Int) → 0 ≤ sg j ∧ sg j ≤ 9) (hkp : ∀ j, 0 ≤ j → j < (n : Int) → 0 ≤ kp j ∧ kp j ≤ 99) (ham : ∀ j, 0 ≤ j → j < (n : Int) → 0 ≤ am j ∧ am j ≤ 999) {u : jM} (hu : rB n sg kp am u) (h59 : u 160 (59 + m) = C) : ∃ t, Md_laysMix 155 m need fg u = some (0, t) ∧ rW n t ((fl (cpl (cap fg C am) n 0) C).foldl (vis need sg kp) (W0 (u 166))) ∧ EX rMx u t := by
  obtain ⟨a, a1, a2, a3⟩ := lm13 (m := m) (need := need) (fg := fg) 82 jFU 0 (jup (jup u 155 31 (-1)) 155 32 (-1)) (by omega) (bub_ge (by omega)) (fun i i1 i2 => by omega)
  obtain ⟨b, b1, b2, b3⟩ := lm37 (need := need) (fg := fg) hm 5 jFU 0 a (by omega) (bub_ge (by omega)) (fun i i1 i2 => by omega)
  have ea : ∀ x y, x ≠ 167 → ¬ (x = 155 ∧ (y = 31 ∨ y = 32)) → a x y = u x y := fun x y q1 q2 => by rw [a3 x y q1, u_ne (by omega), u_ne (by omega)]
  have eb : ∀ x y, x ≠ 165 → x ≠ 167 → ¬ (x = 155 ∧ (y = 31 ∨ y = 32)) → b x y = u x y := fun x y q0 q1 q2 => by rw [b3 x y q0, ea x y q1 q2]
  have hE : EX rMx u b := fun x y q => by
    unfold rMx at q
    exact eb x y (by omega) (by omega) (by omega)
  have hW : rW n b (W0 (u 166)) := ⟨fun k k1 k2 => by rw [b3 167 k (by unfold r165; omega), a2 k k1 k2]; rfl, by rw [b3 155 31 (by unfold r165; omega), a3 155 31 (by unfold r167; omega), u_ne (by omega), u_eq ⟨rfl, rfl⟩]; rfl, by rw [b3 155 32 (by unfold r165; omega), a3 155 32 (by unfold r167; omega), u_eq ⟨rfl, rfl⟩]; rfl, fun j _ _ => by rw [eb 166 j (by omega) (by omega) (by omega)]; rfl, Or.inl rfl, Int.le_refl _, by show (-1 : Int) ≤ 81; omega⟩
  obtain ⟨t, t1, t2, t3, -⟩ := mixes_eq hn hne hC hfg hsg hkp ham n 0 12 [] C b (W0 (u 166)) (by omega) rfl (by omega) (fun i i1 i2 => by rw [b2 i i1 i2]; rfl) (fun y hy => absurd hy List.not_mem_nil) hC.1 (by show 0 + C = C; omega) (rB_ex hu hE) hW
  refine ⟨t, ?_, t2, hE.tr t3⟩
  rw [eb 160 _ (by omega) (by omega) (by omega), h59] at b1
  have t1' : Md_mixes 12 155 0 C 0 0 need fg b = some (0, t) := t1
  rw [t1', jb_t] at b1
  exact (show Md_laysMix 155 m need fg u = _ from a1).trans b1
/-! both sides, of the See that is now -/
def kP (s : jM) : Int → Int := fun j => s 160 (14 + j)
def aP (s : jM) : Int → Int := fun j => s 160 (19 + j)
theorem blk_b {s : jM} {B : Int} (h : iSe (vw s B) (cw s 0)) {n : Nat} (hn : (n : Int) = s 160 0) : n ≤ 5 ∧ s B 4 = n ∧ (∀ j, 0 ≤ j → j < (n : Int) → 0 ≤ gP s j ∧ gP s j ≤ 9) ∧ (∀ j, 0 ≤ j → j < (n : Int) → 0 ≤ kP s j ∧ kP s j ≤ 99) ∧ (∀ j, 0 ≤ j → j < (n : Int) → 0 ≤ aP s j ∧ aP s j ≤ 999) ∧ (∀ j, 0 ≤ j → j < (n : Int) → s (B + 1) j = gP s j ∧ s (B + 2) j = kP s j ∧ s (B + 3) j = aP s j) ∧ ∀ u : jM, (∀ o, u 160 o = s 160 o) → rB n (gP s) (kP s) (aP s) u := by
  have hd := hd_at h
  have st := fun j (j1 : 0 ≤ j) (j2 : j < (n : Int)) => st_at h (k := j) ⟨j1, by omega⟩
  refine ⟨by omega, by omega, fun j j1 j2 => ?_, fun j j1 j2 => ?_, fun j j1 j2 => ?_, fun j j1 j2 => ?_, fun u hu => ⟨by rw [hu, hn], fun j j1 j2 => by rw [hu, hu, hu]; exact ⟨rfl, rfl, rfl⟩⟩⟩
  · have := st j j1 j2
    show 0 ≤ s 160 (9 + j) ∧ s 160 (9 + j) ≤ 9
    omega
  · have := st j j1 j2
    show 0 ≤ s 160 (14 + j) ∧ s 160 (14 + j) ≤ 99
    omega
  · have := st j j1 j2
    show 0 ≤ s 160 (19 + j) ∧ s 160 (19 + j) ≤ 999
    omega
  · have := st j j1 j2
    exact ⟨this.2.1, this.2.2.1, this.2.2.2.1⟩
theorem mix_cr {s : jM} {B m need : Int} (hB : B = 30 ∨ B = 55) (h : iSe (vw s B) (cw s 0)) (hm : 0 ≤ m ∧ m < s 160 2) (hne : 0 ≤ need ∧ need ≤ 81) : ∃ g t, Fi_cheapest 16 B (s 160 (59 + m)) need s = some (if g = -1 then 0 else 1, t) ∧ EX r1622 s t ∧ t 16 1 = g ∧ (g = -1 ∨ (0 ≤ g ∧ g ≤ 10000)) ∧ ∀ u : jM, (∀ o, u 160 o = s 160 o) → ∃ v, Md_laysMix 155 m need 1 u = some (0, v) ∧ EX rMx u v ∧ v 155 31 = g ∧ (g ≠ -1 → ∀ j, 0 ≤ j → j < s 160 0 → v 166 j = t 19 j) := by
  have hd := (hd_at h).2
  have m1 := mo_at h hm
  obtain ⟨n, hn⟩ : ∃ n : Nat, (n : Int) = s 160 0 := ⟨(s 160 0).toNat, by omega⟩
  obtain ⟨n5, b4, bg, bk, ba, br, bu⟩ := blk_b h hn
  have hC : 0 ≤ s 160 (59 + m) ∧ s 160 (59 + m) ≤ 9 := by omega
  obtain ⟨t, t1, t2, t3⟩ := cheapest_eq (sg := gP s) (kp := kP s) (am := aP s) n5 (by omega : (30 : Int) ≤ B) hC hne bg bk ba b4 br
  refine ⟨_, t, t1, t3, t2.1, t2.2.2, fun u hu => ?_⟩
  obtain ⟨v, v1, v2, v3⟩ := lays_eq (sg := gP s) (kp := kP s) (am := aP s) n5 (m := m) (by omega) hne hC (Or.inr rfl) bg bk ba (bu u hu) (hu _)
  have r := wR_fold (need := need) (sg := gP s) (kp := kP s) (fl (cpl (cap 1 (s 160 (59 + m)) (aP s)) n 0) (s 160 (59 + m))) _ _ (wR_0 (b := s 19) (b' := u 166))
  refine ⟨v, v1, v3, v2.2.1.trans r.2.1.symm, fun q j j1 j2 => ?_⟩
  have r4 : ∀ j, _ := r.2.2.2.resolve_left q
  rw [v2.2.2.2.1 j j1 (by omega), ← r4 j]
  exact (t2.2.1 j j1 (by omega)).symm
theorem cnt_cr {s : jM} {B m fg : Int} (hB : B = 30 ∨ B = 55) (h : iSe (vw s B) (cw s 0)) (hm : 0 ≤ m ∧ m < s 160 2) (hf : fg = 0 ∨ fg = 1) : ∃ W t, Fi_countWays 16 B (s 160 (59 + m)) fg s = some (0, t) ∧ EX r1622 s t ∧ wH 10000 W ∧ (∀ k, 0 ≤ k → k < 82 → t 20 k = W 0 k) ∧ ∀ u : jM, (∀ o, u 160 o = s 160 o) → ∃ v, Md_laysMix 155 m 0 fg u = some (0, v) ∧ EX rMx u v ∧ v 155 32 = W 1 1 ∧ ∀ k, 0 ≤ k → k < 82 → v 167 k = W 0 k := by
  have hd := (hd_at h).2
  have m1 := mo_at h hm
  obtain ⟨n, hn⟩ : ∃ n : Nat, (n : Int) = s 160 0 := ⟨(s 160 0).toNat, by omega⟩
  obtain ⟨n5, b4, bg, bk, ba, br, bu⟩ := blk_b h hn
  have hC : 0 ≤ s 160 (59 + m) ∧ s 160 (59 + m) ≤ 9 := by omega
  obtain ⟨t, t1, t2, t3⟩ := countWays_eq (need := 0) (sg := gP s) (kp := kP s) (am := aP s) (bv := fun _ => 0) n5 (by omega : (30 : Int) ≤ B) hC hf bg ba b4 (fun j j1 j2 => ⟨(br j j1 j2).1, (br j j1 j2).2.2⟩)
  refine ⟨_, t, t1, t3, wH_fl n5 hC bg, t2, fun u hu => ?_⟩
  obtain ⟨v, v1, v2, v3⟩ := lays_eq (sg := gP s) (kp := kP s) (am := aP s) n5 (m := m) (need := 0) (by omega) (by omega) hC hf bg bk ba (bu u hu) (hu _)
  have r := wR_fold (need := 0) (sg := gP s) (kp := kP s) (fl (cpl (cap fg (s 160 (59 + m)) (aP s)) n 0) (s 160 (59 + m))) _ _ (wR_0 (b := fun _ => 0) (b' := u 166))
  exact ⟨v, v1, v3, v2.2.2.1.trans r.2.2.1.symm, fun k k1 k2 => (v2.1 k k1 k2).trans (r.1 k).symm⟩
def rMy (a b : Int) : Prop := (161 ≤ a ∧ a ≤ 162) ∨ (164 ≤ a ∧ a ≤ 169) ∨ (a = 155 ∧ 25 ≤ b ∧ b ≤ 36)
theorem mi_end {s t u v : jM} {w : Int} (h : INV s) (ht : EX rGa s t) (hu : u = jup (jup (jup t 0 0 w) 155 1 0) 155 0 w) (hv : EX rMy u v) : INV v ∧ v (-1) = s (-1) ∧ v (-2) = s (-2) := by
  have hE : EX mis s v := by
    have e1 := ht.wk (Q := mis) (fun a b q => by unfold mis; unfold rGa at q; omega)
    have e2 : EX mis t u := by
      rw [hu]
      exact (((EX.rf _ _).up (by unfold mis; omega)).up (by unfold mis; omega)).up (by unfold mis; omega)
    exact (e1.tr e2).tr (hv.wk (fun a b q => by unfold mis; unfold rMy at q; omega))
  have hm := h.1
  have f : ∀ a b, ¬ rMy a b → v a b = u a b := fun a b q => hv a b q
  have g : ∀ a b, ¬ (16 ≤ a ∧ a ≤ 28) → t a b = s a b := fun a b q => ht a b q
  refine ⟨INV_mi h ?_ hE, hE.mneg⟩
  unfold iMi at hm ⊢
  rw [f 0 0 (by unfold rMy; omega), f 155 0 (by unfold rMy; omega), f 0 1 (by unfold rMy; omega), f 155 2 (by unfold rMy; omega), f 0 2 (by unfold rMy; omega), f 155 3 (by unfold rMy; omega), f 0 3 (by unfold rMy; omega), f 155 10 (by unfold rMy; omega), f 0 4 (by unfold rMy; omega), f 155 11 (by unfold rMy; omega), hu]
  simp (disch := omega) only [↓jb_m, ↓jm_s, ↓reduceIte, t_lt, t_nlt, t_le, t_nle, t_eq, t_neq, w32_id, w64_id, jb_s, and_true, true_and, and_self, and_false, false_and, or_true, true_or, or_false, false_or, or_self, not_false_eq_true, not_true_eq_false, u_ne, u_eq, u_u, Int.reduceAdd, Int.reduceSub, Int.reduceMul, Int.reduceNeg, Int.zero_add, Int.add_zero, n15, n16, q10, q11, q12, q13, q14]
  rw [g 0 1 (by omega), g 155 2 (by omega), g 0 2 (by omega), g 155 3 (by omega), g 0 3 (by omega), g 155 10 (by omega), g 0 4 (by omega), g 155 11 (by omega)]
  exact hm.2
theorem r1622_ga {s t : jM} (h : EX r1622 s t) : EX rGa s t := h.wk (fun a b q => by unfold r1622 at q; unfold rGa; omega)
theorem rMx_my {s t : jM} (h : EX rMx s t) : EX rMy s t := h.wk (fun a b q => by unfold rMx at q; unfold rMy; omega)
/-- refused at the end -/
theorem mi_no {u v : jM} {t : jM} {w : Int} (hu : u = jup (jup (jup t 0 0 w) 155 1 0) 155 0 0) (h : EX rMy u v) : EX rMy (jup (jup (jup t 0 0 w) 155 1 0) 155 0 w) (jup v 155 0 w) := fun x y z => by
  rw [jup_at, jup_at (jup (jup t 0 0 w) 155 1 0)]
  by_cases c : x = 155 ∧ y = 0
  · rw [if_pos c, if_pos c]
  · rw [if_neg c, if_neg c, h x y z, hu, u_ne c]
theorem mix_ok {s : jM} (h : INV s) {m p : Int} (hm : i32 m) (hp : i32 p) : OKc s (Jc_mix 0 m p) (Md_mix 155 m p) := by
  unfold i32 at hm hp
  have hbb := h.b.1
  obtain ⟨hb, hj, hj2, -⟩ := h.b
  have hse := h.2.2.2.2.2.1.1
  obtain ⟨e6, c2⟩ := hd2 hse
  by_cases q1 : 0 ≤ m ∧ m < s 160 2
  rotate_left
  · rcases (by omega : m < 0 ∨ s 160 2 ≤ m) with q | q
    · exact OKc.no (w := 2) (r := -1) h (by simp (disch := omega) only [↓jb_m, ↓jm_s, ↓reduceIte, t_lt, t_nlt, t_le, t_nle, t_eq, t_neq, w32_id, w64_id, jb_s, and_true, true_and, and_self, and_false, false_and, or_true, true_or, or_false, false_or, or_self, not_false_eq_true, not_true_eq_false, u_ne, u_eq, u_u, Int.reduceAdd, Int.reduceSub, Int.reduceMul, Int.reduceNeg, Int.zero_add, Int.add_zero, n15, n16, q10, q11, q12, q13, q14, Jc_mix, Jc_mixTrouble, Jc_answer, Jc_refuse, Jc_deny, Jc_grant, Se_isMould, Se_isStuff, Se_isPlace, hj]) (by simp (disch := omega) only [↓jb_m, ↓jm_s, ↓reduceIte, t_lt, t_nlt, t_le, t_nle, t_eq, t_neq, w32_id, w64_id, jb_s, and_true, true_and, and_self, and_false, false_and, or_true, true_or, or_false, false_or, or_self, not_false_eq_true, not_true_eq_false, u_ne, u_eq, u_u, Int.reduceAdd, Int.reduceSub, Int.reduceMul, Int.reduceNeg, Int.zero_add, Int.add_zero, n15, n16, q10, q11, q12, q13, q14, Md_mix, Md_whyNoMix, Md_isMouldAt, Md_isStuffAt, Md_isPlaceAt, Md_isTray, Md_isIn_1, Md_isIn_0, Md_refuse, Md_no])
    · exact OKc.no (w := 2) (r := -1) h (by simp (disch := omega) only [↓jb_m, ↓jm_s, ↓reduceIte, t_lt, t_nlt, t_le, t_nle, t_eq, t_neq, w32_id, w64_id, jb_s, and_true, true_and, and_self, and_false, false_and, or_true, true_or, or_false, false_or, or_self, not_false_eq_true, not_true_eq_false, u_ne, u_eq, u_u, Int.reduceAdd, Int.reduceSub, Int.reduceMul, Int.reduceNeg, Int.zero_add, Int.add_zero, n15, n16, q10, q11, q12, q13, q14, Jc_mix, Jc_mixTrouble, Jc_answer, Jc_refuse, Jc_deny, Jc_grant, Se_isMould, Se_isStuff, Se_isPlace, hj]) (by simp (disch := omega) only [↓jb_m, ↓jm_s, ↓reduceIte, t_lt, t_nlt, t_le, t_nle, t_eq, t_neq, w32_id, w64_id, jb_s, and_true, true_and, and_self, and_false, false_and, or_true, true_or, or_false, false_or, or_self, not_false_eq_true, not_true_eq_false, u_ne, u_eq, u_u, Int.reduceAdd, Int.reduceSub, Int.reduceMul, Int.reduceNeg, Int.zero_add, Int.add_zero, n15, n16, q10, q11, q12, q13, q14, Md_mix, Md_whyNoMix, Md_isMouldAt, Md_isStuffAt, Md_isPlaceAt, Md_isTray, Md_isIn_1, Md_isIn_0, Md_refuse, Md_no])
  by_cases q2 : 0 ≤ p ∧ p ≤ 81
  rotate_left
  · rcases (by omega : p < 0 ∨ 81 < p) with q | q
    · exact OKc.no (w := 5) (r := -1) h (by simp (disch := omega) only [↓jb_m, ↓jm_s, ↓reduceIte, t_lt, t_nlt, t_le, t_nle, t_eq, t_neq, w32_id, w64_id, jb_s, and_true, true_and, and_self, and_false, false_and, or_true, true_or, or_false, false_or, or_self, not_false_eq_true, not_true_eq_false, u_ne, u_eq, u_u, Int.reduceAdd, Int.reduceSub, Int.reduceMul, Int.reduceNeg, Int.zero_add, Int.add_zero, n15, n16, q10, q11, q12, q13, q14, Jc_mix, Jc_mixTrouble, Jc_answer, Jc_refuse, Jc_deny, Jc_grant, Se_isMould, Se_isStuff, Se_isPlace, hj]) (by simp (disch := omega) only [↓jb_m, ↓jm_s, ↓reduceIte, t_lt, t_nlt, t_le, t_nle, t_eq, t_neq, w32_id, w64_id, jb_s, and_true, true_and, and_self, and_false, false_and, or_true, true_or, or_false, false_or, or_self, not_false_eq_true, not_true_eq_false, u_ne, u_eq, u_u, Int.reduceAdd, Int.reduceSub, Int.reduceMul, Int.reduceNeg, Int.zero_add, Int.add_zero, n15, n16, q10, q11, q12, q13, q14, Md_mix, Md_whyNoMix, Md_isMouldAt, Md_isStuffAt, Md_isPlaceAt, Md_isTray, Md_isIn_1, Md_isIn_0, Md_refuse, Md_no])
    · exact OKc.no (w := 5) (r := -1) h (by simp (disch := omega) only [↓jb_m, ↓jm_s, ↓reduceIte, t_lt, t_nlt, t_le, t_nle, t_eq, t_neq, w32_id, w64_id, jb_s, and_true, true_and, and_self, and_false, false_and, or_true, true_or, or_false, false_or, or_self, not_false_eq_true, not_true_eq_false, u_ne, u_eq, u_u, Int.reduceAdd, Int.reduceSub, Int.reduceMul, Int.reduceNeg, Int.zero_add, Int.add_zero, n15, n16, q10, q11, q12, q13, q14, Jc_mix, Jc_mixTrouble, Jc_answer, Jc_refuse, Jc_deny, Jc_grant, Se_isMould, Se_isStuff, Se_isPlace, hj]) (by simp (disch := omega) only [↓jb_m, ↓jm_s, ↓reduceIte, t_lt, t_nlt, t_le, t_nle, t_eq, t_neq, w32_id, w64_id, jb_s, and_true, true_and, and_self, and_false, false_and, or_true, true_or, or_false, false_or, or_self, not_false_eq_true, not_true_eq_false, u_ne, u_eq, u_u, Int.reduceAdd, Int.reduceSub, Int.reduceMul, Int.reduceNeg, Int.zero_add, Int.add_zero, n15, n16, q10, q11, q12, q13, q14, Md_mix, Md_whyNoMix, Md_isMouldAt, Md_isStuffAt, Md_isPlaceAt, Md_isTray, Md_isIn_1, Md_isIn_0, Md_refuse, Md_no])
  obtain ⟨g, t, t1, t2, t3, t4, t5⟩ := mix_cr hbb hse q1 q2
  have m1 := (mo_at hse q1).2.1.2.1
  have g2 : t 160 2 = s 160 2 := t2 _ _ (by unfold r1622; omega)
  by_cases q5 : g = -1
  · obtain ⟨v, v1, v2, v3, -⟩ := t5 (jup (jup (jup t 0 0 8) 155 1 0) 155 0 0) (fun o => by rw [u_ne (by omega), u_ne (by omega), u_ne (by omega)]; exact t2 _ _ (by unfold r1622; omega))
    have hi := mi_end h (r1622_ga t2) rfl (mi_no rfl (rMx_my v2))
    rw [if_pos q5] at t1
    refine ⟨-1, jup t 0 0 8, jup v 155 0 8, ?_, ?_, hi⟩
    · simp (disch := omega) only [↓jb_m, ↓jm_s, ↓reduceIte, t_lt, t_nlt, t_le, t_nle, t_eq, t_neq, w32_id, w64_id, jb_s, and_true, true_and, and_self, and_false, false_and, or_true, true_or, or_false, false_or, or_self, not_false_eq_true, not_true_eq_false, u_ne, u_eq, u_u, Int.reduceAdd, Int.reduceSub, Int.reduceMul, Int.reduceNeg, Int.zero_add, Int.add_zero, n15, n16, q10, q11, q12, q13, q14, Jc_mix, Jc_mixTrouble, Jc_answer, Jc_refuse, Jc_deny, Jc_grant, Se_isMould, Se_isStuff, Se_isPlace, hj, m1, t1]
    · simp (disch := omega) only [↓jb_m, ↓jm_s, ↓reduceIte, t_lt, t_nlt, t_le, t_nle, t_eq, t_neq, w32_id, w64_id, jb_s, and_true, true_and, and_self, and_false, false_and, or_true, true_or, or_false, false_or, or_self, not_false_eq_true, not_true_eq_false, u_ne, u_eq, u_u, Int.reduceAdd, Int.reduceSub, Int.reduceMul, Int.reduceNeg, Int.zero_add, Int.add_zero, n15, n16, q10, q11, q12, q13, q14, Md_mix, Md_whyNoMix, Md_isMouldAt, Md_isStuffAt, Md_isPlaceAt, Md_isTray, Md_isIn_1, Md_isIn_0, Md_refuse, Md_no, g2, v1, v3]
  · obtain ⟨v, v1, v2, v3, -⟩ := t5 (jup (jup (jup t 0 0 0) 155 1 0) 155 0 0) (fun o => by rw [u_ne (by omega), u_ne (by omega), u_ne (by omega)]; exact t2 _ _ (by unfold r1622; omega))
    have hi := mi_end h (r1622_ga t2) rfl (rMx_my v2)
    rw [if_neg q5] at t1
    refine ⟨g, jup t 0 0 0, v, ?_, ?_, hi⟩
    · simp (disch := omega) only [↓jb_m, ↓jm_s, ↓reduceIte, t_lt, t_nlt, t_le, t_nle, t_eq, t_neq, w32_id, w64_id, jb_s, and_true, true_and, and_self, and_false, false_and, or_true, true_or, or_false, false_or, or_self, not_false_eq_true, not_true_eq_false, u_ne, u_eq, u_u, Int.reduceAdd, Int.reduceSub, Int.reduceMul, Int.reduceNeg, Int.zero_add, Int.add_zero, n15, n16, q10, q11, q12, q13, q14, Jc_mix, Jc_mixTrouble, Jc_answer, Jc_refuse, Jc_deny, Jc_grant, Se_isMould, Se_isStuff, Se_isPlace, hj, m1, t1, t3]
    · simp (disch := omega) only [↓jb_m, ↓jm_s, ↓reduceIte, t_lt, t_nlt, t_le, t_nle, t_eq, t_neq, w32_id, w64_id, jb_s, and_true, true_and, and_self, and_false, false_and, or_true, true_or, or_false, false_or, or_self, not_false_eq_true, not_true_eq_false, u_ne, u_eq, u_u, Int.reduceAdd, Int.reduceSub, Int.reduceMul, Int.reduceNeg, Int.zero_add, Int.add_zero, n15, n16, q10, q11, q12, q13, q14, Md_mix, Md_whyNoMix, Md_isMouldAt, Md_isStuffAt, Md_isPlaceAt, Md_isTray, Md_isIn_1, Md_isIn_0, Md_refuse, Md_no, g2, v1, v3]
theorem mixPart_ok {s : jM} (h : INV s) {m p k : Int} (hm : i32 m) (hp : i32 p) (hk : i32 k) : OKc s (Jc_mixPart 0 m p k) (Md_mixPart 155 m p k) := by
  unfold i32 at hm hp hk
  have hbb := h.b.1
  obtain ⟨hb, hj, hj2, -⟩ := h.b
  have hse := h.2.2.2.2.2.1.1
  obtain ⟨e6, c2⟩ := hd2 hse
  obtain ⟨e4, c0⟩ := hd0 hse
  by_cases q0 : 0 ≤ k ∧ k < s 160 0
  rotate_left
  · by_cases q1 : 0 ≤ m ∧ m < s 160 2
    · rcases (by omega : k < 0 ∨ s 160 0 ≤ k) with q | q
      · exact OKc.no (w := 2) (r := -1) h (by simp (disch := omega) only [↓jb_m, ↓jm_s, ↓reduceIte, t_lt, t_nlt, t_le, t_nle, t_eq, t_neq, w32_id, w64_id, jb_s, and_true, true_and, and_self, and_false, false_and, or_true, true_or, or_false, false_or, or_self, not_false_eq_true, not_true_eq_false, u_ne, u_eq, u_u, Int.reduceAdd, Int.reduceSub, Int.reduceMul, Int.reduceNeg, Int.zero_add, Int.add_zero, n15, n16, q10, q11, q12, q13, q14, Jc_mixPart, Jc_mixTrouble, Jc_answer, Jc_refuse, Jc_deny, Jc_grant, Se_isMould, Se_isStuff, Se_isPlace, hj]) (by simp (disch := omega) only [↓jb_m, ↓jm_s, ↓reduceIte, t_lt, t_nlt, t_le, t_nle, t_eq, t_neq, w32_id, w64_id, jb_s, and_true, true_and, and_self, and_false, false_and, or_true, true_or, or_false, false_or, or_self, not_false_eq_true, not_true_eq_false, u_ne, u_eq, u_u, Int.reduceAdd, Int.reduceSub, Int.reduceMul, Int.reduceNeg, Int.zero_add, Int.add_zero, n15, n16, q10, q11, q12, q13, q14, Md_mixPart, Md_mixPart_32, Md_whyNoMix, Md_isMouldAt, Md_isStuffAt, Md_isPlaceAt, Md_isTray, Md_isIn_1, Md_isIn_0, Md_refuse, Md_no])
      · exact OKc.no (w := 2) (r := -1) h (by simp (disch := omega) only [↓jb_m, ↓jm_s, ↓reduceIte, t_lt, t_nlt, t_le, t_nle, t_eq, t_neq, w32_id, w64_id, jb_s, and_true, true_and, and_self, and_false, false_and, or_true, true_or, or_false, false_or, or_self, not_false_eq_true, not_true_eq_false, u_ne, u_eq, u_u, Int.reduceAdd, Int.reduceSub, Int.reduceMul, Int.reduceNeg, Int.zero_add, Int.add_zero, n15, n16, q10, q11, q12, q13, q14, Jc_mixPart, Jc_mixTrouble, Jc_answer, Jc_refuse, Jc_deny, Jc_grant, Se_isMould, Se_isStuff, Se_isPlace, hj]) (by simp (disch := omega) only [↓jb_m, ↓jm_s, ↓reduceIte, t_lt, t_nlt, t_le, t_nle, t_eq, t_neq, w32_id, w64_id, jb_s, and_true, true_and, and_self, and_false, false_and, or_true, true_or, or_false, false_or, or_self, not_false_eq_true, not_true_eq_false, u_ne, u_eq, u_u, Int.reduceAdd, Int.reduceSub, Int.reduceMul, Int.reduceNeg, Int.zero_add, Int.add_zero, n15, n16, q10, q11, q12, q13, q14, Md_mixPart, Md_mixPart_32, Md_whyNoMix, Md_isMouldAt, Md_isStuffAt, Md_isPlaceAt, Md_isTray, Md_isIn_1, Md_isIn_0, Md_refuse, Md_no])
    · rcases (by omega : k < 0 ∨ s 160 0 ≤ k) with q | q
      · rcases (by omega : m < 0 ∨ s 160 2 ≤ m) with z | z
        · exact OKc.no (w := 2) (r := -1) h (by simp (disch := omega) only [↓jb_m, ↓jm_s, ↓reduceIte, t_lt, t_nlt, t_le, t_nle, t_eq, t_neq, w32_id, w64_id, jb_s, and_true, true_and, and_self, and_false, false_and, or_true, true_or, or_false, false_or, or_self, not_false_eq_true, not_true_eq_false, u_ne, u_eq, u_u, Int.reduceAdd, Int.reduceSub, Int.reduceMul, Int.reduceNeg, Int.zero_add, Int.add_zero, n15, n16, q10, q11, q12, q13, q14, Jc_mixPart, Jc_mixTrouble, Jc_answer, Jc_refuse, Jc_deny, Jc_grant, Se_isMould, Se_isStuff, Se_isPlace, hj]) (by simp (disch := omega) only [↓jb_m, ↓jm_s, ↓reduceIte, t_lt, t_nlt, t_le, t_nle, t_eq, t_neq, w32_id, w64_id, jb_s, and_true, true_and, and_self, and_false, false_and, or_true, true_or, or_false, false_or, or_self, not_false_eq_true, not_true_eq_false, u_ne, u_eq, u_u, Int.reduceAdd, Int.reduceSub, Int.reduceMul, Int.reduceNeg, Int.zero_add, Int.add_zero, n15, n16, q10, q11, q12, q13, q14, Md_mixPart, Md_mixPart_32, Md_whyNoMix, Md_isMouldAt, Md_isStuffAt, Md_isPlaceAt, Md_isTray, Md_isIn_1, Md_isIn_0, Md_refuse, Md_no])
        · exact OKc.no (w := 2) (r := -1) h (by simp (disch := omega) only [↓jb_m, ↓jm_s, ↓reduceIte, t_lt, t_nlt, t_le, t_nle, t_eq, t_neq, w32_id, w64_id, jb_s, and_true, true_and, and_self, and_false, false_and, or_true, true_or, or_false, false_or, or_self, not_false_eq_true, not_true_eq_false, u_ne, u_eq, u_u, Int.reduceAdd, Int.reduceSub, Int.reduceMul, Int.reduceNeg, Int.zero_add, Int.add_zero, n15, n16, q10, q11, q12, q13, q14, Jc_mixPart, Jc_mixTrouble, Jc_answer, Jc_refuse, Jc_deny, Jc_grant, Se_isMould, Se_isStuff, Se_isPlace, hj]) (by simp (disch := omega) only [↓jb_m, ↓jm_s, ↓reduceIte, t_lt, t_nlt, t_le, t_nle, t_eq, t_neq, w32_id, w64_id, jb_s, and_true, true_and, and_self, and_false, false_and, or_true, true_or, or_false, false_or, or_self, not_false_eq_true, not_true_eq_false, u_ne, u_eq, u_u, Int.reduceAdd, Int.reduceSub, Int.reduceMul, Int.reduceNeg, Int.zero_add, Int.add_zero, n15, n16, q10, q11, q12, q13, q14, Md_mixPart, Md_mixPart_32, Md_whyNoMix, Md_isMouldAt, Md_isStuffAt, Md_isPlaceAt, Md_isTray, Md_isIn_1, Md_isIn_0, Md_refuse, Md_no])
      · rcases (by omega : m < 0 ∨ s 160 2 ≤ m) with z | z
        · exact OKc.no (w := 2) (r := -1) h (by simp (disch := omega) only [↓jb_m, ↓jm_s, ↓reduceIte, t_lt, t_nlt, t_le, t_nle, t_eq, t_neq, w32_id, w64_id, jb_s, and_true, true_and, and_self, and_false, false_and, or_true, true_or, or_false, false_or, or_self, not_false_eq_true, not_true_eq_false, u_ne, u_eq, u_u, Int.reduceAdd, Int.reduceSub, Int.reduceMul, Int.reduceNeg, Int.zero_add, Int.add_zero, n15, n16, q10, q11, q12, q13, q14, Jc_mixPart, Jc_mixTrouble, Jc_answer, Jc_refuse, Jc_deny, Jc_grant, Se_isMould, Se_isStuff, Se_isPlace, hj]) (by simp (disch := omega) only [↓jb_m, ↓jm_s, ↓reduceIte, t_lt, t_nlt, t_le, t_nle, t_eq, t_neq, w32_id, w64_id, jb_s, and_true, true_and, and_self, and_false, false_and, or_true, true_or, or_false, false_or, or_self, not_false_eq_true, not_true_eq_false, u_ne, u_eq, u_u, Int.reduceAdd, Int.reduceSub, Int.reduceMul, Int.reduceNeg, Int.zero_add, Int.add_zero, n15, n16, q10, q11, q12, q13, q14, Md_mixPart, Md_mixPart_32, Md_whyNoMix, Md_isMouldAt, Md_isStuffAt, Md_isPlaceAt, Md_isTray, Md_isIn_1, Md_isIn_0, Md_refuse, Md_no])
        · exact OKc.no (w := 2) (r := -1) h (by simp (disch := omega) only [↓jb_m, ↓jm_s, ↓reduceIte, t_lt, t_nlt, t_le, t_nle, t_eq, t_neq, w32_id, w64_id, jb_s, and_true, true_and, and_self, and_false, false_and, or_true, true_or, or_false, false_or, or_self, not_false_eq_true, not_true_eq_false, u_ne, u_eq, u_u, Int.reduceAdd, Int.reduceSub, Int.reduceMul, Int.reduceNeg, Int.zero_add, Int.add_zero, n15, n16, q10, q11, q12, q13, q14, Jc_mixPart, Jc_mixTrouble, Jc_answer, Jc_refuse, Jc_deny, Jc_grant, Se_isMould, Se_isStuff, Se_isPlace, hj]) (by simp (disch := omega) only [↓jb_m, ↓jm_s, ↓reduceIte, t_lt, t_nlt, t_le, t_nle, t_eq, t_neq, w32_id, w64_id, jb_s, and_true, true_and, and_self, and_false, false_and, or_true, true_or, or_false, false_or, or_self, not_false_eq_true, not_true_eq_false, u_ne, u_eq, u_u, Int.reduceAdd, Int.reduceSub, Int.reduceMul, Int.reduceNeg, Int.zero_add, Int.add_zero, n15, n16, q10, q11, q12, q13, q14, Md_mixPart, Md_mixPart_32, Md_whyNoMix, Md_isMouldAt, Md_isStuffAt, Md_isPlaceAt, Md_isTray, Md_isIn_1, Md_isIn_0, Md_refuse, Md_no])
  by_cases q1 : 0 ≤ m ∧ m < s 160 2
  rotate_left
  · rcases (by omega : m < 0 ∨ s 160 2 ≤ m) with q | q
    · exact OKc.no (w := 2) (r := -1) h (by simp (disch := omega) only [↓jb_m, ↓jm_s, ↓reduceIte, t_lt, t_nlt, t_le, t_nle, t_eq, t_neq, w32_id, w64_id, jb_s, and_true, true_and, and_self, and_false, false_and, or_true, true_or, or_false, false_or, or_self, not_false_eq_true, not_true_eq_false, u_ne, u_eq, u_u, Int.reduceAdd, Int.reduceSub, Int.reduceMul, Int.reduceNeg, Int.zero_add, Int.add_zero, n15, n16, q10, q11, q12, q13, q14, Jc_mixPart, Jc_mixTrouble, Jc_answer, Jc_refuse, Jc_deny, Jc_grant, Se_isMould, Se_isStuff, Se_isPlace, hj]) (by simp (disch := omega) only [↓jb_m, ↓jm_s, ↓reduceIte, t_lt, t_nlt, t_le, t_nle, t_eq, t_neq, w32_id, w64_id, jb_s, and_true, true_and, and_self, and_false, false_and, or_true, true_or, or_false, false_or, or_self, not_false_eq_true, not_true_eq_false, u_ne, u_eq, u_u, Int.reduceAdd, Int.reduceSub, Int.reduceMul, Int.reduceNeg, Int.zero_add, Int.add_zero, n15, n16, q10, q11, q12, q13, q14, Md_mixPart, Md_mixPart_32, Md_whyNoMix, Md_isMouldAt, Md_isStuffAt, Md_isPlaceAt, Md_isTray, Md_isIn_1, Md_isIn_0, Md_refuse, Md_no])
    · exact OKc.no (w := 2) (r := -1) h (by simp (disch := omega) only [↓jb_m, ↓jm_s, ↓reduceIte, t_lt, t_nlt, t_le, t_nle, t_eq, t_neq, w32_id, w64_id, jb_s, and_true, true_and, and_self, and_false, false_and, or_true, true_or, or_false, false_or, or_self, not_false_eq_true, not_true_eq_false, u_ne, u_eq, u_u, Int.reduceAdd, Int.reduceSub, Int.reduceMul, Int.reduceNeg, Int.zero_add, Int.add_zero, n15, n16, q10, q11, q12, q13, q14, Jc_mixPart, Jc_mixTrouble, Jc_answer, Jc_refuse, Jc_deny, Jc_grant, Se_isMould, Se_isStuff, Se_isPlace, hj]) (by simp (disch := omega) only [↓jb_m, ↓jm_s, ↓reduceIte, t_lt, t_nlt, t_le, t_nle, t_eq, t_neq, w32_id, w64_id, jb_s, and_true, true_and, and_self, and_false, false_and, or_true, true_or, or_false, false_or, or_self, not_false_eq_true, not_true_eq_false, u_ne, u_eq, u_u, Int.reduceAdd, Int.reduceSub, Int.reduceMul, Int.reduceNeg, Int.zero_add, Int.add_zero, n15, n16, q10, q11, q12, q13, q14, Md_mixPart, Md_mixPart_32, Md_whyNoMix, Md_isMouldAt, Md_isStuffAt, Md_isPlaceAt, Md_isTray, Md_isIn_1, Md_isIn_0, Md_refuse, Md_no])
  by_cases q2 : 0 ≤ p ∧ p ≤ 81
  rotate_left
  · rcases (by omega : p < 0 ∨ 81 < p) with q | q
    · exact OKc.no (w := 5) (r := -1) h (by simp (disch := omega) only [↓jb_m, ↓jm_s, ↓reduceIte, t_lt, t_nlt, t_le, t_nle, t_eq, t_neq, w32_id, w64_id, jb_s, and_true, true_and, and_self, and_false, false_and, or_true, true_or, or_false, false_or, or_self, not_false_eq_true, not_true_eq_false, u_ne, u_eq, u_u, Int.reduceAdd, Int.reduceSub, Int.reduceMul, Int.reduceNeg, Int.zero_add, Int.add_zero, n15, n16, q10, q11, q12, q13, q14, Jc_mixPart, Jc_mixTrouble, Jc_answer, Jc_refuse, Jc_deny, Jc_grant, Se_isMould, Se_isStuff, Se_isPlace, hj]) (by simp (disch := omega) only [↓jb_m, ↓jm_s, ↓reduceIte, t_lt, t_nlt, t_le, t_nle, t_eq, t_neq, w32_id, w64_id, jb_s, and_true, true_and, and_self, and_false, false_and, or_true, true_or, or_false, false_or, or_self, not_false_eq_true, not_true_eq_false, u_ne, u_eq, u_u, Int.reduceAdd, Int.reduceSub, Int.reduceMul, Int.reduceNeg, Int.zero_add, Int.add_zero, n15, n16, q10, q11, q12, q13, q14, Md_mixPart, Md_mixPart_32, Md_whyNoMix, Md_isMouldAt, Md_isStuffAt, Md_isPlaceAt, Md_isTray, Md_isIn_1, Md_isIn_0, Md_refuse, Md_no])
    · exact OKc.no (w := 5) (r := -1) h (by simp (disch := omega) only [↓jb_m, ↓jm_s, ↓reduceIte, t_lt, t_nlt, t_le, t_nle, t_eq, t_neq, w32_id, w64_id, jb_s, and_true, true_and, and_self, and_false, false_and, or_true, true_or, or_false, false_or, or_self, not_false_eq_true, not_true_eq_false, u_ne, u_eq, u_u, Int.reduceAdd, Int.reduceSub, Int.reduceMul, Int.reduceNeg, Int.zero_add, Int.add_zero, n15, n16, q10, q11, q12, q13, q14, Jc_mixPart, Jc_mixTrouble, Jc_answer, Jc_refuse, Jc_deny, Jc_grant, Se_isMould, Se_isStuff, Se_isPlace, hj]) (by simp (disch := omega) only [↓jb_m, ↓jm_s, ↓reduceIte, t_lt, t_nlt, t_le, t_nle, t_eq, t_neq, w32_id, w64_id, jb_s, and_true, true_and, and_self, and_false, false_and, or_true, true_or, or_false, false_or, or_self, not_false_eq_true, not_true_eq_false, u_ne, u_eq, u_u, Int.reduceAdd, Int.reduceSub, Int.reduceMul, Int.reduceNeg, Int.zero_add, Int.add_zero, n15, n16, q10, q11, q12, q13, q14, Md_mixPart, Md_mixPart_32, Md_whyNoMix, Md_isMouldAt, Md_isStuffAt, Md_isPlaceAt, Md_isTray, Md_isIn_1, Md_isIn_0, Md_refuse, Md_no])
  obtain ⟨g, t, t1, t2, t3, t4, t5⟩ := mix_cr hbb hse q1 q2
  have m1 := (mo_at hse q1).2.1.2.1
  have g2 : t 160 2 = s 160 2 := t2 _ _ (by unfold r1622; omega)
  have g0 : t 160 0 = s 160 0 := t2 _ _ (by unfold r1622; omega)
  by_cases q5 : g = -1
  · obtain ⟨v, v1, v2, v3, -⟩ := t5 (jup (jup (jup t 0 0 8) 155 1 0) 155 0 0) (fun o => by rw [u_ne (by omega), u_ne (by omega), u_ne (by omega)]; exact t2 _ _ (by unfold r1622; omega))
    have hi := mi_end h (r1622_ga t2) rfl (mi_no rfl (rMx_my v2))
    rw [if_pos q5] at t1
    refine ⟨-1, jup t 0 0 8, jup v 155 0 8, ?_, ?_, hi⟩
    · simp (disch := omega) only [↓jb_m, ↓jm_s, ↓reduceIte, t_lt, t_nlt, t_le, t_nle, t_eq, t_neq, w32_id, w64_id, jb_s, and_true, true_and, and_self, and_false, false_and, or_true, true_or, or_false, false_or, or_self, not_false_eq_true, not_true_eq_false, u_ne, u_eq, u_u, Int.reduceAdd, Int.reduceSub, Int.reduceMul, Int.reduceNeg, Int.zero_add, Int.add_zero, n15, n16, q10, q11, q12, q13, q14, Jc_mixPart, Jc_mixTrouble, Jc_answer, Jc_refuse, Jc_deny, Jc_grant, Se_isMould, Se_isStuff, Se_isPlace, hj, m1, t1]
    · simp (disch := omega) only [↓jb_m, ↓jm_s, ↓reduceIte, t_lt, t_nlt, t_le, t_nle, t_eq, t_neq, w32_id, w64_id, jb_s, and_true, true_and, and_self, and_false, false_and, or_true, true_or, or_false, false_or, or_self, not_false_eq_true, not_true_eq_false, u_ne, u_eq, u_u, Int.reduceAdd, Int.reduceSub, Int.reduceMul, Int.reduceNeg, Int.zero_add, Int.add_zero, n15, n16, q10, q11, q12, q13, q14, Md_mixPart, Md_mixPart_32, Md_whyNoMix, Md_isMouldAt, Md_isStuffAt, Md_isPlaceAt, Md_isTray, Md_isIn_1, Md_isIn_0, Md_refuse, Md_no, g2, g0, v1, v3]
  · obtain ⟨v, v1, v2, v3, v4⟩ := t5 (jup (jup (jup t 0 0 0) 155 1 0) 155 0 0) (fun o => by rw [u_ne (by omega), u_ne (by omega), u_ne (by omega)]; exact t2 _ _ (by unfold r1622; omega))
    have v5 := v4 q5 k q0.1 q0.2
    clear v4
    have hi := mi_end h (r1622_ga t2) rfl (rMx_my v2)
    rw [if_neg q5] at t1
    refine ⟨t 19 k, jup t 0 0 0, v, ?_, ?_, hi⟩
    · simp (disch := omega) only [↓jb_m, ↓jm_s, ↓reduceIte, t_lt, t_nlt, t_le, t_nle, t_eq, t_neq, w32_id, w64_id, jb_s, and_true, true_and, and_self, and_false, false_and, or_true, true_or, or_false, false_or, or_self, not_false_eq_true, not_true_eq_false, u_ne, u_eq, u_u, Int.reduceAdd, Int.reduceSub, Int.reduceMul, Int.reduceNeg, Int.zero_add, Int.add_zero, n15, n16, q10, q11, q12, q13, q14, Jc_mixPart, Jc_mixTrouble, Jc_answer, Jc_refuse, Jc_deny, Jc_grant, Se_isMould, Se_isStuff, Se_isPlace, hj, m1, t1]
    · simp (disch := omega) only [↓jb_m, ↓jm_s, ↓reduceIte, t_lt, t_nlt, t_le, t_nle, t_eq, t_neq, w32_id, w64_id, jb_s, and_true, true_and, and_self, and_false, false_and, or_true, true_or, or_false, false_or, or_self, not_false_eq_true, not_true_eq_false, u_ne, u_eq, u_u, Int.reduceAdd, Int.reduceSub, Int.reduceMul, Int.reduceNeg, Int.zero_add, Int.add_zero, n15, n16, q10, q11, q12, q13, q14, Md_mixPart, Md_mixPart_32, Md_whyNoMix, Md_isMouldAt, Md_isStuffAt, Md_isPlaceAt, Md_isTray, Md_isIn_1, Md_isIn_0, Md_refuse, Md_no, g2, g0, v1, v3, v5]
theorem strongest_ok {s : jM} (h : INV s) {m : Int} (hm : i32 m) : OKc s (Jc_strongest 0 m) (Md_strongest 155 m) := by
  unfold i32 at hm
  have hbb := h.b.1
  obtain ⟨hb, hj, hj2, -⟩ := h.b
  have hse := h.2.2.2.2.2.1.1
  obtain ⟨e6, c2⟩ := hd2 hse
  by_cases q1 : 0 ≤ m ∧ m < s 160 2
  rotate_left
  · rcases (by omega : m < 0 ∨ s 160 2 ≤ m) with q | q
    · exact OKc.no (w := 2) (r := -1) h (by simp (disch := omega) only [↓jb_m, ↓jm_s, ↓reduceIte, t_lt, t_nlt, t_le, t_nle, t_eq, t_neq, w32_id, w64_id, jb_s, and_true, true_and, and_self, and_false, false_and, or_true, true_or, or_false, false_or, or_self, not_false_eq_true, not_true_eq_false, u_ne, u_eq, u_u, Int.reduceAdd, Int.reduceSub, Int.reduceMul, Int.reduceNeg, Int.zero_add, Int.add_zero, n15, n16, q10, q11, q12, q13, q14, Jc_strongest, Jc_answer, Jc_refuse, Jc_deny, Jc_grant, Se_isMould, Se_isStuff, Se_isPlace, hj]) (by simp (disch := omega) only [↓jb_m, ↓jm_s, ↓reduceIte, t_lt, t_nlt, t_le, t_nle, t_eq, t_neq, w32_id, w64_id, jb_s, and_true, true_and, and_self, and_false, false_and, or_true, true_or, or_false, false_or, or_self, not_false_eq_true, not_true_eq_false, u_ne, u_eq, u_u, Int.reduceAdd, Int.reduceSub, Int.reduceMul, Int.reduceNeg, Int.zero_add, Int.add_zero, n15, n16, q10, q11, q12, q13, q14, Md_strongest, Md_isMouldAt, Md_isStuffAt, Md_isPlaceAt, Md_isTray, Md_isIn_1, Md_isIn_0, Md_refuse, Md_no])
    · exact OKc.no (w := 2) (r := -1) h (by simp (disch := omega) only [↓jb_m, ↓jm_s, ↓reduceIte, t_lt, t_nlt, t_le, t_nle, t_eq, t_neq, w32_id, w64_id, jb_s, and_true, true_and, and_self, and_false, false_and, or_true, true_or, or_false, false_or, or_self, not_false_eq_true, not_true_eq_false, u_ne, u_eq, u_u, Int.reduceAdd, Int.reduceSub, Int.reduceMul, Int.reduceNeg, Int.zero_add, Int.add_zero, n15, n16, q10, q11, q12, q13, q14, Jc_strongest, Jc_answer, Jc_refuse, Jc_deny, Jc_grant, Se_isMould, Se_isStuff, Se_isPlace, hj]) (by simp (disch := omega) only [↓jb_m, ↓jm_s, ↓reduceIte, t_lt, t_nlt, t_le, t_nle, t_eq, t_neq, w32_id, w64_id, jb_s, and_true, true_and, and_self, and_false, false_and, or_true, true_or, or_false, false_or, or_self, not_false_eq_true, not_true_eq_false, u_ne, u_eq, u_u, Int.reduceAdd, Int.reduceSub, Int.reduceMul, Int.reduceNeg, Int.zero_add, Int.add_zero, n15, n16, q10, q11, q12, q13, q14, Md_strongest, Md_isMouldAt, Md_isStuffAt, Md_isPlaceAt, Md_isTray, Md_isIn_1, Md_isIn_0, Md_refuse, Md_no])
  obtain ⟨W, t, t1, t2, t3, t4, t5⟩ := cnt_cr (fg := 1) hbb hse q1 (Or.inr rfl)
  have m1 := (mo_at hse q1).2.1.2.1
  have g2 : t 160 2 = s 160 2 := t2 _ _ (by unfold r1622; omega)
  have gs : Fi_greatestStrength 16 t = some (W 1 1, t) := gs_eq (Int.le_refl _) t3 t4 82 jFU (Nat.le_refl _) (bub_ge (by omega)) (by have := t3.2.1; omega)
  have wb := t3.2.1
  clear t3 t4
  by_cases q5 : W 1 1 = -1
  · obtain ⟨v, v1, v2, v3, -⟩ := t5 (jup (jup (jup t 0 0 8) 155 1 0) 155 0 0) (fun o => by rw [u_ne (by omega), u_ne (by omega), u_ne (by omega)]; exact t2 _ _ (by unfold r1622; omega))
    have hi := mi_end h (r1622_ga t2) rfl (mi_no rfl (rMx_my v2))
    refine ⟨-1, jup t 0 0 8, jup v 155 0 8, ?_, ?_, hi⟩
    · simp (disch := omega) only [↓jb_m, ↓jm_s, ↓reduceIte, t_lt, t_nlt, t_le, t_nle, t_eq, t_neq, w32_id, w64_id, jb_s, and_true, true_and, and_self, and_false, false_and, or_true, true_or, or_false, false_or, or_self, not_false_eq_true, not_true_eq_false, u_ne, u_eq, u_u, Int.reduceAdd, Int.reduceSub, Int.reduceMul, Int.reduceNeg, Int.zero_add, Int.add_zero, n15, n16, q10, q11, q12, q13, q14, Jc_strongest, Jc_answer, Jc_refuse, Jc_deny, Jc_grant, Se_isMould, Se_isStuff, Se_isPlace, hj, m1, t1, gs]
    · simp (disch := omega) only [↓jb_m, ↓jm_s, ↓reduceIte, t_lt, t_nlt, t_le, t_nle, t_eq, t_neq, w32_id, w64_id, jb_s, and_true, true_and, and_self, and_false, false_and, or_true, true_or, or_false, false_or, or_self, not_false_eq_true, not_true_eq_false, u_ne, u_eq, u_u, Int.reduceAdd, Int.reduceSub, Int.reduceMul, Int.reduceNeg, Int.zero_add, Int.add_zero, n15, n16, q10, q11, q12, q13, q14, Md_strongest, Md_isMouldAt, Md_isStuffAt, Md_isPlaceAt, Md_isTray, Md_isIn_1, Md_isIn_0, Md_refuse, Md_no, g2, v1, v3]
  · obtain ⟨v, v1, v2, v3, -⟩ := t5 (jup (jup (jup t 0 0 0) 155 1 0) 155 0 0) (fun o => by rw [u_ne (by omega), u_ne (by omega), u_ne (by omega)]; exact t2 _ _ (by unfold r1622; omega))
    have hi := mi_end h (r1622_ga t2) rfl (rMx_my v2)
    refine ⟨W 1 1, jup t 0 0 0, v, ?_, ?_, hi⟩
    · simp (disch := omega) only [↓jb_m, ↓jm_s, ↓reduceIte, t_lt, t_nlt, t_le, t_nle, t_eq, t_neq, w32_id, w64_id, jb_s, and_true, true_and, and_self, and_false, false_and, or_true, true_or, or_false, false_or, or_self, not_false_eq_true, not_true_eq_false, u_ne, u_eq, u_u, Int.reduceAdd, Int.reduceSub, Int.reduceMul, Int.reduceNeg, Int.zero_add, Int.add_zero, n15, n16, q10, q11, q12, q13, q14, Jc_strongest, Jc_answer, Jc_refuse, Jc_deny, Jc_grant, Se_isMould, Se_isStuff, Se_isPlace, hj, m1, t1, gs]
    · simp (disch := omega) only [↓jb_m, ↓jm_s, ↓reduceIte, t_lt, t_nlt, t_le, t_nle, t_eq, t_neq, w32_id, w64_id, jb_s, and_true, true_and, and_self, and_false, false_and, or_true, true_or, or_false, false_or, or_self, not_false_eq_true, not_true_eq_false, u_ne, u_eq, u_u, Int.reduceAdd, Int.reduceSub, Int.reduceMul, Int.reduceNeg, Int.zero_add, Int.add_zero, n15, n16, q10, q11, q12, q13, q14, Md_strongest, Md_isMouldAt, Md_isStuffAt, Md_isPlaceAt, Md_isTray, Md_isIn_1, Md_isIn_0, Md_refuse, Md_no, g2, v1, v3]
theorem fillings_ok {s : jM} (h : INV s) {m : Int} (hm : i32 m) : OKc s (Jc_fillings 0 m) (Md_fillings 155 m) := by
  unfold i32 at hm
  have hbb := h.b.1
  obtain ⟨hb, hj, hj2, -⟩ := h.b
  have hse := h.2.2.2.2.2.1.1
  obtain ⟨e6, c2⟩ := hd2 hse
  by_cases q1 : 0 ≤ m ∧ m < s 160 2
  rotate_left
  · rcases (by omega : m < 0 ∨ s 160 2 ≤ m) with q | q
    · exact OKc.no (w := 2) (r := -1) h (by simp (disch := omega) only [↓jb_m, ↓jm_s, ↓reduceIte, t_lt, t_nlt, t_le, t_nle, t_eq, t_neq, w32_id, w64_id, jb_s, and_true, true_and, and_self, and_false, false_and, or_true, true_or, or_false, false_or, or_self, not_false_eq_true, not_true_eq_false, u_ne, u_eq, u_u, Int.reduceAdd, Int.reduceSub, Int.reduceMul, Int.reduceNeg, Int.zero_add, Int.add_zero, n15, n16, q10, q11, q12, q13, q14, Jc_fillings, Jc_answer, Jc_refuse, Jc_deny, Jc_grant, Se_isMould, Se_isStuff, Se_isPlace, hj]) (by simp (disch := omega) only [↓jb_m, ↓jm_s, ↓reduceIte, t_lt, t_nlt, t_le, t_nle, t_eq, t_neq, w32_id, w64_id, jb_s, and_true, true_and, and_self, and_false, false_and, or_true, true_or, or_false, false_or, or_self, not_false_eq_true, not_true_eq_false, u_ne, u_eq, u_u, Int.reduceAdd, Int.reduceSub, Int.reduceMul, Int.reduceNeg, Int.zero_add, Int.add_zero, n15, n16, q10, q11, q12, q13, q14, Md_fillings, Md_isMouldAt, Md_isStuffAt, Md_isPlaceAt, Md_isTray, Md_isIn_1, Md_isIn_0, Md_refuse, Md_no])
    · exact OKc.no (w := 2) (r := -1) h (by simp (disch := omega) only [↓jb_m, ↓jm_s, ↓reduceIte, t_lt, t_nlt, t_le, t_nle, t_eq, t_neq, w32_id, w64_id, jb_s, and_true, true_and, and_self, and_false, false_and, or_true, true_or, or_false, false_or, or_self, not_false_eq_true, not_true_eq_false, u_ne, u_eq, u_u, Int.reduceAdd, Int.reduceSub, Int.reduceMul, Int.reduceNeg, Int.zero_add, Int.add_zero, n15, n16, q10, q11, q12, q13, q14, Jc_fillings, Jc_answer, Jc_refuse, Jc_deny, Jc_grant, Se_isMould, Se_isStuff, Se_isPlace, hj]) (by simp (disch := omega) only [↓jb_m, ↓jm_s, ↓reduceIte, t_lt, t_nlt, t_le, t_nle, t_eq, t_neq, w32_id, w64_id, jb_s, and_true, true_and, and_self, and_false, false_and, or_true, true_or, or_false, false_or, or_self, not_false_eq_true, not_true_eq_false, u_ne, u_eq, u_u, Int.reduceAdd, Int.reduceSub, Int.reduceMul, Int.reduceNeg, Int.zero_add, Int.add_zero, n15, n16, q10, q11, q12, q13, q14, Md_fillings, Md_isMouldAt, Md_isStuffAt, Md_isPlaceAt, Md_isTray, Md_isIn_1, Md_isIn_0, Md_refuse, Md_no])
  obtain ⟨W, t, t1, t2, t3, t4, t5⟩ := cnt_cr (fg := 1) hbb hse q1 (Or.inr rfl)
  have m1 := (mo_at hse q1).2.1.2.1
  have g2 : t 160 2 = s 160 2 := t2 _ _ (by unfold r1622; omega)
  obtain ⟨v, v1, v2, v3, v4⟩ := t5 (jup (jup (jup t 0 0 0) 155 1 0) 155 0 0) (fun o => by rw [u_ne (by omega), u_ne (by omega), u_ne (by omega)]; exact t2 _ _ (by unfold r1622; omega))
  have hi := mi_end h (r1622_ga t2) rfl (rMx_my v2)
  obtain ⟨r, r1, r2⟩ := aw_eq (s := t) (v := v) (fun i i1 i2 => (v4 i i1 i2).trans (t4 i i1 i2).symm) 82 0 jFU jFU 0 (by omega) (bub_ge (by omega)) (bub_ge (by omega))
  have r1' : Fi_allWays 16 t = some (r, t) := r1
  have r2' : Md_fillings_35 jFU 155 0 0 v = some (r, v) := r2
  clear t3 t4 v4 r1 r2
  refine ⟨r, jup t 0 0 0, v, ?_, ?_, hi⟩
  · simp (disch := omega) only [↓jb_m, ↓jm_s, ↓reduceIte, t_lt, t_nlt, t_le, t_nle, t_eq, t_neq, w32_id, w64_id, jb_s, and_true, true_and, and_self, and_false, false_and, or_true, true_or, or_false, false_or, or_self, not_false_eq_true, not_true_eq_false, u_ne, u_eq, u_u, Int.reduceAdd, Int.reduceSub, Int.reduceMul, Int.reduceNeg, Int.zero_add, Int.add_zero, n15, n16, q10, q11, q12, q13, q14, Jc_fillings, Jc_answer, Jc_refuse, Jc_deny, Jc_grant, Se_isMould, Se_isStuff, Se_isPlace, hj, m1, t1, r1']
  · simp (disch := omega) only [↓jb_m, ↓jm_s, ↓reduceIte, t_lt, t_nlt, t_le, t_nle, t_eq, t_neq, w32_id, w64_id, jb_s, and_true, true_and, and_self, and_false, false_and, or_true, true_or, or_false, false_or, or_self, not_false_eq_true, not_true_eq_false, u_ne, u_eq, u_u, Int.reduceAdd, Int.reduceSub, Int.reduceMul, Int.reduceNeg, Int.zero_add, Int.add_zero, n15, n16, q10, q11, q12, q13, q14, Md_fillings, Md_isMouldAt, Md_isStuffAt, Md_isPlaceAt, Md_isTray, Md_isIn_1, Md_isIn_0, Md_refuse, Md_no, g2, v1, r2']
