/-! FILLINGS: the reference's side -/
def r166 (k a b : Int) : Prop := a = 166 ∧ k ≤ b ∧ b < 5
theorem mx69 {rec : Int → Int → Int → Int → Int → Int → Int → jM → Option (Int × jM)} : ∀ (m f k : Nat) (s : jM), k + m = 5 → m < f → ∃ t, Md_mixes_69 rec f 155 k s = some (0, t) ∧ (∀ j, (k : Int) ≤ j → j < 5 → t 166 j = s 165 j) ∧ EX (r166 k) s t := by
  intro m
  induction m with
  | zero =>
    intro f k s h1 h2
    obtain ⟨f, rfl⟩ : ∃ g, f = g + 1 := ⟨f - 1, by omega⟩
    have e : k = 5 := by omega
    subst e
    exact ⟨s, by rw [Md_mixes_69, if_neg (by decide)], fun j j1 j2 => by omega, EX.rf _ _⟩
  | succ m ih =>
    intro f k s h1 h2
    obtain ⟨f, rfl⟩ : ∃ g, f = g + 1 := ⟨f - 1, by omega⟩
    obtain ⟨t, t1, t2, t3⟩ := ih f (k + 1) (jup s 166 k (s 165 k)) (by omega) (by omega)
    have c1 : (k : Int) < 5 := by omega
    have c2 : (0 : Int) ≤ k ∧ (k : Int) < 5 := by omega
    have c3 : ((k + 1 : Nat) : Int) = (k : Int) + 1 := by omega
    have c4 : k < 1000 := by omega
    rw [c3] at t1
    refine ⟨t, ?_, fun j j1 j2 => ?_, EX.tr ((EX.rf _ _).up ⟨rfl, by omega, by omega⟩) (t3.wk (fun a b q => ⟨q.1, by have := q.2; omega, q.2.2⟩))⟩
    · rw [Md_mixes_69, w32n c4, if_pos c1, if_pos ⟨c2, c2⟩]
      exact t1
    · by_cases q : j = k
      · rw [q, t3 166 k (by unfold r166; omega)]
        exact u_eq ⟨rfl, rfl⟩
      · rw [t2 j (by omega) j2, u_ne (by omega)]
theorem vis_m {need : Int} {sg kp : Int → Int} {W : jM} {xs : List Int} : vis need sg kp W xs 1 1 = if W 1 1 < sm sg xs 0 then sm sg xs 0 else W 1 1 := by
  by_cases q : ¬ sm sg xs 0 < need ∧ (W 1 0 < 0 ∨ sm kp xs 0 < W 1 0)
  · have e2 : vis need sg kp W xs = fun r c => if r = 1 ∧ c = 0 then sm kp xs 0 else if r = 2 then xs.getD c.toNat 0 else jup (jup W 0 (sm sg xs 0) (W 0 (sm sg xs 0) + 1)) 1 1 (if W 1 1 < sm sg xs 0 then sm sg xs 0 else W 1 1) r c := if_pos q
    rw [e2]
    rfl
  · have e2 : vis need sg kp W xs = jup (jup W 0 (sm sg xs 0) (W 0 (sm sg xs 0) + 1)) 1 1 (if W 1 1 < sm sg xs 0 then sm sg xs 0 else W 1 1) := if_neg q
    rw [e2]
    exact u_eq ⟨rfl, rfl⟩
def rW (n : Nat) (u W : jM) : Prop := (∀ k, 0 ≤ k → k < 82 → u 167 k = W 0 k) ∧ u 155 31 = W 1 0 ∧ u 155 32 = W 1 1 ∧ (∀ j, 0 ≤ j → j < (n : Int) → u 166 j = W 2 j) ∧ (W 1 0 = -1 ∨ (0 ≤ W 1 0 ∧ W 1 0 ≤ 10000)) ∧ -1 ≤ W 1 1 ∧ W 1 1 ≤ 81
def rMx (a b : Int) : Prop := a = 165 ∨ a = 166 ∨ a = 167 ∨ (a = 155 ∧ (b = 31 ∨ b = 32))
theorem mx_leaf {rec : Int → Int → Int → Int → Int → Int → Int → jM → Option (Int × jM)} {n : Nat} (hn : n ≤ 5) {need fg S K : Int} {sg kp : Int → Int} {xs : List Int} {u W : jM} (hne : 0 ≤ need ∧ need ≤ 81) (h0 : u 160 0 = n) (hW : rW n u W) (hS : sm sg xs 0 = S) (hK : sm kp xs 0 = K) (bS : 0 ≤ S ∧ S ≤ 81) (bK : 0 ≤ K ∧ K ≤ 10000) (hx : ∀ j, 0 ≤ j → j < 5 → u 165 j = xs.getD j.toNat 0) : ∃ t, Md_mixes_b rec 155 n 0 S K need fg u = some (0, t) ∧ rW n t (vis need sg kp W xs) ∧ EX rMx u t ∧ ∀ j, t 165 j = u 165 j := by
  obtain ⟨w1, w2, w3, w4, w5, w6⟩ := hW
  have v0 := vis_0 (need := need) (sg := sg) (kp := kp) (W := W) (xs := xs)
  have vm := vis_m (need := need) (sg := sg) (kp := kp) (W := W) (xs := xs)
  have y := vis_y (need := need) (sg := sg) (kp := kp) (W := W) (xs := xs)
  have z := vis_n (need := need) (sg := sg) (kp := kp) (W := W) (xs := xs)
  rw [hS] at v0 vm y z
  rw [hK] at y z
  have mm : jmax (W 1 1) S = if W 1 1 < S then S else W 1 1 := jmax_e (by unfold i32; omega) (by unfold i32; omega)
  obtain ⟨p, hp⟩ : ∃ p, p = jup (jup u 167 S (u 167 S + 1)) 155 32 (if W 1 1 < S then S else W 1 1) := ⟨_, rfl⟩
  have pE : EX rMx u p := by
    rw [hp]
    exact ((EX.rf _ _).up (by unfold rMx; omega)).up (by unfold rMx; omega)
  have p167 : ∀ k, 0 ≤ k → k < 82 → p 167 k = vis need sg kp W xs 0 k := fun k k1 k2 => by
    rw [v0 k, hp, u_ne (by omega), jup_at]
    by_cases q : k = S
    · rw [if_pos ⟨rfl, q⟩, if_pos q, w1 S bS.1 (by omega)]
    · rw [if_neg (fun z => q z.2), if_neg q, w1 k k1 k2]
  have p32 : p 155 32 = vis need sg kp W xs 1 1 := by rw [vm, hp, u_eq ⟨rfl, rfl⟩]
  have p31 : p 155 31 = W 1 0 := by rw [hp, u_ne (by omega), u_ne (by omega), w2]
  have p165 : ∀ j, p 165 j = u 165 j := fun j => by rw [hp, u_ne (by omega), u_ne (by omega)]
  have p166 : ∀ j, p 166 j = u 166 j := fun j => by rw [hp, u_ne (by omega), u_ne (by omega)]
  have vb : -1 ≤ vis need sg kp W xs 1 1 ∧ vis need sg kp W xs 1 1 ≤ 81 := by rw [vm]; split <;> omega
  have hd : Md_mixes_b rec 155 n 0 S K need fg u = if w32 S < w32 need then some (0, p) else if w32 (p 155 31) < 0 then Md_mixes_69 rec jFU 155 0 (jup p 155 31 K) else if w32 K < w32 (p 155 31) then Md_mixes_69 rec jFU 155 0 (jup p 155 31 K) else some (0, p) := by
    have c1 : w32 (n : Int) = w32 (u 160 0) := by rw [h0]
    have c2 : ¬ (0 : Int) < w32 0 := by decide
    have c3 : 0 ≤ w32 S ∧ w32 S < 82 := by rw [w32_id (by omega) (by omega)]; omega
    have c4 : w32 S = S := w32_id (by omega) (by omega)
    rw [Md_mixes_b]
    show (if w32 (n : Int) = w32 (u 160 0) then _ else _) = _
    rw [if_pos c1, if_neg c2, if_pos ⟨c3, c3⟩, c4]
    show jm (jup (jup u 167 S (u 167 S + 1)) 155 32 (jmax (jup u 167 S (u 167 S + 1) 155 32) S)) _ = _
    rw [u_ne (by omega), w3, mm, ← hp]
    rfl
  rw [hd, p31, w32_id (by omega) (by omega), w32_id (x := need) (by omega) (by omega), w32_id (x := W 1 0) (by omega) (by omega), w32_id (x := K) (by omega) (by omega)]
  have hno : ¬ (¬ S < need ∧ (W 1 0 < 0 ∨ K < W 1 0)) → rW n p (vis need sg kp W xs) := fun q => by
    obtain ⟨z1, z2⟩ := z q
    exact ⟨p167, by rw [p31, z1], p32, fun j j1 j2 => by rw [p166, w4 j j1 j2, z2], by rw [z1]; exact w5, vb⟩
  by_cases q1 : S < need
  · rw [if_pos q1]
    exact ⟨p, rfl, hno (fun r => r.1 q1), pE, p165⟩
  · rw [if_neg q1]
    by_cases q2 : W 1 0 < 0 ∨ K < W 1 0
    · obtain ⟨y1, y2⟩ := y ⟨q1, q2⟩
      obtain ⟨t, t1, t2, t3⟩ := mx69 (rec := rec) 5 jFU 0 (jup p 155 31 K) (by omega) (bub_ge (by omega))
      have tE : ∀ a b, a ≠ 166 → t a b = jup p 155 31 K a b := fun a b q => t3 a b (by unfold r166; omega)
      refine ⟨t, ?_, ⟨fun k k1 k2 => by rw [tE _ _ (by omega), u_ne (by omega)]; exact p167 k k1 k2, by rw [tE _ _ (by omega), u_eq ⟨rfl, rfl⟩, y1], by rw [tE _ _ (by omega), u_ne (by omega)]; exact p32, fun j j1 j2 => by rw [t2 j (by omega) (by omega), u_ne (by omega), p165, hx j j1 (by omega), y2], by rw [y1]; exact Or.inr bK, vb⟩, (pE.tr ((EX.rf _ _).up (by unfold rMx; omega))).tr (t3.wk (fun a b q => Or.inr (Or.inl q.1))), fun j => by rw [tE _ _ (by omega), u_ne (by omega), p165]⟩
      by_cases q3 : W 1 0 < 0
      · rw [if_pos q3]; exact t1
      · rw [if_neg q3, if_pos (by omega)]; exact t1
    · rw [if_neg (by omega), if_neg (by omega)]
      exact ⟨p, rfl, hno (fun r => q2 r.2), pE, p165⟩
def bl (F : Int → List (List Int)) (R : Int) : Nat → List (List Int)
  | 0 => []
  | k + 1 => (F (R - k)).map (fun v => (k : Int) :: v) ++ bl F R k
theorem blk_bl {F : Int → List (List Int)} {R : Int} : ∀ m : Nat, blk F R m = bl F R (m + 1) := by
  intro m
  induction m with
  | zero =>
    rw [blk, bl, bl, List.append_nil, show R - ((0 : Nat) : Int) = R by omega]
    rfl
  | succ m ih =>
    have e : bl F R (m + 1 + 1) = (F (R - ((m + 1 : Nat) : Int))).map (fun v => ((m + 1 : Nat) : Int) :: v) ++ bl F R (m + 1) := rfl
    have e2 : ((m + 1 : Nat) : Int) = (m : Int) + 1 := by omega
    rw [e2] at e
    rw [blk, ih, e]
theorem sm_snoc {g : Int → Int} {x : Int} : ∀ (p : List Int) (j : Int), sm g (p ++ [x]) j = sm g p j + x * g (j + p.length) := by
  intro p
  induction p with
  | nil =>
    intro j
    show x * g j + 0 = 0 + x * g (j + ((0 : Nat) : Int))
    rw [show j + ((0 : Nat) : Int) = j by omega]
    omega
  | cons a p ih =>
    intro j
    show a * g j + sm g (p ++ [x]) (j + 1) = a * g j + sm g p (j + 1) + x * g (j + ((p.length + 1 : Nat) : Int))
    rw [ih, show j + 1 + (p.length : Int) = j + ((p.length + 1 : Nat) : Int) by omega]
    omega
theorem fsum_snoc {x : Int} : ∀ (p : List Int), fsum (p ++ [x]) = fsum p + x := by
  intro p
  induction p with
  | nil => show x + 0 = 0 + x; omega
  | cons a p ih =>
    show a + fsum (p ++ [x]) = a + fsum p + x
    rw [ih]
    omega
def rB (n : Nat) (sg kp am : Int → Int) (u : jM) : Prop := u 160 0 = n ∧ ∀ j, 0 ≤ j → j < (n : Int) → u 160 (9 + j) = sg j ∧ u 160 (14 + j) = kp j ∧ u 160 (19 + j) = am j
theorem rB_ex {n : Nat} {sg kp am : Int → Int} {u t : jM} (h : rB n sg kp am u) (e : EX rMx u t) : rB n sg kp am t := by
  have e' : ∀ o, t 160 o = u 160 o := fun o => e _ _ (by unfold rMx; omega)
  unfold rB
  simp only [e']
  exact h
theorem rW_165 {n : Nat} {u W : jM} {j v : Int} (h : rW n u W) : rW n (jup u 165 j v) W := by
  obtain ⟨w1, w2, w3, w4, w5⟩ := h
  exact ⟨fun k k1 k2 => by rw [u_ne (by omega)]; exact w1 k k1 k2, by rw [u_ne (by omega)]; exact w2, by rw [u_ne (by omega)]; exact w3, fun k k1 k2 => by rw [u_ne (by omega)]; exact w4 k k1 k2, w5⟩
theorem mx120 {rec : Int → Int → Int → Int → Int → Int → Int → jM → Option (Int × jM)} {n : Nat} (hn : n ≤ 5) {need fg R S K : Int} {sg kp am : Int → Int} {j : Nat} (hj : j < n) (hR : 0 ≤ R ∧ R ≤ 9) {q : Int → Int} {F : Int → List (List Int)} {A : Int → jM → List Int → jM}
    (hrec : ∀ (x : Nat) (u W : jM), (x : Int) ≤ R → u 165 j = x → (∀ i, 0 ≤ i → i < 5 → i ≠ (j : Int) → u 165 i = q i) → rB n sg kp am u → rW n u W → ∃ t, rec 155 ((j : Int) + 1) (R - x) (S + x * sg j) (K + x * kp j) need fg u = some (0, t) ∧ rW n t ((F (R - x)).foldl (fun W v => A x W v) W) ∧ EX rMx u t ∧ ∀ i, t 165 i = u 165 i) : ∀ (k f : Nat) (u W : jM), (k : Int) ≤ R + 1 → k < f → (∀ i, 0 ≤ i → i < 5 → i ≠ (j : Int) → u 165 i = q i) → rB n sg kp am u → rW n u W → (∀ x v W', A x W' v = A x W' v) → ∃ t, Md_mixes_120 rec f 155 j R S K need fg ((k : Int) - 1) u = some (0, t) ∧ rW n t ((bl F R k).foldl (fun W v => A (v.headD 0) W v.tail) W) ∧ EX rMx u t ∧ (∀ i, i ≠ (j : Int) → t 165 i = u 165 i) ∧ t 165 j = 0 := by
  intro k
  induction k with
  | zero =>
    intro f u W h1 h2 h3 h4 h5 _
    obtain ⟨f, rfl⟩ : ∃ g, f = g + 1 := ⟨f - 1, by omega⟩
    have c1 : w32 (((0 : Nat) : Int) - 1) < 0 := by decide
    have c2 : (0 : Int) ≤ j ∧ (j : Int) < 5 := by omega
    have c4 : j < 1000 := by omega
    refine ⟨jup u 165 j 0, ?_, rW_165 h5, (EX.rf _ _).up (Or.inl rfl), fun i hi => u_ne (by omega), u_eq ⟨rfl, rfl⟩⟩
    rw [Md_mixes_120, if_pos c1, w32n c4, if_pos c2]
    rfl
  | succ k ih =>
    intro f u W h1 h2 h3 h4 h5 h6
    obtain ⟨f, rfl⟩ : ∃ g, f = g + 1 := ⟨f - 1, by omega⟩
    have c0 : ((k + 1 : Nat) : Int) - 1 = (k : Int) := by omega
    have c1 : ¬ (k : Int) < 0 := by omega
    have c2 : (0 : Int) ≤ j ∧ (j : Int) < 5 := by omega
    have c4 : j < 1000 := by omega
    have c5 : k < 1000 := by omega
    have c6 : (0 : Int) ≤ 9 + j ∧ 9 + (j : Int) < 1905 := by omega
    have c7 : (0 : Int) ≤ 14 + j ∧ 14 + (j : Int) < 1905 := by omega
    have c8 : (0 : Int) ≤ 9 + j ∧ 9 + (j : Int) < 2000 := by omega
    have c9 : (0 : Int) ≤ 14 + j ∧ 14 + (j : Int) < 2000 := by omega
    have b := h4.2 j c2.1 (by omega)
    have e1 : EX rMx u (jup u 165 j k) := (EX.rf _ _).up (Or.inl rfl)
    obtain ⟨t, t1, t2, t3, t4⟩ := hrec k (jup u 165 j k) W (by omega) (u_eq ⟨rfl, rfl⟩) (fun i i1 i2 i3 => by rw [u_ne (by omega)]; exact h3 i i1 i2 i3) (rB_ex h4 e1) (rW_165 h5)
    obtain ⟨v, v1, v2, v3, v4, v5⟩ := ih f t _ (by omega) (by omega) (fun i i1 i2 i3 => by rw [t4, u_ne (by omega)]; exact h3 i i1 i2 i3) (rB_ex (rB_ex h4 e1) t3) t2 h6
    refine ⟨v, ?_, ?_, (e1.tr t3).tr v3, fun i hi => by rw [v4 i hi, t4, u_ne (by omega)], v5⟩
    · rw [c0, Md_mixes_120, w32n c5, if_neg c1, w32n c4, w32a c8, w32a c9, if_pos ⟨c2, c6, c7⟩]
      show jb (rec 155 ((j : Int) + 1) (R - k) (S + k * jup u 165 j k 160 (9 + j)) (K + k * jup u 165 j k 160 (14 + j)) need fg (jup u 165 j k)) _ = _
      rw [u_ne (by omega), u_ne (by omega), b.1, b.2.1, t1, jb_t]
      exact v1
    · rw [bl, List.foldl_append, List.foldl_map]
      exact v2
theorem getD_out : ∀ (p : List Int) (i : Nat), p.length ≤ i → p.getD i 0 = 0 := by
  intro p
  induction p with
  | nil => intro i _; rfl
  | cons a p ih =>
    intro i h
    cases i with
    | zero => exact absurd h (by rw [List.length_cons]; omega)
    | succ i => exact ih i (by rw [List.length_cons] at h; omega)
theorem getD_sn {x : Int} : ∀ (p : List Int) (i : Nat), (p ++ [x]).getD i 0 = if i = p.length then x else p.getD i 0 := by
  intro p
  induction p with
  | nil =>
    intro i
    cases i with
    | zero => rfl
    | succ i => rfl
  | cons a p ih =>
    intro i
    cases i with
    | zero => rfl
    | succ i =>
      have := ih i
      show (p ++ [x]).getD i 0 = if i + 1 = p.length + 1 then x else p.getD i 0
      rw [this]
      by_cases q : i = p.length
      · rw [if_pos q, if_pos (by omega)]
      · rw [if_neg q, if_neg (by omega)]
theorem getD_snoc {p : List Int} {x : Int} {i : Int} (h : 0 ≤ i) : (p ++ [x]).getD i.toNat 0 = if i = (p.length : Int) then x else p.getD i.toNat 0 := by
  rw [getD_sn]
  by_cases q : i = (p.length : Int)
  · rw [if_pos q, if_pos (by omega)]
  · rw [if_neg q, if_neg (by omega)]
theorem mixes_eq {n : Nat} (hn : n ≤ 5) {need fg C : Int} (hne : 0 ≤ need ∧ need ≤ 81) (hC : 0 ≤ C ∧ C ≤ 9) (hfg : fg = 0 ∨ fg = 1) {sg kp am : Int → Int} (hsg : ∀ j, 0 ≤ j → j < (n : Int) → 0 ≤ sg j ∧ sg j ≤ 9) (hkp : ∀ j, 0 ≤ j → j < (n : Int) → 0 ≤ kp j ∧ kp j ≤ 99) (ham : ∀ j, 0 ≤ j → j < (n : Int) → 0 ≤ am j ∧ am j ≤ 999) : ∀ (m j f : Nat) (p : List Int) (R : Int) (u W : jM), j + m = n → p.length = j → m < f → (∀ i, 0 ≤ i → i < 5 → u 165 i = p.getD i.toNat 0) → (∀ y, y ∈ p → 0 ≤ y) → 0 ≤ R → fsum p + R = C → rB n sg kp am u → rW n u W → ∃ t, Md_mixes f 155 j R (sm sg p 0) (sm kp p 0) need fg u = some (0, t) ∧ rW n t ((fl (cpl (cap fg C am) m j) R).foldl (fun W v => vis need sg kp W (p ++ v)) W) ∧ EX rMx u t ∧ ∀ i, t 165 i = u 165 i := by
  intro m
  induction m with
  | zero =>
    intro j f p R u W h1 h2 h3 h4 h5 h6 h7 h8 h9
    obtain ⟨f, rfl⟩ : ∃ g, f = g + 1 := ⟨f - 1, by omega⟩
    have e : j = n := by omega
    subst e
    have np := fsum_nn h5
    have bS := sm_b (g := sg) (M := 9) p 0 h5 (fun i i1 i2 => hsg i i1 (by omega))
    have bK := sm_b (g := kp) (M := 99) p 0 h5 (fun i i1 i2 => hkp i i1 (by omega))
    rw [Md_mixes, cpl, fl]
    by_cases q : R = 0
    · subst q
      rw [if_pos rfl]
      show ∃ t : jM, _ ∧ rW j t (vis need sg kp W (p ++ [])) ∧ _
      rw [List.append_nil]
      exact mx_leaf hn hne h8.1 h9 rfl rfl (by omega) (by omega) h4
    · rw [if_neg q]
      have c1 : w32 (j : Int) = w32 (u 160 0) := by rw [h8.1]
      have c2 : 0 < w32 R := by rw [w32_id (by omega) (by omega)]; omega
      refine ⟨u, ?_, h9, EX.rf _ _, fun _ => rfl⟩
      rw [Md_mixes_b]
      show (if w32 (j : Int) = w32 (u 160 0) then _ else _) = _
      rw [if_pos c1, if_pos c2]
  | succ m ih =>
    intro j f p R u W h1 h2 h3 h4 h5 h6 h7 h8 h9
    obtain ⟨f, rfl⟩ : ∃ g, f = g + 1 := ⟨f - 1, by omega⟩
    have np := fsum_nn h5
    have hjn : j < n := by omega
    have aj := ham j (by omega) (by omega)
    have hj0 : u 165 j = 0 := by
      rw [h4 j (by omega) (by omega), Int.toNat_natCast, getD_out _ _ (by omega)]
    obtain ⟨M, hM⟩ : ∃ M : Nat, M = (if cap fg C am j < R then cap fg C am j else R).toNat := ⟨_, rfl⟩
    have hMr : (M : Int) = (if fg = 0 then R else if am j < R then am j else R) ∧ (M : Int) ≤ R := by
      rw [hM]
      unfold cap
      have fz : ¬ (1 : Int) = 0 := by omega
      have cz : ¬ C < R := by omega
      rcases hfg with q | q
      · subst q
        rw [if_pos rfl, if_pos rfl, if_neg cz]
        omega
      · subst q
        rw [if_neg fz, if_neg fz]
        by_cases z : am j < R
        · rw [if_pos (show am (j : Int) < C by omega), if_pos z]
          omega
        · rw [if_neg z]
          by_cases y : am (j : Int) < C
          · rw [if_pos y, if_neg z]
            omega
          · rw [if_neg y, if_neg cz]
            omega
    obtain ⟨t, t1, t2, t3, t4, t5⟩ := mx120 (rec := Md_mixes f) (need := need) (fg := fg) (S := sm sg p 0) (K := sm kp p 0) (sg := sg) (kp := kp) (am := am) hn hjn (R := R) (by omega) (q := fun i => p.getD i.toNat 0) (F := fl (cpl (cap fg C am) m ((j : Int) + 1))) (A := fun x W v => vis need sg kp W (p ++ x :: v)) (fun x u W x1 x2 x3 x4 x5 => by
      have r := ih (j + 1) f (p ++ [(x : Int)]) (R - x) u W (by omega) (by rw [List.length_append, List.length_singleton, h2]) (by omega) (fun i i1 i2 => by
        rw [getD_snoc i1, h2]
        by_cases z : i = (j : Int)
        · rw [if_pos z, z]; exact x2
        · rw [if_neg z]; exact x3 i i1 i2 z) (fun y hy => by
        rcases List.mem_append.1 hy with z | z
        · exact h5 y z
        · rw [List.mem_singleton.1 z]; omega) (by omega) (by rw [fsum_snoc]; omega) x4 x5
      rw [sm_snoc, sm_snoc, h2, Int.zero_add, show ((j + 1 : Nat) : Int) = (j : Int) + 1 by omega] at r
      have e : (fun (W : jM) (v : List Int) => vis need sg kp W (p ++ [(x : Int)] ++ v)) = fun W v => vis need sg kp W (p ++ (x : Int) :: v) := by
        funext W v
        rw [List.append_assoc]
        rfl
      rw [e] at r
      exact r) (M + 1) jFU u W (by omega) (bub_ge (by omega)) (fun i i1 i2 _ => h4 i i1 i2) h8 h9 (fun _ _ _ => rfl)
    have hz : ∀ (k : Nat) (W : jM), (bl (fl (cpl (cap fg C am) m ((j : Int) + 1))) R k).foldl (fun W v => vis need sg kp W (p ++ v.headD 0 :: v.tail)) W = (bl (fl (cpl (cap fg C am) m ((j : Int) + 1))) R k).foldl (fun W v => vis need sg kp W (p ++ v)) W := by
      intro k
      induction k with
      | zero => intro W; rfl
      | succ k ihk =>
        intro W
        rw [bl, List.foldl_append, List.foldl_append, List.foldl_map, List.foldl_map, ihk]
        rfl
    have t2' := t2
    rw [hz (M + 1) W] at t2'
    refine ⟨t, ?_, ?_, t3, fun i => ?_⟩
    · have c1 : ¬ w32 (j : Int) = w32 (u 160 0) := by
        rw [h8.1, w32n (show j < 1000 by omega), w32n (show n < 1000 by omega)]
        omega
      have e1 : ((M + 1 : Nat) : Int) - 1 = (M : Int) := by omega
      rw [e1] at t1
      rw [Md_mixes, Md_mixes_b]
      show (if w32 (j : Int) = w32 (u 160 0) then _ else _) = _
      rw [if_neg c1]
      rcases hfg with q | q
      · rw [q, if_pos rfl] at hMr
        rw [hMr.1] at t1
        rw [if_pos (by rw [q]; decide)]
        exact t1
      · rw [q, if_neg (by decide)] at hMr
        have c2 : ¬ w32 fg = 0 := by rw [q]; decide
        have c3 : (0 : Int) ≤ 19 + j ∧ 19 + (j : Int) < 1905 := by omega
        have c4 : (0 : Int) ≤ 19 + j ∧ 19 + (j : Int) < 2000 := by omega
        have c5 : jmin R (u 160 (19 + (j : Int))) = M := by
          rw [(h8.2 j (by omega) (by omega)).2.2, jmin_e (by unfold i32; omega) (by unfold i32; omega), hMr.1]
        rw [if_neg c2, w32a c4, if_pos c3]
        show Md_mixes_120 (Md_mixes f) jFU 155 j R _ _ need fg (jmin R (u 160 (19 + (j : Int)))) u = _
        rw [c5]
        exact t1
    · rw [cpl, fl, ← hM, blk_bl]
      exact t2'
    · by_cases z : i = (j : Int)
      · rw [z, t5, hj0]
      · exact t4 i z
