/-! FITS, FITS BY, ASK -/
def kb (T : Int) (N : Int → Int) : Nat → Int → Int → Bool
  | 0, _, _ => true
  | d + 1, j, x => decide (lst x T (N (2 * j)) = N (2 * j + 1)) && kb T N d (j + 1) x
theorem kb_y {T j x : Int} {N : Int → Int} {d : Nat} (h : lst x T (N (2 * j)) = N (2 * j + 1)) : kb T N (d + 1) j x = kb T N d (j + 1) x := by
  rw [kb, decide_eq_true h, Bool.true_and]
theorem kb_n {T j x : Int} {N : Int → Int} {d : Nat} (h : ¬ lst x T (N (2 * j)) = N (2 * j + 1)) : kb T N (d + 1) j x = false := by
  rw [kb, decide_eq_false h, Bool.false_and]
def r20 (a _b : Int) : Prop := a = 20
theorem kl_eq {T h l : Int} (hT : 0 ≤ T ∧ T ≤ 100) (hh : 1 ≤ h ∧ h ≤ 9) (hl : 0 ≤ l ∧ l ≤ 99) : ∀ (d f k : Nat) (s : jM), k + d = 82 → d < f → ∃ t, Fi_keepLasting_3 f 16 T h l k s = some (0, t) ∧ (∀ x, 0 ≤ x → x < 82 → t 20 x = if (k : Int) ≤ x ∧ ¬ lst x T h = l then 0 else s 20 x) ∧ EX r20 s t := by
  intro d
  induction d with
  | zero =>
    intro f k s h1 h2
    obtain ⟨f, rfl⟩ : ∃ g, f = g + 1 := ⟨f - 1, by omega⟩
    have e : k = 82 := by omega
    subst e
    exact ⟨s, by rw [Fi_keepLasting_3, if_pos (by decide)], fun x x1 x2 => by rw [if_neg (fun z => by have := z.1; omega)], EX.rf _ _⟩
  | succ d ih =>
    intro f k s h1 h2
    obtain ⟨f, rfl⟩ : ∃ g, f = g + 1 := ⟨f - 1, by omega⟩
    have c1 : ¬ 81 < (k : Int) := by omega
    have c2 : (0 : Int) ≤ k ∧ (k : Int) < 82 := by omega
    have c3 : ((k + 1 : Nat) : Int) = (k : Int) + 1 := by omega
    have c4 : k < 1000 := by omega
    have lb := lst_b (f := (k : Int)) (h := T) (n := h) c2.1 hT.1 (by omega)
    have lw : w32 (lst (k : Int) T h) = lst (k : Int) T h := w32_id (by omega) (by omega)
    have ll : w32 l = l := w32_id (by omega) (by omega)
    have hd : Fi_keepLasting_3 (f + 1) 16 T h l k s = if lst (k : Int) T h = l then Fi_keepLasting_3 f 16 T h l ((k : Int) + 1) s else Fi_keepLasting_3 f 16 T h l ((k : Int) + 1) (jup s 20 k 0) := by
      rw [Fi_keepLasting_3, w32n c4, if_neg c1, Jc_lasting_eq (by omega) hT (by omega), jb_t, lw, ll, if_pos c2]
      rfl
    rw [hd]
    by_cases q : lst (k : Int) T h = l
    · obtain ⟨t, t1, t2, t3⟩ := ih f (k + 1) s (by omega) (by omega)
      rw [c3] at t1 t2
      refine ⟨t, by rw [if_pos q]; exact t1, fun x x1 x2 => ?_, t3⟩
      rw [t2 x x1 x2]
      by_cases z : x = k
      · rw [if_neg (fun y => by have := y.1; omega), if_neg (fun y => y.2 (by rw [z]; exact q))]
      · by_cases y : (k : Int) ≤ x ∧ ¬ lst x T h = l
        · rw [if_pos y, if_pos ⟨by have := y.1; omega, y.2⟩]
        · rw [if_neg y, if_neg (fun w => y ⟨by have := w.1; omega, w.2⟩)]
    · obtain ⟨t, t1, t2, t3⟩ := ih f (k + 1) (jup s 20 k 0) (by omega) (by omega)
      rw [c3] at t1 t2
      refine ⟨t, by rw [if_neg q]; exact t1, fun x x1 x2 => ?_, EX.tr ((EX.rf _ _).up rfl) t3⟩
      rw [t2 x x1 x2]
      by_cases z : x = k
      · rw [if_neg (fun y => by have := y.1; omega), if_pos ⟨by omega, by rw [z]; exact q⟩, u_eq ⟨rfl, z⟩]
      · rw [u_ne (by omega)]
        by_cases y : (k : Int) ≤ x ∧ ¬ lst x T h = l
        · rw [if_pos y, if_pos ⟨by have := y.1; omega, y.2⟩]
        · rw [if_neg y, if_neg (fun w => y ⟨by have := w.1; omega, w.2⟩)]
theorem kf_eq {T tt c : Int} (hT : 0 ≤ T ∧ T ≤ 100) (ht : 0 ≤ tt ∧ tt < 4) (hc : 30 ≤ c) {k : Nat} (hk : k ≤ 20) {N : Int → Int} (hN : ∀ i, 0 ≤ i → i < (k : Int) → 1 ≤ N (2 * i) ∧ N (2 * i) ≤ 9 ∧ 0 ≤ N (2 * i + 1) ∧ N (2 * i + 1) ≤ 99) : ∀ (d f j : Nat) (s : jM), j + d = k → d < f → s c 0 = T → (∀ i, 0 ≤ i → i < 2 * (k : Int) → s (3 + 2 * tt) i = N i) → ∃ t, Jc_keepFits_31 f 0 tt k c j s = some (0, t) ∧ (∀ x, 0 ≤ x → x < 82 → t 20 x = if kb T N d j x = true then s 20 x else 0) ∧ EX r20 s t := by
  intro d
  induction d with
  | zero =>
    intro f j s h1 h2 h3 h4
    obtain ⟨f, rfl⟩ : ∃ g, f = g + 1 := ⟨f - 1, by omega⟩
    have e : j = k := by omega
    have j4 : j < 1000 := by omega
    have k4 : k < 1000 := by omega
    exact ⟨s, by rw [Jc_keepFits_31, w32n j4, w32n k4, if_neg (by omega)], fun x x1 x2 => (if_pos rfl).symm, EX.rf _ _⟩
  | succ d ih =>
    intro f j s h1 h2 h3 h4
    obtain ⟨f, rfl⟩ : ∃ g, f = g + 1 := ⟨f - 1, by omega⟩
    have c3 : ((j + 1 : Nat) : Int) = (j : Int) + 1 := by omega
    have j4 : j < 1000 := by omega
    have k4 : k < 1000 := by omega
    have jk : (j : Int) < k := by omega
    have n := hN j (by omega) jk
    have a1 : s (3 + 2 * tt) (2 * j) = N (2 * j) := h4 _ (by omega) (by omega)
    have a2 : s (3 + 2 * tt) (2 * j + 1) = N (2 * j + 1) := h4 _ (by omega) (by omega)
    obtain ⟨u, u1, u2, u3⟩ := kl_eq hT (h := N (2 * j)) (l := N (2 * j + 1)) ⟨n.1, n.2.1⟩ n.2.2 82 jFU 0 s (by omega) (bub_ge (by omega))
    have ue : ∀ a b, a ≠ 20 → u a b = s a b := fun a b q => u3 a b q
    obtain ⟨t, t1, t2, t3⟩ := ih f (j + 1) u (by omega) (by omega) (by rw [ue _ _ (by omega)]; exact h3) (fun i i1 i2 => by rw [ue _ _ (by omega)]; exact h4 i i1 i2)
    rw [c3] at t1 t2
    have b1 : w32 (2 * (j : Int)) = 2 * j := w32_id (by omega) (by omega)
    have b2 : w32 (2 * (j : Int) + 1) = 2 * j + 1 := w32_id (by omega) (by omega)
    have b3 : w32 tt = tt := w32_id (by omega) (by omega)
    have b4 : (0 ≤ tt ∧ tt < 4) ∧ ((0 : Int) ≤ 2 * j ∧ 2 * (j : Int) < 60) ∧ (0 ≤ tt ∧ tt < 4) ∧ ((0 : Int) ≤ 2 * j + 1 ∧ 2 * (j : Int) + 1 < 60) := by omega
    have b5 : (0 : Int) + 1 + 1 + 2 * tt + 1 = 3 + 2 * tt := by omega
    refine ⟨t, ?_, fun x x1 x2 => ?_, u3.tr t3⟩
    · rw [Jc_keepFits_31, w32n j4, w32n k4, if_pos jk, b1, b2, b3, if_pos b4, b5, h3, a1, a2, Fi_keepLasting]
      show jb (Fi_keepLasting_3 jFU 16 T (N (2 * j)) (N (2 * j + 1)) ((0 : Nat) : Int) s) _ = _
      rw [u1, jb_t]
      exact t1
    · rw [t2 x x1 x2, u2 x x1 x2]
      by_cases q : lst x T (N (2 * j)) = N (2 * j + 1)
      · rw [kb_y q, if_neg (c := ((0 : Nat) : Int) ≤ x ∧ ¬ lst x T (N (2 * (j : Int))) = N (2 * (j : Int) + 1)) (fun z => z.2 q)]
      · rw [kb_n q, if_pos (c := ((0 : Nat) : Int) ≤ x ∧ ¬ lst x T (N (2 * (j : Int))) = N (2 * (j : Int) + 1)) ⟨by omega, q⟩, if_neg (c := false = true) (by decide)]
        split <;> rfl
/-! the reference -/
theorem numOf_eq {tt i : Int} {u : jM} (ht : 0 ≤ tt ∧ tt < 4) (hi : 0 ≤ i ∧ i < 60) : Md_numberOf 155 tt i u = some (u 158 (60 * tt + i), u) := by
  have e : w32 (60 * tt + i) = 60 * tt + i := w32_id (by omega) (by omega)
  rw [Md_numberOf, e, if_pos (by omega)]
  rfl
theorem lf23 {k13 : Int → Int → Int → Int → Int → Int → jM → Option (Int × jM)} {T tt m acc : Int} (hT : 0 ≤ T ∧ T ≤ 100) (ht : 0 ≤ tt ∧ tt < 4) (hm : 0 ≤ m ∧ m < 5) {k x : Nat} (hk : k ≤ 20) (hx : x < 82) {N : Int → Int} (hN : ∀ i, 0 ≤ i → i < (k : Int) → 1 ≤ N (2 * i) ∧ N (2 * i) ≤ 9 ∧ 0 ≤ N (2 * i + 1) ∧ N (2 * i + 1) ≤ 99) : ∀ (d f j : Nat) (u : jM), j + d = k → d < f → u 160 (54 + m) = T → (∀ i, 0 ≤ i → i < 60 → u 158 (60 * tt + i) = N i) → ∃ t, Md_laysFits_23 k13 f 155 m tt k acc x j u = k13 155 m tt k (acc + t 167 x) ((x : Int) + 1) t ∧ (t 167 x = if kb T N d j x = true then u 167 x else 0) ∧ ∀ a b, ¬ (a = 167 ∧ b = (x : Int)) → t a b = u a b := by
  intro d
  have x4 : x < 1000 := by omega
  have x5 : (0 : Int) ≤ x ∧ (x : Int) < 82 := by omega
  induction d with
  | zero =>
    intro f j u h1 h2 h3 h4
    obtain ⟨f, rfl⟩ : ∃ g, f = g + 1 := ⟨f - 1, by omega⟩
    have j4 : j < 1000 := by omega
    have k4 : k < 1000 := by omega
    refine ⟨u, ?_, by rw [kb, if_pos rfl], fun a b _ => rfl⟩
    rw [Md_laysFits_23, w32n j4, w32n k4, if_neg (by omega), w32n x4, if_pos x5]
    rfl
  | succ d ih =>
    intro f j u h1 h2 h3 h4
    obtain ⟨f, rfl⟩ : ∃ g, f = g + 1 := ⟨f - 1, by omega⟩
    have c3 : ((j + 1 : Nat) : Int) = (j : Int) + 1 := by omega
    have j4 : j < 1000 := by omega
    have k4 : k < 1000 := by omega
    have jk : (j : Int) < k := by omega
    have n := hN j (by omega) jk
    have a1 : u 158 (60 * tt + 2 * j) = N (2 * j) := h4 _ (by omega) (by omega)
    have a2 : u 158 (60 * tt + (2 * j + 1)) = N (2 * j + 1) := h4 _ (by omega) (by omega)
    have b1 : w32 (54 + m) = 54 + m := w32_id (by omega) (by omega)
    have lb := lst_b (f := (x : Int)) (h := T) (n := N (2 * j)) x5.1 hT.1 (by omega)
    have lw : w32 (lst2 (x : Int) T (N (2 * j))) = lst (x : Int) T (N (2 * j)) := by rw [w32_id (by omega) (by omega)]; omega
    have lc : (w32 (jlcmp (lst (x : Int) T (N (2 * j))) (N (2 * j + 1))) = 0) = (lst (x : Int) T (N (2 * j)) = N (2 * j + 1)) := by
      rw [lcmp_eq, w64_id (by omega) (by omega), w64_id (by omega) (by omega)]
    have hd : Md_laysFits_23 k13 (f + 1) 155 m tt k acc x j u = if lst (x : Int) T (N (2 * j)) = N (2 * j + 1) then Md_laysFits_23 k13 f 155 m tt k acc x ((j : Int) + 1) u else Md_laysFits_23 k13 f 155 m tt k acc x ((j : Int) + 1) (jup u 167 x 0) := by
      rw [Md_laysFits_23, w32n j4, w32n k4, if_pos jk, b1, if_pos (by omega), numOf_eq ht (by omega), jb_t, a1]
      show jb (Md_lastsOf x (u 160 (54 + m)) (N (2 * j)) u) _ = _
      rw [h3, Md_lastsOf_eq (by omega) hT (by omega), jb_t, numOf_eq ht (by omega), jb_t, a2, lw, w32n x4, if_pos x5]
      simp only [lc]
      rfl
    rw [hd]
    by_cases q : lst (x : Int) T (N (2 * j)) = N (2 * j + 1)
    · obtain ⟨t, t1, t2, t3⟩ := ih f (j + 1) u (by omega) (by omega) h3 h4
      rw [c3] at t1 t2
      exact ⟨t, by rw [if_pos q]; exact t1, by rw [kb_y q]; exact t2, t3⟩
    · obtain ⟨t, t1, t2, t3⟩ := ih f (j + 1) (jup u 167 x 0) (by omega) (by omega) (by rw [u_ne (by omega)]; exact h3) (fun i i1 i2 => by rw [u_ne (by omega)]; exact h4 i i1 i2)
      rw [c3] at t1 t2
      refine ⟨t, by rw [if_neg q]; exact t1, ?_, fun a b z => by rw [t3 a b z, u_ne z]⟩
      rw [t2, kb_n q, if_neg (c := false = true) (by decide), u_eq ⟨rfl, rfl⟩]
      split <;> rfl
def gG (T : Int) (N : Int → Int) (k : Nat) (W : jM) : Int → Int := fun x => if kb T N k 0 x = true then W 0 x else 0
theorem lf13 {T tt m : Int} (hT : 0 ≤ T ∧ T ≤ 100) (ht : 0 ≤ tt ∧ tt < 4) (hm : 0 ≤ m ∧ m < 5) {k : Nat} (hk : k ≤ 20) {N : Int → Int} {W : jM} (hN : ∀ i, 0 ≤ i → i < (k : Int) → 1 ≤ N (2 * i) ∧ N (2 * i) ≤ 9 ∧ 0 ≤ N (2 * i + 1) ∧ N (2 * i + 1) ≤ 99) : ∀ (d f x : Nat) (u : jM), x + d = 82 → d < f → u 160 (54 + m) = T → (∀ i, 0 ≤ i → i < 60 → u 158 (60 * tt + i) = N i) → (∀ i, 0 ≤ i → i < (x : Int) → u 167 i = gG T N k W i) → (∀ i, (x : Int) ≤ i → i < 82 → u 167 i = W 0 i) → ∃ t, Md_laysFits_13 f 155 m tt k (psum (gG T N k W) x) x u = some (psum (gG T N k W) 82, t) ∧ (∀ i, 0 ≤ i → i < 82 → t 167 i = gG T N k W i) ∧ EX r167 u t := by
  intro d
  induction d with
  | zero =>
    intro f x u h1 h2 h3 h4 h5 h6
    obtain ⟨f, rfl⟩ : ∃ g, f = g + 1 := ⟨f - 1, by omega⟩
    have e : x = 82 := by omega
    subst e
    exact ⟨u, by rw [Md_laysFits_13, if_neg (by decide)], h5, EX.rf _ _⟩
  | succ d ih =>
    intro f x u h1 h2 h3 h4 h5 h6
    obtain ⟨f, rfl⟩ : ∃ g, f = g + 1 := ⟨f - 1, by omega⟩
    have x4 : x < 1000 := by omega
    have x5 : (x : Int) < 82 := by omega
    have c3 : ((x + 1 : Nat) : Int) = (x : Int) + 1 := by omega
    obtain ⟨v, v1, v2, v3⟩ := lf23 (k13 := Md_laysFits_13 f) (acc := psum (gG T N k W) x) hT ht hm hk (x := x) (by omega) hN k jFU 0 u (by omega) (bub_ge (by omega)) h3 h4
    have v2' : v 167 x = gG T N k W x := by
      rw [v2, gG, h6 x (by omega) x5]
      rfl
    obtain ⟨t, t1, t2, t3⟩ := ih f (x + 1) v (by omega) (by omega) (by rw [v3 _ _ (by omega)]; exact h3) (fun i i1 i2 => by rw [v3 _ _ (by omega)]; exact h4 i i1 i2) (fun i i1 i2 => by
      by_cases z : i = x
      · rw [z]; exact v2'
      · rw [v3 _ _ (by omega)]; exact h5 i i1 (by omega)) (fun i i1 i2 => by rw [v3 _ _ (by omega)]; exact h6 i (by omega) i2)
    refine ⟨t, ?_, t2, EX.tr (fun a b q => v3 a b (fun z => q z.1)) t3⟩
    rw [Md_laysFits_13, w32n x4, if_pos x5]
    have v1' : Md_laysFits_23 (Md_laysFits_13 f) jFU 155 m tt k (psum (gG T N k W) x) x 0 u = _ := v1
    rw [v1', v2']
    have e : psum (gG T N k W) x + gG T N k W x = psum (gG T N k W) (x + 1) := rfl
    rw [e, ← c3]
    exact t1
theorem aw1 {G : Int → Int} {s : jM} (h : ∀ i, 0 ≤ i → i < 82 → s 20 i = G i) : ∀ (m k f : Nat), k + m = 82 → m < f → Fi_allWays_4 f 16 (psum G k) k s = some (psum G 82, s) := by
  intro m
  induction m with
  | zero =>
    intro k f h1 h2
    obtain ⟨f, rfl⟩ : ∃ g, f = g + 1 := ⟨f - 1, by omega⟩
    have e : k = 82 := by omega
    subst e
    rw [Fi_allWays_4, if_pos (by decide)]
  | succ m ih =>
    intro k f h1 h2
    obtain ⟨f, rfl⟩ : ∃ g, f = g + 1 := ⟨f - 1, by omega⟩
    have c1 : ¬ 81 < (k : Int) := by omega
    have c2 : (0 : Int) ≤ k ∧ (k : Int) < 82 := by omega
    have c3 : ((k + 1 : Nat) : Int) = (k : Int) + 1 := by omega
    have c4 : k < 1000 := by omega
    have r := ih (k + 1) f (by omega) (by omega)
    rw [c3] at r
    rw [Fi_allWays_4, w32n c4, if_neg c1, if_pos c2]
    show Fi_allWays_4 f 16 (psum G k + s 20 k) ((k : Int) + 1) s = _
    rw [h k c2.1 c2.2]
    exact r
/-! the pairs on the tray -/
theorem pr_eq {tt : Int} (ht : 0 ≤ tt ∧ tt < 4) {k : Nat} (hk : k ≤ 20) {N : Int → Int} (hN : ∀ i, 0 ≤ i → i < 2 * (k : Int) → i64 (N i)) {s u : jM} (hs : ∀ i, 0 ≤ i → i < 2 * (k : Int) → s (3 + 2 * tt) i = N i) (hu : ∀ i, 0 ≤ i → i < 60 → u 158 (60 * tt + i) = N i) : ∀ (d f f2 j : Nat), j + d = k → d < f → d < f2 → ∃ r, ((r = 0 ∧ ∀ i, (j : Int) ≤ i → i < (k : Int) → 1 ≤ N (2 * i) ∧ N (2 * i) ≤ 9 ∧ 0 ≤ N (2 * i + 1) ∧ N (2 * i + 1) ≤ 99) ∨ r = 5) ∧ Jc_fitsTrouble_68 f k (2 + 2 * tt) j s = some (r, s) ∧ Md_whyNoFits_67 f2 155 tt k j u = some (r, u) := by
  intro d
  induction d with
  | zero =>
    intro f f2 j h1 h2 h3
    obtain ⟨f, rfl⟩ : ∃ g, f = g + 1 := ⟨f - 1, by omega⟩
    obtain ⟨f2, rfl⟩ : ∃ g, f2 = g + 1 := ⟨f2 - 1, by omega⟩
    have j4 : j < 1000 := by omega
    have k4 : k < 1000 := by omega
    exact ⟨0, Or.inl ⟨rfl, fun i i1 i2 => by omega⟩, by rw [Jc_fitsTrouble_68, w32n j4, w32n k4, if_neg (by omega)], by rw [Md_whyNoFits_67, w32n j4, w32n k4, if_neg (by omega)]⟩
  | succ d ih =>
    intro f f2 j h1 h2 h3
    obtain ⟨f, rfl⟩ : ∃ g, f = g + 1 := ⟨f - 1, by omega⟩
    obtain ⟨f2, rfl⟩ : ∃ g, f2 = g + 1 := ⟨f2 - 1, by omega⟩
    have c3 : ((j + 1 : Nat) : Int) = (j : Int) + 1 := by omega
    have j4 : j < 1000 := by omega
    have k4 : k < 1000 := by omega
    have jk : (j : Int) < k := by omega
    have n1 := hN (2 * j) (by omega) (by omega)
    have n2 := hN (2 * j + 1) (by omega) (by omega)
    have a1 : s (3 + 2 * tt) (2 * j) = N (2 * j) := hs _ (by omega) (by omega)
    have a2 : s (3 + 2 * tt) (2 * j + 1) = N (2 * j + 1) := hs _ (by omega) (by omega)
    have a3 : u 158 (60 * tt + 2 * j) = N (2 * j) := hu _ (by omega) (by omega)
    have a4 : u 158 (60 * tt + (2 * j + 1)) = N (2 * j + 1) := hu _ (by omega) (by omega)
    have b1 : w32 (2 * (j : Int)) = 2 * j := w32_id (by omega) (by omega)
    have b2 : w32 (2 * (j : Int) + 1) = 2 * j + 1 := w32_id (by omega) (by omega)
    have b3 : ((0 : Int) ≤ 2 * j ∧ 2 * (j : Int) < 60) ∧ ((0 : Int) ≤ 2 * j + 1 ∧ 2 * (j : Int) + 1 < 60) := by omega
    have b5 : 2 + 2 * tt + 1 = 3 + 2 * tt := by omega
    obtain ⟨r, r1, r2, r3⟩ := ih f f2 (j + 1) (by omega) (by omega) (by omega)
    rw [c3] at r1 r2 r3
    have hc : Jc_fitsTrouble_68 (f + 1) k (2 + 2 * tt) j s = if N (2 * j) < 1 then some (5, s) else if 9 < N (2 * j) then some (5, s) else if N (2 * j + 1) < 0 then some (5, s) else if 99 < N (2 * j + 1) then some (5, s) else some (r, s) := by
      rw [Jc_fitsTrouble_68, w32n j4, w32n k4, if_pos jk, b1, b2, if_pos b3, b5, a1, a2, r2]
      have w1 : w64 (N (2 * j)) = N (2 * j) := w64_id n1.1 n1.2
      have w2 : w64 (N (2 * j + 1)) = N (2 * j + 1) := w64_id n2.1 n2.2
      have w3 : w64 1 = 1 := by decide
      have w4 : w64 9 = 9 := by decide
      have w5 : w64 0 = 0 := by decide
      have w6 : w64 99 = 99 := by decide
      simp only [lcmp_lt, lcmp_gt, w1, w2, w3, w4, w5, w6]
    have hm : Md_whyNoFits_67 (f2 + 1) 155 tt k j u = if 1 ≤ N (2 * j) ∧ N (2 * j) ≤ 9 then (if 0 ≤ N (2 * j + 1) ∧ N (2 * j + 1) ≤ 99 then some (r, u) else some (5, u)) else some (5, u) := by
      rw [Md_whyNoFits_67, w32n j4, w32n k4, if_pos jk, numOf_eq ht (by omega), jb_t, a3, Md_isIn_eq n1 (by unfold i64; omega) (by unfold i64; omega), jb_t, numOf_eq ht (by omega), jb_t, a4, Md_isIn_eq n2 (by unfold i64; omega) (by unfold i64; omega), jb_t, r3]
      by_cases q : 1 ≤ N (2 * j) ∧ N (2 * j) ≤ 9
      · rw [if_pos q, if_pos q, if_neg (by decide)]
        by_cases z : 0 ≤ N (2 * j + 1) ∧ N (2 * j + 1) ≤ 99
        · rw [if_pos z, if_pos z, if_neg (by decide)]
        · rw [if_neg z, if_neg z, if_pos (by decide)]
      · rw [if_neg q, if_neg q, if_pos (by decide)]
    rw [hc, hm]
    clear hc hm ih
    by_cases q1 : 1 ≤ N (2 * j) ∧ N (2 * j) ≤ 9
    · by_cases q2 : 0 ≤ N (2 * j + 1) ∧ N (2 * j + 1) ≤ 99
      · refine ⟨r, ?_, by rw [if_neg (by omega), if_neg (by omega), if_neg (by omega), if_neg (by omega)], by rw [if_pos q1, if_pos q2]⟩
        rcases r1 with ⟨e, z⟩ | e
        · refine Or.inl ⟨e, fun i i1 i2 => ?_⟩
          by_cases y : i = j
          · rw [y]; exact ⟨q1.1, q1.2, q2.1, q2.2⟩
          · exact z i (by omega) i2
        · exact Or.inr e
      · refine ⟨5, Or.inr rfl, ?_, by rw [if_pos q1, if_neg q2]⟩
        clear r1
        rw [if_neg (by omega), if_neg (by omega)]
        by_cases y : N (2 * j + 1) < 0
        · rw [if_pos y]
        · rw [if_neg y, if_pos (by omega)]
    · refine ⟨5, Or.inr rfl, ?_, by rw [if_neg q1]⟩
      clear r1
      by_cases y : N (2 * j) < 1
      · rw [if_pos y]
      · rw [if_neg y, if_pos (by omega)]
/-- the class keeps, the reference lays -/
theorem keep_cr {s : jM} (h : INV s) {m tt : Int} (hm : 0 ≤ m ∧ m < s 160 2) (ht : 0 ≤ tt ∧ tt < 4) {k : Nat} (hk : k ≤ 20) (hN : ∀ i, 0 ≤ i → i < (k : Int) → 1 ≤ s 158 (60 * tt + 2 * i) ∧ s 158 (60 * tt + 2 * i) ≤ 9 ∧ 0 ≤ s 158 (60 * tt + (2 * i + 1)) ∧ s 158 (60 * tt + (2 * i + 1)) ≤ 99) (hn : ∀ i, 0 ≤ i → i < 2 * (k : Int) → s (3 + 2 * tt) i = s 158 (60 * tt + i)) : ∃ G t, Jc_keepFits 0 m tt k s = some (0, t) ∧ EX r1622 s t ∧ (∀ x, 0 ≤ G x ∧ G x ≤ 10000) ∧ (∀ x, 0 ≤ x → x < 82 → t 20 x = G x) ∧ ∀ u : jM, (∀ o, u 160 o = s 160 o) → (∀ o, u 158 o = s 158 o) → ∃ v, Md_laysFits 155 m tt k u = some (psum G 82, v) ∧ EX rMx u v ∧ ∀ x, 0 ≤ x → x < 82 → v 167 x = G x := by
  have hbb := h.b.1
  obtain ⟨hb, hj, hj2, -⟩ := h.b
  have hse := h.2.2.2.2.2.1.1
  obtain ⟨e6, c2⟩ := hd2 hse
  have m1 := mo_at hse hm
  have m5 : 0 ≤ m ∧ m < 5 := ⟨hm.1, m1.1⟩
  have m10 := m1.2.1.1
  have m11 := m1.2.1.2.1
  obtain ⟨B, hB⟩ : ∃ B, B = s 0 5 := ⟨_, rfl⟩
  rw [← hB] at hbb hj hse m10 m11
  have hT : 0 ≤ s 160 (54 + m) ∧ s 160 (54 + m) ≤ 100 := by
    have := m1.2.2.2.2.1
    omega
  obtain ⟨W, a, a1, a2, a3, a4, a5⟩ := cnt_cr (fg := 0) hbb hse hm (Or.inl rfl)
  have ae : ∀ x y, ¬ (16 ≤ x ∧ x ≤ 21) → a x y = s x y := fun x y q => a2 x y (by unfold r1622; omega)
  obtain ⟨t, t1, t2, t3⟩ := kf_eq (N := fun i => s 158 (60 * tt + i)) (c := B + (15 + 2 * m)) hT ht (by omega) hk hN k jFU 0 a (by omega) (bub_ge (by omega)) (by rw [ae _ _ (by omega)]; exact m10) (fun i i1 i2 => by rw [ae _ _ (by omega)]; exact hn i i1 i2)
  refine ⟨gG (s 160 (54 + m)) (fun i => s 158 (60 * tt + i)) k W, t, ?_, a2.tr (t3.wk (fun x y q => by unfold r20 at q; unfold r1622; omega)), fun x => ?_, fun x x1 x2 => ?_, fun u hu hu2 => ?_⟩
  · have e : B + 4 + 11 + 2 * m = B + (15 + 2 * m) := by omega
    rw [Jc_keepFits, ← hB, w32_id (x := m) (by omega) (by omega), if_pos ⟨hj, m5, hj⟩, e, m11]
    show jb (Fi_countWays 16 B (s 160 (59 + m)) 0 s) _ = _
    rw [a1, jb_t]
    exact t1
  · have := a3.1 x
    unfold gG
    split <;> omega
  · rw [t2 x x1 x2, a4 x x1 x2]
    rfl
  · obtain ⟨v, v1, v2, v3, v4⟩ := a5 u hu
    have ve : ∀ x y, x = 158 ∨ x = 160 → v x y = s x y := fun x y q => by
      rw [v2 x y (by unfold rMx; omega)]
      rcases q with q | q
      · rw [q, hu2]
      · rw [q, hu]
    obtain ⟨w, w1, w2, w3⟩ := lf13 (N := fun i => s 158 (60 * tt + i)) (W := W) hT ht m5 hk hN 82 jFU 0 v (by omega) (bub_ge (by omega)) (ve _ _ (Or.inr rfl)) (fun i i1 i2 => ve _ _ (Or.inl rfl)) (fun i i1 i2 => by omega) (fun i i1 i2 => v4 i i1 i2)
    refine ⟨w, ?_, v2.tr (w3.wk (fun x y q => Or.inr (Or.inr (Or.inl q)))), w2⟩
    rw [Md_laysFits, v1, jb_t]
    exact w1
/-- what the three share: the troubles -/
theorem ft_tr {s : jM} (h : INV s) {m tt k : Int} (hm : i32 m) (ht : i32 tt) (hk : i32 k) : ∃ r, Jc_fitsTrouble 0 m tt k s = some (r, s) ∧ (∀ u : jM, (∀ o, u 160 o = s 160 o) → (∀ o, u 157 o = s 157 o) → (∀ o, u 158 o = s 158 o) → Md_whyNoFits 155 m tt k u = some (r, u)) ∧ ((1 ≤ r ∧ r ≤ 5) ∨ (r = 0 ∧ (0 ≤ m ∧ m < s 160 2) ∧ (0 ≤ tt ∧ tt < 4) ∧ (0 ≤ k ∧ k ≤ 20) ∧ (∀ i, 0 ≤ i → i < k → 1 ≤ s 158 (60 * tt + 2 * i) ∧ s 158 (60 * tt + 2 * i) ≤ 9 ∧ 0 ≤ s 158 (60 * tt + (2 * i + 1)) ∧ s 158 (60 * tt + (2 * i + 1)) ≤ 99) ∧ ∀ i, 0 ≤ i → i < 2 * k → s (3 + 2 * tt) i = s 158 (60 * tt + i))) := by
  unfold i32 at hm ht hk
  obtain ⟨hb, hj, hj2, -⟩ := h.b
  have hse := h.2.2.2.2.2.1.1
  obtain ⟨e6, c2⟩ := hd2 hse
  by_cases q0 : 0 ≤ tt ∧ tt < 4
  rotate_left
  · rcases (by omega : tt < 0 ∨ 4 ≤ tt) with q | q
    · exact ⟨1, by simp (disch := omega) only [↓jb_m, ↓jm_s, ↓reduceIte, t_lt, t_nlt, t_le, t_nle, t_eq, t_neq, w32_id, w64_id, jb_s, and_true, true_and, and_self, and_false, false_and, or_true, true_or, or_false, false_or, or_self, not_false_eq_true, not_true_eq_false, u_ne, u_eq, u_u, Int.reduceAdd, Int.reduceSub, Int.reduceMul, Int.reduceNeg, Int.zero_add, Int.add_zero, n15, n16, q10, q11, q12, q13, q14, Jc_fitsTrouble, Jc_isTray], fun u _ _ _ => by simp (disch := omega) only [↓jb_m, ↓jm_s, ↓reduceIte, t_lt, t_nlt, t_le, t_nle, t_eq, t_neq, w32_id, w64_id, jb_s, and_true, true_and, and_self, and_false, false_and, or_true, true_or, or_false, false_or, or_self, not_false_eq_true, not_true_eq_false, u_ne, u_eq, u_u, Int.reduceAdd, Int.reduceSub, Int.reduceMul, Int.reduceNeg, Int.zero_add, Int.add_zero, n15, n16, q10, q11, q12, q13, q14, Md_whyNoFits, Md_isMouldAt, Md_isStuffAt, Md_isPlaceAt, Md_isTray, Md_isIn_1, Md_isIn_0, Md_refuse, Md_no], Or.inl (by omega)⟩
    · exact ⟨1, by simp (disch := omega) only [↓jb_m, ↓jm_s, ↓reduceIte, t_lt, t_nlt, t_le, t_nle, t_eq, t_neq, w32_id, w64_id, jb_s, and_true, true_and, and_self, and_false, false_and, or_true, true_or, or_false, false_or, or_self, not_false_eq_true, not_true_eq_false, u_ne, u_eq, u_u, Int.reduceAdd, Int.reduceSub, Int.reduceMul, Int.reduceNeg, Int.zero_add, Int.add_zero, n15, n16, q10, q11, q12, q13, q14, Jc_fitsTrouble, Jc_isTray], fun u _ _ _ => by simp (disch := omega) only [↓jb_m, ↓jm_s, ↓reduceIte, t_lt, t_nlt, t_le, t_nle, t_eq, t_neq, w32_id, w64_id, jb_s, and_true, true_and, and_self, and_false, false_and, or_true, true_or, or_false, false_or, or_self, not_false_eq_true, not_true_eq_false, u_ne, u_eq, u_u, Int.reduceAdd, Int.reduceSub, Int.reduceMul, Int.reduceNeg, Int.zero_add, Int.add_zero, n15, n16, q10, q11, q12, q13, q14, Md_whyNoFits, Md_isMouldAt, Md_isStuffAt, Md_isPlaceAt, Md_isTray, Md_isIn_1, Md_isIn_0, Md_refuse, Md_no], Or.inl (by omega)⟩
  by_cases q1 : 0 ≤ m ∧ m < s 160 2
  rotate_left
  · rcases (by omega : m < 0 ∨ s 160 2 ≤ m) with q | q
    · exact ⟨2, by simp (disch := omega) only [↓jb_m, ↓jm_s, ↓reduceIte, t_lt, t_nlt, t_le, t_nle, t_eq, t_neq, w32_id, w64_id, jb_s, and_true, true_and, and_self, and_false, false_and, or_true, true_or, or_false, false_or, or_self, not_false_eq_true, not_true_eq_false, u_ne, u_eq, u_u, Int.reduceAdd, Int.reduceSub, Int.reduceMul, Int.reduceNeg, Int.zero_add, Int.add_zero, n15, n16, q10, q11, q12, q13, q14, Jc_fitsTrouble, Jc_isTray, Jc_answer, Jc_refuse, Jc_deny, Jc_grant, Se_isMould, Se_isStuff, Se_isPlace, hj], fun u g2 _ _ => by have g2 := g2 2; simp (disch := omega) only [↓jb_m, ↓jm_s, ↓reduceIte, t_lt, t_nlt, t_le, t_nle, t_eq, t_neq, w32_id, w64_id, jb_s, and_true, true_and, and_self, and_false, false_and, or_true, true_or, or_false, false_or, or_self, not_false_eq_true, not_true_eq_false, u_ne, u_eq, u_u, Int.reduceAdd, Int.reduceSub, Int.reduceMul, Int.reduceNeg, Int.zero_add, Int.add_zero, n15, n16, q10, q11, q12, q13, q14, Md_whyNoFits, Md_isMouldAt, Md_isStuffAt, Md_isPlaceAt, Md_isTray, Md_isIn_1, Md_isIn_0, Md_refuse, Md_no, g2], Or.inl (by omega)⟩
    · exact ⟨2, by simp (disch := omega) only [↓jb_m, ↓jm_s, ↓reduceIte, t_lt, t_nlt, t_le, t_nle, t_eq, t_neq, w32_id, w64_id, jb_s, and_true, true_and, and_self, and_false, false_and, or_true, true_or, or_false, false_or, or_self, not_false_eq_true, not_true_eq_false, u_ne, u_eq, u_u, Int.reduceAdd, Int.reduceSub, Int.reduceMul, Int.reduceNeg, Int.zero_add, Int.add_zero, n15, n16, q10, q11, q12, q13, q14, Jc_fitsTrouble, Jc_isTray, Jc_answer, Jc_refuse, Jc_deny, Jc_grant, Se_isMould, Se_isStuff, Se_isPlace, hj], fun u g2 _ _ => by have g2 := g2 2; simp (disch := omega) only [↓jb_m, ↓jm_s, ↓reduceIte, t_lt, t_nlt, t_le, t_nle, t_eq, t_neq, w32_id, w64_id, jb_s, and_true, true_and, and_self, and_false, false_and, or_true, true_or, or_false, false_or, or_self, not_false_eq_true, not_true_eq_false, u_ne, u_eq, u_u, Int.reduceAdd, Int.reduceSub, Int.reduceMul, Int.reduceNeg, Int.zero_add, Int.add_zero, n15, n16, q10, q11, q12, q13, q14, Md_whyNoFits, Md_isMouldAt, Md_isStuffAt, Md_isPlaceAt, Md_isTray, Md_isIn_1, Md_isIn_0, Md_refuse, Md_no, g2], Or.inl (by omega)⟩
  have e1 : (0 : Int) + 1 + 1 + 2 * tt = 2 + 2 * tt := by omega
  rcases h.2.1 tt q0.1 q0.2 with ⟨z1, z2⟩ | ⟨z1, z2, z3, z4, z5, z6, z7, z8⟩
  · exact ⟨3, by simp (disch := omega) only [↓jb_m, ↓jm_s, ↓reduceIte, t_lt, t_nlt, t_le, t_nle, t_eq, t_neq, w32_id, w64_id, jb_s, and_true, true_and, and_self, and_false, false_and, or_true, true_or, or_false, false_or, or_self, not_false_eq_true, not_true_eq_false, u_ne, u_eq, u_u, Int.reduceAdd, Int.reduceSub, Int.reduceMul, Int.reduceNeg, Int.zero_add, Int.add_zero, n15, n16, q10, q11, q12, q13, q14, Jc_fitsTrouble, Jc_isTray, Jc_answer, Jc_refuse, Jc_deny, Jc_grant, Se_isMould, Se_isStuff, Se_isPlace, hj, e1], fun u g2 g7 _ => by have g2 := g2 2; have g7 := g7 tt; simp (disch := omega) only [↓jb_m, ↓jm_s, ↓reduceIte, t_lt, t_nlt, t_le, t_nle, t_eq, t_neq, w32_id, w64_id, jb_s, and_true, true_and, and_self, and_false, false_and, or_true, true_or, or_false, false_or, or_self, not_false_eq_true, not_true_eq_false, u_ne, u_eq, u_u, Int.reduceAdd, Int.reduceSub, Int.reduceMul, Int.reduceNeg, Int.zero_add, Int.add_zero, n15, n16, q10, q11, q12, q13, q14, Md_whyNoFits, Md_isMouldAt, Md_isStuffAt, Md_isPlaceAt, Md_isTray, Md_isIn_1, Md_isIn_0, Md_refuse, Md_no, g2, g7], Or.inl (by omega)⟩
  have z8' : ∀ i, 0 ≤ i → i < s 157 tt → s (3 + 2 * tt) i = s 158 (60 * tt + i) := fun i i1 i2 => (z8 i i1 i2).1
  have z9 : ∀ i, 0 ≤ i → i < s 157 tt → i64 (s 158 (60 * tt + i)) := fun i i1 i2 => (z8 i i1 i2).2
  clear z8
  have d2 : jdiv (s 157 tt) 2 = s 157 tt / 2 := by
    rw [jdiv, w32_id (by omega) (by omega), w32_id (by omega) (by omega), Int.tdiv_eq_ediv_of_nonneg z3]
  have lc : (w32 (jlcmp (s 157 tt) (2 * k)) < 0) = (s 157 tt < 2 * k) := by
    rw [lcmp_lt, w64_id (by omega) (by omega), w64_id (by omega) (by omega)]
  by_cases q2 : s 157 tt < 2 * k
  · exact ⟨4, by simp (disch := omega) only [↓jb_m, ↓jm_s, ↓reduceIte, t_lt, t_nlt, t_le, t_nle, t_eq, t_neq, w32_id, w64_id, jb_s, and_true, true_and, and_self, and_false, false_and, or_true, true_or, or_false, false_or, or_self, not_false_eq_true, not_true_eq_false, u_ne, u_eq, u_u, Int.reduceAdd, Int.reduceSub, Int.reduceMul, Int.reduceNeg, Int.zero_add, Int.add_zero, n15, n16, q10, q11, q12, q13, q14, Jc_fitsTrouble, Jc_isTray, Jc_answer, Jc_refuse, Jc_deny, Jc_grant, Se_isMould, Se_isStuff, Se_isPlace, hj, e1, z2, d2], fun u g2 g7 _ => by have g2 := g2 2; have g7 := g7 tt; simp (disch := omega) only [↓jb_m, ↓jm_s, ↓reduceIte, t_lt, t_nlt, t_le, t_nle, t_eq, t_neq, w32_id, w64_id, jb_s, and_true, true_and, and_self, and_false, false_and, or_true, true_or, or_false, false_or, or_self, not_false_eq_true, not_true_eq_false, u_ne, u_eq, u_u, Int.reduceAdd, Int.reduceSub, Int.reduceMul, Int.reduceNeg, Int.zero_add, Int.add_zero, n15, n16, q10, q11, q12, q13, q14, Md_whyNoFits, Md_isMouldAt, Md_isStuffAt, Md_isPlaceAt, Md_isTray, Md_isIn_1, Md_isIn_0, Md_refuse, Md_no, lc, g2, g7], Or.inl (by omega)⟩
  by_cases q3 : 0 ≤ k ∧ k ≤ 20
  rotate_left
  · rcases (by omega : k < 0 ∨ 20 < k) with q | q
    · exact ⟨5, by simp (disch := omega) only [↓jb_m, ↓jm_s, ↓reduceIte, t_lt, t_nlt, t_le, t_nle, t_eq, t_neq, w32_id, w64_id, jb_s, and_true, true_and, and_self, and_false, false_and, or_true, true_or, or_false, false_or, or_self, not_false_eq_true, not_true_eq_false, u_ne, u_eq, u_u, Int.reduceAdd, Int.reduceSub, Int.reduceMul, Int.reduceNeg, Int.zero_add, Int.add_zero, n15, n16, q10, q11, q12, q13, q14, Jc_fitsTrouble, Jc_isTray, Jc_answer, Jc_refuse, Jc_deny, Jc_grant, Se_isMould, Se_isStuff, Se_isPlace, hj, e1, z2, d2], fun u g2 g7 _ => by have g2 := g2 2; have g7 := g7 tt; simp (disch := omega) only [↓jb_m, ↓jm_s, ↓reduceIte, t_lt, t_nlt, t_le, t_nle, t_eq, t_neq, w32_id, w64_id, jb_s, and_true, true_and, and_self, and_false, false_and, or_true, true_or, or_false, false_or, or_self, not_false_eq_true, not_true_eq_false, u_ne, u_eq, u_u, Int.reduceAdd, Int.reduceSub, Int.reduceMul, Int.reduceNeg, Int.zero_add, Int.add_zero, n15, n16, q10, q11, q12, q13, q14, Md_whyNoFits, Md_isMouldAt, Md_isStuffAt, Md_isPlaceAt, Md_isTray, Md_isIn_1, Md_isIn_0, Md_refuse, Md_no, lc, g2, g7], Or.inl (by omega)⟩
    · exact ⟨5, by simp (disch := omega) only [↓jb_m, ↓jm_s, ↓reduceIte, t_lt, t_nlt, t_le, t_nle, t_eq, t_neq, w32_id, w64_id, jb_s, and_true, true_and, and_self, and_false, false_and, or_true, true_or, or_false, false_or, or_self, not_false_eq_true, not_true_eq_false, u_ne, u_eq, u_u, Int.reduceAdd, Int.reduceSub, Int.reduceMul, Int.reduceNeg, Int.zero_add, Int.add_zero, n15, n16, q10, q11, q12, q13, q14, Jc_fitsTrouble, Jc_isTray, Jc_answer, Jc_refuse, Jc_deny, Jc_grant, Se_isMould, Se_isStuff, Se_isPlace, hj, e1, z2, d2], fun u g2 g7 _ => by have g2 := g2 2; have g7 := g7 tt; simp (disch := omega) only [↓jb_m, ↓jm_s, ↓reduceIte, t_lt, t_nlt, t_le, t_nle, t_eq, t_neq, w32_id, w64_id, jb_s, and_true, true_and, and_self, and_false, false_and, or_true, true_or, or_false, false_or, or_self, not_false_eq_true, not_true_eq_false, u_ne, u_eq, u_u, Int.reduceAdd, Int.reduceSub, Int.reduceMul, Int.reduceNeg, Int.zero_add, Int.add_zero, n15, n16, q10, q11, q12, q13, q14, Md_whyNoFits, Md_isMouldAt, Md_isStuffAt, Md_isPlaceAt, Md_isTray, Md_isIn_1, Md_isIn_0, Md_refuse, Md_no, lc, g2, g7], Or.inl (by omega)⟩
  obtain ⟨K, hK⟩ : ∃ K : Nat, (K : Int) = k := ⟨k.toNat, by omega⟩
  have key := fun (u : jM) (hu : ∀ o, u 158 o = s 158 o) => pr_eq (s := s) (u := u) q0 (k := K) (by omega) (N := fun i => s 158 (60 * tt + i)) (fun i i1 i2 => z9 i i1 (by omega)) (fun i i1 i2 => z8' i i1 (by omega)) (fun i i1 i2 => hu _) K jFU jFU 0 (by omega) (bub_ge (by omega)) (bub_ge (by omega))
  obtain ⟨r, r1, r2, -⟩ := key s (fun _ => rfl)
  have r3 : ∀ u : jM, (∀ o, u 158 o = s 158 o) → Md_whyNoFits_67 jFU 155 tt k 0 u = some (r, u) := fun u hu => by
    obtain ⟨r', -, r5, r6⟩ := key u hu
    have : some (r, s) = some (r', s) := r2.symm.trans r5
    have e : r = r' := congrArg Prod.fst (Option.some.inj this)
    rw [e, ← hK]
    exact r6
  have r2' : Jc_fitsTrouble_68 jFU k (2 + 2 * tt) 0 s = some (r, s) := by rw [← hK]; exact r2
  clear key z9
  refine ⟨r, ?_, ?_, ?_⟩
  · clear z8' r1 r3
    simp (disch := omega) only [↓jb_m, ↓jm_s, ↓reduceIte, t_lt, t_nlt, t_le, t_nle, t_eq, t_neq, w32_id, w64_id, jb_s, and_true, true_and, and_self, and_false, false_and, or_true, true_or, or_false, false_or, or_self, not_false_eq_true, not_true_eq_false, u_ne, u_eq, u_u, Int.reduceAdd, Int.reduceSub, Int.reduceMul, Int.reduceNeg, Int.zero_add, Int.add_zero, n15, n16, q10, q11, q12, q13, q14, Jc_fitsTrouble, Jc_isTray, Jc_answer, Jc_refuse, Jc_deny, Jc_grant, Se_isMould, Se_isStuff, Se_isPlace, hj, e1, z2, d2, r2']
  · intro u g2 g7 g8
    have r3 := r3 u g8
    have g2 := g2 2
    have g7 := g7 tt
    clear z8' r1
    simp (disch := omega) only [↓jb_m, ↓jm_s, ↓reduceIte, t_lt, t_nlt, t_le, t_nle, t_eq, t_neq, w32_id, w64_id, jb_s, and_true, true_and, and_self, and_false, false_and, or_true, true_or, or_false, false_or, or_self, not_false_eq_true, not_true_eq_false, u_ne, u_eq, u_u, Int.reduceAdd, Int.reduceSub, Int.reduceMul, Int.reduceNeg, Int.zero_add, Int.add_zero, n15, n16, q10, q11, q12, q13, q14, Md_whyNoFits, Md_isMouldAt, Md_isStuffAt, Md_isPlaceAt, Md_isTray, Md_isIn_1, Md_isIn_0, Md_refuse, Md_no, lc, r3, g2, g7]
  · rcases r1 with ⟨a, b⟩ | a
    · refine Or.inr ⟨a, q1, q0, q3, fun i i1 i2 => b i i1 (by omega), fun i i1 i2 => z8' i i1 (by omega)⟩
    · exact Or.inl (by omega)
def uW (t : jM) (w : Int) : jM := jup (jup (jup t 0 0 w) 155 1 0) 155 0 0
theorem uW_at {s t : jM} (h : EX r1622 s t) (w : Int) : (∀ o, uW t w 160 o = s 160 o) ∧ (∀ o, uW t w 158 o = s 158 o) := by
  refine ⟨fun o => ?_, fun o => ?_⟩ <;> rw [uW, u_ne (by omega), u_ne (by omega), u_ne (by omega)] <;> exact h _ _ (by unfold r1622; omega)
theorem vW_at {s t : jM} (h : EX r1622 s t) (w : Int) : (∀ o, jup (jup t 0 0 w) 155 1 0 160 o = s 160 o) ∧ (∀ o, jup (jup t 0 0 w) 155 1 0 157 o = s 157 o) ∧ (∀ o, jup (jup t 0 0 w) 155 1 0 158 o = s 158 o) := by
  refine ⟨fun o => ?_, fun o => ?_, fun o => ?_⟩ <;> rw [u_ne (by omega), u_ne (by omega)] <;> exact h _ _ (by unfold r1622; omega)
/-- both sides once the troubles are none: what the class keeps, what the reference lays -/
theorem ft_go {s : jM} (h : INV s) {m tt k : Int} (q1 : 0 ≤ m ∧ m < s 160 2) (q0 : 0 ≤ tt ∧ tt < 4) (q3 : 0 ≤ k ∧ k ≤ 20) (hN : ∀ i, 0 ≤ i → i < k → 1 ≤ s 158 (60 * tt + 2 * i) ∧ s 158 (60 * tt + 2 * i) ≤ 9 ∧ 0 ≤ s 158 (60 * tt + (2 * i + 1)) ∧ s 158 (60 * tt + (2 * i + 1)) ≤ 99) (hn : ∀ i, 0 ≤ i → i < 2 * k → s (3 + 2 * tt) i = s 158 (60 * tt + i)) : ∃ G t, Jc_keepFits 0 m tt k s = some (0, t) ∧ EX r1622 s t ∧ (∀ x, 0 ≤ G x ∧ G x ≤ 10000) ∧ (∀ x, 0 ≤ x → x < 82 → t 20 x = G x) ∧ Fi_allWays 16 t = some (psum G 82, t) ∧ ∀ u : jM, (∀ o, u 160 o = s 160 o) → (∀ o, u 158 o = s 158 o) → ∃ v, Md_laysFits 155 m tt k u = some (psum G 82, v) ∧ EX rMx u v ∧ ∀ x, 0 ≤ x → x < 82 → v 167 x = G x := by
  obtain ⟨K, hK⟩ : ∃ K : Nat, (K : Int) = k := ⟨k.toNat, by omega⟩
  rw [← hK] at hN hn ⊢
  obtain ⟨G, t, t1, t2, t3, t4, t5⟩ := keep_cr h q1 q0 (k := K) (by omega) hN hn
  exact ⟨G, t, t1, t2, t3, t4, aw1 t4 82 0 jFU (by omega) (bub_ge (by omega)), t5⟩
theorem fits_ok {s : jM} (h : INV s) {m tt k : Int} (hm : i32 m) (ht : i32 tt) (hk : i32 k) : OKc s (Jc_fits 0 m tt k) (Md_fits 155 m tt k) := by
  obtain ⟨hb, hj, hj2, -⟩ := h.b
  have hse := h.2.2.2.2.2.1.1
  obtain ⟨e6, c2⟩ := hd2 hse
  obtain ⟨r, r1, r2, r3⟩ := ft_tr h hm ht hk
  rcases r3 with r3 | ⟨r0, q1, q0, q3, hN, hn⟩
  · have f := vW_at (EX.rf _ s) r
    have r2 := r2 _ f.1 f.2.1 f.2.2
    clear f
    exact OKc.no (w := r) (r := -1) h (by simp (disch := omega) only [↓jb_m, ↓jm_s, ↓reduceIte, t_lt, t_nlt, t_le, t_nle, t_eq, t_neq, w32_id, w64_id, jb_s, and_true, true_and, and_self, and_false, false_and, or_true, true_or, or_false, false_or, or_self, not_false_eq_true, not_true_eq_false, u_ne, u_eq, u_u, Int.reduceAdd, Int.reduceSub, Int.reduceMul, Int.reduceNeg, Int.zero_add, Int.add_zero, n15, n16, q10, q11, q12, q13, q14, Jc_fits, r1, Jc_refuse]) (by simp (disch := omega) only [↓jb_m, ↓jm_s, ↓reduceIte, t_lt, t_nlt, t_le, t_nle, t_eq, t_neq, w32_id, w64_id, jb_s, and_true, true_and, and_self, and_false, false_and, or_true, true_or, or_false, false_or, or_self, not_false_eq_true, not_true_eq_false, u_ne, u_eq, u_u, Int.reduceAdd, Int.reduceSub, Int.reduceMul, Int.reduceNeg, Int.zero_add, Int.add_zero, n15, n16, q10, q11, q12, q13, q14, Md_fits, r2])
  · subst r0
    obtain ⟨G, t, t1, t2, -, -, t4, t5⟩ := ft_go h q1 q0 q3 hN hn
    clear hN hn
    have f := vW_at t2 0
    have r2 := r2 _ f.1 f.2.1 f.2.2
    obtain ⟨v, v1, v2, -⟩ := t5 (uW t 0) (uW_at t2 0).1 (uW_at t2 0).2
    unfold uW at v1 v2
    have hi := mi_end h (r1622_ga t2) rfl (rMx_my v2)
    clear f t5
    refine ⟨psum G 82, jup t 0 0 0, v, ?_, ?_, hi⟩
    · simp (disch := omega) only [↓jb_m, ↓jm_s, ↓reduceIte, t_lt, t_nlt, t_le, t_nle, t_eq, t_neq, w32_id, w64_id, jb_s, and_true, true_and, and_self, and_false, false_and, or_true, true_or, or_false, false_or, or_self, not_false_eq_true, not_true_eq_false, u_ne, u_eq, u_u, Int.reduceAdd, Int.reduceSub, Int.reduceMul, Int.reduceNeg, Int.zero_add, Int.add_zero, n15, n16, q10, q11, q12, q13, q14, Jc_fits, r1, Jc_answer, Jc_refuse, Jc_deny, Jc_grant, Se_isMould, Se_isStuff, Se_isPlace, hj, t1, t4]
    · simp (disch := omega) only [↓jb_m, ↓jm_s, ↓reduceIte, t_lt, t_nlt, t_le, t_nle, t_eq, t_neq, w32_id, w64_id, jb_s, and_true, true_and, and_self, and_false, false_and, or_true, true_or, or_false, false_or, or_self, not_false_eq_true, not_true_eq_false, u_ne, u_eq, u_u, Int.reduceAdd, Int.reduceSub, Int.reduceMul, Int.reduceNeg, Int.zero_add, Int.add_zero, n15, n16, q10, q11, q12, q13, q14, Md_fits, r2, v1]
/-! fits by -/
def gre (G : Int → Int) : Nat → Int
  | 0 => -1
  | k + 1 => if 0 < G k then (k : Int) else gre G k
def les (G : Int → Int) : Nat → Nat → Int
  | 0, _ => -1
  | d + 1, k => if 0 < G k then (k : Int) else les G d (k + 1)
theorem gre_b {G : Int → Int} : ∀ k : Nat, -1 ≤ gre G k ∧ gre G k < k := by
  intro k
  induction k with
  | zero => show (-1 : Int) ≤ -1 ∧ (-1 : Int) < ((0 : Nat) : Int); omega
  | succ k ih =>
    rw [gre]
    split <;> omega
theorem les_b {G : Int → Int} : ∀ (d k : Nat), -1 ≤ les G d k ∧ les G d k < k + d := by
  intro d
  induction d with
  | zero => intro k; show (-1 : Int) ≤ -1 ∧ (-1 : Int) < (k : Int) + ((0 : Nat) : Int); omega
  | succ d ih =>
    intro k
    have := ih (k + 1)
    rw [les]
    split <;> omega
theorem gr1 {G : Int → Int} (hG : ∀ x, 0 ≤ G x ∧ G x ≤ 10000) {s : jM} (hs : ∀ i, 0 ≤ i → i < 82 → s 20 i = G i) : ∀ (k f : Nat), k ≤ 82 → k < f → Fi_greatestStrength_3 f 16 ((k : Int) - 1) s = some (gre G k, s) := by
  intro k
  induction k with
  | zero =>
    intro f k1 k2
    obtain ⟨f, rfl⟩ : ∃ g, f = g + 1 := ⟨f - 1, by omega⟩
    rw [Fi_greatestStrength_3, if_pos (by decide)]
    rfl
  | succ k ih =>
    intro f k1 k2
    obtain ⟨f, rfl⟩ : ∃ g, f = g + 1 := ⟨f - 1, by omega⟩
    have e : ((k + 1 : Nat) : Int) - 1 = (k : Int) := by omega
    have c1 : ¬ (k : Int) < 0 := by omega
    have c2 : (0 : Int) ≤ k ∧ (k : Int) < 82 := by omega
    have c4 : k < 1000 := by omega
    have a := hG k
    have g := hs k c2.1 c2.2
    have w : w32 (s 20 k) = G k := by rw [g, w32_id (by omega) (by omega)]
    rw [e, Fi_greatestStrength_3, w32n c4, if_neg c1, if_pos c2]
    show (if 0 < w32 (s 20 k) then _ else _) = _
    rw [w, gre]
    by_cases q : 0 < G k
    · rw [if_pos q, if_pos q]
    · rw [if_neg q, if_neg q]
      exact ih f (by omega) (by omega)
theorem le1 {G : Int → Int} (hG : ∀ x, 0 ≤ G x ∧ G x ≤ 10000) {s : jM} (hs : ∀ i, 0 ≤ i → i < 82 → s 20 i = G i) : ∀ (d k f : Nat), k + d = 82 → d < f → Fi_leastStrength_2 f 16 k s = some (les G d k, s) := by
  intro d
  induction d with
  | zero =>
    intro k f k1 k2
    obtain ⟨f, rfl⟩ : ∃ g, f = g + 1 := ⟨f - 1, by omega⟩
    have e : k = 82 := by omega
    subst e
    rw [Fi_leastStrength_2, if_pos (by decide)]
    rfl
  | succ d ih =>
    intro k f k1 k2
    obtain ⟨f, rfl⟩ : ∃ g, f = g + 1 := ⟨f - 1, by omega⟩
    have c1 : ¬ 81 < (k : Int) := by omega
    have c2 : (0 : Int) ≤ k ∧ (k : Int) < 82 := by omega
    have c3 : ((k + 1 : Nat) : Int) = (k : Int) + 1 := by omega
    have c4 : k < 1000 := by omega
    have a := hG k
    have g := hs k c2.1 c2.2
    have w : w32 (s 20 k) = G k := by rw [g, w32_id (by omega) (by omega)]
    have r := ih (k + 1) f (by omega) (by omega)
    rw [c3] at r
    rw [Fi_leastStrength_2, w32n c4, if_neg c1, if_pos c2]
    show (if 0 < w32 (s 20 k) then _ else _) = _
    rw [w, les]
    by_cases q : 0 < G k
    · rw [if_pos q, if_pos q]
    · rw [if_neg q, if_neg q]
      exact r
theorem by1 {G : Int → Int} (hG : ∀ x, 0 ≤ G x ∧ G x ≤ 10000) {v : jM} (hv : ∀ i, 0 ≤ i → i < 82 → v 167 i = G i) : ∀ (d k f : Nat), k + d = 82 → d < f → Md_fitsBy_56 f 155 1 (gre G k) k v = Md_fitsBy_56 (f - d) 155 1 (gre G 82) 82 v := by
  intro d
  induction d with
  | zero =>
    intro k f k1 k2
    have e : k = 82 := by omega
    subst e
    rfl
  | succ d ih =>
    intro k f k1 k2
    obtain ⟨f, rfl⟩ : ∃ g, f = g + 1 := ⟨f - 1, by omega⟩
    have c1 : (k : Int) < 82 := by omega
    have c2 : (0 : Int) ≤ k ∧ (k : Int) < 82 := by omega
    have c3 : ((k + 1 : Nat) : Int) = (k : Int) + 1 := by omega
    have c4 : k < 1000 := by omega
    have a := hG k
    have g := hv k c2.1 c2.2
    have w : w32 (v 167 k) = G k := by rw [g, w32_id (by omega) (by omega)]
    have r := ih (k + 1) f (by omega) (by omega)
    rw [c3, gre] at r
    rw [Md_fitsBy_56, w32n c4, if_pos c1, if_pos c2, show f + 1 - (d + 1) = f - d by omega, ← r]
    show (if 0 < w32 (v 167 k) then _ else _) = _
    rw [w]
    by_cases q : 0 < G k
    · rw [if_pos q, if_pos q]
      split
      · rfl
      · rw [if_pos (by decide)]
    · rw [if_neg q, if_neg q]
theorem by0 {G : Int → Int} (hG : ∀ x, 0 ≤ G x ∧ G x ≤ 10000) {v : jM} (hv : ∀ i, 0 ≤ i → i < 82 → v 167 i = G i) : ∀ (d k f : Nat) (x : Int), k + d = 82 → d < f → (0 ≤ x ∧ x < 82 ∨ x = -1) → Md_fitsBy_56 f 155 0 x k v = Md_fitsBy_56 (f - d) 155 0 (if x < 0 then les G d k else x) 82 v := by
  intro d
  induction d with
  | zero =>
    intro k f x k1 k2 hx
    have e : k = 82 := by omega
    subst e
    by_cases q : x < 0
    · rw [if_pos q, show x = les G 0 82 by show x = -1; omega]
      rfl
    · rw [if_neg q]
      rfl
  | succ d ih =>
    intro k f x k1 k2 hx
    obtain ⟨f, rfl⟩ : ∃ g, f = g + 1 := ⟨f - 1, by omega⟩
    have c1 : (k : Int) < 82 := by omega
    have c2 : (0 : Int) ≤ k ∧ (k : Int) < 82 := by omega
    have c3 : ((k + 1 : Nat) : Int) = (k : Int) + 1 := by omega
    have c4 : k < 1000 := by omega
    have a := hG k
    have g := hv k c2.1 c2.2
    have w : w32 (v 167 k) = G k := by rw [g, w32_id (by omega) (by omega)]
    have xw : w32 x = x := w32_id (by omega) (by omega)
    rw [Md_fitsBy_56, w32n c4, if_pos c1, if_pos c2, show f + 1 - (d + 1) = f - d by omega]
    show (if 0 < w32 (v 167 k) then _ else _) = _
    rw [w, les, xw, if_neg (c := w32 0 = 1) (by decide)]
    by_cases q : 0 < G k
    · rw [if_pos q, if_pos q]
      by_cases z : x < 0
      · have r := ih (k + 1) f (k : Int) (by omega) (by omega) (by omega)
        rw [c3, if_neg (by omega)] at r
        rw [if_pos z, if_pos z]
        exact r
      · have r := ih (k + 1) f x (by omega) (by omega) (by omega)
        rw [c3, if_neg z] at r
        rw [if_neg z, if_neg z]
        exact r
    · have r := ih (k + 1) f x (by omega) (by omega) (by omega)
      rw [c3] at r
      rw [if_neg q, if_neg q]
      exact r
theorem by_end {v : jM} {w x : Int} {f : Nat} (hf : 0 < f) : Md_fitsBy_56 f 155 w x 82 v = if w32 x < 0 then some (-1, jup v 155 0 8) else some (x, v) := by
  obtain ⟨f, rfl⟩ : ∃ g, f = g + 1 := ⟨f - 1, by omega⟩
  rw [Md_fitsBy_56, if_neg (c := w32 82 < 82) (by decide)]
  rfl
theorem jFU_sub : 0 < jFU - 82 := Nat.sub_pos_of_lt (bub_ge (by omega))
theorem by_tot {G : Int → Int} (hG : ∀ x, 0 ≤ G x ∧ G x ≤ 10000) {v : jM} (hv : ∀ i, 0 ≤ i → i < 82 → v 167 i = G i) {w : Int} (hw : 0 ≤ w ∧ w ≤ 1) : Md_fitsBy_56 jFU 155 w (-1) 0 v = if (if w = 0 then les G 82 0 else gre G 82) < 0 then some (-1, jup v 155 0 8) else some ((if w = 0 then les G 82 0 else gre G 82), v) := by
  rcases (by omega : w = 0 ∨ w = 1) with q | q
  · subst q
    have r : Md_fitsBy_56 jFU 155 0 (-1) 0 v = _ := by0 hG hv 82 0 jFU (-1) (by omega) (bub_ge (by omega)) (Or.inr rfl)
    have b := les_b (G := G) 82 0
    rw [r, by_end jFU_sub, if_pos (c := (-1 : Int) < 0) (by decide), if_pos (c := (0 : Int) = 0) rfl, w32_id (by omega) (by omega)]
  · subst q
    have r : Md_fitsBy_56 jFU 155 1 (-1) 0 v = _ := by1 hG hv 82 0 jFU (by omega) (bub_ge (by omega))
    have b := gre_b (G := G) 82
    rw [r, by_end jFU_sub, if_neg (c := (1 : Int) = 0) (by decide), w32_id (by omega) (by omega)]
theorem fitsBy_ok {s : jM} (h : INV s) {m tt k w : Int} (hm : i32 m) (ht : i32 tt) (hk : i32 k) (hw : i32 w) : OKc s (Jc_fitsBy 0 m tt k w) (Md_fitsBy 155 m tt k w) := by
  obtain ⟨hb, hj, hj2, -⟩ := h.b
  have hse := h.2.2.2.2.2.1.1
  obtain ⟨e6, c2⟩ := hd2 hse
  obtain ⟨r, r1, r2, r3⟩ := ft_tr h hm ht hk
  unfold i32 at hw
  rcases r3 with r3 | ⟨r0, q1, q0, q3, hN, hn⟩
  · have f := vW_at (EX.rf _ s) r
    have r2 := r2 _ f.1 f.2.1 f.2.2
    clear f
    exact OKc.no (w := r) (r := -1) h (by simp (disch := omega) only [↓jb_m, ↓jm_s, ↓reduceIte, t_lt, t_nlt, t_le, t_nle, t_eq, t_neq, w32_id, w64_id, jb_s, and_true, true_and, and_self, and_false, false_and, or_true, true_or, or_false, false_or, or_self, not_false_eq_true, not_true_eq_false, u_ne, u_eq, u_u, Int.reduceAdd, Int.reduceSub, Int.reduceMul, Int.reduceNeg, Int.zero_add, Int.add_zero, n15, n16, q10, q11, q12, q13, q14, Jc_fitsBy, r1, Jc_refuse]) (by simp (disch := omega) only [↓jb_m, ↓jm_s, ↓reduceIte, t_lt, t_nlt, t_le, t_nle, t_eq, t_neq, w32_id, w64_id, jb_s, and_true, true_and, and_self, and_false, false_and, or_true, true_or, or_false, false_or, or_self, not_false_eq_true, not_true_eq_false, u_ne, u_eq, u_u, Int.reduceAdd, Int.reduceSub, Int.reduceMul, Int.reduceNeg, Int.zero_add, Int.add_zero, n15, n16, q10, q11, q12, q13, q14, Md_fitsBy, r2])
  · subst r0
    by_cases q4 : 0 ≤ w ∧ w ≤ 1
    rotate_left
    · have f := vW_at (EX.rf _ s) 5
      have r2 := r2 _ f.1 f.2.1 f.2.2
      clear f hN hn
      rcases (by omega : w < 0 ∨ 1 < w) with q | q
      · exact OKc.no (w := 5) (r := -1) h (by simp (disch := omega) only [↓jb_m, ↓jm_s, ↓reduceIte, t_lt, t_nlt, t_le, t_nle, t_eq, t_neq, w32_id, w64_id, jb_s, and_true, true_and, and_self, and_false, false_and, or_true, true_or, or_false, false_or, or_self, not_false_eq_true, not_true_eq_false, u_ne, u_eq, u_u, Int.reduceAdd, Int.reduceSub, Int.reduceMul, Int.reduceNeg, Int.zero_add, Int.add_zero, n15, n16, q10, q11, q12, q13, q14, Jc_fitsBy, r1, Jc_refuse]) (by simp (disch := omega) only [↓jb_m, ↓jm_s, ↓reduceIte, t_lt, t_nlt, t_le, t_nle, t_eq, t_neq, w32_id, w64_id, jb_s, and_true, true_and, and_self, and_false, false_and, or_true, true_or, or_false, false_or, or_self, not_false_eq_true, not_true_eq_false, u_ne, u_eq, u_u, Int.reduceAdd, Int.reduceSub, Int.reduceMul, Int.reduceNeg, Int.zero_add, Int.add_zero, n15, n16, q10, q11, q12, q13, q14, Md_fitsBy, r2, Md_isMouldAt, Md_isStuffAt, Md_isPlaceAt, Md_isTray, Md_isIn_1, Md_isIn_0, Md_refuse, Md_no])
      · exact OKc.no (w := 5) (r := -1) h (by simp (disch := omega) only [↓jb_m, ↓jm_s, ↓reduceIte, t_lt, t_nlt, t_le, t_nle, t_eq, t_neq, w32_id, w64_id, jb_s, and_true, true_and, and_self, and_false, false_and, or_true, true_or, or_false, false_or, or_self, not_false_eq_true, not_true_eq_false, u_ne, u_eq, u_u, Int.reduceAdd, Int.reduceSub, Int.reduceMul, Int.reduceNeg, Int.zero_add, Int.add_zero, n15, n16, q10, q11, q12, q13, q14, Jc_fitsBy, r1, Jc_refuse]) (by simp (disch := omega) only [↓jb_m, ↓jm_s, ↓reduceIte, t_lt, t_nlt, t_le, t_nle, t_eq, t_neq, w32_id, w64_id, jb_s, and_true, true_and, and_self, and_false, false_and, or_true, true_or, or_false, false_or, or_self, not_false_eq_true, not_true_eq_false, u_ne, u_eq, u_u, Int.reduceAdd, Int.reduceSub, Int.reduceMul, Int.reduceNeg, Int.zero_add, Int.add_zero, n15, n16, q10, q11, q12, q13, q14, Md_fitsBy, r2, Md_isMouldAt, Md_isStuffAt, Md_isPlaceAt, Md_isTray, Md_isIn_1, Md_isIn_0, Md_refuse, Md_no])
    obtain ⟨G, t, t1, t2, t3, t4, -, t5⟩ := ft_go h q1 q0 q3 hN hn
    clear hN hn
    obtain ⟨x, hx⟩ : ∃ x, x = if w = 0 then les G 82 0 else gre G 82 := ⟨_, rfl⟩
    have xb : -1 ≤ x ∧ x < 82 := by
      have b := gre_b (G := G) 82
      have b2 := les_b (G := G) 82 0
      rw [hx]
      split <;> omega
    have hc : ∀ F : Int → jM → Option (Int × jM), (if w32 w = 0 then (jb (Fi_leastStrength 16 t) fun v7 s7 => F v7 s7) else (jb (Fi_greatestStrength 16 t) fun v8 s8 => F v8 s8)) = F x t := fun F => by
      rw [w32_id (by omega) (by omega)]
      have g1 : Fi_greatestStrength 16 t = some (gre G 82, t) := gr1 t3 t4 82 jFU (Nat.le_refl _) (bub_ge (by omega))
      have g2 : Fi_leastStrength 16 t = some (les G 82 0, t) := le1 t3 t4 82 0 jFU (by omega) (bub_ge (by omega))
      by_cases q : w = 0
      · rw [if_pos q, g2, jb_t, hx, if_pos q]
      · rw [if_neg q, g1, jb_t, hx, if_neg q]
    have hcl : Jc_fitsBy 0 m tt k w s = Jc_fitsBy_67 0 x t := by
      rw [Jc_fitsBy, r1, jb_t, if_pos (by decide), w32_id (x := w) (by omega) (by omega), if_neg (by omega), if_neg (by omega), t1, jb_t]
      have := hc (fun a b => Jc_fitsBy_67 0 a b)
      rw [w32_id (x := w) (by omega) (by omega)] at this
      exact this
    have hr : ∀ z, ∃ v, Md_fitsBy 155 m tt k w (jup t 0 0 z) = (if x < 0 then some (-1, jup v 155 0 8) else some (x, v)) ∧ EX rMy (uW t z) v := fun z => by
      have f := vW_at t2 z
      have r2 := r2 _ f.1 f.2.1 f.2.2
      obtain ⟨v, v1, v2, v3⟩ := t5 (uW t z) (uW_at t2 z).1 (uW_at t2 z).2
      have bt := by_tot t3 v3 q4
      rw [← hx] at bt
      refine ⟨v, ?_, rMx_my v2⟩
      rw [← bt]
      unfold uW at v1
      clear bt f t5 hc hcl t3 t4 v3
      simp (disch := omega) only [↓jb_m, ↓jm_s, ↓reduceIte, t_lt, t_nlt, t_le, t_nle, t_eq, t_neq, w32_id, w64_id, jb_s, and_true, true_and, and_self, and_false, false_and, or_true, true_or, or_false, false_or, or_self, not_false_eq_true, not_true_eq_false, u_ne, u_eq, u_u, Int.reduceAdd, Int.reduceSub, Int.reduceMul, Int.reduceNeg, Int.zero_add, Int.add_zero, n15, n16, q10, q11, q12, q13, q14, Md_fitsBy, r2, v1, Md_isMouldAt, Md_isStuffAt, Md_isPlaceAt, Md_isTray, Md_isIn_1, Md_isIn_0, Md_refuse, Md_no]
    clear t5 hc t3 t4
    by_cases q5 : x = -1
    · obtain ⟨v, v1, v2⟩ := hr 8
      have hi := mi_end h (r1622_ga t2) rfl (mi_no rfl v2)
      rw [if_pos (by omega)] at v1
      refine ⟨-1, jup t 0 0 8, jup v 155 0 8, ?_, v1, hi⟩
      rw [hcl]
      clear v1 v2 hi hcl
      simp (disch := omega) only [↓jb_m, ↓jm_s, ↓reduceIte, t_lt, t_nlt, t_le, t_nle, t_eq, t_neq, w32_id, w64_id, jb_s, and_true, true_and, and_self, and_false, false_and, or_true, true_or, or_false, false_or, or_self, not_false_eq_true, not_true_eq_false, u_ne, u_eq, u_u, Int.reduceAdd, Int.reduceSub, Int.reduceMul, Int.reduceNeg, Int.zero_add, Int.add_zero, n15, n16, q10, q11, q12, q13, q14, Jc_fitsBy_67, Jc_answer, Jc_refuse, Jc_deny, Jc_grant, Se_isMould, Se_isStuff, Se_isPlace, hj]
    · obtain ⟨v, v1, v2⟩ := hr 0
      have hi := mi_end h (r1622_ga t2) rfl v2
      rw [if_neg (by omega)] at v1
      refine ⟨x, jup t 0 0 0, v, ?_, v1, hi⟩
      rw [hcl]
      clear v1 v2 hi hcl
      simp (disch := omega) only [↓jb_m, ↓jm_s, ↓reduceIte, t_lt, t_nlt, t_le, t_nle, t_eq, t_neq, w32_id, w64_id, jb_s, and_true, true_and, and_self, and_false, false_and, or_true, true_or, or_false, false_or, or_self, not_false_eq_true, not_true_eq_false, u_ne, u_eq, u_u, Int.reduceAdd, Int.reduceSub, Int.reduceMul, Int.reduceNeg, Int.zero_add, Int.add_zero, n15, n16, q10, q11, q12, q13, q14, Jc_fitsBy_67, Jc_answer, Jc_refuse, Jc_deny, Jc_grant, Se_isMould, Se_isStuff, Se_isPlace, hj]
/-! ask -/
def ggf (T h : Int) (G : Int → Int) : Nat → Nat → (Int → Int) → Int → Int
  | 0, _, _, m => m
  | d + 1, k, c, m => ggf T h G d (k + 1) (fun i => if i = lst k T h then c (lst k T h) + G k else c i) (jmax m (c (lst k T h) + G k))
def gg (T : Int) (G : Int → Int) (h : Int) : Int := ggf T h G 82 0 (fun _ => 0) 0
def r21 (a _b : Int) : Prop := a = 21
def r168 (a _b : Int) : Prop := a = 168
theorem cg29 {T h : Int} (hT : 1 ≤ T ∧ T ≤ 100) (hh : 1 ≤ h ∧ h ≤ 9) {G : Int → Int} : ∀ (d k f : Nat) (c : Int → Int) (m : Int) (s : jM), k + d = 82 → d < f → (∀ i, 0 ≤ i → i < 82 → s 20 i = G i) → (∀ i, 0 ≤ i → i < 83 → s 21 i = c i) → ∃ t, Fi_greatestGroup_29 f 16 T h m k s = some (ggf T h G d k c m, t) ∧ EX r21 s t := by
  intro d
  induction d with
  | zero =>
    intro k f c m s h1 h2 h3 h4
    obtain ⟨f, rfl⟩ : ∃ g, f = g + 1 := ⟨f - 1, by omega⟩
    have e : k = 82 := by omega
    subst e
    exact ⟨s, by rw [Fi_greatestGroup_29, if_pos (by decide)]; rfl, EX.rf _ _⟩
  | succ d ih =>
    intro k f c m s h1 h2 h3 h4
    obtain ⟨f, rfl⟩ : ∃ g, f = g + 1 := ⟨f - 1, by omega⟩
    have c1 : ¬ 81 < (k : Int) := by omega
    have c2 : (0 : Int) ≤ k ∧ (k : Int) < 82 := by omega
    have c3 : ((k + 1 : Nat) : Int) = (k : Int) + 1 := by omega
    have c4 : k < 1000 := by omega
    have lb := lst_b (f := (k : Int)) (h := T) (n := h) c2.1 (by omega) (by omega)
    have lv : 0 ≤ lst (k : Int) T h ∧ lst (k : Int) T h < 83 := by omega
    have lw : w32 (lst (k : Int) T h) = lst (k : Int) T h := w32_id (by omega) (by omega)
    rw [Fi_greatestGroup_29, w32n c4, if_neg c1, Jc_lasting_eq (by omega) (by omega) (by omega), jb_t, lw, if_pos lv.2, if_pos ⟨lv, c2, lv, lv⟩]
    rw [ggf]
    generalize lst (k : Int) T h = v at lv
    show ∃ t, Fi_greatestGroup_29 f 16 T h (jmax m (jup s 21 v (s 21 v + s 20 k) 21 v)) ((k : Int) + 1) (jup s 21 v (s 21 v + s 20 k)) = _ ∧ _
    rw [u_eq ⟨rfl, rfl⟩, h3 k c2.1 c2.2, h4 v lv.1 lv.2]
    obtain ⟨t, t1, t2⟩ := ih (k + 1) f (fun i => if i = v then c v + G k else c i) (jmax m (c v + G k)) (jup s 21 v (c v + G k)) (by omega) (by omega) (fun i i1 i2 => by rw [u_ne (by omega)]; exact h3 i i1 i2) (fun i i1 i2 => by
      show jup s 21 v (c v + G k) 21 i = if i = v then c v + G k else c i
      by_cases z : i = v
      · rw [u_eq ⟨rfl, z⟩, if_pos z]
      · rw [u_ne (by omega), if_neg z]; exact h4 i i1 i2)
    rw [c3] at t1
    exact ⟨t, t1, EX.tr ((EX.rf _ _).up rfl) t2⟩
theorem cg2 {T h : Int} (hT : 1 ≤ T ∧ T ≤ 100) (hh : 1 ≤ h ∧ h ≤ 9) {G : Int → Int} : ∀ (d k f : Nat) (s : jM), k + d = 83 → d < f → (∀ i, 0 ≤ i → i < 82 → s 20 i = G i) → (∀ i, 0 ≤ i → i < (k : Int) → s 21 i = 0) → ∃ t, Fi_greatestGroup_2 f 16 T h k s = some (gg T G h, t) ∧ EX r21 s t := by
  intro d
  induction d with
  | zero =>
    intro k f s h1 h2 h3 h4
    obtain ⟨f, rfl⟩ : ∃ g, f = g + 1 := ⟨f - 1, by omega⟩
    have e : k = 83 := by omega
    subst e
    rw [Fi_greatestGroup_2, if_neg (by decide)]
    exact cg29 hT hh 82 0 jFU (fun _ => 0) 0 s (by omega) (bub_ge (by omega)) h3 h4
  | succ d ih =>
    intro k f s h1 h2 h3 h4
    obtain ⟨f, rfl⟩ : ∃ g, f = g + 1 := ⟨f - 1, by omega⟩
    obtain ⟨t, t1, t2⟩ := ih (k + 1) f (jup s 21 k 0) (by omega) (by omega) (fun i i1 i2 => by rw [u_ne (by omega)]; exact h3 i i1 i2) (fun i i1 i2 => by
      by_cases q : i = k
      · exact u_eq ⟨rfl, q⟩
      · rw [u_ne (by omega)]; exact h4 i i1 (by omega))
    have c1 : (k : Int) < 83 := by omega
    have c2 : (0 : Int) ≤ k ∧ (k : Int) < 83 := by omega
    have c3 : ((k + 1 : Nat) : Int) = (k : Int) + 1 := by omega
    have c4 : k < 1000 := by omega
    rw [c3] at t1
    refine ⟨t, ?_, EX.tr ((EX.rf _ _).up rfl) t2⟩
    rw [Fi_greatestGroup_2, w32n c4, if_pos c1, if_pos c2]
    exact t1
theorem cg {T h : Int} (hT : 1 ≤ T ∧ T ≤ 100) (hh : 1 ≤ h ∧ h ≤ 9) {G : Int → Int} {s : jM} (hs : ∀ i, 0 ≤ i → i < 82 → s 20 i = G i) : ∃ t, Fi_greatestGroup 16 T h s = some (gg T G h, t) ∧ EX r21 s t := cg2 hT hh 83 0 jFU s (by omega) (bub_ge (by omega)) hs (fun i i1 i2 => by omega)
theorem rg29 {T h m : Int} (hm : 0 ≤ m ∧ m < 5) (hT : 1 ≤ T ∧ T ≤ 100) (hh : 1 ≤ h ∧ h ≤ 9) {G : Int → Int} : ∀ (d k f : Nat) (c : Int → Int) (x : Int) (s : jM), k + d = 82 → d < f → s 160 (54 + m) = T → (∀ i, 0 ≤ i → i < 82 → s 167 i = G i) → (∀ i, 0 ≤ i → i < 83 → s 168 i = c i) → ∃ t, Md_mostAlike_29 f 155 m h x k s = some (ggf T h G d k c x, t) ∧ EX r168 s t := by
  intro d
  induction d with
  | zero =>
    intro k f c x s h1 h2 h0 h3 h4
    obtain ⟨f, rfl⟩ : ∃ g, f = g + 1 := ⟨f - 1, by omega⟩
    have e : k = 82 := by omega
    subst e
    exact ⟨s, by rw [Md_mostAlike_29, if_neg (by decide)]; rfl, EX.rf _ _⟩
  | succ d ih =>
    intro k f c x s h1 h2 h0 h3 h4
    obtain ⟨f, rfl⟩ : ∃ g, f = g + 1 := ⟨f - 1, by omega⟩
    have c1 : (k : Int) < 82 := by omega
    have c2 : (0 : Int) ≤ k ∧ (k : Int) < 82 := by omega
    have c3 : ((k + 1 : Nat) : Int) = (k : Int) + 1 := by omega
    have c4 : k < 1000 := by omega
    have b1 : w32 (54 + m) = 54 + m := w32_id (by omega) (by omega)
    have lb := lst_b (f := (k : Int)) (h := T) (n := h) c2.1 (by omega) (by omega)
    have lv : 0 ≤ lst (k : Int) T h ∧ lst (k : Int) T h < 100 := by omega
    have lv2 : lst (k : Int) T h < 83 := by omega
    have l2 : lst2 (k : Int) T h = lst (k : Int) T h := by omega
    have lw : w32 (lst (k : Int) T h) = lst (k : Int) T h := w32_id (by omega) (by omega)
    rw [Md_mostAlike_29, w32n c4, if_pos c1, b1, if_pos (by omega)]
    show ∃ t, (jb (Md_lastsOf k (s 160 (54 + m)) h s) _) = _ ∧ _
    rw [h0, Md_lastsOf_eq (by omega) (by omega) (by omega), jb_t, l2, lw, if_pos ⟨lv, c2, lv, lv⟩]
    rw [ggf]
    generalize lst (k : Int) T h = v at lv lv2
    show ∃ t, Md_mostAlike_29 f 155 m h (jmax x (jup s 168 v (s 168 v + s 167 k) 168 v)) ((k : Int) + 1) (jup s 168 v (s 168 v + s 167 k)) = _ ∧ _
    rw [u_eq ⟨rfl, rfl⟩, h3 k c2.1 c2.2, h4 v lv.1 lv2]
    obtain ⟨t, t1, t2⟩ := ih (k + 1) f (fun i => if i = v then c v + G k else c i) (jmax x (c v + G k)) (jup s 168 v (c v + G k)) (by omega) (by omega) (by rw [u_ne (by omega)]; exact h0) (fun i i1 i2 => by rw [u_ne (by omega)]; exact h3 i i1 i2) (fun i i1 i2 => by
      show jup s 168 v (c v + G k) 168 i = if i = v then c v + G k else c i
      by_cases z : i = v
      · rw [u_eq ⟨rfl, z⟩, if_pos z]
      · rw [u_ne (by omega), if_neg z]; exact h4 i i1 i2)
    rw [c3] at t1
    exact ⟨t, t1, EX.tr ((EX.rf _ _).up rfl) t2⟩
theorem rg5 {T h m : Int} (hm : 0 ≤ m ∧ m < 5) (hT : 1 ≤ T ∧ T ≤ 100) (hh : 1 ≤ h ∧ h ≤ 9) {G : Int → Int} : ∀ (d k f : Nat) (s : jM), k + d = 100 → d < f → s 160 (54 + m) = T → (∀ i, 0 ≤ i → i < 82 → s 167 i = G i) → (∀ i, 0 ≤ i → i < (k : Int) → s 168 i = 0) → ∃ t, Md_mostAlike_5 f 155 m h 0 k s = some (gg T G h, t) ∧ EX r168 s t := by
  intro d
  induction d with
  | zero =>
    intro k f s h1 h2 h0 h3 h4
    obtain ⟨f, rfl⟩ : ∃ g, f = g + 1 := ⟨f - 1, by omega⟩
    have e : k = 100 := by omega
    subst e
    rw [Md_mostAlike_5, if_neg (by decide)]
    exact rg29 hm hT hh 82 0 jFU (fun _ => 0) 0 s (by omega) (bub_ge (by omega)) h0 h3 (fun i i1 i2 => h4 i i1 (by omega))
  | succ d ih =>
    intro k f s h1 h2 h0 h3 h4
    obtain ⟨f, rfl⟩ : ∃ g, f = g + 1 := ⟨f - 1, by omega⟩
    obtain ⟨t, t1, t2⟩ := ih (k + 1) f (jup s 168 k 0) (by omega) (by omega) (by rw [u_ne (by omega)]; exact h0) (fun i i1 i2 => by rw [u_ne (by omega)]; exact h3 i i1 i2) (fun i i1 i2 => by
      by_cases q : i = k
      · exact u_eq ⟨rfl, q⟩
      · rw [u_ne (by omega)]; exact h4 i i1 (by omega))
    have c1 : (k : Int) < 100 := by omega
    have c2 : (0 : Int) ≤ k ∧ (k : Int) < 100 := by omega
    have c3 : ((k + 1 : Nat) : Int) = (k : Int) + 1 := by omega
    have c4 : k < 1000 := by omega
    rw [c3] at t1
    refine ⟨t, ?_, EX.tr ((EX.rf _ _).up rfl) t2⟩
    rw [Md_mostAlike_5, w32n c4, if_pos c1, if_pos c2]
    exact t1
theorem rg {T h m : Int} (hm : 0 ≤ m ∧ m < 5) (hT : 1 ≤ T ∧ T ≤ 100) (hh : 1 ≤ h ∧ h ≤ 9) {G : Int → Int} {s : jM} (h0 : s 160 (54 + m) = T) (hs : ∀ i, 0 ≤ i → i < 82 → s 167 i = G i) : ∃ t, Md_mostAlike 155 m h s = some (gg T G h, t) ∧ EX r168 s t := rg5 hm hT hh 100 0 jFU s (by omega) (bub_ge (by omega)) h0 hs (fun i i1 i2 => by omega)
def bhf (g : Int → Int) : Nat → Nat → Nat → Nat
  | 0, _, b => b
  | d + 1, h, b => if w32 (g h) < w32 (g b) then bhf g d (h + 1) h else bhf g d (h + 1) b
theorem cbh {T : Int} (hT : 1 ≤ T ∧ T ≤ 100) {G : Int → Int} : ∀ (d h f b : Nat) (s : jM), h + d = 10 → d < f → 1 ≤ h → 1 ≤ b → b < h → (∀ i, 0 ≤ i → i < 82 → s 20 i = G i) → ∃ t, Fi_bestHeat_12 f 16 T b (gg T G b) h s = some (((bhf (gg T G) d h b : Nat) : Int), t) ∧ EX r21 s t := by
  intro d
  induction d with
  | zero =>
    intro h f b s h1 h2 h3 h4 h5 h6
    obtain ⟨f, rfl⟩ : ∃ g, f = g + 1 := ⟨f - 1, by omega⟩
    have e : h = 10 := by omega
    subst e
    exact ⟨s, by rw [Fi_bestHeat_12, if_pos (by decide)]; rfl, EX.rf _ _⟩
  | succ d ih =>
    intro h f b s h1 h2 h3 h4 h5 h6
    obtain ⟨f, rfl⟩ : ∃ g, f = g + 1 := ⟨f - 1, by omega⟩
    have c1 : ¬ 9 < (h : Int) := by omega
    have c3 : ((h + 1 : Nat) : Int) = (h : Int) + 1 := by omega
    have c4 : h < 1000 := by omega
    obtain ⟨u, u1, u2⟩ := cg hT (h := (h : Int)) (by omega) h6
    have u3 : ∀ i, 0 ≤ i → i < 82 → u 20 i = G i := fun i i1 i2 => by rw [u2 20 i (by unfold r21; omega)]; exact h6 i i1 i2
    rw [Fi_bestHeat_12, w32n c4, if_neg c1, u1, jb_t, bhf]
    by_cases q : w32 (gg T G h) < w32 (gg T G b)
    · obtain ⟨t, t1, t2⟩ := ih (h + 1) f h u (by omega) (by omega) (by omega) h3 (by omega) u3
      rw [c3] at t1
      rw [if_pos q, if_pos q]
      exact ⟨t, t1, u2.tr t2⟩
    · obtain ⟨t, t1, t2⟩ := ih (h + 1) f b u (by omega) (by omega) (by omega) h4 (by omega) u3
      rw [c3] at t1
      rw [if_neg q, if_neg q]
      exact ⟨t, t1, u2.tr t2⟩
theorem rbh {T m : Int} (hm : 0 ≤ m ∧ m < 5) (hT : 1 ≤ T ∧ T ≤ 100) {G : Int → Int} : ∀ (d h f b : Nat) (s : jM), h + d = 10 → d < f → 1 ≤ h → 1 ≤ b → b < h → s 160 (54 + m) = T → (∀ i, 0 ≤ i → i < 82 → s 167 i = G i) → ∃ t, Md_ask_49 f 155 m b h s = some (((bhf (gg T G) d h b : Nat) : Int), t) ∧ EX r168 s t := by
  intro d
  induction d with
  | zero =>
    intro h f b s h1 h2 h3 h4 h5 h0 h6
    obtain ⟨f, rfl⟩ : ∃ g, f = g + 1 := ⟨f - 1, by omega⟩
    have e : h = 10 := by omega
    subst e
    exact ⟨s, by rw [Md_ask_49, if_pos (by decide)]; rfl, EX.rf _ _⟩
  | succ d ih =>
    intro h f b s h1 h2 h3 h4 h5 h0 h6
    obtain ⟨f, rfl⟩ : ∃ g, f = g + 1 := ⟨f - 1, by omega⟩
    have c1 : ¬ 9 < (h : Int) := by omega
    have c3 : ((h + 1 : Nat) : Int) = (h : Int) + 1 := by omega
    have c4 : h < 1000 := by omega
    obtain ⟨u, u1, u2⟩ := rg hm hT (h := (h : Int)) (by omega) h0 h6
    have u3 : ∀ i, 0 ≤ i → i < 82 → u 167 i = G i := fun i i1 i2 => by rw [u2 167 i (by unfold r168; omega)]; exact h6 i i1 i2
    have u0 : u 160 (54 + m) = T := by rw [u2 _ _ (by unfold r168; omega)]; exact h0
    obtain ⟨x, x1, x2⟩ := rg hm hT (h := (b : Int)) (by omega) u0 u3
    have x3 : ∀ i, 0 ≤ i → i < 82 → x 167 i = G i := fun i i1 i2 => by rw [x2 167 i (by unfold r168; omega)]; exact u3 i i1 i2
    have x0 : x 160 (54 + m) = T := by rw [x2 _ _ (by unfold r168; omega)]; exact u0
    rw [Md_ask_49, w32n c4, if_neg c1, u1, jb_t, x1, jb_t, bhf]
    by_cases q : w32 (gg T G h) < w32 (gg T G b)
    · obtain ⟨t, t1, t2⟩ := ih (h + 1) f h x (by omega) (by omega) (by omega) h3 (by omega) x0 x3
      rw [c3] at t1
      rw [if_pos q, if_pos q]
      exact ⟨t, t1, (u2.tr x2).tr t2⟩
    · obtain ⟨t, t1, t2⟩ := ih (h + 1) f b x (by omega) (by omega) (by omega) h4 (by omega) x0 x3
      rw [c3] at t1
      rw [if_neg q, if_neg q]
      exact ⟨t, t1, (u2.tr x2).tr t2⟩
theorem ask_ok {s : jM} (h : INV s) {m tt k : Int} (hm : i32 m) (ht : i32 tt) (hk : i32 k) : OKc s (Jc_ask 0 m tt k) (Md_ask 155 m tt k) := by
  obtain ⟨hb, hj, hj2, -⟩ := h.b
  have hse := h.2.2.2.2.2.1.1
  obtain ⟨e6, c2⟩ := hd2 hse
  obtain ⟨r, r1, r2, r3⟩ := ft_tr h hm ht hk
  rcases r3 with r3 | ⟨r0, q1, q0, q3, hN, hn⟩
  · have f := vW_at (EX.rf _ s) r
    have r2 := r2 _ f.1 f.2.1 f.2.2
    clear f
    exact OKc.no (w := r) (r := -1) h (by simp (disch := omega) only [↓jb_m, ↓jm_s, ↓reduceIte, t_lt, t_nlt, t_le, t_nle, t_eq, t_neq, w32_id, w64_id, jb_s, and_true, true_and, and_self, and_false, false_and, or_true, true_or, or_false, false_or, or_self, not_false_eq_true, not_true_eq_false, u_ne, u_eq, u_u, Int.reduceAdd, Int.reduceSub, Int.reduceMul, Int.reduceNeg, Int.zero_add, Int.add_zero, n15, n16, q10, q11, q12, q13, q14, Jc_ask, r1, Jc_refuse]) (by simp (disch := omega) only [↓jb_m, ↓jm_s, ↓reduceIte, t_lt, t_nlt, t_le, t_nle, t_eq, t_neq, w32_id, w64_id, jb_s, and_true, true_and, and_self, and_false, false_and, or_true, true_or, or_false, false_or, or_self, not_false_eq_true, not_true_eq_false, u_ne, u_eq, u_u, Int.reduceAdd, Int.reduceSub, Int.reduceMul, Int.reduceNeg, Int.zero_add, Int.add_zero, n15, n16, q10, q11, q12, q13, q14, Md_ask, r2])
  · subst r0
    obtain ⟨G, t, t1, t2, t3, t4, t6, t5⟩ := ft_go h q1 q0 q3 hN hn
    clear hN hn t3
    by_cases q5 : w32 (psum G 82) < 2
    · have f := vW_at t2 8
      have r2 := r2 _ f.1 f.2.1 f.2.2
      obtain ⟨v, v1, v2, -⟩ := t5 (uW t 8) (uW_at t2 8).1 (uW_at t2 8).2
      have hi := mi_end h (r1622_ga t2) rfl (mi_no rfl (rMx_my v2))
      unfold uW at v1
      clear f t5 t4
      refine ⟨-1, jup t 0 0 8, jup v 155 0 8, ?_, ?_, hi⟩
      · simp (disch := omega) only [↓jb_m, ↓jm_s, ↓reduceIte, t_lt, t_nlt, t_le, t_nle, t_eq, t_neq, w32_id, w64_id, jb_s, and_true, true_and, and_self, and_false, false_and, or_true, true_or, or_false, false_or, or_self, not_false_eq_true, not_true_eq_false, u_ne, u_eq, u_u, Int.reduceAdd, Int.reduceSub, Int.reduceMul, Int.reduceNeg, Int.zero_add, Int.add_zero, n15, n16, q10, q11, q12, q13, q14, Jc_ask, r1, Jc_answer, Jc_refuse, Jc_deny, Jc_grant, Se_isMould, Se_isStuff, Se_isPlace, hj, t1, t6]
      · simp (disch := omega) only [↓jb_m, ↓jm_s, ↓reduceIte, t_lt, t_nlt, t_le, t_nle, t_eq, t_neq, w32_id, w64_id, jb_s, and_true, true_and, and_self, and_false, false_and, or_true, true_or, or_false, false_or, or_self, not_false_eq_true, not_true_eq_false, u_ne, u_eq, u_u, Int.reduceAdd, Int.reduceSub, Int.reduceMul, Int.reduceNeg, Int.zero_add, Int.add_zero, n15, n16, q10, q11, q12, q13, q14, Md_ask, r2, v1, Md_isMouldAt, Md_isStuffAt, Md_isPlaceAt, Md_isTray, Md_isIn_1, Md_isIn_0, Md_refuse, Md_no]
    · have hbb := h.b.1
      have m1 := mo_at hse q1
      have m5 : 0 ≤ m ∧ m < 5 := ⟨q1.1, m1.1⟩
      have m10 := m1.2.1.1
      have hT : 1 ≤ s 160 (54 + m) ∧ s 160 (54 + m) ≤ 100 := by
        have := m1.2.2.2.2.1
        omega
      obtain ⟨u, u1, u2⟩ := cg hT (h := 1) (by omega) t4
      obtain ⟨x, x1, x2⟩ := cbh hT (G := G) 8 2 jFU 1 u (by omega) (bub_ge (by omega)) (by omega) (by omega) (by omega) (fun i i1 i2 => by rw [u2 20 i (by unfold r21; omega)]; exact t4 i i1 i2)
      have tx : EX r1622 s x := t2.tr ((u2.tr x2).wk (fun a b q => by unfold r21 at q; unfold r1622; omega))
      have f := vW_at tx 0
      have r2 := r2 _ f.1 f.2.1 f.2.2
      obtain ⟨v, v1, v2, v3⟩ := t5 (uW x 0) (uW_at tx 0).1 (uW_at tx 0).2
      have v0 : v 160 (54 + m) = s 160 (54 + m) := by
        rw [v2 _ _ (by unfold rMx; omega)]
        exact (uW_at tx 0).1 _
      obtain ⟨w, w1, w2⟩ := rbh m5 hT (G := G) 8 2 jFU 1 v (by omega) (bub_ge (by omega)) (by omega) (by omega) (by omega) v0 v3
      have bh : Fi_bestHeat 16 (s 160 (54 + m)) t = some (((bhf (gg (s 160 (54 + m)) G) 8 2 1 : Nat) : Int), x) := by
        rw [Fi_bestHeat, u1, jb_t]
        exact x1
      have w1' : Md_ask_49 jFU 155 m 1 2 v = some (((bhf (gg (s 160 (54 + m)) G) 8 2 1 : Nat) : Int), w) := w1
      have hi := mi_end h (r1622_ga tx) rfl (EX.tr (rMx_my v2) (w2.wk (fun a b q => by unfold r168 at q; unfold rMy; omega)))
      have t05 : t 0 5 = s 0 5 := t2 _ _ (by unfold r1622; omega)
      have tT : t (s 0 5 + (15 + 2 * m)) 0 = s 160 (54 + m) := by rw [t2 _ _ (by unfold r1622; omega)]; exact m10
      have n0 : 0 ≤ w32 (psum G 82) ∨ True := Or.inr trivial
      unfold uW at v1
      generalize ((bhf (gg (s 160 (54 + m)) G) 8 2 1 : Nat) : Int) = R at bh w1'
      clear w1 x1 u1 w2 x2 u2 v2 v0 v3 t4 t5 f m1 hbb tx t2 n0
      generalize psum G 82 = S at *
      refine ⟨R, jup x 0 0 0, w, ?_, ?_, hi⟩
      · rw [Jc_ask, r1, jb_t, if_pos (by decide), t1, jb_t, show (0 : Int) + 16 = 16 from rfl, t6, jb_t, if_neg q5, t05, w32_id (x := m) (by omega) (by omega), if_pos ⟨hj, m5⟩]
        show jb (Fi_bestHeat 16 (t (s 0 5 + 4 + 11 + 2 * m) 0) t) _ = _
        rw [show s 0 5 + 4 + 11 + 2 * m = s 0 5 + (15 + 2 * m) by omega, tT, bh, jb_t]
        rfl
      · clear hi t1 t6 bh
        rw [Md_ask, r2, jb_t]
        show (if 0 < w32 (jup (jup (jup x 0 0 0) 155 1 0) 155 0 0 155 0) then _ else _) = _
        rw [u_eq ⟨rfl, rfl⟩, if_neg (by decide), v1, jb_t, if_neg q5]
        exact w1'
