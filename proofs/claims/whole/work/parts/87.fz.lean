/-! feasts: the end -/
theorem iSe_c {V : jM} {c c' : Int → Int} (h : iSe V c) (e : ∀ o, 0 ≤ o → o < 109 → c' o = c o) : iSe V c' := by
  have hb := h.1
  have e0 := e 0 (by omega) (by omega)
  have e1 := e 1 (by omega) (by omega)
  have e2 := e 2 (by omega) (by omega)
  have e3 := e 3 (by omega) (by omega)
  have e4 := e 4 (by omega) (by omega)
  have e5 := e 5 (by omega) (by omega)
  have e6 := e 6 (by omega) (by omega)
  have e7 := e 7 (by omega) (by omega)
  have e8 := e 8 (by omega) (by omega)
  unfold iHd at hb
  obtain ⟨h1, h2, h3, h4, h5⟩ := h
  refine ⟨?_, fun j j1 j2 => ?_, fun i i1 i2 => ?_, fun i i1 i2 => ?_, ?_⟩
  · unfold iHd at *
    simp only [e0, e1, e2, e3, e4, e5, e6, e8]
    exact h1
  · rw [e0] at j2
    have := h2 j j1 j2
    unfold iSt at *
    simp only [e (9 + j) (by omega) (by omega), e (14 + j) (by omega) (by omega), e (19 + j) (by omega) (by omega)]
    exact this
  · rw [e2] at i2
    have := h3 i i1 i2
    have ms : mstr c' i = mstr c i := sum5_congr (fun j j1 j2 => by
      show c' (84 + 5 * i + j) * c' (9 + j) = c (84 + 5 * i + j) * c (9 + j)
      rw [e (84 + 5 * i + j) (by omega) (by omega), e (9 + j) (by omega) (by omega)])
    have mc : mcnt c' i = mcnt c i := sum5_congr (fun j j1 j2 => e _ (by omega) (by omega))
    obtain ⟨p1, p2, p3, p4, p5, p6, p7⟩ := this
    unfold iMo
    simp only [ms, mc, e0, e1, e (54 + i) (by omega) (by omega), e (59 + i) (by omega) (by omega), e (64 + i) (by omega) (by omega), e (69 + i) (by omega) (by omega), e (74 + i) (by omega) (by omega), e (79 + i) (by omega) (by omega)]
    exact ⟨p1, fun j j1 j2 => by rw [e (84 + 5 * i + j) (by omega) (by omega)]; exact p2 j j1 j2, fun j j1 j2 j3 => by rw [e (84 + 5 * i + j) (by omega) (by omega)]; exact p3 j j1 j2 j3, p4, p5, p6, p7⟩
  · rw [e2] at i1
    rw [e (79 + i) (by omega) (by omega)]
    exact h4 i i1 i2
  · rw [e7, h5]
    exact sum5_congr (fun i i1 i2 => (e _ (by omega) (by omega)).symm)
theorem NMx_of {s : jM} {b : Int} (h : iB (vw s b) (cw s 0) (ww s 0)) : NMx s s b 0 := by
  have hd := (hd_at h.1).2
  obtain ⟨⟨n1, n2, n3, n4⟩, -⟩ := h.2.2
  have x0 : xV (vw s b) 0 8 = s b 8 := by rw [xV_at (by omega), vw_at (by omega), Int.add_zero]
  have x6 : xV (vw s b) 6 = s (b + 6) := funext fun j => by rw [xV_at (by omega), vw_at (by omega)]
  have x7 : xV (vw s b) 7 = s (b + 7) := funext fun j => by rw [xV_at (by omega), vw_at (by omega)]
  have x8 : xV (vw s b) 8 = s (b + 8) := funext fun j => by rw [xV_at (by omega), vw_at (by omega)]
  have cx : ∀ t, 0 ≤ t → t ≤ 2 → xc (cw s 0) t = s 160 t := fun t a c => by rw [xc_at (by omega), cw_at (by omega)]
  rw [x0, cx 0 (by omega) (by omega), cx 1 (by omega) (by omega), cx 2 (by omega) (by omega)] at n1
  rw [x0, x6, x7, x8] at n2
  rw [x0, x7, x8] at n3
  rw [x0, x6] at n4
  have e : ∀ t, s 160 (381 * 0 + t) = s 160 t := fun t => by rw [show (381 : Int) * 0 + t = t by omega]
  have ew : ∀ t, s 163 (16 * 0 + t) = s 163 t := fun t => by rw [show (16 : Int) * 0 + t = t by omega]
  have bnd : ∀ t, 0 ≤ t → t ≤ 2 → 0 ≤ s 160 t ∧ s 160 t ≤ (if t = 1 then 6 else 5) := fun t a c => by
    rcases (by omega : t = 0 ∨ t = 1 ∨ t = 2) with q | q | q <;> subst q
    · rw [if_neg (by omega)]; omega
    · rw [if_pos rfl]; omega
    · rw [if_neg (by omega)]; omega
  refine ⟨?_, fun t a c => ?_, fun k k1 k2 => ?_, fun t j t1 t2 j1 j2 => ?_, n4⟩
  · show s b 8 = s 160 (381 * 0 + 0) + s 160 (381 * 0 + 1) + s 160 (381 * 0 + 2)
    rw [e, e, e]; exact n1
  · show 0 ≤ s 160 (381 * 0 + t) ∧ s 160 (381 * 0 + t) ≤ _
    rw [e]; exact bnd t a c
  · obtain ⟨y1, y2, y3, y4, y5⟩ := n2 k k1 k2
    rw [cx _ y1 y2] at y4
    have yb := bnd (s (b + 7) k) y1 y2
    have nb := nfr_b ⟨y1, y2⟩ (j := s (b + 8) k) ⟨y3, by omega⟩
    rw [ww_at nb] at y5
    refine ⟨y1, y2, y3, ?_, ?_⟩
    · show s (b + 8) k < s 160 (381 * 0 + s (b + 7) k)
      rw [e]; exact y4
    · show WD (s (b + 6) k) (s 163 (16 * 0 + (nfr (s (b + 7) k) + s (b + 8) k)))
      rw [ew]; exact y5
  · have j2 : j < s 160 (381 * 0 + t) := j2
    rw [e] at j2
    exact n3 t j t1 t2 j1 (by rw [cx t t1 t2]; exact j2)
theorem fe80 {n : Nat} (hn : n ≤ 30) : ∀ (d f k : Nat) (u : jM), k + d = 9 * n → d < f → u 155 26 = n → (∀ i, 0 ≤ i → i < (k : Int) → u 160 (111 + i) = u 160 (1635 + i)) → ∃ t, Md_feasts_80 f 155 k u = some ((n : Int), t) ∧ (∀ i, 0 ≤ i → i < 9 * (n : Int) → t 160 (111 + i) = u 160 (1635 + i)) ∧ ∀ a b, ¬ (a = 160 ∧ 111 ≤ b ∧ b < 111 + 9 * (n : Int)) → t a b = u a b := by
  intro d
  induction d with
  | zero =>
    intro f k u h1 h2 h3 h4
    obtain ⟨f, rfl⟩ : ∃ g, f = g + 1 := ⟨f - 1, by omega⟩
    refine ⟨u, ?_, fun i i1 i2 => h4 i i1 (by omega), fun a b _ => rfl⟩
    rw [Md_feasts_80, h3, w32_id (x := (k : Int)) (by omega) (by omega), w32_id (x := 9 * (n : Int)) (by omega) (by omega), if_neg (by omega)]
  | succ d ih =>
    intro f k u h1 h2 h3 h4
    obtain ⟨f, rfl⟩ : ∃ g, f = g + 1 := ⟨f - 1, by omega⟩
    have c3 : ((k + 1 : Nat) : Int) = (k : Int) + 1 := by omega
    obtain ⟨t, t1, t2, t3⟩ := ih f (k + 1) (jup u 160 (111 + k) (u 160 (1635 + k))) (by omega) (by omega) (by rw [u_ne (by omega)]; exact h3) (fun i i1 i2 => by
      rw [u_ne (a := 160) (b := 1635 + i) (by omega)]
      by_cases q : i = k
      · rw [q, u_eq ⟨rfl, rfl⟩]
      · rw [u_ne (by omega)]; exact h4 i i1 (by omega))
    rw [c3] at t1
    refine ⟨t, ?_, fun i i1 i2 => by rw [t2 i i1 i2, u_ne (by omega)], fun a b z => by rw [t3 a b z, u_ne (by omega)]⟩
    rw [Md_feasts_80, h3, w32_id (x := (k : Int)) (by omega) (by omega), w32_id (x := 9 * (n : Int)) (by omega) (by omega), if_pos (by omega), w32_id (x := 1635 + (k : Int)) (by omega) (by omega), w32_id (x := 111 + (k : Int)) (by omega) (by omega), if_pos (by omega)]
    exact t1
/-- the feasts that were read stand where the See that is now keeps its own -/
theorem iB_feasts {b : Int} {s z : jM} (h : iB (vw s b) (cw s 0) (ww s 0)) (hV : ∀ i j, 0 ≤ i → i < 25 → ¬ (9 ≤ i ∧ i ≤ 14) → z (b + i) j = s (b + i) j) (hc : ∀ o, 0 ≤ o → o < 109 → z 160 o = s 160 o) (hw : ∀ i, 0 ≤ i → i < 16 → z 163 i = s 163 i) (h0 : z (b + 9) 0 = 1) (h9 : z 160 109 = 1) {n m : Int} (h1 : z (b + 9) 1 = n) (h10 : z 160 110 = n) (hn : 0 ≤ n ∧ n ≤ 30) (h2 : z (b + 9) 2 = m) (hm : 0 ≤ m ∧ m ≤ 60) {V : jM} {c : Int → Int} (hk : BKE V c 3 0 n 0 m) (kV : ∀ i j, 10 ≤ i → i ≤ 14 → 0 ≤ j → j < m → z (b + i) j = V i j) (kc0 : z 160 0 = c 0 ∧ z 160 1 = c 1 ∧ z 160 2 = c 2) (kc : ∀ o, 111 ≤ o → o < 111 + 9 * n → z 160 o = c o) : iB (vw z b) (cw z 0) (ww z 0) := by
  have hd := (hd_at h.1).2
  obtain ⟨se, c5, ⟨n1, n2, n3, n4⟩, mp, wk, fs⟩ := h
  have vv : ∀ i j, ¬ (9 ≤ i ∧ i ≤ 14) → vw z b i j = vw s b i j := fun i j q => by
    by_cases w : 0 ≤ i ∧ i < 25
    · rw [vw_at w, vw_at w]; exact hV i j w.1 w.2 q
    · show (if 0 ≤ i ∧ i < 25 then z (b + i) j else 0) = if 0 ≤ i ∧ i < 25 then s (b + i) j else 0
      rw [if_neg w, if_neg w]
  have cc : ∀ o, 0 ≤ o → o < 109 → cw z 0 o = cw s 0 o := fun o a d => by rw [cw_at (by omega), cw_at (by omega)]; exact hc o a d
  have xx : ∀ i j, i ≤ 8 → xV (vw z b) i j = xV (vw s b) i j := fun i j q => by
    unfold xV
    rw [vv i j (by omega)]
  have xr : ∀ i, i ≤ 8 → xV (vw z b) i = xV (vw s b) i := fun i q => funext fun j => xx i j q
  have cx : ∀ o, 0 ≤ o → o < 109 → xc (cw z 0) o = xc (cw s 0) o := fun o a d => by
    unfold xc
    rw [cc o a d]
  have wz : ww z 0 = ww s 0 := ww_congr (fun o a d => by rw [show (16 : Int) * 0 + o = o by omega]; exact hw o a d)
  refine ⟨iSe_c (iSe_copy se (fun j _ _ => vv _ _ (by omega)) (fun i j a d _ _ => vv _ _ (by omega)) (fun m j a d _ _ => vv _ _ (by omega)) (fun m j a d _ _ => vv _ _ (by omega))) cc, by rw [cc 5 (by omega) (by omega)]; exact c5, ⟨?_, fun k k1 k2 => ?_, fun t j t1 t2 j1 j2 => ?_, fun k k' a1 a2 a3 a4 e => ?_⟩, ?_, ?_, ?_⟩
  · rw [xx 0 8 (by omega), cx 0 (by omega) (by omega), cx 1 (by omega) (by omega), cx 2 (by omega) (by omega)]; exact n1
  · rw [xx 0 8 (by omega)] at k2
    rw [xr 7 (by omega), xr 8 (by omega), xr 6 (by omega), wz]
    have := n2 k k1 k2
    rw [cx _ this.1 (by omega)]
    exact this
  · rw [cx t t1 (by omega)] at j2
    rw [xx 0 8 (by omega), xr 7 (by omega), xr 8 (by omega)]
    exact n3 t j t1 t2 j1 j2
  · rw [xx 0 8 (by omega)] at a2 a4
    rw [xr 6 (by omega)] at e
    exact n4 k k' a1 a2 a3 a4 e
  · rw [xr 5 (by omega)]
    refine MINP_cg (cx 8 (by omega) (by omega)) ?_ (fun o a d => cx o (by omega) (by omega)) mp
    rw [xc_at (by omega), cw_at (by omega)]; omega
  · refine WKS_cg (cx 8 (by omega) (by omega)) ?_ (cx 1 (by omega) (by omega)) (fun o a d => cx o (by omega) (by omega)) wk
    rw [xc_at (by omega), cw_at (by omega)]; omega
  · have x9 : ∀ j, xV (vw z b) 9 j = z (b + 9) j := fun j => by rw [xV_at (by omega), vw_at (by omega)]
    have ch : ∀ o, 109 ≤ o → o < 381 → xc (cw z 0) o = z 160 o := fun o a d => by rw [xc_at (by omega), cw_at (by omega)]
    have cl : ∀ o, 0 ≤ o → o ≤ 2 → xc (cw z 0) o = z 160 o := fun o a d => by rw [xc_at (by omega), cw_at (by omega)]
    unfold FST
    right
    rw [x9, x9, x9, ch 109 (by omega) (by omega), ch 110 (by omega) (by omega), h0, h9, h1, h10, h2]
    refine ⟨rfl, rfl, rfl, hn.1, hn.2, hm.1, hm.2, ?_⟩
    exact BKE_cg hk (fun i j i1 i2 j1 j2 => by rw [xV_at (by omega), vw_at (by omega)]; exact kV i j i1 i2 j1 j2) ⟨by rw [cl 0 (by omega) (by omega)]; exact kc0.1, by rw [cl 1 (by omega) (by omega)]; exact kc0.2.1, by rw [cl 2 (by omega) (by omega)]; exact kc0.2.2⟩ (fun o o1 o2 => by rw [ch o (by omega) (by omega)]; exact kc o (by omega) (by omega))
