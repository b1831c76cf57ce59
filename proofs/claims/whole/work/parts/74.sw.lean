/-! a walk of a see -/
def wC (x1 v1 : Int) (s1 : jM) : Option (Int × jM) := if jok 5 (s1 13 0) = true then jb (Te_takeWord (s1 13 0) 8 s1) fun v2 s2 => if jok 5 (s2 13 0) = true then jb (Te_takeNumber (s2 13 0) 0 9 s2) fun v3 s3 => if jok 5 (s3 13 0) = true then jb (Te_isWell (s3 13 0) s3) fun v4 s4 => if (w32 v4) = 0 then (some (0, s4)) else (if jok 3 (s4 13 1) = true then jb (Se_addWalk (s4 13 1) x1 v1 v3 s4) fun v5 s5 => some (0, s5) else none) else none else none else none
def wR (x1 x2 x3 : Int) (s1 : jM) : Option (Int × jM) := jb (Md_isShakes 155 s1) fun v2 s2 => jb (Md_behindWord 155 v2 0 9 s2) fun v3 s3 => if 0 < (w32 (s3 155 12)) then (some (0, s3)) else (if (0 ≤ (w32 (1548 + x1)) ∧ (w32 (1548 + x1)) < 1905) ∧ (0 ≤ (w32 (1558 + x1)) ∧ (w32 (1558 + x1)) < 1905) ∧ (0 ≤ (w32 (1568 + x1)) ∧ (w32 (1568 + x1)) < 1905) then jm (jup (jup (jup s3 160 (w32 (1548 + x1)) x2) 160 (w32 (1558 + x1)) x3) 160 (w32 (1568 + x1)) v3) fun s4 => some (0, (jup s4 160 1532 ((s4 160 1532) + 1))) else none)
theorem addWalk_eq {B p q h : Int} {s : jM} (hp : 0 ≤ p ∧ p < 6) (hq : 0 ≤ q ∧ q < 6) : Se_addWalk B p q h s = some (0, jup (jup (jup s (B + 5) (6 * p + q) (jmin (s (B + 5) (6 * p + q)) (h * 64 + 1))) (B + 5) (6 * q + p) (jmin (s (B + 5) (6 * p + q)) (h * 64 + 1))) B 7 (s B 7 + 1)) := by
  rw [Se_addWalk, show p * 6 + q = 6 * p + q by omega, show q * 6 + p = 6 * q + p by omega, w32_id (x := 6 * p + q) (by omega) (by omega), w32_id (x := 6 * q + p) (by omega) (by omega), if_pos (by omega), u_eq ⟨rfl, rfl⟩]
  show some ((0 : Int), jup (jup (jup s (B + 5) (6 * p + q) (jmin (s (B + 5) (6 * p + q)) (h * 64 + 1))) (B + 5) (6 * q + p) (jmin (s (B + 5) (6 * p + q)) (h * 64 + 1))) B 7 (jup (jup s (B + 5) (6 * p + q) (jmin (s (B + 5) (6 * p + q)) (h * 64 + 1))) (B + 5) (6 * q + p) (jmin (s (B + 5) (6 * p + q)) (h * 64 + 1)) B 7 + 1)) = _
  rw [u_ne (by omega), u_ne (by omega)]
theorem walk_end {B n p q h : Int} (hB : B = 30 ∨ B = 55) {s u : jM} (hr : RDs B s u) (hn : u 160 1532 = n) (hl : 0 ≤ n ∧ n < 10) (hp : 0 ≤ p ∧ p < u 160 1525) (hq : 0 ≤ q ∧ q < u 160 1525) (hne : p ≠ q) (hh : 0 ≤ h ∧ h ≤ 9) : RDs B (jup (jup (jup s (B + 5) (6 * p + q) (jmin (s (B + 5) (6 * p + q)) (h * 64 + 1))) (B + 5) (6 * q + p) (jmin (s (B + 5) (6 * p + q)) (h * 64 + 1))) B 7 (s B 7 + 1)) (jup (jup (jup (jup u 160 (1548 + n) p) 160 (1558 + n) q) 160 (1568 + n) h) 160 1532 (n + 1)) := by
  have bd := RS_b hr
  obtain ⟨r1, r2, r3, r4, r5, ⟨r6, r8⟩, r7⟩ := hr
  have c7 : s B 7 = u 160 1532 := r2.2.2.2.2.2.2.2.2.2.2.2.1
  obtain ⟨m, hm⟩ : ∃ m, m = jmin (s (B + 5) (6 * p + q)) (h * 64 + 1) := ⟨_, rfl⟩
  rw [← hm]
  obtain ⟨S, hS⟩ : ∃ S, S = jup (jup (jup s (B + 5) (6 * p + q) m) (B + 5) (6 * q + p) m) B 7 (s B 7 + 1) := ⟨_, rfl⟩
  obtain ⟨U, hU⟩ : ∃ U, U = jup (jup (jup (jup u 160 (1548 + n) p) 160 (1558 + n) q) 160 (1568 + n) h) 160 1532 (n + 1) := ⟨_, rfl⟩
  have F : ∀ a b, a ≠ B + 5 → ¬ (a = B ∧ b = 7) → S a b = s a b := fun a b z1 z2 => by rw [hS, u_ne z2, u_ne (by omega), u_ne (by omega)]
  have G : ∀ a b, ¬ (a = 160 ∧ (b = 1548 + n ∨ b = 1558 + n ∨ b = 1568 + n ∨ b = 1532)) → U a b = u a b := fun a b z => by rw [hU, u_ne (by omega), u_ne (by omega), u_ne (by omega), u_ne (by omega)]
  have d1 : U 160 (1548 + n) = p := by rw [hU, u_ne (by omega), u_ne (by omega), u_ne (by omega), u_eq ⟨rfl, rfl⟩]
  have d2 : U 160 (1558 + n) = q := by rw [hU, u_ne (by omega), u_ne (by omega), u_eq ⟨rfl, rfl⟩]
  have d3 : U 160 (1568 + n) = h := by rw [hU, u_ne (by omega), u_eq ⟨rfl, rfl⟩]
  have d4 : U 160 1532 = n + 1 := by rw [hU, u_eq ⟨rfl, rfl⟩]
  have g5 : U 160 1525 = u 160 1525 := G _ _ (by omega)
  have wk0 : ∀ x, 0 ≤ x → x < n → 0 ≤ u 160 (1548 + x) ∧ u 160 (1548 + x) < u 160 1525 ∧ 0 ≤ u 160 (1558 + x) ∧ u 160 (1558 + x) < u 160 1525 ∧ u 160 (1548 + x) ≠ u 160 (1558 + x) ∧ 0 ≤ u 160 (1568 + x) ∧ u 160 (1568 + x) ≤ 9 := fun x x1 x2 => by
    have := r6 x x1 (by rw [← hn] at x2; exact x2)
    have e1 : cR u (24 + x) = u 160 (1548 + x) := by show u 160 (1524 + (24 + x)) = _; rw [show 1524 + (24 + x) = 1548 + x by omega]
    have e2 : cR u (34 + x) = u 160 (1558 + x) := by show u 160 (1524 + (34 + x)) = _; rw [show 1524 + (34 + x) = 1558 + x by omega]
    have e3 : cR u (44 + x) = u 160 (1568 + x) := by show u 160 (1524 + (44 + x)) = _; rw [show 1524 + (44 + x) = 1568 + x by omega]
    rw [e1, e2, e3] at this
    exact this
  have cU : ∀ x, cR U (24 + x) = U 160 (1548 + x) ∧ cR U (34 + x) = U 160 (1558 + x) ∧ cR U (44 + x) = U 160 (1568 + x) := fun x => by
    refine ⟨?_, ?_, ?_⟩
    · show U 160 (1524 + (24 + x)) = _; rw [show 1524 + (24 + x) = 1548 + x by omega]
    · show U 160 (1524 + (34 + x)) = _; rw [show 1524 + (34 + x) = 1558 + x by omega]
    · show U 160 (1524 + (44 + x)) = _; rw [show 1524 + (44 + x) = 1568 + x by omega]
  have hE : E0 64 1000000 (s (B + 5)) (cR U) n := by
    intro a b a1 a2 b1 b2
    rw [hn] at r8
    obtain ⟨x1, x2⟩ := r8 a b a1 a2 b1 b2
    have cg : ∀ {a b z}, EDW (cR U) n a b z ↔ EDW (cR u) n a b z := by
      intro a b z
      have e : ∀ x, 0 ≤ x → x < n → cR U (24 + x) = cR u (24 + x) ∧ cR U (34 + x) = cR u (34 + x) ∧ cR U (44 + x) = cR u (44 + x) := fun x y1 y2 => ⟨G _ _ (by omega), G _ _ (by omega), G _ _ (by omega)⟩
      constructor
      · rintro ⟨x, y1, y2, y3, y4⟩
        obtain ⟨e1, e2, e3⟩ := e x y1 y2
        rw [e1, e2] at y3
        rw [e3] at y4
        exact ⟨x, y1, y2, y3, y4⟩
      · rintro ⟨x, y1, y2, y3, y4⟩
        obtain ⟨e1, e2, e3⟩ := e x y1 y2
        rw [← e1, ← e2] at y3
        rw [← e3] at y4
        exact ⟨x, y1, y2, y3, y4⟩
    refine ⟨x1, fun ne => ?_⟩
    obtain ⟨y1, y2⟩ := x2 ne
    refine ⟨fun z hz => y1 z (cg.1 hz), ?_⟩
    rcases y2 with y2 | ⟨z, z1, z2⟩
    · exact Or.inl y2
    · exact Or.inr ⟨z, cg.2 z1, z2⟩
  have b1 : ∀ z, (∃ p q, EDW (cR U) n p q z) → 64 * z + 1 ≤ 1000000 := by
    rintro z ⟨a, b, x, x1, x2, -, x4⟩
    have := wk0 x x1 x2
    rw [(cU x).2.2, G _ _ (by omega)] at x4
    omega
  have p6 : 0 ≤ p ∧ p < 6 := by omega
  have q6 : 0 ≤ q ∧ q < 6 := by omega
  have hsy := E0_sym hE b1 p6 q6 hne
  have hbd : 0 ≤ s (B + 5) (6 * p + q) ∧ s (B + 5) (6 * p + q) ≤ 1000000 := by
    rcases ((hE p q p6.1 p6.2 q6.1 q6.2).2 hne).2 with z | ⟨z, ⟨x, x1, x2, -, x4⟩, z2⟩
    · omega
    · have := wk0 x x1 x2
      rw [(cU x).2.2, G _ _ (by omega)] at x4
      omega
  have hjm : m = if 64 * h + 1 < s (B + 5) (6 * p + q) then 64 * h + 1 else s (B + 5) (6 * p + q) := by
    rw [hm, show h * 64 + 1 = 64 * h + 1 by omega]
    exact jmin_e (by unfold i32; omega) (by unfold i32; omega)
  have hst : E0 64 1000000 (S (B + 5)) (cR U) (n + 1) := by
    refine E0_step (x := p) (y := q) (h := h) hE hl.1 (by rw [(cU n).1]; exact d1) (by rw [(cU n).2.1]; exact d2) (by rw [(cU n).2.2]; exact d3) p6 q6 hne (fun a b a1 a2 c1 c2 => ?_) (by omega) (by omega) hsy
    rw [← hjm, hS, u_ne (by omega)]
    by_cases hc : (a = p ∧ b = q) ∨ (a = q ∧ b = p)
    · rw [if_pos hc]
      rcases hc with z | z
      · rw [u_ne (by omega), u_eq ⟨rfl, by omega⟩]
      · rw [u_eq ⟨rfl, by omega⟩]
    · rw [if_neg hc, u_ne (by omega), u_ne (by omega)]
  have hwk : WKS (cR U) := by
    intro x x1 x2
    have x2 : x < U 160 1532 := x2
    rw [d4] at x2
    obtain ⟨e1, e2, e3⟩ := cU x
    have f1 : cR U 1 = u 160 1525 := g5
    rw [e1, e2, e3, f1]
    by_cases z : x = n
    · rw [z, d1, d2, d3]
      omega
    · rw [G 160 (1548 + x) (by omega), G 160 (1558 + x) (by omega), G 160 (1568 + x) (by omega)]
      exact wk0 x x1 (by omega)
  rw [← hS, ← hU]
  refine ⟨R13_fr r1 (fun b _ _ => F _ _ (by omega) (by omega)) (G _ _ (by omega)), RHd_of r2 7 1532 (Or.inr (Or.inr (Or.inr (Or.inr (Or.inr ⟨rfl, rfl, by rw [d4]; omega⟩))))) (by rw [d4, hS, u_eq ⟨rfl, rfl⟩, c7, hn]) (fun b z1 z2 z => F _ _ (by omega) (by omega)) (fun o _ _ z => G _ _ (by omega)), RNm_fr r3 (F _ _ (by omega) (by omega)) (fun a b _ _ => F _ _ (by omega) (by omega)) (fun o _ _ => G _ _ (by omega)) (fun i => G _ _ (by omega)), RSt_fr r4 bd.2.1.2 (fun a b _ _ => F _ _ (by omega) (by omega)) (G _ _ (by omega)) (fun o _ _ => G _ _ (by omega)), RMo_fr r5 bd.2.2.2.1.2 (fun a b _ _ => F _ _ (by omega) (by omega)) (G _ _ (by omega)) (by rw [g5]; omega) (fun o _ _ => G _ _ (by omega)), ⟨hwk, by rw [d4]; exact hst⟩, RZe_fr r7 (F _ _ (by omega) (by omega)) (F _ _ (by omega) (by omega)) (fun o _ => G _ _ (by omega))⟩
/-- from the word that tells the shakes -/
theorem sw_rest {B n p q p' q' : Int} (hB : B = 30 ∨ B = 55) {s u s4 u4 : jM} (hr : RDs B s u) (hn : u 160 1532 = n) (hl : 0 ≤ n ∧ n < 10) (hC : EX rC s s4) (hD : EX rD u u4) (m4 : TW s4 u4 ∨ BD s4 u4) (hv : TW s4 u4 → p = p' ∧ q = q' ∧ (0 ≤ p ∧ p < u 160 1525) ∧ (0 ≤ q ∧ q < u 160 1525) ∧ p ≠ q ∧ s 11 2 ≤ s4 11 3) : ∃ s' u', wC p q s4 = some (0, s') ∧ wR n p' q' u4 = some (0, u') ∧ PO B s u s' u' := by
  have hb : 20 ≤ B := by omega
  obtain ⟨x1, x1e, x1v⟩ := kt_8 s4 u4
  obtain ⟨s5, u5, e1, e2, e3⟩ := tk_word2 m4 (k := 8) (by omega) x1v
  obtain ⟨v6, w6, s6, u6, i1, i2, i3, i4⟩ := tk_num2 (EC_m e3) (lo := 0) (hi := 9) (by omega) (by omega)
  have sv := RS_SV hr
  have f4 : ∀ a b, a ≠ 11 → s4 a b = s a b := fun a b z => hC a b (fun y => z y.1)
  have f5 : ∀ a b, a ≠ 11 → s5 a b = s a b := fun a b z => by rw [e3.2.1 a b (fun y => z y.1), f4 a b z]
  have f6 : ∀ a b, a ≠ 11 → s6 a b = s a b := fun a b z => by rw [i3.2.1 a b (fun y => z y.1), f5 a b z]
  have C6 : EX rC s s6 := (hC.tr e3.2.1).tr i3.2.1
  have D6 : EX rD u u6 := (hD.tr e3.2.2.1).tr i3.2.2.1
  have hr6 := RS_tok hb hr C6 D6
  have y4 : s4 13 0 = 11 := by rw [f4 _ _ (by omega)]; exact sv.1
  have y5 : s5 13 0 = 11 := by rw [f5 _ _ (by omega)]; exact sv.1
  have y6 : s6 13 0 = 11 := by rw [f6 _ _ (by omega)]; exact sv.1
  have z6 : s6 13 1 = B := by rw [f6 _ _ (by omega)]; exact sv.2.1
  have n6 : u6 160 1532 = n := by rw [D6 _ _ (by unfold rD; omega)]; exact hn
  have p6 : u6 160 1525 = u 160 1525 := D6 _ _ (by unfold rD; omega)
  have hc : wC p q s4 = jb (Te_isWell 11 s6) fun v4 s4 => if (w32 v4) = 0 then (some (0, s4)) else (if jok 3 (s4 13 1) = true then jb (Se_addWalk (s4 13 1) p q v6 s4) fun v5 s5 => some (0, s5) else none) := by
    rw [wC, y4, if_pos jok5, e1, jb_t, y5, if_pos jok5, i1, jb_t, y6, if_pos jok5]
  have hrr : wR n p' q' u4 = if 0 < (w32 (u6 155 12)) then (some (0, u6)) else (if (0 ≤ (w32 (1548 + n)) ∧ (w32 (1548 + n)) < 1905) ∧ (0 ≤ (w32 (1558 + n)) ∧ (w32 (1558 + n)) < 1905) ∧ (0 ≤ (w32 (1568 + n)) ∧ (w32 (1568 + n)) < 1905) then jm (jup (jup (jup u6 160 (w32 (1548 + n)) p') 160 (w32 (1558 + n)) q') 160 (w32 (1568 + n)) w6) fun s4 => some (0, (jup s4 160 1532 ((s4 160 1532) + 1))) else none) := by
    rw [wR, x1e, jb_t, Md_behindWord, e2, jb_t, i2, jb_t, jb_t]
  rw [hc, hrr]
  clear hc hrr
  rcases EC_m i3 with t6 | b6
  · obtain ⟨t5, o5⟩ := EC_tw (EC_m e3) i3 t6
    obtain ⟨t4, o4⟩ := EC_tw m4 e3 t5
    obtain ⟨k1, k2, k3, k4, k5, k6⟩ := hv t4
    obtain ⟨j1, j2⟩ := i4 t6
    subst k1 k2 j1
    rw [Te_isWell, t6.2.1, if_pos (by decide), jb_t, if_neg (by decide), z6, if_pos (jok3 hB), addWalk_eq (by have := RS_b hr; omega) (by have := RS_b hr; omega), jb_t, if_neg (u12 t6.2.2), w32_id (x := 1548 + n) (by omega) (by omega), w32_id (x := 1558 + n) (by omega) (by omega), w32_id (x := 1568 + n) (by omega) (by omega), if_pos (by omega), jm_s, u_ne (by omega), u_ne (by omega), u_ne (by omega), n6]
    have we := walk_end (n := n) (p := p) (q := q) (h := v6) hB hr6 n6 hl (by rw [p6]; exact k3) (by rw [p6]; exact k4) k5 j2
    refine ⟨_, _, rfl, rfl, ⟨?_, ?_⟩, Or.inl ⟨?_, we, ?_⟩⟩
    · exact (((rC_rS C6).up (Or.inr (Or.inr ⟨by omega, by omega⟩))).up (Or.inr (Or.inr ⟨by omega, by omega⟩))).up (Or.inr (Or.inr ⟨by omega, by omega⟩))
    · exact ((((rD_rQ D6).up (Or.inr (Or.inl ⟨rfl, by omega⟩))).up (Or.inr (Or.inl ⟨rfl, by omega⟩))).up (Or.inr (Or.inl ⟨rfl, by omega⟩))).up (Or.inr (Or.inl ⟨rfl, by omega⟩))
    · exact TW_ex t6 (fun b => by rw [u_ne (by omega), u_ne (by omega), u_ne (by omega)]) (fun b => by rw [u_ne (by omega), u_ne (by omega), u_ne (by omega)]) (fun b _ => by rw [u_ne (by omega), u_ne (by omega), u_ne (by omega), u_ne (by omega)]) (fun b => by rw [u_ne (by omega), u_ne (by omega), u_ne (by omega), u_ne (by omega)])
    · rw [u_ne (by omega), u_ne (by omega), u_ne (by omega)]
      omega
  · have w8 : ¬ w32 (s6 11 8) = 0 := by rw [b6.2.1]; exact bd12n (bdb b6)
    rw [Te_isWell, if_neg w8, jb_t, if_pos (by decide), if_pos (bd12 (bdb b6))]
    exact ⟨_, _, rfl, rfl, ⟨rC_rS C6, rD_rQ D6⟩, Or.inr ⟨b6, SV_ex hb sv C6⟩⟩
theorem wR_bd {n p q : Int} {u : jM} (h : 0 < u 155 12 ∧ u 155 12 ≤ 100) : wR n p q u = some (0, u) := by
  obtain ⟨x, xe, -⟩ := kt_8 u u
  rw [wR, xe, jb_t, behind_bd h, jb_t, if_pos (bd12 h)]
