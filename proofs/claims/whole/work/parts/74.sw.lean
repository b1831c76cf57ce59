/-! a walk of a see -/
def wC (x1 v1 : Int) (s1 : jM) : Option (Int × jM) := if jok 5 (s1 13 0) = true then jb (Te_takeWord (s1 13 0) 8 s1) fun v2 s2 => if jok 5 (s2 13 0) = true then jb (Te_takeNumber (s2 13 0) 0 9 s2) fun v3 s3 => if jok 5 (s3 13 0) = true then jb (Te_isWell (s3 13 0) s3) fun v4 s4 => if (w32 v4) = 0 then (some (0, s4)) else (if jok 3 (s4 13 1) = true then jb (Se_addWalk (s4 13 1) x1 v1 v3 s4) fun v5 s5 => some (0, s5) else none) else none else none else none
def wRf (x1 x2 x3 : Int) (s1 : jM) : Option (Int × jM) := jb (Md_isShakes 155 s1) fun v2 s2 => jb (Md_behindWord 155 v2 0 9 s2) fun v3 s3 => if 0 < (w32 (s3 155 12)) then (some (0, s3)) else (if (0 ≤ (w32 (1548 + x1)) ∧ (w32 (1548 + x1)) < 1905) ∧ (0 ≤ (w32 (1558 + x1)) ∧ (w32 (1558 + x1)) < 1905) ∧ (0 ≤ (w32 (1568 + x1)) ∧ (w32 (1568 + x1)) < 1905) then jm (jup (jup (jup s3 160 (w32 (1548 + x1)) x2) 160 (w32 (1558 + x1)) x3) 160 (w32 (1568 + x1)) v3) fun s4 => some (0, (jup s4 160 1532 ((s4 160 1532) + 1))) else none)
theorem addWalk_eq {B p q h : Int} {s : jM} (hp : 0 ≤ p ∧ p < 6) (hq : 0 ≤ q ∧ q < 6) : Se_addWalk B p q h s = some (0, jup (jup (jup s (B + 5) (6 * p + q) (jmin (s (B + 5) (6 * p + q)) (h * 64 + 1))) (B + 5) (6 * q + p) (jmin (s (B + 5) (6 * p + q)) (h * 64 + 1))) B 7 (s B 7 + 1)) := by
  rw [Se_addWalk, show p * 6 + q = 6 * p + q by omega, show q * 6 + p = 6 * q + p by omega, w32_id (x := 6 * p + q) (by omega) (by omega), w32_id (x := 6 * q + p) (by omega) (by omega), if_pos (by omega), u_eq ⟨rfl, rfl⟩]
  show some ((0 : Int), jup (jup (jup s (B + 5) (6 * p + q) (jmin (s (B + 5) (6 * p + q)) (h * 64 + 1))) (B + 5) (6 * q + p) (jmin (s (B + 5) (6 * p + q)) (h * 64 + 1))) B 7 (jup (jup s (B + 5) (6 * p + q) (jmin (s (B + 5) (6 * p + q)) (h * 64 + 1))) (B + 5) (6 * q + p) (jmin (s (B + 5) (6 * p + q)) (h * 64 + 1)) B 7 + 1)) = _
  rw [u_ne (by omega), u_ne (by omega)]
theorem walk_end {B n p q h : Int} (hB : B = 30 ∨ B = 55) {s u : jM} (hr : RDs B s u) (hn : u 160 1532 = n) (hl : 0 ≤ n ∧ n < 10) (hp : 0 ≤ p ∧ p < u 160 1525) (hq : 0 ≤ q ∧ q < u 160 1525) (hne : p ≠ q) (hh : 0 ≤ h ∧ h ≤ 9) : RDs B (jup (jup (jup s (B + 5) (6 * p + q) (jmin (s (B + 5) (6 * p + q)) (h * 64 + 1))) (B + 5) (6 * q + p) (jmin (s (B + 5) (6 * p + q)) (h * 64 + 1))) B 7 (s B 7 + 1)) (jup (jup (jup (jup u 160 (1548 + n) p) 160 (1558 + n) q) 160 (1568 + n) h) 160 1532 (n + 1)) := by
  have bd := RS_b hr
  obtain ⟨r1, r2, r3, r4, r5, ⟨r6, r8⟩, r7⟩ := hr
  have c7 : s B 7 = u 160 1532 := r2.2.2.2.2.2.2.2.2.2.2.2.1
  obtain ⟨m, hm⟩ : ∃ m, m = jmin (s (B + 5) (6 * p + q)) (h * 64 + 1) := ⟨_, rfl⟩
  rw [← hm]
  obtain ⟨S, hS⟩ : ∃ S, S = jup (jup (jup s (B + 5) (6 * p + q) m) (B + 5) (6 * q + p) m) B 7 (s B 7 + 1) := ⟨_, rfl⟩
  obtain ⟨U, hU⟩ : ∃ U, U = jup (jup (jup (jup u 160 (1548 + n) p) 160 (1558 + n) q) 160 (1568 + n) h) 160 1532 (n + 1) := ⟨_, rfl⟩
  have F : ∀ a b, a ≠ B + 5 → ¬ (a = B ∧ b = 7) → S a b = s a b := fun a b z1 z2 => by rw [hS, u_ne z2, u_ne (by omega), u_ne (by omega)]
  have G : ∀ a b, ¬ (a = 160 ∧ (b = 1548 + n ∨ b = 1558 + n ∨ b = 1568 + n ∨ b = 1532)) → U a b = u a b := fun a b z => by rw [hU, u_ne (by omega), u_ne (by omega), u_ne (by omega), u_ne (by omega)]
  have d1 : U 160 (1548 + n) = p := by rw [hU, u_ne (by omega), u_ne (by omega), u_ne (by omega), u_eq ⟨rfl, rfl⟩]
  have d2 : U 160 (1558 + n) = q := by rw [hU, u_ne (by omega), u_ne (by omega), u_eq ⟨rfl, rfl⟩]
  have d3 : U 160 (1568 + n) = h := by rw [hU, u_ne (by omega), u_eq ⟨rfl, rfl⟩]
  have d4 : U 160 1532 = n + 1 := by rw [hU, u_eq ⟨rfl, rfl⟩]
  have g5 : U 160 1525 = u 160 1525 := G _ _ (by omega)
  have wk0 : ∀ x, 0 ≤ x → x < n → 0 ≤ u 160 (1548 + x) ∧ u 160 (1548 + x) < u 160 1525 ∧ 0 ≤ u 160 (1558 + x) ∧ u 160 (1558 + x) < u 160 1525 ∧ u 160 (1548 + x) ≠ u 160 (1558 + x) ∧ 0 ≤ u 160 (1568 + x) ∧ u 160 (1568 + x) ≤ 9 := fun x x1 x2 => by
    have := r6 x x1 (by rw [← hn] at x2; exact x2)
    have e1 : cR u (24 + x) = u 160 (1548 + x) := by show u 160 (1524 + (24 + x)) = _; rw [show 1524 + (24 + x) = 1548 + x by omega]
    have e2 : cR u (34 + x) = u 160 (1558 + x) := by show u 160 (1524 + (34 + x)) = _; rw [show 1524 + (34 + x) = 1558 + x by omega]
    have e3 : cR u (44 + x) = u 160 (1568 + x) := by show u 160 (1524 + (44 + x)) = _; rw [show 1524 + (44 + x) = 1568 + x by omega]
    rw [e1, e2, e3] at this
    exact this
  have cU : ∀ x, cR U (24 + x) = U 160 (1548 + x) ∧ cR U (34 + x) = U 160 (1558 + x) ∧ cR U (44 + x) = U 160 (1568 + x) := fun x => by
    refine ⟨?_, ?_, ?_⟩
    · show U 160 (1524 + (24 + x)) = _; rw [show 1524 + (24 + x) = 1548 + x by omega]
    · show U 160 (1524 + (34 + x)) = _; rw [show 1524 + (34 + x) = 1558 + x by omega]
    · show U 160 (1524 + (44 + x)) = _; rw [show 1524 + (44 + x) = 1568 + x by omega]
  have hE : E0 64 1000000 (s (B + 5)) (cR U) n := by
    intro a b a1 a2 b1 b2
    rw [hn] at r8
    obtain ⟨x1, x2⟩ := r8 a b a1 a2 b1 b2
    have cg : ∀ {a b z}, EDW (cR U) n a b z ↔ EDW (cR u) n a b z := by
      intro a b z
      have e : ∀ x, 0 ≤ x → x < n → cR U (24 + x) = cR u (24 + x) ∧ cR U (34 + x) = cR u (34 + x) ∧ cR U (44 + x) = cR u (44 + x) := fun x y1 y2 => ⟨G _ _ (by omega), G _ _ (by omega), G _ _ (by omega)⟩
      constructor
      · rintro ⟨x, y1, y2, y3, y4⟩
        obtain ⟨e1, e2, e3⟩ := e x y1 y2
        rw [e1, e2] at y3
        rw [e3] at y4
        exact ⟨x, y1, y2, y3, y4⟩
      · rintro ⟨x, y1, y2, y3, y4⟩
        obtain ⟨e1, e2, e3⟩ := e x y1 y2
        rw [← e1, ← e2] at y3
        rw [← e3] at y4
        exact ⟨x, y1, y2, y3, y4⟩
    refine ⟨x1, fun ne => ?_⟩
    obtain ⟨y1, y2⟩ := x2 ne
    refine ⟨fun z hz => y1 z (cg.1 hz), ?_⟩
    rcases y2 with y2 | ⟨z, z1, z2⟩
    · exact Or.inl y2
    · exact Or.inr ⟨z, cg.2 z1, z2⟩
  have b1 : ∀ z, (∃ p q, EDW (cR U) n p q z) → 64 * z + 1 ≤ 1000000 := by
    rintro z ⟨a, b, x, x1, x2, -, x4⟩
    have := wk0 x x1 x2
    rw [(cU x).2.2, G _ _ (by omega)] at x4
    omega
  have p6 : 0 ≤ p ∧ p < 6 := by omega
  have q6 : 0 ≤ q ∧ q < 6 := by omega
  have hsy := E0_sym hE b1 p6 q6 hne
  have hbd : 0 ≤ s (B + 5) (6 * p + q) ∧ s (B + 5) (6 * p + q) ≤ 1000000 := by
    rcases ((hE p q p6.1 p6.2 q6.1 q6.2).2 hne).2 with z | ⟨z, ⟨x, x1, x2, -, x4⟩, z2⟩
    · omega
    · have := wk0 x x1 x2
      rw [(cU x).2.2, G _ _ (by omega)] at x4
      omega
  have hjm : m = if 64 * h + 1 < s (B + 5) (6 * p + q) then 64 * h + 1 else s (B + 5) (6 * p + q) := by
    rw [hm, show h * 64 + 1 = 64 * h + 1 by omega]
    exact jmin_e (by unfold i32; omega) (by unfold i32; omega)
  have hst : E0 64 1000000 (S (B + 5)) (cR U) (n + 1) := by
    refine E0_step (x := p) (y := q) (h := h) hE hl.1 (by rw [(cU n).1]; exact d1) (by rw [(cU n).2.1]; exact d2) (by rw [(cU n).2.2]; exact d3) p6 q6 hne (fun a b a1 a2 c1 c2 => ?_) (by omega) (by omega) hsy
    rw [← hjm, hS, u_ne (by omega)]
    by_cases hc : (a = p ∧ b = q) ∨ (a = q ∧ b = p)
    · rw [if_pos hc]
      rcases hc with z | z
      · rw [u_ne (by omega), u_eq ⟨rfl, by omega⟩]
      · rw [u_eq ⟨rfl, by omega⟩]
    · rw [if_neg hc, u_ne (by omega), u_ne (by omega)]
  have hwk : WKS (cR U) := by
    intro x x1 x2
    have x2 : x < U 160 1532 := x2
    rw [d4] at x2
    obtain ⟨e1, e2, e3⟩ := cU x
    have f1 : cR U 1 = u 160 1525 := g5
    rw [e1, e2, e3, f1]
    by_cases z : x = n
    · rw [z, d1, d2, d3]
      omega
    · rw [G 160 (1548 + x) (by omega), G 160 (1558 + x) (by omega), G 160 (1568 + x) (by omega)]
      exact wk0 x x1 (by omega)
  rw [← hS, ← hU]
  refine ⟨R13_fr r1 (fun b _ _ => F _ _ (by omega) (by omega)) (G _ _ (by omega)), RHd_of r2 7 1532 (Or.inr (Or.inr (Or.inr (Or.inr (Or.inr ⟨rfl, rfl, by rw [d4]; omega⟩))))) (by rw [d4, hS, u_eq ⟨rfl, rfl⟩, c7, hn]) (fun b z1 z2 z => F _ _ (by omega) (by omega)) (fun o _ _ z => G _ _ (by omega)), RNm_fr r3 (F _ _ (by omega) (by omega)) (fun a b _ _ => F _ _ (by omega) (by omega)) (fun o _ _ => G _ _ (by omega)) (fun i => G _ _ (by omega)), RSt_fr r4 bd.2.1.2 (fun a b _ _ => F _ _ (by omega) (by omega)) (G _ _ (by omega)) (fun o _ _ => G _ _ (by omega)), RMo_fr r5 bd.2.2.2.1.2 (fun a b _ _ => F _ _ (by omega) (by omega)) (G _ _ (by omega)) (by rw [g5]; omega) (fun o _ _ => G _ _ (by omega)), ⟨hwk, by rw [d4]; exact hst⟩, RZe_fr r7 (F _ _ (by omega) (by omega)) (F _ _ (by omega) (by omega)) (fun o _ => G _ _ (by omega))⟩
/-- from the word that tells the shakes -/
theorem sw_rest {B n p q p' q' : Int} (hB : B = 30 ∨ B = 55) {s u s4 u4 : jM} (hr : RDs B s u) (hn : u 160 1532 = n) (hl : 0 ≤ n ∧ n < 10) (hC : EX rC s s4) (hD : EX rD u u4) (m4 : TW s4 u4 ∨ BD s4 u4) (hv : TW s4 u4 → p = p' ∧ q = q' ∧ (0 ≤ p ∧ p < u 160 1525) ∧ (0 ≤ q ∧ q < u 160 1525) ∧ p ≠ q ∧ s 11 2 ≤ s4 11 3) : ∃ s' u', wC p q s4 = some (0, s') ∧ wRf n p' q' u4 = some (0, u') ∧ PO B s u s' u' := by
  have hb : 20 ≤ B := by omega
  obtain ⟨x1, x1e, x1v⟩ := kt_8 s4 u4
  obtain ⟨s5, u5, e1, e2, e3⟩ := tk_word2 m4 (k := 8) (by omega) x1v
  obtain ⟨v6, w6, s6, u6, i1, i2, i3, i4⟩ := tk_num2 (EC_m e3) (lo := 0) (hi := 9) (by omega) (by omega)
  have sv := RS_SV hr
  have f4 : ∀ a b, a ≠ 11 → s4 a b = s a b := fun a b z => hC a b (fun y => z y.1)
  have f5 : ∀ a b, a ≠ 11 → s5 a b = s a b := fun a b z => by rw [e3.2.1 a b (fun y => z y.1), f4 a b z]
  have f6 : ∀ a b, a ≠ 11 → s6 a b = s a b := fun a b z => by rw [i3.2.1 a b (fun y => z y.1), f5 a b z]
  have C6 : EX rC s s6 := (hC.tr e3.2.1).tr i3.2.1
  have D6 : EX rD u u6 := (hD.tr e3.2.2.1).tr i3.2.2.1
  have hr6 := RS_tok hb hr C6 D6
  have y4 : s4 13 0 = 11 := by rw [f4 _ _ (by omega)]; exact sv.1
  have y5 : s5 13 0 = 11 := by rw [f5 _ _ (by omega)]; exact sv.1
  have y6 : s6 13 0 = 11 := by rw [f6 _ _ (by omega)]; exact sv.1
  have z6 : s6 13 1 = B := by rw [f6 _ _ (by omega)]; exact sv.2.1
  have n6 : u6 160 1532 = n := by rw [D6 _ _ (by unfold rD; omega)]; exact hn
  have p6 : u6 160 1525 = u 160 1525 := D6 _ _ (by unfold rD; omega)
  have hc : wC p q s4 = jb (Te_isWell 11 s6) fun v4 s4 => if (w32 v4) = 0 then (some (0, s4)) else (if jok 3 (s4 13 1) = true then jb (Se_addWalk (s4 13 1) p q v6 s4) fun v5 s5 => some (0, s5) else none) := by
    rw [wC, y4, if_pos jok5, e1, jb_t, y5, if_pos jok5, i1, jb_t, y6, if_pos jok5]
  have hrr : wRf n p' q' u4 = if 0 < (w32 (u6 155 12)) then (some (0, u6)) else (if (0 ≤ (w32 (1548 + n)) ∧ (w32 (1548 + n)) < 1905) ∧ (0 ≤ (w32 (1558 + n)) ∧ (w32 (1558 + n)) < 1905) ∧ (0 ≤ (w32 (1568 + n)) ∧ (w32 (1568 + n)) < 1905) then jm (jup (jup (jup u6 160 (w32 (1548 + n)) p') 160 (w32 (1558 + n)) q') 160 (w32 (1568 + n)) w6) fun s4 => some (0, (jup s4 160 1532 ((s4 160 1532) + 1))) else none) := by
    rw [wRf, x1e, jb_t, Md_behindWord, e2, jb_t, i2, jb_t, jb_t]
  rw [hc, hrr]
  clear hc hrr
  rcases EC_m i3 with t6 | b6
  · obtain ⟨t5, o5⟩ := EC_tw (EC_m e3) i3 t6
    obtain ⟨t4, o4⟩ := EC_tw m4 e3 t5
    obtain ⟨k1, k2, k3, k4, k5, k6⟩ := hv t4
    obtain ⟨j1, j2⟩ := i4 t6
    subst k1 k2 j1
    rw [Te_isWell, t6.2.1, if_pos (by decide), jb_t, if_neg (by decide), z6, if_pos (jok3 hB), addWalk_eq (by have := RS_b hr; omega) (by have := RS_b hr; omega), jb_t, if_neg (u12 t6.2.2), w32_id (x := 1548 + n) (by omega) (by omega), w32_id (x := 1558 + n) (by omega) (by omega), w32_id (x := 1568 + n) (by omega) (by omega), if_pos (by omega), jm_s, u_ne (by omega), u_ne (by omega), u_ne (by omega), n6]
    have we := walk_end (n := n) (p := p) (q := q) (h := v6) hB hr6 n6 hl (by rw [p6]; exact k3) (by rw [p6]; exact k4) k5 j2
    refine ⟨_, _, rfl, rfl, ⟨?_, ?_⟩, Or.inl ⟨?_, we, ?_⟩⟩
    · exact (((rC_rS C6).up (Or.inr (Or.inr ⟨by omega, by omega⟩))).up (Or.inr (Or.inr ⟨by omega, by omega⟩))).up (Or.inr (Or.inr ⟨by omega, by omega⟩))
    · exact ((((rD_rQ D6).up (Or.inr (Or.inl ⟨rfl, by omega⟩))).up (Or.inr (Or.inl ⟨rfl, by omega⟩))).up (Or.inr (Or.inl ⟨rfl, by omega⟩))).up (Or.inr (Or.inl ⟨rfl, by omega⟩))
    · exact TW_ex t6 (fun b => by rw [u_ne (by omega), u_ne (by omega), u_ne (by omega)]) (fun b => by rw [u_ne (by omega), u_ne (by omega), u_ne (by omega)]) (fun b _ => by rw [u_ne (by omega), u_ne (by omega), u_ne (by omega), u_ne (by omega)]) (fun b => by rw [u_ne (by omega), u_ne (by omega), u_ne (by omega), u_ne (by omega)])
    · rw [u_ne (by omega), u_ne (by omega), u_ne (by omega)]
      omega
  · have w8 : ¬ w32 (s6 11 8) = 0 := by rw [b6.2.1]; exact bd12n (bdb b6)
    rw [Te_isWell, if_neg w8, jb_t, if_pos (by decide), if_pos (bd12 (bdb b6))]
    exact ⟨_, _, rfl, rfl, ⟨rC_rS C6, rD_rQ D6⟩, Or.inr ⟨b6, SV_ex hb sv C6⟩⟩
theorem wRf_bd {n p q : Int} {u : jM} (h : 0 < u 155 12 ∧ u 155 12 ≤ 100) : wRf n p q u = some (0, u) := by
  obtain ⟨x, xe, -⟩ := kt_8 u u
  rw [wRf, xe, jb_t, behind_bd h, jb_t, if_pos (bd12 h)]
theorem t84 {B x1 v1 : Int} (hB : B = 30 ∨ B = 55) {s t : jM} (h0 : s 13 0 = 11) (h1 : s 13 1 = B) (ht : Te_takeThing 11 B 1 s = some (v1, t)) : Sr_takeWalk_84 13 x1 s = wC x1 v1 t := by
  rw [Sr_takeWalk_84, h0, h1, if_pos ⟨jok5, jok3 hB⟩, ht, jb_t]
  rfl
theorem sr_walk {B : Int} (hB : B = 30 ∨ B = 55) {s u : jM} (h : TW s u) (hr : RDs B s u) (hk : s 11 5 = 7) : ∃ s' u', Sr_takeWalk 13 s = some (0, s') ∧ Md_readWalk 155 u = some (0, u') ∧ PO B s u s' u' := by
  have hb : 20 ≤ B := by omega
  have bd := RS_b hr
  have sv := RS_SV hr
  obtain ⟨n, hn⟩ : ∃ n, n = s B 7 := ⟨_, rfl⟩
  have c7 : u 160 1532 = n := by rw [hn]; exact hr.2.1.2.2.2.2.2.2.2.2.2.2.2.1.symm
  by_cases q : n < 10
  · obtain ⟨s2, u2, b1, b2, b3, b4, b5, b6⟩ := both_adv h
    have hr2 := RS_tok hb hr b5 b6
    have f2 : ∀ a b, a ≠ 11 → s2 a b = s a b := fun a b z => b5 a b (fun y => z y.1)
    obtain ⟨v7, w7, s3, u3, d1, d2, d3, d4⟩ := tk_thing2 (B := B) (q := 4) (t := 1) hb (Or.inl b3) (RS_b hr2).1 (fun _ => (RNm_NMx hr2.2.2.1).v) (by omega) (by omega)
    have f3 : ∀ a b, a ≠ 11 → s3 a b = s a b := fun a b z => by rw [d3.2.1 a b (fun y => z y.1), f2 a b z]
    have C3 : EX rC s s3 := b5.tr d3.2.1
    have D3 : EX rD u u3 := b6.tr d3.2.2.1
    have hr3 := RS_tok hb hr C3 D3
    have y2 : s2 13 0 = 11 := by rw [f2 _ _ (by omega)]; exact sv.1
    have z2 : s2 13 1 = B := by rw [f2 _ _ (by omega)]; exact sv.2.1
    have y3 : s3 13 0 = 11 := by rw [f3 _ _ (by omega)]; exact sv.1
    have z3 : s3 13 1 = B := by rw [f3 _ _ (by omega)]; exact sv.2.1
    have n3 := (RS_b hr3).1
    have hcl : Sr_takeWalk 13 s = jb (Te_isName 11 s3) fun v8 s8 => if (w32 v8) = 0 then (Sr_takeWalk_84 13 v7 s8) else (if (w32 v7) = (-1) then (Sr_takeWalk_84 13 v7 s8) else (if jok 3 (s8 13 1) = true ∧ jok 5 (s8 13 0) = true then jb (Se_find (s8 13 1) (s8 (s8 13 0) 7) 1 s8) fun v9 s9 => if (w32 v7) = (w32 v9) then (if jok 5 (s9 13 0) = true then jb (Te_fail (s9 13 0) 5 s9) fun v10 s10 => Sr_takeWalk_84 13 v7 s10 else none) else (Sr_takeWalk_84 13 v7 s9) else none)) := by
      rw [Sr_takeWalk, sv.2.1, if_pos (jok3 hB), ← hn, w32_id (x := n) (by omega) (by omega), if_pos q, sv.1, if_pos jok5, b1, jb_t, y2, z2, if_pos ⟨jok5, jok3 hB⟩, d1, jb_t, y3, if_pos jok5]
    have hrf : Md_readWalk 155 u = jb (Md_told 155 4 1 u3) fun v7 s7 => if (w32 (s7 155 12)) = 0 then (if (w32 w7) = (w32 v7) then (jb (Md_fail 155 5 (s7 155 15) s7) fun v8 s8 => jb (Md_must 155 1 s8) fun v1 s1 => wRf n w7 v7 s1) else (jb (Md_must 155 1 s7) fun v1 s1 => wRf n w7 v7 s1)) else (jb (Md_must 155 1 s7) fun v1 s1 => wRf n w7 v7 s1) := by
      rw [Md_readWalk]
      show (if w32 (u 160 1532) = 10 then _ else Md_readWalk_25 155 (u 160 1532) u) = _
      rw [c7, w32_id (x := n) (by omega) (by omega), if_neg (by omega), Md_readWalk_25, if_neg (u12 h.2.2), b2, jb_t, d2, jb_t]
      rfl
    rw [hcl, hrf]
    clear hcl hrf
    have rest := fun {p q p' q' : Int} {s4 u4 : jM} (hC : EX rC s s4) (hD : EX rD u u4) (m4 : TW s4 u4 ∨ BD s4 u4) (hv : TW s4 u4 → p = p' ∧ q = q' ∧ (0 ≤ p ∧ p < u 160 1525) ∧ (0 ≤ q ∧ q < u 160 1525) ∧ p ≠ q ∧ s 11 2 ≤ s4 11 3) => sw_rest (n := n) (p := p) (q := q) (p' := p') (q' := q') hB hr c7 (by omega) hC hD m4 hv
    rcases EC_m d3 with t3 | b3'
    · obtain ⟨e1, e2, e3⟩ := d4 t3
      subst e1
      have o3 := (EC_tw (Or.inl b3) d3 t3).2
      have e3 : v7 < u 160 1525 := by
        have e3 : v7 < u2 160 1525 := e3
        rw [b6 160 1525 (by unfold rD; omega)] at e3
        exact e3
      obtain ⟨g1, g2, g3⟩ := both_name t3.1
      have nv : nmw s3 = 0 ∨ nmw s3 = 1 := by unfold nmw; split <;> omega
      obtain ⟨f, fe, fv⟩ := findC (B := B) (x := s3 11 7) (t := 1) n3 (s3 B 8).toNat jFU 0 (by omega) (by omega) (bub_ge (by omega))
      have fe' : Se_find B (s3 11 7) 1 s3 = some (f, s3) := fe
      clear fv fe
      rcases nv with q0 | q1
      · obtain ⟨s4, u4, a1, a2, a3, a4, a5⟩ := both_amiss t3
        have tt : Te_takeThing 11 B 1 s3 = some (f, s4) := by rw [Te_takeThing, fe', jb_t, g1, jb_t, q0, if_pos (by decide), a1, jb_t]
        have tr : Md_told 155 4 1 u3 = some (0, u4) := by rw [Md_told, if_pos (u12z t3.2.2), g2, jb_t, q0, if_pos (by decide), a2, jb_t, Md_told_18, if_pos (bd12 (bdb a3))]
        rw [g1, jb_t, q0, if_pos (by decide), t84 hB y3 z3 tt, tr, jb_t, if_neg (bd12n (bdb a3)), must_bd (bdb a3), jb_t]
        exact rest (C3.tr a4) (D3.tr a5) (Or.inr a3) (fun y => absurd y (nb_tw a3))
      · obtain ⟨k4, hw⟩ := g3 q1
        obtain ⟨f', f1, f2', f3'⟩ := both_find (RNm_NMx hr3.2.2.1) (q := 4) (t := 1) (by omega) (by omega) hw
        have e : some (f, s3) = some (f', s3) := fe'.symm.trans f1
        have e : f = f' := congrArg Prod.fst (Option.some.inj e)
        subst e
        have w7' : w32 v7 = v7 := w32_id (by omega) (by omega)
        have hl1 : (jb (Te_isName 11 s3) fun v8 s8 => if (w32 v8) = 0 then (Sr_takeWalk_84 13 v7 s8) else (if (w32 v7) = (-1) then (Sr_takeWalk_84 13 v7 s8) else (if jok 3 (s8 13 1) = true ∧ jok 5 (s8 13 0) = true then jb (Se_find (s8 13 1) (s8 (s8 13 0) 7) 1 s8) fun v9 s9 => if (w32 v7) = (w32 v9) then (if jok 5 (s9 13 0) = true then jb (Te_fail (s9 13 0) 5 s9) fun v10 s10 => Sr_takeWalk_84 13 v7 s10 else none) else (Sr_takeWalk_84 13 v7 s9) else none))) = if v7 = w32 f then (jb (Te_fail 11 5 s3) fun v10 s10 => Sr_takeWalk_84 13 v7 s10) else Sr_takeWalk_84 13 v7 s3 := by
          rw [g1, jb_t, q1, if_neg (by decide), w7', if_neg (by omega), y3, z3, if_pos ⟨jok3 hB, jok5⟩, fe', jb_t, y3, if_pos jok5]
        rw [hl1]
        clear hl1
        by_cases z : f = -1
        · obtain ⟨s4, u4, a1, a2, a3, a4, a5⟩ := both_fail t3 (c := 3) (by omega)
          rw [if_neg (by omega)] at a2
          have tt : Te_takeThing 11 B 1 s3 = some (f, s4) := by rw [Te_takeThing, fe', jb_t, g1, jb_t, q1, if_neg (by decide), if_pos (by rw [z]; decide), a1, jb_t]
          have tr : Md_told 155 4 1 u3 = some (jmax 0 f, u4) := by rw [Md_told, if_pos (u12z t3.2.2), g2, jb_t, q1, if_neg (by decide), Md_told_18, if_neg (u12 t3.2.2), f2', jb_t, if_pos (by rw [z]; decide), a2, jb_t]
          rw [if_neg (by rw [z, w32_id (by omega) (by omega)]; omega), t84 hB y3 z3 tt, tr, jb_t, if_neg (bd12n (bdb a3)), must_bd (bdb a3), jb_t]
          exact rest (C3.tr a4) (D3.tr a5) (Or.inr a3) (fun y => absurd y (nb_tw a3))
        · have fb : 0 ≤ f ∧ f < u 160 1525 := by
            rcases f3' with y | y
            · exact absurd y z
            · have y2 : f < u3 160 1525 := y.2
              rw [D3 160 1525 (by unfold rD; omega)] at y2
              exact ⟨y.1, y2⟩
          have wf : w32 f = f := w32_id (by omega) (by omega)
          have jm : jmax 0 f = f := by rw [jmax_e (by unfold i32; omega) (by unfold i32; omega)]; split <;> omega
          have tr : Md_told 155 4 1 u3 = some (f, u3) := by rw [Md_told, if_pos (u12z t3.2.2), g2, jb_t, q1, if_neg (by decide), Md_told_18, if_neg (u12 t3.2.2), f2', jb_t, wf, if_neg (by omega), jm]
          rw [tr, jb_t, if_pos (u12z t3.2.2), wf, w7']
          by_cases y : v7 = f
          · obtain ⟨s4, u4, a1, a2, a3, a4, a5⟩ := both_fail t3 (c := 5) (by omega)
            rw [if_neg (by omega)] at a2
            have v0 : s4 13 0 = 11 := by rw [a4 _ _ (by unfold rC; omega)]; exact y3
            have v1 : s4 13 1 = B := by rw [a4 _ _ (by unfold rC; omega)]; exact z3
            obtain ⟨v, s5, c1, c2, c3⟩ := SB_thing (B := B) (bdb a3) 1 (by rw [a4 _ _ (by unfold rC; omega)]; exact n3) (BD_SB a3)
            rw [if_pos y, a1, jb_t, t84 hB v0 v1 c1, if_pos y, a2, jb_t, must_bd (bdb a3), jb_t]
            exact rest ((C3.tr a4).tr c3) (D3.tr a5) (Or.inr (SB_BD c2 (bdb a3))) (fun y => absurd y (nb_tw (SB_BD c2 (bdb a3))))
          · obtain ⟨s4, u4, a1, a2, a3, a4, a5, a6⟩ := both_adv t3
            have tt : Te_takeThing 11 B 1 s3 = some (f, s4) := by rw [Te_takeThing, fe', jb_t, g1, jb_t, q1, if_neg (by decide), wf, if_neg z, a1, jb_t]
            rw [if_neg y, t84 hB y3 z3 tt, if_neg y, Md_must, if_neg (u12 t3.2.2), if_neg (by decide), a2, jb_t, jb_t]
            refine rest (C3.tr a5) (D3.tr a6) (Or.inl a3) (fun _ => ⟨rfl, rfl, ⟨e2, e3⟩, fb, y, ?_⟩)
            have := TW_3 t3 a4
            omega
    · obtain ⟨v, s4, c1, c2, c3⟩ := SB_thing (B := B) (bdb b3') 1 n3 (BD_SB b3')
      have hc4 : (jb (Te_isName 11 s3) fun v8 s8 => if (w32 v8) = 0 then (Sr_takeWalk_84 13 v7 s8) else (if (w32 v7) = (-1) then (Sr_takeWalk_84 13 v7 s8) else (if jok 3 (s8 13 1) = true ∧ jok 5 (s8 13 0) = true then jb (Se_find (s8 13 1) (s8 (s8 13 0) 7) 1 s8) fun v9 s9 => if (w32 v7) = (w32 v9) then (if jok 5 (s9 13 0) = true then jb (Te_fail (s9 13 0) 5 s9) fun v10 s10 => Sr_takeWalk_84 13 v7 s10 else none) else (Sr_takeWalk_84 13 v7 s9) else none))) = Sr_takeWalk_84 13 v7 s3 := by
        obtain ⟨m, m1, -⟩ := isNameC s3
        obtain ⟨f, fe, -⟩ := findC (B := B) (x := s3 11 7) (t := 1) n3 (s3 B 8).toNat jFU 0 (by omega) (by omega) (bub_ge (by omega))
        have fe' : Se_find B (s3 11 7) 1 s3 = some (f, s3) := fe
        rw [m1, jb_t, y3, z3, if_pos (c := jok 3 B = true ∧ jok 5 11 = true) ⟨jok3 hB, jok5⟩, fe', jb_t, y3, if_pos (c := jok 5 11 = true) jok5, SB_fail (bdb b3') _ (BD_SB b3'), jb_t]
        split
        · rfl
        · split
          · rfl
          · split <;> rfl
      rw [hc4, t84 hB y3 z3 c1, told_bd (bdb b3'), jb_t, if_neg (bd12n (bdb b3')), must_bd (bdb b3'), jb_t]
      exact rest (C3.tr c3) D3 (Or.inr (SB_BD c2 (bdb b3'))) (fun y => absurd y (nb_tw (SB_BD c2 (bdb b3'))))
  · have k4 := TK_kw h.1 (by omega)
    have e6 : n = 10 := by omega
    obtain ⟨s', u', b1, b2, b3, b4⟩ := fault_PO hb (c := 6) (by omega) h (by omega) hr
    refine ⟨s', u', ?_, ?_, b4⟩
    · rw [Sr_takeWalk, sv.2.1, if_pos (jok3 hB), ← hn, e6, if_neg (by decide), sv.1, if_pos jok5, b1, jb_t]
    · rw [Md_readWalk]
      show (if w32 (u 160 1532) = 10 then (jb (Md_fail 155 6 (u 155 15) u) fun v9 s9 => Md_readWalk_25 155 (u 160 1532) s9) else _) = _
      rw [c7, e6, if_pos (by decide), b2, jb_t, Md_readWalk_25, if_pos (bd12 b3)]
