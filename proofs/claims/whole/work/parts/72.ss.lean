/-! a stuff of a see -/
theorem stuff_end {B j v1 v2 v3 : Int} (hB : B = 30 ∨ B = 55) {s u s' u' : jM} (hr : RDs B s u) (hj : u 160 1524 = j) (hl : 0 ≤ j ∧ j < 5) (b1 : 0 ≤ v1 ∧ v1 ≤ 9) (b2 : 0 ≤ v2 ∧ v2 ≤ 99) (b3 : 0 ≤ v3 ∧ v3 ≤ 99) (F : ∀ a b, a ≠ 11 → ¬ nmc B (s B 8) a b → ¬ ((a = B + 1 ∨ a = B + 2 ∨ a = B + 3) ∧ b = j) → ¬ (a = B ∧ b = 4) → s' a b = s a b) (c1 : s' (B + 1) j = v1) (c2 : s' (B + 2) j = v2) (c3 : s' (B + 3) j = v3) (c4 : s' B 4 = j + 1) (G : ∀ a b, a ≠ 155 → ¬ (a = 163 ∧ b = 64 + nfr 0 + j) → ¬ (a = 160 ∧ (b = 1533 + j ∨ b = 1538 + j ∨ b = 1543 + j ∨ b = 1524)) → u' a b = u a b) (g25 : u' 155 25 = u 155 25) (d1 : u' 160 (1533 + j) = v1) (d2 : u' 160 (1538 + j) = v2) (d3 : u' 160 (1543 + j) = v3) (d4 : u' 160 1524 = j + 1) (hn : RNm B s' u') : RDs B s' u' := by
  have bd := RS_b hr
  obtain ⟨r1, r2, r3, r4, r5, r6, r7⟩ := hr
  refine ⟨R13_fr r1 (fun b _ _ => F _ _ (by omega) (by unfold nmc; omega) (by omega) (by omega)) g25, RHd_of r2 4 1524 (Or.inr (Or.inr (Or.inl ⟨rfl, rfl⟩))) (by rw [c4, d4]) (fun b z1 z2 z => F _ _ (by omega) (by unfold nmc; omega) (by omega) (by omega)) (fun o _ _ z => G _ _ (by omega) (by omega) (by omega)), hn, fun i i1 i2 => ?_, RMo_fr r5 bd.2.2.2.1.2 (fun a b _ _ => F _ _ (by omega) (by unfold nmc; omega) (by omega) (by omega)) (G _ _ (by omega) (by omega) (by omega)) (by rw [G _ _ (by omega) (by omega) (by omega)]; omega) (fun o _ _ => G _ _ (by omega) (by omega) (by omega)), RWk_fr r6 bd.2.2.2.2.2 (fun b => F _ _ (by omega) (by unfold nmc; omega) (by omega) (by omega)) (G _ _ (by omega) (by omega) (by omega)) (by rw [G _ _ (by omega) (by omega) (by omega)]; omega) (fun o _ _ => G _ _ (by omega) (by omega) (by omega)), RZe_fr r7 (F _ _ (by omega) (by unfold nmc; omega) (by omega) (by omega)) (F _ _ (by omega) (by unfold nmc; omega) (by omega) (by omega)) (fun o _ => G _ _ (by omega) (by omega) (by omega))⟩
  rw [d4] at i2
  by_cases z : i = j
  · subst z
    rw [c1, c2, c3, d1, d2, d3]
    omega
  · have := r4 i i1 (by omega)
    rw [F (B + 1) i (by omega) (by unfold nmc; omega) (by omega) (by omega), F (B + 2) i (by omega) (by unfold nmc; omega) (by omega) (by omega), F (B + 3) i (by omega) (by unfold nmc; omega) (by omega) (by omega), G 160 (1533 + i) (by omega) (by omega) (by omega), G 160 (1538 + i) (by omega) (by omega) (by omega), G 160 (1543 + i) (by omega) (by omega) (by omega)]
    exact this
theorem st54 {w w1 w2 w3 : Int} {u : jM} (hw : 0 ≤ w ∧ w < 5) (h : u 155 12 = 0) : Md_readStuff_54 155 w w1 w2 w3 u = some (0, jup (jup (jup (jup u 160 (1533 + w) w1) 160 (1538 + w) w2) 160 (1543 + w) w3) 160 1524 (u 160 1524 + 1)) := by
  rw [Md_readStuff_54, if_neg (u12 h), w32_id (x := 1533 + w) (by omega) (by omega), w32_id (x := 1538 + w) (by omega) (by omega), w32_id (x := 1543 + w) (by omega) (by omega), if_pos (by omega)]
  show some ((0 : Int), jup (jup (jup (jup u 160 (1533 + w) w1) 160 (1538 + w) w2) 160 (1543 + w) w3) 160 1524 (jup (jup (jup u 160 (1533 + w) w1) 160 (1538 + w) w2) 160 (1543 + w) w3 160 1524 + 1)) = _
  rw [u_ne (by omega), u_ne (by omega), u_ne (by omega)]
theorem st54_bd {w w1 w2 w3 : Int} {u : jM} (h : 0 < u 155 12 ∧ u 155 12 ≤ 100) : Md_readStuff_54 155 w w1 w2 w3 u = some (0, u) := by rw [Md_readStuff_54, if_pos (bd12 h)]
theorem M_up {s u s' : jM} (h : TW s u ∨ BD s u) (e1 : ∀ b, s' 11 b = s 11 b) (e2 : ∀ b, s' 12 b = s 12 b) : TW s' u ∨ BD s' u := h.imp (fun z => TW_ex z e1 e2 (fun _ _ => rfl) (fun _ => rfl)) (fun z => BD_ex z e1 e2 ⟨rfl, rfl⟩)
theorem sr_stuff {B : Int} (hB : B = 30 ∨ B = 55) {s u : jM} (h : TW s u) (hr : RDs B s u) (hk : s 11 5 = 2) : ∃ s' u', Sr_takeStuff 13 (s B 4) s = some (0, s') ∧ Md_readStuff 155 u = some (0, u') ∧ PO B s u s' u' := by
  have hb : 20 ≤ B := by omega
  have bd := RS_b hr
  have sv := RS_SV hr
  have hr0 := hr
  obtain ⟨r1, r2, r3, r4, r5, r6, r7⟩ := hr
  obtain ⟨a0, a1, a2, a3, a4⟩ := r1
  obtain ⟨j, hj⟩ : ∃ j, j = s B 4 := ⟨_, rfl⟩
  have c4 : u 160 1524 = j := by rw [hj]; exact r2.2.2.2.2.2.2.2.2.1.symm
  rw [← hj]
  by_cases q : j < 5
  · have jj : 0 ≤ j ∧ j < 5 := by omega
    have jw : w32 j = j := w32_id (by omega) (by omega)
    obtain ⟨w, s2, s3, u3, d1, d2, p0, p1, d3, f3, g3, g25, d6, d7, n8, d8⟩ := new_both (t := 0) (j := j) (lim := 5) hB h hr0 (by omega) c4 rfl jj
    have m3 : TW s3 u3 ∨ BD s3 u3 := d8.imp (fun z => z.1) id
    obtain ⟨x1, x1e, x1v⟩ := kt_3 s3 u3
    obtain ⟨s4, u4, e1, e2, e3⟩ := tk_word2 m3 (k := 3) (by omega) x1v
    obtain ⟨v5, w5, s5, u5, i1, i2, i3, i4⟩ := tk_num2 (EC_m e3) (lo := 0) (hi := 9) (by omega) (by omega)
    obtain ⟨S5, hS5⟩ : ∃ S5, S5 = jup s5 (B + 1) j v5 := ⟨_, rfl⟩
    have m5 : TW S5 u5 ∨ BD S5 u5 := M_up (EC_m i3) (fun b => by rw [hS5, u_ne (by omega)]) (fun b => by rw [hS5, u_ne (by omega)])
    obtain ⟨x2, x2e, x2v⟩ := kt_4 S5 u5
    obtain ⟨s6, u6, k1, k2, k3⟩ := tk_word2 m5 (k := 4) (by omega) x2v
    obtain ⟨v7, w7, s7, u7, l1, l2, l3, l4⟩ := tk_num2 (EC_m k3) (lo := 0) (hi := 99) (by omega) (by omega)
    obtain ⟨S8, hS8⟩ : ∃ S8, S8 = jup (jup s7 (B + 2) j v7) (B + 3) j 20 := ⟨_, rfl⟩
    have m8 : TW S8 u7 ∨ BD S8 u7 := M_up (EC_m l3) (fun b => by rw [hS8, u_ne (by omega), u_ne (by omega)]) (fun b => by rw [hS8, u_ne (by omega), u_ne (by omega)])
    obtain ⟨x3, x3e, x3v⟩ := kt_5 S8 u7
    have f4 : ∀ a b, a ≠ 11 → s4 a b = s3 a b := fun a b z => e3.2.1 a b (fun y => z y.1)
    have f5 : ∀ a b, a ≠ 11 → s5 a b = s3 a b := fun a b z => by rw [i3.2.1 a b (fun y => z y.1), f4 a b z]
    have f6 : ∀ a b, a ≠ 11 → s6 a b = S5 a b := fun a b z => k3.2.1 a b (fun y => z y.1)
    have f7 : ∀ a b, a ≠ 11 → s7 a b = S5 a b := fun a b z => by rw [l3.2.1 a b (fun y => z y.1), f6 a b z]
    have F8 : ∀ a b, a ≠ 11 → ¬ ((a = B + 1 ∨ a = B + 2 ∨ a = B + 3) ∧ b = j) → S8 a b = s3 a b := fun a b z y => by rw [hS8, u_ne (by omega), u_ne (by omega), f7 a b z, hS5, u_ne (by omega), f5 a b z]
    have V1 : S8 (B + 1) j = v5 := by rw [hS8, u_ne (by omega), u_ne (by omega), f7 _ _ (by omega), hS5, u_eq ⟨rfl, rfl⟩]
    have V2 : S8 (B + 2) j = v7 := by rw [hS8, u_ne (by omega), u_eq ⟨rfl, rfl⟩]
    have V3 : S8 (B + 3) j = 20 := by rw [hS8, u_eq ⟨rfl, rfl⟩]
    have g7 : ∀ a b, ¬ (a = 155 ∧ 12 ≤ b ∧ b ≤ 19) → u7 a b = u3 a b := fun a b z => by rw [l3.2.2.1 a b z, k3.2.2.1 a b z, i3.2.2.1 a b z, e3.2.2.1 a b z]
    have y0 : s3 13 0 = 11 := by rw [f3 _ _ (by omega) (by unfold nmc; omega)]; exact a0
    have y1 : s3 13 1 = B := by rw [f3 _ _ (by omega) (by unfold nmc; omega)]; exact a1
    have E8 : EX (rS B) s S8 := by
      rw [hS8]
      refine EX.up (EX.up (EX.tr ?_ ((rC_rS k3.2.1).tr (rC_rS l3.2.1))) (Or.inr (Or.inr ⟨by omega, by omega⟩))) (Or.inr (Or.inr ⟨by omega, by omega⟩))
      rw [hS5]
      exact EX.up ((d6.tr (rC_rS e3.2.1)).tr (rC_rS i3.2.1)) (Or.inr (Or.inr ⟨by omega, by omega⟩))
    have U7 : EX rQ u u7 := (((d7.tr (rD_rQ e3.2.2.1)).tr (rD_rQ i3.2.2.1)).tr (rD_rQ k3.2.2.1)).tr (rD_rQ l3.2.2.1)
    have back : TW S8 u7 → (TW s3 u3 ∧ v5 = w5 ∧ (0 ≤ v5 ∧ v5 ≤ 9) ∧ v7 = w7 ∧ (0 ≤ v7 ∧ v7 ≤ 99) ∧ s3 11 3 ≤ S8 11 3) := fun t8 => by
      have t7 : TW s7 u7 := TW_ex t8 (fun b => by rw [hS8, u_ne (by omega), u_ne (by omega)]) (fun b => by rw [hS8, u_ne (by omega), u_ne (by omega)]) (fun _ _ => rfl) (fun _ => rfl)
      obtain ⟨t6, o6⟩ := EC_tw (EC_m k3) l3 t7
      obtain ⟨t5', o5⟩ := EC_tw m5 k3 t6
      have t5 : TW s5 u5 := TW_ex t5' (fun b => by rw [hS5, u_ne (by omega)]) (fun b => by rw [hS5, u_ne (by omega)]) (fun _ _ => rfl) (fun _ => rfl)
      obtain ⟨t4, o4⟩ := EC_tw (EC_m e3) i3 t5
      obtain ⟨t3, o3⟩ := EC_tw m3 e3 t4
      have z1 := i4 t5
      have z2 := l4 t7
      have e5 : S5 11 3 = s5 11 3 := by rw [hS5, u_ne (by omega)]
      have e8 : S8 11 3 = s7 11 3 := by rw [hS8, u_ne (by omega), u_ne (by omega)]
      exact ⟨t3, z1.1, z1.2, z2.1, z2.2, by omega⟩
    have hcl : Sr_takeStuff 13 j s = if w32 (S8 11 5) = 5 then (jb (Te_advance 11 S8) fun v8 s8 => if jok 3 (s8 13 1) = true ∧ jok 5 (s8 13 0) = true then jb (Te_takeNumber (s8 13 0) 0 99 s8) fun v9 s9 => if (0 ≤ (w32 j) ∧ (w32 j) < 5) ∧ jok 3 ((jup s9 ((s8 13 1) + 3) (w32 j) v9) 13 1) = true then some (0, (jup (jup s9 ((s8 13 1) + 3) (w32 j) v9) ((jup s9 ((s8 13 1) + 3) (w32 j) v9) 13 1) 4 (((jup s9 ((s8 13 1) + 3) (w32 j) v9) ((jup s9 ((s8 13 1) + 3) (w32 j) v9) 13 1) 4) + 1))) else none else none) else some (0, jup S8 B 4 (j + 1)) := by
      have q0 : s4 13 0 = 11 := by rw [f4 _ _ (by omega)]; exact y0
      have q1 : s4 13 1 = B := by rw [f4 _ _ (by omega)]; exact y1
      have q2 : S5 13 0 = 11 := by rw [hS5, u_ne (by omega), f5 _ _ (by omega)]; exact y0
      have q3 : s6 13 0 = 11 := by rw [f6 _ _ (by omega)]; exact q2
      have q4 : s6 13 1 = B := by rw [f6 _ _ (by omega), hS5, u_ne (by omega), f5 _ _ (by omega)]; exact y1
      have q5 : jup s7 (B + 2) j v7 13 1 = B := by rw [u_ne (by omega), f7 _ _ (by omega), hS5, u_ne (by omega), f5 _ _ (by omega)]; exact y1
      have q6 : S8 13 0 = 11 := by rw [F8 _ _ (by omega) (by omega)]; exact y0
      have q7 : S8 13 1 = B := by rw [F8 _ _ (by omega) (by omega)]; exact y1
      have q8 : S8 B 4 = j := by rw [F8 _ _ (by omega) (by omega), f3 _ _ (by omega) (by unfold nmc; omega), hj]
      rw [Sr_takeStuff, jw, if_pos q, a0, if_pos jok5, d1, jb_t, p0, p1, if_pos ⟨jok5, jok3 hB⟩, d2, jb_t, y0, if_pos jok5, e1, jb_t, q0, q1, if_pos ⟨jok3 hB, jok5⟩, i1, jb_t, ← hS5, q2, if_pos ⟨jj, jok5⟩, k1, jb_t, q3, q4, if_pos ⟨jok3 hB, jok5⟩, l1, jb_t, q5, if_pos ⟨jj, jok3 hB, jj⟩, jm_s, ← hS8, q6, if_pos jok5, q7, q8, if_pos (jok3 hB), if_pos jok5]
    have hrf : Md_readStuff 155 u = jb (Md_perhaps 155 x3 u7) fun v8 s8 => if (w32 v8) = 0 then (Md_readStuff_54 155 w w5 w7 20 s8) else (jb (Md_count 155 0 99 s8) fun v9 s9 => Md_readStuff_54 155 w w5 w7 v9 s9) := by
      rw [Md_readStuff, d3, jb_t, x1e, jb_t, Md_behindWord, e2, jb_t, i2, jb_t, jb_t, x2e, jb_t, Md_behindWord, k2, jb_t, l2, jb_t, jb_t, x3e, jb_t]
    rw [hcl, hrf]
    clear hcl hrf
    have q6 : S8 13 0 = 11 := by rw [F8 _ _ (by omega) (by omega)]; exact y0
    have q7 : S8 13 1 = B := by rw [F8 _ _ (by omega) (by omega)]; exact y1
    have q8 : S8 B 4 = j := by rw [F8 _ _ (by omega) (by omega), f3 _ _ (by omega) (by unfold nmc; omega), hj]
    have hcy : ∀ (s9 s10 : jM) (v10 : Int), Te_advance 11 S8 = some (0, s9) → EX rC S8 s9 → Te_takeNumber 11 0 99 s9 = some (v10, s10) → EX rC s9 s10 → (jb (Te_advance 11 S8) fun v8 s8 => if jok 3 (s8 13 1) = true ∧ jok 5 (s8 13 0) = true then jb (Te_takeNumber (s8 13 0) 0 99 s8) fun v9 s9 => if (0 ≤ (w32 j) ∧ (w32 j) < 5) ∧ jok 3 ((jup s9 ((s8 13 1) + 3) (w32 j) v9) 13 1) = true then some (0, (jup (jup s9 ((s8 13 1) + 3) (w32 j) v9) ((jup s9 ((s8 13 1) + 3) (w32 j) v9) 13 1) 4 (((jup s9 ((s8 13 1) + 3) (w32 j) v9) ((jup s9 ((s8 13 1) + 3) (w32 j) v9) 13 1) 4) + 1))) else none else none) = some (0, jup (jup s10 (B + 3) j v10) B 4 (j + 1)) := fun s9 s10 v10 z1 z2 z3 z4 => by
      have a9 : ∀ a b, a ≠ 11 → s9 a b = S8 a b := fun a b y => z2 a b (fun x => y x.1)
      have a10 : ∀ a b, a ≠ 11 → s10 a b = S8 a b := fun a b y => by rw [z4 a b (fun x => y x.1), a9 a b y]
      have r0 : s9 13 0 = 11 := by rw [a9 _ _ (by omega)]; exact q6
      have r1 : s9 13 1 = B := by rw [a9 _ _ (by omega)]; exact q7
      have r2 : jup s10 (B + 3) j v10 13 1 = B := by rw [u_ne (by omega), a10 _ _ (by omega)]; exact q7
      have r3 : jup s10 (B + 3) j v10 B 4 = j := by rw [u_ne (by omega), a10 _ _ (by omega)]; exact q8
      rw [z1, jb_t, r0, r1, if_pos ⟨jok3 hB, jok5⟩, z3, jb_t, jw, r2, if_pos ⟨jj, jok3 hB⟩, r3]
    -- the end, well
    have fin : ∀ (S T : jM) (v3 : Int), TW S T → v5 = w5 ∧ (0 ≤ v5 ∧ v5 ≤ 9) ∧ v7 = w7 ∧ (0 ≤ v7 ∧ v7 ≤ 99) → 0 ≤ v3 ∧ v3 ≤ 99 → TW s3 u3 → s3 11 3 ≤ S 11 3 → (∀ a b, a ≠ 11 → ¬ (a = B + 3 ∧ b = j) → S a b = S8 a b) → S (B + 3) j = v3 → EX rC S8 S ∨ EX (rS B) S8 S → EX rD u7 T → Md_readStuff_54 155 w w5 w7 v3 T = some (0, jup (jup (jup (jup T 160 (1533 + j) w5) 160 (1538 + j) w7) 160 (1543 + j) v3) 160 1524 (T 160 1524 + 1)) ∧ PO B s u (jup S B 4 (j + 1)) (jup (jup (jup (jup T 160 (1533 + j) w5) 160 (1538 + j) w7) 160 (1543 + j) v3) 160 1524 (T 160 1524 + 1)) := fun S T v3 tS hv h3 t3 o3 SF sv3 SE TE => by
      rcases d8 with ⟨d8, d9, d10, d11⟩ | d8
      rotate_left
      · exact absurd t3 (nb_tw d8)
      have gT : ∀ a b, ¬ (a = 155 ∧ 12 ≤ b ∧ b ≤ 19) → T a b = u3 a b := fun a b z => by rw [TE a b z, g7 a b z]
      have T4 : T 160 1524 = j := by rw [gT _ _ (by omega), g3 _ _ (by omega) (by omega)]; exact c4
      refine ⟨by rw [d9]; exact st54 jj tS.2.2, ⟨?_, ?_⟩, Or.inl ⟨?_, ?_, ?_⟩⟩
      · refine EX.up (E8.tr ?_) (Or.inr (Or.inr ⟨by omega, by omega⟩))
        exact SE.elim (fun z => rC_rS z) id
      · exact ((((U7.tr (rD_rQ TE)).up (Or.inr (Or.inl ⟨rfl, by omega⟩))).up (Or.inr (Or.inl ⟨rfl, by omega⟩))).up (Or.inr (Or.inl ⟨rfl, by omega⟩))).up (Or.inr (Or.inl ⟨rfl, by omega⟩))
      · exact TW_ex tS (fun b => u_ne (by omega)) (fun b => u_ne (by omega)) (fun b _ => by rw [u_ne (by omega), u_ne (by omega), u_ne (by omega), u_ne (by omega)]) (fun b => by rw [u_ne (by omega), u_ne (by omega), u_ne (by omega), u_ne (by omega)])
      · refine stuff_end (j := j) (v1 := v5) (v2 := v7) (v3 := v3) hB hr0 c4 jj hv.2.1 hv.2.2.2 h3 (fun a b z1 z2 z3 z4 => ?_) ?_ ?_ ?_ (u_eq ⟨rfl, rfl⟩) (fun a b z1 z2 z3 => ?_) ?_ ?_ ?_ ?_ ?_ ?_
        · rw [u_ne z4, SF a b z1 (by omega), F8 a b z1 z3, f3 a b z1 z2]
        · rw [u_ne (by omega), SF _ _ (by omega) (by omega)]; exact V1
        · rw [u_ne (by omega), SF _ _ (by omega) (by omega)]; exact V2
        · rw [u_ne (by omega)]; exact sv3
        · rw [u_ne (by omega), u_ne (by omega), u_ne (by omega), u_ne (by omega), gT a b (fun y => z1 y.1), g3 a b z1 z2]
        · rw [u_ne (by omega), u_ne (by omega), u_ne (by omega), u_ne (by omega), gT _ _ (by omega)]; exact g25
        · rw [u_ne (by omega), u_ne (by omega), u_ne (by omega), u_eq ⟨rfl, rfl⟩]; exact hv.1.symm
        · rw [u_ne (by omega), u_ne (by omega), u_eq ⟨rfl, rfl⟩]; exact hv.2.2.1.symm
        · rw [u_ne (by omega), u_eq ⟨rfl, rfl⟩]
        · rw [u_eq ⟨rfl, rfl⟩, T4]
        · refine d11 _ _ ?_ (fun a b z1 z2 => ?_) ?_ (fun o z1 z2 z3 => ?_) (fun i => ?_)
          · rw [u_ne (by omega), SF _ _ (by omega) (by omega), F8 _ _ (by omega) (by omega)]
          · rw [u_ne (by omega), SF _ _ (by omega) (by omega), F8 _ _ (by omega) (by omega)]
          · show jup _ 160 1524 (T 160 1524 + 1) 160 1524 = _
            rw [u_eq ⟨rfl, rfl⟩, T4]
          · rw [u_ne (by omega), u_ne (by omega), u_ne (by omega), u_ne (by omega), gT _ _ (by omega), g3 _ _ (by omega) (by omega)]
          · rw [u_ne (by omega), u_ne (by omega), u_ne (by omega), u_ne (by omega), gT _ _ (by omega)]
      · rw [u_ne (by omega)]; omega
    -- the end, faulty
    have bad : ∀ (S T : jM), BD S T → (∀ a b, a ≠ 11 → ¬ (a = B + 3 ∧ b = j) → S a b = S8 a b) → EX (rS B) S8 S → EX rD u7 T → PO B s u (jup S B 4 (j + 1)) T := fun S T bS SF SE TE => by
      refine ⟨⟨EX.up (E8.tr SE) (Or.inr (Or.inr ⟨by omega, by omega⟩)), U7.tr (rD_rQ TE)⟩, Or.inr ⟨BD_ex bS (fun b => u_ne (by omega)) (fun b => u_ne (by omega)) ⟨rfl, rfl⟩, ?_⟩⟩
      obtain ⟨v0, v1, v8, v4, v5, v6⟩ := sv
      refine ⟨?_, ?_, ?_, ?_, ?_, ?_⟩
      · rw [u_ne (by omega), SF _ _ (by omega) (by omega)]; exact q6
      · rw [u_ne (by omega), SF _ _ (by omega) (by omega)]; exact q7
      · rw [u_ne (by omega), SF _ _ (by omega) (by omega), F8 _ _ (by omega) (by omega)]; exact n8
      · rw [u_eq ⟨rfl, rfl⟩]; omega
      · rw [u_ne (by omega), SF _ _ (by omega) (by omega), F8 _ _ (by omega) (by omega), f3 _ _ (by omega) (by unfold nmc; omega)]; exact v5
      · rw [u_ne (by omega), SF _ _ (by omega) (by omega), F8 _ _ (by omega) (by omega), f3 _ _ (by omega) (by unfold nmc; omega)]; exact v6
    rcases m8 with t8 | b8
    · obtain ⟨t3, z1, z2, z3, z4, z5⟩ := back t8
      have k5 := TK_5 t8.1
      rw [x3v t8, w32_id (x := S8 11 5) (by omega) (by omega), Md_perhaps, if_neg (u12 t8.2.2)]
      by_cases z : S8 11 5 = 5
      · obtain ⟨s9, u9, n1, n2, n3, n4, n5, n6⟩ := both_adv t8
        obtain ⟨v10, w10, s10, u10, o1, o2, o3, o4⟩ := tk_num2 (Or.inl n3) (lo := 0) (hi := 99) (by omega) (by omega)
        rw [if_pos z, if_pos z, if_neg (by decide), n2, jb_t, jb_t, if_neg (by decide), o2, jb_t, hcy s9 s10 v10 n1 n5 o1 o3.2.1]
        have hE : EX rC S8 s10 := n5.tr o3.2.1
        have hF : ∀ a b, a ≠ 11 → ¬ (a = B + 3 ∧ b = j) → jup s10 (B + 3) j v10 a b = S8 a b := fun a b y1 y2 => by rw [u_ne y2]; exact hE a b (fun x => y1 x.1)
        have hS : EX (rS B) S8 (jup s10 (B + 3) j v10) := (rC_rS hE).up (Or.inr (Or.inr ⟨by omega, by omega⟩))
        rcases EC_m o3 with t10 | b10
        · obtain ⟨y1, y2⟩ := o4 t10
          have y3 := (EC_tw (Or.inl n3) o3 t10).2
          have y4 := TW_3 t8 n4
          obtain ⟨g1, g2⟩ := fin (jup s10 (B + 3) j v10) u10 v10 (TW_ex t10 (fun b => u_ne (by omega)) (fun b => u_ne (by omega)) (fun _ _ => rfl) (fun _ => rfl)) ⟨z1, z2, z3, z4⟩ y2 t3 (by rw [u_ne (by omega)]; omega) hF (u_eq ⟨rfl, rfl⟩) (Or.inr hS) (n6.tr o3.2.2.1)
          rw [← y1, g1]
          exact ⟨_, _, rfl, rfl, g2⟩
        · rw [st54_bd (bdb b10)]
          exact ⟨_, _, rfl, rfl, bad _ _ (BD_ex b10 (fun b => u_ne (by omega)) (fun b => u_ne (by omega)) ⟨rfl, rfl⟩) hF hS (n6.tr o3.2.2.1)⟩
      · rw [if_neg z, if_neg z, if_pos (by decide), jb_t, if_pos (by decide)]
        obtain ⟨g1, g2⟩ := fin S8 u7 20 t8 ⟨z1, z2, z3, z4⟩ (by omega) t3 z5 (fun _ _ _ _ => rfl) V3 (Or.inl (EX.rf _ _)) (EX.rf _ _)
        rw [g1]
        exact ⟨_, _, rfl, rfl, g2⟩
    · rw [perhaps_bd (bdb b8), jb_t, if_pos (c := w32 0 = 0) (by decide), st54_bd (bdb b8)]
      by_cases z : w32 (S8 11 5) = 5
      · obtain ⟨s9, n1, n2, n3⟩ := SB_adv (BD_SB b8)
        obtain ⟨v10, s10, o1, o2, o3⟩ := SB_num (bdb b8) 0 99 n2
        have hE : EX rC S8 s10 := n3.tr o3
        rw [if_pos z, hcy s9 s10 v10 n1 n3 o1 o3]
        exact ⟨_, _, rfl, rfl, bad _ _ (BD_ex (SB_BD o2 (bdb b8)) (fun b => u_ne (by omega)) (fun b => u_ne (by omega)) ⟨rfl, rfl⟩) (fun a b y1 y2 => by rw [u_ne y2]; exact hE a b (fun x => y1 x.1)) ((rC_rS hE).up (Or.inr (Or.inr ⟨by omega, by omega⟩))) (EX.rf _ _)⟩
      · rw [if_neg z]
        exact ⟨_, _, rfl, rfl, bad _ _ b8 (fun _ _ _ _ => rfl) (EX.rf _ _) (EX.rf _ _)⟩
  · have k4 := TK_kw h.1 (by omega)
    have e6 : j = 5 := by omega
    obtain ⟨s', u', b1, b2, b3, b4⟩ := fault_PO hb (c := 6) (by omega) h (by omega) hr0
    refine ⟨s', u', ?_, ?_, b4⟩
    · rw [Sr_takeStuff, e6, if_neg (by decide), a0, if_pos jok5, b1, jb_t]
    · obtain ⟨y1, y1e, -⟩ := kt_3 s' u'
      obtain ⟨y2, y2e, -⟩ := kt_4 s' u'
      obtain ⟨y3, y3e, -⟩ := kt_5 s' u'
      rw [Md_readStuff, readNew_full (t := 0) (by omega) (by show u 160 1524 = 5; omega) b2 b3, jb_t, y1e, jb_t, behind_bd b3, jb_t, y2e, jb_t, behind_bd b3, jb_t, y3e, jb_t, perhaps_bd b3, jb_t, if_pos (by decide), st54_bd b3]
