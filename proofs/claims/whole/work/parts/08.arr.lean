/-! arrays, the copying of them, the rest of the straight instructions -/
theorem jelt_k {t : Nat} (h : jelt t ≤ 3) : ∃ t0 a, t = 4 + t0 ∧ jarr t0 = some a ∧ jelt t = a.1 := by
  match t, h with
  | 0, h => exact absurd (show 9 ≤ 3 from h) (by decide)
  | 1, h => exact absurd (show 9 ≤ 3 from h) (by decide)
  | 2, h => exact absurd (show 5 ≤ 3 from h) (by decide)
  | 3, h => exact absurd (show 6 ≤ 3 from h) (by decide)
  | t + 4, h =>
    have e : jelt (t + 4) = (match jarr t with | some a => a.1 | none => 9) := rfl
    cases ha : jarr t with
    | none => rw [e, ha] at h; exact absurd h (by decide)
    | some a => exact ⟨t, a, by omega, ha, by rw [e, ha]⟩
theorem jlen_k {t0 : Nat} {a : Nat × Nat × Int × Int × Nat} (ha : jarr t0 = some a) (σ : jM) : jlen (4 + t0) σ = (a.2.1 : Int) := by
  have e : jlen (t0 + 4) σ = (match jarr t0 with | some a => (a.2.1 : Int) | none => 0) := rfl
  rw [Nat.add_comm, e, ha]
theorem jel_k {t0 : Nat} {a : Nat × Nat × Int × Int × Nat} (ha : jarr t0 = some a) (k i : Int) (σ : jM) (h : a.1 ≤ 3) : jel (4 + t0) k i σ = (match a.1 with | 0 => (0, σ k i) | 1 => (1, σ k i) | 2 => (0, σ k i) | _ => (4 + a.2.2.2.2, k + a.2.2.1 + a.2.2.2.1 * i)) := by
  have e1 : jelt (4 + t0) = a.1 := by
    rw [Nat.add_comm]
    have e : jelt (t0 + 4) = (match jarr t0 with | some a => a.1 | none => 9) := rfl
    rw [e, ha]
  obtain ⟨a1, a2⟩ := a
  match a1, e1, ha, h with
  | 0, e1, ha, _ => simp only [jel, e1]
  | 1, e1, ha, _ => simp only [jel, e1]
  | 2, e1, ha, _ => simp only [jel, e1]
  | 3, e1, ha, _ => simp only [jel, e1, show 4 + t0 - 4 = t0 by omega, ha]
  | z + 4, _, _, h => exact absurd h (by show ¬ (z + 4 ≤ 3); omega)
section JR
variable {S : jS} {d : Nat} {p : Program} {l : Launch} {e : Env} {R : Room} {s : State} {m : MethodId} {args : Array Value} {below : List Frame} {meth : Method} {cd : Code} {cells slots : Nat} {Q : State → Prop} {G : jG} {c c' : jC} {n : Nat} {g : List Prop}
theorem jr_dup (C : jat S d p R s m args cd cells slots G) (hd : decode S.2.1 c.1 = .ok (.dup, 1)) (h : jdup c 1 = some (g, c')) (k : jGo S p l e R s m args below meth cd cells slots Q G c') : jGo S p l e R s m args below meth cd cells slots Q G c := by
  obtain ⟨hx, hb, -⟩ := C
  obtain ⟨pc, L, st, σ⟩ := c
  unfold jdup at h
  dsimp only at h hd
  split at h
  · rename_i a r
    by_cases hq : Nat.beq 1 a.1 = true
    · rw [hq] at h; cases h
    · rw [Bool.not_eq_true] at hq
      rw [hq] at h
      simp only [cond_false, Option.some.injEq, Prod.mk.injEq] at h
      obtain ⟨-, rfl⟩ := h
      intro ls H locs h1 h2 h3 h4
      exact lv_dup hx hb hd (jval_cat1 (fun q => by rw [q] at hq; exact absurd hq (by decide))) (k ls H locs h1 (fun w hw => (List.mem_cons.mp hw).elim (fun q => q ▸ h2 a List.mem_cons_self) (h2 w)) h3 h4)
  · cases h
theorem jr_dup2 (C : jat S d p R s m args cd cells slots G) (hd : decode S.2.1 c.1 = .ok (.dup2, 1)) (h : jdup2 c 1 = some (g, c')) (k : jGo S p l e R s m args below meth cd cells slots Q G c') : jGo S p l e R s m args below meth cd cells slots Q G c := by
  obtain ⟨hx, hb, -⟩ := C
  obtain ⟨pc, L, st, σ⟩ := c
  unfold jdup2 at h
  dsimp only at h hd
  split at h
  · rename_i a b r
    by_cases hq : (Nat.beq 1 a.1 || Nat.beq 1 b.1) = true
    · rw [hq] at h; cases h
    · rw [Bool.not_eq_true] at hq
      rw [hq] at h
      simp only [cond_false, Option.some.injEq, Prod.mk.injEq] at h
      obtain ⟨-, rfl⟩ := h
      rw [Bool.or_eq_false_iff] at hq
      intro ls H locs h1 h2 h3 h4
      exact lv_dup2_11 hx hb hd (jval_cat1 (fun q => by rw [q] at hq; exact absurd hq.1 (by decide))) (jval_cat1 (fun q => by rw [q] at hq; exact absurd hq.2 (by decide))) (k ls H locs h1 (fun w hw => (List.mem_cons.mp hw).elim (fun q => q ▸ h2 a List.mem_cons_self) (fun hw => (List.mem_cons.mp hw).elim (fun q => q ▸ h2 b (List.mem_cons_of_mem _ List.mem_cons_self)) (h2 w))) h3 h4)
  · cases h
theorem jr_pop (C : jat S d p R s m args cd cells slots G) (hd : decode S.2.1 c.1 = .ok (.pop, 1)) (h : jpop c 1 = some (g, c')) (k : jGo S p l e R s m args below meth cd cells slots Q G c') : jGo S p l e R s m args below meth cd cells slots Q G c := by
  obtain ⟨hx, hb, -⟩ := C
  obtain ⟨pc, L, st, σ⟩ := c
  unfold jpop at h
  dsimp only at h hd
  split at h
  · rename_i a r
    by_cases hq : Nat.beq 1 a.1 = true
    · rw [hq] at h; cases h
    · rw [Bool.not_eq_true] at hq
      rw [hq] at h
      simp only [cond_false, Option.some.injEq, Prod.mk.injEq] at h
      obtain ⟨-, rfl⟩ := h
      intro ls H locs h1 h2 h3 h4
      exact lv_pop hx hb hd (jval_cat1 (fun q => by rw [q] at hq; exact absurd hq (by decide))) (k ls H locs h1 (fun w hw => h2 w (List.mem_cons_of_mem _ hw)) h3 h4)
  · cases h
/-- what an array's cell is, of a tag that stands on the stack -/
theorem jr_cellA {σ : jM} {t0 : Nat} {a : Nat × Nat × Int × Int × Nat} {k : Int} (hG : jGok G) (hv : jvok (4 + t0, k)) (ha : jarr t0 = some a) : k.toNat < jN ∧ ((k.toNat : Nat) : Int) = k ∧ 0 ≤ k ∧ (jW G σ)[k.toNat]? = some (gad G k.toNat, .inl (gcA G k.toNat, jco G σ k a)) ∧ ∃ t : Nat, (gtys G)[t]? = some (gcA G k.toNat, jety a) := by
  obtain ⟨q1, q2, q3, q4, q5⟩ := jvok_k hv
  have ha2 : jarr (jcells.getD k.toNat 0) = some a := by rw [q4]; exact ha
  exact ⟨q3, q5, q1, by rw [jW_at G σ q3, jcell_a q4 ha, q5], hG.2.2 _ _ q3 ha2⟩
theorem jr_alen (C : jat S d p R s m args cd cells slots G) (hd : decode S.2.1 c.1 = .ok (.arraylength, 1)) (h : jalen c 1 = some (g, c')) (k : jGo S p l e R s m args below meth cd cells slots Q G c') : jGo S p l e R s m args below meth cd cells slots Q G c := by
  obtain ⟨hx, hb, hml, hown, hts, hG, hC, -⟩ := C
  obtain ⟨pc, L, st, σ⟩ := c
  unfold jalen at h
  dsimp only at h hd
  split at h
  · rename_i v r
    obtain ⟨t, v⟩ := v
    by_cases hq : Nat.ble (jelt t) 6 = true
    · rw [hq] at h
      simp only [cond_true, Option.some.injEq, Prod.mk.injEq] at h
      obtain ⟨-, rfl⟩ := h
      intro ls H locs h1 h2 h3 h4
      have k2 := k ls H locs h1 (fun w hw => (List.mem_cons.mp hw).elim (fun q => q ▸ jvok_0 _) (fun hw => h2 w (List.mem_cons_of_mem _ hw))) h3 h4
      by_cases h5 : jelt t ≤ 3
      · obtain ⟨t0, a, rfl, ha, -⟩ := jelt_k h5
        obtain ⟨q3, q5, q1, hcell, t1, ht1⟩ := jr_cellA (σ := σ) hG (h2 _ List.mem_cons_self) ha
        show W p l e R s m args below meth cd H locs cells slots Q (F0 m pc ls (jval G (4 + t0, v) :: r.map (jval G)))
        rw [jval_r]
        refine va_alen hx hb hC.2.1 h3.1 v.toNat t1 hcell ht1 (v := Int32.ofInt (a.2.1 : Int)) (Int32.ofInt_eq_ofNat).symm hd ?_
        have k3 : W p l e R s m args below meth cd H locs cells slots Q (F0 m (pc + 1) ls (jval G (0, jlen (4 + t0) σ) :: r.map (jval G))) := k2
        rw [jlen_k ha] at k3
        exact k3
      · match t, hq, h5, k2 with
        | 0, hq, _, _ => exact absurd hq (by decide)
        | 1, hq, _, _ => exact absurd hq (by decide)
        | 2, _, _, k2 => exact va_tlen hx hb hC.2.2.2.1 h4 (v := Int32.ofInt 26) rfl hd k2
        | 3, _, _, k2 =>
          refine va_tlen hx hb hC.2.2.2.2 h4 (v := Int32.ofInt (σ (-2) 0)) ?_ hd k2
          have h9 : σ (-2) 0 = (gscl G : Int) := h3.2.1
          rw [h9]
          exact (Int32.ofInt_eq_ofNat).symm
        | t + 4, hq, h5, _ =>
          exfalso
          have e : jelt (t + 4) = (match jarr t with | some a => a.1 | none => 9) := rfl
          cases ha : jarr t with
          | none => rw [e, ha] at hq; exact absurd hq (by decide)
          | some a =>
            have h6 : ∀ a ∈ jarrs, a.1 ≤ 3 := by decide +kernel
            have h7 : a ∈ jarrs := by
              unfold jarr at ha
              by_cases hz : Nat.ble 20 t = true
              · rw [hz] at ha; exact List.mem_of_getElem? ha
              · rw [Bool.not_eq_true] at hz; rw [hz] at ha; cases ha
            rw [e, ha] at h5
            exact h5 (h6 a h7)
    · rw [Bool.not_eq_true] at hq
      rw [hq] at h
      cases h
  · cases h
theorem jco_0 {σ : jM} {k : Int} {a : Nat × Nat × Int × Int × Nat} (h : a.1 = 0 ∨ a.1 = 2) : jco G σ k a = (a.2.1, .inl (fun j => Int32.ofInt (σ k j))) := by
  obtain ⟨a1, a2⟩ := a
  rcases h with h | h
  · have h : a1 = 0 := h
    subst h; rfl
  · have h : a1 = 2 := h
    subst h; rfl
theorem jco_1 {σ : jM} {k : Int} {a : Nat × Nat × Int × Int × Nat} (h : a.1 = 1) : jco G σ k a = (a.2.1, .inr (.inl (fun j => Int64.ofInt (σ k j)))) := by
  obtain ⟨a1, a2⟩ := a
  have h : a1 = 1 := h
  subst h; rfl
theorem jco_3 {σ : jM} {k : Int} {a : Nat × Nat × Int × Int × Nat} (h : a.1 = 3) : jco G σ k a = (a.2.1, .inr (.inr (.inr (.inr (fun j => some (gad G (k + a.2.2.1 + a.2.2.2.1 * j).toNat)))))) := by
  obtain ⟨a1, a2⟩ := a
  have h : a1 = 3 := h
  subst h; rfl
/-- reading an array: the rows of the kit for each sort -/
theorem jr_ald {q : Nat → Bool} {ins : Instr} (C : jat S d p R s m args cd cells slots G) (hd : decode S.2.1 c.1 = .ok (ins, 1))
    (hq : (ins = .iaload ∧ ∀ t, q t = true → t = 0 ∨ t = 6) ∨ (ins = .laload ∧ ∀ t, q t = true → t = 1 ∨ t = 5) ∨ (ins = .baload ∧ ∀ t, q t = true → t = 2) ∨ (ins = .aaload ∧ ∀ t, q t = true → t = 3))
    (h : jald c 1 q = some (g, c')) (hg : ∀ x ∈ g, x) (k : jGo S p l e R s m args below meth cd cells slots Q G c') : jGo S p l e R s m args below meth cd cells slots Q G c := by
  obtain ⟨hx, hb, hml, hown, hts, hG, hC, -⟩ := C
  obtain ⟨pc, L, st, σ⟩ := c
  unfold jald at h
  dsimp only at h hd
  split at h
  · rename_i i v r
    obtain ⟨t, v⟩ := v
    obtain ⟨ti, i⟩ := i
    by_cases hz : (Nat.beq 0 ti && q (jelt t)) = true
    · rw [hz] at h
      simp only [cond_true, Option.some.injEq, Prod.mk.injEq] at h
      obtain ⟨rfl, rfl⟩ := h
      simp only [Bool.and_eq_true] at hz
      have e1 := Nat.eq_of_beq_eq_true hz.1
      subst e1
      have hin : 0 ≤ w32 i ∧ w32 i < jlen t σ := hg _ List.mem_cons_self
      intro ls H locs h1 h2 h3 h4
      have k2 : jvok (jel t v (w32 i) σ) → W p l e R s m args below meth cd H locs cells slots Q (F0 m (pc + 1) ls (jval G (jel t v (w32 i) σ) :: r.map (jval G))) := fun hv => k ls H locs h1 (fun w hw => (List.mem_cons.mp hw).elim (fun q => q ▸ hv) (fun hw => h2 w (List.mem_cons_of_mem _ (List.mem_cons_of_mem _ hw)))) h3 h4
      have hv := h2 _ (List.mem_cons_of_mem _ List.mem_cons_self)
      have hwn : (((w32 i).toNat : Nat) : Int) = w32 i := Int.toNat_of_nonneg hin.1
      by_cases h5 : jelt t ≤ 3
      · obtain ⟨t0, a, rfl, ha, he⟩ := jelt_k h5
        obtain ⟨q3, q5, q1, hcell, t1, ht1⟩ := jr_cellA (σ := σ) hG hv ha
        rw [jlen_k ha] at hin
        show W p l e R s m args below meth cd H locs cells slots Q (F0 m pc ls (.int (Int32.ofInt i) :: jval G (4 + t0, v) :: r.map (jval G)))
        rw [jval_r]
        rw [jel_k ha _ _ _ (by rw [← he]; exact h5)] at k2
        rw [he] at hz
        rcases hq with ⟨rfl, hq⟩ | ⟨rfl, hq⟩ | ⟨rfl, hq⟩ | ⟨rfl, hq⟩
        · have e0 : a.1 = 0 := (hq _ hz.2).elim id (fun z => by rw [he] at h5; omega)
          rw [jco_0 (Or.inl e0)] at hcell
          rw [e0] at k2
          have ht2 : (gtys G)[t1]? = some (gcA G v.toNat, .int) := by rw [ht1]; simp only [jety, e0]
          refine va_iald hx hb hC.2.1 h3.1 v.toNat t1 hcell ht2 (o32_in hin) hd ?_
          have k3 := k2 (jvok_0 _)
          rw [o32_cl, hwn]
          exact k3
        · have e0 : a.1 = 1 := (hq _ hz.2).elim id (fun z => by rw [he] at h5; omega)
          rw [jco_1 e0] at hcell
          rw [e0] at k2
          have ht2 : (gtys G)[t1]? = some (gcA G v.toNat, .long) := by rw [ht1]; simp only [jety, e0]
          refine va_lald hx hb hC.2.1 h3.1 v.toNat t1 hcell ht2 (o32_in hin) hd ?_
          have k3 := k2 (jvok_1 _)
          rw [o32_cl, hwn]
          exact k3
        · have e0 : a.1 = 2 := hq _ hz.2
          rw [jco_0 (Or.inr e0)] at hcell
          rw [e0] at k2
          have ht2 : (gtys G)[t1]? = some (gcA G v.toNat, .byte) := by rw [ht1]; simp only [jety, e0]
          refine va_bald hx hb hC.2.1 h3.1 v.toNat t1 hcell ht2 (o32_in hin) hd ?_
          have k3 := k2 (jvok_0 _)
          rw [o32_cl, hwn]
          exact k3
        · have e0 : a.1 = 3 := hq _ hz.2
          rw [jco_3 e0] at hcell
          rw [e0] at k2
          have ht2 : (gtys G)[t1]? = some (gcA G v.toNat, .object (jcl.getD a.2.2.2.2 ("", jT0, 0)).1) := by rw [ht1]; simp only [jety, e0]
          refine va_aldq hx hb hC.2.1 h3.1 v.toNat t1 hcell ht2 (o32_in hin) hd ?_
          have h9 := List.all_eq_true.mp jfin_all v.toNat (List.mem_range.mpr q3)
          obtain ⟨-, -, -, z4, -⟩ := jvok_k hv
          rw [z4, ha] at h9
          simp only [e0, show Nat.beq 3 3 = true from rfl, cond_true] at h9
          have h10 := List.all_eq_true.mp h9 (w32 i).toNat (List.mem_range.mpr (by omega))
          rw [q5, hwn] at h10
          have k3 := k2 (jok_v h10)
          rw [o32_cl, hwn]
          have e9 : jval G (4 + a.2.2.2.2, v + a.2.2.1 + a.2.2.2.1 * w32 i) = va_rf (some (gad G (v + a.2.2.1 + a.2.2.2.1 * w32 i).toNat)) := jval_r G _ _
          rw [← e9]
          exact k3
      · rcases hq with ⟨rfl, hq⟩ | ⟨rfl, hq⟩ | ⟨rfl, hq⟩ | ⟨rfl, hq⟩
        · have e0 : jelt t = 6 := (hq _ hz.2).elim (fun z => by omega) id
          have e3 : t = 3 := by
            match t, e0, h5 with
            | 0, e0, _ => exact absurd (show 9 = 6 from e0) (by decide)
            | 1, e0, _ => exact absurd (show 9 = 6 from e0) (by decide)
            | 2, e0, _ => exact absurd (show 5 = 6 from e0) (by decide)
            | 3, _, _ => rfl
            | t + 4, e0, h5 =>
              exfalso
              have e : jelt (t + 4) = (match jarr t with | some a => a.1 | none => 9) := rfl
              cases ha : jarr t with
              | none => rw [e, ha] at e0; exact absurd e0 (by decide)
              | some a =>
                have h6 : ∀ a ∈ jarrs, a.1 ≤ 3 := by decide +kernel
                have h7 : a ∈ jarrs := by
                  unfold jarr at ha
                  by_cases hz : Nat.ble 20 t = true
                  · rw [hz] at ha; exact List.mem_of_getElem? ha
                  · rw [Bool.not_eq_true] at hz; rw [hz] at ha; cases ha
                rw [e, ha] at h5
                exact h5 (h6 a h7)
          subst e3
          have hin : 0 ≤ w32 i ∧ w32 i < σ (-2) 0 := hin
          have h9 : σ (-2) 0 = (gscl G : Int) := h3.2.1
          rw [h9] at hin
          have k3 : W p l e R s m args below meth cd H locs cells slots Q (F0 m (pc + 1) ls (.int (Int32.ofInt (σ (-1) (w32 i))) :: r.map (jval G))) := k2 (jvok_0 _)
          refine va_ti hx hb hC.2.2.2.2 h4 (o32_in hin) (v := .int (Int32.ofInt (σ (-1) (w32 i)))) ?_ hd k3
          have h8 : σ (-1) (((w32 i).toNat : Nat) : Int) = (gxs G (w32 i).toNat).toInt := h3.2.2.1 (w32 i).toNat (by omega)
          rw [hwn] at h8
          show Value.int (gxs G (Int32.ofInt i).toNatClampNeg) = Value.int (Int32.ofInt (σ (-1) (w32 i)))
          rw [h8, Int32.ofInt_toInt, o32_cl]
        · have e0 : jelt t = 5 := (hq _ hz.2).elim (fun z => by omega) id
          have e3 : t = 2 := by
            match t, e0, h5 with
            | 0, e0, _ => exact absurd (show 9 = 5 from e0) (by decide)
            | 1, e0, _ => exact absurd (show 9 = 5 from e0) (by decide)
            | 2, _, _ => rfl
            | 3, e0, _ => exact absurd (show 6 = 5 from e0) (by decide)
            | t + 4, e0, h5 =>
              exfalso
              have e : jelt (t + 4) = (match jarr t with | some a => a.1 | none => 9) := rfl
              cases ha : jarr t with
              | none => rw [e, ha] at e0; exact absurd e0 (by decide)
              | some a =>
                have h6 : ∀ a ∈ jarrs, a.1 ≤ 3 := by decide +kernel
                have h7 : a ∈ jarrs := by
                  unfold jarr at ha
                  by_cases hz : Nat.ble 20 t = true
                  · rw [hz] at ha; exact List.mem_of_getElem? ha
                  · rw [Bool.not_eq_true] at hz; rw [hz] at ha; cases ha
                rw [e, ha] at h5
                exact h5 (h6 a h7)
          subst e3
          have hin : 0 ≤ w32 i ∧ w32 i < 26 := hin
          have k3 : W p l e R s m args below meth cd H locs cells slots Q (F0 m (pc + 1) ls (.long (Int64.ofInt (jkw (w32 i))) :: r.map (jval G))) := k2 (jvok_1 _)
          refine va_tl hx hb hC.2.2.2.1 h4 (o32_in hin) (v := .long (Int64.ofInt (jkw (w32 i)))) ?_ hd k3
          rw [o32_cl, hwn]
        · exact absurd (hq _ hz.2) (by omega)
        · exact absurd (hq _ hz.2) (by omega)
    · rw [Bool.not_eq_true] at hz
      rw [hz] at h
      cases h
  · cases h
/-- a world in which a cell of numbers has changed -/
theorem jWd_set {σ τ : jM} {H1 : Heap} {k : Int} (hP : va_P (gD G) jcl (jW G τ) H1) (hk : 0 ≤ k) (h : ∀ a, a ≠ k → τ a = σ a) {H : Heap} (h3 : jWd G σ H) : jWd G τ H1 :=
  ⟨hP, by rw [h (-2) (by omega)]; exact h3.2.1, fun j hj => by rw [h (-1) (by omega)]; exact h3.2.2.1 j hj, h3.2.2.2⟩
theorem jr_ast {t0 e0 : Nat} {f : Int → Int} {ins : Instr} (C : jat S d p R s m args cd cells slots G) (hd : decode S.2.1 c.1 = .ok (ins, 1))
    (hq : (ins = .iastore ∧ t0 = 0 ∧ e0 = 0 ∧ f = fun v => v) ∨ (ins = .lastore ∧ t0 = 1 ∧ e0 = 1 ∧ f = fun v => v) ∨ (ins = .bastore ∧ t0 = 0 ∧ e0 = 2 ∧ f = w8))
    (h : jast c 1 t0 e0 f = some (g, c')) (hg : ∀ x ∈ g, x) (k : jGo S p l e R s m args below meth cd cells slots Q G c') : jGo S p l e R s m args below meth cd cells slots Q G c := by
  obtain ⟨hx, hb, hml, hown, hts, hG, hC, -⟩ := C
  obtain ⟨pc, L, st, σ⟩ := c
  unfold jast at h
  dsimp only at h hd
  split at h
  · rename_i x i v r
    obtain ⟨t, v⟩ := v
    obtain ⟨ti, i⟩ := i
    obtain ⟨tx, x⟩ := x
    by_cases hz : (Nat.beq t0 tx && Nat.beq 0 ti && Nat.beq e0 (jelt t)) = true
    · rw [hz] at h
      simp only [cond_true, Option.some.injEq, Prod.mk.injEq] at h
      obtain ⟨rfl, rfl⟩ := h
      simp only [Bool.and_eq_true] at hz
      have e1 := Nat.eq_of_beq_eq_true hz.1.1
      have e2 := Nat.eq_of_beq_eq_true hz.1.2
      have e3 := Nat.eq_of_beq_eq_true hz.2
      subst e1; subst e2
      have hin : 0 ≤ w32 i ∧ w32 i < jlen t σ := hg _ List.mem_cons_self
      intro ls H locs h1 h2 h3 h4
      have k2 : ∀ (H1 : Heap) (locs1 : List Loc), va_P (gD G) jcl (jW G (jup σ v (w32 i) (f x))) H1 → va_S (gA G) s.heap H1 locs1 → 0 ≤ v → W p l e R s m args below meth cd H1 locs1 cells slots Q (F0 m (pc + 1) ls (r.map (jval G))) := fun H1 locs1 hP1 hS1 hv0 => k ls H1 locs1 h1 (fun w hw => h2 w (List.mem_cons_of_mem _ (List.mem_cons_of_mem _ (List.mem_cons_of_mem _ hw)))) (jWd_set hP1 hv0 (fun a ha => jup_ne ha) h3) hS1
      have hv := h2 _ (List.mem_cons_of_mem _ (List.mem_cons_of_mem _ List.mem_cons_self))
      have hwn : (((w32 i).toNat : Nat) : Int) = w32 i := Int.toNat_of_nonneg hin.1
      have h5 : jelt t ≤ 3 := by rcases hq with ⟨-, -, q, -⟩ | ⟨-, -, q, -⟩ | ⟨-, -, q, -⟩ <;> omega
      obtain ⟨t0, a, rfl, ha, he⟩ := jelt_k h5
      obtain ⟨q3, q5, q1, hcell, t1, ht1⟩ := jr_cellA (σ := σ) hG hv ha
      have q4 := (jvok_k hv).2.2.2.1
      rw [jlen_k ha] at hin
      rcases hq with ⟨rfl, rfl, rfl, rfl⟩ | ⟨rfl, rfl, rfl, rfl⟩ | ⟨rfl, rfl, rfl, rfl⟩
      · have e0 : a.1 = 0 := by omega
        show W p l e R s m args below meth cd H locs cells slots Q (F0 m pc ls (.int (Int32.ofInt x) :: .int (Int32.ofInt i) :: jval G (4 + t0, v) :: r.map (jval G)))
        rw [jval_r]
        rw [jco_0 (Or.inl e0)] at hcell
        have ht2 : (gtys G)[t1]? = some (gcA G v.toNat, .int) := by rw [ht1]; simp only [jety, e0]
        refine va_iast hx hb hC.2.1 h3.1 (jW_D hG σ) h4 v.toNat t1 hcell ht2 (o32_in hin) hd (fun H1 locs1 hP1 hD1 hS1 => ?_)
        refine k2 H1 locs1 ?_ hS1 q1
        rw [jW_set (t := jup σ v (w32 i) x) q3 ?_ (fun j hj => (jup_ne (by omega)).symm)] at hP1
        · exact hP1
        · rw [jcell_a q4 ha, jco_0 (Or.inl e0), q5]
          refine congrArg (fun z => Sum.inl (gcA G v.toNat, a.2.1, Sum.inl z)) (funext fun j => ?_)
          rw [jup_eq, upd, o32_cl]
          by_cases hj : j = (w32 i).toNat
          · rw [if_pos (by omega), if_pos hj]
          · rw [if_neg (by omega), if_neg hj]
      · have e0 : a.1 = 1 := by omega
        show W p l e R s m args below meth cd H locs cells slots Q (F0 m pc ls (.long (Int64.ofInt x) :: .int (Int32.ofInt i) :: jval G (4 + t0, v) :: r.map (jval G)))
        rw [jval_r]
        rw [jco_1 e0] at hcell
        have ht2 : (gtys G)[t1]? = some (gcA G v.toNat, .long) := by rw [ht1]; simp only [jety, e0]
        refine va_last hx hb hC.2.1 h3.1 (jW_D hG σ) h4 v.toNat t1 hcell ht2 (o32_in hin) hd (fun H1 locs1 hP1 hD1 hS1 => ?_)
        refine k2 H1 locs1 ?_ hS1 q1
        rw [jW_set (t := jup σ v (w32 i) x) q3 ?_ (fun j hj => (jup_ne (by omega)).symm)] at hP1
        · exact hP1
        · rw [jcell_a q4 ha, jco_1 e0, q5]
          refine congrArg (fun z => Sum.inl (gcA G v.toNat, a.2.1, Sum.inr (Sum.inl z))) (funext fun j => ?_)
          rw [jup_eq, vp_updL, o32_cl]
          by_cases hj : j = (w32 i).toNat
          · rw [if_pos (by omega), if_pos hj]
          · rw [if_neg (by omega), if_neg hj]
      · have e0 : a.1 = 2 := by omega
        show W p l e R s m args below meth cd H locs cells slots Q (F0 m pc ls (.int (Int32.ofInt x) :: .int (Int32.ofInt i) :: jval G (4 + t0, v) :: r.map (jval G)))
        rw [jval_r]
        rw [jco_0 (Or.inr e0)] at hcell
        have ht2 : (gtys G)[t1]? = some (gcA G v.toNat, .byte) := by rw [ht1]; simp only [jety, e0]
        refine va_bast hx hb hC.2.1 h3.1 (jW_D hG σ) h4 v.toNat t1 hcell ht2 (o32_in hin) hd (fun H1 locs1 hP1 hD1 hS1 => ?_)
        refine k2 H1 locs1 ?_ hS1 q1
        rw [jW_set (t := jup σ v (w32 i) (w8 x)) q3 ?_ (fun j hj => (jup_ne (by omega)).symm)] at hP1
        · exact hP1
        · rw [jcell_a q4 ha, jco_0 (Or.inr e0), q5]
          refine congrArg (fun z => Sum.inl (gcA G v.toNat, a.2.1, Sum.inl z)) (funext fun j => ?_)
          rw [jup_eq, upd, o32_cl, vp_nar_byte, o32_b]
          by_cases hj : j = (w32 i).toNat
          · rw [if_pos (by omega), if_pos hj]
          · rw [if_neg (by omega), if_neg hj]
    · rw [Bool.not_eq_true] at hz
      rw [hz] at h
      cases h
  · cases h
end JR
