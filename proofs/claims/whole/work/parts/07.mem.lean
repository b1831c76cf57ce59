/-! fields and arrays -/
theorem jcl_in : ∀ q ∈ jcl, ∀ w ∈ u_ws q.1 q.2.1 q.2.2, w ∈ jT := by
  have h : (jcl.all fun q => (u_ws q.1 q.2.1 q.2.2).all fun w => decide (w ∈ jT)) = true := by decide +kernel
  intro q hq w hw
  exact of_decide_eq_true (List.all_eq_true.mp (List.all_eq_true.mp h q hq) w hw)
/-- the sorts of the fields are what their descriptors say -/
def jfchk (i j : Nat) (f : Nat × Int × Nat) : Bool := (match f.1 with
  | 0 => decide (parseFieldDescriptor ((jcl.getD i jcl0).2.1 j).2.2.1 = some .int) && !((jcl.getD i jcl0).2.1 j).2.2.2
  | 1 => decide (parseFieldDescriptor ((jcl.getD i jcl0).2.1 j).2.2.1 = some .long) && !((jcl.getD i jcl0).2.1 j).2.2.2
  | 2 => decide (parseFieldDescriptor ((jcl.getD i jcl0).2.1 j).2.2.1 = some .boolean) && !((jcl.getD i jcl0).2.1 j).2.2.2
  | 3 => true
  | _ => decide (parseFieldDescriptor ((jcl.getD i jcl0).2.1 j).2.2.1 = some (.object (jcl.getD f.2.2 jcl0).1)) && !((jcl.getD i jcl0).2.1 j).2.2.2)
theorem jfchk_all : ((List.range 12).all fun i => (List.range 50).all fun j => match (jfields.getD i [])[j]? with
    | some f => jfchk i j f
    | none => true) = true := by decide +kernel
theorem jf_of {i j : Nat} {f : Nat × Int × Nat} (h : (jfields.getD i [])[j]? = some f) : i < 12 ∧ j < 50 ∧ jfchk i j f = true := by
  have hi : i < 12 := by
    rcases Nat.lt_or_ge i 12 with q | q
    · exact q
    · have h9 : jfields[i]? = none := List.getElem?_eq_none q
      rw [List.getD_eq_getElem?_getD, h9] at h
      simp at h
  have hl : ∀ i, i < 12 → (jfields.getD i []).length ≤ 50 := by decide +kernel
  have hj : j < 50 := Nat.lt_of_lt_of_le (List.getElem?_eq_some_iff.mp h).1 (hl i hi)
  refine ⟨hi, hj, ?_⟩
  have h2 := List.all_eq_true.mp (List.all_eq_true.mp jfchk_all i (List.mem_range.mpr hi)) j (List.mem_range.mpr hj)
  rw [h] at h2
  exact h2
theorem jcl_at {i : Nat} (h : i < 12) : jcl[i]? = some ((jcl.getD i jcl0).1, (jcl.getD i jcl0).2.1, (jcl.getD i jcl0).2.2) := by
  rw [List.getD_eq_getElem?_getD, List.getElem?_eq_getElem (show i < jcl.length from h)]
  rfl
theorem jcl_mem {i : Nat} (h : i < 12) : jcl.getD i jcl0 ∈ jcl := List.mem_of_getElem? (jcl_at h)
theorem jcl_ty : ∀ i, i < 12 → ∀ k, k < (jcl.getD i jcl0).2.2 → parseFieldDescriptor ((jcl.getD i jcl0).2.1 k).2.2.1 = some ((jYs.getD i jY0) k) := by decide +kernel
theorem jcl_nm : ∀ i, i < 12 → ∀ a, a < (jcl.getD i jcl0).2.2 → ∀ b, b < (jcl.getD i jcl0).2.2 → a ≠ b → ((jcl.getD i jcl0).2.1 a).2.1 ≠ ((jcl.getD i jcl0).2.1 b).2.1 := by decide +kernel
theorem jarr_lt {i : Nat} (h : i < 12) : jarr i = none := by
  have : ∀ i, i < 12 → jarr i = none := by decide +kernel
  exact this i h
theorem jcell_o {G : jG} {s : jM} {k i : Nat} (hk : jcells.getD k 0 = i) (hi : i < 12) : jcell G s k = .inr (i, jfs G s k (jfields.getD i [])) := by
  simp only [jcell, hk, jarr_lt hi]
theorem jcell_a {G : jG} {s : jM} {k t : Nat} {a : Nat × Nat × Int × Int × Nat} (hk : jcells.getD k 0 = t) (ha : jarr t = some a) : jcell G s k = .inl (gcA G k, jco G s k a) := by
  simp only [jcell, hk, ha]
theorem jfs_at {G : jG} {s : jM} {k : Int} {fl : List (Nat × Int × Nat)} {j : Nat} {f : Nat × Int × Nat} (h : fl[j]? = some f) : (jfs G s k fl)[j]? = some (jfv G f k (s k j)) := by
  simp [jfs, h]
theorem jfs_set {G : jG} {s : jM} {k : Int} {fl : List (Nat × Int × Nat)} {j : Nat} {f : Nat × Int × Nat} {v : Int} (h : fl[j]? = some f) : (jfs G s k fl).set j (jfv G f k v) = jfs G (jup s k j v) k fl := by
  refine List.ext_getElem? fun i => ?_
  have hj : j < fl.length := (List.getElem?_eq_some_iff.mp h).1
  rw [List.getElem?_set]
  by_cases hi : j = i
  · subst hi
    rw [if_pos rfl, if_pos (by simp [jfs]; exact hj), jfs_at h, jup_eq, if_pos rfl]
  · rw [if_neg hi]
    simp only [jfs, List.getElem?_map, List.getElem?_zipIdx]
    cases hq : fl[i]? with
    | none => simp
    | some f2 =>
      simp only [Option.map_some, jup_eq]
      rw [if_neg (by omega)]
/-- a reference that stays lies where it is said -/
theorem jfin_all : ((List.range jN).all fun k => match jarr (jcells.getD k 0) with
    | some a => bif Nat.beq a.1 3 then (List.range a.2.1).all fun j => jok a.2.2.2.2 ((k : Int) + a.2.2.1 + a.2.2.2.1 * (j : Int)) else true
    | none => (jfields.getD (jcells.getD k 0) []).all fun f => bif Nat.beq f.1 3 then jok f.2.2 ((k : Int) + f.2.1) else true) = true := by decide +kernel
theorem jok_v {t : Nat} {k : Int} (h : jok t k = true) : jvok (4 + t, k) := by
  simp only [jok, Bool.and_eq_true, decide_eq_true_eq] at h
  exact Or.inr (Or.inr (Or.inr (Or.inr ⟨by show 4 ≤ 4 + t; omega, h.1, by show jcells[k.toNat]? = some (4 + t - 4); rw [show 4 + t - 4 = t by omega]; exact h.2⟩)))
section JR
variable {S : jS} {d : Nat} {p : Program} {l : Launch} {e : Env} {R : Room} {s : State} {m : MethodId} {args : Array Value} {below : List Frame} {meth : Method} {cd : Code} {cells slots : Nat} {Q : State → Prop} {G : jG} {c c' : jC} {n : Nat} {g : List Prop}
theorem jr_getf {x i : Nat} {pos : Nat} (C : jat S d p R s m args cd cells slots G) (hd : decode S.2.1 c.1 = .ok (.getfield i, 3)) (hk : (Nat.blt (x % 100) (jcl.getD (x / 100) jcl0).2.2 && jw pos (.fieldLink S.1.cls i ((jcl.getD (x / 100) jcl0).2.1 (x % 100)).1 ((jcl.getD (x / 100) jcl0).2.1 (x % 100)).2.1 ((jcl.getD (x / 100) jcl0).2.1 (x % 100)).2.2.1)) = true) (h : jgetf c 3 (x / 100) (x % 100) = some (g, c')) (hg : ∀ x ∈ g, x) (k : jGo S p l e R s m args below meth cd cells slots Q G c') : jGo S p l e R s m args below meth cd cells slots Q G c := by
  obtain ⟨hx, hb, hml, hown, hts, hG, hC, -⟩ := C
  obtain ⟨pc, L, st, σ⟩ := c
  simp only [Bool.and_eq_true] at hk
  generalize x / 100 = cl at h hk
  generalize x % 100 = j at h hk
  unfold jgetf at h
  dsimp only at h hd
  split at h
  · rename_i a r
    obtain ⟨ta, a⟩ := a
    by_cases hq : Nat.beq (4 + cl) ta = true
    · have e2 : 4 + cl = ta := Nat.eq_of_beq_eq_true hq
      subst e2
      rw [hq] at h
      simp only [cond_true] at h
      split at h
      · rename_i f hf
        simp only [Option.some.injEq, Prod.mk.injEq] at h
        obtain ⟨rfl, rfl⟩ := h
        obtain ⟨hcl, hj, hch⟩ := jf_of hf
        intro ls H locs h1 h2 h3 h4
        obtain ⟨q1, q2, q3, q4, q5⟩ := jvok_k (h2 _ List.mem_cons_self)
        have hcell : (jW G σ)[a.toNat]? = some (gad G a.toNat, .inr (cl, jfs G σ a (jfields.getD cl []))) := by rw [jW_at G σ q3, jcell_o q4 hcl, q5]
        have hjl : j < (jcl.getD cl jcl0).2.2 := Nat.ble_eq.mp hk.1
        have hfv : jfv G f a (σ a j) = jval G (jfget f a (σ a j)).2 ∧ jvok (jfget f a (σ a j)).2 := by
          obtain ⟨f1, f2, f3⟩ := f
          match f1, hf, hg with
          | 0, _, _ => exact ⟨rfl, jvok_0 _⟩
          | 1, _, _ => exact ⟨rfl, jvok_1 _⟩
          | 2, _, _ => exact ⟨rfl, jvok_0 _⟩
          | 3, hf, _ =>
            have h9 := List.all_eq_true.mp jfin_all a.toNat (List.mem_range.mpr q3)
            rw [q4, jarr_lt hcl] at h9
            have h10 := List.all_eq_true.mp h9 _ (List.mem_of_getElem? hf)
            rw [q5] at h10
            exact ⟨(jval_r G f3 (a + f2)).symm, jok_v h10⟩
          | z + 4, _, hg =>
            have h9 : jok f3 (σ a j) = true := hg _ List.mem_cons_self
            refine ⟨?_, jok_v h9⟩
            have h10 : 0 ≤ σ a j := (jvok_k (jok_v h9)).1
            show (if 0 ≤ σ a j then Value.ref (gad G (σ a j).toNat) else .null) = jval G (4 + f3, σ a j)
            rw [if_pos h10, jval_r]
        show W p l e R s m args below meth cd H locs cells slots Q (F0 m pc ls (jval G (4 + cl, a) :: r.map (jval G)))
        rw [jval_r]
        refine va_get (D := gD G) (ci := cl) (C := (jcl.getD cl jcl0).1) (T := (jcl.getD cl jcl0).2.1) (N := (jcl.getD cl jcl0).2.2) hx hb hts (jcl_in _ (jcl_mem hcl)) hown hC.2.1 h3.1 a.toNat hcell (jcl_at hcl) j hjl (hts _ (jw_mem hk.2)) (fun _ h9 => h9) (jfs_at hf) hd ?_
        rw [hfv.1]
        exact k ls H locs h1 (fun w hw => (List.mem_cons.mp hw).elim (fun q => q ▸ hfv.2) (fun hw => h2 w (List.mem_cons_of_mem _ hw))) h3 h4
      · cases h
    · rw [Bool.not_eq_true] at hq
      rw [hq] at h
      cases h
  · cases h
theorem jr_putf {x i : Nat} {pos : Nat} (C : jat S d p R s m args cd cells slots G) (hd : decode S.2.1 c.1 = .ok (.putfield i, 3)) (hk : (Nat.blt (x % 100) (jcl.getD (x / 100) jcl0).2.2 && jw pos (.fieldLink S.1.cls i ((jcl.getD (x / 100) jcl0).2.1 (x % 100)).1 ((jcl.getD (x / 100) jcl0).2.1 (x % 100)).2.1 ((jcl.getD (x / 100) jcl0).2.1 (x % 100)).2.2.1)) = true) (h : jputf c 3 (x / 100) (x % 100) = some (g, c')) (hg : ∀ x ∈ g, x) (k : jGo S p l e R s m args below meth cd cells slots Q G c') : jGo S p l e R s m args below meth cd cells slots Q G c := by
  obtain ⟨hx, hb, hml, hown, hts, hG, hC, -⟩ := C
  obtain ⟨pc, L, st, σ⟩ := c
  simp only [Bool.and_eq_true] at hk
  generalize x / 100 = cl at h hk
  generalize x % 100 = j at h hk
  unfold jputf at h
  dsimp only at h hd
  split at h
  · rename_i v a r
    obtain ⟨ta, a⟩ := a
    by_cases hq : Nat.beq (4 + cl) ta = true
    · have e2 : 4 + cl = ta := Nat.eq_of_beq_eq_true hq
      subst e2
      rw [hq] at h
      simp only [cond_true] at h
      split at h
      · rename_i f hf
        split at h
        · rename_i g0 hg0
          simp only [Option.some.injEq, Prod.mk.injEq] at h
          obtain ⟨rfl, rfl⟩ := h
          obtain ⟨hcl, hj, hch⟩ := jf_of hf
          intro ls H locs h1 h2 h3 h4
          obtain ⟨q1, q2, q3, q4, q5⟩ := jvok_k (h2 _ (List.mem_cons_of_mem _ List.mem_cons_self))
          have hcell : (jW G σ)[a.toNat]? = some (gad G a.toNat, .inr (cl, jfs G σ a (jfields.getD cl []))) := by rw [jW_at G σ q3, jcell_o q4 hcl, q5]
          have hjl : j < (jcl.getD cl jcl0).2.2 := Nat.ble_eq.mp hk.1
          have hv := h2 _ List.mem_cons_self
          have hfv : jval G v = jfv G f a v.2 ∧ ((jcl.getD cl jcl0).2.1 j).2.2.2 = false ∧ ∃ ty, parseFieldDescriptor ((jcl.getD cl jcl0).2.1 j).2.2.1 = some ty ∧ narrow ty (jval G v) = jval G v ∧ fits ty (jval G v) = true := by
            obtain ⟨f1, f2, f3⟩ := f
            obtain ⟨tv, v⟩ := v
            match f1, hch, hg0 with
            | 0, hch, hg0 =>
              simp only [jfchk, Bool.and_eq_true, decide_eq_true_eq, Bool.not_eq_true'] at hch
              by_cases hz : Nat.beq 0 tv = true
              · have := Nat.eq_of_beq_eq_true hz
                subst this
                exact ⟨rfl, hch.2, .int, hch.1, rfl, rfl⟩
              · rw [Bool.not_eq_true] at hz
                simp only [jfput, hz, cond_false] at hg0
                cases hg0
            | 1, hch, hg0 =>
              simp only [jfchk, Bool.and_eq_true, decide_eq_true_eq, Bool.not_eq_true'] at hch
              by_cases hz : Nat.beq 1 tv = true
              · have := Nat.eq_of_beq_eq_true hz
                subst this
                exact ⟨rfl, hch.2, .long, hch.1, rfl, rfl⟩
              · rw [Bool.not_eq_true] at hz
                simp only [jfput, hz, cond_false] at hg0
                cases hg0
            | 2, hch, hg0 =>
              simp only [jfchk, Bool.and_eq_true, decide_eq_true_eq, Bool.not_eq_true'] at hch
              by_cases hz : Nat.beq 0 tv = true
              · have := Nat.eq_of_beq_eq_true hz
                subst this
                simp only [jfput, hz, cond_true, Option.some.injEq] at hg0
                subst hg0
                have h9 : v = 0 ∨ v = 1 := hg _ List.mem_cons_self
                refine ⟨rfl, hch.2, .boolean, hch.1, ?_, ?_⟩
                · rcases h9 with rfl | rfl <;> rfl
                · rcases h9 with rfl | rfl <;> rfl
              · rw [Bool.not_eq_true] at hz
                simp only [jfput, hz, cond_false] at hg0
                cases hg0
            | 3, hch, hg0 => cases hg0
            | z + 4, hch, hg0 =>
              simp only [jfchk, Bool.and_eq_true, decide_eq_true_eq, Bool.not_eq_true'] at hch
              by_cases hz : Nat.beq (4 + f3) tv = true
              · have := Nat.eq_of_beq_eq_true hz
                subst this
                have h10 : 0 ≤ v := (jvok_k hv).1
                refine ⟨?_, hch.2, _, hch.1, ?_, ?_⟩
                · show jval G (4 + f3, v) = if 0 ≤ v then Value.ref (gad G v.toNat) else .null
                  rw [if_pos h10, jval_r]
                · rw [jval_r]; rfl
                · rw [jval_r]; rfl
              · rw [Bool.not_eq_true] at hz
                simp only [jfput, hz, cond_false] at hg0
                cases hg0
          obtain ⟨v1, v2, ty, v3, v4, v5⟩ := hfv
          have hset : (jW G σ).set a.toNat (gad G a.toNat, .inr (cl, (jfs G σ a (jfields.getD cl [])).set j (jval G v))) = jW G (jup σ a j v.2) := by
            refine jW_set q3 ?_ (fun i hi => (jup_ne (by omega)).symm)
            rw [jcell_o q4 hcl, q5, v1, jfs_set hf]
          show W p l e R s m args below meth cd H locs cells slots Q (F0 m pc ls (jval G v :: jval G (4 + cl, a) :: r.map (jval G)))
          rw [jval_r]
          refine va_put (D := gD G) (A := gA G) (H0 := s.heap) (ci := cl) (C := (jcl.getD cl jcl0).1) (T := (jcl.getD cl jcl0).2.1) (N := (jcl.getD cl jcl0).2.2) hx hb hts (jcl_in _ (jcl_mem hcl)) (jYs.getD cl jY0) (jcl_ty cl hcl) (jcl_nm cl hcl) hown hC.2.1 h3.1 (jW_D hG σ) h4 a.toNat hcell (jcl_at hcl) j hjl (hts _ (jw_mem hk.2)) (fun _ h9 => h9) v2 v3 v4 v5 (by simp only [jfs, List.length_map, List.length_zipIdx]; exact (List.getElem?_eq_some_iff.mp hf).1) hd (fun H1 locs1 hP1 hD1 hS1 => ?_)
          rw [hset] at hP1
          refine k ls H1 locs1 h1 (fun w hw => h2 w (List.mem_cons_of_mem _ (List.mem_cons_of_mem _ hw))) ⟨hP1, ?_, ?_, h3.2.2.2⟩ hS1
          · show jup σ a j v.2 (-2) 0 = _
            rw [jup_ne (by omega)]
            exact h3.2.1
          · intro i hi
            show jup σ a j v.2 (-1) i = _
            rw [jup_ne (by omega)]
            exact h3.2.2.1 i hi
        · cases h
      · cases h
    · rw [Bool.not_eq_true] at hq
      rw [hq] at h
      cases h
  · cases h
end JR
