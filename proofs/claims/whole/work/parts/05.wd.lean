/-! THE WORLD: the pure machine's cells on the heap -/
/-- numbers of the classes' slots, addresses, array classes, their types, what may change, the kept words, the script: where, how long, what -/
abbrev jG : Type := va_G × (Nat → Nat) × (Nat → ClassId) × List (ClassId × FieldType) × (Nat → Prop) × Nat × Nat × Nat × (Nat → Int32)
abbrev gD (G : jG) : va_G := G.1
abbrev gad (G : jG) : Nat → Nat := G.2.1
abbrev gcA (G : jG) : Nat → ClassId := G.2.2.1
abbrev gtys (G : jG) : List (ClassId × FieldType) := G.2.2.2.1
abbrev gA (G : jG) : Nat → Prop := G.2.2.2.2.1
abbrev gkw (G : jG) : Nat := G.2.2.2.2.2.1
abbrev gsc (G : jG) : Nat := G.2.2.2.2.2.2.1
abbrev gscl (G : jG) : Nat := G.2.2.2.2.2.2.2.1
abbrev gxs (G : jG) : Nat → Int32 := G.2.2.2.2.2.2.2.2
def jval (G : jG) (v : jV) : Value := if v.1 = 0 then .int (Int32.ofInt v.2) else if v.1 = 1 then .long (Int64.ofInt v.2) else if v.1 = 2 then .ref (gkw G) else if v.1 = 3 then .ref (gsc G) else .ref (gad G v.2.toNat)
def jvok (v : jV) : Prop := v.1 = 0 ∨ v.1 = 1 ∨ v.1 = 2 ∨ v.1 = 3 ∨ (4 ≤ v.1 ∧ 0 ≤ v.2 ∧ jcells[v.2.toNat]? = some (v.1 - 4))
def jlv (G : jG) (L : List jV) : List (Nat × Value) := (L.zipIdx.filter (fun q => q.1.1 != 99)).map (fun q => (q.2, jval G q.1))
def jlok (G : jG) (ls : Array Slot) (nL : Nat) (L : List jV) : Prop := L.length = nL ∧ lv_has ls nL (jlv G L) ∧ ∀ (i : Nat) (v : jV), L[i]? = some v → v.1 ≠ 99 → jvok v
def jfv (G : jG) (f : Nat × Int × Nat) (k v : Int) : Value := match f.1 with
  | 0 => .int (Int32.ofInt v)
  | 1 => .long (Int64.ofInt v)
  | 2 => .int (Int32.ofInt v)
  | 3 => .ref (gad G (k + f.2.1).toNat)
  | _ => if 0 ≤ v then .ref (gad G v.toNat) else .null
def jfs (G : jG) (s : jM) (k : Int) (fl : List (Nat × Int × Nat)) : List Value := fl.zipIdx.map (fun q => jfv G q.1 k (s k q.2))
def jco (G : jG) (s : jM) (k : Int) (a : Nat × Nat × Int × Int × Nat) : vp_A := (a.2.1, match a.1 with
  | 1 => .inr (.inl (fun j => Int64.ofInt (s k j)))
  | 3 => .inr (.inr (.inr (.inr (fun j => some (gad G (k + a.2.2.1 + a.2.2.2.1 * j).toNat)))))
  | _ => .inl (fun j => Int32.ofInt (s k j)))
def jcell (G : jG) (s : jM) (k : Nat) : va_E := match jarr (jcells.getD k 0) with
  | some a => .inl (gcA G k, jco G s k a)
  | none => .inr (jcells.getD k 0, jfs G s k (jfields.getD (jcells.getD k 0) []))
def jW (G : jG) (s : jM) : va_W := (List.range jN).map (fun k => (gad G k, jcell G s k))
def jety (a : Nat × Nat × Int × Int × Nat) : FieldType := match a.1 with
  | 0 => .int
  | 1 => .long
  | 2 => .byte
  | _ => .object (jcl.getD a.2.2.2.2 ("", jT0, 0)).1
/-- what stays for the whole run -/
def jGok (G : jG) : Prop := (∀ i j, i < jN → j < jN → gad G i = gad G j → i = j) ∧ (∀ k, k < jN → gA G (gad G k)) ∧ ∀ k a, k < jN → jarr (jcells.getD k 0) = some a → ∃ t : Nat, (gtys G)[t]? = some (gcA G k, jety a)
def jCx (G : jG) (U : State) : Prop := (va_Nw jnF U ∧ va_Nw jnM U) ∧ va_K (gD G) jcl (gtys G) U ∧ va_Z "JellyCathedral" "KEPT_WORDS" "[J" (.ref (gkw G)) (gA G) U U.heap ∧ va_T .long (gkw G) 26 (fun j => .long (Int64.ofInt (jkw j))) (gA G) U U.heap ∧ va_T .int (gsc G) (gscl G) (fun j => .int (gxs G j)) (gA G) U U.heap
def jWd (G : jG) (s : jM) (H : Heap) : Prop := va_P (gD G) jcl (jW G s) H ∧ s (-2) 0 = (gscl G : Int) ∧ (∀ j : Nat, j < gscl G → s (-1) j = (gxs G j).toInt) ∧ gscl G < 2147483648
theorem jcells_len : jcells.length = jN := by decide +kernel
theorem jW_at (G : jG) (s : jM) {k : Nat} (h : k < jN) : (jW G s)[k]? = some (gad G k, jcell G s k) := by
  simp [jW, h]
theorem jW_some {G : jG} {s : jM} {k : Nat} {q : Nat × va_E} (h : (jW G s)[k]? = some q) : k < jN ∧ q = (gad G k, jcell G s k) := by
  simp only [jW, List.getElem?_map, List.getElem?_range] at h
  by_cases hk : k < jN
  · simp [hk] at h
    exact ⟨hk, h.symm⟩
  · simp [hk] at h
theorem jW_D {G : jG} (hG : jGok G) (s : jM) : va_D (gA G) (jW G s) := by
  refine ⟨fun i j p q hi hj h => ?_, fun k q hk => ?_⟩
  · obtain ⟨h1, rfl⟩ := jW_some hi
    obtain ⟨h2, rfl⟩ := jW_some hj
    exact hG.1 i j h1 h2 h
  · obtain ⟨h1, rfl⟩ := jW_some hk
    exact hG.2.1 k h1
theorem jfs_congr {G : jG} {s t : jM} {k : Int} (h : s k = t k) (fl : List (Nat × Int × Nat)) : jfs G s k fl = jfs G t k fl := by
  simp only [jfs, h]
theorem jco_congr {G : jG} {s t : jM} {k : Int} (h : s k = t k) (a : Nat × Nat × Int × Int × Nat) : jco G s k a = jco G t k a := by
  simp only [jco, h]
theorem jcell_congr {G : jG} {s t : jM} {k : Nat} (h : s k = t k) : jcell G s k = jcell G t k := by
  simp only [jcell]
  split
  · rw [jco_congr h]
  · rw [jfs_congr h]
theorem jW_set {G : jG} {s t : jM} {k : Nat} (hk : k < jN) {e : va_E} (he : jcell G t k = e) (h : ∀ j : Nat, j ≠ k → s j = t j) : (jW G s).set k (gad G k, e) = jW G t := by
  refine List.ext_getElem? fun i => ?_
  rw [List.getElem?_set]
  by_cases hi : k = i
  · subst hi
    have hl : k < (jW G s).length := by simp [jW]; exact hk
    rw [if_pos rfl, if_pos hl, jW_at G t hk, he]
  · rw [if_neg hi]
    by_cases h2 : i < jN
    · rw [jW_at G s h2, jW_at G t h2, jcell_congr (h i (fun q => hi q.symm))]
    · simp [jW, h2]
theorem jup_ne {s : jM} {k j v a : Int} (h : a ≠ k) : jup s k j v a = s a := by
  funext b
  simp [jup, h]
theorem jup_eq (s : jM) (k j v b : Int) : jup s k j v k b = if b = j then v else s k b := by
  simp [jup]
theorem jcp_ne {s : jM} {k sp k2 dp n a : Int} (h : a ≠ k2) : jcp s k sp k2 dp n a = s a := by
  funext b
  simp [jcp, h]
theorem jvok_k {t : Nat} {k : Int} (h : jvok (4 + t, k)) : 0 ≤ k ∧ jcells[k.toNat]? = some t ∧ k.toNat < jN ∧ jcells.getD k.toNat 0 = t ∧ ((k.toNat : Nat) : Int) = k := by
  rcases h with h | h | h | h | ⟨-, h1, h2⟩
  · exact absurd (show 4 + t = 0 from h) (by omega)
  · exact absurd (show 4 + t = 1 from h) (by omega)
  · exact absurd (show 4 + t = 2 from h) (by omega)
  · exact absurd (show 4 + t = 3 from h) (by omega)
  · have h1 : 0 ≤ k := h1
    have h2 : jcells[k.toNat]? = some t := by rw [show (4 + t) - 4 = t by omega] at h2; exact h2
    have h3 : k.toNat < jN := by rw [← jcells_len]; exact (List.getElem?_eq_some_iff.mp h2).1
    exact ⟨h1, h2, h3, by rw [List.getD_eq_getElem?_getD, h2]; rfl, Int.toNat_of_nonneg h1⟩
theorem jval_0 (G : jG) (v : Int) : jval G (0, v) = .int (Int32.ofInt v) := rfl
theorem jval_1 (G : jG) (v : Int) : jval G (1, v) = .long (Int64.ofInt v) := rfl
theorem jval_r (G : jG) (t : Nat) (k : Int) : jval G (4 + t, k) = .ref (gad G k.toNat) := by
  simp only [jval]
  rw [if_neg (by omega), if_neg (by omega), if_neg (by omega), if_neg (by omega)]
theorem jvok_0 (v : Int) : jvok (0, v) := Or.inl rfl
theorem jvok_1 (v : Int) : jvok (1, v) := Or.inr (Or.inl rfl)
theorem jval_cat (G : jG) (v : jV) : (jval G v).category = 2 ↔ v.1 = 1 := by
  simp only [jval]
  split
  · rename_i h; simp [Value.category, h]
  · split
    · rename_i h; simp [Value.category, h]
    · split
      · rename_i h1 h; simp [Value.category]; exact h1
      · split
        · rename_i h1 h2 h; simp [Value.category]; exact h1
        · rename_i h1 h2 h; simp [Value.category]; exact h1
theorem jval_cat1 {G : jG} {v : jV} (h : v.1 ≠ 1) : (jval G v).category = 1 := by
  rcases lv_cat (jval G v) with q | q
  · exact q
  · exact absurd ((jval_cat G v).mp q) h
/-- a reference, whatever its kind -/
theorem jval_ref {G : jG} {v : jV} (h : jref v.1 = true) : ∃ a, jval G v = .ref a := by
  simp only [jref, Bool.and_eq_true, Nat.ble_eq] at h
  simp only [jval]
  rw [if_neg (by omega), if_neg (by omega)]
  split
  · exact ⟨_, rfl⟩
  · split
    · exact ⟨_, rfl⟩
    · exact ⟨_, rfl⟩
theorem jlv_mem {G : jG} {L : List jV} {i : Nat} {w : jV} (h : L[i]? = some w) (hw : w.1 ≠ 99) : (i, jval G w) ∈ jlv G L := by
  refine List.mem_map.mpr ⟨(w, i), List.mem_filter.mpr ⟨?_, ?_⟩, rfl⟩
  · rw [List.mem_zipIdx_iff_getElem?]; exact h
  · simp [hw]
theorem jlok_at {G : jG} {ls : Array Slot} {nL : Nat} {L : List jV} (h : jlok G ls nL L) {i : Nat} {w : jV} (hi : L[i]? = some w) (hw : w.1 ≠ 99) : ls[i]? = some (.val (jval G w)) := h.2.1.2.2 _ (jlv_mem hi hw)
theorem jkill_len (L : List jV) (i : Nat) : (jkill L i).length = L.length := by
  unfold jkill
  split
  · rfl
  · split
    · rename_i v _
      cases Nat.beq v.1 1 <;> simp
    · rfl
theorem jkill_at {L : List jV} {i j : Nat} {v : jV} (h : (jkill L i)[j]? = some v) (hv : v.1 ≠ 99) : L[j]? = some v ∧ ¬ (j + 1 = i ∧ v.1 = 1) := by
  unfold jkill at h
  split at h
  · exact ⟨h, fun q => by omega⟩
  · rename_i k
    split at h
    · rename_i w hw
      by_cases hb : Nat.beq w.1 1 = true
      · rw [hb] at h
        simp only [cond_true] at h
        rw [List.getElem?_set] at h
        by_cases hk : k = j
        · rw [if_pos hk] at h
          split at h
          · exact absurd (by rw [← Option.some.inj h]) hv
          · cases h
        · rw [if_neg hk] at h
          exact ⟨h, fun q => by omega⟩
      · rw [Bool.not_eq_true] at hb
        rw [hb] at h
        simp only [cond_false] at h
        refine ⟨h, fun q => ?_⟩
        have : k = j := by omega
        subst this
        rw [hw] at h
        cases h
        rw [q.2] at hb
        exact absurd hb (by decide)
    · rename_i hw
      refine ⟨h, fun q => ?_⟩
      have : k = j := by omega
      subst this
      rw [hw] at h
      cases h
theorem jlok_set1 {G : jG} {ls ls' : Array Slot} {nL i : Nat} {L : List jV} {w : jV} (h : jlok G ls nL L) (hi : i < nL) (hw : jvok w) (h' : lv_has ls' nL ((i, jval G w) :: (jlv G L).filter (fun q => !(q.1 == i) && !(q.1 + 1 == i && q.2.category == 2)))) : jlok G ls' nL (jset1 L i w) := by
  have key : ∀ (j : Nat) (v : jV), (jset1 L i w)[j]? = some v → v.1 ≠ 99 → (j = i ∧ v = w) ∨ (j ≠ i ∧ L[j]? = some v ∧ ¬ (j + 1 = i ∧ v.1 = 1)) := by
    intro j v hj hv
    simp only [jset1, List.getElem?_set] at hj
    by_cases hk : i = j
    · rw [if_pos hk] at hj
      split at hj
      · exact Or.inl ⟨hk.symm, (Option.some.inj hj).symm⟩
      · cases hj
    · rw [if_neg hk] at hj
      exact Or.inr ⟨fun q => hk q.symm, jkill_at hj hv⟩
  refine ⟨by simp [jset1, jkill_len, h.1], ⟨h'.1, h'.2.1, ?_⟩, ?_⟩
  · intro q hq
    obtain ⟨⟨v, j⟩, hm, rfl⟩ := List.mem_map.mp hq
    obtain ⟨hm1, hm2⟩ := List.mem_filter.mp hm
    rw [List.mem_zipIdx_iff_getElem?] at hm1
    have hv : v.1 ≠ 99 := by simpa using hm2
    rcases key j v hm1 hv with ⟨rfl, rfl⟩ | ⟨h1, h2, h3⟩
    · exact h'.2.2 _ List.mem_cons_self
    · refine h'.2.2 _ (List.mem_cons_of_mem _ (List.mem_filter.mpr ⟨jlv_mem h2 hv, ?_⟩))
      have h4 : ¬ (j + 1 = i ∧ (jval G v).category = 2) := fun q => h3 ⟨q.1, (jval_cat G v).mp q.2⟩
      simp [h1]
      exact Classical.not_and_iff_not_or_not.mp h4
  · intro j v hj hv
    rcases key j v hj hv with ⟨rfl, rfl⟩ | ⟨h1, h2, h3⟩
    · exact hw
    · exact h.2.2 j v h2 hv
theorem jlok_set2 {G : jG} {ls ls' : Array Slot} {nL i : Nat} {L : List jV} {w : jV} (h : jlok G ls nL L) (hi : i + 1 < nL) (hw : jvok w) (h' : lv_has ls' nL ((i, jval G w) :: (jlv G L).filter (fun q => !(q.1 == i) && (!(q.1 == i + 1) && !(q.1 + 1 == i && q.2.category == 2))))) : jlok G ls' nL (jset2 L i w) := by
  have key : ∀ (j : Nat) (v : jV), (jset2 L i w)[j]? = some v → v.1 ≠ 99 → (j = i ∧ v = w) ∨ (j ≠ i ∧ j ≠ i + 1 ∧ L[j]? = some v ∧ ¬ (j + 1 = i ∧ v.1 = 1)) := by
    intro j v hj hv
    simp only [jset2, List.getElem?_set] at hj
    by_cases hk2 : i + 1 = j
    · rw [if_pos hk2] at hj
      split at hj
      · exact absurd (by rw [← Option.some.inj hj]) hv
      · cases hj
    · rw [if_neg hk2] at hj
      by_cases hk : i = j
      · rw [if_pos hk] at hj
        split at hj
        · exact Or.inl ⟨hk.symm, (Option.some.inj hj).symm⟩
        · cases hj
      · rw [if_neg hk] at hj
        exact Or.inr ⟨fun q => hk q.symm, fun q => hk2 q.symm, jkill_at hj hv⟩
  refine ⟨by simp [jset2, jkill_len, h.1], ⟨h'.1, h'.2.1, ?_⟩, ?_⟩
  · intro q hq
    obtain ⟨⟨v, j⟩, hm, rfl⟩ := List.mem_map.mp hq
    obtain ⟨hm1, hm2⟩ := List.mem_filter.mp hm
    rw [List.mem_zipIdx_iff_getElem?] at hm1
    have hv : v.1 ≠ 99 := by simpa using hm2
    rcases key j v hm1 hv with ⟨rfl, rfl⟩ | ⟨h1, h1b, h2, h3⟩
    · exact h'.2.2 _ List.mem_cons_self
    · refine h'.2.2 _ (List.mem_cons_of_mem _ (List.mem_filter.mpr ⟨jlv_mem h2 hv, ?_⟩))
      have h4 : ¬ (j + 1 = i ∧ (jval G v).category = 2) := fun q => h3 ⟨q.1, (jval_cat G v).mp q.2⟩
      simp [h1, h1b]
      exact Classical.not_and_iff_not_or_not.mp h4
  · intro j v hj hv
    rcases key j v hj hv with ⟨rfl, rfl⟩ | ⟨h1, h1b, h2, h3⟩
    · exact hw
    · exact h.2.2 j v h2 hv
