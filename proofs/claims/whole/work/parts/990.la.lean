/-! printed by wip/whole/gen_la.py: the law's loop -/
def SC (s : jM) : Prop := (0 ≤ s (-2) 0 ∧ s (-2) 0 ≤ 3072) ∧ ∀ j, 0 ≤ j → j < s (-2) 0 → i32 (s (-1) j)
theorem SC_eq {s t : jM} (h : SC s) (h1 : t (-1) = s (-1)) (h2 : t (-2) = s (-2)) : SC t := by
  unfold SC at h ⊢
  rw [h1, h2]
  exact h
theorem la_j {s s1 : jM} {X : Option (Int × jM)} (H : jsame s s1 → ∃ s', X = some (1, s')) : ∃ s', jsm s s1 X = some (1, s') := by
  by_cases h : jsame s s1
  · rw [jsm_p h]
    exact H h
  · exact ⟨s1, jsm_n h⟩
theorem jlcmp_self (a : Int) : w32 (jlcmp a a) = 0 := by
  unfold jlcmp
  rw [if_neg (Int.lt_irrefl _), if_pos rfl]
  decide
theorem jlor_i (a b : Int) : i64 (jlor a b) := by
  unfold jlor i64
  generalize Int64.ofInt a ||| Int64.ofInt b = z
  have h1 := Int64.le_toInt z
  have h2 := Int64.toInt_lt z
  omega
theorem la_240 {k18 : Int → Int → Int → Int → jM → Option (Int × jM)} {s : jM} {x : Int} (h : INV s) (hs : SC s) (hx : 0 ≤ x ∧ x + 6 ≤ s (-2) 0) (hk : ∀ t, INV t → t (-1) = s (-1) → t (-2) = s (-2) → ∃ s', k18 0 0 155 (x + 6) t = some (1, s')) : ∃ s', Lx_law_240 k18 0 0 155 x s = some (1, s') := by
  have hl := hs.1
  obtain ⟨r, s1, s2, f, g, i, n1, n2⟩ := status_ok h
  rw [Lx_law_240, f, jb_t]
  refine la_j (fun q => ?_)
  rw [g, jb_t, if_pos rfl, Lx_law_1727]
  exact hk s2 i n1 n2
theorem la_253 {k18 : Int → Int → Int → Int → jM → Option (Int × jM)} {s : jM} {x : Int} (h : INV s) (hs : SC s) (hx : 0 ≤ x ∧ x + 6 ≤ s (-2) 0) (hk : ∀ t, INV t → t (-1) = s (-1) → t (-2) = s (-2) → ∃ s', k18 0 0 155 (x + 6) t = some (1, s')) : ∃ s', Lx_law_253 k18 0 0 155 x s = some (1, s') := by
  have hl := hs.1
  obtain ⟨r, s1, s2, f, g, i, n1, n2⟩ := top_ok h
  rw [Lx_law_253, f, jb_t]
  refine la_j (fun q => ?_)
  rw [g, jb_t, if_pos (jlcmp_self r), Lx_law_1727]
  exact hk s2 i n1 n2
theorem la_267 {k18 : Int → Int → Int → Int → jM → Option (Int × jM)} {s : jM} {x : Int} (h : INV s) (hs : SC s) (hx : 0 ≤ x ∧ x + 6 ≤ s (-2) 0) (hk : ∀ t, INV t → t (-1) = s (-1) → t (-2) = s (-2) → ∃ s', k18 0 0 155 (x + 6) t = some (1, s')) : ∃ s', Lx_law_267 k18 0 0 155 x s = some (1, s') := by
  have hl := hs.1
  obtain ⟨r, s1, s2, f, g, i, n1, n2⟩ := bottom_ok h
  rw [Lx_law_267, f, jb_t]
  refine la_j (fun q => ?_)
  rw [g, jb_t, if_pos (jlcmp_self r), Lx_law_1727]
  exact hk s2 i n1 n2
theorem la_281 {k18 : Int → Int → Int → Int → jM → Option (Int × jM)} {s : jM} {x : Int} (h : INV s) (hs : SC s) (hx : 0 ≤ x ∧ x + 6 ≤ s (-2) 0) (hk : ∀ t, INV t → t (-1) = s (-1) → t (-2) = s (-2) → ∃ s', k18 0 0 155 (x + 6) t = some (1, s')) : ∃ s', Lx_law_281 k18 0 0 155 x s = some (1, s') := by
  have hl := hs.1
  obtain ⟨r, s1, s2, f, g, i, n1, n2⟩ := tray_ok h (hs.2 (x + 1) (by omega) (by omega)) (hs.2 (x + 2) (by omega) (by omega)) (hs.2 (x + 3) (by omega) (by omega))
  rw [Lx_law_281, w32_id (x := x + 1) (by omega) (by omega), w32_id (x := x + 2) (by omega) (by omega), w32_id (x := x + 3) (by omega) (by omega), if_pos (by omega), f, jb_t]
  refine la_j (fun q => ?_)
  rw [q.1, if_pos (by omega), q.2 (x + 1) (by omega) (by omega), q.2 (x + 2) (by omega) (by omega), q.2 (x + 3) (by omega) (by omega), g, jb_t, if_pos rfl, Lx_law_1727]
  exact hk s2 i n1 n2
theorem la_324 {k18 : Int → Int → Int → Int → jM → Option (Int × jM)} {s : jM} {x : Int} (h : INV s) (hs : SC s) (hx : 0 ≤ x ∧ x + 6 ≤ s (-2) 0) (hk : ∀ t, INV t → t (-1) = s (-1) → t (-2) = s (-2) → ∃ s', k18 0 0 155 (x + 6) t = some (1, s')) : ∃ s', Lx_law_324 k18 0 0 155 x s = some (1, s') := by
  have hl := hs.1
  obtain ⟨r, s1, s2, f, g, i, n1, n2⟩ := write_ok h (hs.2 (x + 1) (by omega) (by omega)) (hs.2 (x + 2) (by omega) (by omega)) (jlor_i (jlshl (w32 (s (-1) (x + 3))) 32) (jland (w32 (s (-1) (x + 4))) 4294967295))
  rw [Lx_law_324, w32_id (x := x + 1) (by omega) (by omega), w32_id (x := x + 2) (by omega) (by omega), w32_id (x := x + 3) (by omega) (by omega), w32_id (x := x + 4) (by omega) (by omega), if_pos (by omega), if_pos (by omega), f, jb_t]
  refine la_j (fun q => ?_)
  rw [q.1, if_pos (by omega), if_pos (by omega), q.2 (x + 1) (by omega) (by omega), q.2 (x + 2) (by omega) (by omega), q.2 (x + 3) (by omega) (by omega), q.2 (x + 4) (by omega) (by omega), g, jb_t, if_pos rfl, Lx_law_1727]
  exact hk s2 i n1 n2
theorem la_397 {k18 : Int → Int → Int → Int → jM → Option (Int × jM)} {s : jM} {x : Int} (h : INV s) (hs : SC s) (hx : 0 ≤ x ∧ x + 6 ≤ s (-2) 0) (hk : ∀ t, INV t → t (-1) = s (-1) → t (-2) = s (-2) → ∃ s', k18 0 0 155 (x + 6) t = some (1, s')) : ∃ s', Lx_law_397 k18 0 0 155 x s = some (1, s') := by
  have hl := hs.1
  obtain ⟨r, s1, s2, f, g, i, n1, n2⟩ := read_ok h (hs.2 (x + 1) (by omega) (by omega)) (hs.2 (x + 2) (by omega) (by omega))
  rw [Lx_law_397, w32_id (x := x + 1) (by omega) (by omega), w32_id (x := x + 2) (by omega) (by omega), if_pos (by omega), f, jb_t]
  refine la_j (fun q => ?_)
  rw [q.1, if_pos (by omega), q.2 (x + 1) (by omega) (by omega), q.2 (x + 2) (by omega) (by omega), g, jb_t, if_pos (jlcmp_self r), Lx_law_1727]
  exact hk s2 i n1 n2
theorem la_431 {k18 : Int → Int → Int → Int → jM → Option (Int × jM)} {s : jM} {x : Int} (h : INV s) (hs : SC s) (hx : 0 ≤ x ∧ x + 6 ≤ s (-2) 0) (hk : ∀ t, INV t → t (-1) = s (-1) → t (-2) = s (-2) → ∃ s', k18 0 0 155 (x + 6) t = some (1, s')) : ∃ s', Lx_law_431 k18 0 0 155 x s = some (1, s') := by
  have hl := hs.1
  obtain ⟨r, s1, s2, f, g, i, n1, n2⟩ := decant_ok h (hs.2 (x + 1) (by omega) (by omega)) (hs.2 (x + 2) (by omega) (by omega)) (hs.2 (x + 3) (by omega) (by omega)) (hs.2 (x + 4) (by omega) (by omega)) (hs.2 (x + 5) (by omega) (by omega))
  rw [Lx_law_431, w32_id (x := x + 1) (by omega) (by omega), w32_id (x := x + 2) (by omega) (by omega), w32_id (x := x + 3) (by omega) (by omega), w32_id (x := x + 4) (by omega) (by omega), w32_id (x := x + 5) (by omega) (by omega), if_pos (by omega), f, jb_t]
  refine la_j (fun q => ?_)
  rw [q.1, if_pos (by omega), q.2 (x + 1) (by omega) (by omega), q.2 (x + 2) (by omega) (by omega), q.2 (x + 3) (by omega) (by omega), q.2 (x + 4) (by omega) (by omega), q.2 (x + 5) (by omega) (by omega), g, jb_t, if_pos rfl, Lx_law_1727]
  exact hk s2 i n1 n2
theorem la_494 {k18 : Int → Int → Int → Int → jM → Option (Int × jM)} {s : jM} {x : Int} (h : INV s) (hs : SC s) (hx : 0 ≤ x ∧ x + 6 ≤ s (-2) 0) (hk : ∀ t, INV t → t (-1) = s (-1) → t (-2) = s (-2) → ∃ s', k18 0 0 155 (x + 6) t = some (1, s')) : ∃ s', Lx_law_494 k18 0 0 155 x s = some (1, s') := by
  have hl := hs.1
  obtain ⟨r, s1, s2, f, g, i, n1, n2⟩ := feed_ok h (a := s (-1) (x + 1)) (b := s (-1) (x + 2)) (c := s (-1) (x + 3)) (d := s (-1) (x + 4)) (e := s (-1) (x + 5))
  rw [Lx_law_494, w32_id (x := x + 1) (by omega) (by omega), w32_id (x := x + 2) (by omega) (by omega), w32_id (x := x + 3) (by omega) (by omega), w32_id (x := x + 4) (by omega) (by omega), w32_id (x := x + 5) (by omega) (by omega), if_pos (by omega), f, jb_t]
  refine la_j (fun q => ?_)
  rw [q.1, if_pos (by omega), q.2 (x + 1) (by omega) (by omega), q.2 (x + 2) (by omega) (by omega), q.2 (x + 3) (by omega) (by omega), q.2 (x + 4) (by omega) (by omega), q.2 (x + 5) (by omega) (by omega), g, jb_t, if_pos rfl, Lx_law_1727]
  exact hk s2 i n1 n2
theorem la_557 {k18 : Int → Int → Int → Int → jM → Option (Int × jM)} {s : jM} {x : Int} (h : INV s) (hs : SC s) (hx : 0 ≤ x ∧ x + 6 ≤ s (-2) 0) (hk : ∀ t, INV t → t (-1) = s (-1) → t (-2) = s (-2) → ∃ s', k18 0 0 155 (x + 6) t = some (1, s')) : ∃ s', Lx_law_557 k18 0 0 155 x s = some (1, s') := by
  have hl := hs.1
  obtain ⟨r, s1, s2, f, g, i, n1, n2⟩ := see_ok h (hs.2 (x + 1) (by omega) (by omega))
  rw [Lx_law_557, w32_id (x := x + 1) (by omega) (by omega), if_pos (by omega), f, jb_t]
  refine la_j (fun q => ?_)
  rw [q.1, if_pos (by omega), q.2 (x + 1) (by omega) (by omega), g, jb_t, if_pos rfl, Lx_law_1727]
  exact hk s2 i n1 n2
theorem la_580 {k18 : Int → Int → Int → Int → jM → Option (Int × jM)} {s : jM} {x : Int} (h : INV s) (hs : SC s) (hx : 0 ≤ x ∧ x + 6 ≤ s (-2) 0) (hk : ∀ t, INV t → t (-1) = s (-1) → t (-2) = s (-2) → ∃ s', k18 0 0 155 (x + 6) t = some (1, s')) : ∃ s', Lx_law_580 k18 0 0 155 x s = some (1, s') := by
  have hl := hs.1
  obtain ⟨r, s1, s2, f, g, i, n1, n2⟩ := feasts_ok h (hs.2 (x + 1) (by omega) (by omega))
  rw [Lx_law_580, w32_id (x := x + 1) (by omega) (by omega), if_pos (by omega), f, jb_t]
  refine la_j (fun q => ?_)
  rw [q.1, if_pos (by omega), q.2 (x + 1) (by omega) (by omega), g, jb_t, if_pos rfl, Lx_law_1727]
  exact hk s2 i n1 n2
theorem la_603 {k18 : Int → Int → Int → Int → jM → Option (Int × jM)} {s : jM} {x : Int} (h : INV s) (hs : SC s) (hx : 0 ≤ x ∧ x + 6 ≤ s (-2) 0) (hk : ∀ t, INV t → t (-1) = s (-1) → t (-2) = s (-2) → ∃ s', k18 0 0 155 (x + 6) t = some (1, s')) : ∃ s', Lx_law_603 k18 0 0 155 x s = some (1, s') := by
  have hl := hs.1
  obtain ⟨r, s1, s2, f, g, i, n1, n2⟩ := fault_ok h (hs.2 (x + 1) (by omega) (by omega))
  rw [Lx_law_603, w32_id (x := x + 1) (by omega) (by omega), if_pos (by omega), f, jb_t]
  refine la_j (fun q => ?_)
  rw [q.1, if_pos (by omega), q.2 (x + 1) (by omega) (by omega), g, jb_t, if_pos rfl, Lx_law_1727]
  exact hk s2 i n1 n2
theorem la_626 {k18 : Int → Int → Int → Int → jM → Option (Int × jM)} {s : jM} {x : Int} (h : INV s) (hs : SC s) (hx : 0 ≤ x ∧ x + 6 ≤ s (-2) 0) (hk : ∀ t, INV t → t (-1) = s (-1) → t (-2) = s (-2) → ∃ s', k18 0 0 155 (x + 6) t = some (1, s')) : ∃ s', Lx_law_626 k18 0 0 155 x s = some (1, s') := by
  have hl := hs.1
  obtain ⟨r, s1, s2, f, g, i, n1, n2⟩ := many_ok h (hs.2 (x + 1) (by omega) (by omega))
  rw [Lx_law_626, w32_id (x := x + 1) (by omega) (by omega), if_pos (by omega), f, jb_t]
  refine la_j (fun q => ?_)
  rw [q.1, if_pos (by omega), q.2 (x + 1) (by omega) (by omega), g, jb_t, if_pos rfl, Lx_law_1727]
  exact hk s2 i n1 n2
theorem la_649 {k18 : Int → Int → Int → Int → jM → Option (Int × jM)} {s : jM} {x : Int} (h : INV s) (hs : SC s) (hx : 0 ≤ x ∧ x + 6 ≤ s (-2) 0) (hk : ∀ t, INV t → t (-1) = s (-1) → t (-2) = s (-2) → ∃ s', k18 0 0 155 (x + 6) t = some (1, s')) : ∃ s', Lx_law_649 k18 0 0 155 x s = some (1, s') := by
  have hl := hs.1
  obtain ⟨r, s1, s2, f, g, i, n1, n2⟩ := stuff_ok h (hs.2 (x + 1) (by omega) (by omega)) (hs.2 (x + 2) (by omega) (by omega))
  rw [Lx_law_649, w32_id (x := x + 1) (by omega) (by omega), w32_id (x := x + 2) (by omega) (by omega), if_pos (by omega), f, jb_t]
  refine la_j (fun q => ?_)
  rw [q.1, if_pos (by omega), q.2 (x + 1) (by omega) (by omega), q.2 (x + 2) (by omega) (by omega), g, jb_t, if_pos rfl, Lx_law_1727]
  exact hk s2 i n1 n2
theorem la_682 {k18 : Int → Int → Int → Int → jM → Option (Int × jM)} {s : jM} {x : Int} (h : INV s) (hs : SC s) (hx : 0 ≤ x ∧ x + 6 ≤ s (-2) 0) (hk : ∀ t, INV t → t (-1) = s (-1) → t (-2) = s (-2) → ∃ s', k18 0 0 155 (x + 6) t = some (1, s')) : ∃ s', Lx_law_682 k18 0 0 155 x s = some (1, s') := by
  have hl := hs.1
  obtain ⟨r, s1, s2, f, g, i, n1, n2⟩ := mould_ok h (hs.2 (x + 1) (by omega) (by omega)) (hs.2 (x + 2) (by omega) (by omega))
  rw [Lx_law_682, w32_id (x := x + 1) (by omega) (by omega), w32_id (x := x + 2) (by omega) (by omega), if_pos (by omega), f, jb_t]
  refine la_j (fun q => ?_)
  rw [q.1, if_pos (by omega), q.2 (x + 1) (by omega) (by omega), q.2 (x + 2) (by omega) (by omega), g, jb_t, if_pos rfl, Lx_law_1727]
  exact hk s2 i n1 n2
theorem la_715 {k18 : Int → Int → Int → Int → jM → Option (Int × jM)} {s : jM} {x : Int} (h : INV s) (hs : SC s) (hx : 0 ≤ x ∧ x + 6 ≤ s (-2) 0) (hk : ∀ t, INV t → t (-1) = s (-1) → t (-2) = s (-2) → ∃ s', k18 0 0 155 (x + 6) t = some (1, s')) : ∃ s', Lx_law_715 k18 0 0 155 x s = some (1, s') := by
  have hl := hs.1
  obtain ⟨r, s1, s2, f, g, i, n1, n2⟩ := part_ok h (hs.2 (x + 1) (by omega) (by omega)) (hs.2 (x + 2) (by omega) (by omega))
  rw [Lx_law_715, w32_id (x := x + 1) (by omega) (by omega), w32_id (x := x + 2) (by omega) (by omega), if_pos (by omega), f, jb_t]
  refine la_j (fun q => ?_)
  rw [q.1, if_pos (by omega), q.2 (x + 1) (by omega) (by omega), q.2 (x + 2) (by omega) (by omega), g, jb_t, if_pos rfl, Lx_law_1727]
  exact hk s2 i n1 n2
theorem la_748 {k18 : Int → Int → Int → Int → jM → Option (Int × jM)} {s : jM} {x : Int} (h : INV s) (hs : SC s) (hx : 0 ≤ x ∧ x + 6 ≤ s (-2) 0) (hk : ∀ t, INV t → t (-1) = s (-1) → t (-2) = s (-2) → ∃ s', k18 0 0 155 (x + 6) t = some (1, s')) : ∃ s', Lx_law_748 k18 0 0 155 x s = some (1, s') := by
  have hl := hs.1
  obtain ⟨r, s1, s2, f, g, i, n1, n2⟩ := copyFirm_ok h (hs.2 (x + 1) (by omega) (by omega))
  rw [Lx_law_748, w32_id (x := x + 1) (by omega) (by omega), if_pos (by omega), f, jb_t]
  refine la_j (fun q => ?_)
  rw [q.1, if_pos (by omega), q.2 (x + 1) (by omega) (by omega), g, jb_t, if_pos rfl, Lx_law_1727]
  exact hk s2 i n1 n2
theorem la_771 {k18 : Int → Int → Int → Int → jM → Option (Int × jM)} {s : jM} {x : Int} (h : INV s) (hs : SC s) (hx : 0 ≤ x ∧ x + 6 ≤ s (-2) 0) (hk : ∀ t, INV t → t (-1) = s (-1) → t (-2) = s (-2) → ∃ s', k18 0 0 155 (x + 6) t = some (1, s')) : ∃ s', Lx_law_771 k18 0 0 155 x s = some (1, s') := by
  have hl := hs.1
  obtain ⟨r, s1, s2, f, g, i, n1, n2⟩ := pour_ok h (hs.2 (x + 1) (by omega) (by omega)) (hs.2 (x + 2) (by omega) (by omega)) (hs.2 (x + 3) (by omega) (by omega))
  rw [Lx_law_771, w32_id (x := x + 1) (by omega) (by omega), w32_id (x := x + 2) (by omega) (by omega), w32_id (x := x + 3) (by omega) (by omega), if_pos (by omega), f, jb_t]
  refine la_j (fun q => ?_)
  rw [q.1, if_pos (by omega), q.2 (x + 1) (by omega) (by omega), q.2 (x + 2) (by omega) (by omega), q.2 (x + 3) (by omega) (by omega), g, jb_t, if_pos rfl, Lx_law_1727]
  exact hk s2 i n1 n2
theorem la_814 {k18 : Int → Int → Int → Int → jM → Option (Int × jM)} {s : jM} {x : Int} (h : INV s) (hs : SC s) (hx : 0 ≤ x ∧ x + 6 ≤ s (-2) 0) (hk : ∀ t, INV t → t (-1) = s (-1) → t (-2) = s (-2) → ∃ s', k18 0 0 155 (x + 6) t = some (1, s')) : ∃ s', Lx_law_814 k18 0 0 155 x s = some (1, s') := by
  have hl := hs.1
  obtain ⟨r, s1, s2, f, g, i, n1, n2⟩ := empty_ok h (hs.2 (x + 1) (by omega) (by omega))
  rw [Lx_law_814, w32_id (x := x + 1) (by omega) (by omega), if_pos (by omega), f, jb_t]
  refine la_j (fun q => ?_)
  rw [q.1, if_pos (by omega), q.2 (x + 1) (by omega) (by omega), g, jb_t, if_pos rfl, Lx_law_1727]
  exact hk s2 i n1 n2
theorem la_837 {k18 : Int → Int → Int → Int → jM → Option (Int × jM)} {s : jM} {x : Int} (h : INV s) (hs : SC s) (hx : 0 ≤ x ∧ x + 6 ≤ s (-2) 0) (hk : ∀ t, INV t → t (-1) = s (-1) → t (-2) = s (-2) → ∃ s', k18 0 0 155 (x + 6) t = some (1, s')) : ∃ s', Lx_law_837 k18 0 0 155 x s = some (1, s') := by
  have hl := hs.1
  obtain ⟨r, s1, s2, f, g, i, n1, n2⟩ := knock_ok h (hs.2 (x + 1) (by omega) (by omega))
  rw [Lx_law_837, w32_id (x := x + 1) (by omega) (by omega), if_pos (by omega), f, jb_t]
  refine la_j (fun q => ?_)
  rw [q.1, if_pos (by omega), q.2 (x + 1) (by omega) (by omega), g, jb_t, if_pos rfl, Lx_law_1727]
  exact hk s2 i n1 n2
theorem la_860 {k18 : Int → Int → Int → Int → jM → Option (Int × jM)} {s : jM} {x : Int} (h : INV s) (hs : SC s) (hx : 0 ≤ x ∧ x + 6 ≤ s (-2) 0) (hk : ∀ t, INV t → t (-1) = s (-1) → t (-2) = s (-2) → ∃ s', k18 0 0 155 (x + 6) t = some (1, s')) : ∃ s', Lx_law_860 k18 0 0 155 x s = some (1, s') := by
  have hl := hs.1
  obtain ⟨r, s1, s2, f, g, i, n1, n2⟩ := touch_ok h (hs.2 (x + 1) (by omega) (by omega))
  rw [Lx_law_860, w32_id (x := x + 1) (by omega) (by omega), if_pos (by omega), f, jb_t]
  refine la_j (fun q => ?_)
  rw [q.1, if_pos (by omega), q.2 (x + 1) (by omega) (by omega), g, jb_t, if_pos rfl, Lx_law_1727]
  exact hk s2 i n1 n2
theorem la_883 {k18 : Int → Int → Int → Int → jM → Option (Int × jM)} {s : jM} {x : Int} (h : INV s) (hs : SC s) (hx : 0 ≤ x ∧ x + 6 ≤ s (-2) 0) (hk : ∀ t, INV t → t (-1) = s (-1) → t (-2) = s (-2) → ∃ s', k18 0 0 155 (x + 6) t = some (1, s')) : ∃ s', Lx_law_883 k18 0 0 155 x s = some (1, s') := by
  have hl := hs.1
  obtain ⟨r, s1, s2, f, g, i, n1, n2⟩ := carry_ok h (hs.2 (x + 1) (by omega) (by omega)) (hs.2 (x + 2) (by omega) (by omega))
  rw [Lx_law_883, w32_id (x := x + 1) (by omega) (by omega), w32_id (x := x + 2) (by omega) (by omega), if_pos (by omega), f, jb_t]
  refine la_j (fun q => ?_)
  rw [q.1, if_pos (by omega), q.2 (x + 1) (by omega) (by omega), q.2 (x + 2) (by omega) (by omega), g, jb_t, if_pos rfl, Lx_law_1727]
  exact hk s2 i n1 n2
theorem la_916 {k18 : Int → Int → Int → Int → jM → Option (Int × jM)} {s : jM} {x : Int} (h : INV s) (hs : SC s) (hx : 0 ≤ x ∧ x + 6 ≤ s (-2) 0) (hk : ∀ t, INV t → t (-1) = s (-1) → t (-2) = s (-2) → ∃ s', k18 0 0 155 (x + 6) t = some (1, s')) : ∃ s', Lx_law_916 k18 0 0 155 x s = some (1, s') := by
  have hl := hs.1
  obtain ⟨r, s1, s2, f, g, i, n1, n2⟩ := minute_ok h (hs.2 (x + 1) (by omega) (by omega))
  rw [Lx_law_916, w32_id (x := x + 1) (by omega) (by omega), if_pos (by omega), f, jb_t]
  refine la_j (fun q => ?_)
  rw [q.1, if_pos (by omega), q.2 (x + 1) (by omega) (by omega), g, jb_t, if_pos rfl, Lx_law_1727]
  exact hk s2 i n1 n2
theorem la_939 {k18 : Int → Int → Int → Int → jM → Option (Int × jM)} {s : jM} {x : Int} (h : INV s) (hs : SC s) (hx : 0 ≤ x ∧ x + 6 ≤ s (-2) 0) (hk : ∀ t, INV t → t (-1) = s (-1) → t (-2) = s (-2) → ∃ s', k18 0 0 155 (x + 6) t = some (1, s')) : ∃ s', Lx_law_939 k18 0 0 155 x s = some (1, s') := by
  have hl := hs.1
  obtain ⟨r, s1, s2, f, g, i, n1, n2⟩ := warm_ok h (hs.2 (x + 1) (by omega) (by omega))
  rw [Lx_law_939, w32_id (x := x + 1) (by omega) (by omega), if_pos (by omega), f, jb_t]
  refine la_j (fun q => ?_)
  rw [q.1, if_pos (by omega), q.2 (x + 1) (by omega) (by omega), g, jb_t, if_pos rfl, Lx_law_1727]
  exact hk s2 i n1 n2
theorem la_962 {k18 : Int → Int → Int → Int → jM → Option (Int × jM)} {s : jM} {x : Int} (h : INV s) (hs : SC s) (hx : 0 ≤ x ∧ x + 6 ≤ s (-2) 0) (hk : ∀ t, INV t → t (-1) = s (-1) → t (-2) = s (-2) → ∃ s', k18 0 0 155 (x + 6) t = some (1, s')) : ∃ s', Lx_law_962 k18 0 0 155 x s = some (1, s') := by
  have hl := hs.1
  obtain ⟨r, s1, s2, f, g, i, n1, n2⟩ := buy_ok h (hs.2 (x + 1) (by omega) (by omega)) (hs.2 (x + 2) (by omega) (by omega))
  rw [Lx_law_962, w32_id (x := x + 1) (by omega) (by omega), w32_id (x := x + 2) (by omega) (by omega), if_pos (by omega), f, jb_t]
  refine la_j (fun q => ?_)
  rw [q.1, if_pos (by omega), q.2 (x + 1) (by omega) (by omega), q.2 (x + 2) (by omega) (by omega), g, jb_t, if_pos rfl, Lx_law_1727]
  exact hk s2 i n1 n2
theorem la_995 {k18 : Int → Int → Int → Int → jM → Option (Int × jM)} {s : jM} {x : Int} (h : INV s) (hs : SC s) (hx : 0 ≤ x ∧ x + 6 ≤ s (-2) 0) (hk : ∀ t, INV t → t (-1) = s (-1) → t (-2) = s (-2) → ∃ s', k18 0 0 155 (x + 6) t = some (1, s')) : ∃ s', Lx_law_995 k18 0 0 155 x s = some (1, s') := by
  have hl := hs.1
  obtain ⟨r, s1, s2, f, g, i, n1, n2⟩ := rule_ok h (hs.2 (x + 1) (by omega) (by omega))
  rw [Lx_law_995, w32_id (x := x + 1) (by omega) (by omega), if_pos (by omega), f, jb_t]
  refine la_j (fun q => ?_)
  rw [q.1, if_pos (by omega), q.2 (x + 1) (by omega) (by omega), g, jb_t, if_pos rfl, Lx_law_1727]
  exact hk s2 i n1 n2
theorem la_1018 {k18 : Int → Int → Int → Int → jM → Option (Int × jM)} {s : jM} {x : Int} (h : INV s) (hs : SC s) (hx : 0 ≤ x ∧ x + 6 ≤ s (-2) 0) (hk : ∀ t, INV t → t (-1) = s (-1) → t (-2) = s (-2) → ∃ s', k18 0 0 155 (x + 6) t = some (1, s')) : ∃ s', Lx_law_1018 k18 0 0 155 x s = some (1, s') := by
  have hl := hs.1
  obtain ⟨r, s1, s2, f, g, i, n1, n2⟩ := firmIn_ok h (hs.2 (x + 1) (by omega) (by omega)) (hs.2 (x + 2) (by omega) (by omega))
  rw [Lx_law_1018, w32_id (x := x + 1) (by omega) (by omega), w32_id (x := x + 2) (by omega) (by omega), if_pos (by omega), f, jb_t]
  refine la_j (fun q => ?_)
  rw [q.1, if_pos (by omega), q.2 (x + 1) (by omega) (by omega), q.2 (x + 2) (by omega) (by omega), g, jb_t, if_pos rfl, Lx_law_1727]
  exact hk s2 i n1 n2
theorem la_1051 {k18 : Int → Int → Int → Int → jM → Option (Int × jM)} {s : jM} {x : Int} (h : INV s) (hs : SC s) (hx : 0 ≤ x ∧ x + 6 ≤ s (-2) 0) (hk : ∀ t, INV t → t (-1) = s (-1) → t (-2) = s (-2) → ∃ s', k18 0 0 155 (x + 6) t = some (1, s')) : ∃ s', Lx_law_1051 k18 0 0 155 x s = some (1, s') := by
  have hl := hs.1
  obtain ⟨r, s1, s2, f, g, i, n1, n2⟩ := lasts_ok h (hs.2 (x + 1) (by omega) (by omega))
  rw [Lx_law_1051, w32_id (x := x + 1) (by omega) (by omega), if_pos (by omega), f, jb_t]
  refine la_j (fun q => ?_)
  rw [q.1, if_pos (by omega), q.2 (x + 1) (by omega) (by omega), g, jb_t, if_pos rfl, Lx_law_1727]
  exact hk s2 i n1 n2
theorem la_1074 {k18 : Int → Int → Int → Int → jM → Option (Int × jM)} {s : jM} {x : Int} (h : INV s) (hs : SC s) (hx : 0 ≤ x ∧ x + 6 ≤ s (-2) 0) (hk : ∀ t, INV t → t (-1) = s (-1) → t (-2) = s (-2) → ∃ s', k18 0 0 155 (x + 6) t = some (1, s')) : ∃ s', Lx_law_1074 k18 0 0 155 x s = some (1, s') := by
  have hl := hs.1
  obtain ⟨r, s1, s2, f, g, i, n1, n2⟩ := waits_ok h (hs.2 (x + 1) (by omega) (by omega)) (hs.2 (x + 2) (by omega) (by omega))
  rw [Lx_law_1074, w32_id (x := x + 1) (by omega) (by omega), w32_id (x := x + 2) (by omega) (by omega), if_pos (by omega), f, jb_t]
  refine la_j (fun q => ?_)
  rw [q.1, if_pos (by omega), q.2 (x + 1) (by omega) (by omega), q.2 (x + 2) (by omega) (by omega), g, jb_t, if_pos rfl, Lx_law_1727]
  exact hk s2 i n1 n2
theorem la_1107 {k18 : Int → Int → Int → Int → jM → Option (Int × jM)} {s : jM} {x : Int} (h : INV s) (hs : SC s) (hx : 0 ≤ x ∧ x + 6 ≤ s (-2) 0) (hk : ∀ t, INV t → t (-1) = s (-1) → t (-2) = s (-2) → ∃ s', k18 0 0 155 (x + 6) t = some (1, s')) : ∃ s', Lx_law_1107 k18 0 0 155 x s = some (1, s') := by
  have hl := hs.1
  obtain ⟨r, s1, s2, f, g, i, n1, n2⟩ := fallIn_ok h
  rw [Lx_law_1107, f, jb_t]
  refine la_j (fun q => ?_)
  rw [g, jb_t, if_pos rfl, Lx_law_1727]
  exact hk s2 i n1 n2
theorem la_1120 {k18 : Int → Int → Int → Int → jM → Option (Int × jM)} {s : jM} {x : Int} (h : INV s) (hs : SC s) (hx : 0 ≤ x ∧ x + 6 ≤ s (-2) 0) (hk : ∀ t, INV t → t (-1) = s (-1) → t (-2) = s (-2) → ∃ s', k18 0 0 155 (x + 6) t = some (1, s')) : ∃ s', Lx_law_1120 k18 0 0 155 x s = some (1, s') := by
  have hl := hs.1
  obtain ⟨r, s1, s2, f, g, i, n1, n2⟩ := mix_ok h (hs.2 (x + 1) (by omega) (by omega)) (hs.2 (x + 2) (by omega) (by omega))
  rw [Lx_law_1120, w32_id (x := x + 1) (by omega) (by omega), w32_id (x := x + 2) (by omega) (by omega), if_pos (by omega), f, jb_t]
  refine la_j (fun q => ?_)
  rw [q.1, if_pos (by omega), q.2 (x + 1) (by omega) (by omega), q.2 (x + 2) (by omega) (by omega), g, jb_t, if_pos rfl, Lx_law_1727]
  exact hk s2 i n1 n2
theorem la_1153 {k18 : Int → Int → Int → Int → jM → Option (Int × jM)} {s : jM} {x : Int} (h : INV s) (hs : SC s) (hx : 0 ≤ x ∧ x + 6 ≤ s (-2) 0) (hk : ∀ t, INV t → t (-1) = s (-1) → t (-2) = s (-2) → ∃ s', k18 0 0 155 (x + 6) t = some (1, s')) : ∃ s', Lx_law_1153 k18 0 0 155 x s = some (1, s') := by
  have hl := hs.1
  obtain ⟨r, s1, s2, f, g, i, n1, n2⟩ := mixPart_ok h (hs.2 (x + 1) (by omega) (by omega)) (hs.2 (x + 2) (by omega) (by omega)) (hs.2 (x + 3) (by omega) (by omega))
  rw [Lx_law_1153, w32_id (x := x + 1) (by omega) (by omega), w32_id (x := x + 2) (by omega) (by omega), w32_id (x := x + 3) (by omega) (by omega), if_pos (by omega), f, jb_t]
  refine la_j (fun q => ?_)
  rw [q.1, if_pos (by omega), q.2 (x + 1) (by omega) (by omega), q.2 (x + 2) (by omega) (by omega), q.2 (x + 3) (by omega) (by omega), g, jb_t, if_pos rfl, Lx_law_1727]
  exact hk s2 i n1 n2
theorem la_1196 {k18 : Int → Int → Int → Int → jM → Option (Int × jM)} {s : jM} {x : Int} (h : INV s) (hs : SC s) (hx : 0 ≤ x ∧ x + 6 ≤ s (-2) 0) (hk : ∀ t, INV t → t (-1) = s (-1) → t (-2) = s (-2) → ∃ s', k18 0 0 155 (x + 6) t = some (1, s')) : ∃ s', Lx_law_1196 k18 0 0 155 x s = some (1, s') := by
  have hl := hs.1
  obtain ⟨r, s1, s2, f, g, i, n1, n2⟩ := strongest_ok h (hs.2 (x + 1) (by omega) (by omega))
  rw [Lx_law_1196, w32_id (x := x + 1) (by omega) (by omega), if_pos (by omega), f, jb_t]
  refine la_j (fun q => ?_)
  rw [q.1, if_pos (by omega), q.2 (x + 1) (by omega) (by omega), g, jb_t, if_pos rfl, Lx_law_1727]
  exact hk s2 i n1 n2
theorem la_1219 {k18 : Int → Int → Int → Int → jM → Option (Int × jM)} {s : jM} {x : Int} (h : INV s) (hs : SC s) (hx : 0 ≤ x ∧ x + 6 ≤ s (-2) 0) (hk : ∀ t, INV t → t (-1) = s (-1) → t (-2) = s (-2) → ∃ s', k18 0 0 155 (x + 6) t = some (1, s')) : ∃ s', Lx_law_1219 k18 0 0 155 x s = some (1, s') := by
  have hl := hs.1
  obtain ⟨r, s1, s2, f, g, i, n1, n2⟩ := fillings_ok h (hs.2 (x + 1) (by omega) (by omega))
  rw [Lx_law_1219, w32_id (x := x + 1) (by omega) (by omega), if_pos (by omega), f, jb_t]
  refine la_j (fun q => ?_)
  rw [q.1, if_pos (by omega), q.2 (x + 1) (by omega) (by omega), g, jb_t, if_pos rfl, Lx_law_1727]
  exact hk s2 i n1 n2
theorem la_1242 {k18 : Int → Int → Int → Int → jM → Option (Int × jM)} {s : jM} {x : Int} (h : INV s) (hs : SC s) (hx : 0 ≤ x ∧ x + 6 ≤ s (-2) 0) (hk : ∀ t, INV t → t (-1) = s (-1) → t (-2) = s (-2) → ∃ s', k18 0 0 155 (x + 6) t = some (1, s')) : ∃ s', Lx_law_1242 k18 0 0 155 x s = some (1, s') := by
  have hl := hs.1
  obtain ⟨r, s1, s2, f, g, i, n1, n2⟩ := shaken_ok h (hs.2 (x + 1) (by omega) (by omega)) (hs.2 (x + 2) (by omega) (by omega))
  rw [Lx_law_1242, w32_id (x := x + 1) (by omega) (by omega), w32_id (x := x + 2) (by omega) (by omega), if_pos (by omega), f, jb_t]
  refine la_j (fun q => ?_)
  rw [q.1, if_pos (by omega), q.2 (x + 1) (by omega) (by omega), q.2 (x + 2) (by omega) (by omega), g, jb_t, if_pos rfl, Lx_law_1727]
  exact hk s2 i n1 n2
theorem la_1275 {k18 : Int → Int → Int → Int → jM → Option (Int × jM)} {s : jM} {x : Int} (h : INV s) (hs : SC s) (hx : 0 ≤ x ∧ x + 6 ≤ s (-2) 0) (hk : ∀ t, INV t → t (-1) = s (-1) → t (-2) = s (-2) → ∃ s', k18 0 0 155 (x + 6) t = some (1, s')) : ∃ s', Lx_law_1275 k18 0 0 155 x s = some (1, s') := by
  have hl := hs.1
  obtain ⟨r, s1, s2, f, g, i, n1, n2⟩ := way_ok h (hs.2 (x + 1) (by omega) (by omega)) (hs.2 (x + 2) (by omega) (by omega)) (hs.2 (x + 3) (by omega) (by omega))
  rw [Lx_law_1275, w32_id (x := x + 1) (by omega) (by omega), w32_id (x := x + 2) (by omega) (by omega), w32_id (x := x + 3) (by omega) (by omega), if_pos (by omega), f, jb_t]
  refine la_j (fun q => ?_)
  rw [q.1, if_pos (by omega), q.2 (x + 1) (by omega) (by omega), q.2 (x + 2) (by omega) (by omega), q.2 (x + 3) (by omega) (by omega), g, jb_t, if_pos rfl, Lx_law_1727]
  exact hk s2 i n1 n2
theorem la_1318 {k18 : Int → Int → Int → Int → jM → Option (Int × jM)} {s : jM} {x : Int} (h : INV s) (hs : SC s) (hx : 0 ≤ x ∧ x + 6 ≤ s (-2) 0) (hk : ∀ t, INV t → t (-1) = s (-1) → t (-2) = s (-2) → ∃ s', k18 0 0 155 (x + 6) t = some (1, s')) : ∃ s', Lx_law_1318 k18 0 0 155 x s = some (1, s') := by
  have hl := hs.1
  obtain ⟨r, s1, s2, f, g, i, n1, n2⟩ := reach_ok h (hs.2 (x + 1) (by omega) (by omega))
  rw [Lx_law_1318, w32_id (x := x + 1) (by omega) (by omega), if_pos (by omega), f, jb_t]
  refine la_j (fun q => ?_)
  rw [q.1, if_pos (by omega), q.2 (x + 1) (by omega) (by omega), g, jb_t, if_pos rfl, Lx_law_1727]
  exact hk s2 i n1 n2
theorem la_1341 {k18 : Int → Int → Int → Int → jM → Option (Int × jM)} {s : jM} {x : Int} (h : INV s) (hs : SC s) (hx : 0 ≤ x ∧ x + 6 ≤ s (-2) 0) (hk : ∀ t, INV t → t (-1) = s (-1) → t (-2) = s (-2) → ∃ s', k18 0 0 155 (x + 6) t = some (1, s')) : ∃ s', Lx_law_1341 k18 0 0 155 x s = some (1, s') := by
  have hl := hs.1
  obtain ⟨r, s1, s2, f, g, i, n1, n2⟩ := fits_ok h (hs.2 (x + 1) (by omega) (by omega)) (hs.2 (x + 2) (by omega) (by omega)) (hs.2 (x + 3) (by omega) (by omega))
  rw [Lx_law_1341, w32_id (x := x + 1) (by omega) (by omega), w32_id (x := x + 2) (by omega) (by omega), w32_id (x := x + 3) (by omega) (by omega), if_pos (by omega), f, jb_t]
  refine la_j (fun q => ?_)
  rw [q.1, if_pos (by omega), q.2 (x + 1) (by omega) (by omega), q.2 (x + 2) (by omega) (by omega), q.2 (x + 3) (by omega) (by omega), g, jb_t, if_pos rfl, Lx_law_1727]
  exact hk s2 i n1 n2
theorem la_1384 {k18 : Int → Int → Int → Int → jM → Option (Int × jM)} {s : jM} {x : Int} (h : INV s) (hs : SC s) (hx : 0 ≤ x ∧ x + 6 ≤ s (-2) 0) (hk : ∀ t, INV t → t (-1) = s (-1) → t (-2) = s (-2) → ∃ s', k18 0 0 155 (x + 6) t = some (1, s')) : ∃ s', Lx_law_1384 k18 0 0 155 x s = some (1, s') := by
  have hl := hs.1
  obtain ⟨r, s1, s2, f, g, i, n1, n2⟩ := fitsBy_ok h (hs.2 (x + 1) (by omega) (by omega)) (hs.2 (x + 2) (by omega) (by omega)) (hs.2 (x + 3) (by omega) (by omega)) (hs.2 (x + 4) (by omega) (by omega))
  rw [Lx_law_1384, w32_id (x := x + 1) (by omega) (by omega), w32_id (x := x + 2) (by omega) (by omega), w32_id (x := x + 3) (by omega) (by omega), w32_id (x := x + 4) (by omega) (by omega), if_pos (by omega), f, jb_t]
  refine la_j (fun q => ?_)
  rw [q.1, if_pos (by omega), q.2 (x + 1) (by omega) (by omega), q.2 (x + 2) (by omega) (by omega), q.2 (x + 3) (by omega) (by omega), q.2 (x + 4) (by omega) (by omega), g, jb_t, if_pos rfl, Lx_law_1727]
  exact hk s2 i n1 n2
theorem la_1437 {k18 : Int → Int → Int → Int → jM → Option (Int × jM)} {s : jM} {x : Int} (h : INV s) (hs : SC s) (hx : 0 ≤ x ∧ x + 6 ≤ s (-2) 0) (hk : ∀ t, INV t → t (-1) = s (-1) → t (-2) = s (-2) → ∃ s', k18 0 0 155 (x + 6) t = some (1, s')) : ∃ s', Lx_law_1437 k18 0 0 155 x s = some (1, s') := by
  have hl := hs.1
  obtain ⟨r, s1, s2, f, g, i, n1, n2⟩ := ask_ok h (hs.2 (x + 1) (by omega) (by omega)) (hs.2 (x + 2) (by omega) (by omega)) (hs.2 (x + 3) (by omega) (by omega))
  rw [Lx_law_1437, w32_id (x := x + 1) (by omega) (by omega), w32_id (x := x + 2) (by omega) (by omega), w32_id (x := x + 3) (by omega) (by omega), if_pos (by omega), f, jb_t]
  refine la_j (fun q => ?_)
  rw [q.1, if_pos (by omega), q.2 (x + 1) (by omega) (by omega), q.2 (x + 2) (by omega) (by omega), q.2 (x + 3) (by omega) (by omega), g, jb_t, if_pos rfl, Lx_law_1727]
  exact hk s2 i n1 n2
theorem la_1480 {k18 : Int → Int → Int → Int → jM → Option (Int × jM)} {s : jM} {x : Int} (h : INV s) (hs : SC s) (hx : 0 ≤ x ∧ x + 6 ≤ s (-2) 0) (hk : ∀ t, INV t → t (-1) = s (-1) → t (-2) = s (-2) → ∃ s', k18 0 0 155 (x + 6) t = some (1, s')) : ∃ s', Lx_law_1480 k18 0 0 155 x s = some (1, s') := by
  have hl := hs.1
  obtain ⟨r, s1, s2, f, g, i, n1, n2⟩ := game_ok h (hs.2 (x + 1) (by omega) (by omega)) (hs.2 (x + 2) (by omega) (by omega)) (hs.2 (x + 3) (by omega) (by omega))
  rw [Lx_law_1480, w32_id (x := x + 1) (by omega) (by omega), w32_id (x := x + 2) (by omega) (by omega), w32_id (x := x + 3) (by omega) (by omega), if_pos (by omega), f, jb_t]
  refine la_j (fun q => ?_)
  rw [q.1, if_pos (by omega), q.2 (x + 1) (by omega) (by omega), q.2 (x + 2) (by omega) (by omega), q.2 (x + 3) (by omega) (by omega), g, jb_t, if_pos rfl, Lx_law_1727]
  exact hk s2 i n1 n2
theorem la_1523 {k18 : Int → Int → Int → Int → jM → Option (Int × jM)} {s : jM} {x : Int} (h : INV s) (hs : SC s) (hx : 0 ≤ x ∧ x + 6 ≤ s (-2) 0) (hk : ∀ t, INV t → t (-1) = s (-1) → t (-2) = s (-2) → ∃ s', k18 0 0 155 (x + 6) t = some (1, s')) : ∃ s', Lx_law_1523 k18 0 0 155 x s = some (1, s') := by
  have hl := hs.1
  obtain ⟨r, s1, s2, f, g, i, n1, n2⟩ := moveOf_ok h (hs.2 (x + 1) (by omega) (by omega)) (hs.2 (x + 2) (by omega) (by omega)) (hs.2 (x + 3) (by omega) (by omega))
  rw [Lx_law_1523, w32_id (x := x + 1) (by omega) (by omega), w32_id (x := x + 2) (by omega) (by omega), w32_id (x := x + 3) (by omega) (by omega), if_pos (by omega), f, jb_t]
  refine la_j (fun q => ?_)
  rw [q.1, if_pos (by omega), q.2 (x + 1) (by omega) (by omega), q.2 (x + 2) (by omega) (by omega), q.2 (x + 3) (by omega) (by omega), g, jb_t, if_pos rfl, Lx_law_1727]
  exact hk s2 i n1 n2
theorem la_1566 {k18 : Int → Int → Int → Int → jM → Option (Int × jM)} {s : jM} {x : Int} (h : INV s) (hs : SC s) (hx : 0 ≤ x ∧ x + 6 ≤ s (-2) 0) (hk : ∀ t, INV t → t (-1) = s (-1) → t (-2) = s (-2) → ∃ s', k18 0 0 155 (x + 6) t = some (1, s')) : ∃ s', Lx_law_1566 k18 0 0 155 x s = some (1, s') := by
  have hl := hs.1
  obtain ⟨r, s1, s2, f, g, i, n1, n2⟩ := bubbles_ok h (hs.2 (x + 1) (by omega) (by omega)) (hs.2 (x + 2) (by omega) (by omega))
  rw [Lx_law_1566, w32_id (x := x + 1) (by omega) (by omega), w32_id (x := x + 2) (by omega) (by omega), if_pos (by omega), f, jb_t]
  refine la_j (fun q => ?_)
  rw [q.1, if_pos (by omega), q.2 (x + 1) (by omega) (by omega), q.2 (x + 2) (by omega) (by omega), g, jb_t, if_pos rfl, Lx_law_1727]
  exact hk s2 i n1 n2
theorem la_1599 {k18 : Int → Int → Int → Int → jM → Option (Int × jM)} {s : jM} {x : Int} (h : INV s) (hs : SC s) (hx : 0 ≤ x ∧ x + 6 ≤ s (-2) 0) (hk : ∀ t, INV t → t (-1) = s (-1) → t (-2) = s (-2) → ∃ s', k18 0 0 155 (x + 6) t = some (1, s')) : ∃ s', Lx_law_1599 k18 0 0 155 x s = some (1, s') := by
  have hl := hs.1
  obtain ⟨r, s1, s2, f, g, i, n1, n2⟩ := poise_ok h (hs.2 (x + 1) (by omega) (by omega))
  rw [Lx_law_1599, w32_id (x := x + 1) (by omega) (by omega), if_pos (by omega), f, jb_t]
  refine la_j (fun q => ?_)
  rw [q.1, if_pos (by omega), q.2 (x + 1) (by omega) (by omega), g, jb_t, if_pos rfl, Lx_law_1727]
  exact hk s2 i n1 n2
theorem la_1622 {k18 : Int → Int → Int → Int → jM → Option (Int × jM)} {s : jM} {x : Int} (h : INV s) (hs : SC s) (hx : 0 ≤ x ∧ x + 6 ≤ s (-2) 0) (hk : ∀ t, INV t → t (-1) = s (-1) → t (-2) = s (-2) → ∃ s', k18 0 0 155 (x + 6) t = some (1, s')) : ∃ s', Lx_law_1622 k18 0 0 155 x s = some (1, s') := by
  have hl := hs.1
  obtain ⟨r, s1, s2, f, g, i, n1, n2⟩ := live_ok h (hs.2 (x + 1) (by omega) (by omega))
  rw [Lx_law_1622, w32_id (x := x + 1) (by omega) (by omega), if_pos (by omega), f, jb_t]
  refine la_j (fun q => ?_)
  rw [q.1, if_pos (by omega), q.2 (x + 1) (by omega) (by omega), g, jb_t, if_pos rfl, Lx_law_1727]
  exact hk s2 i n1 n2
theorem la_1645 {k18 : Int → Int → Int → Int → jM → Option (Int × jM)} {s : jM} {x : Int} (h : INV s) (hs : SC s) (hx : 0 ≤ x ∧ x + 6 ≤ s (-2) 0) (hk : ∀ t, INV t → t (-1) = s (-1) → t (-2) = s (-2) → ∃ s', k18 0 0 155 (x + 6) t = some (1, s')) : ∃ s', Lx_law_1645 k18 0 0 155 x s = some (1, s') := by
  have hl := hs.1
  obtain ⟨r, s1, s2, f, g, i, n1, n2⟩ := lived_ok h (hs.2 (x + 1) (by omega) (by omega))
  rw [Lx_law_1645, w32_id (x := x + 1) (by omega) (by omega), if_pos (by omega), f, jb_t]
  refine la_j (fun q => ?_)
  rw [q.1, if_pos (by omega), q.2 (x + 1) (by omega) (by omega), g, jb_t, if_pos rfl, Lx_law_1727]
  exact hk s2 i n1 n2
theorem la_1668 {k18 : Int → Int → Int → Int → jM → Option (Int × jM)} {s : jM} {x : Int} (h : INV s) (hs : SC s) (hx : 0 ≤ x ∧ x + 6 ≤ s (-2) 0) (hk : ∀ t, INV t → t (-1) = s (-1) → t (-2) = s (-2) → ∃ s', k18 0 0 155 (x + 6) t = some (1, s')) : ∃ s', Lx_law_1668 k18 0 0 155 x s = some (1, s') := by
  have hl := hs.1
  obtain ⟨r, s1, s2, f, g, i, n1, n2⟩ := mean_ok h (hs.2 (x + 1) (by omega) (by omega)) (hs.2 (x + 2) (by omega) (by omega))
  rw [Lx_law_1668, w32_id (x := x + 1) (by omega) (by omega), w32_id (x := x + 2) (by omega) (by omega), if_pos (by omega), f, jb_t]
  refine la_j (fun q => ?_)
  rw [q.1, if_pos (by omega), q.2 (x + 1) (by omega) (by omega), q.2 (x + 2) (by omega) (by omega), g, jb_t, if_pos rfl, Lx_law_1727]
  exact hk s2 i n1 n2
theorem la_1701 {k18 : Int → Int → Int → Int → jM → Option (Int × jM)} {s : jM} {x : Int} (h : INV s) (hs : SC s) (hx : 0 ≤ x ∧ x + 6 ≤ s (-2) 0) (hk : ∀ t, INV t → t (-1) = s (-1) → t (-2) = s (-2) → ∃ s', k18 0 0 155 (x + 6) t = some (1, s')) : ∃ s', Lx_law_1701 k18 0 0 155 x s = some (1, s') := by
  have hl := hs.1
  obtain ⟨r, s1, s2, f, g, i, n1, n2⟩ := mark_ok h
  rw [Lx_law_1701, f, jb_t]
  refine la_j (fun q => ?_)
  rw [g, jb_t, if_pos rfl, Lx_law_1727]
  exact hk s2 i n1 n2
theorem la_1714 {k18 : Int → Int → Int → Int → jM → Option (Int × jM)} {s : jM} {x : Int} (h : INV s) (hs : SC s) (hx : 0 ≤ x ∧ x + 6 ≤ s (-2) 0) (hk : ∀ t, INV t → t (-1) = s (-1) → t (-2) = s (-2) → ∃ s', k18 0 0 155 (x + 6) t = some (1, s')) : ∃ s', Lx_law_1714 k18 0 0 155 x s = some (1, s') := by
  have hl := hs.1
  obtain ⟨r, s1, s2, f, g, i, n1, n2⟩ := back_ok h
  rw [Lx_law_1714, f, jb_t]
  refine la_j (fun q => ?_)
  rw [g, jb_t, if_pos rfl, Lx_law_1727]
  exact hk s2 i n1 n2
theorem la_main : ∀ (n f : Nat) (x : Int) (s : jM), INV s → SC s → 0 ≤ x → x ≤ 4000 → s (-2) 0 - x < n → n < f → ∃ s', Lx_law_18 f 0 0 155 x s = some (1, s') := by
  intro n
  induction n with
  | zero =>
    intro f x s h hs hx hx2 h1 h2
    have hl := hs.1
    obtain ⟨f, rfl⟩ : ∃ g, f = g + 1 := ⟨f - 1, by omega⟩
    refine ⟨s, ?_⟩
    rw [Lx_law_18, w32_id (x := s (-2) 0 - 6) (by omega) (by omega), w32_id (x := x) (by omega) (by omega), if_pos (by omega)]
  | succ n ih =>
    intro f x s h hs hx hx2 h1 h2
    have hl := hs.1
    obtain ⟨f, rfl⟩ : ∃ g, f = g + 1 := ⟨f - 1, by omega⟩
    by_cases q : s (-2) 0 - 6 < x
    · refine ⟨s, ?_⟩
      rw [Lx_law_18, w32_id (x := s (-2) 0 - 6) (by omega) (by omega), w32_id (x := x) (by omega) (by omega), if_pos q]
    · have hx6 : 0 ≤ x ∧ x + 6 ≤ s (-2) 0 := by omega
      have hk : ∀ t, INV t → t (-1) = s (-1) → t (-2) = s (-2) → ∃ s', Lx_law_18 f 0 0 155 (x + 6) t = some (1, s') := fun t i n1 n2 => ih f (x + 6) t i (SC_eq hs n1 n2) (by omega) (by omega) (by rw [n2]; omega) (by omega)
      rw [Lx_law_18, w32_id (x := s (-2) 0 - 6) (by omega) (by omega), w32_id (x := x) (by omega) (by omega), if_neg q, if_pos (by omega)]
      clear ih
      generalize w32 (jiand (s (-1) x) 63) = c
      by_cases c0 : c = 0
      · rw [if_pos c0]
        exact la_240 h hs hx6 hk
      rw [if_neg c0]
      by_cases c1 : c = 1
      · rw [if_pos c1]
        exact la_253 h hs hx6 hk
      rw [if_neg c1]
      by_cases c2 : c = 2
      · rw [if_pos c2]
        exact la_267 h hs hx6 hk
      rw [if_neg c2]
      by_cases c3 : c = 3
      · rw [if_pos c3]
        exact la_281 h hs hx6 hk
      rw [if_neg c3]
      by_cases c4 : c = 4
      · rw [if_pos c4]
        exact la_324 h hs hx6 hk
      rw [if_neg c4]
      by_cases c5 : c = 5
      · rw [if_pos c5]
        exact la_397 h hs hx6 hk
      rw [if_neg c5]
      by_cases c6 : c = 6
      · rw [if_pos c6]
        exact la_431 h hs hx6 hk
      rw [if_neg c6]
      by_cases c7 : c = 7
      · rw [if_pos c7]
        exact la_494 h hs hx6 hk
      rw [if_neg c7]
      by_cases c8 : c = 8
      · rw [if_pos c8]
        exact la_557 h hs hx6 hk
      rw [if_neg c8]
      by_cases c9 : c = 9
      · rw [if_pos c9]
        exact la_580 h hs hx6 hk
      rw [if_neg c9]
      by_cases c10 : c = 10
      · rw [if_pos c10]
        exact la_603 h hs hx6 hk
      rw [if_neg c10]
      by_cases c11 : c = 11
      · rw [if_pos c11]
        exact la_626 h hs hx6 hk
      rw [if_neg c11]
      by_cases c12 : c = 12
      · rw [if_pos c12]
        exact la_649 h hs hx6 hk
      rw [if_neg c12]
      by_cases c13 : c = 13
      · rw [if_pos c13]
        exact la_682 h hs hx6 hk
      rw [if_neg c13]
      by_cases c14 : c = 14
      · rw [if_pos c14]
        exact la_715 h hs hx6 hk
      rw [if_neg c14]
      by_cases c15 : c = 15
      · rw [if_pos c15]
        exact la_748 h hs hx6 hk
      rw [if_neg c15]
      by_cases c16 : c = 16
      · rw [if_pos c16]
        exact la_771 h hs hx6 hk
      rw [if_neg c16]
      by_cases c17 : c = 17
      · rw [if_pos c17]
        exact la_814 h hs hx6 hk
      rw [if_neg c17]
      by_cases c18 : c = 18
      · rw [if_pos c18]
        exact la_837 h hs hx6 hk
      rw [if_neg c18]
      by_cases c19 : c = 19
      · rw [if_pos c19]
        exact la_860 h hs hx6 hk
      rw [if_neg c19]
      by_cases c20 : c = 20
      · rw [if_pos c20]
        exact la_883 h hs hx6 hk
      rw [if_neg c20]
      by_cases c21 : c = 21
      · rw [if_pos c21]
        exact la_916 h hs hx6 hk
      rw [if_neg c21]
      by_cases c22 : c = 22
      · rw [if_pos c22]
        exact la_939 h hs hx6 hk
      rw [if_neg c22]
      by_cases c23 : c = 23
      · rw [if_pos c23]
        exact la_962 h hs hx6 hk
      rw [if_neg c23]
      by_cases c24 : c = 24
      · rw [if_pos c24]
        exact la_995 h hs hx6 hk
      rw [if_neg c24]
      by_cases c25 : c = 25
      · rw [if_pos c25]
        exact la_1018 h hs hx6 hk
      rw [if_neg c25]
      by_cases c26 : c = 26
      · rw [if_pos c26]
        exact la_1051 h hs hx6 hk
      rw [if_neg c26]
      by_cases c27 : c = 27
      · rw [if_pos c27]
        exact la_1074 h hs hx6 hk
      rw [if_neg c27]
      by_cases c28 : c = 28
      · rw [if_pos c28]
        exact la_1107 h hs hx6 hk
      rw [if_neg c28]
      by_cases c29 : c = 29
      · rw [if_pos c29]
        exact la_1120 h hs hx6 hk
      rw [if_neg c29]
      by_cases c30 : c = 30
      · rw [if_pos c30]
        exact la_1153 h hs hx6 hk
      rw [if_neg c30]
      by_cases c31 : c = 31
      · rw [if_pos c31]
        exact la_1196 h hs hx6 hk
      rw [if_neg c31]
      by_cases c32 : c = 32
      · rw [if_pos c32]
        exact la_1219 h hs hx6 hk
      rw [if_neg c32]
      by_cases c33 : c = 33
      · rw [if_pos c33]
        exact la_1242 h hs hx6 hk
      rw [if_neg c33]
      by_cases c34 : c = 34
      · rw [if_pos c34]
        exact la_1275 h hs hx6 hk
      rw [if_neg c34]
      by_cases c35 : c = 35
      · rw [if_pos c35]
        exact la_1318 h hs hx6 hk
      rw [if_neg c35]
      by_cases c36 : c = 36
      · rw [if_pos c36]
        exact la_1341 h hs hx6 hk
      rw [if_neg c36]
      by_cases c37 : c = 37
      · rw [if_pos c37]
        exact la_1384 h hs hx6 hk
      rw [if_neg c37]
      by_cases c38 : c = 38
      · rw [if_pos c38]
        exact la_1437 h hs hx6 hk
      rw [if_neg c38]
      by_cases c39 : c = 39
      · rw [if_pos c39]
        exact la_1480 h hs hx6 hk
      rw [if_neg c39]
      by_cases c40 : c = 40
      · rw [if_pos c40]
        exact la_1523 h hs hx6 hk
      rw [if_neg c40]
      by_cases c41 : c = 41
      · rw [if_pos c41]
        exact la_1566 h hs hx6 hk
      rw [if_neg c41]
      by_cases c42 : c = 42
      · rw [if_pos c42]
        exact la_1599 h hs hx6 hk
      rw [if_neg c42]
      by_cases c43 : c = 43
      · rw [if_pos c43]
        exact la_1622 h hs hx6 hk
      rw [if_neg c43]
      by_cases c44 : c = 44
      · rw [if_pos c44]
        exact la_1645 h hs hx6 hk
      rw [if_neg c44]
      by_cases c45 : c = 45
      · rw [if_pos c45]
        exact la_1668 h hs hx6 hk
      rw [if_neg c45]
      by_cases c46 : c = 46
      · rw [if_pos c46]
        exact la_1701 h hs hx6 hk
      rw [if_neg c46]
      by_cases c47 : c = 47
      · rw [if_pos c47]
        exact la_1714 h hs hx6 hk
      rw [if_neg c47]
      rw [Lx_law_1727]
      exact hk s h rfl rfl
theorem law_pure {s : jM} (h : INV s) (hs : SC s) : ∃ s', Lx_law 0 155 s = some (1, s') := by
  have hl := hs.1
  have hf : 3073 < jFU := Nat.lt_of_lt_of_le (m := 4000) (by omega) (jFU_ge (by decide))
  exact la_main 3073 jFU 0 s h hs (by omega) (by omega) (by omega) hf
