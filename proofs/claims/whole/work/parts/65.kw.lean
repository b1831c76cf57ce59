/-! kept words, printed by wip/whole/gen_kw.py -/
theorem kwd_0 : WD (jkw 0) 267316 := ⟨[8, 5, 1, 20], ⟨by decide, by decide, by decide⟩, by decide, by decide⟩
theorem sp_0 {s : jM} : Md_spelled 104 101 97 116 0 0 s = some (267316, s) := by rfl
theorem kwd_1 : WD (jkw 1) 495763 := ⟨[15, 4, 4, 19], ⟨by decide, by decide, by decide⟩, by decide, by decide⟩
theorem sp_1 {s : jM} : Md_spelled 111 100 100 115 0 0 s = some (495763, s) := by rfl
theorem kwd_2 : WD (jkw 2) 20600006 := ⟨[19, 20, 21, 6, 6], ⟨by decide, by decide, by decide⟩, by decide, by decide⟩
theorem sp_2 {s : jM} : Md_spelled 115 116 117 102 102 0 s = some (20600006, s) := by rfl
theorem kwd_3 : WD (jkw 3) 628371 := ⟨[19, 5, 20, 19], ⟨by decide, by decide, by decide⟩, by decide, by decide⟩
theorem sp_3 {s : jM} : Md_spelled 115 101 116 115 0 0 s = some (628371, s) := by rfl
theorem kwd_4 : WD (jkw 4) 3657363 := ⟨[3, 15, 19, 20, 19], ⟨by decide, by decide, by decide⟩, by decide, by decide⟩
theorem sp_4 {s : jM} : Md_spelled 99 111 115 116 115 0 s = some (3657363, s) := by rfl
theorem kwd_5 : WD (jkw 5) 20593771 := ⟨[19, 20, 15, 3, 11], ⟨by decide, by decide, by decide⟩, by decide, by decide⟩
theorem sp_5 {s : jM} : Md_spelled 115 116 111 99 107 0 s = some (20593771, s) := by rfl
theorem kwd_6 : WD (jkw 6) 17171557 := ⟨[16, 12, 1, 3, 5], ⟨by decide, by decide, by decide⟩, by decide, by decide⟩
theorem sp_6 {s : jM} : Md_spelled 112 108 97 99 101 0 s = some (17171557, s) := by rfl
theorem kwd_7 : WD (jkw 7) 755083 := ⟨[23, 1, 12, 11], ⟨by decide, by decide, by decide⟩, by decide, by decide⟩
theorem sp_7 {s : jM} : Md_spelled 119 97 108 107 0 0 s = some (755083, s) := by rfl
theorem kwd_8 : WD (jkw 8) 645967027 := ⟨[19, 8, 1, 11, 5, 19], ⟨by decide, by decide, by decide⟩, by decide, by decide⟩
theorem sp_8 {s : jM} : Md_spelled 115 104 97 107 101 115 s = some (645967027, s) := by rfl
theorem kwd_9 : WD (jkw 9) 14144900 := ⟨[13, 15, 21, 12, 4], ⟨by decide, by decide, by decide⟩, by decide, by decide⟩
theorem sp_9 {s : jM} : Md_spelled 109 111 117 108 100 0 s = some (14144900, s) := by rfl
theorem kwd_10 : WD (jkw 10) 271592 := ⟨[8, 9, 7, 8], ⟨by decide, by decide, by decide⟩, by decide, by decide⟩
theorem sp_10 {s : jM} : Md_spelled 104 105 103 104 0 0 s = some (271592, s) := by rfl
theorem kwd_11 : WD (jkw 11) 8892563 := ⟨[8, 15, 12, 4, 19], ⟨by decide, by decide, by decide⟩, by decide, by decide⟩
theorem sp_11 {s : jM} : Md_spelled 104 111 108 100 115 0 s = some (8892563, s) := by rfl
theorem kwd_12 : WD (jkw 12) 52 := ⟨[1, 20], ⟨by decide, by decide, by decide⟩, by decide, by decide⟩
theorem sp_12 {s : jM} : Md_spelled 97 116 0 0 0 0 s = some (52, s) := by rfl
theorem kwd_13 : WD (jkw 13) 540338 := ⟨[16, 15, 21, 18], ⟨by decide, by decide, by decide⟩, by decide, by decide⟩
theorem sp_13 {s : jM} : Md_spelled 112 111 117 114 0 0 s = some (540338, s) := by rfl
theorem kwd_14 : WD (jkw 14) 736548 := ⟨[22, 15, 9, 4], ⟨by decide, by decide, by decide⟩, by decide, by decide⟩
theorem sp_14 {s : jM} : Md_spelled 118 111 105 100 0 0 s = some (736548, s) := by rfl
theorem kwd_15 : WD (jkw 15) 12008555 := ⟨[11, 14, 15, 3, 11], ⟨by decide, by decide, by decide⟩, by decide, by decide⟩
theorem sp_15 {s : jM} : Md_spelled 107 110 111 99 107 0 s = some (12008555, s) := by rfl
theorem kwd_16 : WD (jkw 16) 21484648 := ⟨[20, 15, 21, 3, 8], ⟨by decide, by decide, by decide⟩, by decide, by decide⟩
theorem sp_16 {s : jM} : Md_spelled 116 111 117 99 104 0 s = some (21484648, s) := by rfl
theorem kwd_17 : WD (jkw 17) 3197529 := ⟨[3, 1, 18, 18, 25], ⟨by decide, by decide, by decide⟩, by decide, by decide⟩
theorem sp_17 {s : jM} : Md_spelled 99 97 114 114 121 0 s = some (3197529, s) := by rfl
theorem kwd_18 : WD (jkw 18) 446125701 := ⟨[13, 9, 14, 21, 20, 5], ⟨by decide, by decide, by decide⟩, by decide, by decide⟩
theorem sp_18 {s : jM} : Md_spelled 109 105 110 117 116 101 s = some (446125701, s) := by rfl
theorem kwd_19 : WD (jkw 19) 1497 := ⟨[1, 14, 25], ⟨by decide, by decide, by decide⟩, by decide, by decide⟩
theorem sp_19 {s : jM} : Md_spelled 97 110 121 0 0 0 s = some (1497, s) := by rfl
theorem kwd_20 : WD (jkw 20) 762030 := ⟨[23, 8, 5, 14], ⟨by decide, by decide, by decide⟩, by decide, by decide⟩
theorem sp_20 {s : jM} : Md_spelled 119 104 101 110 0 0 s = some (762030, s) := by rfl
theorem kwd_21 : WD (jkw 21) 658552979 := ⟨[19, 20, 1, 14, 4, 19], ⟨by decide, by decide, by decide⟩, by decide, by decide⟩
theorem sp_21 {s : jM} : Md_spelled 115 116 97 110 100 115 s = some (658552979, s) := by rfl
theorem kwd_22 : WD (jkw 22) 206413 := ⟨[6, 9, 18, 13], ⟨by decide, by decide, by decide⟩, by decide, by decide⟩
theorem sp_22 {s : jM} : Md_spelled 102 105 114 109 0 0 s = some (206413, s) := by rfl
theorem kwd_23 : WD (jkw 23) 409072 := ⟨[12, 15, 15, 16], ⟨by decide, by decide, by decide⟩, by decide, by decide⟩
theorem sp_23 {s : jM} : Md_spelled 108 111 111 112 0 0 s = some (409072, s) := by rfl
theorem kwd_24 : WD (jkw 24) 5572 := ⟨[5, 14, 4], ⟨by decide, by decide, by decide⟩, by decide, by decide⟩
theorem sp_24 {s : jM} : Md_spelled 101 110 100 0 0 0 s = some (5572, s) := by rfl
theorem kwd_25 : WD (jkw 25) 643568 := ⟨[19, 20, 15, 16], ⟨by decide, by decide, by decide⟩, by decide, by decide⟩
theorem sp_25 {s : jM} : Md_spelled 115 116 111 112 0 0 s = some (643568, s) := by rfl
theorem WD_b {x y : Int} (h : WD x y) : 0 < x ∧ x < 9223372036854775808 ∧ 0 < y ∧ y < 1099511627776 := by
  obtain ⟨l, ⟨l1, l2, l3⟩, rfl, rfl⟩ := h
  have q : l.length ≠ 0 := fun z => l1 (List.length_eq_zero_iff.1 z)
  obtain ⟨⟨-, a⟩, -, b, -, c⟩ := enc_inv l.length l rfl l3
  have d : (32 : Int) ^ l.length ≤ 32 ^ 8 := by
    have := Nat.pow_le_pow_right (n := 32) (by decide) l2
    have c2 : ((32 ^ l.length : Nat) : Int) ≤ ((32 ^ 8 : Nat) : Int) := by omega
    simpa using c2
  have e : (32 : Int) ^ 8 = 1099511627776 := by decide
  have k : 0 < enc8 l ∧ 0 < enc5 l ∧ enc5 l < 1099511627776 := ⟨a q, b q, by omega⟩
  refine ⟨k.1, ?_, k.2⟩
  clear a b c d e q k
  obtain ⟨l', z, rfl⟩ : ∃ l' d, l = l' ++ [d] := ⟨l.dropLast, l.getLast l1, (List.dropLast_concat_getLast _).symm⟩
  have hd := l3 z (by simp)
  have := enc8_b (l := l') (by rw [List.length_append] at l2; simp at l2; omega) (fun x hx => l3 x (List.mem_append_left _ hx))
  rw [enc8_s]
  omega
theorem TK_5 {s u : jM} (h : TK s u) : s 11 4 = u 155 14 ∧ 0 ≤ s 11 4 ∧ s 11 4 ≤ 4 ∧ -1 ≤ s 11 5 ∧ s 11 5 ≤ 25 := by
  obtain ⟨-, -, -, -, -, -, k, d⟩ := h
  refine ⟨k, ?_⟩
  rcases d with ⟨a, b⟩ | ⟨a, b⟩ | ⟨a, b, -⟩ | ⟨a, b, -⟩ | ⟨a, b⟩
  · omega
  · rcases b with ⟨l, -, -, -, -, c⟩ | ⟨-, -, -, -, c⟩
    · unfold KW at c
      omega
    · omega
  · omega
  · omega
  · omega
theorem isWord_eq {s u : jM} (h : TK s u) {i y : Int} (hi : 0 ≤ i ∧ i < 26) (hy : WD (jkw i) y) : Md_isWord 155 y u = some (if s 11 5 = i then 1 else 0, u) := by
  obtain ⟨t1, t2, t3, -⟩ := TK_5 h
  obtain ⟨-, -, -, -, -, -, -, d⟩ := h
  have yb := WD_b hy
  rw [Md_isWord, ← t1, w32_id (x := s 11 4) (by omega) (by omega)]
  rcases d with ⟨a, b⟩ | ⟨a, b⟩ | ⟨a, b, -⟩ | ⟨a, b, -⟩ | ⟨a, b⟩
  · rw [if_neg (by omega), if_neg (by omega)]
  · rw [if_pos a]
    rcases b with ⟨l, l1, l2, l3, l4, c⟩ | ⟨-, -, -, c, e⟩
    · have w : WD (s 11 7) (u 155 19) := ⟨l, l1, l2, l3⟩
      have wb := WD_b w
      have e : (w32 (jlcmp (u 155 19) y) = 0) = (s 11 5 = i) := by
        rw [lcmp_eq, w64_id (by omega) (by omega), w64_id (by omega) (by omega), ← WD_iff w hy]
        exact propext (KW_iff c hi).symm
      simp only [e]
      split <;> rfl
    · have e : (w32 (jlcmp (u 155 19) y) = 0) = False := by
        rw [lcmp_eq, w64_id (by omega) (by omega), w64_id (by omega) (by omega)]
        exact eq_false (by omega)
      simp only [e, if_false]
      rw [if_neg (by omega)]
  · rw [if_neg (by omega), if_neg (by omega)]
  · rw [if_neg (by omega), if_neg (by omega)]
  · rw [if_neg (by omega), if_neg (by omega)]
theorem b01 {p : Prop} [Decidable p] : ((if p then (1 : Int) else 0) = 0 ∨ (if p then (1 : Int) else 0) = 1) := by split <;> simp
theorem kq_0 {s u : jM} (h : TK s u) : Md_isWord 155 267316 u = some (if s 11 5 = 0 then 1 else 0, u) := isWord_eq h (by omega) kwd_0
theorem ki_0 {s u : jM} (h : TK s u) : Md_isHeat 155 u = some (if s 11 5 = 0 then 1 else 0, u) := by
  rw [Md_isHeat, sp_0, jb_t, kq_0 h, jb_t, if_pos b01]
theorem kq_1 {s u : jM} (h : TK s u) : Md_isWord 155 495763 u = some (if s 11 5 = 1 then 1 else 0, u) := isWord_eq h (by omega) kwd_1
theorem ki_1 {s u : jM} (h : TK s u) : Md_isOdds 155 u = some (if s 11 5 = 1 then 1 else 0, u) := by
  rw [Md_isOdds, sp_1, jb_t, kq_1 h, jb_t, if_pos b01]
theorem kq_2 {s u : jM} (h : TK s u) : Md_isWord 155 20600006 u = some (if s 11 5 = 2 then 1 else 0, u) := isWord_eq h (by omega) kwd_2
theorem ki_2 {s u : jM} (h : TK s u) : Md_isStuff 155 u = some (if s 11 5 = 2 then 1 else 0, u) := by
  rw [Md_isStuff, sp_2, jb_t, kq_2 h, jb_t, if_pos b01]
theorem kq_3 {s u : jM} (h : TK s u) : Md_isWord 155 628371 u = some (if s 11 5 = 3 then 1 else 0, u) := isWord_eq h (by omega) kwd_3
theorem ki_3 {s u : jM} (h : TK s u) : Md_isSets 155 u = some (if s 11 5 = 3 then 1 else 0, u) := by
  rw [Md_isSets, sp_3, jb_t, kq_3 h, jb_t, if_pos b01]
theorem kq_4 {s u : jM} (h : TK s u) : Md_isWord 155 3657363 u = some (if s 11 5 = 4 then 1 else 0, u) := isWord_eq h (by omega) kwd_4
theorem ki_4 {s u : jM} (h : TK s u) : Md_isCosts 155 u = some (if s 11 5 = 4 then 1 else 0, u) := by
  rw [Md_isCosts, sp_4, jb_t, kq_4 h, jb_t, if_pos b01]
theorem kq_5 {s u : jM} (h : TK s u) : Md_isWord 155 20593771 u = some (if s 11 5 = 5 then 1 else 0, u) := isWord_eq h (by omega) kwd_5
theorem ki_5 {s u : jM} (h : TK s u) : Md_isStock 155 u = some (if s 11 5 = 5 then 1 else 0, u) := by
  rw [Md_isStock, sp_5, jb_t, kq_5 h, jb_t, if_pos b01]
theorem kq_6 {s u : jM} (h : TK s u) : Md_isWord 155 17171557 u = some (if s 11 5 = 6 then 1 else 0, u) := isWord_eq h (by omega) kwd_6
theorem ki_6 {s u : jM} (h : TK s u) : Md_isPlace 155 u = some (if s 11 5 = 6 then 1 else 0, u) := by
  rw [Md_isPlace, sp_6, jb_t, kq_6 h, jb_t, if_pos b01]
theorem kq_7 {s u : jM} (h : TK s u) : Md_isWord 155 755083 u = some (if s 11 5 = 7 then 1 else 0, u) := isWord_eq h (by omega) kwd_7
theorem ki_7 {s u : jM} (h : TK s u) : Md_isWalk 155 u = some (if s 11 5 = 7 then 1 else 0, u) := by
  rw [Md_isWalk, sp_7, jb_t, kq_7 h, jb_t, if_pos b01]
theorem kq_8 {s u : jM} (h : TK s u) : Md_isWord 155 645967027 u = some (if s 11 5 = 8 then 1 else 0, u) := isWord_eq h (by omega) kwd_8
theorem ki_8 {s u : jM} (h : TK s u) : Md_isShakes 155 u = some (if s 11 5 = 8 then 1 else 0, u) := by
  rw [Md_isShakes, sp_8, jb_t, kq_8 h, jb_t, if_pos b01]
theorem kq_9 {s u : jM} (h : TK s u) : Md_isWord 155 14144900 u = some (if s 11 5 = 9 then 1 else 0, u) := isWord_eq h (by omega) kwd_9
theorem ki_9 {s u : jM} (h : TK s u) : Md_isMould 155 u = some (if s 11 5 = 9 then 1 else 0, u) := by
  rw [Md_isMould, sp_9, jb_t, kq_9 h, jb_t, if_pos b01]
theorem kq_10 {s u : jM} (h : TK s u) : Md_isWord 155 271592 u = some (if s 11 5 = 10 then 1 else 0, u) := isWord_eq h (by omega) kwd_10
theorem ki_10 {s u : jM} (h : TK s u) : Md_isHigh 155 u = some (if s 11 5 = 10 then 1 else 0, u) := by
  rw [Md_isHigh, sp_10, jb_t, kq_10 h, jb_t, if_pos b01]
theorem kq_11 {s u : jM} (h : TK s u) : Md_isWord 155 8892563 u = some (if s 11 5 = 11 then 1 else 0, u) := isWord_eq h (by omega) kwd_11
theorem ki_11 {s u : jM} (h : TK s u) : Md_isHolds 155 u = some (if s 11 5 = 11 then 1 else 0, u) := by
  rw [Md_isHolds, sp_11, jb_t, kq_11 h, jb_t, if_pos b01]
theorem kq_12 {s u : jM} (h : TK s u) : Md_isWord 155 52 u = some (if s 11 5 = 12 then 1 else 0, u) := isWord_eq h (by omega) kwd_12
theorem ki_12 {s u : jM} (h : TK s u) : Md_isAt 155 u = some (if s 11 5 = 12 then 1 else 0, u) := by
  rw [Md_isAt, sp_12, jb_t, kq_12 h, jb_t, if_pos b01]
theorem kq_13 {s u : jM} (h : TK s u) : Md_isWord 155 540338 u = some (if s 11 5 = 13 then 1 else 0, u) := isWord_eq h (by omega) kwd_13
theorem kq_14 {s u : jM} (h : TK s u) : Md_isWord 155 736548 u = some (if s 11 5 = 14 then 1 else 0, u) := isWord_eq h (by omega) kwd_14
theorem kq_15 {s u : jM} (h : TK s u) : Md_isWord 155 12008555 u = some (if s 11 5 = 15 then 1 else 0, u) := isWord_eq h (by omega) kwd_15
theorem kq_16 {s u : jM} (h : TK s u) : Md_isWord 155 21484648 u = some (if s 11 5 = 16 then 1 else 0, u) := isWord_eq h (by omega) kwd_16
theorem kq_17 {s u : jM} (h : TK s u) : Md_isWord 155 3197529 u = some (if s 11 5 = 17 then 1 else 0, u) := isWord_eq h (by omega) kwd_17
theorem kq_18 {s u : jM} (h : TK s u) : Md_isWord 155 446125701 u = some (if s 11 5 = 18 then 1 else 0, u) := isWord_eq h (by omega) kwd_18
theorem kq_19 {s u : jM} (h : TK s u) : Md_isWord 155 1497 u = some (if s 11 5 = 19 then 1 else 0, u) := isWord_eq h (by omega) kwd_19
theorem kq_20 {s u : jM} (h : TK s u) : Md_isWord 155 762030 u = some (if s 11 5 = 20 then 1 else 0, u) := isWord_eq h (by omega) kwd_20
theorem kq_21 {s u : jM} (h : TK s u) : Md_isWord 155 658552979 u = some (if s 11 5 = 21 then 1 else 0, u) := isWord_eq h (by omega) kwd_21
theorem kq_22 {s u : jM} (h : TK s u) : Md_isWord 155 206413 u = some (if s 11 5 = 22 then 1 else 0, u) := isWord_eq h (by omega) kwd_22
theorem kq_23 {s u : jM} (h : TK s u) : Md_isWord 155 409072 u = some (if s 11 5 = 23 then 1 else 0, u) := isWord_eq h (by omega) kwd_23
theorem kq_24 {s u : jM} (h : TK s u) : Md_isWord 155 5572 u = some (if s 11 5 = 24 then 1 else 0, u) := isWord_eq h (by omega) kwd_24
theorem ki_24 {s u : jM} (h : TK s u) : Md_isEnd 155 u = some (if s 11 5 = 24 then 1 else 0, u) := by
  rw [Md_isEnd, sp_24, jb_t, kq_24 h, jb_t, if_pos b01]
theorem kq_25 {s u : jM} (h : TK s u) : Md_isWord 155 643568 u = some (if s 11 5 = 25 then 1 else 0, u) := isWord_eq h (by omega) kwd_25
theorem w32_if {p : Prop} [Decidable p] {s : Option (Int × jM)} {t : Option (Int × jM)} : (if w32 (if p then (1 : Int) else 0) = 0 then s else t) = if p then t else s := by
  by_cases q : p
  · rw [if_pos q, if_pos q, if_neg (by decide)]
  · rw [if_neg q, if_neg q, if_pos (by decide)]
theorem stepWord_eq {s u : jM} (h : TK s u) : Md_stepWord 155 u = some (if s 11 5 = 13 then 0 else if s 11 5 = 14 then 1 else if s 11 5 = 15 then 2 else if s 11 5 = 16 then 3 else if s 11 5 = 17 then 4 else if s 11 5 = 18 then 5 else if s 11 5 = 0 then 6 else if s 11 5 = 19 then 7 else if s 11 5 = 20 then 8 else if s 11 5 = 23 then 9 else if s 11 5 = 25 then 10 else -1, u) := by
  simp only [Md_stepWord, sp_13, sp_14, sp_15, sp_16, sp_17, sp_18, sp_19, sp_20, sp_23, sp_25, jb_t, kq_13 h, kq_14 h, kq_15 h, kq_16 h, kq_17 h, kq_18 h, ki_0 h, kq_19 h, kq_20 h, kq_23 h, kq_25 h, w32_if]
  generalize s 11 5 = v
  split
  · rfl
  split
  · rfl
  split
  · rfl
  split
  · rfl
  split
  · rfl
  split
  · rfl
  split
  · rfl
  split
  · rfl
  split
  · rfl
  split
  · rfl
  split
  · rfl
  · rfl
theorem testWord_eq {s u : jM} (h : TK s u) : Md_testWord 155 u = some (if s 11 5 = 21 then 0 else if s 11 5 = 22 then 1 else if s 11 5 = 12 then 2 else -1, u) := by
  simp only [Md_testWord, sp_21, sp_22, jb_t, kq_21 h, kq_22 h, ki_12 h, w32_if]
  generalize s 11 5 = v
  split
  · rfl
  split
  · rfl
  split
  · rfl
  · rfl
theorem isKept_eq {s u : jM} (h : TK s u) : Md_isKept 155 u = some (if s 11 5 = -1 then 0 else 1, u) := by
  have b := (TK_5 h).2.2.2
  simp only [Md_isKept, jb_t, ki_1 h, ki_2 h, ki_3 h, ki_4 h, ki_5 h, ki_6 h, ki_7 h, ki_8 h, ki_9 h, ki_10 h, ki_11 h, stepWord_eq h, testWord_eq h, ki_24 h, w32_if]
  generalize s 11 5 = v at b
  rcases (by omega : v = -1 ∨ v = 0 ∨ v = 1 ∨ v = 2 ∨ v = 3 ∨ v = 4 ∨ v = 5 ∨ v = 6 ∨ v = 7 ∨ v = 8 ∨ v = 9 ∨ v = 10 ∨ v = 11 ∨ v = 12 ∨ v = 13 ∨ v = 14 ∨ v = 15 ∨ v = 16 ∨ v = 17 ∨ v = 18 ∨ v = 19 ∨ v = 20 ∨ v = 21 ∨ v = 22 ∨ v = 23 ∨ v = 24 ∨ v = 25) with q | q | q | q | q | q | q | q | q | q | q | q | q | q | q | q | q | q | q | q | q | q | q | q | q | q | q <;> subst q <;> rfl
