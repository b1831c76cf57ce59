/-! TEXTS: bits, words -/
theorem enc8_s {l : List Int} {d : Int} : enc8 (l ++ [d]) = 256 * enc8 l + (96 + d) := by
  unfold enc8; rw [List.foldl_append]; rfl
theorem enc5_s {l : List Int} {d : Int} : enc5 (l ++ [d]) = 32 * enc5 l + d := by
  unfold enc5; rw [List.foldl_append]; rfl
theorem enc_inv : ∀ (n : Nat) (l : List Int), l.length = n → (∀ d ∈ l, 1 ≤ d ∧ d ≤ 26) → (0 ≤ enc8 l ∧ (n ≠ 0 → 0 < enc8 l)) ∧ 0 ≤ enc5 l ∧ (n ≠ 0 → 0 < enc5 l) ∧ enc8 l < 256 ^ n ∧ enc5 l < 32 ^ n := by
  intro n
  induction n with
  | zero =>
    intro l h _
    have e : l = [] := List.length_eq_zero_iff.1 h
    subst e
    refine ⟨⟨Int.le_refl 0, fun h => absurd rfl h⟩, Int.le_refl 0, fun h => absurd rfl h, by decide, by decide⟩
  | succ n ih =>
    intro l h hl
    obtain ⟨l', d, rfl⟩ : ∃ l' d, l = l' ++ [d] := ⟨l.dropLast, l.getLast (by intro e; rw [e] at h; exact absurd h (by simp)), (List.dropLast_concat_getLast _).symm⟩
    have h1 : l'.length = n := by rw [List.length_append] at h; simp at h; exact h
    have hd := hl d (by simp)
    obtain ⟨⟨a, -⟩, b, -, c, e⟩ := ih l' h1 (fun x hx => hl x (List.mem_append_left _ hx))
    rw [enc8_s, enc5_s, Int.pow_succ, Int.pow_succ]
    refine ⟨⟨by omega, fun _ => by omega⟩, by omega, fun _ => by omega, by omega, by omega⟩
theorem enc_eq : ∀ (n : Nat) (l m : List Int), l.length ≤ n → m.length ≤ n → (∀ d ∈ l, 1 ≤ d ∧ d ≤ 26) → (∀ d ∈ m, 1 ≤ d ∧ d ≤ 26) → (enc8 l = enc8 m → l = m) ∧ (enc5 l = enc5 m → l = m) := by
  intro n
  induction n with
  | zero =>
    intro l m h h2 _ _
    have e : l = [] := List.length_eq_zero_iff.1 (by omega)
    have e2 : m = [] := List.length_eq_zero_iff.1 (by omega)
    rw [e, e2]
    exact ⟨fun _ => rfl, fun _ => rfl⟩
  | succ n ih =>
    intro l m h h2 hl hm
    by_cases el : l = []
    · by_cases em : m = []
      · rw [el, em]; exact ⟨fun _ => rfl, fun _ => rfl⟩
      · have q : m.length ≠ 0 := fun z => em (List.length_eq_zero_iff.1 z)
        obtain ⟨⟨-, a⟩, -, b, -⟩ := enc_inv m.length m rfl hm
        have a := a q
        have b := b q
        rw [el]
        exact ⟨fun z => by have z : (0 : Int) = enc8 m := z; omega, fun z => by have z : (0 : Int) = enc5 m := z; omega⟩
    · by_cases em : m = []
      · have q : l.length ≠ 0 := fun z => el (List.length_eq_zero_iff.1 z)
        obtain ⟨⟨-, a⟩, -, b, -⟩ := enc_inv l.length l rfl hl
        have a := a q
        have b := b q
        rw [em]
        exact ⟨fun z => by have z : enc8 l = (0 : Int) := z; omega, fun z => by have z : enc5 l = (0 : Int) := z; omega⟩
      · obtain ⟨l', d, rfl⟩ : ∃ l' d, l = l' ++ [d] := ⟨l.dropLast, l.getLast el, (List.dropLast_concat_getLast _).symm⟩
        obtain ⟨m', e, rfl⟩ : ∃ l' d, m = l' ++ [d] := ⟨m.dropLast, m.getLast em, (List.dropLast_concat_getLast _).symm⟩
        have hd := hl d (by simp)
        have he := hm e (by simp)
        have k1 : l'.length ≤ n := by rw [List.length_append] at h; simp at h; exact h
        have k2 : m'.length ≤ n := by rw [List.length_append] at h2; simp at h2; exact h2
        obtain ⟨i1, i2⟩ := ih l' m' k1 k2 (fun x hx => hl x (List.mem_append_left _ hx)) (fun x hx => hm x (List.mem_append_left _ hx))
        rw [enc8_s, enc8_s, enc5_s, enc5_s]
        refine ⟨fun z => ?_, fun z => ?_⟩
        · have a : d = e := by omega
          rw [i1 (by omega), a]
        · have a : d = e := by omega
          rw [i2 (by omega), a]
theorem WD_iff {x y x' y' : Int} (h : WD x y) (h' : WD x' y') : x = x' ↔ y = y' := by
  obtain ⟨l, ⟨-, l2, l3⟩, rfl, rfl⟩ := h
  obtain ⟨m, ⟨-, m2, m3⟩, rfl, rfl⟩ := h'
  obtain ⟨a, b⟩ := enc_eq 8 l m l2 m2 l3 m3
  exact ⟨fun z => by rw [a z], fun z => by rw [b z]⟩
theorem pack8 {x b : Int} (hx : 0 ≤ x ∧ x < 36028797018963968) (hb : 0 ≤ b ∧ b < 256) : jlor (jlshl x 8) b = 256 * x + b := by
  obtain ⟨n, rfl⟩ : ∃ n : Nat, x = n := ⟨x.toNat, by omega⟩
  obtain ⟨m, rfl⟩ : ∃ m : Nat, b = m := ⟨b.toNat, by omega⟩
  have hn : n < 2 ^ 55 := by omega
  have hm : m < 2 ^ 8 := by omega
  have e0 : ((Int32.ofInt 8).toInt64 &&& 63) = 8 := by decide +kernel
  have e3 : ((8 : Int64).toBitVec.smod 64) = 8#64 := by decide +kernel
  have o : ∀ k : Nat, k < 2 ^ 63 → (Int64.ofInt k).toBitVec = BitVec.ofNat 64 k := fun k _ => by
    show BitVec.ofInt 64 k = _
    exact BitVec.ofInt_natCast 64 k
  have ti : ∀ k : Nat, k < 2 ^ 63 → (BitVec.ofNat 64 k).toInt = k := fun k hk => by
    rw [BitVec.toInt_eq_toNat_of_lt]
    · rw [BitVec.toNat_ofNat, Nat.mod_eq_of_lt (by omega)]
    · rw [BitVec.toNat_ofNat, Nat.mod_eq_of_lt (by omega)]; omega
  have e1 : jlshl n 8 = ((256 * n : Nat) : Int) := by
    unfold jlshl
    rw [e0, ← Int64.toInt_toBitVec, Int64.toBitVec_shiftLeft, e3, o n (by omega)]
    have : BitVec.ofNat 64 n <<< (8#64) = BitVec.ofNat 64 (256 * n) := by
      apply BitVec.eq_of_toNat_eq
      rw [BitVec.shiftLeft_eq', BitVec.toNat_shiftLeft]
      simp only [BitVec.toNat_ofNat, Nat.shiftLeft_eq]
      have e4 : 8 % 2 ^ 64 = 8 := by decide
      have e5 : n % 2 ^ 64 = n := Nat.mod_eq_of_lt (by omega)
      rw [e4, e5, Nat.mul_comm n]
    rw [this, ti _ (by omega)]
  rw [e1]
  unfold jlor
  rw [← Int64.toInt_toBitVec, Int64.toBitVec_or, o _ (by omega), o _ (by omega)]
  have : BitVec.ofNat 64 (256 * n) ||| BitVec.ofNat 64 m = BitVec.ofNat 64 (256 * n + m) := by
    apply BitVec.eq_of_toNat_eq
    have := Nat.shiftLeft_add_eq_or_of_lt hm n
    rw [Nat.shiftLeft_eq] at this
    simp only [BitVec.toNat_or, BitVec.toNat_ofNat]
    rw [Nat.mod_eq_of_lt (by omega), Nat.mod_eq_of_lt (by omega), Nat.mod_eq_of_lt (by omega), Nat.mul_comm 256 n]
    exact this.symm
  rw [this, ti _ (by omega)]
  omega
theorem and255 {b : Int} (h : -128 ≤ b ∧ b ≤ 127) : jiand b 255 = if b < 0 then b + 256 else b := by
  have key : ∀ n : Fin 256, jiand ((n : Int) - 128) 255 = if (n : Int) - 128 < 0 then (n : Int) - 128 + 256 else (n : Int) - 128 := by decide +kernel
  have := key ⟨(b + 128).toNat, by omega⟩
  have e : (((b + 128).toNat : Nat) : Int) - 128 = b := by omega
  simp only [e] at this
  exact this
theorem enc8_b {l : List Int} (h : l.length ≤ 7) (hl : ∀ d ∈ l, 1 ≤ d ∧ d ≤ 26) : 0 ≤ enc8 l ∧ enc8 l < 36028797018963968 := by
  have key : ∀ (n : Nat) (l : List Int), l.length = n → (∀ d ∈ l, 1 ≤ d ∧ d ≤ 26) → 0 ≤ enc8 l ∧ 2 * enc8 l < 256 ^ n := by
    intro n
    induction n with
    | zero =>
      intro l h _
      have e : l = [] := List.length_eq_zero_iff.1 h
      subst e
      exact ⟨Int.le_refl 0, by decide⟩
    | succ n ih =>
      intro l h hl
      have ne : l ≠ [] := fun e => by rw [e] at h; exact absurd h (by simp)
      obtain ⟨l', d, rfl⟩ : ∃ l' d, l = l' ++ [d] := ⟨l.dropLast, l.getLast ne, (List.dropLast_concat_getLast _).symm⟩
      have h1 : l'.length = n := by rw [List.length_append] at h; simp at h; exact h
      have hd := hl d (by simp)
      obtain ⟨a, b⟩ := ih l' h1 (fun x hx => hl x (List.mem_append_left _ hx))
      rw [enc8_s, Int.pow_succ]
      have q : 2 * enc8 l' + 1 ≤ 256 ^ n := b
      refine ⟨by omega, ?_⟩
      have p : n = 0 ∨ 2 * enc8 l' + 2 ≤ 256 ^ n := by
        rcases n with _ | n
        · exact Or.inl rfl
        · right
          rw [Int.pow_succ] at b ⊢
          omega
      rcases p with p | p
      · subst p
        have e : l' = [] := List.length_eq_zero_iff.1 h1
        subst e
        show 2 * (256 * (0 : Int) + (96 + d)) < 1 * 256
        omega
      · omega
  obtain ⟨a, b⟩ := key l.length l rfl hl
  have c : (256 : Int) ^ l.length ≤ 256 ^ 7 := by
    have := Nat.pow_le_pow_right (n := 256) (by decide) h
    have c2 : ((256 ^ l.length : Nat) : Int) ≤ ((256 ^ 7 : Nat) : Int) := by omega
    simpa using c2
  have d : (256 : Int) ^ 7 = 72057594037927936 := by decide
  exact ⟨a, by omega⟩
/-! kept words -/
def KW (x v : Int) : Prop := (v = -1 ∧ ∀ j, 0 ≤ j → j < 26 → jkw j ≠ x) ∨ (0 ≤ v ∧ v < 26 ∧ jkw v = x)
theorem kw_inj {i j : Int} (hi : 0 ≤ i ∧ i < 26) (hj : 0 ≤ j ∧ j < 26) (h : jkw i = jkw j) : i = j := by
  have key : ∀ a b : Fin 26, jkws.getD a 0 = jkws.getD b 0 → a = b := by decide +kernel
  have := key ⟨i.toNat, by omega⟩ ⟨j.toNat, by omega⟩ h
  have := congrArg Fin.val this
  have e : i.toNat = j.toNat := this
  omega
theorem kw_b {i : Int} (hi : 0 ≤ i ∧ i < 26) : 0 < jkw i ∧ jkw i < 9223372036854775808 := by
  have key : ∀ a : Fin 26, 0 < jkws.getD a 0 ∧ jkws.getD a 0 < 9223372036854775808 := by decide +kernel
  exact key ⟨i.toNat, by omega⟩
theorem KW_iff {x v i : Int} (h : KW x v) (hi : 0 ≤ i ∧ i < 26) : v = i ↔ x = jkw i := by
  rcases h with ⟨a, b⟩ | ⟨a, b, c⟩
  · exact ⟨fun z => by omega, fun z => absurd z.symm (b i hi.1 hi.2)⟩
  · exact ⟨fun z => by rw [← z, c], fun z => kw_inj ⟨a, b⟩ hi (by rw [c, z])⟩
/-- a long that the packed word may be -/
theorem scan88 {x : Int} (hx : i64 x) : ∀ (d f i : Nat) (s : jM), i + d = 26 → d < f → s 11 7 = x → ((s 11 5 = -1 ∧ ∀ j, 0 ≤ j → j < (i : Int) → jkw j ≠ x) ∨ (0 ≤ s 11 5 ∧ s 11 5 < 26 ∧ jkw (s 11 5) = x)) → ∃ v, Te_scanWord_88 f 11 i s = some (0, jup s 11 5 v) ∧ KW x v := by
  intro d
  induction d with
  | zero =>
    intro f i s h1 h2 h3 h4
    obtain ⟨f, rfl⟩ : ∃ g, f = g + 1 := ⟨f - 1, by omega⟩
    have e : i = 26 := by omega
    subst e
    refine ⟨s 11 5, ?_, h4⟩
    have e : jup s 11 5 (s 11 5) = s := by
      funext a b
      rw [jup_at]
      by_cases q : a = 11 ∧ b = 5
      · rw [if_pos q, q.1, q.2]
      · rw [if_neg q]
    rw [Te_scanWord_88, if_neg (by decide), e]
  | succ d ih =>
    intro f i s h1 h2 h3 h4
    obtain ⟨f, rfl⟩ : ∃ g, f = g + 1 := ⟨f - 1, by omega⟩
    have c1 : (i : Int) < 26 := by omega
    have c2 : (0 : Int) ≤ i ∧ (i : Int) < 26 := by omega
    have c3 : ((i + 1 : Nat) : Int) = (i : Int) + 1 := by omega
    have c4 : i < 1000 := by omega
    have kb := kw_b c2
    have hd : Te_scanWord_88 (f + 1) 11 i s = if jkw i = x then Te_scanWord_88 f 11 ((i : Int) + 1) (jup s 11 5 i) else Te_scanWord_88 f 11 ((i : Int) + 1) s := by
      rw [Te_scanWord_88, w32n c4, if_pos c1, if_pos c2, h3]
      have : (w32 (jlcmp (jkw i) x) = 0) = (jkw i = x) := by
        rw [lcmp_eq, w64_id (by omega) (by omega), i64_w hx]
      simp only [this]
    rw [hd]
    by_cases q : jkw i = x
    · rw [if_pos q]
      obtain ⟨v, v1, v2⟩ := ih f (i + 1) (jup s 11 5 i) (by omega) (by omega) (by rw [u_ne (by omega)]; exact h3) (Or.inr (by rw [u_eq ⟨rfl, rfl⟩]; exact ⟨c2.1, c2.2, q⟩))
      rw [c3, u_u] at v1
      exact ⟨v, v1, v2⟩
    · rw [if_neg q]
      obtain ⟨v, v1, v2⟩ := ih f (i + 1) s (by omega) (by omega) h3 (by
        rcases h4 with ⟨a, b⟩ | z
        · refine Or.inl ⟨a, fun j j1 j2 => ?_⟩
          by_cases y : j = i
          · rw [y]; exact q
          · exact b j j1 (by omega)
        · exact Or.inr z)
      rw [c3] at v1
      exact ⟨v, v1, v2⟩
