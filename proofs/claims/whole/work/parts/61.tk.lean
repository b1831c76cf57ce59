/-! TEXTS: bits, words -/
theorem enc8_s {l : List Int} {d : Int} : enc8 (l ++ [d]) = 256 * enc8 l + (96 + d) := by
  unfold enc8; rw [List.foldl_append]; rfl
theorem enc5_s {l : List Int} {d : Int} : enc5 (l ++ [d]) = 32 * enc5 l + d := by
  unfold enc5; rw [List.foldl_append]; rfl
theorem enc_inv : ∀ (n : Nat) (l : List Int), l.length = n → (∀ d ∈ l, 1 ≤ d ∧ d ≤ 26) → (0 ≤ enc8 l ∧ (n ≠ 0 → 0 < enc8 l)) ∧ 0 ≤ enc5 l ∧ (n ≠ 0 → 0 < enc5 l) ∧ enc8 l < 256 ^ n ∧ enc5 l < 32 ^ n := by
  intro n
  induction n with
  | zero =>
    intro l h _
    have e : l = [] := List.length_eq_zero_iff.1 h
    subst e
    refine ⟨⟨Int.le_refl 0, fun h => absurd rfl h⟩, Int.le_refl 0, fun h => absurd rfl h, by decide, by decide⟩
  | succ n ih =>
    intro l h hl
    obtain ⟨l', d, rfl⟩ : ∃ l' d, l = l' ++ [d] := ⟨l.dropLast, l.getLast (by intro e; rw [e] at h; exact absurd h (by simp)), (List.dropLast_concat_getLast _).symm⟩
    have h1 : l'.length = n := by rw [List.length_append] at h; simp at h; exact h
    have hd := hl d (by simp)
    obtain ⟨⟨a, -⟩, b, -, c, e⟩ := ih l' h1 (fun x hx => hl x (List.mem_append_left _ hx))
    rw [enc8_s, enc5_s, Int.pow_succ, Int.pow_succ]
    refine ⟨⟨by omega, fun _ => by omega⟩, by omega, fun _ => by omega, by omega, by omega⟩
theorem enc_eq : ∀ (n : Nat) (l m : List Int), l.length ≤ n → m.length ≤ n → (∀ d ∈ l, 1 ≤ d ∧ d ≤ 26) → (∀ d ∈ m, 1 ≤ d ∧ d ≤ 26) → (enc8 l = enc8 m → l = m) ∧ (enc5 l = enc5 m → l = m) := by
  intro n
  induction n with
  | zero =>
    intro l m h h2 _ _
    have e : l = [] := List.length_eq_zero_iff.1 (by omega)
    have e2 : m = [] := List.length_eq_zero_iff.1 (by omega)
    rw [e, e2]
    exact ⟨fun _ => rfl, fun _ => rfl⟩
  | succ n ih =>
    intro l m h h2 hl hm
    by_cases el : l = []
    · by_cases em : m = []
      · rw [el, em]; exact ⟨fun _ => rfl, fun _ => rfl⟩
      · have q : m.length ≠ 0 := fun z => em (List.length_eq_zero_iff.1 z)
        obtain ⟨⟨-, a⟩, -, b, -⟩ := enc_inv m.length m rfl hm
        have a := a q
        have b := b q
        rw [el]
        exact ⟨fun z => by have z : (0 : Int) = enc8 m := z; omega, fun z => by have z : (0 : Int) = enc5 m := z; omega⟩
    · by_cases em : m = []
      · have q : l.length ≠ 0 := fun z => el (List.length_eq_zero_iff.1 z)
        obtain ⟨⟨-, a⟩, -, b, -⟩ := enc_inv l.length l rfl hl
        have a := a q
        have b := b q
        rw [em]
        exact ⟨fun z => by have z : enc8 l = (0 : Int) := z; omega, fun z => by have z : enc5 l = (0 : Int) := z; omega⟩
      · obtain ⟨l', d, rfl⟩ : ∃ l' d, l = l' ++ [d] := ⟨l.dropLast, l.getLast el, (List.dropLast_concat_getLast _).symm⟩
        obtain ⟨m', e, rfl⟩ : ∃ l' d, m = l' ++ [d] := ⟨m.dropLast, m.getLast em, (List.dropLast_concat_getLast _).symm⟩
        have hd := hl d (by simp)
        have he := hm e (by simp)
        have k1 : l'.length ≤ n := by rw [List.length_append] at h; simp at h; exact h
        have k2 : m'.length ≤ n := by rw [List.length_append] at h2; simp at h2; exact h2
        obtain ⟨i1, i2⟩ := ih l' m' k1 k2 (fun x hx => hl x (List.mem_append_left _ hx)) (fun x hx => hm x (List.mem_append_left _ hx))
        rw [enc8_s, enc8_s, enc5_s, enc5_s]
        refine ⟨fun z => ?_, fun z => ?_⟩
        · have a : d = e := by omega
          rw [i1 (by omega), a]
        · have a : d = e := by omega
          rw [i2 (by omega), a]
theorem WD_iff {x y x' y' : Int} (h : WD x y) (h' : WD x' y') : x = x' ↔ y = y' := by
  obtain ⟨l, ⟨-, l2, l3⟩, rfl, rfl⟩ := h
  obtain ⟨m, ⟨-, m2, m3⟩, rfl, rfl⟩ := h'
  obtain ⟨a, b⟩ := enc_eq 8 l m l2 m2 l3 m3
  exact ⟨fun z => by rw [a z], fun z => by rw [b z]⟩
theorem pack8 {x b : Int} (hx : 0 ≤ x ∧ x < 36028797018963968) (hb : 0 ≤ b ∧ b < 256) : jlor (jlshl x 8) b = 256 * x + b := by
  obtain ⟨n, rfl⟩ : ∃ n : Nat, x = n := ⟨x.toNat, by omega⟩
  obtain ⟨m, rfl⟩ : ∃ m : Nat, b = m := ⟨b.toNat, by omega⟩
  have hn : n < 2 ^ 55 := by omega
  have hm : m < 2 ^ 8 := by omega
  have e0 : ((Int32.ofInt 8).toInt64 &&& 63) = 8 := by decide +kernel
  have e3 : ((8 : Int64).toBitVec.smod 64) = 8#64 := by decide +kernel
  have o : ∀ k : Nat, k < 2 ^ 63 → (Int64.ofInt k).toBitVec = BitVec.ofNat 64 k := fun k _ => by
    show BitVec.ofInt 64 k = _
    exact BitVec.ofInt_natCast 64 k
  have ti : ∀ k : Nat, k < 2 ^ 63 → (BitVec.ofNat 64 k).toInt = k := fun k hk => by
    rw [BitVec.toInt_eq_toNat_of_lt]
    · rw [BitVec.toNat_ofNat, Nat.mod_eq_of_lt (by omega)]
    · rw [BitVec.toNat_ofNat, Nat.mod_eq_of_lt (by omega)]; omega
  have e1 : jlshl n 8 = ((256 * n : Nat) : Int) := by
    unfold jlshl
    rw [e0, ← Int64.toInt_toBitVec, Int64.toBitVec_shiftLeft, e3, o n (by omega)]
    have : BitVec.ofNat 64 n <<< (8#64) = BitVec.ofNat 64 (256 * n) := by
      apply BitVec.eq_of_toNat_eq
      rw [BitVec.shiftLeft_eq', BitVec.toNat_shiftLeft]
      simp only [BitVec.toNat_ofNat, Nat.shiftLeft_eq]
      have e4 : 8 % 2 ^ 64 = 8 := by decide
      have e5 : n % 2 ^ 64 = n := Nat.mod_eq_of_lt (by omega)
      rw [e4, e5, Nat.mul_comm n]
    rw [this, ti _ (by omega)]
  rw [e1]
  unfold jlor
  rw [← Int64.toInt_toBitVec, Int64.toBitVec_or, o _ (by omega), o _ (by omega)]
  have : BitVec.ofNat 64 (256 * n) ||| BitVec.ofNat 64 m = BitVec.ofNat 64 (256 * n + m) := by
    apply BitVec.eq_of_toNat_eq
    have := Nat.shiftLeft_add_eq_or_of_lt hm n
    rw [Nat.shiftLeft_eq] at this
    simp only [BitVec.toNat_or, BitVec.toNat_ofNat]
    rw [Nat.mod_eq_of_lt (by omega), Nat.mod_eq_of_lt (by omega), Nat.mod_eq_of_lt (by omega), Nat.mul_comm 256 n]
    exact this.symm
  rw [this, ti _ (by omega)]
  omega
theorem and255 {b : Int} (h : -128 ≤ b ∧ b ≤ 127) : jiand b 255 = if b < 0 then b + 256 else b := by
  have key : ∀ n : Fin 256, jiand ((n : Int) - 128) 255 = if (n : Int) - 128 < 0 then (n : Int) - 128 + 256 else (n : Int) - 128 := by decide +kernel
  have := key ⟨(b + 128).toNat, by omega⟩
  have e : (((b + 128).toNat : Nat) : Int) - 128 = b := by omega
  simp only [e] at this
  exact this
theorem enc8_b {l : List Int} (h : l.length ≤ 7) (hl : ∀ d ∈ l, 1 ≤ d ∧ d ≤ 26) : 0 ≤ enc8 l ∧ enc8 l < 36028797018963968 := by
  have key : ∀ (n : Nat) (l : List Int), l.length = n → (∀ d ∈ l, 1 ≤ d ∧ d ≤ 26) → 0 ≤ enc8 l ∧ 2 * enc8 l < 256 ^ n := by
    intro n
    induction n with
    | zero =>
      intro l h _
      have e : l = [] := List.length_eq_zero_iff.1 h
      subst e
      exact ⟨Int.le_refl 0, by decide⟩
    | succ n ih =>
      intro l h hl
      have ne : l ≠ [] := fun e => by rw [e] at h; exact absurd h (by simp)
      obtain ⟨l', d, rfl⟩ : ∃ l' d, l = l' ++ [d] := ⟨l.dropLast, l.getLast ne, (List.dropLast_concat_getLast _).symm⟩
      have h1 : l'.length = n := by rw [List.length_append] at h; simp at h; exact h
      have hd := hl d (by simp)
      obtain ⟨a, b⟩ := ih l' h1 (fun x hx => hl x (List.mem_append_left _ hx))
      rw [enc8_s, Int.pow_succ]
      have q : 2 * enc8 l' + 1 ≤ 256 ^ n := b
      refine ⟨by omega, ?_⟩
      have p : n = 0 ∨ 2 * enc8 l' + 2 ≤ 256 ^ n := by
        rcases n with _ | n
        · exact Or.inl rfl
        · right
          rw [Int.pow_succ] at b ⊢
          omega
      rcases p with p | p
      · subst p
        have e : l' = [] := List.length_eq_zero_iff.1 h1
        subst e
        show 2 * (256 * (0 : Int) + (96 + d)) < 1 * 256
        omega
      · omega
  obtain ⟨a, b⟩ := key l.length l rfl hl
  have c : (256 : Int) ^ l.length ≤ 256 ^ 7 := by
    have := Nat.pow_le_pow_right (n := 256) (by decide) h
    have c2 : ((256 ^ l.length : Nat) : Int) ≤ ((256 ^ 7 : Nat) : Int) := by omega
    simpa using c2
  have d : (256 : Int) ^ 7 = 72057594037927936 := by decide
  exact ⟨a, by omega⟩
/-! kept words -/
def KW (x v : Int) : Prop := (v = -1 ∧ ∀ j, 0 ≤ j → j < 26 → jkw j ≠ x) ∨ (0 ≤ v ∧ v < 26 ∧ jkw v = x)
theorem kw_inj {i j : Int} (hi : 0 ≤ i ∧ i < 26) (hj : 0 ≤ j ∧ j < 26) (h : jkw i = jkw j) : i = j := by
  have key : ∀ a b : Fin 26, jkws.getD a 0 = jkws.getD b 0 → a = b := by decide +kernel
  have := key ⟨i.toNat, by omega⟩ ⟨j.toNat, by omega⟩ h
  have := congrArg Fin.val this
  have e : i.toNat = j.toNat := this
  omega
theorem kw_b {i : Int} (hi : 0 ≤ i ∧ i < 26) : 0 < jkw i ∧ jkw i < 9223372036854775808 := by
  have key : ∀ a : Fin 26, 0 < jkws.getD a 0 ∧ jkws.getD a 0 < 9223372036854775808 := by decide +kernel
  exact key ⟨i.toNat, by omega⟩
theorem KW_iff {x v i : Int} (h : KW x v) (hi : 0 ≤ i ∧ i < 26) : v = i ↔ x = jkw i := by
  rcases h with ⟨a, b⟩ | ⟨a, b, c⟩
  · exact ⟨fun z => by omega, fun z => absurd z.symm (b i hi.1 hi.2)⟩
  · exact ⟨fun z => by rw [← z, c], fun z => kw_inj ⟨a, b⟩ hi (by rw [c, z])⟩
/-- a long that the packed word may be -/
theorem scan88 {x : Int} (hx : i64 x) : ∀ (d f i : Nat) (s : jM), i + d = 26 → d < f → s 11 7 = x → ((s 11 5 = -1 ∧ ∀ j, 0 ≤ j → j < (i : Int) → jkw j ≠ x) ∨ (0 ≤ s 11 5 ∧ s 11 5 < 26 ∧ jkw (s 11 5) = x)) → ∃ v, Te_scanWord_88 f 11 i s = some (0, jup s 11 5 v) ∧ KW x v := by
  intro d
  induction d with
  | zero =>
    intro f i s h1 h2 h3 h4
    obtain ⟨f, rfl⟩ : ∃ g, f = g + 1 := ⟨f - 1, by omega⟩
    have e : i = 26 := by omega
    subst e
    refine ⟨s 11 5, ?_, h4⟩
    have e : jup s 11 5 (s 11 5) = s := by
      funext a b
      rw [jup_at]
      by_cases q : a = 11 ∧ b = 5
      · rw [if_pos q, q.1, q.2]
      · rw [if_neg q]
    rw [Te_scanWord_88, if_neg (by decide), e]
  | succ d ih =>
    intro f i s h1 h2 h3 h4
    obtain ⟨f, rfl⟩ : ∃ g, f = g + 1 := ⟨f - 1, by omega⟩
    have c1 : (i : Int) < 26 := by omega
    have c2 : (0 : Int) ≤ i ∧ (i : Int) < 26 := by omega
    have c3 : ((i + 1 : Nat) : Int) = (i : Int) + 1 := by omega
    have c4 : i < 1000 := by omega
    have kb := kw_b c2
    have hd : Te_scanWord_88 (f + 1) 11 i s = if jkw i = x then Te_scanWord_88 f 11 ((i : Int) + 1) (jup s 11 5 i) else Te_scanWord_88 f 11 ((i : Int) + 1) s := by
      rw [Te_scanWord_88, w32n c4, if_pos c1, if_pos c2, h3]
      have : (w32 (jlcmp (jkw i) x) = 0) = (jkw i = x) := by
        rw [lcmp_eq, w64_id (by omega) (by omega), i64_w hx]
      simp only [this]
    rw [hd]
    by_cases q : jkw i = x
    · rw [if_pos q]
      obtain ⟨v, v1, v2⟩ := ih f (i + 1) (jup s 11 5 i) (by omega) (by omega) (by rw [u_ne (by omega)]; exact h3) (Or.inr (by rw [u_eq ⟨rfl, rfl⟩]; exact ⟨c2.1, c2.2, q⟩))
      rw [c3, u_u] at v1
      exact ⟨v, v1, v2⟩
    · rw [if_neg q]
      obtain ⟨v, v1, v2⟩ := ih f (i + 1) s (by omega) (by omega) h3 (by
        rcases h4 with ⟨a, b⟩ | z
        · refine Or.inl ⟨a, fun j j1 j2 => ?_⟩
          by_cases y : j = i
          · rw [y]; exact q
          · exact b j j1 (by omega)
        · exact Or.inr z)
      rw [c3] at v1
      exact ⟨v, v1, v2⟩
/-! the text -/
def SFT (s : jM) : Prop := 0 ≤ s 11 1 ∧ s 11 1 ≤ 900 ∧ 0 ≤ s 11 2 ∧ s 11 2 ≤ s 11 1 ∧ ∀ i, 0 ≤ i → i < s 11 1 → -128 ≤ s 12 i ∧ s 12 i ≤ 127
def TXT (s u : jM) : Prop := s 11 1 = u 155 9 ∧ s 11 2 = u 155 16 ∧ ∀ i, 0 ≤ i → i < s 11 1 → s 12 i = u 159 i
def WRD (s u : jM) : Prop := (∃ l, LTR l ∧ s 11 7 = enc8 l ∧ u 155 19 = enc5 l ∧ u 155 18 = (l.length : Int) ∧ KW (s 11 7) (s 11 5)) ∨ (s 11 7 = 0 ∧ 8 < u 155 18 ∧ u 155 18 ≤ 900 ∧ u 155 19 = -1 ∧ s 11 5 = -1)
def KDR (s u : jM) : Prop := (s 11 4 = 0 ∧ s 11 5 = -1) ∨ (s 11 4 = 1 ∧ WRD s u) ∨ (s 11 4 = 2 ∧ s 11 5 = -1 ∧ s 11 6 = u 155 17 ∧ 0 ≤ s 11 6 ∧ s 11 6 ≤ 9999) ∨ (s 11 4 = 3 ∧ s 11 5 = -1 ∧ s 11 6 = u 155 17 ∧ 59 ≤ s 11 6 ∧ s 11 6 ≤ 62) ∨ (s 11 4 = 4 ∧ s 11 5 = -1)
def TK (s u : jM) : Prop := SFT s ∧ TXT s u ∧ s 11 3 = u 155 15 ∧ 0 ≤ s 11 3 ∧ s 11 3 ≤ s 11 2 ∧ (s 11 4 ≠ 0 → s 11 3 < s 11 2) ∧ s 11 4 = u 155 14 ∧ KDR s u
def rT (a b : Int) : Prop := a = 11 ∧ 2 ≤ b ∧ b ≤ 7
def rU (a b : Int) : Prop := a = 155 ∧ 14 ≤ b ∧ b ≤ 19
/-- the byte that the reference sees -/
def ub (b : Int) : Int := if b < 0 then b + 256 else b
theorem look_eq {L i b : Int} {u : jM} (hL : L ≤ 900) (h9 : u 155 9 = L) (hi : 0 ≤ i ∧ i < L) (h : u 159 i = b) (hb : -128 ≤ b ∧ b ≤ 127) : Md_look2 155 i u = some (ub b, u) := by
  rw [Md_look2, h9, w32_id (by omega) (by omega), w32_id (by omega) (by omega), if_pos hi.2, if_pos (by omega)]
  show some (jiand (u 159 i) 255, u) = _
  rw [h, and255 hb]
  rfl
theorem look_end {L i : Int} {u : jM} (hL : 0 ≤ L ∧ L ≤ 900) (h9 : u 155 9 = L) (hi : i = L) : Md_look2 155 i u = some (0, u) := by
  rw [Md_look2, h9, w32_id (by omega) (by omega), w32_id (by omega) (by omega), if_neg (by omega)]
/-! a word -/
def wI (k : Nat) (A B : Int) : Prop := (k ≤ 8 ∧ ∃ l, l.length = k ∧ (∀ d ∈ l, 1 ≤ d ∧ d ≤ 26) ∧ A = enc8 l ∧ B = enc5 l) ∨ (8 < k ∧ B = -1)
def r7 (a b : Int) : Prop := a = 11 ∧ b = 7
def r689 (a b : Int) : Prop := a = 155 ∧ (b = 16 ∨ b = 18 ∨ b = 19)
theorem enc5_b {l : List Int} (h : l.length ≤ 8) (hl : ∀ d ∈ l, 1 ≤ d ∧ d ≤ 26) : 0 ≤ enc5 l := (enc_inv l.length l rfl hl).2.1
theorem word_eq {st L : Int} (hst : 0 ≤ st) (hL : L ≤ 900) : ∀ (d f f2 k : Nat) (s u : jM), st + k + d = L → d < f → d < f2 → s 11 1 = L → s 11 3 = st → u 155 9 = L → u 155 15 = st → u 155 16 = st + k → (∀ i, 0 ≤ i → i < L → s 12 i = u 159 i ∧ -128 ≤ s 12 i ∧ s 12 i ≤ 127) → wI k (s 11 7) (u 155 19) → ∃ (e : Nat) (s' u' : jM), k ≤ e ∧ st + e ≤ L ∧ Te_scanWord_5 f 11 (st + k) s = Te_scanWord_60 11 (st + e) s' ∧ Md_advance_109 f2 155 u = some (0, u') ∧ EX r7 s s' ∧ EX r689 u u' ∧ u' 155 16 = st + e ∧ u' 155 18 = e ∧ wI e (s' 11 7) (u' 155 19) ∧ (k = e → st + k < L → ¬ (97 ≤ s 12 (st + k) ∧ s 12 (st + k) ≤ 122)) := by
  intro d
  induction d with
  | zero =>
    intro f f2 k s u h1 h2 h3 h4 h5 h6 h7 h8 h9 h10
    obtain ⟨f, rfl⟩ : ∃ g, f = g + 1 := ⟨f - 1, by omega⟩
    obtain ⟨f2, rfl⟩ : ∃ g, f2 = g + 1 := ⟨f2 - 1, by omega⟩
    have c0 : w32 (st + k) = st + k := w32_id (by omega) (by omega)
    have c1 : w32 L = L := w32_id (by omega) (by omega)
    refine ⟨k, s, jup u 155 18 k, Nat.le_refl _, by omega, ?_, ?_, EX.rf _ _, (EX.rf _ _).up ⟨rfl, by omega⟩, by rw [u_ne (by omega)]; exact h8, u_eq ⟨rfl, rfl⟩, by rw [u_ne (by omega)]; exact h10, fun _ q => by omega⟩
    · rw [Te_scanWord_5, h4, c0, c1, if_neg (by omega)]
    · rw [Md_advance_109, h8, look_end (L := L) (by omega) h6 (by omega), jb_t, Md_isLetter, if_pos (by decide), jb_t, if_pos (by decide), h8, h7, show st + (k : Int) - st = k by omega]
  | succ d ih =>
    intro f f2 k s u h1 h2 h3 h4 h5 h6 h7 h8 h9 h10
    obtain ⟨f, rfl⟩ : ∃ g, f = g + 1 := ⟨f - 1, by omega⟩
    obtain ⟨f2, rfl⟩ : ∃ g, f2 = g + 1 := ⟨f2 - 1, by omega⟩
    have c0 : w32 (st + k) = st + k := w32_id (by omega) (by omega)
    have c1 : w32 L = L := w32_id (by omega) (by omega)
    have c2 : st + (k : Int) < L := by omega
    have c3 : 0 ≤ st + (k : Int) ∧ st + (k : Int) < 900 := by omega
    have c4 : st + ((k + 1 : Nat) : Int) = st + k + 1 := by omega
    obtain ⟨b1, b2, b3⟩ := h9 (st + k) (by omega) c2
    obtain ⟨b, hb⟩ : ∃ b, b = s 12 (st + k) := ⟨_, rfl⟩
    rw [← hb] at b1 b2 b3 ⊢
    have wb : w32 b = b := w32_id (by omega) (by omega)
    have lk := fun (v : jM) (v1 : v 155 9 = L) (v2 : v 159 (st + k) = b) => look_eq hL v1 ⟨c3.1, c2⟩ v2 ⟨b2, b3⟩
    have hc : Te_scanWord_5 (f + 1) 11 (st + k) s = if 97 ≤ b ∧ b ≤ 122 then Te_scanWord_5 f 11 (st + k + 1) (jup s 11 7 (jlor (jlshl (s 11 7) 8) b)) else Te_scanWord_60 11 (st + k) s := by
      rw [Te_scanWord_5, h4, c0, c1, if_pos c2, if_pos c3]
      show (if w32 (s 12 (st + k)) < 97 then _ else _) = _
      rw [← hb, wb]
      by_cases q1 : b < 97
      · rw [if_pos q1, if_neg (by omega)]
      · rw [if_neg q1, if_pos c3]
        show (if 122 < w32 (s 12 (st + k)) then _ else (if _ then Te_scanWord_5 f 11 _ (jup s 11 7 (jlor (jlshl (s 11 7) 8) (w32 (s 12 (st + k))))) else none)) = _
        rw [← hb, wb]
        by_cases q2 : 122 < b
        · rw [if_pos q2, if_neg (by omega)]
        · rw [if_neg q2, if_pos c3, if_pos (by omega)]
    have hr : Md_advance_109 (f2 + 1) 155 u = if 97 ≤ b ∧ b ≤ 122 then (if (k : Int) < 8 then Md_advance_109 f2 155 (jup (jup u 155 19 (u 155 19 * 32 + b - 96)) 155 16 (st + k + 1)) else Md_advance_109 f2 155 (jup (jup u 155 19 (-1)) 155 16 (st + k + 1))) else some (0, jup u 155 18 k) := by
      have k4 : k < 1000 := by omega
      rw [Md_advance_109, h8, lk u h6 b1.symm, jb_t, Md_isLetter]
      by_cases q : 97 ≤ b ∧ b ≤ 122
      · have eu : ub b = b := if_neg (by omega)
        rw [eu, wb, if_neg (by omega), if_neg (by omega), jb_t, if_neg (by decide), h8, h7, show st + (k : Int) - st = k by omega, w32n k4, if_pos q]
        by_cases z : (k : Int) < 8
        · rw [if_pos z, if_pos z, lk u h6 b1.symm, jb_t, eu, wb, u_ne (by omega), h8]
        · rw [if_neg z, if_neg z, u_ne (by omega), h8]
      · have eu : w32 (ub b) < 97 ∨ 122 < w32 (ub b) := by
          unfold ub
          split
          · rw [w32_id (by omega) (by omega)]; omega
          · rw [wb]; omega
        rw [if_neg q]
        by_cases z : w32 (ub b) < 97
        · rw [if_pos z, jb_t, if_pos (by decide), h8, h7, show st + (k : Int) - st = k by omega]
        · rw [if_neg z, if_pos (eu.resolve_left z), jb_t, if_pos (by decide), h8, h7, show st + (k : Int) - st = k by omega]
    rw [hc, hr]
    clear hc hr lk
    by_cases q : 97 ≤ b ∧ b ≤ 122
    · rw [if_pos q, if_pos q]
      have step : ∀ (A B : Int), wI (k + 1) A B → ∃ (e : Nat) (s' u' : jM), k ≤ e ∧ st + e ≤ L ∧ Te_scanWord_5 f 11 (st + k + 1) (jup s 11 7 A) = Te_scanWord_60 11 (st + e) s' ∧ Md_advance_109 f2 155 (jup (jup u 155 19 B) 155 16 (st + k + 1)) = some (0, u') ∧ EX r7 s s' ∧ EX r689 u u' ∧ u' 155 16 = st + e ∧ u' 155 18 = e ∧ wI e (s' 11 7) (u' 155 19) ∧ (k = e → st + k < L → ¬ (97 ≤ b ∧ b ≤ 122)) := fun A B hAB => by
        obtain ⟨e, s', u', e1, e2, e3, e4, e5, e6, e7, e8, e9, -⟩ := ih f f2 (k + 1) (jup s 11 7 A) (jup (jup u 155 19 B) 155 16 (st + k + 1)) (by omega) (by omega) (by omega) (by rw [u_ne (by omega)]; exact h4) (by rw [u_ne (by omega)]; exact h5) (by rw [u_ne (by omega), u_ne (by omega)]; exact h6) (by rw [u_ne (by omega), u_ne (by omega)]; exact h7) (by rw [u_eq ⟨rfl, rfl⟩]; omega) (fun i i1 i2 => by rw [u_ne (by omega), u_ne (by omega), u_ne (by omega)]; exact h9 i i1 i2) (by rw [u_eq ⟨rfl, rfl⟩, u_ne (by omega), u_eq ⟨rfl, rfl⟩]; exact hAB)
        rw [c4] at e3
        exact ⟨e, s', u', by omega, e2, e3, e4, ((EX.rf _ _).up ⟨rfl, rfl⟩).tr e5, (((EX.rf _ _).up ⟨rfl, by omega⟩).up ⟨rfl, by omega⟩).tr e6, e7, e8, e9, fun z => by omega⟩
      by_cases z : (k : Int) < 8
      · rw [if_pos z]
        refine step _ _ ?_
        rcases h10 with ⟨a1, l, a2, a3, a4, a5⟩ | ⟨a1, a2⟩
        · refine Or.inl ⟨by omega, l ++ [b - 96], by rw [List.length_append, a2]; rfl, fun d hd => ?_, ?_, ?_⟩
          · rcases List.mem_append.1 hd with y | y
            · exact a3 d y
            · rw [List.mem_singleton.1 y]; omega
          · have eb := enc8_b (l := l) (by omega) a3
            rw [a4, pack8 eb (by omega), enc8_s]
            omega
          · rw [a5, enc5_s]
            omega
        · omega
      · rw [if_neg z]
        exact step _ _ (Or.inr ⟨by omega, rfl⟩)
    · rw [if_neg q, if_neg q]
      exact ⟨k, s, jup u 155 18 k, Nat.le_refl _, by omega, rfl, rfl, EX.rf _ _, (EX.rf _ _).up ⟨rfl, by omega⟩, by rw [u_ne (by omega)]; exact h8, u_eq ⟨rfl, rfl⟩, by rw [u_ne (by omega)]; exact h10, fun _ _ => q⟩
/-! a number -/
def r6 (a b : Int) : Prop := a = 11 ∧ b = 6
def r67 (a b : Int) : Prop := a = 155 ∧ (b = 14 ∨ b = 16 ∨ b = 17)
theorem num_eq {st L : Int} (hst : 0 ≤ st) (hL : L ≤ 900) : ∀ (d f f2 k : Nat) (s u : jM), st + k + d = L → d < f → d < f2 → s 11 1 = L → s 11 3 = st → u 155 9 = L → u 155 15 = st → u 155 16 = st + k → (∀ i, 0 ≤ i → i < L → s 12 i = u 159 i ∧ -128 ≤ s 12 i ∧ s 12 i ≤ 127) → s 11 6 = u 155 17 → 0 ≤ s 11 6 → ((k = 0 ∧ s 11 6 = 0) ∨ (k = 1 ∧ s 11 6 ≤ 9) ∨ (k = 2 ∧ s 11 6 ≤ 99) ∨ (k = 3 ∧ s 11 6 ≤ 999) ∨ (4 ≤ k ∧ s 11 6 ≤ 9999)) → ∃ (e : Nat) (s' u' : jM), k ≤ e ∧ st + e ≤ L ∧ Te_scanNumber_10 f 11 (st + k) s = some (0, jup (jup s' 11 4 (if 4 < e then 4 else 2)) 11 2 (st + e)) ∧ Md_advance_210 f2 155 u = some (0, u') ∧ EX r6 s s' ∧ EX r67 u u' ∧ u' 155 16 = st + e ∧ u' 155 14 = (if 4 < e then 4 else 2) ∧ s' 11 6 = u' 155 17 ∧ 0 ≤ s' 11 6 ∧ s' 11 6 ≤ 9999 ∧ (k = e → st + k < L → ¬ (48 ≤ s 12 (st + k) ∧ s 12 (st + k) ≤ 57)) := by
  intro d
  induction d with
  | zero =>
    intro f f2 k s u h1 h2 h3 h4 h5 h6 h7 h8 h9 h10 h11 h12
    obtain ⟨f, rfl⟩ : ∃ g, f = g + 1 := ⟨f - 1, by omega⟩
    obtain ⟨f2, rfl⟩ : ∃ g, f2 = g + 1 := ⟨f2 - 1, by omega⟩
    have c0 : w32 (st + k) = st + k := w32_id (by omega) (by omega)
    have c1 : w32 L = L := w32_id (by omega) (by omega)
    have k4 : k < 1000 := by omega
    refine ⟨k, s, jup u 155 14 (if 4 < k then 4 else 2), Nat.le_refl _, by omega, ?_, ?_, EX.rf _ _, (EX.rf _ _).up ⟨rfl, by omega⟩, by rw [u_ne (by omega)]; exact h8, u_eq ⟨rfl, rfl⟩, by rw [u_ne (by omega)]; exact h10, h11, by omega, fun _ q => by omega⟩
    · rw [Te_scanNumber_10, h4, c0, c1, if_neg (by omega), Te_scanNumber_77, h5, show st + (k : Int) - st = k by omega, w32n k4]
      by_cases q : 4 < k
      · rw [if_pos (by omega), if_pos q]
      · rw [if_neg (by omega), if_neg q]
    · rw [Md_advance_210, h8, look_end (L := L) (by omega) h6 (by omega), jb_t, Md_isDigit, if_pos (by decide), jb_t, if_pos (by decide), h8, h7, show st + (k : Int) - st = k by omega, w32n k4]
      by_cases q : 4 < k
      · rw [if_pos (by omega), if_pos q]
      · rw [if_neg (by omega), if_neg q]
  | succ d ih =>
    intro f f2 k s u h1 h2 h3 h4 h5 h6 h7 h8 h9 h10 h11 h12
    obtain ⟨f, rfl⟩ : ∃ g, f = g + 1 := ⟨f - 1, by omega⟩
    obtain ⟨f2, rfl⟩ : ∃ g, f2 = g + 1 := ⟨f2 - 1, by omega⟩
    have c0 : w32 (st + k) = st + k := w32_id (by omega) (by omega)
    have c1 : w32 L = L := w32_id (by omega) (by omega)
    have c2 : st + (k : Int) < L := by omega
    have c3 : 0 ≤ st + (k : Int) ∧ st + (k : Int) < 900 := by omega
    have c4 : st + ((k + 1 : Nat) : Int) = st + k + 1 := by omega
    have k4 : k < 1000 := by omega
    obtain ⟨b1, b2, b3⟩ := h9 (st + k) (by omega) c2
    obtain ⟨b, hb⟩ : ∃ b, b = s 12 (st + k) := ⟨_, rfl⟩
    rw [← hb] at b1 b2 b3 ⊢
    have wb : w32 b = b := w32_id (by omega) (by omega)
    have lk := fun (v : jM) (v1 : v 155 9 = L) (v2 : v 159 (st + k) = b) => look_eq hL v1 ⟨c3.1, c2⟩ v2 ⟨b2, b3⟩
    have hc : Te_scanNumber_10 (f + 1) 11 (st + k) s = if 48 ≤ b ∧ b ≤ 57 then (if (k : Int) < 4 then Te_scanNumber_10 f 11 (st + k + 1) (jup s 11 6 (s 11 6 * 10 + b - 48)) else Te_scanNumber_10 f 11 (st + k + 1) s) else some (0, jup (jup s 11 4 (if 4 < k then 4 else 2)) 11 2 (st + k)) := by
      have e77 : Te_scanNumber_77 11 (st + k) s = some (0, jup (jup s 11 4 (if 4 < k then 4 else 2)) 11 2 (st + k)) := by
        rw [Te_scanNumber_77, h5, show st + (k : Int) - st = k by omega, w32n k4]
        by_cases q : 4 < k
        · rw [if_pos (by omega), if_pos q]
        · rw [if_neg (by omega), if_neg q]
      rw [Te_scanNumber_10, h4, c0, c1, if_pos c2, if_pos c3, e77]
      show (if w32 (s 12 (st + k)) < 48 then _ else _) = _
      rw [← hb, wb]
      by_cases q1 : b < 48
      · rw [if_pos q1, if_neg (by omega)]
      · rw [if_neg q1, if_pos c3]
        show (if 57 < w32 (s 12 (st + k)) then _ else (if w32 (st + k - s 11 3) < 4 then (if _ then Te_scanNumber_10 f 11 _ (jup s 11 6 (s 11 6 * 10 + s 12 (st + k) - 48)) else none) else _)) = _
        rw [← hb, wb, h5, show st + (k : Int) - st = k by omega, w32n k4]
        by_cases q2 : 57 < b
        · rw [if_pos q2, if_neg (by omega)]
        · rw [if_neg q2, if_pos c3, if_pos (c := 48 ≤ b ∧ b ≤ 57) (by omega)]
    have hr : Md_advance_210 (f2 + 1) 155 u = if 48 ≤ b ∧ b ≤ 57 then (if (k : Int) < 4 then Md_advance_210 f2 155 (jup (jup u 155 17 (10 * u 155 17 + b - 48)) 155 16 (st + k + 1)) else Md_advance_210 f2 155 (jup u 155 16 (st + k + 1))) else some (0, jup u 155 14 (if 4 < k then 4 else 2)) := by
      have fin : (if 4 < w32 (u 155 16 - u 155 15) then some (0, jup u 155 14 4) else some (0, jup u 155 14 2)) = some ((0 : Int), jup u 155 14 (if 4 < k then 4 else 2)) := by
        rw [h8, h7, show st + (k : Int) - st = k by omega, w32n k4]
        by_cases q : 4 < k
        · rw [if_pos (by omega), if_pos q]
        · rw [if_neg (by omega), if_neg q]
      rw [Md_advance_210, h8, lk u h6 b1.symm, jb_t, Md_isDigit]
      by_cases q : 48 ≤ b ∧ b ≤ 57
      · have eu : ub b = b := if_neg (by omega)
        rw [eu, wb, if_neg (by omega), if_neg (by omega), jb_t, if_neg (by decide), h8, h7, show st + (k : Int) - st = k by omega, w32n k4, if_pos q]
        by_cases z : (k : Int) < 4
        · rw [if_pos z, if_pos z, lk u h6 b1.symm, jb_t, eu, u_ne (by omega), h8]
        · rw [if_neg z, if_neg z]
      · have eu : w32 (ub b) < 48 ∨ 57 < w32 (ub b) := by
          unfold ub
          split
          · rw [w32_id (by omega) (by omega)]; omega
          · rw [wb]; omega
        rw [if_neg q]
        by_cases z : w32 (ub b) < 48
        · rw [if_pos z, jb_t, if_pos (by decide)]; exact fin
        · rw [if_neg z, if_pos (eu.resolve_left z), jb_t, if_pos (by decide)]; exact fin
    rw [hc, hr]
    clear hc hr lk
    by_cases q : 48 ≤ b ∧ b ≤ 57
    · rw [if_pos q, if_pos q]
      by_cases z : (k : Int) < 4
      · rw [if_pos z, if_pos z]
        obtain ⟨e, s', u', e1, e2, e3, e4, e5, e6, e7, e8, e9, e10, e11, -⟩ := ih f f2 (k + 1) (jup s 11 6 (s 11 6 * 10 + b - 48)) (jup (jup u 155 17 (10 * u 155 17 + b - 48)) 155 16 (st + k + 1)) (by omega) (by omega) (by omega) (by rw [u_ne (by omega)]; exact h4) (by rw [u_ne (by omega)]; exact h5) (by rw [u_ne (by omega), u_ne (by omega)]; exact h6) (by rw [u_ne (by omega), u_ne (by omega)]; exact h7) (by rw [u_eq ⟨rfl, rfl⟩]; omega) (fun i i1 i2 => by rw [u_ne (by omega), u_ne (by omega), u_ne (by omega)]; exact h9 i i1 i2) (by rw [u_eq ⟨rfl, rfl⟩, u_ne (by omega), u_eq ⟨rfl, rfl⟩]; omega) (by rw [u_eq ⟨rfl, rfl⟩]; omega) (by rw [u_eq ⟨rfl, rfl⟩]; omega)
        rw [c4] at e3
        exact ⟨e, s', u', by omega, e2, e3, e4, ((EX.rf _ _).up ⟨rfl, rfl⟩).tr e5, (((EX.rf _ _).up ⟨rfl, by omega⟩).up ⟨rfl, by omega⟩).tr e6, e7, e8, e9, e10, e11, fun z => by omega⟩
      · rw [if_neg z, if_neg z]
        obtain ⟨e, s', u', e1, e2, e3, e4, e5, e6, e7, e8, e9, e10, e11, -⟩ := ih f f2 (k + 1) s (jup u 155 16 (st + k + 1)) (by omega) (by omega) (by omega) h4 h5 (by rw [u_ne (by omega)]; exact h6) (by rw [u_ne (by omega)]; exact h7) (by rw [u_eq ⟨rfl, rfl⟩]; omega) (fun i i1 i2 => by rw [u_ne (by omega)]; exact h9 i i1 i2) (by rw [u_ne (by omega)]; exact h10) h11 (by omega)
        rw [c4] at e3
        exact ⟨e, s', u', by omega, e2, e3, e4, e5, ((EX.rf _ _).up ⟨rfl, by omega⟩).tr e6, e7, e8, e9, e10, e11, fun z => by omega⟩
    · rw [if_neg q, if_neg q]
      exact ⟨k, s, jup u 155 14 (if 4 < k then 4 else 2), Nat.le_refl _, by omega, rfl, rfl, EX.rf _ _, (EX.rf _ _).up ⟨rfl, by omega⟩, by rw [u_ne (by omega)]; exact h8, u_eq ⟨rfl, rfl⟩, by rw [u_ne (by omega)]; exact h10, h11, by omega, fun _ _ => q⟩
/-! the whole step -/
def r15 (a b : Int) : Prop := a = 155 ∧ b = 15
theorem skip_eq {L : Int} (hL : L ≤ 900) : ∀ (d f f2 : Nat) (p : Int) (s u : jM), p + d = L → 0 ≤ p → d < f → d < f2 → s 11 1 = L → u 155 9 = L → u 155 15 = p → (∀ i, 0 ≤ i → i < L → s 12 i = u 159 i ∧ -128 ≤ s 12 i ∧ s 12 i ≤ 127) → ∃ (e : Int) (u' : jM), p ≤ e ∧ e ≤ L ∧ Te_advance_5 f 11 p s = Te_advance_41 11 e s ∧ Md_advance_8 f2 155 u = Md_advance_58 155 u' ∧ EX r15 u u' ∧ u' 155 15 = e := by
  intro d
  induction d with
  | zero =>
    intro f f2 p s u h1 h0 h2 h3 h4 h6 h7 h9
    obtain ⟨f, rfl⟩ : ∃ g, f = g + 1 := ⟨f - 1, by omega⟩
    obtain ⟨f2, rfl⟩ : ∃ g, f2 = g + 1 := ⟨f2 - 1, by omega⟩
    have c0 : w32 p = p := w32_id (by omega) (by omega)
    have c1 : w32 L = L := w32_id (by omega) (by omega)
    exact ⟨p, u, Int.le_refl _, by omega, by rw [Te_advance_5, h4, c0, c1, if_neg (by omega)], by rw [Md_advance_8, h6, h7, c0, c1, if_neg (by omega)], EX.rf _ _, h7⟩
  | succ d ih =>
    intro f f2 p s u h1 h0 h2 h3 h4 h6 h7 h9
    obtain ⟨f, rfl⟩ : ∃ g, f = g + 1 := ⟨f - 1, by omega⟩
    obtain ⟨f2, rfl⟩ : ∃ g, f2 = g + 1 := ⟨f2 - 1, by omega⟩
    have c0 : w32 p = p := w32_id (by omega) (by omega)
    have c1 : w32 L = L := w32_id (by omega) (by omega)
    have c2 : p < L := by omega
    have c3 : 0 ≤ p ∧ p < 900 := by omega
    obtain ⟨b1, b2, b3⟩ := h9 p h0 c2
    obtain ⟨b, hb⟩ : ∃ b, b = s 12 p := ⟨_, rfl⟩
    rw [← hb] at b1 b2 b3
    have wb : w32 b = b := w32_id (by omega) (by omega)
    have lk := look_eq hL h6 ⟨h0, c2⟩ b1.symm ⟨b2, b3⟩
    have wu : w32 (ub b) = ub b := by unfold ub; split <;> exact w32_id (by omega) (by omega)
    have hc : Te_advance_5 (f + 1) 11 p s = if b = 10 ∨ b = 32 then Te_advance_5 f 11 (p + 1) s else Te_advance_41 11 p s := by
      rw [Te_advance_5, h4, c0, c1, if_pos c2, if_pos c3]
      show (if w32 (s 12 p) = 10 then _ else if _ then (if w32 (s 12 p) = 32 then _ else _) else none) = _
      rw [← hb, wb, if_pos c3]
      by_cases q1 : b = 10
      · rw [if_pos q1, if_pos (Or.inl q1)]
      · rw [if_neg q1]
        by_cases q2 : b = 32
        · rw [if_pos q2, if_pos (Or.inr q2)]
        · rw [if_neg q2, if_neg (by omega)]
    have hr : Md_advance_8 (f2 + 1) 155 u = if b = 10 ∨ b = 32 then Md_advance_8 f2 155 (jup u 155 15 (p + 1)) else Md_advance_58 155 u := by
      rw [Md_advance_8, h6, h7, c0, c1, if_pos c2, lk, jb_t, h7, lk, jb_t, h7, wu]
      by_cases q1 : b = 10
      · rw [if_pos (c := b = 10 ∨ b = 32) (Or.inl q1), if_pos (by unfold ub; rw [if_neg (by omega)]; exact q1)]
      · rw [if_neg (by unfold ub; split <;> omega)]
        by_cases q2 : b = 32
        · rw [if_pos (c := b = 10 ∨ b = 32) (Or.inr q2), if_pos (by unfold ub; rw [if_neg (by omega)]; exact q2)]
        · rw [if_neg (c := b = 10 ∨ b = 32) (by omega), if_neg (by unfold ub; split <;> omega)]
    rw [hc, hr]
    by_cases q : b = 10 ∨ b = 32
    · rw [if_pos q, if_pos q]
      obtain ⟨e, u', e1, e2, e3, e4, e5, e6⟩ := ih f f2 (p + 1) s (jup u 155 15 (p + 1)) (by omega) (by omega) (by omega) (by omega) h4 (by rw [u_ne (by omega)]; exact h6) (u_eq ⟨rfl, rfl⟩) (fun i i1 i2 => by rw [u_ne (by omega)]; exact h9 i i1 i2)
      exact ⟨e, u', by omega, e2, e3, e4, ((EX.rf _ _).up ⟨rfl, rfl⟩).tr e5, e6⟩
    · rw [if_neg q, if_neg q]
      exact ⟨p, u, Int.le_refl _, by omega, rfl, rfl, EX.rf _ _, h7⟩
theorem adv_eq {s u : jM} (hs : SFT s) (ht : TXT s u) : ∃ s' u', Te_advance 11 s = some (0, s') ∧ Md_advance 155 u = some (0, u') ∧ TK s' u' ∧ EX rT s s' ∧ EX rU u u' ∧ s 11 2 ≤ s' 11 3 := by
  obtain ⟨k1, k2, k3, k4, k5⟩ := hs
  obtain ⟨t1, t2, t3⟩ := ht
  obtain ⟨L, hL⟩ : ∃ L, L = s 11 1 := ⟨_, rfl⟩
  rw [← hL] at k1 k2 k4 k5 t1 t3
  have hby : ∀ i, 0 ≤ i → i < L → s 12 i = u 159 i ∧ -128 ≤ s 12 i ∧ s 12 i ≤ 127 := fun i i1 i2 => ⟨t3 i i1 i2, k5 i i1 i2⟩
  have f0 : (L - s 11 2).toNat < jFU := Nat.lt_of_lt_of_le (m := 1000) (by omega) (jFU_ge (by decide))
  obtain ⟨p, v, p1, p2, p3, p4, p5, p6⟩ := skip_eq k2 (L - s 11 2).toNat jFU jFU (s 11 2) s (jup u 155 15 (u 155 16)) (by omega) k3 f0 f0 hL.symm (by rw [u_ne (by omega)]; exact t1.symm) (by rw [u_eq ⟨rfl, rfl⟩]; exact t2.symm) (fun i i1 i2 => by rw [u_ne (by omega)]; exact hby i i1 i2)
  have hA : Te_advance 11 s = Te_advance_41 11 p s := p3
  have hB : Md_advance 155 u = Md_advance_58 155 v := p4
  have ve : ∀ a b, ¬ (a = 155 ∧ b = 15) → v a b = u a b := fun a b q => by rw [p5 a b q, u_ne q]
  have v9 : v 155 9 = L := by rw [ve _ _ (by omega)]; exact t1.symm
  have vt : ∀ i, v 159 i = u 159 i := fun i => ve _ _ (by omega)
  clear p3 p4 p5
  rw [hA, hB]
  clear hA hB
  have c0 : w32 p = p := w32_id (by omega) (by omega)
  have c1 : w32 L = L := w32_id (by omega) (by omega)
  have vU : EX rU u v := fun a b q => ve a b (fun z => q ⟨z.1, by omega, by omega⟩)
  obtain ⟨U, hU⟩ : ∃ U, U = jup v 155 16 p := ⟨_, rfl⟩
  have UU : EX rU u U := by rw [hU]; exact vU.up ⟨rfl, by omega, by omega⟩
  have U9 : U 155 9 = L := by rw [hU, u_ne (by omega)]; exact v9
  have U15 : U 155 15 = p := by rw [hU, u_ne (by omega)]; exact p6
  have U16 : U 155 16 = p := by rw [hU]; exact u_eq ⟨rfl, rfl⟩
  have Ut : ∀ i, U 159 i = u 159 i := fun i => by rw [hU, u_ne (by omega), vt]
  have hr0 : Md_advance_58 155 v = if p < L then (jb (Md_look2 155 p U) fun v7 s7 => jb (Md_isLetter v7 s7) fun v8 s8 => if (w32 v8) = 0 then (jb (Md_isDigit v7 s8) fun v9 s9 => if (w32 v9) = 0 then (jb (Md_isSignByte 155 v7 (jup (jup s9 155 16 ((s9 155 15) + 1)) 155 17 v7)) fun v10 s10 => if (w32 v10) = 0 then (some (0, (jup s10 155 14 4))) else (some (0, (jup s10 155 14 3)))) else (Md_advance_210 jFU 155 (jup s9 155 17 0))) else (Md_advance_109 jFU 155 (jup (jup s8 155 14 1) 155 19 0))) else some (0, jup U 155 14 0) := by
    rw [Md_advance_58, p6, ← hU, U9, U15, c0, c1]
  rw [hr0]
  clear hr0
  have tkm : ∀ {s' u' : jM}, EX rT s s' → EX rU u u' → (p ≤ s' 11 2 ∧ s' 11 2 ≤ L) → s' 11 2 = u' 155 16 → s' 11 3 = p → u' 155 15 = p → s' 11 4 = u' 155 14 → (s' 11 4 ≠ 0 → p < s' 11 2) → KDR s' u' → TK s' u' := fun {s' u'} a1 a2 a3 a4 a5 a6 a7 a8 a9 => by
    have b1 : s' 11 1 = L := by rw [a1 _ _ (by unfold rT; omega)]; exact hL.symm
    have b2 : u' 155 9 = L := by rw [a2 _ _ (by unfold rU; omega)]; exact t1.symm
    have b3 : ∀ i, s' 12 i = s 12 i := fun i => a1 _ _ (by unfold rT; omega)
    have b4 : ∀ i, u' 159 i = u 159 i := fun i => a2 _ _ (by unfold rU; omega)
    refine ⟨⟨by omega, by omega, by omega, by omega, fun i i1 i2 => by rw [b3]; exact k5 i i1 (by omega)⟩, ⟨by rw [b1, b2], a4, fun i i1 i2 => by rw [b3, b4]; exact t3 i i1 (by omega)⟩, by rw [a5, a6], by omega, by omega, fun z => by rw [a5]; exact a8 z, a7, a9⟩
  by_cases q0 : p < L
  rotate_left
  · rw [if_neg q0]
    have pe : p = L := by omega
    obtain ⟨S, hS⟩ : ∃ S, S = jup (jup (jup (jup (jup (jup s 11 3 p) 11 5 (-1)) 11 7 0) 11 6 0) 11 4 0) 11 2 p := ⟨_, rfl⟩
    have hcl : Te_advance_41 11 p s = some (0, S) := by
      rw [Te_advance_41, u_ne (by omega), u_ne (by omega), u_ne (by omega), ← hL, c0, c1, if_neg q0, Te_advance_75, u_ne (by omega), u_ne (by omega), u_ne (by omega), u_ne (by omega), ← hL, c0, c1, if_neg q0, hS]
    have sE : EX rT s S := by
      rw [hS]
      exact ((((((EX.rf _ _).up ⟨rfl, by omega, by omega⟩).up ⟨rfl, by omega, by omega⟩).up ⟨rfl, by omega, by omega⟩).up ⟨rfl, by omega, by omega⟩).up ⟨rfl, by omega, by omega⟩).up ⟨rfl, by omega, by omega⟩
    have S2 : S 11 2 = p := by rw [hS]; exact u_eq ⟨rfl, rfl⟩
    have S3 : S 11 3 = p := by rw [hS, u_ne (by omega), u_ne (by omega), u_ne (by omega), u_ne (by omega), u_ne (by omega), u_eq ⟨rfl, rfl⟩]
    have S4 : S 11 4 = 0 := by rw [hS, u_ne (by omega), u_eq ⟨rfl, rfl⟩]
    have S5 : S 11 5 = -1 := by rw [hS, u_ne (by omega), u_ne (by omega), u_ne (by omega), u_ne (by omega), u_eq ⟨rfl, rfl⟩]
    refine ⟨S, jup U 155 14 0, hcl, rfl, tkm sE (UU.up ⟨rfl, by omega, by omega⟩) (by omega) (by rw [S2, u_ne (by omega), U16]) S3 (by rw [u_ne (by omega)]; exact U15) (by rw [S4, u_eq ⟨rfl, rfl⟩]) (fun z => absurd S4 z) (Or.inl ⟨S4, S5⟩), sE, UU.up ⟨rfl, by omega, by omega⟩, by omega⟩
  rw [if_pos q0]
  obtain ⟨b1, b2, b3⟩ := hby p (by omega) q0
  obtain ⟨b, hb⟩ : ∃ b, b = s 12 p := ⟨_, rfl⟩
  rw [← hb] at b1 b2 b3
  have wb : w32 b = b := w32_id (by omega) (by omega)
  have wu : w32 (ub b) = ub b := by unfold ub; split <;> exact w32_id (by omega) (by omega)
  have c3 : 0 ≤ p ∧ p < 900 := by omega
  rw [look_eq k2 U9 ⟨by omega, q0⟩ (by rw [Ut]; exact b1.symm) ⟨b2, b3⟩, jb_t, Md_isLetter, wu]
  obtain ⟨S, hS⟩ : ∃ S, S = jup (jup (jup (jup s 11 3 p) 11 5 (-1)) 11 7 0) 11 6 b := ⟨_, rfl⟩
  have sE : EX rT s S := by
    rw [hS]
    exact ((((EX.rf _ _).up ⟨rfl, by omega, by omega⟩).up ⟨rfl, by omega, by omega⟩).up ⟨rfl, by omega, by omega⟩).up ⟨rfl, by omega, by omega⟩
  have S1 : S 11 1 = L := by rw [sE _ _ (by unfold rT; omega)]; exact hL.symm
  have S3 : S 11 3 = p := by rw [hS, u_ne (by omega), u_ne (by omega), u_ne (by omega), u_eq ⟨rfl, rfl⟩]
  have S5 : S 11 5 = -1 := by rw [hS, u_ne (by omega), u_ne (by omega), u_eq ⟨rfl, rfl⟩]
  have S6 : S 11 6 = b := by rw [hS, u_eq ⟨rfl, rfl⟩]
  have S7 : S 11 7 = 0 := by rw [hS, u_ne (by omega), u_eq ⟨rfl, rfl⟩]
  have St : ∀ i, S 12 i = s 12 i := fun i => sE _ _ (by unfold rT; omega)
  have hcl : Te_advance_41 11 p s = if 97 ≤ b ∧ b ≤ 122 then (jb (Te_scanWord 11 S) fun v2 s2 => some (0, s2)) else if 48 ≤ b ∧ b ≤ 57 then (jb (Te_scanNumber 11 S) fun v2 s2 => some (0, s2)) else Te_advance_149 11 p S := by
    rw [Te_advance_41, u_ne (by omega), u_ne (by omega), u_ne (by omega), ← hL, c0, c1, if_pos q0, if_pos c3]
    show Te_advance_75 11 p (jup (jup (jup s 11 3 p) 11 5 (-1)) 11 7 0 12 p) 11 _ = _
    rw [u_ne (by omega), u_ne (by omega), u_ne (by omega), ← hb, Te_advance_75, ← hS, S1, S6, c0, c1, wb, if_pos q0, Te_advance_124, S6, wb]
    by_cases z1 : b < 97
    · rw [if_pos z1, if_neg (c := 97 ≤ b ∧ b ≤ 122) (by omega)]
      by_cases z2 : b < 48
      · rw [if_pos z2, if_neg (by omega)]
      · rw [if_neg z2]
        by_cases z3 : 57 < b
        · rw [if_pos z3, if_neg (by omega)]
        · rw [if_neg z3, if_pos (by omega)]
    · rw [if_neg z1]
      by_cases z2 : 122 < b
      · rw [if_pos z2, if_neg (c := 97 ≤ b ∧ b ≤ 122) (by omega), if_neg (by omega), if_pos (by omega), if_neg (by omega)]
      · rw [if_neg z2, if_pos (by omega)]
  rw [hcl]
  clear hcl
  by_cases z1 : 97 ≤ b ∧ b ≤ 122
  · rw [if_pos z1]
    have eu : ub b = b := if_neg (by omega)
    rw [eu, if_neg (by omega), if_neg (by omega), jb_t, if_neg (by decide)]
    have f1 : (L - p).toNat < jFU := Nat.lt_of_lt_of_le (m := 1000) (by omega) (jFU_ge (by decide))
    obtain ⟨e, s', u', e1, e2, e3, e4, e5, e6, e7, e8, e9, e10⟩ := word_eq (st := p) (by omega) k2 (L - p).toNat jFU jFU 0 S (jup (jup U 155 14 1) 155 19 0) (by omega) f1 f1 S1 S3 (by rw [u_ne (by omega), u_ne (by omega)]; exact U9) (by rw [u_ne (by omega), u_ne (by omega)]; exact U15) (by rw [u_ne (by omega), u_ne (by omega)]; omega) (fun i i1 i2 => by rw [St, u_ne (by omega), u_ne (by omega), Ut]; exact hby i i1 i2) (Or.inl ⟨by omega, [], rfl, fun d hd => absurd hd List.not_mem_nil, S7, by rw [u_eq ⟨rfl, rfl⟩]; rfl⟩)
    have e0 : 0 < e := by
      rcases Nat.eq_zero_or_pos e with y | y
      · exfalso
        have := e10 y.symm (by omega)
        rw [show p + ((0 : Nat) : Int) = p by omega, St, ← hb] at this
        exact this z1
      · exact y
    clear e10
    have hw : Te_scanWord 11 S = Te_scanWord_60 11 (p + e) s' := by
      rw [Te_scanWord, S3]
      rw [show p + ((0 : Nat) : Int) = p by omega] at e3
      exact e3
    have s3 : s' 11 3 = p := by rw [e5 _ _ (by unfold r7; omega)]; exact S3
    have s5 : s' 11 5 = -1 := by rw [e5 _ _ (by unfold r7; omega)]; exact S5
    have sE' : EX rT s s' := sE.tr (e5.wk (fun a b q => by unfold r7 at q; unfold rT; omega))
    have uE' : EX rU u u' := ((UU.up ⟨rfl, by omega, by omega⟩).up ⟨rfl, by omega, by omega⟩).tr (e6.wk (fun a b q => by unfold r689 at q; unfold rU; omega))
    have u14 : u' 155 14 = 1 := by rw [e6 _ _ (by unfold r689; omega), u_ne (by omega), u_eq ⟨rfl, rfl⟩]
    have u15 : u' 155 15 = p := by rw [e6 _ _ (by unfold r689; omega), u_ne (by omega), u_ne (by omega)]; exact U15
    have we : w32 (e : Int) = e := w32_id (by omega) (by omega)
    obtain ⟨T, hT⟩ : ∃ T, T = jup (jup s' 11 4 1) 11 2 (p + e) := ⟨_, rfl⟩
    have TE : EX rT s T := by
      rw [hT]
      exact (sE'.up ⟨rfl, by omega, by omega⟩).up ⟨rfl, by omega, by omega⟩
    have T2 : T 11 2 = p + e := by rw [hT, u_eq ⟨rfl, rfl⟩]
    have T3 : T 11 3 = p := by rw [hT, u_ne (by omega), u_ne (by omega)]; exact s3
    have T4 : T 11 4 = 1 := by rw [hT, u_ne (by omega), u_eq ⟨rfl, rfl⟩]
    have T5 : T 11 5 = -1 := by rw [hT, u_ne (by omega), u_ne (by omega)]; exact s5
    have T7 : T 11 7 = s' 11 7 := by rw [hT, u_ne (by omega), u_ne (by omega)]
    have h60 : Te_scanWord_60 11 (p + e) s' = if 8 < (e : Int) then Te_scanWord_88 jFU 11 0 (jup T 11 7 0) else Te_scanWord_88 jFU 11 0 T := by
      rw [Te_scanWord_60, ← hT, T3, show p + (e : Int) - p = e by omega, we]
    rw [hw, h60]
    by_cases y : 8 < (e : Int)
    · rw [if_pos y]
      have w2 : u' 155 19 = -1 := by
        rcases e9 with ⟨a, -⟩ | ⟨-, a⟩
        · omega
        · exact a
      obtain ⟨x, x1, x2⟩ := scan88 (x := 0) (by unfold i64; omega) 26 jFU 0 (jup T 11 7 0) (by omega) (bub_ge (by omega)) (u_eq ⟨rfl, rfl⟩) (Or.inl ⟨by rw [u_ne (by omega)]; exact T5, fun j j1 j2 => by omega⟩)
      have xv : x = -1 := by
        rcases x2 with ⟨a, -⟩ | ⟨a, b, c⟩
        · exact a
        · have := kw_b ⟨a, b⟩
          omega
      have x1' : Te_scanWord_88 jFU 11 0 (jup T 11 7 0) = some (0, jup (jup T 11 7 0) 11 5 x) := x1
      rw [x1', jb_t]
      have FE : EX rT s (jup (jup T 11 7 0) 11 5 x) := (TE.up ⟨rfl, by omega, by omega⟩).up ⟨rfl, by omega, by omega⟩
      refine ⟨_, u', rfl, e4, tkm FE uE' ?_ ?_ ?_ u15 ?_ ?_ ?_, FE, uE', ?_⟩
      · rw [u_ne (by omega), u_ne (by omega), T2]; omega
      · rw [u_ne (by omega), u_ne (by omega), T2, e7]
      · rw [u_ne (by omega), u_ne (by omega)]; exact T3
      · rw [u_ne (by omega), u_ne (by omega), T4, u14]
      · rw [u_ne (by omega), u_ne (by omega), T2]; omega
      · refine Or.inr (Or.inl ⟨by rw [u_ne (by omega), u_ne (by omega)]; exact T4, Or.inr ⟨by rw [u_ne (by omega), u_eq ⟨rfl, rfl⟩], by omega, by omega, w2, by rw [u_eq ⟨rfl, rfl⟩]; exact xv⟩⟩)
      · rw [u_ne (by omega), u_ne (by omega), T3]; exact p1
    · rw [if_neg y]
      obtain ⟨l, l1, l2, l3, l4⟩ : ∃ l : List Int, l.length = e ∧ (∀ d ∈ l, 1 ≤ d ∧ d ≤ 26) ∧ s' 11 7 = enc8 l ∧ u' 155 19 = enc5 l := by
        rcases e9 with ⟨-, a⟩ | ⟨a, -⟩
        · exact a
        · omega
      have hl : LTR l := ⟨fun z => by rw [z] at l1; have : (0 : Nat) = e := l1; omega, by omega, l2⟩
      have ib : i64 (s' 11 7) := by
        obtain ⟨l', d, rfl⟩ : ∃ l' d, l = l' ++ [d] := ⟨l.dropLast, l.getLast hl.1, (List.dropLast_concat_getLast _).symm⟩
        have hd := l2 d (by simp)
        have := enc8_b (l := l') (by rw [List.length_append] at l1; simp at l1; omega) (fun x hx => l2 x (List.mem_append_left _ hx))
        rw [l3, enc8_s]
        unfold i64
        omega
      obtain ⟨x, x1, x2⟩ := scan88 ib 26 jFU 0 T (by omega) (bub_ge (by omega)) T7 (Or.inl ⟨T5, fun j j1 j2 => by omega⟩)
      have x1' : Te_scanWord_88 jFU 11 0 T = some (0, jup T 11 5 x) := x1
      rw [x1', jb_t]
      have FE : EX rT s (jup T 11 5 x) := TE.up ⟨rfl, by omega, by omega⟩
      refine ⟨_, u', rfl, e4, tkm FE uE' ?_ ?_ ?_ u15 ?_ ?_ ?_, FE, uE', ?_⟩
      · rw [u_ne (by omega), T2]; omega
      · rw [u_ne (by omega), T2, e7]
      · rw [u_ne (by omega)]; exact T3
      · rw [u_ne (by omega), T4, u14]
      · rw [u_ne (by omega), T2]; omega
      · refine Or.inr (Or.inl ⟨by rw [u_ne (by omega)]; exact T4, Or.inl ⟨l, hl, by rw [u_ne (by omega), T7]; exact l3, l4, by omega, by rw [u_ne (by omega), u_eq ⟨rfl, rfl⟩, T7]; exact x2⟩⟩)
      · rw [u_ne (by omega), T3]; exact p1
  · rw [if_neg z1]
    have nl : ¬ (97 ≤ ub b ∧ ub b ≤ 122) := by unfold ub; split <;> omega
    have hl2 : (jb (if ub b < 97 then some ((0 : Int), U) else if 122 < ub b then some (0, U) else some (1, U)) fun v8 s8 => if (w32 v8) = 0 then (jb (Md_isDigit (ub b) s8) fun v9 s9 => if (w32 v9) = 0 then (jb (Md_isSignByte 155 (ub b) (jup (jup s9 155 16 ((s9 155 15) + 1)) 155 17 (ub b))) fun v10 s10 => if (w32 v10) = 0 then (some ((0 : Int), (jup s10 155 14 4))) else (some (0, (jup s10 155 14 3)))) else (Md_advance_210 jFU 155 (jup s9 155 17 0))) else (Md_advance_109 jFU 155 (jup (jup s8 155 14 1) 155 19 0))) = if 48 ≤ b ∧ b ≤ 57 then Md_advance_210 jFU 155 (jup U 155 17 0) else (jb (Md_isSignByte 155 (ub b) (jup (jup U 155 16 (p + 1)) 155 17 (ub b))) fun v10 s10 => if (w32 v10) = 0 then (some (0, (jup s10 155 14 4))) else (some (0, (jup s10 155 14 3)))) := by
      have h1 : (if ub b < 97 then some ((0 : Int), U) else if 122 < ub b then some (0, U) else some (1, U)) = some (0, U) := by
        by_cases y : ub b < 97
        · rw [if_pos y]
        · rw [if_neg y, if_pos (by omega)]
      rw [h1, jb_t, if_pos (by decide), Md_isDigit, wu, U15]
      by_cases y : 48 ≤ b ∧ b ≤ 57
      · have eu : ub b = b := if_neg (by omega)
        rw [eu, if_neg (by omega), if_neg (by omega), jb_t, if_neg (by decide), if_pos y]
      · rw [if_neg y]
        have nd : ub b < 48 ∨ 57 < ub b := by unfold ub; split <;> omega
        by_cases x : ub b < 48
        · rw [if_pos x, jb_t, if_pos (by decide), U15]
        · rw [if_neg x, if_pos (nd.resolve_left x), jb_t, if_pos (by decide), U15]
    rw [hl2]
    clear hl2
    by_cases z2 : 48 ≤ b ∧ b ≤ 57
    · rw [if_pos z2, if_pos z2]
      have f1 : (L - p).toNat < jFU := Nat.lt_of_lt_of_le (m := 1000) (by omega) (jFU_ge (by decide))
      obtain ⟨e, s', u', e1, e2, e3, e4, e5, e6, e7, e8, e9, e10, e11, e12⟩ := num_eq (st := p) (by omega) k2 (L - p).toNat jFU jFU 0 (jup S 11 6 0) (jup U 155 17 0) (by omega) f1 f1 (by rw [u_ne (by omega)]; exact S1) (by rw [u_ne (by omega)]; exact S3) (by rw [u_ne (by omega)]; exact U9) (by rw [u_ne (by omega)]; exact U15) (by rw [u_ne (by omega)]; omega) (fun i i1 i2 => by rw [u_ne (by omega), St, u_ne (by omega), Ut]; exact hby i i1 i2) (by rw [u_eq ⟨rfl, rfl⟩, u_eq ⟨rfl, rfl⟩]) (by rw [u_eq ⟨rfl, rfl⟩]; omega) (by rw [u_eq ⟨rfl, rfl⟩]; omega)
      have e0 : 0 < e := by
        rcases Nat.eq_zero_or_pos e with y | y
        · exfalso
          have := e12 y.symm (by omega)
          rw [show p + ((0 : Nat) : Int) = p by omega, u_ne (by omega), St, ← hb] at this
          exact this z2
        · exact y
      clear e12
      have hw : Te_scanNumber 11 S = some (0, jup (jup s' 11 4 (if 4 < e then 4 else 2)) 11 2 (p + e)) := by
        rw [Te_scanNumber, S3]
        rw [show p + ((0 : Nat) : Int) = p by omega] at e3
        exact e3
      rw [hw, jb_t]
      have sE' : EX rT s s' := (sE.up ⟨rfl, by omega, by omega⟩).tr (e5.wk (fun a b q => by unfold r6 at q; unfold rT; omega))
      have uE' : EX rU u u' := (UU.up ⟨rfl, by omega, by omega⟩).tr (e6.wk (fun a b q => by unfold r67 at q; unfold rU; omega))
      have s3 : s' 11 3 = p := by rw [e5 _ _ (by unfold r6; omega), u_ne (by omega)]; exact S3
      have s5 : s' 11 5 = -1 := by rw [e5 _ _ (by unfold r6; omega), u_ne (by omega)]; exact S5
      have u15 : u' 155 15 = p := by rw [e6 _ _ (by unfold r67; omega), u_ne (by omega)]; exact U15
      have FE : EX rT s (jup (jup s' 11 4 (if 4 < e then 4 else 2)) 11 2 (p + e)) := (sE'.up ⟨rfl, by omega, by omega⟩).up ⟨rfl, by omega, by omega⟩
      refine ⟨_, u', rfl, e4, tkm FE uE' ?_ ?_ ?_ u15 ?_ ?_ ?_, FE, uE', ?_⟩
      · rw [u_eq ⟨rfl, rfl⟩]; omega
      · rw [u_eq ⟨rfl, rfl⟩, e7]
      · rw [u_ne (by omega), u_ne (by omega)]; exact s3
      · rw [u_ne (by omega), u_eq ⟨rfl, rfl⟩, e8]
      · rw [u_eq ⟨rfl, rfl⟩]; omega
      · by_cases y : 4 < e
        · exact Or.inr (Or.inr (Or.inr (Or.inr ⟨by rw [u_ne (by omega), u_eq ⟨rfl, rfl⟩, if_pos y], by rw [u_ne (by omega), u_ne (by omega)]; exact s5⟩)))
        · exact Or.inr (Or.inr (Or.inl ⟨by rw [u_ne (by omega), u_eq ⟨rfl, rfl⟩, if_neg y], by rw [u_ne (by omega), u_ne (by omega)]; exact s5, by rw [u_ne (by omega), u_ne (by omega)]; exact e9, by rw [u_ne (by omega), u_ne (by omega)]; exact e10, by rw [u_ne (by omega), u_ne (by omega)]; exact e11⟩))
      · rw [u_ne (by omega), u_ne (by omega), s3]; exact p1
    · rw [if_neg z2, if_neg z2]
      have key : ∀ w, w = 3 ∨ w = 4 → (w = 3 → 59 ≤ b ∧ b ≤ 62) → Te_advance_149 11 p S = some (0, jup (jup S 11 4 w) 11 2 (p + 1)) → (jb (Md_isSignByte 155 (ub b) (jup (jup U 155 16 (p + 1)) 155 17 (ub b))) fun v10 s10 => if (w32 v10) = 0 then (some ((0 : Int), (jup s10 155 14 4))) else (some (0, (jup s10 155 14 3)))) = some (0, jup (jup (jup U 155 16 (p + 1)) 155 17 (ub b)) 155 14 w) → ∃ s' u', Te_advance_149 11 p S = some (0, s') ∧ (jb (Md_isSignByte 155 (ub b) (jup (jup U 155 16 (p + 1)) 155 17 (ub b))) fun v10 s10 => if (w32 v10) = 0 then (some ((0 : Int), (jup s10 155 14 4))) else (some (0, (jup s10 155 14 3)))) = some (0, u') ∧ TK s' u' ∧ EX rT s s' ∧ EX rU u u' ∧ s 11 2 ≤ s' 11 3 := fun w hw hw3 x1 x2 => by
        have FE : EX rT s (jup (jup S 11 4 w) 11 2 (p + 1)) := (sE.up ⟨rfl, by omega, by omega⟩).up ⟨rfl, by omega, by omega⟩
        have GE : EX rU u (jup (jup (jup U 155 16 (p + 1)) 155 17 (ub b)) 155 14 w) := ((UU.up ⟨rfl, by omega, by omega⟩).up ⟨rfl, by omega, by omega⟩).up ⟨rfl, by omega, by omega⟩
        refine ⟨_, _, x1, x2, tkm FE GE ?_ ?_ ?_ ?_ ?_ ?_ ?_, FE, GE, ?_⟩
        · rw [u_eq ⟨rfl, rfl⟩]; omega
        · rw [u_eq ⟨rfl, rfl⟩, u_ne (by omega), u_ne (by omega), u_eq ⟨rfl, rfl⟩]
        · rw [u_ne (by omega), u_ne (by omega)]; exact S3
        · rw [u_ne (by omega), u_ne (by omega), u_ne (by omega)]; exact U15
        · rw [u_ne (by omega), u_eq ⟨rfl, rfl⟩, u_eq ⟨rfl, rfl⟩]
        · rw [u_eq ⟨rfl, rfl⟩]; omega
        · rcases hw with y | y
          · subst y
            obtain ⟨y1, y2⟩ := hw3 rfl
            have eu : ub b = b := if_neg (by omega)
            refine Or.inr (Or.inr (Or.inr (Or.inl ⟨by rw [u_ne (by omega), u_eq ⟨rfl, rfl⟩], by rw [u_ne (by omega), u_ne (by omega)]; exact S5, ?_, ?_, ?_⟩)))
            · rw [u_ne (by omega), u_ne (by omega), S6, u_ne (by omega), u_eq ⟨rfl, rfl⟩, eu]
            · rw [u_ne (by omega), u_ne (by omega), S6]; exact y1
            · rw [u_ne (by omega), u_ne (by omega), S6]; exact y2
          · subst y
            exact Or.inr (Or.inr (Or.inr (Or.inr ⟨by rw [u_ne (by omega), u_eq ⟨rfl, rfl⟩], by rw [u_ne (by omega), u_ne (by omega)]; exact S5⟩)))
        · rw [u_ne (by omega), u_ne (by omega), S3]; exact p1
      by_cases z3 : 59 ≤ b ∧ b ≤ 62
      · have eu : ub b = b := if_neg (by omega)
        refine key 3 (Or.inl rfl) (fun _ => z3) ?_ ?_
        · rw [Te_advance_149, S6, wb]
          rcases (by omega : b = 59 ∨ b = 60 ∨ b = 61 ∨ b = 62) with y | y | y | y <;> rw [y] <;> simp only [if_pos, Int.reduceEq, if_false, if_true]
        · rw [eu, Md_isSignByte, wb]
          rcases (by omega : b = 59 ∨ b = 60 ∨ b = 61 ∨ b = 62) with y | y | y | y <;> rw [y] <;> rfl
      · have nb : ¬ (59 ≤ ub b ∧ ub b ≤ 62) := by unfold ub; split <;> omega
        refine key 4 (Or.inr rfl) (fun z => absurd z (by decide)) ?_ ?_
        · rw [Te_advance_149, S6, wb, if_neg (by omega), if_neg (by omega), if_neg (by omega), if_neg (by omega)]
        · rw [Md_isSignByte, wu, if_neg (by omega), if_neg (by omega), if_neg (by omega), if_neg (by omega)]
          rfl
