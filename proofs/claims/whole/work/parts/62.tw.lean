/-! the text -/
def SFT (s : jM) : Prop := 0 ≤ s 11 1 ∧ s 11 1 ≤ 900 ∧ 0 ≤ s 11 2 ∧ s 11 2 ≤ s 11 1 ∧ ∀ i, 0 ≤ i → i < s 11 1 → -128 ≤ s 12 i ∧ s 12 i ≤ 127
def TXT (s u : jM) : Prop := s 11 1 = u 155 9 ∧ s 11 2 = u 155 16 ∧ ∀ i, 0 ≤ i → i < s 11 1 → s 12 i = u 159 i
def WRD (s u : jM) : Prop := (∃ l, LTR l ∧ s 11 7 = enc8 l ∧ u 155 19 = enc5 l ∧ u 155 18 = (l.length : Int) ∧ KW (s 11 7) (s 11 5)) ∨ (s 11 7 = 0 ∧ 8 < u 155 18 ∧ u 155 18 ≤ 900 ∧ u 155 19 = -1 ∧ s 11 5 = -1)
def KDR (s u : jM) : Prop := (s 11 4 = 0 ∧ s 11 5 = -1) ∨ (s 11 4 = 1 ∧ WRD s u) ∨ (s 11 4 = 2 ∧ s 11 5 = -1 ∧ s 11 6 = u 155 17 ∧ 0 ≤ s 11 6 ∧ s 11 6 ≤ 9999) ∨ (s 11 4 = 3 ∧ s 11 5 = -1 ∧ s 11 6 = u 155 17 ∧ 59 ≤ s 11 6 ∧ s 11 6 ≤ 62) ∨ (s 11 4 = 4 ∧ s 11 5 = -1)
def TK (s u : jM) : Prop := SFT s ∧ TXT s u ∧ s 11 3 = u 155 15 ∧ 0 ≤ s 11 3 ∧ s 11 3 ≤ s 11 2 ∧ (s 11 4 ≠ 0 → s 11 3 < s 11 2) ∧ s 11 4 = u 155 14 ∧ KDR s u
def rT (a b : Int) : Prop := a = 11 ∧ 2 ≤ b ∧ b ≤ 7
def rU (a b : Int) : Prop := a = 155 ∧ 14 ≤ b ∧ b ≤ 19
/-- the byte that the reference sees -/
def ub (b : Int) : Int := if b < 0 then b + 256 else b
theorem look_eq {L i b : Int} {u : jM} (hL : L ≤ 900) (h9 : u 155 9 = L) (hi : 0 ≤ i ∧ i < L) (h : u 159 i = b) (hb : -128 ≤ b ∧ b ≤ 127) : Md_look2 155 i u = some (ub b, u) := by
  rw [Md_look2, h9, w32_id (by omega) (by omega), w32_id (by omega) (by omega), if_pos hi.2, if_pos (by omega)]
  show some (jiand (u 159 i) 255, u) = _
  rw [h, and255 hb]
  rfl
theorem look_end {L i : Int} {u : jM} (hL : 0 ≤ L ∧ L ≤ 900) (h9 : u 155 9 = L) (hi : i = L) : Md_look2 155 i u = some (0, u) := by
  rw [Md_look2, h9, w32_id (by omega) (by omega), w32_id (by omega) (by omega), if_neg (by omega)]
theorem w32_ub {b : Int} (h : -128 ≤ b ∧ b ≤ 127) : w32 (ub b) = ub b := by unfold ub; split <;> exact w32_id (by omega) (by omega)
/-! a word -/
def wI (k : Nat) (A B : Int) : Prop := (k ≤ 8 ∧ ∃ l, l.length = k ∧ (∀ d ∈ l, 1 ≤ d ∧ d ≤ 26) ∧ A = enc8 l ∧ B = enc5 l) ∨ (8 < k ∧ B = -1)
def r7 (a b : Int) : Prop := a = 11 ∧ b = 7
def r689 (a b : Int) : Prop := a = 155 ∧ (b = 16 ∨ b = 18 ∨ b = 19)
theorem enc5_b {l : List Int} (h : l.length ≤ 8) (hl : ∀ d ∈ l, 1 ≤ d ∧ d ≤ 26) : 0 ≤ enc5 l := (enc_inv l.length l rfl hl).2.1
theorem word_eq {st L : Int} (hst : 0 ≤ st) (hL : L ≤ 900) : ∀ (d f f2 k : Nat) (s u : jM), st + k + d = L → d < f → d < f2 → s 11 1 = L → s 11 3 = st → u 155 9 = L → u 155 15 = st → u 155 16 = st + k → (∀ i, 0 ≤ i → i < L → s 12 i = u 159 i ∧ -128 ≤ s 12 i ∧ s 12 i ≤ 127) → wI k (s 11 7) (u 155 19) → ∃ (e : Nat) (s' u' : jM), k ≤ e ∧ st + e ≤ L ∧ Te_scanWord_5 f 11 (st + k) s = Te_scanWord_60 11 (st + e) s' ∧ Md_advance_109 f2 155 u = some (0, u') ∧ EX r7 s s' ∧ EX r689 u u' ∧ u' 155 16 = st + e ∧ u' 155 18 = e ∧ wI e (s' 11 7) (u' 155 19) ∧ (k = e → st + k < L → ¬ (97 ≤ s 12 (st + k) ∧ s 12 (st + k) ≤ 122)) := by
  intro d
  induction d with
  | zero =>
    intro f f2 k s u h1 h2 h3 h4 h5 h6 h7 h8 h9 h10
    obtain ⟨f, rfl⟩ : ∃ g, f = g + 1 := ⟨f - 1, by omega⟩
    obtain ⟨f2, rfl⟩ : ∃ g, f2 = g + 1 := ⟨f2 - 1, by omega⟩
    refine ⟨k, s, jup u 155 18 k, Nat.le_refl _, by omega, ?_, ?_, EX.rf _ _, (EX.rf _ _).up ⟨rfl, by omega⟩, by rw [u_ne (by omega)]; exact h8, u_eq ⟨rfl, rfl⟩, by rw [u_ne (by omega)]; exact h10, fun _ q => by omega⟩
    · rw [Te_scanWord_5, h4, w32_id (x := st + (k : Int)) (by omega) (by omega), w32_id (x := L) (by omega) (by omega), if_neg (by omega)]
    · rw [Md_advance_109, h8, look_end (L := L) (by omega) h6 (by omega), jb_t, Md_isLetter, if_pos (by decide), jb_t, if_pos (by decide), h8, h7, show st + (k : Int) - st = k by omega]
  | succ d ih =>
    intro f f2 k s u h1 h2 h3 h4 h5 h6 h7 h8 h9 h10
    obtain ⟨f, rfl⟩ : ∃ g, f = g + 1 := ⟨f - 1, by omega⟩
    obtain ⟨f2, rfl⟩ : ∃ g, f2 = g + 1 := ⟨f2 - 1, by omega⟩
    have c2 : st + (k : Int) < L := by omega
    have c3 : 0 ≤ st + (k : Int) ∧ st + (k : Int) < 900 := by omega
    have c4 : st + ((k + 1 : Nat) : Int) = st + k + 1 := by omega
    obtain ⟨b1, b2, b3⟩ := h9 (st + k) (by omega) c2
    obtain ⟨b, hb⟩ : ∃ b, b = s 12 (st + k) := ⟨_, rfl⟩
    rw [← hb] at b1 b2 b3 ⊢
    have lk := fun (v : jM) (v1 : v 155 9 = L) (v2 : v 159 (st + k) = b) => look_eq hL v1 ⟨c3.1, c2⟩ v2 ⟨b2, b3⟩
    have hc : Te_scanWord_5 (f + 1) 11 (st + k) s = if 97 ≤ b ∧ b ≤ 122 then Te_scanWord_5 f 11 (st + k + 1) (jup s 11 7 (jlor (jlshl (s 11 7) 8) b)) else Te_scanWord_60 11 (st + k) s := by
      rw [Te_scanWord_5, h4, w32_id (x := st + (k : Int)) (by omega) (by omega), w32_id (x := L) (by omega) (by omega), if_pos c2, if_pos c3]
      show (if w32 (s 12 (st + k)) < 97 then _ else _) = _
      rw [← hb, w32_id (x := b) (by omega) (by omega)]
      by_cases q1 : b < 97
      · rw [if_pos q1, if_neg (by omega)]
      · rw [if_neg q1, if_pos c3]
        show (if 122 < w32 (s 12 (st + k)) then _ else (if _ then Te_scanWord_5 f 11 _ (jup s 11 7 (jlor (jlshl (s 11 7) 8) (w32 (s 12 (st + k))))) else none)) = _
        rw [← hb, w32_id (x := b) (by omega) (by omega)]
        by_cases q2 : 122 < b
        · rw [if_pos q2, if_neg (by omega)]
        · rw [if_neg q2, if_pos c3, if_pos (by omega)]
    have hr : Md_advance_109 (f2 + 1) 155 u = if 97 ≤ b ∧ b ≤ 122 then (if (k : Int) < 8 then Md_advance_109 f2 155 (jup (jup u 155 19 (u 155 19 * 32 + b - 96)) 155 16 (st + k + 1)) else Md_advance_109 f2 155 (jup (jup u 155 19 (-1)) 155 16 (st + k + 1))) else some (0, jup u 155 18 k) := by
      have k4 : k < 1000 := by omega
      rw [Md_advance_109, h8, lk u h6 b1.symm, jb_t, Md_isLetter]
      by_cases q : 97 ≤ b ∧ b ≤ 122
      · have eu : ub b = b := if_neg (by omega)
        rw [eu, w32_id (x := b) (by omega) (by omega), if_neg (by omega), if_neg (by omega), jb_t, if_neg (by decide), h8, h7, show st + (k : Int) - st = k by omega, w32n k4, if_pos q]
        by_cases z : (k : Int) < 8
        · rw [if_pos z, if_pos z, lk u h6 b1.symm, jb_t, eu, w32_id (x := b) (by omega) (by omega), u_ne (by omega), h8]
        · rw [if_neg z, if_neg z, u_ne (by omega), h8]
      · have eu : ub b < 97 ∨ 122 < ub b := by
          unfold ub
          split <;> omega
        rw [if_neg q, w32_ub ⟨b2, b3⟩]
        by_cases z : ub b < 97
        · rw [if_pos z, jb_t, if_pos (by decide), h8, h7, show st + (k : Int) - st = k by omega]
        · rw [if_neg z, if_pos (eu.resolve_left z), jb_t, if_pos (by decide), h8, h7, show st + (k : Int) - st = k by omega]
    rw [hc, hr]
    clear hc hr lk
    by_cases q : 97 ≤ b ∧ b ≤ 122
    · rw [if_pos q, if_pos q]
      have step : ∀ (A B : Int), wI (k + 1) A B → ∃ (e : Nat) (s' u' : jM), k ≤ e ∧ st + e ≤ L ∧ Te_scanWord_5 f 11 (st + k + 1) (jup s 11 7 A) = Te_scanWord_60 11 (st + e) s' ∧ Md_advance_109 f2 155 (jup (jup u 155 19 B) 155 16 (st + k + 1)) = some (0, u') ∧ EX r7 s s' ∧ EX r689 u u' ∧ u' 155 16 = st + e ∧ u' 155 18 = e ∧ wI e (s' 11 7) (u' 155 19) ∧ (k = e → st + k < L → ¬ (97 ≤ b ∧ b ≤ 122)) := fun A B hAB => by
        obtain ⟨e, s', u', e1, e2, e3, e4, e5, e6, e7, e8, e9, -⟩ := ih f f2 (k + 1) (jup s 11 7 A) (jup (jup u 155 19 B) 155 16 (st + k + 1)) (by omega) (by omega) (by omega) (by rw [u_ne (by omega)]; exact h4) (by rw [u_ne (by omega)]; exact h5) (by rw [u_ne (by omega), u_ne (by omega)]; exact h6) (by rw [u_ne (by omega), u_ne (by omega)]; exact h7) (by rw [u_eq ⟨rfl, rfl⟩]; omega) (fun i i1 i2 => by rw [u_ne (by omega), u_ne (by omega), u_ne (by omega)]; exact h9 i i1 i2) (by rw [u_eq ⟨rfl, rfl⟩, u_ne (by omega), u_eq ⟨rfl, rfl⟩]; exact hAB)
        rw [c4] at e3
        exact ⟨e, s', u', by omega, e2, e3, e4, ((EX.rf _ _).up ⟨rfl, rfl⟩).tr e5, (((EX.rf _ _).up ⟨rfl, by omega⟩).up ⟨rfl, by omega⟩).tr e6, e7, e8, e9, fun z => by omega⟩
      by_cases z : (k : Int) < 8
      · rw [if_pos z]
        refine step _ _ ?_
        rcases h10 with ⟨a1, l, a2, a3, a4, a5⟩ | ⟨a1, a2⟩
        · refine Or.inl ⟨by omega, l ++ [b - 96], by rw [List.length_append, a2]; rfl, fun d hd => ?_, ?_, ?_⟩
          · rcases List.mem_append.1 hd with y | y
            · exact a3 d y
            · rw [List.mem_singleton.1 y]; omega
          · have eb := enc8_b (l := l) (by omega) a3
            rw [a4, pack8 eb (by omega), enc8_s]
            omega
          · rw [a5, enc5_s]
            omega
        · omega
      · rw [if_neg z]
        exact step _ _ (Or.inr ⟨by omega, rfl⟩)
    · rw [if_neg q, if_neg q]
      exact ⟨k, s, jup u 155 18 k, Nat.le_refl _, by omega, rfl, rfl, EX.rf _ _, (EX.rf _ _).up ⟨rfl, by omega⟩, by rw [u_ne (by omega)]; exact h8, u_eq ⟨rfl, rfl⟩, by rw [u_ne (by omega)]; exact h10, fun _ _ => q⟩
