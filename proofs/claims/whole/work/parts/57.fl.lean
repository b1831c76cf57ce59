/-! FILLINGS: the list both sides walk -/
def fsum : List Int → Int
  | [] => 0
  | c :: cs => c + fsum cs
def grd : List Int → Int → List Int
  | [], _ => []
  | c :: cs, R => (if c < R then c else R) :: grd cs (R - (if c < R then c else R))
/-- x, x-1, .. 0 at the head -/
def blk (F : Int → List (List Int)) (R : Int) : Nat → List (List Int)
  | 0 => (F R).map (fun v => 0 :: v)
  | x + 1 => (F (R - (x + 1))).map (fun v => ((x : Int) + 1) :: v) ++ blk F R x
def fl : List Int → Int → List (List Int)
  | [], R => if R = 0 then [[]] else []
  | c :: cs, R => blk (fl cs) R ((if c < R then c else R)).toNat
def nx : List Int → List Int → Option (List Int)
  | c :: cs, x :: xs => match nx cs xs with
    | some ys => some (x :: ys)
    | none => if 0 < x ∧ fsum xs < fsum cs then some ((x - 1) :: grd cs (fsum xs + 1)) else none
  | _, _ => none
def chn (f : List Int → Option (List Int)) : List (List Int) → Option (List Int) → Prop
  | [], s => s = none
  | x :: L, s => s = some x ∧ chn f L (f x)
theorem fsum_nn : ∀ {cs : List Int}, (∀ c, c ∈ cs → 0 ≤ c) → 0 ≤ fsum cs := by
  intro cs
  induction cs with
  | nil => intro _; exact Int.le_refl 0
  | cons c cs ih =>
    intro h
    have a := h c (List.mem_cons_self ..)
    have b := ih (fun x hx => h x (List.mem_cons_of_mem _ hx))
    show 0 ≤ c + fsum cs
    omega
theorem fl_sum : ∀ {cs : List Int} {R : Int} {v : List Int}, v ∈ fl cs R → fsum v = R ∧ v.length = cs.length := by
  intro cs
  induction cs with
  | nil =>
    intro R v h
    rw [fl] at h
    split at h
    · rename_i e
      rw [List.mem_singleton] at h
      subst h
      exact ⟨e.symm, rfl⟩
    · exact absurd h List.not_mem_nil
  | cons c cs ih =>
    intro R v h
    rw [fl] at h
    generalize (if c < R then c else R).toNat = m at h
    induction m with
    | zero =>
      rw [blk, List.mem_map] at h
      obtain ⟨w, w1, rfl⟩ := h
      have := ih w1
      refine ⟨?_, by rw [List.length_cons, List.length_cons, this.2]⟩
      show 0 + fsum w = R
      omega
    | succ m ihm =>
      rw [blk, List.mem_append, List.mem_map] at h
      rcases h with ⟨w, w1, rfl⟩ | h
      · have := ih w1
        refine ⟨?_, by rw [List.length_cons, List.length_cons, this.2]⟩
        show (m : Int) + 1 + fsum w = R
        omega
      · exact ihm h
/-- one block, then what follows -/
theorem chn_blk {c : Int} {cs : List Int} {x : Int} : ∀ {L M : List (List Int)} {o : Option (List Int)} {R : Int}, (∀ v, v ∈ L → fsum v = R) → chn (nx cs) L o → L ≠ [] → chn (nx (c :: cs)) M (if 0 < x ∧ R < fsum cs then some ((x - 1) :: grd cs (R + 1)) else none) → chn (nx (c :: cs)) (L.map (fun v => x :: v) ++ M) (o.map (fun v => x :: v)) := by
  intro L
  induction L with
  | nil => intro M o R h1 h2 h3; exact absurd rfl h3
  | cons y L ih =>
    intro M o R h1 h2 h3 h4
    obtain ⟨h2, h5⟩ := h2
    subst h2
    refine ⟨rfl, ?_⟩
    have hy := h1 y (List.mem_cons_self ..)
    cases L with
    | nil =>
      have e : nx cs y = none := h5
      show chn _ M (nx (c :: cs) (x :: y))
      rw [nx, e]
      rw [hy]
      exact h4
    | cons z L =>
      have h6 := ih (M := M) (fun v hv => h1 v (List.mem_cons_of_mem _ hv)) h5 (List.cons_ne_nil _ _) h4
      obtain ⟨e, -⟩ := h5
      rw [e] at h6
      show chn _ (_ :: (L.map _ ++ M)) (nx (c :: cs) (x :: y))
      rw [nx, e]
      exact h6
theorem blk_nil {F : Int → List (List Int)} {R : Int} : ∀ m : Nat, (∀ x : Int, 0 ≤ x → x ≤ m → F (R - x) = []) → blk F R m = [] := by
  intro m
  induction m with
  | zero =>
    intro h
    have := h 0 (by omega) (by omega)
    rw [Int.sub_zero] at this
    rw [blk, this]
    rfl
  | succ m ih =>
    intro h
    have h1 := h ((m : Int) + 1) (by omega) (by omega)
    rw [blk, h1, ih (fun x a b => h x a (by omega))]
    rfl
theorem chn_fl : ∀ {cs : List Int} {R : Int}, (∀ c, c ∈ cs → 0 ≤ c) → 0 ≤ R → chn (nx cs) (fl cs R) (if R ≤ fsum cs then some (grd cs R) else none) ∧ (fl cs R = [] ↔ fsum cs < R) := by
  intro cs
  induction cs with
  | nil =>
    intro R h h0
    rw [fl]
    by_cases q : R = 0
    · subst q
      rw [if_pos rfl, if_pos (c := (0 : Int) ≤ fsum []) (Int.le_refl 0)]
      exact ⟨⟨rfl, rfl⟩, ⟨fun z => absurd z (List.cons_ne_nil _ _), fun z => absurd z (Int.lt_irrefl 0)⟩⟩
    · rw [if_neg q, if_neg (by show ¬ R ≤ 0; omega)]
      exact ⟨rfl, ⟨fun _ => by show (0 : Int) < R; omega, fun _ => rfl⟩⟩
  | cons c cs ih =>
    intro R h h0
    have hc := h c (List.mem_cons_self ..)
    have hcs : ∀ x, x ∈ cs → 0 ≤ x := fun x hx => h x (List.mem_cons_of_mem _ hx)
    have hn := fsum_nn hcs
    have hs : fsum (c :: cs) = c + fsum cs := rfl
    have key : ∀ m : Nat, (m : Int) ≤ R → chn (nx (c :: cs)) (blk (fl cs) R m) (if R - m ≤ fsum cs then some ((m : Int) :: grd cs (R - m)) else none) ∧ (blk (fl cs) R m = [] ↔ fsum cs < R - m) := by
      intro m
      induction m with
      | zero =>
        intro hm
        have a := ih (R := R) hcs h0
        rw [blk]
        show chn _ _ (if R - 0 ≤ fsum cs then some ((0 : Int) :: grd cs (R - 0)) else none) ∧ (_ ↔ fsum cs < R - 0)
        rw [Int.sub_zero]
        by_cases q : R ≤ fsum cs
        · have e : fl cs R ≠ [] := fun z => by have := a.2.1 z; omega
          have b := chn_blk (c := c) (x := 0) (M := []) (fun v hv => (fl_sum hv).1) a.1 e (by rw [if_neg (fun z => absurd z.1 (Int.lt_irrefl 0))]; rfl)
          rw [if_pos q, List.append_nil] at b
          rw [if_pos q]
          refine ⟨b, fun z => ?_, fun z => by omega⟩
          exact absurd (List.map_eq_nil_iff.1 z) e
        · have e : fl cs R = [] := a.2.2 (by omega)
          rw [if_neg q, e]
          exact ⟨rfl, fun _ => by omega, fun _ => rfl⟩
      | succ m ihm =>
        intro hm
        have b := ihm (by omega)
        have a := ih (R := R - ((m : Int) + 1)) hcs (by omega)
        rw [blk]
        have hm1 : ((m + 1 : Nat) : Int) = (m : Int) + 1 := by omega
        rw [hm1]
        by_cases q : R - ((m : Int) + 1) ≤ fsum cs
        · have e : fl cs (R - ((m : Int) + 1)) ≠ [] := fun z => by have := a.2.1 z; omega
          have d := chn_blk (c := c) (x := (m : Int) + 1) (M := blk (fl cs) R m) (fun v hv => (fl_sum hv).1) a.1 e (by
            by_cases q2 : R - (m : Int) ≤ fsum cs
            · rw [if_pos (by omega), show (m : Int) + 1 - 1 = m by omega, show R - ((m : Int) + 1) + 1 = R - m by omega]
              have := b.1
              rw [if_pos q2] at this
              exact this
            · rw [if_neg (by omega)]
              have := b.1
              rw [if_neg q2] at this
              exact this)
          rw [if_pos q] at d
          rw [if_pos q]
          refine ⟨d, fun z => ?_, fun z => by omega⟩
          exact absurd (List.map_eq_nil_iff.1 (List.append_eq_nil_iff.1 z).1) e
        · have e : fl cs (R - ((m : Int) + 1)) = [] := a.2.2 (by omega)
          by_cases q2 : R - (m : Int) ≤ fsum cs
          · exfalso
            omega
          · have e2 := b.2.2 (by omega)
            rw [if_neg q, e, e2]
            exact ⟨rfl, fun _ => by omega, fun _ => rfl⟩
    have hm0 : 0 ≤ (if c < R then c else R) ∧ (if c < R then c else R) ≤ R ∧ (R - (if c < R then c else R) ≤ fsum cs ↔ R ≤ c + fsum cs) ∧ (fsum cs < R - (if c < R then c else R) ↔ c + fsum cs < R) := by
      split <;> omega
    rw [fl, grd, hs]
    generalize (if c < R then c else R) = m at hm0 ⊢
    obtain ⟨M, rfl⟩ : ∃ M : Nat, m = M := ⟨m.toNat, by omega⟩
    have k := key M hm0.2.1
    rw [Int.toNat_natCast]
    by_cases q : R ≤ c + fsum cs
    · rw [if_pos (hm0.2.2.1.2 q)] at k
      rw [if_pos q, ← hm0.2.2.2]
      exact k
    · rw [if_neg (fun z => q (hm0.2.2.1.1 z))] at k
      rw [if_neg q, ← hm0.2.2.2]
      exact k
theorem fl_nn : ∀ {cs : List Int} {R : Int} {v : List Int}, v ∈ fl cs R → ∀ x, x ∈ v → 0 ≤ x := by
  intro cs
  induction cs with
  | nil =>
    intro R v h
    have := (fl_sum h).2
    intro x hx
    have e : v = [] := List.length_eq_zero_iff.1 this
    rw [e] at hx
    exact absurd hx List.not_mem_nil
  | cons c cs ih =>
    intro R v h
    rw [fl] at h
    generalize (if c < R then c else R).toNat = m at h
    induction m with
    | zero =>
      rw [blk, List.mem_map] at h
      obtain ⟨w, w1, rfl⟩ := h
      intro x hx
      rcases List.mem_cons.1 hx with e | e
      · omega
      · exact ih w1 x e
    | succ m ihm =>
      rw [blk, List.mem_append, List.mem_map] at h
      rcases h with ⟨w, w1, rfl⟩ | h
      · intro x hx
        rcases List.mem_cons.1 hx with e | e
        · omega
        · exact ih w1 x e
      · exact ihm h
theorem blk_len {F : Int → List (List Int)} {R : Int} {B : Nat} : ∀ m : Nat, (∀ x : Nat, x ≤ m → (F (R - x)).length ≤ B) → (blk F R m).length ≤ (m + 1) * B := by
  intro m
  induction m with
  | zero =>
    intro h
    have := h 0 (Nat.le_refl 0)
    rw [blk, List.length_map, Nat.zero_add, Nat.one_mul]
    rw [show R - ((0 : Nat) : Int) = R by omega] at this
    exact this
  | succ m ih =>
    intro h
    have a := ih (fun x hx => h x (by omega))
    have b := h (m + 1) (Nat.le_refl _)
    rw [show R - ((m + 1 : Nat) : Int) = R - ((m : Int) + 1) by omega] at b
    rw [blk, List.length_append, List.length_map, Nat.add_mul (m + 1) 1 B, Nat.one_mul]
    omega
theorem blk_one {R : Int} : ∀ m : Nat, (m : Int) ≤ R → (blk (fl []) R m).length ≤ if R = m then 1 else 0 := by
  intro m
  induction m with
  | zero =>
    intro h
    rw [blk, List.length_map, fl]
    by_cases q : R = 0
    · rw [if_pos q, if_pos (c := R = ((0 : Nat) : Int)) q]
      exact Nat.le_refl 1
    · rw [if_neg q, if_neg (c := R = ((0 : Nat) : Int)) q]
      exact Nat.le_refl 0
  | succ m ih =>
    intro h
    have a := ih (by omega)
    rw [if_neg (by omega)] at a
    rw [blk, List.length_append, List.length_map, fl]
    by_cases q : R = ((m + 1 : Nat) : Int)
    · rw [if_pos (by omega), if_pos q]
      show 1 + _ ≤ 1
      omega
    · rw [if_neg (by omega), if_neg q]
      show 0 + _ ≤ 0
      omega
theorem fl_len : ∀ {cs : List Int} {R : Int}, 0 ≤ R → R ≤ 9 → (fl cs R).length ≤ 10 ^ (cs.length - 1) := by
  intro cs
  induction cs with
  | nil =>
    intro R h0 h9
    rw [fl]
    split
    · exact Nat.le_refl 1
    · exact Nat.zero_le _
  | cons c cs ih =>
    intro R h0 h9
    have hm : (((if c < R then c else R).toNat : Nat) : Int) ≤ R ∧ (if c < R then c else R).toNat ≤ 9 := by
      split <;> omega
    rw [fl]
    generalize (if c < R then c else R).toNat = m at hm
    cases cs with
    | nil =>
      refine Nat.le_trans (blk_one m hm.1) ?_
      split
      · exact Nat.le_refl 1
      · exact Nat.zero_le _
    | cons d cs =>
      have a := blk_len (F := fl (d :: cs)) (R := R) (B := 10 ^ ((d :: cs).length - 1)) m (fun x hx => ih (by omega) (by omega))
      refine Nat.le_trans a ?_
      show (m + 1) * 10 ^ cs.length ≤ 10 ^ (cs.length + 1)
      rw [Nat.pow_succ, Nat.mul_comm (10 ^ cs.length) 10]
      exact Nat.mul_le_mul_right _ (by omega)
/-- a list lies in the cells -/
def rowA (s : jM) (k : Int) : Int → List Int → Prop
  | _, [] => True
  | j, x :: xs => s k j = x ∧ rowA s k (j + 1) xs
theorem rowA_fr {s t : jM} {k : Int} : ∀ {xs : List Int} {j : Int}, rowA s k j xs → (∀ b, j ≤ b → t k b = s k b) → rowA t k j xs := by
  intro xs
  induction xs with
  | nil => intro j _ _; trivial
  | cons x xs ih =>
    intro j h e
    exact ⟨(e j (Int.le_refl j)).trans h.1, ih h.2 (fun b hb => e b (by omega))⟩
def sm (g : Int → Int) : List Int → Int → Int
  | [], _ => 0
  | x :: xs, j => x * g j + sm g xs (j + 1)
def r17 (n j a b : Int) : Prop := a = 17 ∧ j ≤ b ∧ b < n
theorem fill_eq {n : Int} (hn : 0 ≤ n ∧ n ≤ 5) : ∀ (cs : List Int) (R j : Int) (f : Nat) (s : jM), s 16 0 = n → rowA s 18 j cs → (∀ c, c ∈ cs → 0 ≤ c ∧ c ≤ 1000) → 0 ≤ R → R ≤ 1000 → 0 ≤ j → j + cs.length = n → cs.length < f → ∃ t, Fi_fillFrom_5 f 16 R j s = some (if R ≤ fsum cs then 1 else 0, t) ∧ rowA t 17 j (grd cs R) ∧ EX (r17 n j) s t := by
  intro cs
  induction cs with
  | nil =>
    intro R j f s h0 h1 h2 h3 h4 h5 h6 h7
    obtain ⟨f, rfl⟩ : ∃ g, f = g + 1 := ⟨f - 1, by omega⟩
    have e : j = n := by simp only [List.length_nil] at h6; omega
    refine ⟨s, ?_, trivial, EX.rf _ _⟩
    by_cases q : R = 0
    · rw [if_pos (show R ≤ fsum [] by show R ≤ 0; omega), Fi_fillFrom_5]
      simp (disch := omega) only [↓jb_m, ↓jm_s, ↓reduceIte, t_lt, t_nlt, t_le, t_nle, t_eq, t_neq, w32_id, w64_id, jb_s, and_true, true_and, and_self, and_false, false_and, or_true, true_or, or_false, false_or, or_self, not_false_eq_true, not_true_eq_false, u_ne, u_eq, u_u, Int.reduceAdd, Int.reduceSub, Int.reduceMul, Int.reduceNeg, Int.zero_add, Int.add_zero, n15, n16, q10, q11, q12, q13, q14, h0]
    · rw [if_neg (show ¬ R ≤ fsum [] by show ¬ R ≤ 0; omega), Fi_fillFrom_5]
      simp (disch := omega) only [↓jb_m, ↓jm_s, ↓reduceIte, t_lt, t_nlt, t_le, t_nle, t_eq, t_neq, w32_id, w64_id, jb_s, and_true, true_and, and_self, and_false, false_and, or_true, true_or, or_false, false_or, or_self, not_false_eq_true, not_true_eq_false, u_ne, u_eq, u_u, Int.reduceAdd, Int.reduceSub, Int.reduceMul, Int.reduceNeg, Int.zero_add, Int.add_zero, n15, n16, q10, q11, q12, q13, q14, h0]
  | cons c cs ih =>
    intro R j f s h0 h1 h2 h3 h4 h5 h6 h7
    rw [List.length_cons] at h6 h7
    obtain ⟨f, rfl⟩ : ∃ g, f = g + 1 := ⟨f - 1, by omega⟩
    have hc := h2 c (List.mem_cons_self ..)
    have hcs : ∀ x, x ∈ cs → 0 ≤ x ∧ x ≤ 1000 := fun x hx => h2 x (List.mem_cons_of_mem _ hx)
    have e1 : s 18 j = c := h1.1
    have hm : jmin c R = (if c < R then c else R) := by
      rw [jmin_e (by unfold i32; omega) (by unfold i32; omega)]
      split <;> split <;> omega
    have hmb : 0 ≤ (if c < R then c else R) ∧ (if c < R then c else R) ≤ R := by split <;> omega
    have hq : (R - (if c < R then c else R) ≤ fsum cs) = (R ≤ fsum (c :: cs)) := by
      have hn := fsum_nn (fun x hx => (hcs x hx).1)
      refine propext ?_
      show _ ↔ R ≤ c + fsum cs
      split <;> omega
    obtain ⟨t, t1, t2, t3⟩ := ih (R - (if c < R then c else R)) (j + 1) f (jup s 17 j (if c < R then c else R)) (by rw [u_ne (by omega)]; exact h0) (rowA_fr h1.2 (fun b _ => u_ne (by omega))) hcs (by omega) (by omega) (by omega) (by omega) (by omega)
    refine ⟨t, ?_, ⟨?_, t2⟩, EX.tr ((EX.rf _ _).up ⟨rfl, by omega, by omega⟩) (t3.wk (fun a b q => ⟨q.1, by have := q.2; omega, q.2.2⟩))⟩
    · simp only [hq] at t1
      rw [Fi_fillFrom_5]
      generalize (if c < R then c else R) = M at hm t1 hmb
      clear ih hq t2 t3 h1 h2 hcs
      simp (disch := omega) only [↓jb_m, ↓jm_s, ↓reduceIte, t_lt, t_nlt, t_le, t_nle, t_eq, t_neq, w32_id, w64_id, jb_s, and_true, true_and, and_self, and_false, false_and, or_true, true_or, or_false, false_or, or_self, not_false_eq_true, not_true_eq_false, u_ne, u_eq, u_u, Int.reduceAdd, Int.reduceSub, Int.reduceMul, Int.reduceNeg, Int.zero_add, Int.add_zero, n15, n16, q10, q11, q12, q13, q14, h0, e1, hm]
      exact t1
    · rw [t3 17 j (by unfold r17; omega)]
      exact u_eq ⟨rfl, rfl⟩
theorem sumBy_eq {n g : Int} (hn : 0 ≤ n ∧ n ≤ 5) {s : jM} (h0 : s 16 0 = n) : ∀ (xs : List Int) (a j : Int) (f : Nat), rowA s 17 j xs → 0 ≤ j → j + xs.length = n → xs.length < f → Fi_sumBy_4 f 16 g a j s = some (a + sm (s g) xs j, s) := by
  intro xs
  induction xs with
  | nil =>
    intro a j f h1 h5 h6 h7
    obtain ⟨f, rfl⟩ : ∃ g, f = g + 1 := ⟨f - 1, by omega⟩
    have e : j = n := by simp only [List.length_nil] at h6; omega
    rw [Fi_sumBy_4]
    simp (disch := omega) only [↓jb_m, ↓jm_s, ↓reduceIte, t_lt, t_nlt, t_le, t_nle, t_eq, t_neq, w32_id, w64_id, jb_s, and_true, true_and, and_self, and_false, false_and, or_true, true_or, or_false, false_or, or_self, not_false_eq_true, not_true_eq_false, u_ne, u_eq, u_u, Int.reduceAdd, Int.reduceSub, Int.reduceMul, Int.reduceNeg, Int.zero_add, Int.add_zero, n15, n16, q10, q11, q12, q13, q14, h0]
    rw [sm, Int.add_zero]
  | cons x xs ih =>
    intro a j f h1 h5 h6 h7
    rw [List.length_cons] at h6 h7
    obtain ⟨f, rfl⟩ : ∃ g, f = g + 1 := ⟨f - 1, by omega⟩
    have e1 : s 17 j = x := h1.1
    have t1 := ih (a + x * s g j) (j + 1) f h1.2 (by omega) (by omega) (by omega)
    rw [Fi_sumBy_4]
    simp (disch := omega) only [↓jb_m, ↓jm_s, ↓reduceIte, t_lt, t_nlt, t_le, t_nle, t_eq, t_neq, w32_id, w64_id, jb_s, and_true, true_and, and_self, and_false, false_and, or_true, true_or, or_false, false_or, or_self, not_false_eq_true, not_true_eq_false, u_ne, u_eq, u_u, Int.reduceAdd, Int.reduceSub, Int.reduceMul, Int.reduceNeg, Int.zero_add, Int.add_zero, n15, n16, q10, q11, q12, q13, q14, h0, e1]
    rw [t1, sm, Int.add_assoc]
theorem goOn_eq {n : Int} (hn : 0 ≤ n ∧ n ≤ 5) {s : jM} (h0 : s 16 0 = n) : ∀ (cs xs : List Int) (j : Int) (f : Nat), rowA s 18 j cs → rowA s 17 j xs → xs.length = cs.length → (∀ c, c ∈ cs → 0 ≤ c ∧ c ≤ 1000) → (∀ x, x ∈ xs → 0 ≤ x ∧ x ≤ 9) → fsum cs ≤ 10000 → fsum xs ≤ 9 → 0 ≤ j → j + cs.length = n → cs.length < f →
    (∀ ys, nx cs xs = some ys → ∃ t, Fi_goOn_11 f 16 0 0 (n - 1) s = some (1, t) ∧ rowA t 17 j ys ∧ EX (r17 n j) s t) ∧ (nx cs xs = none → Fi_goOn_11 f 16 0 0 (n - 1) s = Fi_goOn_11 (f - cs.length) 16 (fsum xs) (fsum cs) (j - 1) s) := by
  intro cs
  induction cs with
  | nil =>
    intro xs j f h1 h2 h3 h4 h5 h6 h7 h8 h9 h10
    have e : j = n := by simp only [List.length_nil] at h9; omega
    have ex : xs = [] := List.length_eq_zero_iff.1 h3
    subst ex
    refine ⟨fun ys z => ?_, fun _ => ?_⟩
    · rw [nx] at z
      · exact absurd z (by intro q; cases q)
      · intro a b c d q; exact absurd q (by intro q; cases q)
    · rw [e]
      rfl
  | cons c cs ih =>
    intro xs j f h1 h2 h3 h4 h5 h6 h7 h8 h9 h10
    cases xs with
    | nil => exact absurd h3 (by rw [List.length_cons, List.length_nil]; omega)
    | cons x xs =>
      rw [List.length_cons] at h9 h10
      rw [List.length_cons, List.length_cons] at h3
      have hcs : ∀ x, x ∈ cs → 0 ≤ x ∧ x ≤ 1000 := fun x hx => h4 x (List.mem_cons_of_mem _ hx)
      have hxs : ∀ y, y ∈ xs → 0 ≤ y ∧ y ≤ 9 := fun y hy => h5 y (List.mem_cons_of_mem _ hy)
      have hc := h4 c (List.mem_cons_self ..)
      have hx := h5 x (List.mem_cons_self ..)
      have sc : fsum (c :: cs) = c + fsum cs := rfl
      have sx : fsum (x :: xs) = x + fsum xs := rfl
      have n1 := fsum_nn (fun y hy => (hcs y hy).1)
      have n2 := fsum_nn (fun y hy => (hxs y hy).1)
      have I := ih xs (j + 1) f h1.2 h2.2 (by omega) hcs hxs (by omega) (by omega) (by omega) (by omega) (by omega)
      have e1 : s 17 j = x := h2.1
      have e2 : s 18 j = c := h1.1
      cases hnx : nx cs xs with
      | some zs =>
        obtain ⟨t, t1, t2, t3⟩ := I.1 zs hnx
        refine ⟨fun ys z => ?_, fun z => ?_⟩
        · rw [nx, hnx] at z
          have z := Option.some.inj z
          subst z
          refine ⟨t, t1, ⟨?_, t2⟩, t3.wk (fun a b q => ⟨q.1, by have := q.2; omega, q.2.2⟩)⟩
          rw [t3 17 j (by unfold r17; omega)]
          exact e1
        · rw [nx, hnx] at z
          exact absurd z (by intro q; cases q)
      | none =>
        have t1 := I.2 hnx
        obtain ⟨F, hF⟩ : ∃ F, f - cs.length = F + 1 := ⟨f - cs.length - 1, by omega⟩
        have hF2 : f - (c :: cs).length = F := by rw [List.length_cons]; omega
        rw [hF, show j + 1 - 1 = j by omega] at t1
        have m1 : x + fsum xs = fsum xs + x := Int.add_comm _ _
        have m2 : c + fsum cs = fsum cs + c := Int.add_comm _ _
        by_cases q : 0 < x ∧ fsum xs < fsum cs
        · refine ⟨fun ys z => ?_, fun z => ?_⟩
          · rw [nx, hnx] at z
            have z : (if 0 < x ∧ fsum xs < fsum cs then some ((x - 1) :: grd cs (fsum xs + 1)) else none) = some ys := z
            rw [if_pos q] at z
            have z := Option.some.inj z
            subst z
            obtain ⟨t, v1, v2, v3⟩ := fill_eq hn cs (fsum xs + 1) (j + 1) jFU (jup s 17 j (x - 1)) (by rw [u_ne (by omega)]; exact h0) (rowA_fr h1.2 (fun b _ => u_ne (by omega))) hcs (by omega) (by omega) (by omega) (by omega) (bub_ge (by omega))
            rw [if_pos (by omega)] at v1
            refine ⟨t, ?_, ⟨?_, v2⟩, EX.tr ((EX.rf _ _).up ⟨rfl, by omega, by omega⟩) (v3.wk (fun a b q => ⟨q.1, by have := q.2; omega, q.2.2⟩))⟩
            · rw [t1, Fi_goOn_11]
              clear t1 I ih v2 v3 h1 h2 hcs hxs hnx h4 h5 m1 m2
              have k6 : fsum cs ≤ 10000 := by omega
              clear sc sx h6 h7
              generalize fsum xs = X at v1 q n2 ⊢
              generalize fsum cs = Y at v1 q n1 k6 ⊢
              simp (disch := omega) only [↓jb_m, ↓jm_s, ↓reduceIte, t_lt, t_nlt, t_le, t_nle, t_eq, t_neq, w32_id, w64_id, jb_s, and_true, true_and, and_self, and_false, false_and, or_true, true_or, or_false, false_or, or_self, not_false_eq_true, not_true_eq_false, u_ne, u_eq, u_u, Int.reduceAdd, Int.reduceSub, Int.reduceMul, Int.reduceNeg, Int.zero_add, Int.add_zero, n15, n16, q10, q11, q12, q13, q14, e1, Fi_fillFrom, v1]
            · rw [v3 17 j (by unfold r17; omega)]
              exact u_eq ⟨rfl, rfl⟩
          · rw [nx, hnx] at z
            have z : (if 0 < x ∧ fsum xs < fsum cs then some ((x - 1) :: grd cs (fsum xs + 1)) else none) = none := z
            rw [if_pos q] at z
            exact absurd z (by intro q; cases q)
        · refine ⟨fun ys z => ?_, fun z => ?_⟩
          · rw [nx, hnx] at z
            have z : (if 0 < x ∧ fsum xs < fsum cs then some ((x - 1) :: grd cs (fsum xs + 1)) else none) = some ys := z
            rw [if_neg q] at z
            exact absurd z (by intro q; cases q)
          · rw [t1, hF2, sx, sc, m1, m2, Fi_goOn_11]
            clear t1 I ih h1 h2 hcs hxs hnx h4 h5 z
            have k6 : fsum cs ≤ 10000 := by omega
            have k7 : fsum xs ≤ 9 := by omega
            clear sc sx m1 m2 h6 h7
            generalize fsum xs = X at q n2 k7 ⊢
            generalize fsum cs = Y at q n1 k6 ⊢
            by_cases q1 : 0 < x
            · have q2 : Y ≤ X := by omega
              clear q
              simp (disch := omega) only [↓jb_m, ↓jm_s, ↓reduceIte, t_lt, t_nlt, t_le, t_nle, t_eq, t_neq, w32_id, w64_id, jb_s, and_true, true_and, and_self, and_false, false_and, or_true, true_or, or_false, false_or, or_self, not_false_eq_true, not_true_eq_false, u_ne, u_eq, u_u, Int.reduceAdd, Int.reduceSub, Int.reduceMul, Int.reduceNeg, Int.zero_add, Int.add_zero, n15, n16, q10, q11, q12, q13, q14, e1, e2, Fi_goOn_50]
              rfl
            · clear q
              simp (disch := omega) only [↓jb_m, ↓jm_s, ↓reduceIte, t_lt, t_nlt, t_le, t_nle, t_eq, t_neq, w32_id, w64_id, jb_s, and_true, true_and, and_self, and_false, false_and, or_true, true_or, or_false, false_or, or_self, not_false_eq_true, not_true_eq_false, u_ne, u_eq, u_u, Int.reduceAdd, Int.reduceSub, Int.reduceMul, Int.reduceNeg, Int.zero_add, Int.add_zero, n15, n16, q10, q11, q12, q13, q14, e1, e2, Fi_goOn_50]
              rfl
def cpl (g : Int → Int) : Nat → Int → List Int
  | 0, _ => []
  | m + 1, j => g j :: cpl g m (j + 1)
theorem cpl_len {g : Int → Int} : ∀ (m : Nat) (j : Int), (cpl g m j).length = m := by
  intro m
  induction m with
  | zero => intro j; rfl
  | succ m ih => intro j; rw [cpl, List.length_cons, ih]
theorem cpl_mem {g : Int → Int} {P : Int → Prop} : ∀ (m : Nat) (j : Int), (∀ i, j ≤ i → i < j + m → P (g i)) → ∀ c, c ∈ cpl g m j → P c := by
  intro m
  induction m with
  | zero => intro j h c hc; exact absurd hc List.not_mem_nil
  | succ m ih =>
    intro j h c hc
    rcases List.mem_cons.1 hc with e | e
    · rw [e]; exact h j (Int.le_refl j) (by omega)
    · exact ih (j + 1) (fun i a b => h i (by omega) (by omega)) c e
/-- what a kind may give: C, or no more than lies in g -/
def cap (fl C : Int) (g : Int → Int) : Int → Int := fun j => if fl = 0 then C else if g j < C then g j else C
def r18 (j a b : Int) : Prop := a = 18 ∧ j ≤ b
theorem beg_eq {n B C fg : Int} (hn : 0 ≤ n ∧ n ≤ 5) (hB : 30 ≤ B) (hC : 0 ≤ C ∧ C ≤ 9) (hf : fg = 0 ∨ fg = 1) {g : Int → Int} (hg : ∀ j, 0 ≤ j → j < n → 0 ≤ g j ∧ g j ≤ 999) : ∀ (m : Nat) (j : Int) (f : Nat) (s : jM), s 16 0 = n → (∀ j, 0 ≤ j → j < n → s (B + 3) j = g j) → 0 ≤ j → j + m = n → m < f → ∃ t, Fi_begin_11 f 16 B C fg j s = (jb (Fi_fillFrom 16 0 C t) fun v1 s1 => if v1 = 0 ∨ v1 = 1 then some (v1, s1) else none) ∧ rowA t 18 j (cpl (cap fg C g) m j) ∧ EX (r18 j) s t := by
  intro m
  induction m with
  | zero =>
    intro j f s h0 h1 h2 h3 h4
    obtain ⟨f, rfl⟩ : ∃ g, f = g + 1 := ⟨f - 1, by omega⟩
    have hlt : ¬ w32 j < w32 (s 16 0) := by rw [h0, show j = n by omega]; exact Int.lt_irrefl _
    exact ⟨s, by rw [Fi_begin_11, if_neg hlt], trivial, EX.rf _ _⟩
  | succ m ih =>
    intro j f s h0 h1 h2 h3 h4
    obtain ⟨f, rfl⟩ : ∃ g, f = g + 1 := ⟨f - 1, by omega⟩
    have a1 := h1 j h2 (by omega)
    have a2 := hg j h2 (by omega)
    obtain ⟨t, t1, t2, t3⟩ := ih (j + 1) f (jup s 18 j (cap fg C g j)) (by rw [u_ne (by omega)]; exact h0) (fun i i1 i2 => by rw [u_ne (by omega)]; exact h1 i i1 i2) (by omega) (by omega) (by omega)
    refine ⟨t, ?_, ⟨?_, t2⟩, EX.tr ((EX.rf _ _).up ⟨rfl, by omega⟩) (t3.wk (fun a b q => ⟨q.1, by have := q.2; omega⟩))⟩
    · rw [Fi_begin_11]
      rcases hf with q | q
      · have e : cap fg C g j = C := if_pos q
        rw [e] at t1
        subst q
        simp (disch := omega) only [↓jb_m, ↓jm_s, ↓reduceIte, t_lt, t_nlt, t_le, t_nle, t_eq, t_neq, w32_id, w64_id, jb_s, and_true, true_and, and_self, and_false, false_and, or_true, true_or, or_false, false_or, or_self, not_false_eq_true, not_true_eq_false, u_ne, u_eq, u_u, Int.reduceAdd, Int.reduceSub, Int.reduceMul, Int.reduceNeg, Int.zero_add, Int.add_zero, n15, n16, q10, q11, q12, q13, q14, h0]
        exact t1
      · have e : cap fg C g j = jmin C (s (B + 3) j) := by
          rw [a1, jmin_e (by unfold i32; omega) (by unfold i32; omega), cap, if_neg (by omega)]
        rw [e] at t1
        subst q
        simp (disch := omega) only [↓jb_m, ↓jm_s, ↓reduceIte, t_lt, t_nlt, t_le, t_nle, t_eq, t_neq, w32_id, w64_id, jb_s, and_true, true_and, and_self, and_false, false_and, or_true, true_or, or_false, false_or, or_self, not_false_eq_true, not_true_eq_false, u_ne, u_eq, u_u, Int.reduceAdd, Int.reduceSub, Int.reduceMul, Int.reduceNeg, Int.zero_add, Int.add_zero, n15, n16, q10, q11, q12, q13, q14, h0]
        exact t1
    · rw [t3 18 j (by unfold r18; omega)]
      exact u_eq ⟨rfl, rfl⟩
def r678 (a b : Int) : Prop := (a = 16 ∧ b = 0) ∨ a = 17 ∨ a = 18
theorem begin_eq {n : Nat} {B C fg : Int} (hn : n ≤ 5) (hB : 30 ≤ B) (hC : 0 ≤ C ∧ C ≤ 9) (hf : fg = 0 ∨ fg = 1) {g : Int → Int} (hg : ∀ j, 0 ≤ j → j < (n : Int) → 0 ≤ g j ∧ g j ≤ 999) {s : jM} (h0 : s B 4 = n) (h1 : ∀ j, 0 ≤ j → j < (n : Int) → s (B + 3) j = g j) : ∃ t, Fi_begin 16 B C fg s = some (if C ≤ fsum (cpl (cap fg C g) n 0) then 1 else 0, t) ∧ t 16 0 = n ∧ rowA t 18 0 (cpl (cap fg C g) n 0) ∧ rowA t 17 0 (grd (cpl (cap fg C g) n 0) C) ∧ EX r678 s t := by
  obtain ⟨t, t1, t2, t3⟩ := beg_eq (n := n) (by omega) hB hC hf hg n 0 jFU (jup s 16 0 (s B 4)) (by rw [u_eq ⟨rfl, rfl⟩]; exact h0) (fun j j1 j2 => by rw [u_ne (by omega)]; exact h1 j j1 j2) (by omega) (by omega) (bub_ge (by omega))
  have e0 : t 16 0 = n := by rw [t3 16 0 (by unfold r18; omega), u_eq ⟨rfl, rfl⟩, h0]
  obtain ⟨v, v1, v2, v3⟩ := fill_eq (n := n) (by omega) (cpl (cap fg C g) n 0) C 0 jFU t e0 t2 (cpl_mem (P := fun c => 0 ≤ c ∧ c ≤ 1000) n 0 (fun i i1 i2 => by
    have := hg i i1 (by omega)
    show 0 ≤ cap fg C g i ∧ cap fg C g i ≤ 1000
    unfold cap
    split
    · omega
    · split <;> omega)) hC.1 (by omega) (by omega) (by rw [cpl_len]; omega) (by rw [cpl_len]; exact bub_ge (by omega))
  refine ⟨v, ?_, ?_, rowA_fr t2 (fun b _ => v3 18 b (by unfold r17; omega)), v2, ((EX.rf _ _).up (Or.inl ⟨rfl, rfl⟩)).tr ((t3.wk (fun a b q => Or.inr (Or.inr q.1))).tr (v3.wk (fun a b q => Or.inr (Or.inl q.1))))⟩
  · rw [Fi_begin, t1, Fi_fillFrom, v1, jb_t]
    split
    · rw [if_pos (Or.inr rfl)]
    · rw [if_pos (Or.inl rfl)]
  · rw [v3 16 0 (by unfold r17; omega)]; exact e0
/-- one filling seen: W 0 counts, W 1 0 the least cost, W 1 1 the greatest strength, W 2 the cheapest -/
def vis (need : Int) (sg kp : Int → Int) (W : jM) (xs : List Int) : jM :=
  let W2 := jup (jup W 0 (sm sg xs 0) (W 0 (sm sg xs 0) + 1)) 1 1 (if W 1 1 < sm sg xs 0 then sm sg xs 0 else W 1 1)
  if ¬ sm sg xs 0 < need ∧ (W 1 0 < 0 ∨ sm kp xs 0 < W 1 0) then fun r c => if r = 1 ∧ c = 0 then sm kp xs 0 else if r = 2 then xs.getD c.toNat 0 else W2 r c else W2
theorem sm_b {g : Int → Int} {M : Int} : ∀ (xs : List Int) (j : Int), (∀ x, x ∈ xs → 0 ≤ x) → (∀ i, j ≤ i → i < j + xs.length → 0 ≤ g i ∧ g i ≤ M) → 0 ≤ sm g xs j ∧ sm g xs j ≤ fsum xs * M := by
  intro xs
  induction xs with
  | nil => intro j _ _; exact ⟨Int.le_refl 0, by show (0 : Int) ≤ 0 * M; omega⟩
  | cons x xs ih =>
    intro j h1 h2
    rw [List.length_cons] at h2
    have a := ih (j + 1) (fun y hy => h1 y (List.mem_cons_of_mem _ hy)) (fun i a b => h2 i (by omega) (by omega))
    have hx := h1 x (List.mem_cons_self ..)
    have hg := h2 j (Int.le_refl j) (by omega)
    have p := Int.mul_nonneg hx hg.1
    have q := Int.mul_le_mul_of_nonneg_left hg.2 hx
    show 0 ≤ x * g j + sm g xs (j + 1) ∧ x * g j + sm g xs (j + 1) ≤ (x + fsum xs) * M
    rw [Int.add_mul]
    omega
theorem sm_congr {g h : Int → Int} : ∀ (xs : List Int) (j : Int), (∀ i, j ≤ i → i < j + xs.length → g i = h i) → sm g xs j = sm h xs j := by
  intro xs
  induction xs with
  | nil => intro j _; rfl
  | cons x xs ih =>
    intro j h2
    rw [List.length_cons] at h2
    rw [sm, sm, h2 j (Int.le_refl j) (by omega), ih (j + 1) (fun i a b => h2 i (by omega) (by omega))]
theorem vis_0 {need : Int} {sg kp : Int → Int} {W : jM} {xs : List Int} (k : Int) : vis need sg kp W xs 0 k = if k = sm sg xs 0 then W 0 (sm sg xs 0) + 1 else W 0 k := by
  have e : jup (jup W 0 (sm sg xs 0) (W 0 (sm sg xs 0) + 1)) 1 1 (if W 1 1 < sm sg xs 0 then sm sg xs 0 else W 1 1) 0 k = if k = sm sg xs 0 then W 0 (sm sg xs 0) + 1 else W 0 k := by
    rw [u_ne (by omega), jup_at]
    by_cases q : k = sm sg xs 0
    · rw [if_pos q, if_pos ⟨rfl, q⟩]
    · rw [if_neg q, if_neg (fun z => q z.2)]
  by_cases q : ¬ sm sg xs 0 < need ∧ (W 1 0 < 0 ∨ sm kp xs 0 < W 1 0)
  · have e2 : vis need sg kp W xs = fun r c => if r = 1 ∧ c = 0 then sm kp xs 0 else if r = 2 then xs.getD c.toNat 0 else jup (jup W 0 (sm sg xs 0) (W 0 (sm sg xs 0) + 1)) 1 1 (if W 1 1 < sm sg xs 0 then sm sg xs 0 else W 1 1) r c := if_pos q
    rw [e2]
    exact e
  · have e2 : vis need sg kp W xs = jup (jup W 0 (sm sg xs 0) (W 0 (sm sg xs 0) + 1)) 1 1 (if W 1 1 < sm sg xs 0 then sm sg xs 0 else W 1 1) := if_neg q
    rw [e2]
    exact e
theorem goOn_step {n : Nat} (hn : n ≤ 5) {s : jM} (h0 : s 16 0 = n) {cs x : List Int} (h1 : rowA s 18 0 cs) (h2 : rowA s 17 0 x) (h3 : x.length = cs.length) (h4 : ∀ c, c ∈ cs → 0 ≤ c ∧ c ≤ 1000) (h5 : ∀ y, y ∈ x → 0 ≤ y ∧ y ≤ 9) (h6 : fsum cs ≤ 10000) (h7 : fsum x ≤ 9) (h8 : cs.length = n) : ∃ t, Fi_goOn 16 s = some (if (nx cs x).isSome = true then 1 else 0, t) ∧ (∀ ys, nx cs x = some ys → rowA t 17 0 ys) ∧ EX (r17 n 0) s t := by
  have g := goOn_eq (n := n) (by omega) h0 cs x 0 jFU h1 h2 h3 h4 h5 h6 h7 (Int.le_refl 0) (by omega) (bub_ge (by omega))
  rw [Fi_goOn, h0]
  cases e : nx cs x with
  | some ys =>
    obtain ⟨t, t1, t2, t3⟩ := g.1 ys e
    refine ⟨t, t1, fun zs z => ?_, t3⟩
    have z := Option.some.inj z
    subst z
    exact t2
  | none =>
    have := g.2 e
    obtain ⟨F, hF⟩ : ∃ F, jFU - cs.length = F + 1 := ⟨jFU - cs.length - 1, by have := bub_ge (m := cs.length) (by omega); omega⟩
    rw [hF, Fi_goOn_11, if_pos (by decide)] at this
    exact ⟨s, this, fun ys z => (by cases z), EX.rf _ _⟩
def r720 (a _b : Int) : Prop := a = 17 ∨ a = 20
theorem count_eq {n : Nat} (hn : n ≤ 5) {B : Int} (hB : 30 ≤ B) {need : Int} {sg kp : Int → Int} (hsg : ∀ j, 0 ≤ j → j < (n : Int) → 0 ≤ sg j ∧ sg j ≤ 9) {cs : List Int} (h4 : ∀ c, c ∈ cs → 0 ≤ c ∧ c ≤ 1000) (h6 : fsum cs ≤ 10000) (h8 : cs.length = n) : ∀ (L : List (List Int)) (o : Option (List Int)) (x5 : Int) (f : Nat) (s W : jM), chn (nx cs) L o → (∀ v, v ∈ L → fsum v ≤ 9 ∧ v.length = n ∧ ∀ y, y ∈ v → 0 ≤ y ∧ y ≤ 9) → (∀ x, o = some x → rowA s 17 0 x) → s 16 0 = n → rowA s 18 0 cs → (∀ j, 0 ≤ j → j < (n : Int) → s (B + 1) j = sg j) → (∀ k, 0 ≤ k → k < 82 → s 20 k = W 0 k) → 0 ≤ x5 → x5 + L.length ≤ 10000 → L.length < f → ∃ t, Fi_countWays_36 f 16 B (if o.isSome = true then 1 else 0) x5 s = some (0, t) ∧ (∀ k, 0 ≤ k → k < 82 → t 20 k = (L.foldl (vis need sg kp) W) 0 k) ∧ EX r720 s t := by
  intro L
  induction L with
  | nil =>
    intro o x5 f s W h1 h2 h3 h5 h7 h9 h10 h11 h12 h13
    obtain ⟨f, rfl⟩ : ∃ g, f = g + 1 := ⟨f - 1, by omega⟩
    have e : o = none := h1
    subst e
    have c : w32 (if (none : Option (List Int)).isSome = true then 1 else 0) = 0 := by decide
    exact ⟨s, by rw [Fi_countWays_36, if_pos c], h10, EX.rf _ _⟩
  | cons x L ih =>
    intro o x5 f s W h1 h2 h3 h5 h7 h9 h10 h11 h12 h13
    obtain ⟨f, rfl⟩ : ∃ g, f = g + 1 := ⟨f - 1, by omega⟩
    obtain ⟨e, h14⟩ := h1
    subst e
    rw [List.length_cons] at h12 h13
    obtain ⟨x1, x2, x3⟩ := h2 x (List.mem_cons_self ..)
    have hr := h3 x rfl
    have c : ¬ w32 (if (some x).isSome = true then 1 else 0) = 0 := by
      show ¬ w32 1 = 0
      decide
    have c2 : w32 x5 < 10000 := by rw [w32_id (by omega) (by omega)]; omega
    have hs := sumBy_eq (n := n) (g := B + 1) (by omega) h5 x 0 0 jFU hr (Int.le_refl 0) (by omega) (bub_ge (by omega))
    rw [sm_congr x 0 (fun i i1 i2 => h9 i i1 (by omega)), Int.zero_add] at hs
    have hb := sm_b (g := sg) (M := 9) x 0 (fun y hy => (x3 y hy).1) (fun i i1 i2 => hsg i i1 (by omega))
    have hv := vis_0 (need := need) (sg := sg) (kp := kp) (W := W) (xs := x)
    have hb2 : 0 ≤ sm sg x 0 ∧ sm sg x 0 ≤ 81 := by omega
    show ∃ t : jM, _ ∧ (∀ k, 0 ≤ k → k < 82 → t 20 k = (L.foldl (vis need sg kp) (vis need sg kp W x)) 0 k) ∧ _
    clear hb
    generalize sm sg x 0 = S at hs hv hb2
    have s2 : ∀ j, jup s 20 S (s 20 S + 1) 17 j = s 17 j := fun j => u_ne (by omega)
    have s3 : ∀ j, jup s 20 S (s 20 S + 1) 18 j = s 18 j := fun j => u_ne (by omega)
    obtain ⟨t, t1, t2, t3⟩ := goOn_step hn (s := jup s 20 S (s 20 S + 1)) (by rw [u_ne (by omega)]; exact h5) (rowA_fr h7 (fun b _ => s3 b)) (rowA_fr hr (fun b _ => s2 b)) (by omega) h4 x3 h6 x1 h8
    have t3' : EX r720 s t := EX.tr ((EX.rf _ _).up (Or.inr rfl)) (t3.wk (fun a b q => Or.inl q.1))
    obtain ⟨v, v1, v2, v3⟩ := ih (nx cs x) (x5 + 1) f t (vis need sg kp W x) h14 (fun v hv => h2 v (List.mem_cons_of_mem _ hv)) t2 (by rw [t3' 16 0 (by unfold r720; omega)]; exact h5) (rowA_fr h7 (fun b _ => t3' 18 b (by unfold r720; omega))) (fun j j1 j2 => by rw [t3' _ j (by unfold r720; omega)]; exact h9 j j1 j2) (fun k k1 k2 => by
      rw [t3 20 k (by unfold r17; omega), hv k, jup_at]
      by_cases q : k = S
      · rw [if_pos ⟨rfl, q⟩, if_pos q, h10 S hb2.1 (by omega)]
      · rw [if_neg (fun z => q z.2), if_neg q]
        exact h10 k k1 k2) (by omega) (by omega) (by omega)
    refine ⟨v, ?_, v2, t3'.tr v3⟩
    have d1 : w32 S = S := w32_id (by omega) (by omega)
    rw [Fi_countWays_36, if_neg c, if_pos c2, Fi_sumBy, hs, jb_t, d1, if_neg (by omega), if_neg (by omega), if_pos ⟨⟨hb2.1, by omega⟩, ⟨hb2.1, by omega⟩⟩]
    show jb (Fi_goOn 16 (jup s 20 S (s 20 S + 1))) _ = _
    rw [t1, jb_t]
    exact v1
def r1619 (a b : Int) : Prop := (a = 16 ∧ b = 1) ∨ a = 17 ∨ a = 19
theorem rowA_get {s : jM} {k : Int} : ∀ {xs : List Int} {j : Int}, rowA s k j xs → ∀ i : Nat, i < xs.length → s k (j + i) = xs.getD i 0 := by
  intro xs
  induction xs with
  | nil => intro j h i hi; exact absurd hi (Nat.not_lt_zero _)
  | cons x xs ih =>
    intro j h i hi
    cases i with
    | zero =>
      rw [show j + ((0 : Nat) : Int) = j by omega]
      exact h.1
    | succ i =>
      have := ih h.2 i (by rw [List.length_cons] at hi; omega)
      rw [show j + 1 + (i : Int) = j + ((i + 1 : Nat) : Int) by omega] at this
      exact this
theorem vis_y {need : Int} {sg kp : Int → Int} {W : jM} {xs : List Int} (q : ¬ sm sg xs 0 < need ∧ (W 1 0 < 0 ∨ sm kp xs 0 < W 1 0)) : vis need sg kp W xs 1 0 = sm kp xs 0 ∧ ∀ j, vis need sg kp W xs 2 j = xs.getD j.toNat 0 := by
  have e2 : vis need sg kp W xs = fun r c => if r = 1 ∧ c = 0 then sm kp xs 0 else if r = 2 then xs.getD c.toNat 0 else jup (jup W 0 (sm sg xs 0) (W 0 (sm sg xs 0) + 1)) 1 1 (if W 1 1 < sm sg xs 0 then sm sg xs 0 else W 1 1) r c := if_pos q
  rw [e2]
  exact ⟨rfl, fun j => rfl⟩
theorem vis_n {need : Int} {sg kp : Int → Int} {W : jM} {xs : List Int} (q : ¬ (¬ sm sg xs 0 < need ∧ (W 1 0 < 0 ∨ sm kp xs 0 < W 1 0))) : vis need sg kp W xs 1 0 = W 1 0 ∧ ∀ j, vis need sg kp W xs 2 j = W 2 j := by
  have e2 : vis need sg kp W xs = jup (jup W 0 (sm sg xs 0) (W 0 (sm sg xs 0) + 1)) 1 1 (if W 1 1 < sm sg xs 0 then sm sg xs 0 else W 1 1) := if_neg q
  rw [e2]
  refine ⟨?_, fun j => ?_⟩
  · rw [u_ne (by omega), u_ne (by omega)]
  · rw [u_ne (by omega), u_ne (by omega)]
def cC (n : Nat) (s W : jM) : Prop := s 16 1 = W 1 0 ∧ (∀ j, 0 ≤ j → j < (n : Int) → s 19 j = W 2 j) ∧ (W 1 0 = -1 ∨ (0 ≤ W 1 0 ∧ W 1 0 ≤ 10000))
theorem cheap_one {n : Nat} (hn : n ≤ 5) {B need : Int} (hne : 0 ≤ need ∧ need ≤ 81) {sg kp : Int → Int} {x : List Int} {s W : jM} (hr : rowA s 17 0 x) (hx : x.length = n) (h5 : s 16 0 = n) (hS : 0 ≤ sm sg x 0 ∧ sm sg x 0 ≤ 81) (hK : 0 ≤ sm kp x 0 ∧ sm kp x 0 ≤ 10000) (hS2 : ∀ u : jM, (∀ a b, a ≠ 19 → ¬ (a = 16 ∧ b = 1) → u a b = s a b) → Fi_sumBy_4 jFU 16 (B + 1) 0 0 u = some (sm sg x 0, u)) (hK2 : Fi_sumBy_4 jFU 16 (B + 2) 0 0 s = some (sm kp x 0, s)) (hc : cC n s W) {x5 : Int} (h11 : 0 ≤ x5 ∧ x5 < 10000) (f : Nat) : ∃ u, Fi_cheapest_17 (f + 1) 16 B need 1 x5 s = (jb (Fi_goOn 16 u) fun v s2 => Fi_cheapest_17 f 16 B need v (x5 + 1) s2) ∧ cC n u (vis need sg kp W x) ∧ EX r1619 s u ∧ (∀ j, u 17 j = s 17 j) := by
  have hS3 := hS2 s (fun a b _ _ => rfl)
  have c : ¬ w32 1 = 0 := by decide
  obtain ⟨k1, k2, k3⟩ := hc
  have y := vis_y (need := need) (sg := sg) (kp := kp) (W := W) (xs := x)
  have z := vis_n (need := need) (sg := sg) (kp := kp) (W := W) (xs := x)
  have gt := rowA_get hr
  generalize sm sg x 0 = S at *
  generalize sm kp x 0 = K at *
  have d1 : w32 x5 < 10000 := by rw [w32_id (by omega) (by omega)]; omega
  by_cases q1 : W 1 0 < 0 ∨ K < W 1 0
  · by_cases q2 : S < need
    · obtain ⟨z1, z2⟩ := z (fun p => p.1 q2)
      refine ⟨s, ?_, ⟨k1.trans z1.symm, fun j j1 j2 => (k2 j j1 j2).trans (z2 j).symm, by rw [z1]; exact k3⟩, EX.rf _ _, fun j => rfl⟩
      rw [Fi_cheapest_17, if_neg c, if_pos d1, Fi_sumBy, hK2, jb_t]
      have d2 : Fi_cheapest_57 (Fi_cheapest_17 f) 16 B need x5 K s = (jb (Fi_goOn 16 s) fun v s2 => Fi_cheapest_17 f 16 B need v (x5 + 1) s2) := by
        rw [Fi_cheapest_57, Fi_sumBy, hS3, jb_t, w32_id (by omega) (by omega), w32_id (by omega) (by omega), if_pos q2]
      rw [d2, k1]
      by_cases q3 : W 1 0 < 0
      · rw [if_pos (by rw [w32_id (by omega) (by omega)]; omega)]
      · rw [if_neg (by rw [w32_id (by omega) (by omega)]; omega), if_pos (by rw [w32_id (by omega) (by omega), w32_id (by omega) (by omega)]; omega)]
    · obtain ⟨y1, y2⟩ := y ⟨q2, q1⟩
      refine ⟨jcp (jup s 16 1 K) 17 0 19 0 n, ?_, ⟨?_, fun j j1 j2 => ?_, by rw [y1]; exact Or.inr hK⟩, ((EX.rf _ _).up (Or.inl ⟨rfl, rfl⟩)).cp (fun j _ _ => Or.inr (Or.inr rfl)), fun j => ?_⟩
      · rw [Fi_cheapest_17, if_neg c, if_pos d1, Fi_sumBy, hK2, jb_t]
        have d3 : w32 (s 16 0) = n := by rw [h5]; exact w32_id (by omega) (by omega)
        have d2 : Fi_cheapest_57 (Fi_cheapest_17 f) 16 B need x5 K s = (jb (Fi_goOn 16 (jcp (jup s 16 1 K) 17 0 19 0 n)) fun v s2 => Fi_cheapest_17 f 16 B need v (x5 + 1) s2) := by
          rw [Fi_cheapest_57, Fi_sumBy, hS3, jb_t, w32_id (by omega) (by omega), w32_id (by omega) (by omega), if_neg q2, u_ne (by omega), d3, if_pos (by omega)]
          rfl
        rw [d2, k1]
        by_cases q3 : W 1 0 < 0
        · rw [if_pos (by rw [w32_id (by omega) (by omega)]; omega)]
        · rw [if_neg (by rw [w32_id (by omega) (by omega)]; omega), if_pos (by rw [w32_id (by omega) (by omega), w32_id (by omega) (by omega)]; omega)]
      · rw [c_out (by omega), u_eq ⟨rfl, rfl⟩, y1]
      · rw [c_in ⟨rfl, j1, by omega⟩, u_ne (by omega), y2 j, show 0 + (j - 0) = 0 + ((j.toNat : Nat) : Int) by omega]
        exact gt j.toNat (by omega)
      · rw [c_out (by omega), u_ne (by omega)]
  · obtain ⟨z1, z2⟩ := z (fun p => q1 p.2)
    refine ⟨s, ?_, ⟨k1.trans z1.symm, fun j j1 j2 => (k2 j j1 j2).trans (z2 j).symm, by rw [z1]; exact k3⟩, EX.rf _ _, fun j => rfl⟩
    rw [Fi_cheapest_17, if_neg c, if_pos d1, Fi_sumBy, hK2, jb_t, k1]
    rw [if_neg (by rw [w32_id (by omega) (by omega)]; omega), if_neg (by rw [w32_id (by omega) (by omega), w32_id (by omega) (by omega)]; omega)]
theorem cheap_eq {n : Nat} (hn : n ≤ 5) {B : Int} (hB : 30 ≤ B) {need : Int} (hne : 0 ≤ need ∧ need ≤ 81) {sg kp : Int → Int} (hsg : ∀ j, 0 ≤ j → j < (n : Int) → 0 ≤ sg j ∧ sg j ≤ 9) (hkp : ∀ j, 0 ≤ j → j < (n : Int) → 0 ≤ kp j ∧ kp j ≤ 99) {cs : List Int} (h4 : ∀ c, c ∈ cs → 0 ≤ c ∧ c ≤ 1000) (h6 : fsum cs ≤ 10000) (h8 : cs.length = n) : ∀ (L : List (List Int)) (o : Option (List Int)) (x5 : Int) (f : Nat) (s W : jM), chn (nx cs) L o → (∀ v, v ∈ L → fsum v ≤ 9 ∧ v.length = n ∧ ∀ y, y ∈ v → 0 ≤ y ∧ y ≤ 9) → (∀ x, o = some x → rowA s 17 0 x) → s 16 0 = n → rowA s 18 0 cs → (∀ j, 0 ≤ j → j < (n : Int) → s (B + 1) j = sg j ∧ s (B + 2) j = kp j) → cC n s W → 0 ≤ x5 → x5 + L.length ≤ 10000 → L.length < f → ∃ t, Fi_cheapest_17 f 16 B need (if o.isSome = true then 1 else 0) x5 s = some (if (L.foldl (vis need sg kp) W) 1 0 = -1 then 0 else 1, t) ∧ cC n t (L.foldl (vis need sg kp) W) ∧ EX r1619 s t := by
  intro L
  induction L with
  | nil =>
    intro o x5 f s W h1 h2 h3 h5 h7 h9 h10 h11 h12 h13
    obtain ⟨f, rfl⟩ : ∃ g, f = g + 1 := ⟨f - 1, by omega⟩
    have e : o = none := h1
    subst e
    have c : w32 (if (none : Option (List Int)).isSome = true then 1 else 0) = 0 := by decide
    refine ⟨s, ?_, h10, EX.rf _ _⟩
    have k := h10.2.2
    rw [Fi_cheapest_17, if_pos c, h10.1]
    show _ = some (if W 1 0 = -1 then 0 else 1, s)
    rw [w32_id (by omega) (by omega)]
    by_cases q : W 1 0 = -1
    · rw [if_pos q, if_pos q]
    · rw [if_neg q, if_neg q]
  | cons x L ih =>
    intro o x5 f s W h1 h2 h3 h5 h7 h9 h10 h11 h12 h13
    obtain ⟨f, rfl⟩ : ∃ g, f = g + 1 := ⟨f - 1, by omega⟩
    obtain ⟨e, h14⟩ := h1
    subst e
    rw [List.length_cons] at h12 h13
    obtain ⟨x1, x2, x3⟩ := h2 x (List.mem_cons_self ..)
    have hr := h3 x rfl
    have hb := sm_b (g := sg) (M := 9) x 0 (fun y hy => (x3 y hy).1) (fun i i1 i2 => hsg i i1 (by omega))
    have hk := sm_b (g := kp) (M := 99) x 0 (fun y hy => (x3 y hy).1) (fun i i1 i2 => hkp i i1 (by omega))
    have hS2 : ∀ u : jM, (∀ a b, a ≠ 19 → ¬ (a = 16 ∧ b = 1) → u a b = s a b) → Fi_sumBy_4 jFU 16 (B + 1) 0 0 u = some (sm sg x 0, u) := fun u hu => by
      have := sumBy_eq (n := n) (g := B + 1) (s := u) (by omega) (by rw [hu 16 0 (by omega) (by omega)]; exact h5) x 0 0 jFU (rowA_fr hr (fun b _ => hu 17 b (by omega) (by omega))) (Int.le_refl 0) (by omega) (bub_ge (by omega))
      rw [sm_congr (h := sg) x 0 (fun i i1 i2 => by rw [hu _ i (by omega) (by omega)]; exact (h9 i i1 (by omega)).1), Int.zero_add] at this
      exact this
    have hK2 : Fi_sumBy_4 jFU 16 (B + 2) 0 0 s = some (sm kp x 0, s) := by
      have := sumBy_eq (n := n) (g := B + 2) (s := s) (by omega) h5 x 0 0 jFU hr (Int.le_refl 0) (by omega) (bub_ge (by omega))
      rw [sm_congr (h := kp) x 0 (fun i i1 i2 => (h9 i i1 (by omega)).2), Int.zero_add] at this
      exact this
    obtain ⟨u, u1, u2, u3, u4⟩ := cheap_one hn hne hr x2 h5 (by omega) (by omega) hS2 hK2 h10 (x5 := x5) (by omega) f
    obtain ⟨t, t1, t2, t3⟩ := goOn_step hn (s := u) (by rw [u3 16 0 (by unfold r1619; omega)]; exact h5) (rowA_fr h7 (fun b _ => u3 18 b (by unfold r1619; omega))) (rowA_fr hr (fun b _ => u4 b)) (by omega) h4 x3 h6 x1 h8
    have t3' : EX r1619 s t := u3.tr (t3.wk (fun a b q => Or.inr (Or.inl q.1)))
    obtain ⟨v, v1, v2, v3⟩ := ih (nx cs x) (x5 + 1) f t (vis need sg kp W x) h14 (fun v hv => h2 v (List.mem_cons_of_mem _ hv)) t2 (by rw [t3' 16 0 (by unfold r1619; omega)]; exact h5) (rowA_fr h7 (fun b _ => t3' 18 b (by unfold r1619; omega))) (fun j j1 j2 => by rw [t3' _ j (by unfold r1619; omega), t3' _ j (by unfold r1619; omega)]; exact h9 j j1 j2) ⟨by rw [t3 16 1 (by unfold r17; omega)]; exact u2.1, fun j j1 j2 => by rw [t3 19 j (by unfold r17; omega)]; exact u2.2.1 j j1 j2, u2.2.2⟩ (by omega) (by omega) (by omega)
    refine ⟨v, ?_, v2, t3'.tr v3⟩
    show Fi_cheapest_17 (f + 1) 16 B need 1 x5 s = _
    rw [u1, t1, jb_t]
    exact v1
/-- the members of the list are fit for the walks -/
theorem fl_fit {n : Nat} {cs : List Int} (h8 : cs.length = n) {C : Int} (hC : 0 ≤ C ∧ C ≤ 9) : ∀ v, v ∈ fl cs C → fsum v ≤ 9 ∧ v.length = n ∧ ∀ y, y ∈ v → 0 ≤ y ∧ y ≤ 9 := by
  have mb : ∀ (v : List Int), (∀ y, y ∈ v → 0 ≤ y) → ∀ y, y ∈ v → y ≤ fsum v := by
    intro v
    induction v with
    | nil => intro _ y hy; exact absurd hy List.not_mem_nil
    | cons a v ih =>
      intro h y hy
      have n1 := fsum_nn (fun z hz => h z (List.mem_cons_of_mem _ hz))
      have n2 := h a (List.mem_cons_self ..)
      show y ≤ a + fsum v
      rcases List.mem_cons.1 hy with e | e
      · omega
      · have := ih (fun z hz => h z (List.mem_cons_of_mem _ hz)) y e
        omega
  intro v hv
  have a := fl_sum hv
  have b := fl_nn hv
  refine ⟨by omega, a.2.trans h8, fun y hy => ⟨b y hy, ?_⟩⟩
  have := mb v b y hy
  omega
theorem fl_len5 {n : Nat} (hn : n ≤ 5) {cs : List Int} (h8 : cs.length = n) {C : Int} (hC : 0 ≤ C ∧ C ≤ 9) : (fl cs C).length ≤ 10000 := by
  have a := fl_len (cs := cs) hC.1 hC.2
  have b : cs.length - 1 ≤ 4 := by omega
  exact Nat.le_trans a (Nat.le_trans (Nat.pow_le_pow_right (by decide) b) (by decide))
theorem fsum_b : ∀ {cs : List Int}, (∀ c, c ∈ cs → 0 ≤ c ∧ c ≤ 1000) → fsum cs ≤ 1000 * cs.length := by
  intro cs
  induction cs with
  | nil => intro _; show (0 : Int) ≤ 1000 * ((0 : Nat) : Int); omega
  | cons c cs ih =>
    intro h
    have a := ih (fun z hz => h z (List.mem_cons_of_mem _ hz))
    have b := h c (List.mem_cons_self ..)
    rw [List.length_cons]
    show c + fsum cs ≤ _
    omega
def W0 (bv : Int → Int) : jM := fun r c => if r = 1 then -1 else if r = 2 then bv c else 0
def r1622 (a _b : Int) : Prop := 16 ≤ a ∧ a ≤ 21
theorem cheapest_eq {n : Nat} (hn : n ≤ 5) {B C need : Int} (hB : 30 ≤ B) (hC : 0 ≤ C ∧ C ≤ 9) (hne : 0 ≤ need ∧ need ≤ 81) {sg kp am : Int → Int} (hsg : ∀ j, 0 ≤ j → j < (n : Int) → 0 ≤ sg j ∧ sg j ≤ 9) (hkp : ∀ j, 0 ≤ j → j < (n : Int) → 0 ≤ kp j ∧ kp j ≤ 99) (hg : ∀ j, 0 ≤ j → j < (n : Int) → 0 ≤ am j ∧ am j ≤ 999) {s : jM} (h0 : s B 4 = n) (h1 : ∀ j, 0 ≤ j → j < (n : Int) → s (B + 1) j = sg j ∧ s (B + 2) j = kp j ∧ s (B + 3) j = am j) : ∃ t, Fi_cheapest 16 B C need s = some (if ((fl (cpl (cap 1 C am) n 0) C).foldl (vis need sg kp) (W0 (s 19))) 1 0 = -1 then 0 else 1, t) ∧ cC n t ((fl (cpl (cap 1 C am) n 0) C).foldl (vis need sg kp) (W0 (s 19))) ∧ EX r1622 s t := by
  obtain ⟨u, u1, u2, u3, u4, u5⟩ := begin_eq hn hB hC (Or.inr rfl) hg (s := jup s 16 1 (-1)) (by rw [u_ne (by omega)]; exact h0) (fun j j1 j2 => by rw [u_ne (by omega)]; exact (h1 j j1 j2).2.2)
  have hm : ∀ c, c ∈ cpl (cap 1 C am) n 0 → 0 ≤ c ∧ c ≤ 1000 := cpl_mem (P := fun c => 0 ≤ c ∧ c ≤ 1000) n 0 (fun i i1 i2 => by
    have := hg i i1 (by omega)
    show 0 ≤ cap 1 C am i ∧ cap 1 C am i ≤ 1000
    unfold cap
    rw [if_neg (by decide)]
    split <;> omega)
  have hl : (cpl (cap 1 C am) n 0).length = n := cpl_len n 0
  have hf := fsum_b hm
  generalize cpl (cap 1 C am) n 0 = cs at *
  have hch := (chn_fl (R := C) (fun c hc => (hm c hc).1) hC.1).1
  have hE : ∀ a b, ¬ (16 ≤ a ∧ a ≤ 18) → u a b = s a b := fun a b q => by
    rw [u5 a b (by unfold r678; omega), u_ne (by omega)]
  have hlen := fl_len5 hn hl hC
  obtain ⟨v, v1, v2, v3⟩ := cheap_eq hn hB hne hsg hkp hm (by omega) hl (fl cs C) _ 0 jFU u (W0 (s 19)) hch (fl_fit hl hC) (fun x hx => by
    by_cases q : C ≤ fsum cs
    · rw [if_pos q] at hx
      have hx := Option.some.inj hx
      rw [← hx]
      exact u4
    · rw [if_neg q] at hx
      cases hx) u2 u3 (fun j j1 j2 => by rw [hE _ j (by omega), hE _ j (by omega)]; exact ⟨(h1 j j1 j2).1, (h1 j j1 j2).2.1⟩) ⟨by rw [u5 16 1 (by unfold r678; omega), u_eq ⟨rfl, rfl⟩]; rfl, fun j j1 j2 => by rw [hE 19 j (by omega)]; rfl, Or.inl rfl⟩ (Int.le_refl 0) (by omega) (Nat.lt_of_le_of_lt hlen (Nat.lt_of_lt_of_le (m := 10001) (by decide) (jFU_ge (by decide))))
  refine ⟨v, ?_, v2, fun a b q => ?_⟩
  · rw [Fi_cheapest, u1, jb_t]
    by_cases q : C ≤ fsum cs
    · rw [if_pos q] at v1 ⊢
      exact v1
    · rw [if_neg q] at v1 ⊢
      exact v1
  · unfold r1622 at q
    rw [v3 a b (by unfold r1619; omega), hE a b (by omega)]
theorem zero_eq {B C fg : Int} : ∀ (m f k : Nat) (s : jM), k + m = 82 → m < f → (∀ i, 0 ≤ i → i < (k : Int) → s 20 i = 0) → ∃ t, Fi_countWays_3 f 16 B C fg k s = (jb (Fi_begin 16 B C fg t) fun v5 s5 => Fi_countWays_36 jFU 16 B v5 0 s5) ∧ (∀ i, 0 ≤ i → i < 82 → t 20 i = 0) ∧ EX r720 s t := by
  intro m
  induction m with
  | zero =>
    intro f k s h1 h2 h3
    obtain ⟨f, rfl⟩ : ∃ g, f = g + 1 := ⟨f - 1, by omega⟩
    have e : k = 82 := by omega
    subst e
    exact ⟨s, by rw [Fi_countWays_3, if_pos (by decide)], h3, EX.rf _ _⟩
  | succ m ih =>
    intro f k s h1 h2 h3
    obtain ⟨f, rfl⟩ : ∃ g, f = g + 1 := ⟨f - 1, by omega⟩
    obtain ⟨t, t1, t2, t3⟩ := ih f (k + 1) (jup s 20 k 0) (by omega) (by omega) (fun i i1 i2 => by
      by_cases q : i = k
      · exact u_eq ⟨rfl, q⟩
      · rw [u_ne (by omega)]; exact h3 i i1 (by omega))
    have c1 : ¬ 81 < (k : Int) := by omega
    have c2 : (0 : Int) ≤ k ∧ (k : Int) < 82 := by omega
    have c3 : ((k + 1 : Nat) : Int) = (k : Int) + 1 := by omega
    have c4 : k < 1000 := by omega
    rw [c3] at t1
    refine ⟨t, ?_, t2, EX.tr ((EX.rf _ _).up (Or.inr rfl)) t3⟩
    rw [Fi_countWays_3, w32n c4, if_neg c1, if_pos c2]
    exact t1
theorem countWays_eq {n : Nat} (hn : n ≤ 5) {B C fg need : Int} (hB : 30 ≤ B) (hC : 0 ≤ C ∧ C ≤ 9) (hf : fg = 0 ∨ fg = 1) {sg kp am bv : Int → Int} (hsg : ∀ j, 0 ≤ j → j < (n : Int) → 0 ≤ sg j ∧ sg j ≤ 9) (hg : ∀ j, 0 ≤ j → j < (n : Int) → 0 ≤ am j ∧ am j ≤ 999) {s : jM} (h0 : s B 4 = n) (h1 : ∀ j, 0 ≤ j → j < (n : Int) → s (B + 1) j = sg j ∧ s (B + 3) j = am j) : ∃ t, Fi_countWays 16 B C fg s = some (0, t) ∧ (∀ k, 0 ≤ k → k < 82 → t 20 k = ((fl (cpl (cap fg C am) n 0) C).foldl (vis need sg kp) (W0 bv)) 0 k) ∧ EX r1622 s t := by
  obtain ⟨z, z1, z2, z3⟩ := zero_eq (B := B) (C := C) (fg := fg) 82 jFU 0 s (by omega) (bub_ge (by omega)) (fun i i1 i2 => by omega)
  have z4 : ∀ a b, a ≠ 17 → a ≠ 20 → z a b = s a b := fun a b q q2 => z3 a b (by unfold r720; omega)
  obtain ⟨u, u1, u2, u3, u4, u5⟩ := begin_eq hn hB hC hf hg (s := z) (by rw [z4 _ _ (by omega) (by omega)]; exact h0) (fun j j1 j2 => by rw [z4 _ _ (by omega) (by omega)]; exact (h1 j j1 j2).2)
  have hm : ∀ c, c ∈ cpl (cap fg C am) n 0 → 0 ≤ c ∧ c ≤ 1000 := cpl_mem (P := fun c => 0 ≤ c ∧ c ≤ 1000) n 0 (fun i i1 i2 => by
    have := hg i i1 (by omega)
    show 0 ≤ cap fg C am i ∧ cap fg C am i ≤ 1000
    unfold cap
    split
    · omega
    · split <;> omega)
  have hl : (cpl (cap fg C am) n 0).length = n := cpl_len n 0
  have hfb := fsum_b hm
  generalize cpl (cap fg C am) n 0 = cs at *
  have hch := (chn_fl (R := C) (fun c hc => (hm c hc).1) hC.1).1
  have hlen := fl_len5 hn hl hC
  have hE : ∀ a b, ¬ (16 ≤ a ∧ a ≤ 18) → u a b = z a b := fun a b q => u5 a b (by unfold r678; omega)
  obtain ⟨v, v1, v2, v3⟩ := count_eq hn hB (need := need) (kp := kp) hsg hm (by omega) hl (fl cs C) _ 0 jFU u (W0 bv) hch (fl_fit hl hC) (fun x hx => by
    by_cases q : C ≤ fsum cs
    · rw [if_pos q] at hx
      have hx := Option.some.inj hx
      rw [← hx]
      exact u4
    · rw [if_neg q] at hx
      cases hx) u2 u3 (fun j j1 j2 => by rw [hE _ j (by omega), z4 _ _ (by omega) (by omega)]; exact (h1 j j1 j2).1) (fun k k1 k2 => by rw [hE 20 k (by omega), z2 k k1 k2]; rfl) (Int.le_refl 0) (by omega) (Nat.lt_of_le_of_lt hlen (Nat.lt_of_lt_of_le (m := 10001) (by decide) (jFU_ge (by decide))))
  refine ⟨v, ?_, v2, fun a b q => ?_⟩
  · have z1' : Fi_countWays 16 B C fg s = _ := z1
    rw [z1', u1, jb_t]
    by_cases q : C ≤ fsum cs
    · rw [if_pos q] at v1 ⊢
      exact v1
    · rw [if_neg q] at v1 ⊢
      exact v1
  · unfold r1622 at q
    rw [v3 a b (by unfold r720; omega), hE a b (by omega), z4 a b (by omega) (by omega)]
