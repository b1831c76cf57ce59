/-! printed by wip/whole/gen_lx.py -/
theorem lt_gscl {j a : Int} {n : Nat} (e : a = (n : Int)) (h1 : 0 ≤ j) (h2 : j < a) : j.toNat < n := by omega
set_option maxHeartbeats 1000000 in
/-- a call of an object's method -/
theorem AT.callW {S N : jS} {d dN : Nat} {pc i pos cl : Nat} {b : Int} {L As st : List jV} {σ σ1 : jM} {v : Int} {o : Int × jM} (hm : jmk N = true) (hk : jck S N pc i pos = true) (hN : Nat.beq N.2.2.2.2.2 0 = true) (hcl : decide (jcl[cl]?.map (fun q => q.1) = some N.1.cls) = true) (hn : Nat.beq (As.length + 1) N.2.2.2.2.1.length = true) (hst : Nat.ble (jcat st) 8 = true) (hd : dN + 1 ≤ d)
    (hM : MK N dN ((4 + cl, b) :: As) σ (v, σ1)) (k : jsame σ σ1 → AT S d (pc + 3, L, jres N v st, σ1) o) : AT S d (pc, L, As.reverse ++ (4 + cl, b) :: st, σ) o := by
  intro p l e R s m args below meth cd cells slots Q G C kr ls H locs h1 h2 h3 h4
  have k2 := fun hS => k hS p l e R s m args below meth cd cells slots Q G C kr
  obtain ⟨hx, hb, hml, hown, hts, hG, hC, hf, hlo, hce, hsl⟩ := C
  have hN0 := Nat.eq_of_beq_eq_true hN
  have hn := Nat.eq_of_beq_eq_true hn
  simp only [jmk, hN0, Bool.and_eq_true, decide_eq_true_eq] at hm
  obtain ⟨⟨⟨⟨⟨⟨m1, m2⟩, m3⟩, m4⟩, m5, m6⟩, m7⟩, m8⟩ := hm
  have m8 := Nat.ble_eq.mp m8
  simp only [jck, hN0, Bool.and_eq_true, decide_eq_true_eq] at hk
  have hcl := of_decide_eq_true hcl
  have hvb : jvok (4 + cl, b) := h2 _ (List.mem_append_right _ List.mem_cons_self)
  obtain ⟨q1, q2, q3, q4, q5⟩ := jvok_k hvb
  have hst2 : ((st.map (jval G)).map fun v => v.category).sum ≤ 8 := by rw [jcat_eq]; exact Nat.ble_eq.mp hst
  obtain ⟨r, hr1, hr2⟩ := Option.map_eq_some_iff.mp hcl
  have hcl12 : cl < 12 := (List.getElem?_eq_some_iff.mp hr1).1
  have hcell : (jW G σ)[b.toNat]? = some (gad G b.toNat, .inr (cl, jfs G σ b (jfields.getD cl []))) := by rw [jW_at G σ q3, jcell_o q4 hcl12, q5]
  have hvs : ∀ w ∈ (4 + cl, b) :: As, jvok w := fun w hw => (List.mem_cons.mp hw).elim (fun q => q ▸ hvb) (fun hw => h2 w (List.mem_append_left _ (List.mem_reverse.mpr hw)))
  have hrec := va_recv hC.2.1 h3.1 hr1 hcell
  rw [hr2] at hrec
  have cB := callB_of (R := R) (s := s) (args := args) (own := S.1.cls) (index := i) (y := N.1) (bytes := N.2.1) (maxL := N.2.2.1) (ret := jrt N) (rm := jrm dN) (mc := 0) (ms := 0) As.length hts (jws_good m3) rfl rfl rfl (hts _ m4) (hts _ (jw_mem hk.2)) ⟨m2.1, m2.2, by rw [m7]; congr 1; omega⟩ ⟨by show dN + 1 + 1 ≤ R.frames; omega, by show 8 + (N.2.2.1 + 11) + 100 * (dN + 1) ≤ R.locals; omega⟩
  have hrun := va_runV (l := l) (e := e) (below := below) (meth := meth) (locs := locs) (cells := cells) (slots := slots) (H := H) (b := gad G b.toNat) (As := As.map (jval G)) (rest := st.map (jval G)) (g := F0 m pc ls ((As.reverse ++ (4 + cl, b) :: st).map (jval G))) ⟨hx, hb, hml, hown, hts⟩ (hM l G hG hvs) ⟨cB, hts _ m5, hts _ m6⟩ ⟨jPre_blind G _ σ, hrec, fun U hU hW => ⟨by simp only [List.map_cons, jval_r], jCx_moved hW.alike (by rw [hU]; exact fun a ha hA => h4.2.1 a ha hA) (jNw_warm hW hC.1) hC, by rw [hU]; exact h3⟩⟩ rfl (by simp) h1.2.1.1 (by simp only [List.map_append, List.map_reverse, List.map_cons, jval_r]) (by exact lv_room hst2) hk.1 ⟨hce, hsl⟩
  have hsame : ((4 + cl, b) :: As).map (jval G) = Value.ref (gad G b.toNat) :: As.map (jval G) := by simp only [List.map_cons, jval_r]
  refine jrun_i (N := N) (v := v) (σ1 := σ1) hrun h4 (fun H1 locs1 hW1 hS1 => ?_)
  rw [← jres_app]
  refine k2 ⟨hW1.2.1.trans h3.2.1.symm, fun j j1 j2 => ?_⟩ ls H1 locs1 h1 (jres_ok (fun w hw => h2 w (List.mem_append_right _ (List.mem_cons_of_mem _ hw)))) hW1 hS1
  have hlt : j.toNat < gscl G := lt_gscl h3.2.1 j1 j2
  have e1 := hW1.2.2.1 j.toNat hlt
  have e2 := h3.2.2.1 j.toNat hlt
  rw [Int.toNat_of_nonneg j1] at e1 e2
  exact e1.trans e2.symm
theorem AT.lorK {S : jS} {d pc : Nat} {L st : List jV} {a b : Int} {s : jM} {o : Int × jM} {x : jX} (hk : jbk S [(pc, .lor, 1, x)] = true) (k : AT S d (pc + 1, L, (1, jlor a b) :: st, s) o) : AT S d (pc, L, (1, b) :: (1, a) :: st, s) o := AT.seq _ hk (by simp [jrun, jx, jbin, Nat.beq_refl, show Nat.beq pc pc = true from Nat.beq_refl pc]) k
theorem AT.landK {S : jS} {d pc : Nat} {L st : List jV} {a b : Int} {s : jM} {o : Int × jM} {x : jX} (hk : jbk S [(pc, .land, 1, x)] = true) (k : AT S d (pc + 1, L, (1, jland a b) :: st, s) o) : AT S d (pc, L, (1, b) :: (1, a) :: st, s) o := AT.seq _ hk (by simp [jrun, jx, jbin, Nat.beq_refl, show Nat.beq pc pc = true from Nat.beq_refl pc]) k
theorem AT.lshlK {S : jS} {d pc : Nat} {L st : List jV} {a b : Int} {s : jM} {o : Int × jM} {x : jX} (hk : jbk S [(pc, .lshl, 1, x)] = true) (k : AT S d (pc + 1, L, (1, jlshl a b) :: st, s) o) : AT S d (pc, L, (0, b) :: (1, a) :: st, s) o := AT.seq _ hk (by simp [jrun, jx, jbin, Nat.beq_refl, show Nat.beq pc pc = true from Nat.beq_refl pc]) k
def sLw_law : jS := (⟨"JellyCathedralLaw", "law", "([I)Z"⟩, code, 4, 3, [3], 1)
