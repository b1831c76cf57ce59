/-! printed by wip/whole/gen_all.py: Md_live, Md_lived, Md_allFirm, Md_mean, Md_mark, Md_back -/
def sMd_live : jS := (⟨"JellyCathedralModel", "live", "(I)I"⟩, prog_13_method_148_code, 2, 1, [15, 0], 0)
theorem kMd_live : jmk sMd_live = true := jmk_of 8170 1012 8168 8169 (by decide +kernel)
set_option maxRecDepth 100000 in
theorem Md_live_ok {a0 a1 : Int} {s : jM} {o : Int × jM} (H : Md_live a0 a1 s = some o) : MK sMd_live 31 [(15, a0), (0, a1)] s o := by
  refine MK.of kMd_live rfl ?_
  show AT sMd_live 31 (0, [(15, a0), (0, a1)], [], s) o
  unfold Md_live at H
  refine AT.seq [(0, .aload_n 0, 1, (0, 0, 0)), (1, .iconst 0, 1, (0, 0, 0)), (2, .putfield 72, 3, (5188, 1101, 0)), (5, .aload_n 0, 1, (0, 0, 0)), (6, .iconst 0, 1, (0, 0, 0)), (7, .putfield 75, 3, (5187, 1100, 0)), (10, .iload_n 1, 1, (0, 0, 0)), (11, .i2l, 1, (0, 0, 0)), (12, .lconst 0, 1, (0, 0, 0)), (13, .ldc2_w 523, 3, (8171, 0, 9999))] (by decide +kernel) (show jrun _ (0, [(15, a0), (0, a1)], [], s) = some ([], (16, [(15, a0), (0, a1)], [(1, 9999), (1, 0), (1, (w32 a1))], (jup (jup s a0 1 0) a0 0 0))) from rfl) ?_
  obtain ⟨v1, s1, h1, H⟩ := jb_some H
  refine AT.callS (As := [(1, (w32 a1)), (1, 0), (1, 9999)]) (st := []) (i := 107) (pos := 6204) kMd_isIn (by decide +kernel) rfl rfl rfl (by omega) (Md_isIn_ok h1) ?_
  show AT sMd_live 31 (19, [(15, a0), (0, a1)], [(0, v1)], s1) o
  refine AT.ite (x := (0, 0, 0)) (by decide +kernel) (show jbr (.ifCond .ne 9) (19, [(15, a0), (0, a1)], [(0, v1)], s1) = some ((w32 v1) = 0, (22, [(15, a0), (0, a1)], [], s1), (28, [(15, a0), (0, a1)], [], s1)) from rfl) H (fun H => ?_) (fun H => ?_)
  · refine AT.seq [(22, .aload_n 0, 1, (0, 0, 0)), (23, .iconst 5, 1, (0, 0, 0))] (by decide +kernel) (show jrun _ (22, [(15, a0), (0, a1)], [], s1) = some ([], (24, [(15, a0), (0, a1)], [(0, 5), (15, a0)], s1)) from rfl) ?_
    obtain ⟨v2, s2, h2, H⟩ := jb_some H
    refine AT.callV (As := [(0, 5)]) (cl := 11) (b := a0) (st := []) (i := 322) (pos := 7116) kMd_refuse (by decide +kernel) rfl (by decide +kernel) rfl rfl (by omega) (Md_refuse_ok h2) ?_
    show AT sMd_live 31 (27, [(15, a0), (0, a1)], [(0, v2)], s2) o
    exact AT.retiH (by decide +kernel) H
  · refine AT.row [(28, .aload_n 0, 1, (0, 0, 0)), (29, .getfield 35, 3, (5207, 1120, 0)), (32, .bipush 109, 2, (0, 0, 0)), (34, .iaload, 1, (0, 0, 0))] (by decide +kernel) (show jrun _ (28, [(15, a0), (0, a1)], [], s1) = some ([(0 ≤ (109 : Int) ∧ (109 : Int) < 1905)], (35, [(15, a0), (0, a1)], [(0, (s1 (a0 + 5) 109))], s1)) from rfl) (show (0 ≤ (109 : Int) ∧ (109 : Int) < 1905) from by decide) ?_
    refine AT.ite (x := (0, 0, 0)) (by decide +kernel) (show jbr (.ifCond .ne 10) (35, [(15, a0), (0, a1)], [(0, (s1 (a0 + 5) 109))], s1) = some ((w32 (s1 (a0 + 5) 109)) = 0, (38, [(15, a0), (0, a1)], [], s1), (45, [(15, a0), (0, a1)], [], s1)) from rfl) H (fun H => ?_) (fun H => ?_)
    · refine AT.seq [(38, .aload_n 0, 1, (0, 0, 0)), (39, .bipush 8, 2, (0, 0, 0))] (by decide +kernel) (show jrun _ (38, [(15, a0), (0, a1)], [], s1) = some ([], (41, [(15, a0), (0, a1)], [(0, 8), (15, a0)], s1)) from rfl) ?_
      obtain ⟨v3, s3, h3, H⟩ := jb_some H
      refine AT.callV (As := [(0, 8)]) (cl := 11) (b := a0) (st := []) (i := 322) (pos := 7116) kMd_refuse (by decide +kernel) rfl (by decide +kernel) rfl rfl (by omega) (Md_refuse_ok h3) ?_
      show AT sMd_live 31 (44, [(15, a0), (0, a1)], [(0, v3)], s3) o
      exact AT.retiH (by decide +kernel) H
    · refine AT.seq [(45, .aload_n 0, 1, (0, 0, 0)), (46, .iload_n 1, 1, (0, 0, 0))] (by decide +kernel) (show jrun _ (45, [(15, a0), (0, a1)], [], s1) = some ([], (47, [(15, a0), (0, a1)], [(0, a1), (15, a0)], s1)) from rfl) ?_
      obtain ⟨v4, s4, h4, H⟩ := jb_some H
      refine AT.callV (As := [(0, a1)]) (cl := 11) (b := a0) (st := []) (i := 525) (pos := 8172) kMd_runsFeasts (by decide +kernel) rfl (by decide +kernel) rfl rfl (by omega) (Md_runsFeasts_ok h4) ?_
      show AT sMd_live 31 (50, [(15, a0), (0, a1)], [], s4) o
      refine AT.row [(50, .aload_n 0, 1, (0, 0, 0)), (51, .getfield 65, 3, (5223, 1136, 0)), (54, .iconst 0, 1, (0, 0, 0)), (55, .aload_n 0, 1, (0, 0, 0)), (56, .getfield 502, 3, (5228, 1141, 0)), (59, .iastore, 1, (0, 0, 0)), (60, .aload_n 0, 1, (0, 0, 0)), (61, .getfield 65, 3, (5223, 1136, 0)), (64, .iconst 1, 1, (0, 0, 0)), (65, .aload_n 0, 1, (0, 0, 0)), (66, .getfield 480, 3, (5229, 1142, 0)), (69, .iastore, 1, (0, 0, 0)), (70, .aload_n 0, 1, (0, 0, 0)), (71, .getfield 65, 3, (5223, 1136, 0)), (74, .iconst 2, 1, (0, 0, 0)), (75, .aload_n 0, 1, (0, 0, 0)), (76, .getfield 35, 3, (5207, 1120, 0)), (79, .bipush 7, 2, (0, 0, 0)), (81, .iaload, 1, (0, 0, 0)), (82, .aload_n 0, 1, (0, 0, 0)), (83, .getfield 517, 3, (5230, 1143, 0)), (86, .isub, 1, (0, 0, 0)), (87, .iastore, 1, (0, 0, 0)), (88, .aload_n 0, 1, (0, 0, 0)), (89, .getfield 65, 3, (5223, 1136, 0)), (92, .iconst 3, 1, (0, 0, 0)), (93, .aload_n 0, 1, (0, 0, 0)), (94, .getfield 35, 3, (5207, 1120, 0)), (97, .bipush 6, 2, (0, 0, 0))] (by decide +kernel) (show jrun _ (50, [(15, a0), (0, a1)], [], s4) = some ([(0 ≤ (0 : Int) ∧ (0 : Int) < 5), (0 ≤ (1 : Int) ∧ (1 : Int) < 5), (0 ≤ (7 : Int) ∧ (7 : Int) < 1905), (0 ≤ (2 : Int) ∧ (2 : Int) < 5)], (99, [(15, a0), (0, a1)], [(0, 6), (40, (a0 + 5)), (0, 3), (26, (a0 + 15))], (jup (jup (jup s4 (a0 + 15) 0 (s4 a0 41)) (a0 + 15) 1 ((jup s4 (a0 + 15) 0 (s4 a0 41)) a0 42)) (a0 + 15) 2 (((jup (jup s4 (a0 + 15) 0 (s4 a0 41)) (a0 + 15) 1 ((jup s4 (a0 + 15) 0 (s4 a0 41)) a0 42)) (a0 + 5) 7) - ((jup (jup s4 (a0 + 15) 0 (s4 a0 41)) (a0 + 15) 1 ((jup s4 (a0 + 15) 0 (s4 a0 41)) a0 42)) a0 43))))) from rfl) (show (0 ≤ (0 : Int) ∧ (0 : Int) < 5) ∧ (0 ≤ (1 : Int) ∧ (1 : Int) < 5) ∧ (0 ≤ (7 : Int) ∧ (7 : Int) < 1905) ∧ (0 ≤ (2 : Int) ∧ (2 : Int) < 5) from by decide) ?_
      obtain ⟨s5, e5, H⟩ := jm_some H
      rw [← e5]
      refine AT.row [(99, .iaload, 1, (0, 0, 0)), (100, .aload_n 0, 1, (0, 0, 0)), (101, .getfield 520, 3, (5231, 1144, 0)), (104, .isub, 1, (0, 0, 0)), (105, .iastore, 1, (0, 0, 0)), (106, .aload_n 0, 1, (0, 0, 0)), (107, .getfield 65, 3, (5223, 1136, 0)), (110, .iconst 4, 1, (0, 0, 0)), (111, .aload_n 0, 1, (0, 0, 0)), (112, .getfield 499, 3, (5232, 1145, 0)), (115, .iastore, 1, (0, 0, 0)), (116, .aload_n 0, 1, (0, 0, 0)), (117, .iconst 1, 1, (0, 0, 0)), (118, .putfield 528, 3, (5224, 1137, 0)), (121, .aload_n 0, 1, (0, 0, 0))] (by decide +kernel) (show jrun _ (99, [(15, a0), (0, a1)], [(0, 6), (40, (a0 + 5)), (0, 3), (26, (a0 + 15))], s5) = some ([(0 ≤ (6 : Int) ∧ (6 : Int) < 1905), (0 ≤ (3 : Int) ∧ (3 : Int) < 5), (0 ≤ (4 : Int) ∧ (4 : Int) < 5), ((1 : Int) = 0 ∨ (1 : Int) = 1)], (122, [(15, a0), (0, a1)], [(15, a0)], (jup (jup (jup s5 (a0 + 15) 3 ((s5 (a0 + 5) 6) - (s5 a0 44))) (a0 + 15) 4 ((jup s5 (a0 + 15) 3 ((s5 (a0 + 5) 6) - (s5 a0 44))) a0 45)) a0 37 1))) from rfl) (show (0 ≤ (6 : Int) ∧ (6 : Int) < 1905) ∧ (0 ≤ (3 : Int) ∧ (3 : Int) < 5) ∧ (0 ≤ (4 : Int) ∧ (4 : Int) < 5) ∧ ((1 : Int) = 0 ∨ (1 : Int) = 1) from by decide) ?_
      obtain ⟨s6, e6, H⟩ := jm_some H
      rw [← e6]
      refine AT.seq [(122, .getfield 492, 3, (5227, 1140, 0))] (by decide +kernel) (show jrun _ (122, [(15, a0), (0, a1)], [(15, a0)], s6) = some ([], (125, [(15, a0), (0, a1)], [(0, (s6 a0 40))], s6)) from rfl) ?_
      exact AT.retiH (by decide +kernel) H
def sMd_lived : jS := (⟨"JellyCathedralModel", "lived", "(I)I"⟩, prog_13_method_149_code, 2, 1, [15, 0], 0)
theorem kMd_lived : jmk sMd_lived = true := jmk_of 8208 1012 8206 8207 (by decide +kernel)
set_option maxRecDepth 100000 in
theorem Md_lived_ok {a0 a1 : Int} {s : jM} {o : Int × jM} (H : Md_lived a0 a1 s = some o) : MK sMd_lived 1 [(15, a0), (0, a1)] s o := by
  refine MK.of kMd_lived rfl ?_
  show AT sMd_lived 1 (0, [(15, a0), (0, a1)], [], s) o
  unfold Md_lived at H
  refine AT.seq [(0, .aload_n 0, 1, (0, 0, 0)), (1, .iconst 0, 1, (0, 0, 0)), (2, .putfield 72, 3, (5188, 1101, 0)), (5, .aload_n 0, 1, (0, 0, 0)), (6, .iconst 0, 1, (0, 0, 0)), (7, .putfield 75, 3, (5187, 1100, 0)), (10, .iload_n 1, 1, (0, 0, 0)), (11, .i2l, 1, (0, 0, 0)), (12, .lconst 0, 1, (0, 0, 0)), (13, .ldc2_w 465, 3, (8138, 0, 4))] (by decide +kernel) (show jrun _ (0, [(15, a0), (0, a1)], [], s) = some ([], (16, [(15, a0), (0, a1)], [(1, 4), (1, 0), (1, (w32 a1))], (jup (jup s a0 1 0) a0 0 0))) from rfl) ?_
  obtain ⟨v1, s1, h1, H⟩ := jb_some H
  refine AT.callS (As := [(1, (w32 a1)), (1, 0), (1, 4)]) (st := []) (i := 107) (pos := 6204) kMd_isIn (by decide +kernel) rfl rfl rfl (by omega) (Md_isIn_ok h1) ?_
  show AT sMd_lived 1 (19, [(15, a0), (0, a1)], [(0, v1)], s1) o
  refine AT.ite (x := (0, 0, 0)) (by decide +kernel) (show jbr (.ifCond .ne 9) (19, [(15, a0), (0, a1)], [(0, v1)], s1) = some ((w32 v1) = 0, (22, [(15, a0), (0, a1)], [], s1), (28, [(15, a0), (0, a1)], [], s1)) from rfl) H (fun H => ?_) (fun H => ?_)
  · refine AT.seq [(22, .aload_n 0, 1, (0, 0, 0)), (23, .iconst 5, 1, (0, 0, 0))] (by decide +kernel) (show jrun _ (22, [(15, a0), (0, a1)], [], s1) = some ([], (24, [(15, a0), (0, a1)], [(0, 5), (15, a0)], s1)) from rfl) ?_
    obtain ⟨v2, s2, h2, H⟩ := jb_some H
    refine AT.callV (As := [(0, 5)]) (cl := 11) (b := a0) (st := []) (i := 322) (pos := 7116) kMd_refuse (by decide +kernel) rfl (by decide +kernel) rfl rfl (by omega) (Md_refuse_ok h2) ?_
    show AT sMd_lived 1 (27, [(15, a0), (0, a1)], [(0, v2)], s2) o
    exact AT.retiH (by decide +kernel) H
  · refine AT.seq [(28, .aload_n 0, 1, (0, 0, 0)), (29, .getfield 528, 3, (5224, 1137, 0))] (by decide +kernel) (show jrun _ (28, [(15, a0), (0, a1)], [], s1) = some ([], (32, [(15, a0), (0, a1)], [(0, (s1 a0 37))], s1)) from rfl) ?_
    refine AT.ite (x := (0, 0, 0)) (by decide +kernel) (show jbr (.ifCond .eq 12) (32, [(15, a0), (0, a1)], [(0, (s1 a0 37))], s1) = some ((w32 (s1 a0 37)) = 0, (44, [(15, a0), (0, a1)], [], s1), (35, [(15, a0), (0, a1)], [], s1)) from rfl) H (fun H => ?_) (fun H => ?_)
    · refine AT.seq [(44, .aload_n 0, 1, (0, 0, 0)), (45, .bipush 8, 2, (0, 0, 0))] (by decide +kernel) (show jrun _ (44, [(15, a0), (0, a1)], [], s1) = some ([], (47, [(15, a0), (0, a1)], [(0, 8), (15, a0)], s1)) from rfl) ?_
      obtain ⟨v3, s3, h3, H⟩ := jb_some H
      refine AT.callV (As := [(0, 8)]) (cl := 11) (b := a0) (st := []) (i := 322) (pos := 7116) kMd_refuse (by decide +kernel) rfl (by decide +kernel) rfl rfl (by omega) (Md_refuse_ok h3) ?_
      show AT sMd_lived 1 (50, [(15, a0), (0, a1)], [(0, v3)], s3) o
      exact AT.retiH (by decide +kernel) H
    · refine AT.blk (g := (0 ≤ (w32 a1) ∧ (w32 a1) < 5)) [(35, .aload_n 0, 1, (0, 0, 0)), (36, .getfield 65, 3, (5223, 1136, 0)), (39, .iload_n 1, 1, (0, 0, 0)), (40, .iaload, 1, (0, 0, 0)), (41, .goto 9, 3, (0, 0, 0))] (by decide +kernel) (show jrun _ (35, [(15, a0), (0, a1)], [], s1) = some ([(0 ≤ (w32 a1) ∧ (w32 a1) < 5)], (50, [(15, a0), (0, a1)], [(0, (s1 (a0 + 15) (w32 a1)))], s1)) from rfl) (fun h => h) H (fun H => ?_)
      exact AT.retiH (by decide +kernel) H
def sMd_allFirm : jS := (⟨"JellyCathedralModel", "allFirm", "()I"⟩, prog_13_method_150_code, 3, 1, [15], 0)
theorem kMd_allFirm : jmk sMd_allFirm = true := jmk_of 8216 1012 8215 134 (by decide +kernel)
set_option maxRecDepth 100000 in
theorem Md_allFirm_4_ok {o : Int × jM} : ∀ (n : Nat) (x0 x1 x2 : Int) (s : jM), Md_allFirm_4  n x0 x1 x2 s = some o → AT sMd_allFirm 0 (4, [(15, x0), (0, x1), (0, x2)], [], s) o := by
  intro n
  induction n with
  | zero =>
    intro x0 x1 x2 s H
    have H : (none : Option (Int × jM)) = some o := H
    cases H
  | succ n ih =>
    intro x0 x1 x2 s H
    rw [Md_allFirm_4] at H
    refine AT.row [(4, .iload_n 2, 1, (0, 0, 0)), (5, .aload_n 0, 1, (0, 0, 0)), (6, .getfield 35, 3, (5207, 1120, 0)), (9, .iconst 2, 1, (0, 0, 0)), (10, .iaload, 1, (0, 0, 0))] (by decide +kernel) (show jrun _ (4, [(15, x0), (0, x1), (0, x2)], [], s) = some ([(0 ≤ (2 : Int) ∧ (2 : Int) < 1905)], (11, [(15, x0), (0, x1), (0, x2)], [(0, (s (x0 + 5) 2)), (0, x2)], s)) from rfl) (show (0 ≤ (2 : Int) ∧ (2 : Int) < 1905) from by decide) ?_
    refine AT.ite (x := (0, 0, 0)) (by decide +kernel) (show jbr (.if_icmp .ge 21) (11, [(15, x0), (0, x1), (0, x2)], [(0, (s (x0 + 5) 2)), (0, x2)], s) = some ((w32 x2) < (w32 (s (x0 + 5) 2)), (14, [(15, x0), (0, x1), (0, x2)], [], s), (32, [(15, x0), (0, x1), (0, x2)], [], s)) from rfl) H (fun H => ?_) (fun H => ?_)
    · refine AT.blk (g := (0 ≤ (w32 (74 + x2)) ∧ (w32 (74 + x2)) < 1905)) [(14, .iload_n 1, 1, (0, 0, 0)), (15, .aload_n 0, 1, (0, 0, 0)), (16, .getfield 35, 3, (5207, 1120, 0)), (19, .bipush 74, 2, (0, 0, 0)), (21, .iload_n 2, 1, (0, 0, 0)), (22, .iadd, 1, (0, 0, 0)), (23, .iaload, 1, (0, 0, 0)), (24, .iadd, 1, (0, 0, 0)), (25, .istore_n 1, 1, (0, 0, 0)), (26, .iinc 2 1, 3, (0, 0, 0)), (29, .goto (-25), 3, (0, 0, 0))] (by decide +kernel) (show jrun _ (14, [(15, x0), (0, x1), (0, x2)], [], s) = some ([(0 ≤ (w32 (74 + x2)) ∧ (w32 (74 + x2)) < 1905)], (4, [(15, x0), (0, (x1 + (s (x0 + 5) (w32 (74 + x2))))), (0, (x2 + 1))], [], s)) from rfl) (fun h => h) H (fun H => ?_)
      exact ih _ _ _ _ H
    · refine AT.seq [(32, .iload_n 1, 1, (0, 0, 0))] (by decide +kernel) (show jrun _ (32, [(15, x0), (0, x1), (0, x2)], [], s) = some ([], (33, [(15, x0), (0, x1), (0, x2)], [(0, x1)], s)) from rfl) ?_
      exact AT.retiH (by decide +kernel) H
set_option maxRecDepth 100000 in
theorem Md_allFirm_ok {a0 : Int} {s : jM} {o : Int × jM} (H : Md_allFirm a0 s = some o) : MK sMd_allFirm 0 [(15, a0)] s o := by
  refine MK.of kMd_allFirm rfl ?_
  show AT sMd_allFirm 0 (0, [(15, a0), (99, 0), (99, 0)], [], s) o
  unfold Md_allFirm at H
  refine AT.seq [(0, .iconst 0, 1, (0, 0, 0)), (1, .istore_n 1, 1, (0, 0, 0)), (2, .iconst 0, 1, (0, 0, 0)), (3, .istore_n 2, 1, (0, 0, 0))] (by decide +kernel) (show jrun _ (0, [(15, a0), (99, 0), (99, 0)], [], s) = some ([], (4, [(15, a0), (0, 0), (0, 0)], [], s)) from rfl) ?_
  exact Md_allFirm_4_ok  jFU _ _ _ _ H
def sMd_mean : jS := (⟨"JellyCathedralModel", "mean", "(II)Z"⟩, prog_13_method_151_code, 7, 3, [15, 0, 0], 0)
theorem kMd_mean : jmk sMd_mean = true := jmk_of 8212 1012 8210 8211 (by decide +kernel)
set_option maxRecDepth 100000 in
theorem Md_mean_116_ok {o : Int × jM} {k91 : Int → Int → Int → Int → Int → jM → Option (Int × jM)} (hk91 : ∀ (x0 x1 x2 x3 x5 : Int) (s : jM), k91 x0 x1 x2 x3 x5 s = some o → AT sMd_mean 31 (91, [(15, x0), (0, x1), (0, x2), (1, x3), (99, 0), (0, x5), (99, 0)], [], s) o) : ∀ (n : Nat) (x0 x1 x2 x3 x5 x6 : Int) (s : jM), Md_mean_116 k91 n x0 x1 x2 x3 x5 x6 s = some o → AT sMd_mean 31 (116, [(15, x0), (0, x1), (0, x2), (1, x3), (99, 0), (0, x5), (0, x6)], [], s) o := by
  intro n
  induction n with
  | zero =>
    intro x0 x1 x2 x3 x5 x6 s H
    have H : (none : Option (Int × jM)) = some o := H
    cases H
  | succ n ih =>
    intro x0 x1 x2 x3 x5 x6 s H
    rw [Md_mean_116] at H
    refine AT.seq [(116, .iload 6, 2, (0, 0, 0)), (118, .bipush 109, 2, (0, 0, 0))] (by decide +kernel) (show jrun _ (116, [(15, x0), (0, x1), (0, x2), (1, x3), (99, 0), (0, x5), (0, x6)], [], s) = some ([], (120, [(15, x0), (0, x1), (0, x2), (1, x3), (99, 0), (0, x5), (0, x6)], [(0, 109), (0, x6)], s)) from rfl) ?_
    refine AT.ite (x := (0, 0, 0)) (by decide +kernel) (show jbr (.if_icmp .ge 23) (120, [(15, x0), (0, x1), (0, x2), (1, x3), (99, 0), (0, x5), (0, x6)], [(0, 109), (0, x6)], s) = some ((w32 x6) < 109, (123, [(15, x0), (0, x1), (0, x2), (1, x3), (99, 0), (0, x5), (0, x6)], [], s), (143, [(15, x0), (0, x1), (0, x2), (1, x3), (99, 0), (0, x5), (0, x6)], [], s)) from rfl) H (fun H => ?_) (fun H => ?_)
    · refine AT.blk (g := (0 ≤ (w32 x6) ∧ (w32 x6) < 109) ∧ (0 ≤ (w32 x6) ∧ (w32 x6) < 1905)) [(123, .aload_n 0, 1, (0, 0, 0)), (124, .getfield 35, 3, (5207, 1120, 0)), (127, .iload 6, 2, (0, 0, 0)), (129, .aload_n 0, 1, (0, 0, 0)), (130, .getfield 41, 3, (5209, 1122, 0)), (133, .iload 6, 2, (0, 0, 0)), (135, .iaload, 1, (0, 0, 0)), (136, .iastore, 1, (0, 0, 0)), (137, .iinc 6 1, 3, (0, 0, 0)), (140, .goto (-24), 3, (0, 0, 0))] (by decide +kernel) (show jrun _ (123, [(15, x0), (0, x1), (0, x2), (1, x3), (99, 0), (0, x5), (0, x6)], [], s) = some ([(0 ≤ (w32 x6) ∧ (w32 x6) < 109), (0 ≤ (w32 x6) ∧ (w32 x6) < 1905)], (116, [(15, x0), (0, x1), (0, x2), (1, x3), (99, 0), (0, x5), (0, (x6 + 1))], [], (jup s (x0 + 5) (w32 x6) (s (x0 + 7) (w32 x6))))) from rfl) (fun h => ⟨h.1, h.2⟩) H (fun H => ?_)
      exact ih _ _ _ _ _ _ _ H
    · refine AT.seq [(143, .iinc 5 1, 3, (0, 0, 0)), (146, .goto (-55), 3, (0, 0, 0))] (by decide +kernel) (show jrun _ (143, [(15, x0), (0, x1), (0, x2), (1, x3), (99, 0), (0, x5), (0, x6)], [], s) = some ([], (91, [(15, x0), (0, x1), (0, x2), (1, x3), (99, 0), (0, (x5 + 1)), (0, x6)], [], s)) from rfl) ?_
      exact AT.weak (L' := [(15, x0), (0, x1), (0, x2), (1, x3), (99, 0), (0, (x5 + 1)), (99, 0)]) (jleK (jleK (jleK (jleK (jleK (jleK (jleJ jle0))))))) (hk91 _ _ _ _ _ _ H)
set_option maxRecDepth 100000 in
theorem Md_mean_91_ok {o : Int × jM} : ∀ (n : Nat) (x0 x1 x2 x3 x5 : Int) (s : jM), Md_mean_91  n x0 x1 x2 x3 x5 s = some o → AT sMd_mean 31 (91, [(15, x0), (0, x1), (0, x2), (1, x3), (99, 0), (0, x5), (99, 0)], [], s) o := by
  intro n
  induction n with
  | zero =>
    intro x0 x1 x2 x3 x5 s H
    have H : (none : Option (Int × jM)) = some o := H
    cases H
  | succ n ih =>
    intro x0 x1 x2 x3 x5 s H
    rw [Md_mean_91] at H
    refine AT.seq [(91, .iload 5, 2, (0, 0, 0)), (93, .iload_n 2, 1, (0, 0, 0))] (by decide +kernel) (show jrun _ (91, [(15, x0), (0, x1), (0, x2), (1, x3), (99, 0), (0, x5), (99, 0)], [], s) = some ([], (94, [(15, x0), (0, x1), (0, x2), (1, x3), (99, 0), (0, x5), (99, 0)], [(0, x2), (0, x5)], s)) from rfl) ?_
    refine AT.ite (x := (0, 0, 0)) (by decide +kernel) (show jbr (.if_icmp .ge 55) (94, [(15, x0), (0, x1), (0, x2), (1, x3), (99, 0), (0, x5), (99, 0)], [(0, x2), (0, x5)], s) = some ((w32 x5) < (w32 x2), (97, [(15, x0), (0, x1), (0, x2), (1, x3), (99, 0), (0, x5), (99, 0)], [], s), (149, [(15, x0), (0, x1), (0, x2), (1, x3), (99, 0), (0, x5), (99, 0)], [], s)) from rfl) H (fun H => ?_) (fun H => ?_)
    · refine AT.seq [(97, .aload_n 0, 1, (0, 0, 0)), (98, .iload_n 1, 1, (0, 0, 0)), (99, .iload 5, 2, (0, 0, 0)), (101, .iadd, 1, (0, 0, 0))] (by decide +kernel) (show jrun _ (97, [(15, x0), (0, x1), (0, x2), (1, x3), (99, 0), (0, x5), (99, 0)], [], s) = some ([], (102, [(15, x0), (0, x1), (0, x2), (1, x3), (99, 0), (0, x5), (99, 0)], [(0, (x1 + x5)), (15, x0)], s)) from rfl) ?_
      obtain ⟨v1, s1, h1, H⟩ := jb_some H
      refine AT.callV (As := [(0, (x1 + x5))]) (cl := 11) (b := x0) (st := []) (i := 525) (pos := 8172) kMd_runsFeasts (by decide +kernel) rfl (by decide +kernel) rfl rfl (by omega) (Md_runsFeasts_ok h1) ?_
      show AT sMd_mean 31 (105, [(15, x0), (0, x1), (0, x2), (1, x3), (99, 0), (0, x5), (99, 0)], [], s1) o
      refine AT.seq [(105, .lload_n 3, 1, (0, 0, 0)), (106, .aload_n 0, 1, (0, 0, 0))] (by decide +kernel) (show jrun _ (105, [(15, x0), (0, x1), (0, x2), (1, x3), (99, 0), (0, x5), (99, 0)], [], s1) = some ([], (107, [(15, x0), (0, x1), (0, x2), (1, x3), (99, 0), (0, x5), (99, 0)], [(15, x0), (1, x3)], s1)) from rfl) ?_
      obtain ⟨v2, s2, h2, H⟩ := jb_some H
      refine AT.callV (As := []) (cl := 11) (b := x0) (st := [(1, x3)]) (i := 531) (pos := 8213) kMd_allFirm (by decide +kernel) rfl (by decide +kernel) rfl rfl (by omega) (Md_allFirm_ok h2) ?_
      show AT sMd_mean 31 (110, [(15, x0), (0, x1), (0, x2), (1, x3), (99, 0), (0, x5), (99, 0)], [(0, v2), (1, x3)], s2) o
      refine AT.seq [(110, .i2l, 1, (0, 0, 0)), (111, .ladd, 1, (0, 0, 0)), (112, .lstore_n 3, 1, (0, 0, 0)), (113, .iconst 0, 1, (0, 0, 0)), (114, .istore 6, 2, (0, 0, 0))] (by decide +kernel) (show jrun _ (110, [(15, x0), (0, x1), (0, x2), (1, x3), (99, 0), (0, x5), (99, 0)], [(0, v2), (1, x3)], s2) = some ([], (116, [(15, x0), (0, x1), (0, x2), (1, (x3 + (w32 v2))), (99, 0), (0, x5), (0, 0)], [], s2)) from rfl) ?_
      exact Md_mean_116_ok ih jFU _ _ _ _ _ _ _ H
    · refine AT.seq [(149, .aload_n 0, 1, (0, 0, 0)), (150, .lload_n 3, 1, (0, 0, 0)), (151, .iload_n 2, 1, (0, 0, 0)), (152, .i2l, 1, (0, 0, 0))] (by decide +kernel) (show jrun _ (149, [(15, x0), (0, x1), (0, x2), (1, x3), (99, 0), (0, x5), (99, 0)], [], s) = some ([], (153, [(15, x0), (0, x1), (0, x2), (1, x3), (99, 0), (0, x5), (99, 0)], [(1, (w32 x2)), (1, x3), (15, x0)], s)) from rfl) ?_
      obtain ⟨v3, s3, h3, H⟩ := jb_some H
      refine AT.callV (As := [(1, x3), (1, (w32 x2))]) (cl := 11) (b := x0) (st := []) (i := 472) (pos := 8156) kMd_fraction (by decide +kernel) rfl (by decide +kernel) rfl rfl (by omega) (Md_fraction_ok h3) ?_
      show AT sMd_mean 31 (156, [(15, x0), (0, x1), (0, x2), (1, x3), (99, 0), (0, x5), (99, 0)], [(0, v3)], s3) o
      exact AT.retzH (by decide +kernel) H
set_option maxRecDepth 100000 in
theorem Md_mean_62_ok {o : Int × jM} : ∀ (n : Nat) (x0 x1 x2 x3 : Int) (s : jM), Md_mean_62  n x0 x1 x2 x3 s = some o → AT sMd_mean 31 (62, [(15, x0), (0, x1), (0, x2), (0, x3), (99, 0), (99, 0), (99, 0)], [], s) o := by
  intro n
  induction n with
  | zero =>
    intro x0 x1 x2 x3 s H
    have H : (none : Option (Int × jM)) = some o := H
    cases H
  | succ n ih =>
    intro x0 x1 x2 x3 s H
    rw [Md_mean_62] at H
    refine AT.seq [(62, .iload_n 3, 1, (0, 0, 0)), (63, .bipush 109, 2, (0, 0, 0))] (by decide +kernel) (show jrun _ (62, [(15, x0), (0, x1), (0, x2), (0, x3), (99, 0), (99, 0), (99, 0)], [], s) = some ([], (65, [(15, x0), (0, x1), (0, x2), (0, x3), (99, 0), (99, 0), (99, 0)], [(0, 109), (0, x3)], s)) from rfl) ?_
    refine AT.ite (x := (0, 0, 0)) (by decide +kernel) (show jbr (.if_icmp .ge 21) (65, [(15, x0), (0, x1), (0, x2), (0, x3), (99, 0), (99, 0), (99, 0)], [(0, 109), (0, x3)], s) = some ((w32 x3) < 109, (68, [(15, x0), (0, x1), (0, x2), (0, x3), (99, 0), (99, 0), (99, 0)], [], s), (86, [(15, x0), (0, x1), (0, x2), (0, x3), (99, 0), (99, 0), (99, 0)], [], s)) from rfl) H (fun H => ?_) (fun H => ?_)
    · refine AT.blk (g := (0 ≤ (w32 x3) ∧ (w32 x3) < 1905) ∧ (0 ≤ (w32 x3) ∧ (w32 x3) < 109)) [(68, .aload_n 0, 1, (0, 0, 0)), (69, .getfield 41, 3, (5209, 1122, 0)), (72, .iload_n 3, 1, (0, 0, 0)), (73, .aload_n 0, 1, (0, 0, 0)), (74, .getfield 35, 3, (5207, 1120, 0)), (77, .iload_n 3, 1, (0, 0, 0)), (78, .iaload, 1, (0, 0, 0)), (79, .iastore, 1, (0, 0, 0)), (80, .iinc 3 1, 3, (0, 0, 0)), (83, .goto (-21), 3, (0, 0, 0))] (by decide +kernel) (show jrun _ (68, [(15, x0), (0, x1), (0, x2), (0, x3), (99, 0), (99, 0), (99, 0)], [], s) = some ([(0 ≤ (w32 x3) ∧ (w32 x3) < 1905), (0 ≤ (w32 x3) ∧ (w32 x3) < 109)], (62, [(15, x0), (0, x1), (0, x2), (0, (x3 + 1)), (99, 0), (99, 0), (99, 0)], [], (jup s (x0 + 7) (w32 x3) (s (x0 + 5) (w32 x3))))) from rfl) (fun h => ⟨h.1, h.2⟩) H (fun H => ?_)
      exact ih _ _ _ _ _ H
    · refine AT.seq [(86, .lconst 0, 1, (0, 0, 0)), (87, .lstore_n 3, 1, (0, 0, 0)), (88, .iconst 0, 1, (0, 0, 0)), (89, .istore 5, 2, (0, 0, 0))] (by decide +kernel) (show jrun _ (86, [(15, x0), (0, x1), (0, x2), (0, x3), (99, 0), (99, 0), (99, 0)], [], s) = some ([], (91, [(15, x0), (0, x1), (0, x2), (1, 0), (99, 0), (0, 0), (99, 0)], [], s)) from rfl) ?_
      exact Md_mean_91_ok  jFU _ _ _ _ _ _ H
set_option maxRecDepth 100000 in
theorem Md_mean_ok {a0 a1 a2 : Int} {s : jM} {o : Int × jM} (H : Md_mean a0 a1 a2 s = some o) : MK sMd_mean 31 [(15, a0), (0, a1), (0, a2)] s o := by
  refine MK.of kMd_mean rfl ?_
  show AT sMd_mean 31 (0, [(15, a0), (0, a1), (0, a2), (99, 0), (99, 0), (99, 0), (99, 0)], [], s) o
  unfold Md_mean at H
  refine AT.seq [(0, .aload_n 0, 1, (0, 0, 0)), (1, .iconst 0, 1, (0, 0, 0)), (2, .putfield 72, 3, (5188, 1101, 0)), (5, .aload_n 0, 1, (0, 0, 0)), (6, .iconst 0, 1, (0, 0, 0)), (7, .putfield 75, 3, (5187, 1100, 0)), (10, .iload_n 2, 1, (0, 0, 0)), (11, .i2l, 1, (0, 0, 0)), (12, .lconst 1, 1, (0, 0, 0)), (13, .ldc2_w 440, 3, (8109, 0, 20))] (by decide +kernel) (show jrun _ (0, [(15, a0), (0, a1), (0, a2), (99, 0), (99, 0), (99, 0), (99, 0)], [], s) = some ([], (16, [(15, a0), (0, a1), (0, a2), (99, 0), (99, 0), (99, 0), (99, 0)], [(1, 20), (1, 1), (1, (w32 a2))], (jup (jup s a0 1 0) a0 0 0))) from rfl) ?_
  obtain ⟨v4, s4, h4, H⟩ := jb_some H
  refine AT.callS (As := [(1, (w32 a2)), (1, 1), (1, 20)]) (st := []) (i := 107) (pos := 6204) kMd_isIn (by decide +kernel) rfl rfl rfl (by omega) (Md_isIn_ok h4) ?_
  show AT sMd_mean 31 (19, [(15, a0), (0, a1), (0, a2), (99, 0), (99, 0), (99, 0), (99, 0)], [(0, v4)], s4) o
  refine AT.ite (x := (0, 0, 0)) (by decide +kernel) (show jbr (.ifCond .eq 18) (19, [(15, a0), (0, a1), (0, a2), (99, 0), (99, 0), (99, 0), (99, 0)], [(0, v4)], s4) = some ((w32 v4) = 0, (37, [(15, a0), (0, a1), (0, a2), (99, 0), (99, 0), (99, 0), (99, 0)], [], s4), (22, [(15, a0), (0, a1), (0, a2), (99, 0), (99, 0), (99, 0), (99, 0)], [], s4)) from rfl) H (fun H => ?_) (fun H => ?_)
  · refine AT.seq [(37, .aload_n 0, 1, (0, 0, 0)), (38, .iconst 5, 1, (0, 0, 0))] (by decide +kernel) (show jrun _ (37, [(15, a0), (0, a1), (0, a2), (99, 0), (99, 0), (99, 0), (99, 0)], [], s4) = some ([], (39, [(15, a0), (0, a1), (0, a2), (99, 0), (99, 0), (99, 0), (99, 0)], [(0, 5), (15, a0)], s4)) from rfl) ?_
    obtain ⟨v5, s5, h5, H⟩ := jb_some H
    refine AT.callV (As := [(0, 5)]) (cl := 11) (b := a0) (st := []) (i := 87) (pos := 6102) kMd_no (by decide +kernel) rfl (by decide +kernel) rfl rfl (by omega) (Md_no_ok h5) ?_
    show AT sMd_mean 31 (42, [(15, a0), (0, a1), (0, a2), (99, 0), (99, 0), (99, 0), (99, 0)], [(0, v5)], s5) o
    exact AT.retzH (by decide +kernel) H
  · refine AT.seq [(22, .iload_n 1, 1, (0, 0, 0)), (23, .i2l, 1, (0, 0, 0)), (24, .lconst 0, 1, (0, 0, 0)), (25, .sipush 10000, 3, (0, 0, 0)), (28, .iload_n 2, 1, (0, 0, 0)), (29, .isub, 1, (0, 0, 0)), (30, .i2l, 1, (0, 0, 0))] (by decide +kernel) (show jrun _ (22, [(15, a0), (0, a1), (0, a2), (99, 0), (99, 0), (99, 0), (99, 0)], [], s4) = some ([], (31, [(15, a0), (0, a1), (0, a2), (99, 0), (99, 0), (99, 0), (99, 0)], [(1, (w32 (10000 - a2))), (1, 0), (1, (w32 a1))], s4)) from rfl) ?_
    obtain ⟨v6, s6, h6, H⟩ := jb_some H
    refine AT.callS (As := [(1, (w32 a1)), (1, 0), (1, (w32 (10000 - a2)))]) (st := []) (i := 107) (pos := 6204) kMd_isIn (by decide +kernel) rfl rfl rfl (by omega) (Md_isIn_ok h6) ?_
    show AT sMd_mean 31 (34, [(15, a0), (0, a1), (0, a2), (99, 0), (99, 0), (99, 0), (99, 0)], [(0, v6)], s6) o
    refine AT.ite (x := (0, 0, 0)) (by decide +kernel) (show jbr (.ifCond .ne 9) (34, [(15, a0), (0, a1), (0, a2), (99, 0), (99, 0), (99, 0), (99, 0)], [(0, v6)], s6) = some ((w32 v6) = 0, (37, [(15, a0), (0, a1), (0, a2), (99, 0), (99, 0), (99, 0), (99, 0)], [], s6), (43, [(15, a0), (0, a1), (0, a2), (99, 0), (99, 0), (99, 0), (99, 0)], [], s6)) from rfl) H (fun H => ?_) (fun H => ?_)
    · refine AT.seq [(37, .aload_n 0, 1, (0, 0, 0)), (38, .iconst 5, 1, (0, 0, 0))] (by decide +kernel) (show jrun _ (37, [(15, a0), (0, a1), (0, a2), (99, 0), (99, 0), (99, 0), (99, 0)], [], s6) = some ([], (39, [(15, a0), (0, a1), (0, a2), (99, 0), (99, 0), (99, 0), (99, 0)], [(0, 5), (15, a0)], s6)) from rfl) ?_
      obtain ⟨v7, s7, h7, H⟩ := jb_some H
      refine AT.callV (As := [(0, 5)]) (cl := 11) (b := a0) (st := []) (i := 87) (pos := 6102) kMd_no (by decide +kernel) rfl (by decide +kernel) rfl rfl (by omega) (Md_no_ok h7) ?_
      show AT sMd_mean 31 (42, [(15, a0), (0, a1), (0, a2), (99, 0), (99, 0), (99, 0), (99, 0)], [(0, v7)], s7) o
      exact AT.retzH (by decide +kernel) H
    · refine AT.row [(43, .aload_n 0, 1, (0, 0, 0)), (44, .getfield 35, 3, (5207, 1120, 0)), (47, .bipush 109, 2, (0, 0, 0)), (49, .iaload, 1, (0, 0, 0))] (by decide +kernel) (show jrun _ (43, [(15, a0), (0, a1), (0, a2), (99, 0), (99, 0), (99, 0), (99, 0)], [], s6) = some ([(0 ≤ (109 : Int) ∧ (109 : Int) < 1905)], (50, [(15, a0), (0, a1), (0, a2), (99, 0), (99, 0), (99, 0), (99, 0)], [(0, (s6 (a0 + 5) 109))], s6)) from rfl) (show (0 ≤ (109 : Int) ∧ (109 : Int) < 1905) from by decide) ?_
      refine AT.ite (x := (0, 0, 0)) (by decide +kernel) (show jbr (.ifCond .ne 10) (50, [(15, a0), (0, a1), (0, a2), (99, 0), (99, 0), (99, 0), (99, 0)], [(0, (s6 (a0 + 5) 109))], s6) = some ((w32 (s6 (a0 + 5) 109)) = 0, (53, [(15, a0), (0, a1), (0, a2), (99, 0), (99, 0), (99, 0), (99, 0)], [], s6), (60, [(15, a0), (0, a1), (0, a2), (99, 0), (99, 0), (99, 0), (99, 0)], [], s6)) from rfl) H (fun H => ?_) (fun H => ?_)
      · refine AT.seq [(53, .aload_n 0, 1, (0, 0, 0)), (54, .bipush 8, 2, (0, 0, 0))] (by decide +kernel) (show jrun _ (53, [(15, a0), (0, a1), (0, a2), (99, 0), (99, 0), (99, 0), (99, 0)], [], s6) = some ([], (56, [(15, a0), (0, a1), (0, a2), (99, 0), (99, 0), (99, 0), (99, 0)], [(0, 8), (15, a0)], s6)) from rfl) ?_
        obtain ⟨v8, s8, h8, H⟩ := jb_some H
        refine AT.callV (As := [(0, 8)]) (cl := 11) (b := a0) (st := []) (i := 87) (pos := 6102) kMd_no (by decide +kernel) rfl (by decide +kernel) rfl rfl (by omega) (Md_no_ok h8) ?_
        show AT sMd_mean 31 (59, [(15, a0), (0, a1), (0, a2), (99, 0), (99, 0), (99, 0), (99, 0)], [(0, v8)], s8) o
        exact AT.retzH (by decide +kernel) H
      · refine AT.seq [(60, .iconst 0, 1, (0, 0, 0)), (61, .istore_n 3, 1, (0, 0, 0))] (by decide +kernel) (show jrun _ (60, [(15, a0), (0, a1), (0, a2), (99, 0), (99, 0), (99, 0), (99, 0)], [], s6) = some ([], (62, [(15, a0), (0, a1), (0, a2), (0, 0), (99, 0), (99, 0), (99, 0)], [], s6)) from rfl) ?_
        exact Md_mean_62_ok  jFU _ _ _ _ _ H
def sMd_mark : jS := (⟨"JellyCathedralModel", "mark", "()I"⟩, prog_13_method_153_code, 1, 1, [15], 0)
theorem kMd_mark : jmk sMd_mark = true := jmk_of 8220 1012 8218 8219 (by decide +kernel)
set_option maxRecDepth 100000 in
theorem Md_mark_ok {a0 : Int} {s : jM} {o : Int × jM} (H : Md_mark a0 s = some o) : MK sMd_mark 1 [(15, a0)] s o := by
  refine MK.of kMd_mark rfl ?_
  show AT sMd_mark 1 (0, [(15, a0)], [], s) o
  unfold Md_mark at H
  refine AT.seq [(0, .aload_n 0, 1, (0, 0, 0)), (1, .iconst 0, 1, (0, 0, 0)), (2, .putfield 72, 3, (5188, 1101, 0)), (5, .aload_n 0, 1, (0, 0, 0)), (6, .iconst 0, 1, (0, 0, 0)), (7, .putfield 75, 3, (5187, 1100, 0)), (10, .aload_n 0, 1, (0, 0, 0)), (11, .getfield 534, 3, (5211, 1124, 0)), (14, .iconst 3, 1, (0, 0, 0))] (by decide +kernel) (show jrun _ (0, [(15, a0)], [], s) = some ([], (15, [(15, a0)], [(0, 3), (0, ((jup (jup s a0 1 0) a0 0 0) a0 24))], (jup (jup s a0 1 0) a0 0 0))) from rfl) ?_
  refine AT.ite (x := (0, 0, 0)) (by decide +kernel) (show jbr (.if_icmp .ne 10) (15, [(15, a0)], [(0, 3), (0, ((jup (jup s a0 1 0) a0 0 0) a0 24))], (jup (jup s a0 1 0) a0 0 0)) = some ((w32 ((jup (jup s a0 1 0) a0 0 0) a0 24)) = 3, (18, [(15, a0)], [], (jup (jup s a0 1 0) a0 0 0)), (25, [(15, a0)], [], (jup (jup s a0 1 0) a0 0 0))) from rfl) H (fun H => ?_) (fun H => ?_)
  · refine AT.seq [(18, .aload_n 0, 1, (0, 0, 0)), (19, .bipush 7, 2, (0, 0, 0))] (by decide +kernel) (show jrun _ (18, [(15, a0)], [], (jup (jup s a0 1 0) a0 0 0)) = some ([], (21, [(15, a0)], [(0, 7), (15, a0)], (jup (jup s a0 1 0) a0 0 0))) from rfl) ?_
    obtain ⟨v1, s1, h1, H⟩ := jb_some H
    refine AT.callV (As := [(0, 7)]) (cl := 11) (b := a0) (st := []) (i := 322) (pos := 7116) kMd_refuse (by decide +kernel) rfl (by decide +kernel) rfl rfl (by omega) (Md_refuse_ok h1) ?_
    show AT sMd_mark 1 (24, [(15, a0)], [(0, v1)], s1) o
    exact AT.retiH (by decide +kernel) H
  · refine AT.seq [(25, .aload_n 0, 1, (0, 0, 0)), (26, .dup, 1, (0, 0, 0)), (27, .getfield 534, 3, (5211, 1124, 0)), (30, .iconst 1, 1, (0, 0, 0)), (31, .iadd, 1, (0, 0, 0)), (32, .putfield 534, 3, (5211, 1124, 0)), (35, .aload_n 0, 1, (0, 0, 0)), (36, .iconst 0, 1, (0, 0, 0)), (37, .aload_n 0, 1, (0, 0, 0)), (38, .getfield 534, 3, (5211, 1124, 0))] (by decide +kernel) (show jrun _ (25, [(15, a0)], [], (jup (jup s a0 1 0) a0 0 0)) = some ([], (41, [(15, a0)], [(0, ((jup (jup (jup s a0 1 0) a0 0 0) a0 24 (((jup (jup s a0 1 0) a0 0 0) a0 24) + 1)) a0 24)), (0, 0), (15, a0)], (jup (jup (jup s a0 1 0) a0 0 0) a0 24 (((jup (jup s a0 1 0) a0 0 0) a0 24) + 1)))) from rfl) ?_
    obtain ⟨v2, s2, h2, H⟩ := jb_some H
    refine AT.callV (As := [(0, 0), (0, ((jup (jup (jup s a0 1 0) a0 0 0) a0 24 (((jup (jup s a0 1 0) a0 0 0) a0 24) + 1)) a0 24))]) (cl := 11) (b := a0) (st := []) (i := 302) (pos := 7091) kMd_copy (by decide +kernel) rfl (by decide +kernel) rfl rfl (by omega) (Md_copy_ok h2) ?_
    show AT sMd_mark 1 (44, [(15, a0)], [], s2) o
    refine AT.seq [(44, .aload_n 0, 1, (0, 0, 0)), (45, .getfield 534, 3, (5211, 1124, 0))] (by decide +kernel) (show jrun _ (44, [(15, a0)], [], s2) = some ([], (48, [(15, a0)], [(0, (s2 a0 24))], s2)) from rfl) ?_
    exact AT.retiH (by decide +kernel) H
def sMd_back : jS := (⟨"JellyCathedralModel", "back", "()I"⟩, prog_13_method_154_code, 1, 1, [15], 0)
theorem kMd_back : jmk sMd_back = true := jmk_of 8224 1012 8222 8223 (by decide +kernel)
set_option maxRecDepth 100000 in
theorem Md_back_ok {a0 : Int} {s : jM} {o : Int × jM} (H : Md_back a0 s = some o) : MK sMd_back 1 [(15, a0)] s o := by
  refine MK.of kMd_back rfl ?_
  show AT sMd_back 1 (0, [(15, a0)], [], s) o
  unfold Md_back at H
  refine AT.seq [(0, .aload_n 0, 1, (0, 0, 0)), (1, .iconst 0, 1, (0, 0, 0)), (2, .putfield 72, 3, (5188, 1101, 0)), (5, .aload_n 0, 1, (0, 0, 0)), (6, .iconst 0, 1, (0, 0, 0)), (7, .putfield 75, 3, (5187, 1100, 0)), (10, .aload_n 0, 1, (0, 0, 0)), (11, .getfield 534, 3, (5211, 1124, 0))] (by decide +kernel) (show jrun _ (0, [(15, a0)], [], s) = some ([], (14, [(15, a0)], [(0, ((jup (jup s a0 1 0) a0 0 0) a0 24))], (jup (jup s a0 1 0) a0 0 0))) from rfl) ?_
  refine AT.ite (x := (0, 0, 0)) (by decide +kernel) (show jbr (.ifCond .ne 10) (14, [(15, a0)], [(0, ((jup (jup s a0 1 0) a0 0 0) a0 24))], (jup (jup s a0 1 0) a0 0 0)) = some ((w32 ((jup (jup s a0 1 0) a0 0 0) a0 24)) = 0, (17, [(15, a0)], [], (jup (jup s a0 1 0) a0 0 0)), (24, [(15, a0)], [], (jup (jup s a0 1 0) a0 0 0))) from rfl) H (fun H => ?_) (fun H => ?_)
  · refine AT.seq [(17, .aload_n 0, 1, (0, 0, 0)), (18, .bipush 8, 2, (0, 0, 0))] (by decide +kernel) (show jrun _ (17, [(15, a0)], [], (jup (jup s a0 1 0) a0 0 0)) = some ([], (20, [(15, a0)], [(0, 8), (15, a0)], (jup (jup s a0 1 0) a0 0 0))) from rfl) ?_
    obtain ⟨v1, s1, h1, H⟩ := jb_some H
    refine AT.callV (As := [(0, 8)]) (cl := 11) (b := a0) (st := []) (i := 322) (pos := 7116) kMd_refuse (by decide +kernel) rfl (by decide +kernel) rfl rfl (by omega) (Md_refuse_ok h1) ?_
    show AT sMd_back 1 (23, [(15, a0)], [(0, v1)], s1) o
    exact AT.retiH (by decide +kernel) H
  · refine AT.seq [(24, .aload_n 0, 1, (0, 0, 0)), (25, .aload_n 0, 1, (0, 0, 0)), (26, .getfield 534, 3, (5211, 1124, 0)), (29, .iconst 0, 1, (0, 0, 0))] (by decide +kernel) (show jrun _ (24, [(15, a0)], [], (jup (jup s a0 1 0) a0 0 0)) = some ([], (30, [(15, a0)], [(0, 0), (0, ((jup (jup s a0 1 0) a0 0 0) a0 24)), (15, a0)], (jup (jup s a0 1 0) a0 0 0))) from rfl) ?_
    obtain ⟨v2, s2, h2, H⟩ := jb_some H
    refine AT.callV (As := [(0, ((jup (jup s a0 1 0) a0 0 0) a0 24)), (0, 0)]) (cl := 11) (b := a0) (st := []) (i := 302) (pos := 7091) kMd_copy (by decide +kernel) rfl (by decide +kernel) rfl rfl (by omega) (Md_copy_ok h2) ?_
    show AT sMd_back 1 (33, [(15, a0)], [], s2) o
    refine AT.seq [(33, .aload_n 0, 1, (0, 0, 0)), (34, .dup, 1, (0, 0, 0)), (35, .getfield 534, 3, (5211, 1124, 0)), (38, .iconst 1, 1, (0, 0, 0)), (39, .isub, 1, (0, 0, 0)), (40, .putfield 534, 3, (5211, 1124, 0)), (43, .aload_n 0, 1, (0, 0, 0)), (44, .getfield 534, 3, (5211, 1124, 0))] (by decide +kernel) (show jrun _ (33, [(15, a0)], [], s2) = some ([], (47, [(15, a0)], [(0, ((jup s2 a0 24 ((s2 a0 24) - 1)) a0 24))], (jup s2 a0 24 ((s2 a0 24) - 1)))) from rfl) ?_
    exact AT.retiH (by decide +kernel) H
