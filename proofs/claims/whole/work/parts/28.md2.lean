/-! printed by wip/whole/gen_all.py: Md_readWalk, Md_readMould, Md_readPart, Md_copy, Md_see, Md_readTest, Md_readRest, Md_readStep, Md_feasts, Md_isStuffAt, Md_isPlaceAt, Md_isMouldAt, Md_partOf, Md_partsIn, Md_strengthOf, Md_areIn -/
def sMd_readWalk : jS := (⟨"JellyCathedralModel", "readWalk", "()V"⟩, prog_13_method_66_code, 5, 0, [15], 0)
theorem kMd_readWalk : jmk sMd_readWalk = true := jmk_of 7069 1012 7068 79 (by decide +kernel)
set_option maxRecDepth 100000 in
theorem Md_readWalk_72_ok {o : Int × jM} {x0 x1 x2 x3 : Int} {s : jM} (H : Md_readWalk_72  x0 x1 x2 x3 s = some o) : AT sMd_readWalk 7 (72, [(15, x0), (0, x1), (0, x2), (0, x3), (99, 0)], [], s) o := by
  unfold Md_readWalk_72 at H
  refine AT.seq [(72, .aload_n 0, 1, (0, 0, 0)), (73, .iconst 1, 1, (0, 0, 0))] (by decide +kernel) (show jrun _ (72, [(15, x0), (0, x1), (0, x2), (0, x3), (99, 0)], [], s) = some ([], (74, [(15, x0), (0, x1), (0, x2), (0, x3), (99, 0)], [(0, 1), (15, x0)], s)) from rfl) ?_
  obtain ⟨v1, s1, h1, H⟩ := jb_some H
  refine AT.callV (As := [(0, 1)]) (cl := 11) (b := x0) (st := []) (i := 225) (pos := 7054) kMd_must (by decide +kernel) rfl (by decide +kernel) rfl rfl (by omega) (Md_must_ok h1) ?_
  show AT sMd_readWalk 7 (77, [(15, x0), (0, x1), (0, x2), (0, x3), (99, 0)], [], s1) o
  refine AT.seq [(77, .aload_n 0, 1, (0, 0, 0)), (78, .aload_n 0, 1, (0, 0, 0))] (by decide +kernel) (show jrun _ (77, [(15, x0), (0, x1), (0, x2), (0, x3), (99, 0)], [], s1) = some ([], (79, [(15, x0), (0, x1), (0, x2), (0, x3), (99, 0)], [(15, x0), (15, x0)], s1)) from rfl) ?_
  obtain ⟨v2, s2, h2, H⟩ := jb_some H
  refine AT.callV (As := []) (cl := 11) (b := x0) (st := [(15, x0)]) (i := 184) (pos := 7011) kMd_isShakes (by decide +kernel) rfl (by decide +kernel) rfl rfl (by omega) (Md_isShakes_ok h2) ?_
  show AT sMd_readWalk 7 (82, [(15, x0), (0, x1), (0, x2), (0, x3), (99, 0)], [(0, v2), (15, x0)], s2) o
  refine AT.seq [(82, .iconst 0, 1, (0, 0, 0)), (83, .bipush 9, 2, (0, 0, 0))] (by decide +kernel) (show jrun _ (82, [(15, x0), (0, x1), (0, x2), (0, x3), (99, 0)], [(0, v2), (15, x0)], s2) = some ([], (85, [(15, x0), (0, x1), (0, x2), (0, x3), (99, 0)], [(0, 9), (0, 0), (0, v2), (15, x0)], s2)) from rfl) ?_
  obtain ⟨v3, s3, h3, H⟩ := jb_some H
  refine AT.callV (As := [(0, v2), (0, 0), (0, 9)]) (cl := 11) (b := x0) (st := []) (i := 263) (pos := 7050) kMd_behindWord (by decide +kernel) rfl (by decide +kernel) rfl rfl (by omega) (Md_behindWord_ok h3) ?_
  show AT sMd_readWalk 7 (88, [(15, x0), (0, x1), (0, x2), (0, x3), (99, 0)], [(0, v3)], s3) o
  refine AT.seq [(88, .istore 4, 2, (0, 0, 0)), (90, .aload_n 0, 1, (0, 0, 0)), (91, .getfield 209, 3, (5199, 1112, 0))] (by decide +kernel) (show jrun _ (88, [(15, x0), (0, x1), (0, x2), (0, x3), (99, 0)], [(0, v3)], s3) = some ([], (94, [(15, x0), (0, x1), (0, x2), (0, x3), (0, v3)], [(0, (s3 x0 12))], s3)) from rfl) ?_
  refine AT.ite (x := (0, 0, 0)) (by decide +kernel) (show jbr (.ifCond .le 4) (94, [(15, x0), (0, x1), (0, x2), (0, x3), (0, v3)], [(0, (s3 x0 12))], s3) = some (0 < (w32 (s3 x0 12)), (97, [(15, x0), (0, x1), (0, x2), (0, x3), (0, v3)], [], s3), (98, [(15, x0), (0, x1), (0, x2), (0, x3), (0, v3)], [], s3)) from rfl) H (fun H => ?_) (fun H => ?_)
  · exact AT.retvH (by decide +kernel) H
  · refine AT.blk (g := (0 ≤ (w32 (1548 + x1)) ∧ (w32 (1548 + x1)) < 1905) ∧ (0 ≤ (w32 (1558 + x1)) ∧ (w32 (1558 + x1)) < 1905) ∧ (0 ≤ (w32 (1568 + x1)) ∧ (w32 (1568 + x1)) < 1905)) [(98, .aload_n 0, 1, (0, 0, 0)), (99, .getfield 35, 3, (5207, 1120, 0)), (102, .sipush 1548, 3, (0, 0, 0)), (105, .iload_n 1, 1, (0, 0, 0)), (106, .iadd, 1, (0, 0, 0)), (107, .iload_n 2, 1, (0, 0, 0)), (108, .iastore, 1, (0, 0, 0)), (109, .aload_n 0, 1, (0, 0, 0)), (110, .getfield 35, 3, (5207, 1120, 0)), (113, .sipush 1558, 3, (0, 0, 0)), (116, .iload_n 1, 1, (0, 0, 0)), (117, .iadd, 1, (0, 0, 0)), (118, .iload_n 3, 1, (0, 0, 0)), (119, .iastore, 1, (0, 0, 0)), (120, .aload_n 0, 1, (0, 0, 0)), (121, .getfield 35, 3, (5207, 1120, 0)), (124, .sipush 1568, 3, (0, 0, 0)), (127, .iload_n 1, 1, (0, 0, 0)), (128, .iadd, 1, (0, 0, 0)), (129, .iload 4, 2, (0, 0, 0)), (131, .iastore, 1, (0, 0, 0)), (132, .aload_n 0, 1, (0, 0, 0)), (133, .getfield 35, 3, (5207, 1120, 0)), (136, .sipush 1532, 3, (0, 0, 0)), (139, .dup2, 1, (0, 0, 0))] (by decide +kernel) (show jrun _ (98, [(15, x0), (0, x1), (0, x2), (0, x3), (0, v3)], [], s3) = some ([(0 ≤ (w32 (1548 + x1)) ∧ (w32 (1548 + x1)) < 1905), (0 ≤ (w32 (1558 + x1)) ∧ (w32 (1558 + x1)) < 1905), (0 ≤ (w32 (1568 + x1)) ∧ (w32 (1568 + x1)) < 1905)], (140, [(15, x0), (0, x1), (0, x2), (0, x3), (0, v3)], [(0, 1532), (40, (x0 + 5)), (0, 1532), (40, (x0 + 5))], (jup (jup (jup s3 (x0 + 5) (w32 (1548 + x1)) x2) (x0 + 5) (w32 (1558 + x1)) x3) (x0 + 5) (w32 (1568 + x1)) v3))) from rfl) (fun h => ⟨h.1, h.2.1, h.2.2⟩) H (fun H => ?_)
    obtain ⟨s4, e4, H⟩ := jm_some H
    rw [← e4]
    refine AT.row [(140, .iaload, 1, (0, 0, 0)), (141, .iconst 1, 1, (0, 0, 0)), (142, .iadd, 1, (0, 0, 0)), (143, .iastore, 1, (0, 0, 0))] (by decide +kernel) (show jrun _ (140, [(15, x0), (0, x1), (0, x2), (0, x3), (0, v3)], [(0, 1532), (40, (x0 + 5)), (0, 1532), (40, (x0 + 5))], s4) = some ([(0 ≤ (1532 : Int) ∧ (1532 : Int) < 1905), (0 ≤ (1532 : Int) ∧ (1532 : Int) < 1905)], (144, [(15, x0), (0, x1), (0, x2), (0, x3), (0, v3)], [], (jup s4 (x0 + 5) 1532 ((s4 (x0 + 5) 1532) + 1)))) from rfl) (show (0 ≤ (1532 : Int) ∧ (1532 : Int) < 1905) ∧ (0 ≤ (1532 : Int) ∧ (1532 : Int) < 1905) from by decide) ?_
    exact AT.retvH (by decide +kernel) H
set_option maxRecDepth 100000 in
theorem Md_readWalk_25_ok {o : Int × jM} {x0 x1 : Int} {s : jM} (H : Md_readWalk_25  x0 x1 s = some o) : AT sMd_readWalk 7 (25, [(15, x0), (0, x1), (99, 0), (99, 0), (99, 0)], [], s) o := by
  unfold Md_readWalk_25 at H
  refine AT.seq [(25, .aload_n 0, 1, (0, 0, 0)), (26, .getfield 209, 3, (5199, 1112, 0))] (by decide +kernel) (show jrun _ (25, [(15, x0), (0, x1), (99, 0), (99, 0), (99, 0)], [], s) = some ([], (29, [(15, x0), (0, x1), (99, 0), (99, 0), (99, 0)], [(0, (s x0 12))], s)) from rfl) ?_
  refine AT.ite (x := (0, 0, 0)) (by decide +kernel) (show jbr (.ifCond .le 4) (29, [(15, x0), (0, x1), (99, 0), (99, 0), (99, 0)], [(0, (s x0 12))], s) = some (0 < (w32 (s x0 12)), (32, [(15, x0), (0, x1), (99, 0), (99, 0), (99, 0)], [], s), (33, [(15, x0), (0, x1), (99, 0), (99, 0), (99, 0)], [], s)) from rfl) H (fun H => ?_) (fun H => ?_)
  · exact AT.retvH (by decide +kernel) H
  · refine AT.seq [(33, .aload_n 0, 1, (0, 0, 0))] (by decide +kernel) (show jrun _ (33, [(15, x0), (0, x1), (99, 0), (99, 0), (99, 0)], [], s) = some ([], (34, [(15, x0), (0, x1), (99, 0), (99, 0), (99, 0)], [(15, x0)], s)) from rfl) ?_
    obtain ⟨v5, s5, h5, H⟩ := jb_some H
    refine AT.callV (As := []) (cl := 11) (b := x0) (st := []) (i := 219) (pos := 6150) kMd_advance (by decide +kernel) rfl (by decide +kernel) rfl rfl (by omega) (Md_advance_ok h5) ?_
    show AT sMd_readWalk 7 (37, [(15, x0), (0, x1), (99, 0), (99, 0), (99, 0)], [], s5) o
    refine AT.seq [(37, .aload_n 0, 1, (0, 0, 0)), (38, .iconst 4, 1, (0, 0, 0)), (39, .iconst 1, 1, (0, 0, 0))] (by decide +kernel) (show jrun _ (37, [(15, x0), (0, x1), (99, 0), (99, 0), (99, 0)], [], s5) = some ([], (40, [(15, x0), (0, x1), (99, 0), (99, 0), (99, 0)], [(0, 1), (0, 4), (15, x0)], s5)) from rfl) ?_
    obtain ⟨v6, s6, h6, H⟩ := jb_some H
    refine AT.callV (As := [(0, 4), (0, 1)]) (cl := 11) (b := x0) (st := []) (i := 271) (pos := 7070) kMd_readTold (by decide +kernel) rfl (by decide +kernel) rfl rfl (by omega) (Md_readTold_ok h6) ?_
    show AT sMd_readWalk 7 (43, [(15, x0), (0, x1), (99, 0), (99, 0), (99, 0)], [(0, v6)], s6) o
    refine AT.seq [(43, .istore_n 2, 1, (0, 0, 0)), (44, .aload_n 0, 1, (0, 0, 0)), (45, .iconst 4, 1, (0, 0, 0)), (46, .iconst 1, 1, (0, 0, 0))] (by decide +kernel) (show jrun _ (43, [(15, x0), (0, x1), (99, 0), (99, 0), (99, 0)], [(0, v6)], s6) = some ([], (47, [(15, x0), (0, x1), (0, v6), (99, 0), (99, 0)], [(0, 1), (0, 4), (15, x0)], s6)) from rfl) ?_
    obtain ⟨v7, s7, h7, H⟩ := jb_some H
    refine AT.callV (As := [(0, 4), (0, 1)]) (cl := 11) (b := x0) (st := []) (i := 250) (pos := 7074) kMd_told (by decide +kernel) rfl (by decide +kernel) rfl rfl (by omega) (Md_told_ok h7) ?_
    show AT sMd_readWalk 7 (50, [(15, x0), (0, x1), (0, v6), (99, 0), (99, 0)], [(0, v7)], s7) o
    refine AT.seq [(50, .istore_n 3, 1, (0, 0, 0)), (51, .aload_n 0, 1, (0, 0, 0)), (52, .getfield 209, 3, (5199, 1112, 0))] (by decide +kernel) (show jrun _ (50, [(15, x0), (0, x1), (0, v6), (99, 0), (99, 0)], [(0, v7)], s7) = some ([], (55, [(15, x0), (0, x1), (0, v6), (0, v7), (99, 0)], [(0, (s7 x0 12))], s7)) from rfl) ?_
    refine AT.ite (x := (0, 0, 0)) (by decide +kernel) (show jbr (.ifCond .ne 17) (55, [(15, x0), (0, x1), (0, v6), (0, v7), (99, 0)], [(0, (s7 x0 12))], s7) = some ((w32 (s7 x0 12)) = 0, (58, [(15, x0), (0, x1), (0, v6), (0, v7), (99, 0)], [], s7), (72, [(15, x0), (0, x1), (0, v6), (0, v7), (99, 0)], [], s7)) from rfl) H (fun H => ?_) (fun H => ?_)
    · refine AT.seq [(58, .iload_n 2, 1, (0, 0, 0)), (59, .iload_n 3, 1, (0, 0, 0))] (by decide +kernel) (show jrun _ (58, [(15, x0), (0, x1), (0, v6), (0, v7), (99, 0)], [], s7) = some ([], (60, [(15, x0), (0, x1), (0, v6), (0, v7), (99, 0)], [(0, v7), (0, v6)], s7)) from rfl) ?_
      refine AT.ite (x := (0, 0, 0)) (by decide +kernel) (show jbr (.if_icmp .ne 12) (60, [(15, x0), (0, x1), (0, v6), (0, v7), (99, 0)], [(0, v7), (0, v6)], s7) = some ((w32 v6) = (w32 v7), (63, [(15, x0), (0, x1), (0, v6), (0, v7), (99, 0)], [], s7), (72, [(15, x0), (0, x1), (0, v6), (0, v7), (99, 0)], [], s7)) from rfl) H (fun H => ?_) (fun H => ?_)
      · refine AT.seq [(63, .aload_n 0, 1, (0, 0, 0)), (64, .iconst 5, 1, (0, 0, 0)), (65, .aload_n 0, 1, (0, 0, 0)), (66, .getfield 117, 3, (5202, 1115, 0))] (by decide +kernel) (show jrun _ (63, [(15, x0), (0, x1), (0, v6), (0, v7), (99, 0)], [], s7) = some ([], (69, [(15, x0), (0, x1), (0, v6), (0, v7), (99, 0)], [(0, (s7 x0 15)), (0, 5), (15, x0)], s7)) from rfl) ?_
        obtain ⟨v8, s8, h8, H⟩ := jb_some H
        refine AT.callV (As := [(0, 5), (0, (s7 x0 15))]) (cl := 11) (b := x0) (st := []) (i := 215) (pos := 6192) kMd_fail (by decide +kernel) rfl (by decide +kernel) rfl rfl (by omega) (Md_fail_ok h8) ?_
        show AT sMd_readWalk 7 (72, [(15, x0), (0, x1), (0, v6), (0, v7), (99, 0)], [], s8) o
        exact Md_readWalk_72_ok  H
      · exact Md_readWalk_72_ok  H
    · exact Md_readWalk_72_ok  H
set_option maxRecDepth 100000 in
theorem Md_readWalk_ok {a0 : Int} {s : jM} {o : Int × jM} (H : Md_readWalk a0 s = some o) : MK sMd_readWalk 7 [(15, a0)] s o := by
  refine MK.of kMd_readWalk rfl ?_
  show AT sMd_readWalk 7 (0, [(15, a0), (99, 0), (99, 0), (99, 0), (99, 0)], [], s) o
  unfold Md_readWalk at H
  refine AT.row [(0, .aload_n 0, 1, (0, 0, 0)), (1, .getfield 35, 3, (5207, 1120, 0)), (4, .sipush 1532, 3, (0, 0, 0)), (7, .iaload, 1, (0, 0, 0)), (8, .istore_n 1, 1, (0, 0, 0)), (9, .iload_n 1, 1, (0, 0, 0)), (10, .bipush 10, 2, (0, 0, 0))] (by decide +kernel) (show jrun _ (0, [(15, a0), (99, 0), (99, 0), (99, 0), (99, 0)], [], s) = some ([(0 ≤ (1532 : Int) ∧ (1532 : Int) < 1905)], (12, [(15, a0), (0, (s (a0 + 5) 1532)), (99, 0), (99, 0), (99, 0)], [(0, 10), (0, (s (a0 + 5) 1532))], s)) from rfl) (show (0 ≤ (1532 : Int) ∧ (1532 : Int) < 1905) from by decide) ?_
  refine AT.ite (x := (0, 0, 0)) (by decide +kernel) (show jbr (.if_icmp .ne 13) (12, [(15, a0), (0, (s (a0 + 5) 1532)), (99, 0), (99, 0), (99, 0)], [(0, 10), (0, (s (a0 + 5) 1532))], s) = some ((w32 (s (a0 + 5) 1532)) = 10, (15, [(15, a0), (0, (s (a0 + 5) 1532)), (99, 0), (99, 0), (99, 0)], [], s), (25, [(15, a0), (0, (s (a0 + 5) 1532)), (99, 0), (99, 0), (99, 0)], [], s)) from rfl) H (fun H => ?_) (fun H => ?_)
  · refine AT.seq [(15, .aload_n 0, 1, (0, 0, 0)), (16, .bipush 6, 2, (0, 0, 0)), (18, .aload_n 0, 1, (0, 0, 0)), (19, .getfield 117, 3, (5202, 1115, 0))] (by decide +kernel) (show jrun _ (15, [(15, a0), (0, (s (a0 + 5) 1532)), (99, 0), (99, 0), (99, 0)], [], s) = some ([], (22, [(15, a0), (0, (s (a0 + 5) 1532)), (99, 0), (99, 0), (99, 0)], [(0, (s a0 15)), (0, 6), (15, a0)], s)) from rfl) ?_
    obtain ⟨v9, s9, h9, H⟩ := jb_some H
    refine AT.callV (As := [(0, 6), (0, (s a0 15))]) (cl := 11) (b := a0) (st := []) (i := 215) (pos := 6192) kMd_fail (by decide +kernel) rfl (by decide +kernel) rfl rfl (by omega) (Md_fail_ok h9) ?_
    show AT sMd_readWalk 7 (25, [(15, a0), (0, (s (a0 + 5) 1532)), (99, 0), (99, 0), (99, 0)], [], s9) o
    exact Md_readWalk_25_ok  H
  · exact Md_readWalk_25_ok  H
def sMd_readMould : jS := (⟨"JellyCathedralModel", "readMould", "()V"⟩, prog_13_method_67_code, 5, 0, [15], 0)
theorem kMd_readMould : jmk sMd_readMould = true := jmk_of 7082 1012 7081 82 (by decide +kernel)
set_option maxRecDepth 100000 in
theorem Md_readMould_ok {a0 : Int} {s : jM} {o : Int × jM} (H : Md_readMould a0 s = some o) : MK sMd_readMould 7 [(15, a0)] s o := by
  refine MK.of kMd_readMould rfl ?_
  show AT sMd_readMould 7 (0, [(15, a0), (99, 0), (99, 0), (99, 0), (99, 0)], [], s) o
  unfold Md_readMould at H
  refine AT.seq [(0, .aload_n 0, 1, (0, 0, 0)), (1, .iconst 2, 1, (0, 0, 0)), (2, .iconst 5, 1, (0, 0, 0))] (by decide +kernel) (show jrun _ (0, [(15, a0), (99, 0), (99, 0), (99, 0), (99, 0)], [], s) = some ([], (3, [(15, a0), (99, 0), (99, 0), (99, 0), (99, 0)], [(0, 5), (0, 2), (15, a0)], s)) from rfl) ?_
  obtain ⟨v1, s1, h1, H⟩ := jb_some H
  refine AT.callV (As := [(0, 2), (0, 5)]) (cl := 11) (b := a0) (st := []) (i := 260) (pos := 6219) kMd_readNew (by decide +kernel) rfl (by decide +kernel) rfl rfl (by omega) (Md_readNew_ok h1) ?_
  show AT sMd_readMould 7 (6, [(15, a0), (99, 0), (99, 0), (99, 0), (99, 0)], [(0, v1)], s1) o
  refine AT.seq [(6, .istore_n 1, 1, (0, 0, 0)), (7, .aload_n 0, 1, (0, 0, 0)), (8, .aload_n 0, 1, (0, 0, 0))] (by decide +kernel) (show jrun _ (6, [(15, a0), (99, 0), (99, 0), (99, 0), (99, 0)], [(0, v1)], s1) = some ([], (9, [(15, a0), (0, v1), (99, 0), (99, 0), (99, 0)], [(15, a0), (15, a0)], s1)) from rfl) ?_
  obtain ⟨v2, s2, h2, H⟩ := jb_some H
  refine AT.callV (As := []) (cl := 11) (b := a0) (st := [(15, a0)]) (i := 190) (pos := 7019) kMd_isHigh (by decide +kernel) rfl (by decide +kernel) rfl rfl (by omega) (Md_isHigh_ok h2) ?_
  show AT sMd_readMould 7 (12, [(15, a0), (0, v1), (99, 0), (99, 0), (99, 0)], [(0, v2), (15, a0)], s2) o
  refine AT.seq [(12, .iconst 1, 1, (0, 0, 0)), (13, .bipush 30, 2, (0, 0, 0))] (by decide +kernel) (show jrun _ (12, [(15, a0), (0, v1), (99, 0), (99, 0), (99, 0)], [(0, v2), (15, a0)], s2) = some ([], (15, [(15, a0), (0, v1), (99, 0), (99, 0), (99, 0)], [(0, 30), (0, 1), (0, v2), (15, a0)], s2)) from rfl) ?_
  obtain ⟨v3, s3, h3, H⟩ := jb_some H
  refine AT.callV (As := [(0, v2), (0, 1), (0, 30)]) (cl := 11) (b := a0) (st := []) (i := 263) (pos := 7050) kMd_behindWord (by decide +kernel) rfl (by decide +kernel) rfl rfl (by omega) (Md_behindWord_ok h3) ?_
  show AT sMd_readMould 7 (18, [(15, a0), (0, v1), (99, 0), (99, 0), (99, 0)], [(0, v3)], s3) o
  refine AT.seq [(18, .istore_n 2, 1, (0, 0, 0)), (19, .aload_n 0, 1, (0, 0, 0)), (20, .aload_n 0, 1, (0, 0, 0))] (by decide +kernel) (show jrun _ (18, [(15, a0), (0, v1), (99, 0), (99, 0), (99, 0)], [(0, v3)], s3) = some ([], (21, [(15, a0), (0, v1), (0, v3), (99, 0), (99, 0)], [(15, a0), (15, a0)], s3)) from rfl) ?_
  obtain ⟨v4, s4, h4, H⟩ := jb_some H
  refine AT.callV (As := []) (cl := 11) (b := a0) (st := [(15, a0)]) (i := 193) (pos := 7023) kMd_isHolds (by decide +kernel) rfl (by decide +kernel) rfl rfl (by omega) (Md_isHolds_ok h4) ?_
  show AT sMd_readMould 7 (24, [(15, a0), (0, v1), (0, v3), (99, 0), (99, 0)], [(0, v4), (15, a0)], s4) o
  refine AT.seq [(24, .iconst 1, 1, (0, 0, 0)), (25, .bipush 9, 2, (0, 0, 0))] (by decide +kernel) (show jrun _ (24, [(15, a0), (0, v1), (0, v3), (99, 0), (99, 0)], [(0, v4), (15, a0)], s4) = some ([], (27, [(15, a0), (0, v1), (0, v3), (99, 0), (99, 0)], [(0, 9), (0, 1), (0, v4), (15, a0)], s4)) from rfl) ?_
  obtain ⟨v5, s5, h5, H⟩ := jb_some H
  refine AT.callV (As := [(0, v4), (0, 1), (0, 9)]) (cl := 11) (b := a0) (st := []) (i := 263) (pos := 7050) kMd_behindWord (by decide +kernel) rfl (by decide +kernel) rfl rfl (by omega) (Md_behindWord_ok h5) ?_
  show AT sMd_readMould 7 (30, [(15, a0), (0, v1), (0, v3), (99, 0), (99, 0)], [(0, v5)], s5) o
  refine AT.seq [(30, .istore_n 3, 1, (0, 0, 0)), (31, .aload_n 0, 1, (0, 0, 0)), (32, .aload_n 0, 1, (0, 0, 0))] (by decide +kernel) (show jrun _ (30, [(15, a0), (0, v1), (0, v3), (99, 0), (99, 0)], [(0, v5)], s5) = some ([], (33, [(15, a0), (0, v1), (0, v3), (0, v5), (99, 0)], [(15, a0), (15, a0)], s5)) from rfl) ?_
  obtain ⟨v6, s6, h6, H⟩ := jb_some H
  refine AT.callV (As := []) (cl := 11) (b := a0) (st := [(15, a0)]) (i := 160) (pos := 7035) kMd_isAt (by decide +kernel) rfl (by decide +kernel) rfl rfl (by omega) (Md_isAt_ok h6) ?_
  show AT sMd_readMould 7 (36, [(15, a0), (0, v1), (0, v3), (0, v5), (99, 0)], [(0, v6), (15, a0)], s6) o
  obtain ⟨v7, s7, h7, H⟩ := jb_some H
  refine AT.callV (As := [(0, v6)]) (cl := 11) (b := a0) (st := []) (i := 225) (pos := 7054) kMd_must (by decide +kernel) rfl (by decide +kernel) rfl rfl (by omega) (Md_must_ok h7) ?_
  show AT sMd_readMould 7 (39, [(15, a0), (0, v1), (0, v3), (0, v5), (99, 0)], [], s7) o
  refine AT.seq [(39, .aload_n 0, 1, (0, 0, 0)), (40, .iconst 4, 1, (0, 0, 0)), (41, .iconst 1, 1, (0, 0, 0))] (by decide +kernel) (show jrun _ (39, [(15, a0), (0, v1), (0, v3), (0, v5), (99, 0)], [], s7) = some ([], (42, [(15, a0), (0, v1), (0, v3), (0, v5), (99, 0)], [(0, 1), (0, 4), (15, a0)], s7)) from rfl) ?_
  obtain ⟨v8, s8, h8, H⟩ := jb_some H
  refine AT.callV (As := [(0, 4), (0, 1)]) (cl := 11) (b := a0) (st := []) (i := 271) (pos := 7070) kMd_readTold (by decide +kernel) rfl (by decide +kernel) rfl rfl (by omega) (Md_readTold_ok h8) ?_
  show AT sMd_readMould 7 (45, [(15, a0), (0, v1), (0, v3), (0, v5), (99, 0)], [(0, v8)], s8) o
  refine AT.seq [(45, .istore 4, 2, (0, 0, 0)), (47, .aload_n 0, 1, (0, 0, 0)), (48, .getfield 209, 3, (5199, 1112, 0))] (by decide +kernel) (show jrun _ (45, [(15, a0), (0, v1), (0, v3), (0, v5), (99, 0)], [(0, v8)], s8) = some ([], (51, [(15, a0), (0, v1), (0, v3), (0, v5), (0, v8)], [(0, (s8 a0 12))], s8)) from rfl) ?_
  refine AT.ite (x := (0, 0, 0)) (by decide +kernel) (show jbr (.ifCond .le 4) (51, [(15, a0), (0, v1), (0, v3), (0, v5), (0, v8)], [(0, (s8 a0 12))], s8) = some (0 < (w32 (s8 a0 12)), (54, [(15, a0), (0, v1), (0, v3), (0, v5), (0, v8)], [], s8), (55, [(15, a0), (0, v1), (0, v3), (0, v5), (0, v8)], [], s8)) from rfl) H (fun H => ?_) (fun H => ?_)
  · exact AT.retvH (by decide +kernel) H
  · refine AT.blk (g := (0 ≤ (w32 (1578 + v1)) ∧ (w32 (1578 + v1)) < 1905) ∧ (0 ≤ (w32 (1583 + v1)) ∧ (w32 (1583 + v1)) < 1905) ∧ (0 ≤ (w32 (1588 + v1)) ∧ (w32 (1588 + v1)) < 1905)) [(55, .aload_n 0, 1, (0, 0, 0)), (56, .getfield 35, 3, (5207, 1120, 0)), (59, .sipush 1578, 3, (0, 0, 0)), (62, .iload_n 1, 1, (0, 0, 0)), (63, .iadd, 1, (0, 0, 0)), (64, .iload_n 2, 1, (0, 0, 0)), (65, .iastore, 1, (0, 0, 0)), (66, .aload_n 0, 1, (0, 0, 0)), (67, .getfield 35, 3, (5207, 1120, 0)), (70, .sipush 1583, 3, (0, 0, 0)), (73, .iload_n 1, 1, (0, 0, 0)), (74, .iadd, 1, (0, 0, 0)), (75, .iload_n 3, 1, (0, 0, 0)), (76, .iastore, 1, (0, 0, 0)), (77, .aload_n 0, 1, (0, 0, 0)), (78, .getfield 35, 3, (5207, 1120, 0)), (81, .sipush 1588, 3, (0, 0, 0)), (84, .iload_n 1, 1, (0, 0, 0)), (85, .iadd, 1, (0, 0, 0)), (86, .iload 4, 2, (0, 0, 0)), (88, .iastore, 1, (0, 0, 0)), (89, .aload_n 0, 1, (0, 0, 0)), (90, .getfield 35, 3, (5207, 1120, 0)), (93, .sipush 1526, 3, (0, 0, 0)), (96, .dup2, 1, (0, 0, 0))] (by decide +kernel) (show jrun _ (55, [(15, a0), (0, v1), (0, v3), (0, v5), (0, v8)], [], s8) = some ([(0 ≤ (w32 (1578 + v1)) ∧ (w32 (1578 + v1)) < 1905), (0 ≤ (w32 (1583 + v1)) ∧ (w32 (1583 + v1)) < 1905), (0 ≤ (w32 (1588 + v1)) ∧ (w32 (1588 + v1)) < 1905)], (97, [(15, a0), (0, v1), (0, v3), (0, v5), (0, v8)], [(0, 1526), (40, (a0 + 5)), (0, 1526), (40, (a0 + 5))], (jup (jup (jup s8 (a0 + 5) (w32 (1578 + v1)) v3) (a0 + 5) (w32 (1583 + v1)) v5) (a0 + 5) (w32 (1588 + v1)) v8))) from rfl) (fun h => ⟨h.1, h.2.1, h.2.2⟩) H (fun H => ?_)
    obtain ⟨s9, e9, H⟩ := jm_some H
    rw [← e9]
    refine AT.row [(97, .iaload, 1, (0, 0, 0)), (98, .iconst 1, 1, (0, 0, 0)), (99, .iadd, 1, (0, 0, 0)), (100, .iastore, 1, (0, 0, 0))] (by decide +kernel) (show jrun _ (97, [(15, a0), (0, v1), (0, v3), (0, v5), (0, v8)], [(0, 1526), (40, (a0 + 5)), (0, 1526), (40, (a0 + 5))], s9) = some ([(0 ≤ (1526 : Int) ∧ (1526 : Int) < 1905), (0 ≤ (1526 : Int) ∧ (1526 : Int) < 1905)], (101, [(15, a0), (0, v1), (0, v3), (0, v5), (0, v8)], [], (jup s9 (a0 + 5) 1526 ((s9 (a0 + 5) 1526) + 1)))) from rfl) (show (0 ≤ (1526 : Int) ∧ (1526 : Int) < 1905) ∧ (0 ≤ (1526 : Int) ∧ (1526 : Int) < 1905) from by decide) ?_
    exact AT.retvH (by decide +kernel) H
def sMd_readPart : jS := (⟨"JellyCathedralModel", "readPart", "()V"⟩, prog_13_method_68_code, 1, 0, [15], 0)
theorem kMd_readPart : jmk sMd_readPart = true := jmk_of 6173 1012 6172 48 (by decide +kernel)
set_option maxRecDepth 100000 in
theorem Md_readPart_ok {a0 : Int} {s : jM} {o : Int × jM} (H : Md_readPart a0 s = some o) : MK sMd_readPart 8 [(15, a0)] s o := by
  refine MK.of kMd_readPart rfl ?_
  show AT sMd_readPart 8 (0, [(15, a0)], [], s) o
  unfold Md_readPart at H
  refine AT.seq [(0, .aload_n 0, 1, (0, 0, 0))] (by decide +kernel) (show jrun _ (0, [(15, a0)], [], s) = some ([], (1, [(15, a0)], [(15, a0)], s)) from rfl) ?_
  obtain ⟨v1, s1, h1, H⟩ := jb_some H
  refine AT.callV (As := []) (cl := 11) (b := a0) (st := []) (i := 156) (pos := 6174) kMd_isHeat (by decide +kernel) rfl (by decide +kernel) rfl rfl (by omega) (Md_isHeat_ok h1) ?_
  show AT sMd_readPart 8 (4, [(15, a0)], [(0, v1)], s1) o
  refine AT.ite (x := (0, 0, 0)) (by decide +kernel) (show jbr (.ifCond .eq 14) (4, [(15, a0)], [(0, v1)], s1) = some ((w32 v1) = 0, (18, [(15, a0)], [], s1), (7, [(15, a0)], [], s1)) from rfl) H (fun H => ?_) (fun H => ?_)
  · refine AT.seq [(18, .aload_n 0, 1, (0, 0, 0))] (by decide +kernel) (show jrun _ (18, [(15, a0)], [], s1) = some ([], (19, [(15, a0)], [(15, a0)], s1)) from rfl) ?_
    obtain ⟨v2, s2, h2, H⟩ := jb_some H
    refine AT.callV (As := []) (cl := 11) (b := a0) (st := []) (i := 163) (pos := 6207) kMd_isOdds (by decide +kernel) rfl (by decide +kernel) rfl rfl (by omega) (Md_isOdds_ok h2) ?_
    show AT sMd_readPart 8 (22, [(15, a0)], [(0, v2)], s2) o
    refine AT.ite (x := (0, 0, 0)) (by decide +kernel) (show jbr (.ifCond .eq 14) (22, [(15, a0)], [(0, v2)], s2) = some ((w32 v2) = 0, (36, [(15, a0)], [], s2), (25, [(15, a0)], [], s2)) from rfl) H (fun H => ?_) (fun H => ?_)
    · refine AT.seq [(36, .aload_n 0, 1, (0, 0, 0))] (by decide +kernel) (show jrun _ (36, [(15, a0)], [], s2) = some ([], (37, [(15, a0)], [(15, a0)], s2)) from rfl) ?_
      obtain ⟨v3, s3, h3, H⟩ := jb_some H
      refine AT.callV (As := []) (cl := 11) (b := a0) (st := []) (i := 166) (pos := 6211) kMd_isStuff (by decide +kernel) rfl (by decide +kernel) rfl rfl (by omega) (Md_isStuff_ok h3) ?_
      show AT sMd_readPart 8 (40, [(15, a0)], [(0, v3)], s3) o
      refine AT.ite (x := (0, 0, 0)) (by decide +kernel) (show jbr (.ifCond .eq 10) (40, [(15, a0)], [(0, v3)], s3) = some ((w32 v3) = 0, (50, [(15, a0)], [], s3), (43, [(15, a0)], [], s3)) from rfl) H (fun H => ?_) (fun H => ?_)
      · refine AT.seq [(50, .aload_n 0, 1, (0, 0, 0))] (by decide +kernel) (show jrun _ (50, [(15, a0)], [], s3) = some ([], (51, [(15, a0)], [(15, a0)], s3)) from rfl) ?_
        obtain ⟨v4, s4, h4, H⟩ := jb_some H
        refine AT.callV (As := []) (cl := 11) (b := a0) (st := []) (i := 178) (pos := 7003) kMd_isPlace (by decide +kernel) rfl (by decide +kernel) rfl rfl (by omega) (Md_isPlace_ok h4) ?_
        show AT sMd_readPart 8 (54, [(15, a0)], [(0, v4)], s4) o
        refine AT.ite (x := (0, 0, 0)) (by decide +kernel) (show jbr (.ifCond .eq 10) (54, [(15, a0)], [(0, v4)], s4) = some ((w32 v4) = 0, (64, [(15, a0)], [], s4), (57, [(15, a0)], [], s4)) from rfl) H (fun H => ?_) (fun H => ?_)
        · refine AT.seq [(64, .aload_n 0, 1, (0, 0, 0))] (by decide +kernel) (show jrun _ (64, [(15, a0)], [], s4) = some ([], (65, [(15, a0)], [(15, a0)], s4)) from rfl) ?_
          obtain ⟨v5, s5, h5, H⟩ := jb_some H
          refine AT.callV (As := []) (cl := 11) (b := a0) (st := []) (i := 181) (pos := 7007) kMd_isWalk (by decide +kernel) rfl (by decide +kernel) rfl rfl (by omega) (Md_isWalk_ok h5) ?_
          show AT sMd_readPart 8 (68, [(15, a0)], [(0, v5)], s5) o
          refine AT.ite (x := (0, 0, 0)) (by decide +kernel) (show jbr (.ifCond .eq 10) (68, [(15, a0)], [(0, v5)], s5) = some ((w32 v5) = 0, (78, [(15, a0)], [], s5), (71, [(15, a0)], [], s5)) from rfl) H (fun H => ?_) (fun H => ?_)
          · refine AT.seq [(78, .aload_n 0, 1, (0, 0, 0))] (by decide +kernel) (show jrun _ (78, [(15, a0)], [], s5) = some ([], (79, [(15, a0)], [(15, a0)], s5)) from rfl) ?_
            obtain ⟨v6, s6, h6, H⟩ := jb_some H
            refine AT.callV (As := []) (cl := 11) (b := a0) (st := []) (i := 187) (pos := 7015) kMd_isMould (by decide +kernel) rfl (by decide +kernel) rfl rfl (by omega) (Md_isMould_ok h6) ?_
            show AT sMd_readPart 8 (82, [(15, a0)], [(0, v6)], s6) o
            refine AT.ite (x := (0, 0, 0)) (by decide +kernel) (show jbr (.ifCond .eq 10) (82, [(15, a0)], [(0, v6)], s6) = some ((w32 v6) = 0, (92, [(15, a0)], [], s6), (85, [(15, a0)], [], s6)) from rfl) H (fun H => ?_) (fun H => ?_)
            · refine AT.seq [(92, .aload_n 0, 1, (0, 0, 0))] (by decide +kernel) (show jrun _ (92, [(15, a0)], [], s6) = some ([], (93, [(15, a0)], [(15, a0)], s6)) from rfl) ?_
              obtain ⟨v7, s7, h7, H⟩ := jb_some H
              refine AT.callV (As := []) (cl := 11) (b := a0) (st := []) (i := 222) (pos := 6200) kMd_amiss (by decide +kernel) rfl (by decide +kernel) rfl rfl (by omega) (Md_amiss_ok h7) ?_
              show AT sMd_readPart 8 (96, [(15, a0)], [], s7) o
              exact AT.retvH (by decide +kernel) H
            · refine AT.seq [(85, .aload_n 0, 1, (0, 0, 0))] (by decide +kernel) (show jrun _ (85, [(15, a0)], [], s6) = some ([], (86, [(15, a0)], [(15, a0)], s6)) from rfl) ?_
              obtain ⟨v8, s8, h8, H⟩ := jb_some H
              refine AT.callV (As := []) (cl := 11) (b := a0) (st := []) (i := 287) (pos := 7079) kMd_readMould (by decide +kernel) rfl (by decide +kernel) rfl rfl (by omega) (Md_readMould_ok h8) ?_
              show AT sMd_readPart 8 (89, [(15, a0)], [], s8) o
              refine AT.seq [(89, .goto 7, 3, (0, 0, 0))] (by decide +kernel) (show jrun _ (89, [(15, a0)], [], s8) = some ([], (96, [(15, a0)], [], s8)) from rfl) ?_
              exact AT.retvH (by decide +kernel) H
          · refine AT.seq [(71, .aload_n 0, 1, (0, 0, 0))] (by decide +kernel) (show jrun _ (71, [(15, a0)], [], s5) = some ([], (72, [(15, a0)], [(15, a0)], s5)) from rfl) ?_
            obtain ⟨v9, s9, h9, H⟩ := jb_some H
            refine AT.callV (As := []) (cl := 11) (b := a0) (st := []) (i := 284) (pos := 7066) kMd_readWalk (by decide +kernel) rfl (by decide +kernel) rfl rfl (by omega) (Md_readWalk_ok h9) ?_
            show AT sMd_readPart 8 (75, [(15, a0)], [], s9) o
            refine AT.seq [(75, .goto 21, 3, (0, 0, 0))] (by decide +kernel) (show jrun _ (75, [(15, a0)], [], s9) = some ([], (96, [(15, a0)], [], s9)) from rfl) ?_
            exact AT.retvH (by decide +kernel) H
        · refine AT.seq [(57, .aload_n 0, 1, (0, 0, 0))] (by decide +kernel) (show jrun _ (57, [(15, a0)], [], s4) = some ([], (58, [(15, a0)], [(15, a0)], s4)) from rfl) ?_
          obtain ⟨v10, s10, h10, H⟩ := jb_some H
          refine AT.callV (As := []) (cl := 11) (b := a0) (st := []) (i := 281) (pos := 7062) kMd_readPlace (by decide +kernel) rfl (by decide +kernel) rfl rfl (by omega) (Md_readPlace_ok h10) ?_
          show AT sMd_readPart 8 (61, [(15, a0)], [], s10) o
          refine AT.seq [(61, .goto 35, 3, (0, 0, 0))] (by decide +kernel) (show jrun _ (61, [(15, a0)], [], s10) = some ([], (96, [(15, a0)], [], s10)) from rfl) ?_
          exact AT.retvH (by decide +kernel) H
      · refine AT.seq [(43, .aload_n 0, 1, (0, 0, 0))] (by decide +kernel) (show jrun _ (43, [(15, a0)], [], s3) = some ([], (44, [(15, a0)], [(15, a0)], s3)) from rfl) ?_
        obtain ⟨v11, s11, h11, H⟩ := jb_some H
        refine AT.callV (As := []) (cl := 11) (b := a0) (st := []) (i := 278) (pos := 6215) kMd_readStuff (by decide +kernel) rfl (by decide +kernel) rfl rfl (by omega) (Md_readStuff_ok h11) ?_
        show AT sMd_readPart 8 (47, [(15, a0)], [], s11) o
        refine AT.seq [(47, .goto 49, 3, (0, 0, 0))] (by decide +kernel) (show jrun _ (47, [(15, a0)], [], s11) = some ([], (96, [(15, a0)], [], s11)) from rfl) ?_
        exact AT.retvH (by decide +kernel) H
    · refine AT.seq [(25, .aload_n 0, 1, (0, 0, 0)), (26, .iconst 4, 1, (0, 0, 0)), (27, .iconst 0, 1, (0, 0, 0)), (28, .bipush 16, 2, (0, 0, 0))] (by decide +kernel) (show jrun _ (25, [(15, a0)], [], s2) = some ([], (30, [(15, a0)], [(0, 16), (0, 0), (0, 4), (15, a0)], s2)) from rfl) ?_
      obtain ⟨v12, s12, h12, H⟩ := jb_some H
      refine AT.callV (As := [(0, 4), (0, 0), (0, 16)]) (cl := 11) (b := a0) (st := []) (i := 274) (pos := 6185) kMd_readOnce (by decide +kernel) rfl (by decide +kernel) rfl rfl (by omega) (Md_readOnce_ok h12) ?_
      show AT sMd_readPart 8 (33, [(15, a0)], [], s12) o
      refine AT.seq [(33, .goto 63, 3, (0, 0, 0))] (by decide +kernel) (show jrun _ (33, [(15, a0)], [], s12) = some ([], (96, [(15, a0)], [], s12)) from rfl) ?_
      exact AT.retvH (by decide +kernel) H
  · refine AT.seq [(7, .aload_n 0, 1, (0, 0, 0)), (8, .iconst 3, 1, (0, 0, 0)), (9, .iconst 0, 1, (0, 0, 0)), (10, .bipush 9, 2, (0, 0, 0))] (by decide +kernel) (show jrun _ (7, [(15, a0)], [], s1) = some ([], (12, [(15, a0)], [(0, 9), (0, 0), (0, 3), (15, a0)], s1)) from rfl) ?_
    obtain ⟨v13, s13, h13, H⟩ := jb_some H
    refine AT.callV (As := [(0, 3), (0, 0), (0, 9)]) (cl := 11) (b := a0) (st := []) (i := 274) (pos := 6185) kMd_readOnce (by decide +kernel) rfl (by decide +kernel) rfl rfl (by omega) (Md_readOnce_ok h13) ?_
    show AT sMd_readPart 8 (15, [(15, a0)], [], s13) o
    refine AT.seq [(15, .goto 81, 3, (0, 0, 0))] (by decide +kernel) (show jrun _ (15, [(15, a0)], [], s13) = some ([], (96, [(15, a0)], [], s13)) from rfl) ?_
    exact AT.retvH (by decide +kernel) H
def sMd_copy : jS := (⟨"JellyCathedralModel", "copy", "(II)V"⟩, prog_13_method_152_code, 4, 0, [15, 0, 0], 0)
theorem kMd_copy : jmk sMd_copy = true := jmk_of 7094 1012 7093 85 (by decide +kernel)
set_option maxRecDepth 100000 in
theorem Md_copy_41_ok {o : Int × jM} : ∀ (n : Nat) (x0 x1 x2 x3 : Int) (s : jM), Md_copy_41  n x0 x1 x2 x3 s = some o → AT sMd_copy 0 (41, [(15, x0), (0, x1), (0, x2), (0, x3)], [], s) o := by
  intro n
  induction n with
  | zero =>
    intro x0 x1 x2 x3 s H
    have H : (none : Option (Int × jM)) = some o := H
    cases H
  | succ n ih =>
    intro x0 x1 x2 x3 s H
    rw [Md_copy_41] at H
    refine AT.seq [(41, .iload_n 3, 1, (0, 0, 0)), (42, .bipush 16, 2, (0, 0, 0))] (by decide +kernel) (show jrun _ (41, [(15, x0), (0, x1), (0, x2), (0, x3)], [], s) = some ([], (44, [(15, x0), (0, x1), (0, x2), (0, x3)], [(0, 16), (0, x3)], s)) from rfl) ?_
    refine AT.ite (x := (0, 0, 0)) (by decide +kernel) (show jbr (.if_icmp .ge 31) (44, [(15, x0), (0, x1), (0, x2), (0, x3)], [(0, 16), (0, x3)], s) = some ((w32 x3) < 16, (47, [(15, x0), (0, x1), (0, x2), (0, x3)], [], s), (75, [(15, x0), (0, x1), (0, x2), (0, x3)], [], s)) from rfl) H (fun H => ?_) (fun H => ?_)
    · refine AT.blk (g := (0 ≤ (w32 ((16 * x1) + x3)) ∧ (w32 ((16 * x1) + x3)) < 80) ∧ (0 ≤ (w32 ((16 * x2) + x3)) ∧ (w32 ((16 * x2) + x3)) < 80)) [(47, .aload_n 0, 1, (0, 0, 0)), (48, .getfield 44, 3, (5210, 1123, 0)), (51, .bipush 16, 2, (0, 0, 0)), (53, .iload_n 2, 1, (0, 0, 0)), (54, .imul, 1, (0, 0, 0)), (55, .iload_n 3, 1, (0, 0, 0)), (56, .iadd, 1, (0, 0, 0)), (57, .aload_n 0, 1, (0, 0, 0)), (58, .getfield 44, 3, (5210, 1123, 0)), (61, .bipush 16, 2, (0, 0, 0)), (63, .iload_n 1, 1, (0, 0, 0)), (64, .imul, 1, (0, 0, 0)), (65, .iload_n 3, 1, (0, 0, 0)), (66, .iadd, 1, (0, 0, 0)), (67, .laload, 1, (0, 0, 0)), (68, .lastore, 1, (0, 0, 0)), (69, .iinc 3 1, 3, (0, 0, 0)), (72, .goto (-31), 3, (0, 0, 0))] (by decide +kernel) (show jrun _ (47, [(15, x0), (0, x1), (0, x2), (0, x3)], [], s) = some ([(0 ≤ (w32 ((16 * x1) + x3)) ∧ (w32 ((16 * x1) + x3)) < 80), (0 ≤ (w32 ((16 * x2) + x3)) ∧ (w32 ((16 * x2) + x3)) < 80)], (41, [(15, x0), (0, x1), (0, x2), (0, (x3 + 1))], [], (jup s (x0 + 8) (w32 ((16 * x2) + x3)) (s (x0 + 8) (w32 ((16 * x1) + x3)))))) from rfl) (fun h => ⟨h.1, h.2⟩) H (fun H => ?_)
      exact ih _ _ _ _ _ H
    · exact AT.retvH (by decide +kernel) H
set_option maxRecDepth 100000 in
theorem Md_copy_2_ok {o : Int × jM} : ∀ (n : Nat) (x0 x1 x2 x3 : Int) (s : jM), Md_copy_2  n x0 x1 x2 x3 s = some o → AT sMd_copy 0 (2, [(15, x0), (0, x1), (0, x2), (0, x3)], [], s) o := by
  intro n
  induction n with
  | zero =>
    intro x0 x1 x2 x3 s H
    have H : (none : Option (Int × jM)) = some o := H
    cases H
  | succ n ih =>
    intro x0 x1 x2 x3 s H
    rw [Md_copy_2] at H
    refine AT.seq [(2, .iload_n 3, 1, (0, 0, 0)), (3, .sipush 381, 3, (0, 0, 0))] (by decide +kernel) (show jrun _ (2, [(15, x0), (0, x1), (0, x2), (0, x3)], [], s) = some ([], (6, [(15, x0), (0, x1), (0, x2), (0, x3)], [(0, 381), (0, x3)], s)) from rfl) ?_
    refine AT.ite (x := (0, 0, 0)) (by decide +kernel) (show jbr (.if_icmp .ge 33) (6, [(15, x0), (0, x1), (0, x2), (0, x3)], [(0, 381), (0, x3)], s) = some ((w32 x3) < 381, (9, [(15, x0), (0, x1), (0, x2), (0, x3)], [], s), (39, [(15, x0), (0, x1), (0, x2), (0, x3)], [], s)) from rfl) H (fun H => ?_) (fun H => ?_)
    · refine AT.blk (g := (0 ≤ (w32 ((381 * x1) + x3)) ∧ (w32 ((381 * x1) + x3)) < 1905) ∧ (0 ≤ (w32 ((381 * x2) + x3)) ∧ (w32 ((381 * x2) + x3)) < 1905)) [(9, .aload_n 0, 1, (0, 0, 0)), (10, .getfield 35, 3, (5207, 1120, 0)), (13, .sipush 381, 3, (0, 0, 0)), (16, .iload_n 2, 1, (0, 0, 0)), (17, .imul, 1, (0, 0, 0)), (18, .iload_n 3, 1, (0, 0, 0)), (19, .iadd, 1, (0, 0, 0)), (20, .aload_n 0, 1, (0, 0, 0)), (21, .getfield 35, 3, (5207, 1120, 0)), (24, .sipush 381, 3, (0, 0, 0)), (27, .iload_n 1, 1, (0, 0, 0)), (28, .imul, 1, (0, 0, 0)), (29, .iload_n 3, 1, (0, 0, 0)), (30, .iadd, 1, (0, 0, 0)), (31, .iaload, 1, (0, 0, 0)), (32, .iastore, 1, (0, 0, 0)), (33, .iinc 3 1, 3, (0, 0, 0)), (36, .goto (-34), 3, (0, 0, 0))] (by decide +kernel) (show jrun _ (9, [(15, x0), (0, x1), (0, x2), (0, x3)], [], s) = some ([(0 ≤ (w32 ((381 * x1) + x3)) ∧ (w32 ((381 * x1) + x3)) < 1905), (0 ≤ (w32 ((381 * x2) + x3)) ∧ (w32 ((381 * x2) + x3)) < 1905)], (2, [(15, x0), (0, x1), (0, x2), (0, (x3 + 1))], [], (jup s (x0 + 5) (w32 ((381 * x2) + x3)) (s (x0 + 5) (w32 ((381 * x1) + x3)))))) from rfl) (fun h => ⟨h.1, h.2⟩) H (fun H => ?_)
      exact ih _ _ _ _ _ H
    · refine AT.seq [(39, .iconst 0, 1, (0, 0, 0)), (40, .istore_n 3, 1, (0, 0, 0))] (by decide +kernel) (show jrun _ (39, [(15, x0), (0, x1), (0, x2), (0, x3)], [], s) = some ([], (41, [(15, x0), (0, x1), (0, x2), (0, 0)], [], s)) from rfl) ?_
      exact Md_copy_41_ok  jFU _ _ _ _ _ H
set_option maxRecDepth 100000 in
theorem Md_copy_ok {a0 a1 a2 : Int} {s : jM} {o : Int × jM} (H : Md_copy a0 a1 a2 s = some o) : MK sMd_copy 0 [(15, a0), (0, a1), (0, a2)] s o := by
  refine MK.of kMd_copy rfl ?_
  show AT sMd_copy 0 (0, [(15, a0), (0, a1), (0, a2), (99, 0)], [], s) o
  unfold Md_copy at H
  refine AT.seq [(0, .iconst 0, 1, (0, 0, 0)), (1, .istore_n 3, 1, (0, 0, 0))] (by decide +kernel) (show jrun _ (0, [(15, a0), (0, a1), (0, a2), (99, 0)], [], s) = some ([], (2, [(15, a0), (0, a1), (0, a2), (0, 0)], [], s)) from rfl) ?_
  exact Md_copy_2_ok  jFU _ _ _ _ _ H
def sMd_see : jS := (⟨"JellyCathedralModel", "see", "(I)I"⟩, prog_13_method_69_code, 2, 1, [15, 0], 0)
theorem kMd_see : jmk sMd_see = true := jmk_of 6145 1012 6143 6144 (by decide +kernel)
set_option maxRecDepth 100000 in
theorem Md_see_64_ok {o : Int × jM} {x0 : Int} {s : jM} (H : Md_see_64  x0 s = some o) : AT sMd_see 9 (64, [(15, x0), (99, 0)], [], s) o := by
  unfold Md_see_64 at H
  refine AT.seq [(64, .aload_n 0, 1, (0, 0, 0))] (by decide +kernel) (show jrun _ (64, [(15, x0), (99, 0)], [], s) = some ([], (65, [(15, x0), (99, 0)], [(15, x0)], s)) from rfl) ?_
  obtain ⟨v1, s1, h1, H⟩ := jb_some H
  refine AT.callV (As := []) (cl := 11) (b := x0) (st := []) (i := 299) (pos := 7087) kMd_isWell (by decide +kernel) rfl (by decide +kernel) rfl rfl (by omega) (Md_isWell_ok h1) ?_
  show AT sMd_see 9 (68, [(15, x0), (99, 0)], [(0, v1)], s1) o
  refine AT.ite (x := (0, 0, 0)) (by decide +kernel) (show jbr (.ifCond .ne 5) (68, [(15, x0), (99, 0)], [(0, v1)], s1) = some ((w32 v1) = 0, (71, [(15, x0), (99, 0)], [], s1), (73, [(15, x0), (99, 0)], [], s1)) from rfl) H (fun H => ?_) (fun H => ?_)
  · refine AT.seq [(71, .iconst (-1), 1, (0, 0, 0))] (by decide +kernel) (show jrun _ (71, [(15, x0), (99, 0)], [], s1) = some ([], (72, [(15, x0), (99, 0)], [(0, (-1))], s1)) from rfl) ?_
    exact AT.retiH (by decide +kernel) H
  · refine AT.seq [(73, .aload_n 0, 1, (0, 0, 0)), (74, .iconst 4, 1, (0, 0, 0)), (75, .iconst 0, 1, (0, 0, 0))] (by decide +kernel) (show jrun _ (73, [(15, x0), (99, 0)], [], s1) = some ([], (76, [(15, x0), (99, 0)], [(0, 0), (0, 4), (15, x0)], s1)) from rfl) ?_
    obtain ⟨v2, s2, h2, H⟩ := jb_some H
    refine AT.callV (As := [(0, 4), (0, 0)]) (cl := 11) (b := x0) (st := []) (i := 302) (pos := 7091) kMd_copy (by decide +kernel) rfl (by decide +kernel) rfl rfl (by omega) (Md_copy_ok h2) ?_
    show AT sMd_see 9 (79, [(15, x0), (99, 0)], [], s2) o
    refine AT.row [(79, .aload_n 0, 1, (0, 0, 0)), (80, .getfield 35, 3, (5207, 1120, 0)), (83, .iconst 2, 1, (0, 0, 0)), (84, .iaload, 1, (0, 0, 0))] (by decide +kernel) (show jrun _ (79, [(15, x0), (99, 0)], [], s2) = some ([(0 ≤ (2 : Int) ∧ (2 : Int) < 1905)], (85, [(15, x0), (99, 0)], [(0, (s2 (x0 + 5) 2))], s2)) from rfl) (show (0 ≤ (2 : Int) ∧ (2 : Int) < 1905) from by decide) ?_
    exact AT.retiH (by decide +kernel) H
set_option maxRecDepth 100000 in
theorem Md_see_33_ok {o : Int × jM} : ∀ (n : Nat) (x0 : Int) (s : jM), Md_see_33  n x0 s = some o → AT sMd_see 9 (33, [(15, x0), (99, 0)], [], s) o := by
  intro n
  induction n with
  | zero =>
    intro x0 s H
    have H : (none : Option (Int × jM)) = some o := H
    cases H
  | succ n ih =>
    intro x0 s H
    rw [Md_see_33] at H
    refine AT.seq [(33, .aload_n 0, 1, (0, 0, 0)), (34, .getfield 209, 3, (5199, 1112, 0))] (by decide +kernel) (show jrun _ (33, [(15, x0), (99, 0)], [], s) = some ([], (37, [(15, x0), (99, 0)], [(0, (s x0 12))], s)) from rfl) ?_
    refine AT.ite (x := (0, 0, 0)) (by decide +kernel) (show jbr (.ifCond .ne 27) (37, [(15, x0), (99, 0)], [(0, (s x0 12))], s) = some ((w32 (s x0 12)) = 0, (40, [(15, x0), (99, 0)], [], s), (64, [(15, x0), (99, 0)], [], s)) from rfl) H (fun H => ?_) (fun H => ?_)
    · refine AT.seq [(40, .aload_n 0, 1, (0, 0, 0)), (41, .getfield 123, 3, (5201, 1114, 0))] (by decide +kernel) (show jrun _ (40, [(15, x0), (99, 0)], [], s) = some ([], (44, [(15, x0), (99, 0)], [(0, (s x0 14))], s)) from rfl) ?_
      refine AT.ite (x := (0, 0, 0)) (by decide +kernel) (show jbr (.ifCond .eq 20) (44, [(15, x0), (99, 0)], [(0, (s x0 14))], s) = some ((w32 (s x0 14)) = 0, (64, [(15, x0), (99, 0)], [], s), (47, [(15, x0), (99, 0)], [], s)) from rfl) H (fun H => ?_) (fun H => ?_)
      · exact Md_see_64_ok  H
      · refine AT.seq [(47, .aload_n 0, 1, (0, 0, 0))] (by decide +kernel) (show jrun _ (47, [(15, x0), (99, 0)], [], s) = some ([], (48, [(15, x0), (99, 0)], [(15, x0)], s)) from rfl) ?_
        obtain ⟨v3, s3, h3, H⟩ := jb_some H
        refine AT.callV (As := []) (cl := 11) (b := x0) (st := []) (i := 293) (pos := 6170) kMd_readPart (by decide +kernel) rfl (by decide +kernel) rfl rfl (by omega) (Md_readPart_ok h3) ?_
        show AT sMd_see 9 (51, [(15, x0), (99, 0)], [], s3) o
        refine AT.seq [(51, .aload_n 0, 1, (0, 0, 0)), (52, .aload_n 0, 1, (0, 0, 0)), (53, .bipush 59, 2, (0, 0, 0))] (by decide +kernel) (show jrun _ (51, [(15, x0), (99, 0)], [], s3) = some ([], (55, [(15, x0), (99, 0)], [(0, 59), (15, x0), (15, x0)], s3)) from rfl) ?_
        obtain ⟨v4, s4, h4, H⟩ := jb_some H
        refine AT.callV (As := [(0, 59)]) (cl := 11) (b := x0) (st := [(15, x0)]) (i := 296) (pos := 7083) kMd_isSign (by decide +kernel) rfl (by decide +kernel) rfl rfl (by omega) (Md_isSign_ok h4) ?_
        show AT sMd_see 9 (58, [(15, x0), (99, 0)], [(0, v4), (15, x0)], s4) o
        obtain ⟨v5, s5, h5, H⟩ := jb_some H
        refine AT.callV (As := [(0, v4)]) (cl := 11) (b := x0) (st := []) (i := 225) (pos := 7054) kMd_must (by decide +kernel) rfl (by decide +kernel) rfl rfl (by omega) (Md_must_ok h5) ?_
        show AT sMd_see 9 (61, [(15, x0), (99, 0)], [], s5) o
        refine AT.seq [(61, .goto (-28), 3, (0, 0, 0))] (by decide +kernel) (show jrun _ (61, [(15, x0), (99, 0)], [], s5) = some ([], (33, [(15, x0), (99, 0)], [], s5)) from rfl) ?_
        exact ih _ _ H
    · exact Md_see_64_ok  H
set_option maxRecDepth 100000 in
theorem Md_see_ok {a0 a1 : Int} {s : jM} {o : Int × jM} (H : Md_see a0 a1 s = some o) : MK sMd_see 9 [(15, a0), (0, a1)] s o := by
  refine MK.of kMd_see rfl ?_
  show AT sMd_see 9 (0, [(15, a0), (0, a1)], [], s) o
  unfold Md_see at H
  refine AT.seq [(0, .aload_n 0, 1, (0, 0, 0)), (1, .iconst 0, 1, (0, 0, 0)), (2, .putfield 72, 3, (5188, 1101, 0)), (5, .aload_n 0, 1, (0, 0, 0)), (6, .iconst 0, 1, (0, 0, 0)), (7, .putfield 75, 3, (5187, 1100, 0)), (10, .aload_n 0, 1, (0, 0, 0)), (11, .iload_n 1, 1, (0, 0, 0)), (12, .sipush 900, 3, (0, 0, 0))] (by decide +kernel) (show jrun _ (0, [(15, a0), (0, a1)], [], s) = some ([], (15, [(15, a0), (0, a1)], [(0, 900), (0, a1), (15, a0)], (jup (jup s a0 1 0) a0 0 0))) from rfl) ?_
  obtain ⟨v6, s6, h6, H⟩ := jb_some H
  refine AT.callV (As := [(0, a1), (0, 900)]) (cl := 11) (b := a0) (st := []) (i := 290) (pos := 6146) kMd_starts (by decide +kernel) rfl (by decide +kernel) rfl rfl (by omega) (Md_starts_ok h6) ?_
  show AT sMd_see 9 (18, [(15, a0), (0, a1)], [(0, v6)], s6) o
  refine AT.ite (x := (0, 0, 0)) (by decide +kernel) (show jbr (.ifCond .ne 5) (18, [(15, a0), (0, a1)], [(0, v6)], s6) = some ((w32 v6) = 0, (21, [(15, a0), (0, a1)], [], s6), (23, [(15, a0), (0, a1)], [], s6)) from rfl) H (fun H => ?_) (fun H => ?_)
  · refine AT.seq [(21, .iconst (-1), 1, (0, 0, 0))] (by decide +kernel) (show jrun _ (21, [(15, a0), (0, a1)], [], s6) = some ([], (22, [(15, a0), (0, a1)], [(0, (-1))], s6)) from rfl) ?_
    exact AT.retiH (by decide +kernel) H
  · refine AT.seq [(23, .aload_n 0, 1, (0, 0, 0)), (24, .iconst 4, 1, (0, 0, 0))] (by decide +kernel) (show jrun _ (23, [(15, a0), (0, a1)], [], s6) = some ([], (25, [(15, a0), (0, a1)], [(0, 4), (15, a0)], s6)) from rfl) ?_
    obtain ⟨v7, s7, h7, H⟩ := jb_some H
    refine AT.callV (As := [(0, 4)]) (cl := 11) (b := a0) (st := []) (i := 68) (pos := 5183) kMd_empties (by decide +kernel) rfl (by decide +kernel) rfl rfl (by omega) (Md_empties_ok h7) ?_
    show AT sMd_see 9 (28, [(15, a0), (0, a1)], [], s7) o
    refine AT.seq [(28, .aload_n 0, 1, (0, 0, 0)), (29, .iconst 0, 1, (0, 0, 0)), (30, .putfield 253, 3, (5212, 1125, 0))] (by decide +kernel) (show jrun _ (28, [(15, a0), (0, a1)], [], s7) = some ([], (33, [(15, a0), (0, a1)], [], (jup s7 a0 25 0))) from rfl) ?_
    exact AT.weak (L' := [(15, a0), (99, 0)]) (jleK (jleJ jle0)) (Md_see_33_ok  jFU _ _ H)
def sMd_readTest : jS := (⟨"JellyCathedralModel", "readTest", "(I)V"⟩, prog_13_method_70_code, 3, 0, [15, 0], 0)
theorem kMd_readTest : jmk sMd_readTest = true := jmk_of 7110 1012 7109 88 (by decide +kernel)
set_option maxRecDepth 100000 in
theorem Md_readTest_139_ok {o : Int × jM} {x0 x1 t0 t1 : Int} {s : jM} (H : Md_readTest_139  x0 x1 t0 t1 s = some o) : AT sMd_readTest 7 (139, [(15, x0), (0, x1), (99, 0)], [(0, t0), (15, t1)], s) o := by
  unfold Md_readTest_139 at H
  obtain ⟨v1, s1, h1, H⟩ := jb_some H
  refine AT.callV (As := [(0, t0)]) (cl := 11) (b := t1) (st := []) (i := 225) (pos := 7054) kMd_must (by decide +kernel) rfl (by decide +kernel) rfl rfl (by omega) (Md_must_ok h1) ?_
  show AT sMd_readTest 7 (142, [(15, x0), (0, x1), (99, 0)], [], s1) o
  refine AT.seq [(142, .aload_n 0, 1, (0, 0, 0)), (143, .getfield 35, 3, (5207, 1120, 0)), (146, .iload_n 1, 1, (0, 0, 0)), (147, .bipush 6, 2, (0, 0, 0)), (149, .iadd, 1, (0, 0, 0)), (150, .aload_n 0, 1, (0, 0, 0)), (151, .iconst 0, 1, (0, 0, 0)), (152, .bipush 99, 2, (0, 0, 0))] (by decide +kernel) (show jrun _ (142, [(15, x0), (0, x1), (99, 0)], [], s1) = some ([], (154, [(15, x0), (0, x1), (99, 0)], [(0, 99), (0, 0), (15, x0), (0, (x1 + 6)), (40, (x0 + 5))], s1)) from rfl) ?_
  obtain ⟨v2, s2, h2, H⟩ := jb_some H
  refine AT.callV (As := [(0, 0), (0, 99)]) (cl := 11) (b := x0) (st := [(0, (x1 + 6)), (40, (x0 + 5))]) (i := 229) (pos := 6196) kMd_count (by decide +kernel) rfl (by decide +kernel) rfl rfl (by omega) (Md_count_ok h2) ?_
  show AT sMd_readTest 7 (157, [(15, x0), (0, x1), (99, 0)], [(0, v2), (0, (x1 + 6)), (40, (x0 + 5))], s2) o
  refine AT.blk (g := (0 ≤ (w32 (x1 + 6)) ∧ (w32 (x1 + 6)) < 1905)) [(157, .iastore, 1, (0, 0, 0))] (by decide +kernel) (show jrun _ (157, [(15, x0), (0, x1), (99, 0)], [(0, v2), (0, (x1 + 6)), (40, (x0 + 5))], s2) = some ([(0 ≤ (w32 (x1 + 6)) ∧ (w32 (x1 + 6)) < 1905)], (158, [(15, x0), (0, x1), (99, 0)], [], (jup s2 (x0 + 5) (w32 (x1 + 6)) v2))) from rfl) (fun h => h) H (fun H => ?_)
  exact AT.retvH (by decide +kernel) H
set_option maxRecDepth 100000 in
theorem Md_readTest_105_ok {o : Int × jM} {x0 x1 t0 t1 t2 : Int} {s : jM} (H : Md_readTest_105  x0 x1 t0 t1 t2 s = some o) : AT sMd_readTest 7 (105, [(15, x0), (0, x1), (99, 0)], [(0, t0), (0, t1), (40, t2)], s) o := by
  unfold Md_readTest_105 at H
  refine AT.blk (g := (0 ≤ (w32 t1) ∧ (w32 t1) < 1905)) [(105, .iastore, 1, (0, 0, 0)), (106, .aload_n 0, 1, (0, 0, 0)), (107, .aload_n 0, 1, (0, 0, 0)), (108, .bipush 60, 2, (0, 0, 0))] (by decide +kernel) (show jrun _ (105, [(15, x0), (0, x1), (99, 0)], [(0, t0), (0, t1), (40, t2)], s) = some ([(0 ≤ (w32 t1) ∧ (w32 t1) < 1905)], (110, [(15, x0), (0, x1), (99, 0)], [(0, 60), (15, x0), (15, x0)], (jup s t2 (w32 t1) t0))) from rfl) (fun h => h) H (fun H => ?_)
  obtain ⟨v3, s3, h3, H⟩ := jb_some H
  refine AT.callV (As := [(0, 60)]) (cl := 11) (b := x0) (st := [(15, x0)]) (i := 296) (pos := 7083) kMd_isSign (by decide +kernel) rfl (by decide +kernel) rfl rfl (by omega) (Md_isSign_ok h3) ?_
  show AT sMd_readTest 7 (113, [(15, x0), (0, x1), (99, 0)], [(0, v3), (15, x0)], s3) o
  refine AT.ite (x := (0, 0, 0)) (by decide +kernel) (show jbr (.ifCond .ne 21) (113, [(15, x0), (0, x1), (99, 0)], [(0, v3), (15, x0)], s3) = some ((w32 v3) = 0, (116, [(15, x0), (0, x1), (99, 0)], [(15, x0)], s3), (134, [(15, x0), (0, x1), (99, 0)], [(15, x0)], s3)) from rfl) H (fun H => ?_) (fun H => ?_)
  · refine AT.seq [(116, .aload_n 0, 1, (0, 0, 0)), (117, .bipush 62, 2, (0, 0, 0))] (by decide +kernel) (show jrun _ (116, [(15, x0), (0, x1), (99, 0)], [(15, x0)], s3) = some ([], (119, [(15, x0), (0, x1), (99, 0)], [(0, 62), (15, x0), (15, x0)], s3)) from rfl) ?_
    obtain ⟨v4, s4, h4, H⟩ := jb_some H
    refine AT.callV (As := [(0, 62)]) (cl := 11) (b := x0) (st := [(15, x0)]) (i := 296) (pos := 7083) kMd_isSign (by decide +kernel) rfl (by decide +kernel) rfl rfl (by omega) (Md_isSign_ok h4) ?_
    show AT sMd_readTest 7 (122, [(15, x0), (0, x1), (99, 0)], [(0, v4), (15, x0)], s4) o
    refine AT.ite (x := (0, 0, 0)) (by decide +kernel) (show jbr (.ifCond .ne 12) (122, [(15, x0), (0, x1), (99, 0)], [(0, v4), (15, x0)], s4) = some ((w32 v4) = 0, (125, [(15, x0), (0, x1), (99, 0)], [(15, x0)], s4), (134, [(15, x0), (0, x1), (99, 0)], [(15, x0)], s4)) from rfl) H (fun H => ?_) (fun H => ?_)
    · refine AT.seq [(125, .aload_n 0, 1, (0, 0, 0)), (126, .bipush 61, 2, (0, 0, 0))] (by decide +kernel) (show jrun _ (125, [(15, x0), (0, x1), (99, 0)], [(15, x0)], s4) = some ([], (128, [(15, x0), (0, x1), (99, 0)], [(0, 61), (15, x0), (15, x0)], s4)) from rfl) ?_
      obtain ⟨v5, s5, h5, H⟩ := jb_some H
      refine AT.callV (As := [(0, 61)]) (cl := 11) (b := x0) (st := [(15, x0)]) (i := 296) (pos := 7083) kMd_isSign (by decide +kernel) rfl (by decide +kernel) rfl rfl (by omega) (Md_isSign_ok h5) ?_
      show AT sMd_readTest 7 (131, [(15, x0), (0, x1), (99, 0)], [(0, v5), (15, x0)], s5) o
      refine AT.ite (x := (0, 0, 0)) (by decide +kernel) (show jbr (.ifCond .eq 7) (131, [(15, x0), (0, x1), (99, 0)], [(0, v5), (15, x0)], s5) = some ((w32 v5) = 0, (138, [(15, x0), (0, x1), (99, 0)], [(15, x0)], s5), (134, [(15, x0), (0, x1), (99, 0)], [(15, x0)], s5)) from rfl) H (fun H => ?_) (fun H => ?_)
      · refine AT.seq [(138, .iconst 0, 1, (0, 0, 0))] (by decide +kernel) (show jrun _ (138, [(15, x0), (0, x1), (99, 0)], [(15, x0)], s5) = some ([], (139, [(15, x0), (0, x1), (99, 0)], [(0, 0), (15, x0)], s5)) from rfl) ?_
        exact Md_readTest_139_ok  H
      · refine AT.seq [(134, .iconst 1, 1, (0, 0, 0)), (135, .goto 4, 3, (0, 0, 0))] (by decide +kernel) (show jrun _ (134, [(15, x0), (0, x1), (99, 0)], [(15, x0)], s5) = some ([], (139, [(15, x0), (0, x1), (99, 0)], [(0, 1), (15, x0)], s5)) from rfl) ?_
        exact Md_readTest_139_ok  H
    · refine AT.seq [(134, .iconst 1, 1, (0, 0, 0)), (135, .goto 4, 3, (0, 0, 0))] (by decide +kernel) (show jrun _ (134, [(15, x0), (0, x1), (99, 0)], [(15, x0)], s4) = some ([], (139, [(15, x0), (0, x1), (99, 0)], [(0, 1), (15, x0)], s4)) from rfl) ?_
      exact Md_readTest_139_ok  H
  · refine AT.seq [(134, .iconst 1, 1, (0, 0, 0)), (135, .goto 4, 3, (0, 0, 0))] (by decide +kernel) (show jrun _ (134, [(15, x0), (0, x1), (99, 0)], [(15, x0)], s3) = some ([], (139, [(15, x0), (0, x1), (99, 0)], [(0, 1), (15, x0)], s3)) from rfl) ?_
    exact Md_readTest_139_ok  H
set_option maxRecDepth 100000 in
theorem Md_readTest_68_ok {o : Int × jM} {x0 x1 x2 : Int} {s : jM} (H : Md_readTest_68  x0 x1 x2 s = some o) : AT sMd_readTest 7 (68, [(15, x0), (0, x1), (0, x2)], [], s) o := by
  unfold Md_readTest_68 at H
  refine AT.seq [(68, .aload_n 0, 1, (0, 0, 0)), (69, .getfield 209, 3, (5199, 1112, 0))] (by decide +kernel) (show jrun _ (68, [(15, x0), (0, x1), (0, x2)], [], s) = some ([], (72, [(15, x0), (0, x1), (0, x2)], [(0, (s x0 12))], s)) from rfl) ?_
  refine AT.ite (x := (0, 0, 0)) (by decide +kernel) (show jbr (.ifCond .gt 8) (72, [(15, x0), (0, x1), (0, x2)], [(0, (s x0 12))], s) = some (0 < (w32 (s x0 12)), (80, [(15, x0), (0, x1), (0, x2)], [], s), (75, [(15, x0), (0, x1), (0, x2)], [], s)) from rfl) H (fun H => ?_) (fun H => ?_)
  · exact AT.retvH (by decide +kernel) H
  · refine AT.seq [(75, .iload_n 2, 1, (0, 0, 0)), (76, .iconst 1, 1, (0, 0, 0))] (by decide +kernel) (show jrun _ (75, [(15, x0), (0, x1), (0, x2)], [], s) = some ([], (77, [(15, x0), (0, x1), (0, x2)], [(0, 1), (0, x2)], s)) from rfl) ?_
    refine AT.ite (x := (0, 0, 0)) (by decide +kernel) (show jbr (.if_icmp .eq 4) (77, [(15, x0), (0, x1), (0, x2)], [(0, 1), (0, x2)], s) = some ((w32 x2) = 1, (81, [(15, x0), (0, x1), (0, x2)], [], s), (80, [(15, x0), (0, x1), (0, x2)], [], s)) from rfl) H (fun H => ?_) (fun H => ?_)
    · refine AT.seq [(81, .aload_n 0, 1, (0, 0, 0)), (82, .getfield 35, 3, (5207, 1120, 0)), (85, .iload_n 1, 1, (0, 0, 0)), (86, .bipush 7, 2, (0, 0, 0)), (88, .iadd, 1, (0, 0, 0)), (89, .aload_n 0, 1, (0, 0, 0)), (90, .getfield 123, 3, (5201, 1114, 0)), (93, .iconst 3, 1, (0, 0, 0))] (by decide +kernel) (show jrun _ (81, [(15, x0), (0, x1), (0, x2)], [], s) = some ([], (94, [(15, x0), (0, x1), (0, x2)], [(0, 3), (0, (s x0 14)), (0, (x1 + 7)), (40, (x0 + 5))], s)) from rfl) ?_
      refine AT.ite (x := (0, 0, 0)) (by decide +kernel) (show jbr (.if_icmp .ne 10) (94, [(15, x0), (0, x1), (0, x2)], [(0, 3), (0, (s x0 14)), (0, (x1 + 7)), (40, (x0 + 5))], s) = some ((w32 (s x0 14)) = 3, (97, [(15, x0), (0, x1), (0, x2)], [(0, (x1 + 7)), (40, (x0 + 5))], s), (104, [(15, x0), (0, x1), (0, x2)], [(0, (x1 + 7)), (40, (x0 + 5))], s)) from rfl) H (fun H => ?_) (fun H => ?_)
      · refine AT.seq [(97, .aload_n 0, 1, (0, 0, 0)), (98, .getfield 142, 3, (5204, 1117, 0)), (101, .goto 4, 3, (0, 0, 0))] (by decide +kernel) (show jrun _ (97, [(15, x0), (0, x1), (0, x2)], [(0, (x1 + 7)), (40, (x0 + 5))], s) = some ([], (105, [(15, x0), (0, x1), (0, x2)], [(0, (s x0 17)), (0, (x1 + 7)), (40, (x0 + 5))], s)) from rfl) ?_
        exact AT.weak (L' := [(15, x0), (0, x1), (99, 0)]) (jleK (jleK (jleJ jle0))) (Md_readTest_105_ok  H)
      · refine AT.seq [(104, .iconst 0, 1, (0, 0, 0))] (by decide +kernel) (show jrun _ (104, [(15, x0), (0, x1), (0, x2)], [(0, (x1 + 7)), (40, (x0 + 5))], s) = some ([], (105, [(15, x0), (0, x1), (0, x2)], [(0, 0), (0, (x1 + 7)), (40, (x0 + 5))], s)) from rfl) ?_
        exact AT.weak (L' := [(15, x0), (0, x1), (99, 0)]) (jleK (jleK (jleJ jle0))) (Md_readTest_105_ok  H)
    · exact AT.retvH (by decide +kernel) H
set_option maxRecDepth 100000 in
theorem Md_readTest_15_ok {o : Int × jM} {x0 x1 x2 t0 t1 : Int} {s : jM} (H : Md_readTest_15  x0 x1 x2 t0 t1 s = some o) : AT sMd_readTest 7 (15, [(15, x0), (0, x1), (0, x2)], [(0, t0), (15, t1)], s) o := by
  unfold Md_readTest_15 at H
  obtain ⟨v6, s6, h6, H⟩ := jb_some H
  refine AT.callV (As := [(0, t0)]) (cl := 11) (b := t1) (st := []) (i := 225) (pos := 7054) kMd_must (by decide +kernel) rfl (by decide +kernel) rfl rfl (by omega) (Md_must_ok h6) ?_
  show AT sMd_readTest 7 (18, [(15, x0), (0, x1), (0, x2)], [], s6) o
  refine AT.blk (g := (0 ≤ (w32 (x1 + 5)) ∧ (w32 (x1 + 5)) < 1905)) [(18, .aload_n 0, 1, (0, 0, 0)), (19, .getfield 35, 3, (5207, 1120, 0)), (22, .iload_n 1, 1, (0, 0, 0)), (23, .iconst 5, 1, (0, 0, 0)), (24, .iadd, 1, (0, 0, 0)), (25, .iload_n 2, 1, (0, 0, 0)), (26, .iastore, 1, (0, 0, 0)), (27, .aload_n 0, 1, (0, 0, 0)), (28, .getfield 209, 3, (5199, 1112, 0))] (by decide +kernel) (show jrun _ (18, [(15, x0), (0, x1), (0, x2)], [], s6) = some ([(0 ≤ (w32 (x1 + 5)) ∧ (w32 (x1 + 5)) < 1905)], (31, [(15, x0), (0, x1), (0, x2)], [(0, ((jup s6 (x0 + 5) (w32 (x1 + 5)) x2) x0 12))], (jup s6 (x0 + 5) (w32 (x1 + 5)) x2))) from rfl) (fun h => h) H (fun H => ?_)
  refine AT.ite (x := (0, 0, 0)) (by decide +kernel) (show jbr (.ifCond .le 4) (31, [(15, x0), (0, x1), (0, x2)], [(0, ((jup s6 (x0 + 5) (w32 (x1 + 5)) x2) x0 12))], (jup s6 (x0 + 5) (w32 (x1 + 5)) x2)) = some (0 < (w32 ((jup s6 (x0 + 5) (w32 (x1 + 5)) x2) x0 12)), (34, [(15, x0), (0, x1), (0, x2)], [], (jup s6 (x0 + 5) (w32 (x1 + 5)) x2)), (35, [(15, x0), (0, x1), (0, x2)], [], (jup s6 (x0 + 5) (w32 (x1 + 5)) x2))) from rfl) H (fun H => ?_) (fun H => ?_)
  · exact AT.retvH (by decide +kernel) H
  · refine AT.seq [(35, .aload_n 0, 1, (0, 0, 0)), (36, .getfield 35, 3, (5207, 1120, 0)), (39, .iload_n 1, 1, (0, 0, 0)), (40, .iconst 1, 1, (0, 0, 0)), (41, .iadd, 1, (0, 0, 0)), (42, .aload_n 0, 1, (0, 0, 0)), (43, .iconst 0, 1, (0, 0, 0)), (44, .iconst 2, 1, (0, 0, 0))] (by decide +kernel) (show jrun _ (35, [(15, x0), (0, x1), (0, x2)], [], (jup s6 (x0 + 5) (w32 (x1 + 5)) x2)) = some ([], (45, [(15, x0), (0, x1), (0, x2)], [(0, 2), (0, 0), (15, x0), (0, (x1 + 1)), (40, (x0 + 5))], (jup s6 (x0 + 5) (w32 (x1 + 5)) x2))) from rfl) ?_
    obtain ⟨v7, s7, h7, H⟩ := jb_some H
    refine AT.callV (As := [(0, 0), (0, 2)]) (cl := 11) (b := x0) (st := [(0, (x1 + 1)), (40, (x0 + 5))]) (i := 271) (pos := 7070) kMd_readTold (by decide +kernel) rfl (by decide +kernel) rfl rfl (by omega) (Md_readTold_ok h7) ?_
    show AT sMd_readTest 7 (48, [(15, x0), (0, x1), (0, x2)], [(0, v7), (0, (x1 + 1)), (40, (x0 + 5))], s7) o
    refine AT.blk (g := (0 ≤ (w32 (x1 + 1)) ∧ (w32 (x1 + 1)) < 1905)) [(48, .iastore, 1, (0, 0, 0)), (49, .iload_n 2, 1, (0, 0, 0)), (50, .iconst 2, 1, (0, 0, 0))] (by decide +kernel) (show jrun _ (48, [(15, x0), (0, x1), (0, x2)], [(0, v7), (0, (x1 + 1)), (40, (x0 + 5))], s7) = some ([(0 ≤ (w32 (x1 + 1)) ∧ (w32 (x1 + 1)) < 1905)], (51, [(15, x0), (0, x1), (0, x2)], [(0, 2), (0, x2)], (jup s7 (x0 + 5) (w32 (x1 + 1)) v7))) from rfl) (fun h => h) H (fun H => ?_)
    refine AT.ite (x := (0, 0, 0)) (by decide +kernel) (show jbr (.if_icmp .ne 17) (51, [(15, x0), (0, x1), (0, x2)], [(0, 2), (0, x2)], (jup s7 (x0 + 5) (w32 (x1 + 1)) v7)) = some ((w32 x2) = 2, (54, [(15, x0), (0, x1), (0, x2)], [], (jup s7 (x0 + 5) (w32 (x1 + 1)) v7)), (68, [(15, x0), (0, x1), (0, x2)], [], (jup s7 (x0 + 5) (w32 (x1 + 1)) v7))) from rfl) H (fun H => ?_) (fun H => ?_)
    · refine AT.seq [(54, .aload_n 0, 1, (0, 0, 0)), (55, .getfield 35, 3, (5207, 1120, 0)), (58, .iload_n 1, 1, (0, 0, 0)), (59, .iconst 2, 1, (0, 0, 0)), (60, .iadd, 1, (0, 0, 0)), (61, .aload_n 0, 1, (0, 0, 0)), (62, .iconst 0, 1, (0, 0, 0)), (63, .iconst 1, 1, (0, 0, 0))] (by decide +kernel) (show jrun _ (54, [(15, x0), (0, x1), (0, x2)], [], (jup s7 (x0 + 5) (w32 (x1 + 1)) v7)) = some ([], (64, [(15, x0), (0, x1), (0, x2)], [(0, 1), (0, 0), (15, x0), (0, (x1 + 2)), (40, (x0 + 5))], (jup s7 (x0 + 5) (w32 (x1 + 1)) v7))) from rfl) ?_
      obtain ⟨v8, s8, h8, H⟩ := jb_some H
      refine AT.callV (As := [(0, 0), (0, 1)]) (cl := 11) (b := x0) (st := [(0, (x1 + 2)), (40, (x0 + 5))]) (i := 271) (pos := 7070) kMd_readTold (by decide +kernel) rfl (by decide +kernel) rfl rfl (by omega) (Md_readTold_ok h8) ?_
      show AT sMd_readTest 7 (67, [(15, x0), (0, x1), (0, x2)], [(0, v8), (0, (x1 + 2)), (40, (x0 + 5))], s8) o
      refine AT.blk (g := (0 ≤ (w32 (x1 + 2)) ∧ (w32 (x1 + 2)) < 1905)) [(67, .iastore, 1, (0, 0, 0))] (by decide +kernel) (show jrun _ (67, [(15, x0), (0, x1), (0, x2)], [(0, v8), (0, (x1 + 2)), (40, (x0 + 5))], s8) = some ([(0 ≤ (w32 (x1 + 2)) ∧ (w32 (x1 + 2)) < 1905)], (68, [(15, x0), (0, x1), (0, x2)], [], (jup s8 (x0 + 5) (w32 (x1 + 2)) v8))) from rfl) (fun h => h) H (fun H => ?_)
      exact Md_readTest_68_ok  H
    · exact Md_readTest_68_ok  H
set_option maxRecDepth 100000 in
theorem Md_readTest_ok {a0 a1 : Int} {s : jM} {o : Int × jM} (H : Md_readTest a0 a1 s = some o) : MK sMd_readTest 7 [(15, a0), (0, a1)] s o := by
  refine MK.of kMd_readTest rfl ?_
  show AT sMd_readTest 7 (0, [(15, a0), (0, a1), (99, 0)], [], s) o
  unfold Md_readTest at H
  refine AT.seq [(0, .aload_n 0, 1, (0, 0, 0))] (by decide +kernel) (show jrun _ (0, [(15, a0), (0, a1), (99, 0)], [], s) = some ([], (1, [(15, a0), (0, a1), (99, 0)], [(15, a0)], s)) from rfl) ?_
  obtain ⟨v9, s9, h9, H⟩ := jb_some H
  refine AT.callV (As := []) (cl := 11) (b := a0) (st := []) (i := 200) (pos := 7031) kMd_testWord (by decide +kernel) rfl (by decide +kernel) rfl rfl (by omega) (Md_testWord_ok h9) ?_
  show AT sMd_readTest 7 (4, [(15, a0), (0, a1), (99, 0)], [(0, v9)], s9) o
  refine AT.seq [(4, .istore_n 2, 1, (0, 0, 0)), (5, .aload_n 0, 1, (0, 0, 0)), (6, .iload_n 2, 1, (0, 0, 0))] (by decide +kernel) (show jrun _ (4, [(15, a0), (0, a1), (99, 0)], [(0, v9)], s9) = some ([], (7, [(15, a0), (0, a1), (0, v9)], [(0, v9), (15, a0)], s9)) from rfl) ?_
  refine AT.ite (x := (0, 0, 0)) (by decide +kernel) (show jbr (.ifCond .lt 7) (7, [(15, a0), (0, a1), (0, v9)], [(0, v9), (15, a0)], s9) = some ((w32 v9) < 0, (14, [(15, a0), (0, a1), (0, v9)], [(15, a0)], s9), (10, [(15, a0), (0, a1), (0, v9)], [(15, a0)], s9)) from rfl) H (fun H => ?_) (fun H => ?_)
  · refine AT.seq [(14, .iconst 0, 1, (0, 0, 0))] (by decide +kernel) (show jrun _ (14, [(15, a0), (0, a1), (0, v9)], [(15, a0)], s9) = some ([], (15, [(15, a0), (0, a1), (0, v9)], [(0, 0), (15, a0)], s9)) from rfl) ?_
    exact Md_readTest_15_ok  H
  · refine AT.seq [(10, .iconst 1, 1, (0, 0, 0)), (11, .goto 4, 3, (0, 0, 0))] (by decide +kernel) (show jrun _ (10, [(15, a0), (0, a1), (0, v9)], [(15, a0)], s9) = some ([], (15, [(15, a0), (0, a1), (0, v9)], [(0, 1), (15, a0)], s9)) from rfl) ?_
    exact Md_readTest_15_ok  H
def sMd_readRest : jS := (⟨"JellyCathedralModel", "readRest", "(I)V"⟩, prog_13_method_71_code, 3, 0, [15, 0], 0)
theorem kMd_readRest : jmk sMd_readRest = true := jmk_of 7106 1012 7105 87 (by decide +kernel)
set_option maxRecDepth 100000 in
theorem Md_readRest_142_ok {o : Int × jM} {x0 x1 x2 : Int} {s : jM} (H : Md_readRest_142  x0 x1 x2 s = some o) : AT sMd_readRest 8 (142, [(15, x0), (0, x1), (0, x2)], [], s) o := by
  unfold Md_readRest_142 at H
  refine AT.seq [(142, .iload_n 2, 1, (0, 0, 0))] (by decide +kernel) (show jrun _ (142, [(15, x0), (0, x1), (0, x2)], [], s) = some ([], (143, [(15, x0), (0, x1), (0, x2)], [(0, x2)], s)) from rfl) ?_
  refine AT.ite (x := (0, 0, 0)) (by decide +kernel) (show jbr (.ifCond .ne 18) (143, [(15, x0), (0, x1), (0, x2)], [(0, x2)], s) = some ((w32 x2) = 0, (146, [(15, x0), (0, x1), (0, x2)], [], s), (161, [(15, x0), (0, x1), (0, x2)], [], s)) from rfl) H (fun H => ?_) (fun H => ?_)
  · refine AT.seq [(146, .aload_n 0, 1, (0, 0, 0)), (147, .getfield 35, 3, (5207, 1120, 0)), (150, .iload_n 1, 1, (0, 0, 0)), (151, .iconst 3, 1, (0, 0, 0)), (152, .iadd, 1, (0, 0, 0)), (153, .aload_n 0, 1, (0, 0, 0)), (154, .iconst 1, 1, (0, 0, 0)), (155, .bipush 9, 2, (0, 0, 0))] (by decide +kernel) (show jrun _ (146, [(15, x0), (0, x1), (0, x2)], [], s) = some ([], (157, [(15, x0), (0, x1), (0, x2)], [(0, 9), (0, 1), (15, x0), (0, (x1 + 3)), (40, (x0 + 5))], s)) from rfl) ?_
    obtain ⟨v1, s1, h1, H⟩ := jb_some H
    refine AT.callV (As := [(0, 1), (0, 9)]) (cl := 11) (b := x0) (st := [(0, (x1 + 3)), (40, (x0 + 5))]) (i := 229) (pos := 6196) kMd_count (by decide +kernel) rfl (by decide +kernel) rfl rfl (by omega) (Md_count_ok h1) ?_
    show AT sMd_readRest 8 (160, [(15, x0), (0, x1), (0, x2)], [(0, v1), (0, (x1 + 3)), (40, (x0 + 5))], s1) o
    refine AT.blk (g := (0 ≤ (w32 (x1 + 3)) ∧ (w32 (x1 + 3)) < 1905)) [(160, .iastore, 1, (0, 0, 0))] (by decide +kernel) (show jrun _ (160, [(15, x0), (0, x1), (0, x2)], [(0, v1), (0, (x1 + 3)), (40, (x0 + 5))], s1) = some ([(0 ≤ (w32 (x1 + 3)) ∧ (w32 (x1 + 3)) < 1905)], (161, [(15, x0), (0, x1), (0, x2)], [], (jup s1 (x0 + 5) (w32 (x1 + 3)) v1))) from rfl) (fun h => h) H (fun H => ?_)
    exact AT.retvH (by decide +kernel) H
  · exact AT.retvH (by decide +kernel) H
set_option maxRecDepth 100000 in
theorem Md_readRest_120_ok {o : Int × jM} {x0 x1 x2 : Int} {s : jM} (H : Md_readRest_120  x0 x1 x2 s = some o) : AT sMd_readRest 8 (120, [(15, x0), (0, x1), (0, x2)], [], s) o := by
  unfold Md_readRest_120 at H
  refine AT.seq [(120, .aload_n 0, 1, (0, 0, 0)), (121, .getfield 35, 3, (5207, 1120, 0)), (124, .iload_n 1, 1, (0, 0, 0)), (125, .iconst 2, 1, (0, 0, 0)), (126, .iadd, 1, (0, 0, 0)), (127, .aload_n 0, 1, (0, 0, 0)), (128, .iconst 0, 1, (0, 0, 0)), (129, .iload_n 2, 1, (0, 0, 0))] (by decide +kernel) (show jrun _ (120, [(15, x0), (0, x1), (0, x2)], [], s) = some ([], (130, [(15, x0), (0, x1), (0, x2)], [(0, x2), (0, 0), (15, x0), (0, (x1 + 2)), (40, (x0 + 5))], s)) from rfl) ?_
  refine AT.ite (x := (0, 0, 0)) (by decide +kernel) (show jbr (.ifCond .ne 7) (130, [(15, x0), (0, x1), (0, x2)], [(0, x2), (0, 0), (15, x0), (0, (x1 + 2)), (40, (x0 + 5))], s) = some ((w32 x2) = 0, (133, [(15, x0), (0, x1), (0, x2)], [(0, 0), (15, x0), (0, (x1 + 2)), (40, (x0 + 5))], s), (137, [(15, x0), (0, x1), (0, x2)], [(0, 0), (15, x0), (0, (x1 + 2)), (40, (x0 + 5))], s)) from rfl) H (fun H => ?_) (fun H => ?_)
  · refine AT.seq [(133, .iconst 0, 1, (0, 0, 0)), (134, .goto 4, 3, (0, 0, 0))] (by decide +kernel) (show jrun _ (133, [(15, x0), (0, x1), (0, x2)], [(0, 0), (15, x0), (0, (x1 + 2)), (40, (x0 + 5))], s) = some ([], (138, [(15, x0), (0, x1), (0, x2)], [(0, 0), (0, 0), (15, x0), (0, (x1 + 2)), (40, (x0 + 5))], s)) from rfl) ?_
    obtain ⟨v2, s2, h2, H⟩ := jb_some H
    refine AT.callV (As := [(0, 0), (0, 0)]) (cl := 11) (b := x0) (st := [(0, (x1 + 2)), (40, (x0 + 5))]) (i := 271) (pos := 7070) kMd_readTold (by decide +kernel) rfl (by decide +kernel) rfl rfl (by omega) (Md_readTold_ok h2) ?_
    show AT sMd_readRest 8 (141, [(15, x0), (0, x1), (0, x2)], [(0, v2), (0, (x1 + 2)), (40, (x0 + 5))], s2) o
    refine AT.blk (g := (0 ≤ (w32 (x1 + 2)) ∧ (w32 (x1 + 2)) < 1905)) [(141, .iastore, 1, (0, 0, 0))] (by decide +kernel) (show jrun _ (141, [(15, x0), (0, x1), (0, x2)], [(0, v2), (0, (x1 + 2)), (40, (x0 + 5))], s2) = some ([(0 ≤ (w32 (x1 + 2)) ∧ (w32 (x1 + 2)) < 1905)], (142, [(15, x0), (0, x1), (0, x2)], [], (jup s2 (x0 + 5) (w32 (x1 + 2)) v2))) from rfl) (fun h => h) H (fun H => ?_)
    exact Md_readRest_142_ok  H
  · refine AT.seq [(137, .iconst 1, 1, (0, 0, 0))] (by decide +kernel) (show jrun _ (137, [(15, x0), (0, x1), (0, x2)], [(0, 0), (15, x0), (0, (x1 + 2)), (40, (x0 + 5))], s) = some ([], (138, [(15, x0), (0, x1), (0, x2)], [(0, 1), (0, 0), (15, x0), (0, (x1 + 2)), (40, (x0 + 5))], s)) from rfl) ?_
    obtain ⟨v3, s3, h3, H⟩ := jb_some H
    refine AT.callV (As := [(0, 0), (0, 1)]) (cl := 11) (b := x0) (st := [(0, (x1 + 2)), (40, (x0 + 5))]) (i := 271) (pos := 7070) kMd_readTold (by decide +kernel) rfl (by decide +kernel) rfl rfl (by omega) (Md_readTold_ok h3) ?_
    show AT sMd_readRest 8 (141, [(15, x0), (0, x1), (0, x2)], [(0, v3), (0, (x1 + 2)), (40, (x0 + 5))], s3) o
    refine AT.blk (g := (0 ≤ (w32 (x1 + 2)) ∧ (w32 (x1 + 2)) < 1905)) [(141, .iastore, 1, (0, 0, 0))] (by decide +kernel) (show jrun _ (141, [(15, x0), (0, x1), (0, x2)], [(0, v3), (0, (x1 + 2)), (40, (x0 + 5))], s3) = some ([(0 ≤ (w32 (x1 + 2)) ∧ (w32 (x1 + 2)) < 1905)], (142, [(15, x0), (0, x1), (0, x2)], [], (jup s3 (x0 + 5) (w32 (x1 + 2)) v3))) from rfl) (fun h => h) H (fun H => ?_)
    exact Md_readRest_142_ok  H
set_option maxRecDepth 100000 in
theorem Md_readRest_ok {a0 a1 : Int} {s : jM} {o : Int × jM} (H : Md_readRest a0 a1 s = some o) : MK sMd_readRest 8 [(15, a0), (0, a1)] s o := by
  refine MK.of kMd_readRest rfl ?_
  show AT sMd_readRest 8 (0, [(15, a0), (0, a1), (99, 0)], [], s) o
  unfold Md_readRest at H
  refine AT.blk (g := (0 ≤ (w32 a1) ∧ (w32 a1) < 1905)) [(0, .aload_n 0, 1, (0, 0, 0)), (1, .getfield 35, 3, (5207, 1120, 0)), (4, .iload_n 1, 1, (0, 0, 0)), (5, .iaload, 1, (0, 0, 0)), (6, .istore_n 2, 1, (0, 0, 0)), (7, .iload_n 2, 1, (0, 0, 0)), (8, .iconst 5, 1, (0, 0, 0))] (by decide +kernel) (show jrun _ (0, [(15, a0), (0, a1), (99, 0)], [], s) = some ([(0 ≤ (w32 a1) ∧ (w32 a1) < 1905)], (9, [(15, a0), (0, a1), (0, (s (a0 + 5) (w32 a1)))], [(0, 5), (0, (s (a0 + 5) (w32 a1)))], s)) from rfl) (fun h => h) H (fun H => ?_)
  refine AT.ite (x := (0, 0, 0)) (by decide +kernel) (show jbr (.if_icmp .ne 21) (9, [(15, a0), (0, a1), (0, (s (a0 + 5) (w32 a1)))], [(0, 5), (0, (s (a0 + 5) (w32 a1)))], s) = some ((w32 (s (a0 + 5) (w32 a1))) = 5, (12, [(15, a0), (0, a1), (0, (s (a0 + 5) (w32 a1)))], [], s), (30, [(15, a0), (0, a1), (0, (s (a0 + 5) (w32 a1)))], [], s)) from rfl) H (fun H => ?_) (fun H => ?_)
  · refine AT.seq [(12, .aload_n 0, 1, (0, 0, 0)), (13, .getfield 35, 3, (5207, 1120, 0)), (16, .iload_n 1, 1, (0, 0, 0)), (17, .iconst 1, 1, (0, 0, 0)), (18, .iadd, 1, (0, 0, 0)), (19, .aload_n 0, 1, (0, 0, 0)), (20, .iconst 1, 1, (0, 0, 0)), (21, .bipush 60, 2, (0, 0, 0))] (by decide +kernel) (show jrun _ (12, [(15, a0), (0, a1), (0, (s (a0 + 5) (w32 a1)))], [], s) = some ([], (23, [(15, a0), (0, a1), (0, (s (a0 + 5) (w32 a1)))], [(0, 60), (0, 1), (15, a0), (0, (a1 + 1)), (40, (a0 + 5))], s)) from rfl) ?_
    obtain ⟨v4, s4, h4, H⟩ := jb_some H
    refine AT.callV (As := [(0, 1), (0, 60)]) (cl := 11) (b := a0) (st := [(0, (a1 + 1)), (40, (a0 + 5))]) (i := 229) (pos := 6196) kMd_count (by decide +kernel) rfl (by decide +kernel) rfl rfl (by omega) (Md_count_ok h4) ?_
    show AT sMd_readRest 8 (26, [(15, a0), (0, a1), (0, (s (a0 + 5) (w32 a1)))], [(0, v4), (0, (a1 + 1)), (40, (a0 + 5))], s4) o
    refine AT.blk (g := (0 ≤ (w32 (a1 + 1)) ∧ (w32 (a1 + 1)) < 1905)) [(26, .iastore, 1, (0, 0, 0)), (27, .goto 134, 3, (0, 0, 0))] (by decide +kernel) (show jrun _ (26, [(15, a0), (0, a1), (0, (s (a0 + 5) (w32 a1)))], [(0, v4), (0, (a1 + 1)), (40, (a0 + 5))], s4) = some ([(0 ≤ (w32 (a1 + 1)) ∧ (w32 (a1 + 1)) < 1905)], (161, [(15, a0), (0, a1), (0, (s (a0 + 5) (w32 a1)))], [], (jup s4 (a0 + 5) (w32 (a1 + 1)) v4))) from rfl) (fun h => h) H (fun H => ?_)
    exact AT.retvH (by decide +kernel) H
  · refine AT.seq [(30, .iload_n 2, 1, (0, 0, 0)), (31, .bipush 6, 2, (0, 0, 0))] (by decide +kernel) (show jrun _ (30, [(15, a0), (0, a1), (0, (s (a0 + 5) (w32 a1)))], [], s) = some ([], (33, [(15, a0), (0, a1), (0, (s (a0 + 5) (w32 a1)))], [(0, 6), (0, (s (a0 + 5) (w32 a1)))], s)) from rfl) ?_
    refine AT.ite (x := (0, 0, 0)) (by decide +kernel) (show jbr (.if_icmp .ne 21) (33, [(15, a0), (0, a1), (0, (s (a0 + 5) (w32 a1)))], [(0, 6), (0, (s (a0 + 5) (w32 a1)))], s) = some ((w32 (s (a0 + 5) (w32 a1))) = 6, (36, [(15, a0), (0, a1), (0, (s (a0 + 5) (w32 a1)))], [], s), (54, [(15, a0), (0, a1), (0, (s (a0 + 5) (w32 a1)))], [], s)) from rfl) H (fun H => ?_) (fun H => ?_)
    · refine AT.seq [(36, .aload_n 0, 1, (0, 0, 0)), (37, .getfield 35, 3, (5207, 1120, 0)), (40, .iload_n 1, 1, (0, 0, 0)), (41, .iconst 1, 1, (0, 0, 0)), (42, .iadd, 1, (0, 0, 0)), (43, .aload_n 0, 1, (0, 0, 0)), (44, .iconst 0, 1, (0, 0, 0)), (45, .bipush 9, 2, (0, 0, 0))] (by decide +kernel) (show jrun _ (36, [(15, a0), (0, a1), (0, (s (a0 + 5) (w32 a1)))], [], s) = some ([], (47, [(15, a0), (0, a1), (0, (s (a0 + 5) (w32 a1)))], [(0, 9), (0, 0), (15, a0), (0, (a1 + 1)), (40, (a0 + 5))], s)) from rfl) ?_
      obtain ⟨v5, s5, h5, H⟩ := jb_some H
      refine AT.callV (As := [(0, 0), (0, 9)]) (cl := 11) (b := a0) (st := [(0, (a1 + 1)), (40, (a0 + 5))]) (i := 229) (pos := 6196) kMd_count (by decide +kernel) rfl (by decide +kernel) rfl rfl (by omega) (Md_count_ok h5) ?_
      show AT sMd_readRest 8 (50, [(15, a0), (0, a1), (0, (s (a0 + 5) (w32 a1)))], [(0, v5), (0, (a1 + 1)), (40, (a0 + 5))], s5) o
      refine AT.blk (g := (0 ≤ (w32 (a1 + 1)) ∧ (w32 (a1 + 1)) < 1905)) [(50, .iastore, 1, (0, 0, 0)), (51, .goto 110, 3, (0, 0, 0))] (by decide +kernel) (show jrun _ (50, [(15, a0), (0, a1), (0, (s (a0 + 5) (w32 a1)))], [(0, v5), (0, (a1 + 1)), (40, (a0 + 5))], s5) = some ([(0 ≤ (w32 (a1 + 1)) ∧ (w32 (a1 + 1)) < 1905)], (161, [(15, a0), (0, a1), (0, (s (a0 + 5) (w32 a1)))], [], (jup s5 (a0 + 5) (w32 (a1 + 1)) v5))) from rfl) (fun h => h) H (fun H => ?_)
      exact AT.retvH (by decide +kernel) H
    · refine AT.seq [(54, .iload_n 2, 1, (0, 0, 0)), (55, .bipush 9, 2, (0, 0, 0))] (by decide +kernel) (show jrun _ (54, [(15, a0), (0, a1), (0, (s (a0 + 5) (w32 a1)))], [], s) = some ([], (57, [(15, a0), (0, a1), (0, (s (a0 + 5) (w32 a1)))], [(0, 9), (0, (s (a0 + 5) (w32 a1)))], s)) from rfl) ?_
      refine AT.ite (x := (0, 0, 0)) (by decide +kernel) (show jbr (.if_icmp .ne 21) (57, [(15, a0), (0, a1), (0, (s (a0 + 5) (w32 a1)))], [(0, 9), (0, (s (a0 + 5) (w32 a1)))], s) = some ((w32 (s (a0 + 5) (w32 a1))) = 9, (60, [(15, a0), (0, a1), (0, (s (a0 + 5) (w32 a1)))], [], s), (78, [(15, a0), (0, a1), (0, (s (a0 + 5) (w32 a1)))], [], s)) from rfl) H (fun H => ?_) (fun H => ?_)
      · refine AT.seq [(60, .aload_n 0, 1, (0, 0, 0)), (61, .getfield 35, 3, (5207, 1120, 0)), (64, .iload_n 1, 1, (0, 0, 0)), (65, .iconst 1, 1, (0, 0, 0)), (66, .iadd, 1, (0, 0, 0)), (67, .aload_n 0, 1, (0, 0, 0)), (68, .iconst 1, 1, (0, 0, 0)), (69, .bipush 99, 2, (0, 0, 0))] (by decide +kernel) (show jrun _ (60, [(15, a0), (0, a1), (0, (s (a0 + 5) (w32 a1)))], [], s) = some ([], (71, [(15, a0), (0, a1), (0, (s (a0 + 5) (w32 a1)))], [(0, 99), (0, 1), (15, a0), (0, (a1 + 1)), (40, (a0 + 5))], s)) from rfl) ?_
        obtain ⟨v6, s6, h6, H⟩ := jb_some H
        refine AT.callV (As := [(0, 1), (0, 99)]) (cl := 11) (b := a0) (st := [(0, (a1 + 1)), (40, (a0 + 5))]) (i := 229) (pos := 6196) kMd_count (by decide +kernel) rfl (by decide +kernel) rfl rfl (by omega) (Md_count_ok h6) ?_
        show AT sMd_readRest 8 (74, [(15, a0), (0, a1), (0, (s (a0 + 5) (w32 a1)))], [(0, v6), (0, (a1 + 1)), (40, (a0 + 5))], s6) o
        refine AT.blk (g := (0 ≤ (w32 (a1 + 1)) ∧ (w32 (a1 + 1)) < 1905)) [(74, .iastore, 1, (0, 0, 0)), (75, .goto 86, 3, (0, 0, 0))] (by decide +kernel) (show jrun _ (74, [(15, a0), (0, a1), (0, (s (a0 + 5) (w32 a1)))], [(0, v6), (0, (a1 + 1)), (40, (a0 + 5))], s6) = some ([(0 ≤ (w32 (a1 + 1)) ∧ (w32 (a1 + 1)) < 1905)], (161, [(15, a0), (0, a1), (0, (s (a0 + 5) (w32 a1)))], [], (jup s6 (a0 + 5) (w32 (a1 + 1)) v6))) from rfl) (fun h => h) H (fun H => ?_)
        exact AT.retvH (by decide +kernel) H
      · refine AT.seq [(78, .iload_n 2, 1, (0, 0, 0)), (79, .bipush 8, 2, (0, 0, 0))] (by decide +kernel) (show jrun _ (78, [(15, a0), (0, a1), (0, (s (a0 + 5) (w32 a1)))], [], s) = some ([], (81, [(15, a0), (0, a1), (0, (s (a0 + 5) (w32 a1)))], [(0, 8), (0, (s (a0 + 5) (w32 a1)))], s)) from rfl) ?_
        refine AT.ite (x := (0, 0, 0)) (by decide +kernel) (show jbr (.if_icmp .ne 11) (81, [(15, a0), (0, a1), (0, (s (a0 + 5) (w32 a1)))], [(0, 8), (0, (s (a0 + 5) (w32 a1)))], s) = some ((w32 (s (a0 + 5) (w32 a1))) = 8, (84, [(15, a0), (0, a1), (0, (s (a0 + 5) (w32 a1)))], [], s), (92, [(15, a0), (0, a1), (0, (s (a0 + 5) (w32 a1)))], [], s)) from rfl) H (fun H => ?_) (fun H => ?_)
        · refine AT.seq [(84, .aload_n 0, 1, (0, 0, 0)), (85, .iload_n 1, 1, (0, 0, 0))] (by decide +kernel) (show jrun _ (84, [(15, a0), (0, a1), (0, (s (a0 + 5) (w32 a1)))], [], s) = some ([], (86, [(15, a0), (0, a1), (0, (s (a0 + 5) (w32 a1)))], [(0, a1), (15, a0)], s)) from rfl) ?_
          obtain ⟨v7, s7, h7, H⟩ := jb_some H
          refine AT.callV (As := [(0, a1)]) (cl := 11) (b := a0) (st := []) (i := 305) (pos := 7107) kMd_readTest (by decide +kernel) rfl (by decide +kernel) rfl rfl (by omega) (Md_readTest_ok h7) ?_
          show AT sMd_readRest 8 (89, [(15, a0), (0, a1), (0, (s (a0 + 5) (w32 a1)))], [], s7) o
          refine AT.seq [(89, .goto 72, 3, (0, 0, 0))] (by decide +kernel) (show jrun _ (89, [(15, a0), (0, a1), (0, (s (a0 + 5) (w32 a1)))], [], s7) = some ([], (161, [(15, a0), (0, a1), (0, (s (a0 + 5) (w32 a1)))], [], s7)) from rfl) ?_
          exact AT.retvH (by decide +kernel) H
        · refine AT.seq [(92, .iload_n 2, 1, (0, 0, 0)), (93, .iconst 5, 1, (0, 0, 0))] (by decide +kernel) (show jrun _ (92, [(15, a0), (0, a1), (0, (s (a0 + 5) (w32 a1)))], [], s) = some ([], (94, [(15, a0), (0, a1), (0, (s (a0 + 5) (w32 a1)))], [(0, 5), (0, (s (a0 + 5) (w32 a1)))], s)) from rfl) ?_
          refine AT.ite (x := (0, 0, 0)) (by decide +kernel) (show jbr (.if_icmp .ge 67) (94, [(15, a0), (0, a1), (0, (s (a0 + 5) (w32 a1)))], [(0, 5), (0, (s (a0 + 5) (w32 a1)))], s) = some ((w32 (s (a0 + 5) (w32 a1))) < 5, (97, [(15, a0), (0, a1), (0, (s (a0 + 5) (w32 a1)))], [], s), (161, [(15, a0), (0, a1), (0, (s (a0 + 5) (w32 a1)))], [], s)) from rfl) H (fun H => ?_) (fun H => ?_)
          · refine AT.seq [(97, .aload_n 0, 1, (0, 0, 0)), (98, .getfield 35, 3, (5207, 1120, 0)), (101, .iload_n 1, 1, (0, 0, 0)), (102, .iconst 1, 1, (0, 0, 0)), (103, .iadd, 1, (0, 0, 0)), (104, .aload_n 0, 1, (0, 0, 0)), (105, .iconst 0, 1, (0, 0, 0)), (106, .iconst 2, 1, (0, 0, 0))] (by decide +kernel) (show jrun _ (97, [(15, a0), (0, a1), (0, (s (a0 + 5) (w32 a1)))], [], s) = some ([], (107, [(15, a0), (0, a1), (0, (s (a0 + 5) (w32 a1)))], [(0, 2), (0, 0), (15, a0), (0, (a1 + 1)), (40, (a0 + 5))], s)) from rfl) ?_
            obtain ⟨v8, s8, h8, H⟩ := jb_some H
            refine AT.callV (As := [(0, 0), (0, 2)]) (cl := 11) (b := a0) (st := [(0, (a1 + 1)), (40, (a0 + 5))]) (i := 271) (pos := 7070) kMd_readTold (by decide +kernel) rfl (by decide +kernel) rfl rfl (by omega) (Md_readTold_ok h8) ?_
            show AT sMd_readRest 8 (110, [(15, a0), (0, a1), (0, (s (a0 + 5) (w32 a1)))], [(0, v8), (0, (a1 + 1)), (40, (a0 + 5))], s8) o
            refine AT.blk (g := (0 ≤ (w32 (a1 + 1)) ∧ (w32 (a1 + 1)) < 1905)) [(110, .iastore, 1, (0, 0, 0)), (111, .iload_n 2, 1, (0, 0, 0))] (by decide +kernel) (show jrun _ (110, [(15, a0), (0, a1), (0, (s (a0 + 5) (w32 a1)))], [(0, v8), (0, (a1 + 1)), (40, (a0 + 5))], s8) = some ([(0 ≤ (w32 (a1 + 1)) ∧ (w32 (a1 + 1)) < 1905)], (112, [(15, a0), (0, a1), (0, (s (a0 + 5) (w32 a1)))], [(0, (s (a0 + 5) (w32 a1)))], (jup s8 (a0 + 5) (w32 (a1 + 1)) v8))) from rfl) (fun h => h) H (fun H => ?_)
            refine AT.ite (x := (0, 0, 0)) (by decide +kernel) (show jbr (.ifCond .eq 8) (112, [(15, a0), (0, a1), (0, (s (a0 + 5) (w32 a1)))], [(0, (s (a0 + 5) (w32 a1)))], (jup s8 (a0 + 5) (w32 (a1 + 1)) v8)) = some ((w32 (s (a0 + 5) (w32 a1))) = 0, (120, [(15, a0), (0, a1), (0, (s (a0 + 5) (w32 a1)))], [], (jup s8 (a0 + 5) (w32 (a1 + 1)) v8)), (115, [(15, a0), (0, a1), (0, (s (a0 + 5) (w32 a1)))], [], (jup s8 (a0 + 5) (w32 (a1 + 1)) v8))) from rfl) H (fun H => ?_) (fun H => ?_)
            · exact Md_readRest_120_ok  H
            · refine AT.seq [(115, .iload_n 2, 1, (0, 0, 0)), (116, .iconst 4, 1, (0, 0, 0))] (by decide +kernel) (show jrun _ (115, [(15, a0), (0, a1), (0, (s (a0 + 5) (w32 a1)))], [], (jup s8 (a0 + 5) (w32 (a1 + 1)) v8)) = some ([], (117, [(15, a0), (0, a1), (0, (s (a0 + 5) (w32 a1)))], [(0, 4), (0, (s (a0 + 5) (w32 a1)))], (jup s8 (a0 + 5) (w32 (a1 + 1)) v8))) from rfl) ?_
              refine AT.ite (x := (0, 0, 0)) (by decide +kernel) (show jbr (.if_icmp .ne 25) (117, [(15, a0), (0, a1), (0, (s (a0 + 5) (w32 a1)))], [(0, 4), (0, (s (a0 + 5) (w32 a1)))], (jup s8 (a0 + 5) (w32 (a1 + 1)) v8)) = some ((w32 (s (a0 + 5) (w32 a1))) = 4, (120, [(15, a0), (0, a1), (0, (s (a0 + 5) (w32 a1)))], [], (jup s8 (a0 + 5) (w32 (a1 + 1)) v8)), (142, [(15, a0), (0, a1), (0, (s (a0 + 5) (w32 a1)))], [], (jup s8 (a0 + 5) (w32 (a1 + 1)) v8))) from rfl) H (fun H => ?_) (fun H => ?_)
              · exact Md_readRest_120_ok  H
              · exact Md_readRest_142_ok  H
          · exact AT.retvH (by decide +kernel) H
def sMd_readStep : jS := (⟨"JellyCathedralModel", "readStep", "(I)V"⟩, prog_13_method_72_code, 5, 0, [15, 0], 0)
theorem kMd_readStep : jmk sMd_readStep = true := jmk_of 7102 1012 7101 86 (by decide +kernel)
set_option maxRecDepth 100000 in
theorem Md_readStep_170_ok {o : Int × jM} {n0 : Nat} {rec : Int → Int → jM → Option (Int × jM)} (hrec : ∀ (y0 y1 : Int) (s : jM) (o : Int × jM), rec y0 y1 s = some o → MK sMd_readStep (9 + n0) [(15, y0), (0, y1)] s o) {x0 x3 x4 : Int} {s : jM} (H : Md_readStep_170 rec x0 x3 x4 s = some o) : AT sMd_readStep (9 + n0 + 1) (170, [(15, x0), (99, 0), (99, 0), (0, x3), (0, x4)], [], s) o := by
  unfold Md_readStep_170 at H
  refine AT.seq [(170, .iload_n 3, 1, (0, 0, 0))] (by decide +kernel) (show jrun _ (170, [(15, x0), (99, 0), (99, 0), (0, x3), (0, x4)], [], s) = some ([], (171, [(15, x0), (99, 0), (99, 0), (0, x3), (0, x4)], [(0, x3)], s)) from rfl) ?_
  refine AT.ite (x := (0, 0, 0)) (by decide +kernel) (show jbr (.ifCond .eq 21) (171, [(15, x0), (99, 0), (99, 0), (0, x3), (0, x4)], [(0, x3)], s) = some ((w32 x3) = 0, (192, [(15, x0), (99, 0), (99, 0), (0, x3), (0, x4)], [], s), (174, [(15, x0), (99, 0), (99, 0), (0, x3), (0, x4)], [], s)) from rfl) H (fun H => ?_) (fun H => ?_)
  · refine AT.blk (g := (0 ≤ (w32 (x4 + 8)) ∧ (w32 (x4 + 8)) < 1905)) [(192, .aload_n 0, 1, (0, 0, 0)), (193, .getfield 35, 3, (5207, 1120, 0)), (196, .iload 4, 2, (0, 0, 0)), (198, .bipush 8, 2, (0, 0, 0)), (200, .iadd, 1, (0, 0, 0)), (201, .aload_n 0, 1, (0, 0, 0)), (202, .getfield 308, 3, (5213, 1126, 0)), (205, .iastore, 1, (0, 0, 0))] (by decide +kernel) (show jrun _ (192, [(15, x0), (99, 0), (99, 0), (0, x3), (0, x4)], [], s) = some ([(0 ≤ (w32 (x4 + 8)) ∧ (w32 (x4 + 8)) < 1905)], (206, [(15, x0), (99, 0), (99, 0), (0, x3), (0, x4)], [], (jup s (x0 + 5) (w32 (x4 + 8)) (s x0 26)))) from rfl) (fun h => h) H (fun H => ?_)
    exact AT.retvH (by decide +kernel) H
  · refine AT.seq [(174, .aload_n 0, 1, (0, 0, 0)), (175, .aload_n 0, 1, (0, 0, 0))] (by decide +kernel) (show jrun _ (174, [(15, x0), (99, 0), (99, 0), (0, x3), (0, x4)], [], s) = some ([], (176, [(15, x0), (99, 0), (99, 0), (0, x3), (0, x4)], [(15, x0), (15, x0)], s)) from rfl) ?_
    obtain ⟨v1, s1, h1, H⟩ := jb_some H
    refine AT.callV (As := []) (cl := 11) (b := x0) (st := [(15, x0)]) (i := 203) (pos := 7039) kMd_isEnd (by decide +kernel) rfl (by decide +kernel) rfl rfl (by omega) (Md_isEnd_ok h1) ?_
    show AT sMd_readStep (9 + n0 + 1) (179, [(15, x0), (99, 0), (99, 0), (0, x3), (0, x4)], [(0, v1), (15, x0)], s1) o
    obtain ⟨v2, s2, h2, H⟩ := jb_some H
    refine AT.callV (As := [(0, v1)]) (cl := 11) (b := x0) (st := []) (i := 225) (pos := 7054) kMd_must (by decide +kernel) rfl (by decide +kernel) rfl rfl (by omega) (Md_must_ok h2) ?_
    show AT sMd_readStep (9 + n0 + 1) (182, [(15, x0), (99, 0), (99, 0), (0, x3), (0, x4)], [], s2) o
    refine AT.seq [(182, .aload_n 0, 1, (0, 0, 0)), (183, .aload_n 0, 1, (0, 0, 0)), (184, .bipush 59, 2, (0, 0, 0))] (by decide +kernel) (show jrun _ (182, [(15, x0), (99, 0), (99, 0), (0, x3), (0, x4)], [], s2) = some ([], (186, [(15, x0), (99, 0), (99, 0), (0, x3), (0, x4)], [(0, 59), (15, x0), (15, x0)], s2)) from rfl) ?_
    obtain ⟨v3, s3, h3, H⟩ := jb_some H
    refine AT.callV (As := [(0, 59)]) (cl := 11) (b := x0) (st := [(15, x0)]) (i := 296) (pos := 7083) kMd_isSign (by decide +kernel) rfl (by decide +kernel) rfl rfl (by omega) (Md_isSign_ok h3) ?_
    show AT sMd_readStep (9 + n0 + 1) (189, [(15, x0), (99, 0), (99, 0), (0, x3), (0, x4)], [(0, v3), (15, x0)], s3) o
    obtain ⟨v4, s4, h4, H⟩ := jb_some H
    refine AT.callV (As := [(0, v3)]) (cl := 11) (b := x0) (st := []) (i := 225) (pos := 7054) kMd_must (by decide +kernel) rfl (by decide +kernel) rfl rfl (by omega) (Md_must_ok h4) ?_
    show AT sMd_readStep (9 + n0 + 1) (192, [(15, x0), (99, 0), (99, 0), (0, x3), (0, x4)], [], s4) o
    refine AT.blk (g := (0 ≤ (w32 (x4 + 8)) ∧ (w32 (x4 + 8)) < 1905)) [(192, .aload_n 0, 1, (0, 0, 0)), (193, .getfield 35, 3, (5207, 1120, 0)), (196, .iload 4, 2, (0, 0, 0)), (198, .bipush 8, 2, (0, 0, 0)), (200, .iadd, 1, (0, 0, 0)), (201, .aload_n 0, 1, (0, 0, 0)), (202, .getfield 308, 3, (5213, 1126, 0)), (205, .iastore, 1, (0, 0, 0))] (by decide +kernel) (show jrun _ (192, [(15, x0), (99, 0), (99, 0), (0, x3), (0, x4)], [], s4) = some ([(0 ≤ (w32 (x4 + 8)) ∧ (w32 (x4 + 8)) < 1905)], (206, [(15, x0), (99, 0), (99, 0), (0, x3), (0, x4)], [], (jup s4 (x0 + 5) (w32 (x4 + 8)) (s4 x0 26)))) from rfl) (fun h => h) H (fun H => ?_)
    exact AT.retvH (by decide +kernel) H
set_option maxRecDepth 100000 in
theorem Md_readStep_142_ok {o : Int × jM} {n0 : Nat} {rec : Int → Int → jM → Option (Int × jM)} (hrec : ∀ (y0 y1 : Int) (s : jM) (o : Int × jM), rec y0 y1 s = some o → MK sMd_readStep (9 + n0) [(15, y0), (0, y1)] s o) : ∀ (n : Nat) (x0 x1 x3 x4 : Int) (s : jM), Md_readStep_142 rec n x0 x1 x3 x4 s = some o → AT sMd_readStep (9 + n0 + 1) (142, [(15, x0), (0, x1), (99, 0), (0, x3), (0, x4)], [], s) o := by
  intro n
  induction n with
  | zero =>
    intro x0 x1 x3 x4 s H
    have H : (none : Option (Int × jM)) = some o := H
    cases H
  | succ n ih =>
    intro x0 x1 x3 x4 s H
    rw [Md_readStep_142] at H
    refine AT.seq [(142, .iload_n 3, 1, (0, 0, 0))] (by decide +kernel) (show jrun _ (142, [(15, x0), (0, x1), (99, 0), (0, x3), (0, x4)], [], s) = some ([], (143, [(15, x0), (0, x1), (99, 0), (0, x3), (0, x4)], [(0, x3)], s)) from rfl) ?_
    refine AT.ite (x := (0, 0, 0)) (by decide +kernel) (show jbr (.ifCond .eq 27) (143, [(15, x0), (0, x1), (99, 0), (0, x3), (0, x4)], [(0, x3)], s) = some ((w32 x3) = 0, (170, [(15, x0), (0, x1), (99, 0), (0, x3), (0, x4)], [], s), (146, [(15, x0), (0, x1), (99, 0), (0, x3), (0, x4)], [], s)) from rfl) H (fun H => ?_) (fun H => ?_)
    · exact AT.weak (L' := [(15, x0), (99, 0), (99, 0), (0, x3), (0, x4)]) (jleK (jleJ (jleK (jleK (jleK jle0))))) (Md_readStep_170_ok hrec H)
    · refine AT.seq [(146, .aload_n 0, 1, (0, 0, 0)), (147, .getfield 209, 3, (5199, 1112, 0))] (by decide +kernel) (show jrun _ (146, [(15, x0), (0, x1), (99, 0), (0, x3), (0, x4)], [], s) = some ([], (150, [(15, x0), (0, x1), (99, 0), (0, x3), (0, x4)], [(0, (s x0 12))], s)) from rfl) ?_
      refine AT.ite (x := (0, 0, 0)) (by decide +kernel) (show jbr (.ifCond .ne 20) (150, [(15, x0), (0, x1), (99, 0), (0, x3), (0, x4)], [(0, (s x0 12))], s) = some ((w32 (s x0 12)) = 0, (153, [(15, x0), (0, x1), (99, 0), (0, x3), (0, x4)], [], s), (170, [(15, x0), (0, x1), (99, 0), (0, x3), (0, x4)], [], s)) from rfl) H (fun H => ?_) (fun H => ?_)
      · refine AT.seq [(153, .aload_n 0, 1, (0, 0, 0))] (by decide +kernel) (show jrun _ (153, [(15, x0), (0, x1), (99, 0), (0, x3), (0, x4)], [], s) = some ([], (154, [(15, x0), (0, x1), (99, 0), (0, x3), (0, x4)], [(15, x0)], s)) from rfl) ?_
        obtain ⟨v5, s5, h5, H⟩ := jb_some H
        refine AT.callV (As := []) (cl := 11) (b := x0) (st := []) (i := 203) (pos := 7039) kMd_isEnd (by decide +kernel) rfl (by decide +kernel) rfl rfl (by omega) (Md_isEnd_ok h5) ?_
        show AT sMd_readStep (9 + n0 + 1) (157, [(15, x0), (0, x1), (99, 0), (0, x3), (0, x4)], [(0, v5)], s5) o
        refine AT.ite (x := (0, 0, 0)) (by decide +kernel) (show jbr (.ifCond .ne 13) (157, [(15, x0), (0, x1), (99, 0), (0, x3), (0, x4)], [(0, v5)], s5) = some ((w32 v5) = 0, (160, [(15, x0), (0, x1), (99, 0), (0, x3), (0, x4)], [], s5), (170, [(15, x0), (0, x1), (99, 0), (0, x3), (0, x4)], [], s5)) from rfl) H (fun H => ?_) (fun H => ?_)
        · refine AT.seq [(160, .aload_n 0, 1, (0, 0, 0)), (161, .iload_n 1, 1, (0, 0, 0)), (162, .iconst 1, 1, (0, 0, 0)), (163, .iadd, 1, (0, 0, 0))] (by decide +kernel) (show jrun _ (160, [(15, x0), (0, x1), (99, 0), (0, x3), (0, x4)], [], s5) = some ([], (164, [(15, x0), (0, x1), (99, 0), (0, x3), (0, x4)], [(0, (x1 + 1)), (15, x0)], s5)) from rfl) ?_
          obtain ⟨v6, s6, h6, H⟩ := jb_some H
          refine AT.callV (As := [(0, (x1 + 1))]) (cl := 11) (b := x0) (st := []) (i := 314) (pos := 7099) kMd_readStep (by decide +kernel) rfl (by decide +kernel) rfl rfl (by omega) (hrec _ _ _ _ h6) ?_
          show AT sMd_readStep (9 + n0 + 1) (167, [(15, x0), (0, x1), (99, 0), (0, x3), (0, x4)], [], s6) o
          refine AT.seq [(167, .goto (-25), 3, (0, 0, 0))] (by decide +kernel) (show jrun _ (167, [(15, x0), (0, x1), (99, 0), (0, x3), (0, x4)], [], s6) = some ([], (142, [(15, x0), (0, x1), (99, 0), (0, x3), (0, x4)], [], s6)) from rfl) ?_
          exact ih _ _ _ _ _ H
        · exact AT.weak (L' := [(15, x0), (99, 0), (99, 0), (0, x3), (0, x4)]) (jleK (jleJ (jleK (jleK (jleK jle0))))) (Md_readStep_170_ok hrec H)
      · exact AT.weak (L' := [(15, x0), (99, 0), (99, 0), (0, x3), (0, x4)]) (jleK (jleJ (jleK (jleK (jleK jle0))))) (Md_readStep_170_ok hrec H)
set_option maxRecDepth 100000 in
theorem Md_readStep_83_ok {o : Int × jM} {n0 : Nat} {rec : Int → Int → jM → Option (Int × jM)} (hrec : ∀ (y0 y1 : Int) (s : jM) (o : Int × jM), rec y0 y1 s = some o → MK sMd_readStep (9 + n0) [(15, y0), (0, y1)] s o) {x0 x1 x2 x3 : Int} {s : jM} (H : Md_readStep_83 rec x0 x1 x2 x3 s = some o) : AT sMd_readStep (9 + n0 + 1) (83, [(15, x0), (0, x1), (0, x2), (0, x3), (99, 0)], [], s) o := by
  unfold Md_readStep_83 at H
  refine AT.seq [(83, .aload_n 0, 1, (0, 0, 0)), (84, .getfield 209, 3, (5199, 1112, 0))] (by decide +kernel) (show jrun _ (83, [(15, x0), (0, x1), (0, x2), (0, x3), (99, 0)], [], s) = some ([], (87, [(15, x0), (0, x1), (0, x2), (0, x3), (99, 0)], [(0, (s x0 12))], s)) from rfl) ?_
  refine AT.ite (x := (0, 0, 0)) (by decide +kernel) (show jbr (.ifCond .le 4) (87, [(15, x0), (0, x1), (0, x2), (0, x3), (99, 0)], [(0, (s x0 12))], s) = some (0 < (w32 (s x0 12)), (90, [(15, x0), (0, x1), (0, x2), (0, x3), (99, 0)], [], s), (91, [(15, x0), (0, x1), (0, x2), (0, x3), (99, 0)], [], s)) from rfl) H (fun H => ?_) (fun H => ?_)
  · exact AT.retvH (by decide +kernel) H
  · refine AT.seq [(91, .sipush 1635, 3, (0, 0, 0)), (94, .bipush 9, 2, (0, 0, 0)), (96, .aload_n 0, 1, (0, 0, 0)), (97, .getfield 308, 3, (5213, 1126, 0)), (100, .imul, 1, (0, 0, 0)), (101, .iadd, 1, (0, 0, 0)), (102, .istore 4, 2, (0, 0, 0)), (104, .aload_n 0, 1, (0, 0, 0)), (105, .dup, 1, (0, 0, 0)), (106, .getfield 308, 3, (5213, 1126, 0)), (109, .iconst 1, 1, (0, 0, 0)), (110, .iadd, 1, (0, 0, 0)), (111, .putfield 308, 3, (5213, 1126, 0)), (114, .aload_n 0, 1, (0, 0, 0))] (by decide +kernel) (show jrun _ (91, [(15, x0), (0, x1), (0, x2), (0, x3), (99, 0)], [], s) = some ([], (115, [(15, x0), (0, x1), (0, x2), (0, x3), (0, (1635 + (9 * (s x0 26))))], [(15, x0)], (jup s x0 26 ((s x0 26) + 1)))) from rfl) ?_
    obtain ⟨v7, s7, h7, H⟩ := jb_some H
    refine AT.callV (As := []) (cl := 11) (b := x0) (st := []) (i := 219) (pos := 6150) kMd_advance (by decide +kernel) rfl (by decide +kernel) rfl rfl (by omega) (Md_advance_ok h7) ?_
    show AT sMd_readStep (9 + n0 + 1) (118, [(15, x0), (0, x1), (0, x2), (0, x3), (0, (1635 + (9 * (s x0 26))))], [], s7) o
    refine AT.blk (g := (0 ≤ (w32 (1635 + (9 * (s x0 26)))) ∧ (w32 (1635 + (9 * (s x0 26)))) < 1905)) [(118, .aload_n 0, 1, (0, 0, 0)), (119, .getfield 35, 3, (5207, 1120, 0)), (122, .iload 4, 2, (0, 0, 0)), (124, .iload_n 2, 1, (0, 0, 0)), (125, .iastore, 1, (0, 0, 0)), (126, .aload_n 0, 1, (0, 0, 0)), (127, .iload 4, 2, (0, 0, 0))] (by decide +kernel) (show jrun _ (118, [(15, x0), (0, x1), (0, x2), (0, x3), (0, (1635 + (9 * (s x0 26))))], [], s7) = some ([(0 ≤ (w32 (1635 + (9 * (s x0 26)))) ∧ (w32 (1635 + (9 * (s x0 26)))) < 1905)], (129, [(15, x0), (0, x1), (0, x2), (0, x3), (0, (1635 + (9 * (s x0 26))))], [(0, (1635 + (9 * (s x0 26)))), (15, x0)], (jup s7 (x0 + 5) (w32 (1635 + (9 * (s x0 26)))) x2))) from rfl) (fun h => h) H (fun H => ?_)
    obtain ⟨v8, s8, h8, H⟩ := jb_some H
    refine AT.callV (As := [(0, (1635 + (9 * (s x0 26))))]) (cl := 11) (b := x0) (st := []) (i := 311) (pos := 7103) kMd_readRest (by decide +kernel) rfl (by decide +kernel) rfl rfl (by omega) (Md_readRest_ok h8) ?_
    show AT sMd_readStep (9 + n0 + 1) (132, [(15, x0), (0, x1), (0, x2), (0, x3), (0, (1635 + (9 * (s x0 26))))], [], s8) o
    refine AT.seq [(132, .aload_n 0, 1, (0, 0, 0)), (133, .aload_n 0, 1, (0, 0, 0)), (134, .bipush 59, 2, (0, 0, 0))] (by decide +kernel) (show jrun _ (132, [(15, x0), (0, x1), (0, x2), (0, x3), (0, (1635 + (9 * (s x0 26))))], [], s8) = some ([], (136, [(15, x0), (0, x1), (0, x2), (0, x3), (0, (1635 + (9 * (s x0 26))))], [(0, 59), (15, x0), (15, x0)], s8)) from rfl) ?_
    obtain ⟨v9, s9, h9, H⟩ := jb_some H
    refine AT.callV (As := [(0, 59)]) (cl := 11) (b := x0) (st := [(15, x0)]) (i := 296) (pos := 7083) kMd_isSign (by decide +kernel) rfl (by decide +kernel) rfl rfl (by omega) (Md_isSign_ok h9) ?_
    show AT sMd_readStep (9 + n0 + 1) (139, [(15, x0), (0, x1), (0, x2), (0, x3), (0, (1635 + (9 * (s x0 26))))], [(0, v9), (15, x0)], s9) o
    obtain ⟨v10, s10, h10, H⟩ := jb_some H
    refine AT.callV (As := [(0, v9)]) (cl := 11) (b := x0) (st := []) (i := 225) (pos := 7054) kMd_must (by decide +kernel) rfl (by decide +kernel) rfl rfl (by omega) (Md_must_ok h10) ?_
    show AT sMd_readStep (9 + n0 + 1) (142, [(15, x0), (0, x1), (0, x2), (0, x3), (0, (1635 + (9 * (s x0 26))))], [], s10) o
    exact AT.weak (L' := [(15, x0), (0, x1), (99, 0), (0, x3), (0, (1635 + (9 * (s x0 26))))]) (jleK (jleK (jleJ (jleK (jleK jle0))))) (Md_readStep_142_ok hrec jFU _ _ _ _ _ H)
set_option maxRecDepth 100000 in
theorem Md_readStep_57_ok {o : Int × jM} {n0 : Nat} {rec : Int → Int → jM → Option (Int × jM)} (hrec : ∀ (y0 y1 : Int) (s : jM) (o : Int × jM), rec y0 y1 s = some o → MK sMd_readStep (9 + n0) [(15, y0), (0, y1)] s o) {x0 x1 x2 x3 : Int} {s : jM} (H : Md_readStep_57 rec x0 x1 x2 x3 s = some o) : AT sMd_readStep (9 + n0 + 1) (57, [(15, x0), (0, x1), (0, x2), (0, x3), (99, 0)], [], s) o := by
  unfold Md_readStep_57 at H
  refine AT.seq [(57, .aload_n 0, 1, (0, 0, 0)), (58, .getfield 209, 3, (5199, 1112, 0))] (by decide +kernel) (show jrun _ (57, [(15, x0), (0, x1), (0, x2), (0, x3), (99, 0)], [], s) = some ([], (61, [(15, x0), (0, x1), (0, x2), (0, x3), (99, 0)], [(0, (s x0 12))], s)) from rfl) ?_
  refine AT.ite (x := (0, 0, 0)) (by decide +kernel) (show jbr (.ifCond .ne 22) (61, [(15, x0), (0, x1), (0, x2), (0, x3), (99, 0)], [(0, (s x0 12))], s) = some ((w32 (s x0 12)) = 0, (64, [(15, x0), (0, x1), (0, x2), (0, x3), (99, 0)], [], s), (83, [(15, x0), (0, x1), (0, x2), (0, x3), (99, 0)], [], s)) from rfl) H (fun H => ?_) (fun H => ?_)
  · refine AT.seq [(64, .iload_n 3, 1, (0, 0, 0))] (by decide +kernel) (show jrun _ (64, [(15, x0), (0, x1), (0, x2), (0, x3), (99, 0)], [], s) = some ([], (65, [(15, x0), (0, x1), (0, x2), (0, x3), (99, 0)], [(0, x3)], s)) from rfl) ?_
    refine AT.ite (x := (0, 0, 0)) (by decide +kernel) (show jbr (.ifCond .eq 18) (65, [(15, x0), (0, x1), (0, x2), (0, x3), (99, 0)], [(0, x3)], s) = some ((w32 x3) = 0, (83, [(15, x0), (0, x1), (0, x2), (0, x3), (99, 0)], [], s), (68, [(15, x0), (0, x1), (0, x2), (0, x3), (99, 0)], [], s)) from rfl) H (fun H => ?_) (fun H => ?_)
    · exact Md_readStep_83_ok hrec H
    · refine AT.seq [(68, .iload_n 1, 1, (0, 0, 0)), (69, .iconst 3, 1, (0, 0, 0))] (by decide +kernel) (show jrun _ (68, [(15, x0), (0, x1), (0, x2), (0, x3), (99, 0)], [], s) = some ([], (70, [(15, x0), (0, x1), (0, x2), (0, x3), (99, 0)], [(0, 3), (0, x1)], s)) from rfl) ?_
      refine AT.ite (x := (0, 0, 0)) (by decide +kernel) (show jbr (.if_icmp .ne 13) (70, [(15, x0), (0, x1), (0, x2), (0, x3), (99, 0)], [(0, 3), (0, x1)], s) = some ((w32 x1) = 3, (73, [(15, x0), (0, x1), (0, x2), (0, x3), (99, 0)], [], s), (83, [(15, x0), (0, x1), (0, x2), (0, x3), (99, 0)], [], s)) from rfl) H (fun H => ?_) (fun H => ?_)
      · refine AT.seq [(73, .aload_n 0, 1, (0, 0, 0)), (74, .bipush 7, 2, (0, 0, 0)), (76, .aload_n 0, 1, (0, 0, 0)), (77, .getfield 117, 3, (5202, 1115, 0))] (by decide +kernel) (show jrun _ (73, [(15, x0), (0, x1), (0, x2), (0, x3), (99, 0)], [], s) = some ([], (80, [(15, x0), (0, x1), (0, x2), (0, x3), (99, 0)], [(0, (s x0 15)), (0, 7), (15, x0)], s)) from rfl) ?_
        obtain ⟨v11, s11, h11, H⟩ := jb_some H
        refine AT.callV (As := [(0, 7), (0, (s x0 15))]) (cl := 11) (b := x0) (st := []) (i := 215) (pos := 6192) kMd_fail (by decide +kernel) rfl (by decide +kernel) rfl rfl (by omega) (Md_fail_ok h11) ?_
        show AT sMd_readStep (9 + n0 + 1) (83, [(15, x0), (0, x1), (0, x2), (0, x3), (99, 0)], [], s11) o
        exact Md_readStep_83_ok hrec H
      · exact Md_readStep_83_ok hrec H
  · exact Md_readStep_83_ok hrec H
set_option maxRecDepth 100000 in
theorem Md_readStep_31_ok {o : Int × jM} {n0 : Nat} {rec : Int → Int → jM → Option (Int × jM)} (hrec : ∀ (y0 y1 : Int) (s : jM) (o : Int × jM), rec y0 y1 s = some o → MK sMd_readStep (9 + n0) [(15, y0), (0, y1)] s o) {x0 x1 x2 x3 : Int} {s : jM} (H : Md_readStep_31 rec x0 x1 x2 x3 s = some o) : AT sMd_readStep (9 + n0 + 1) (31, [(15, x0), (0, x1), (0, x2), (0, x3), (99, 0)], [], s) o := by
  unfold Md_readStep_31 at H
  refine AT.seq [(31, .aload_n 0, 1, (0, 0, 0)), (32, .getfield 209, 3, (5199, 1112, 0))] (by decide +kernel) (show jrun _ (31, [(15, x0), (0, x1), (0, x2), (0, x3), (99, 0)], [], s) = some ([], (35, [(15, x0), (0, x1), (0, x2), (0, x3), (99, 0)], [(0, (s x0 12))], s)) from rfl) ?_
  refine AT.ite (x := (0, 0, 0)) (by decide +kernel) (show jbr (.ifCond .ne 22) (35, [(15, x0), (0, x1), (0, x2), (0, x3), (99, 0)], [(0, (s x0 12))], s) = some ((w32 (s x0 12)) = 0, (38, [(15, x0), (0, x1), (0, x2), (0, x3), (99, 0)], [], s), (57, [(15, x0), (0, x1), (0, x2), (0, x3), (99, 0)], [], s)) from rfl) H (fun H => ?_) (fun H => ?_)
  · refine AT.seq [(38, .aload_n 0, 1, (0, 0, 0)), (39, .getfield 308, 3, (5213, 1126, 0)), (42, .bipush 30, 2, (0, 0, 0))] (by decide +kernel) (show jrun _ (38, [(15, x0), (0, x1), (0, x2), (0, x3), (99, 0)], [], s) = some ([], (44, [(15, x0), (0, x1), (0, x2), (0, x3), (99, 0)], [(0, 30), (0, (s x0 26))], s)) from rfl) ?_
    refine AT.ite (x := (0, 0, 0)) (by decide +kernel) (show jbr (.if_icmp .ne 13) (44, [(15, x0), (0, x1), (0, x2), (0, x3), (99, 0)], [(0, 30), (0, (s x0 26))], s) = some ((w32 (s x0 26)) = 30, (47, [(15, x0), (0, x1), (0, x2), (0, x3), (99, 0)], [], s), (57, [(15, x0), (0, x1), (0, x2), (0, x3), (99, 0)], [], s)) from rfl) H (fun H => ?_) (fun H => ?_)
    · refine AT.seq [(47, .aload_n 0, 1, (0, 0, 0)), (48, .bipush 6, 2, (0, 0, 0)), (50, .aload_n 0, 1, (0, 0, 0)), (51, .getfield 117, 3, (5202, 1115, 0))] (by decide +kernel) (show jrun _ (47, [(15, x0), (0, x1), (0, x2), (0, x3), (99, 0)], [], s) = some ([], (54, [(15, x0), (0, x1), (0, x2), (0, x3), (99, 0)], [(0, (s x0 15)), (0, 6), (15, x0)], s)) from rfl) ?_
      obtain ⟨v12, s12, h12, H⟩ := jb_some H
      refine AT.callV (As := [(0, 6), (0, (s x0 15))]) (cl := 11) (b := x0) (st := []) (i := 215) (pos := 6192) kMd_fail (by decide +kernel) rfl (by decide +kernel) rfl rfl (by omega) (Md_fail_ok h12) ?_
      show AT sMd_readStep (9 + n0 + 1) (57, [(15, x0), (0, x1), (0, x2), (0, x3), (99, 0)], [], s12) o
      exact Md_readStep_57_ok hrec H
    · exact Md_readStep_57_ok hrec H
  · exact Md_readStep_57_ok hrec H
set_option maxRecDepth 100000 in
theorem Md_readStep_b_ok {n0 : Nat} {rec : Int → Int → jM → Option (Int × jM)} (hrec : ∀ (y0 y1 : Int) (s : jM) (o : Int × jM), rec y0 y1 s = some o → MK sMd_readStep (9 + n0) [(15, y0), (0, y1)] s o) {a0 a1 : Int} {s : jM} {o : Int × jM} (H : Md_readStep_b rec a0 a1 s = some o) : MK sMd_readStep (9 + n0 + 1) [(15, a0), (0, a1)] s o := by
  refine MK.of kMd_readStep rfl ?_
  show AT sMd_readStep (9 + n0 + 1) (0, [(15, a0), (0, a1), (99, 0), (99, 0), (99, 0)], [], s) o
  unfold Md_readStep_b at H
  refine AT.seq [(0, .aload_n 0, 1, (0, 0, 0))] (by decide +kernel) (show jrun _ (0, [(15, a0), (0, a1), (99, 0), (99, 0), (99, 0)], [], s) = some ([], (1, [(15, a0), (0, a1), (99, 0), (99, 0), (99, 0)], [(15, a0)], s)) from rfl) ?_
  obtain ⟨v13, s13, h13, H⟩ := jb_some H
  refine AT.callV (As := []) (cl := 11) (b := a0) (st := []) (i := 196) (pos := 7027) kMd_stepWord (by decide +kernel) rfl (by decide +kernel) rfl rfl (by omega) (Md_stepWord_ok h13) ?_
  show AT sMd_readStep (9 + n0 + 1) (4, [(15, a0), (0, a1), (99, 0), (99, 0), (99, 0)], [(0, v13)], s13) o
  refine AT.seq [(4, .istore_n 2, 1, (0, 0, 0)), (5, .iload_n 2, 1, (0, 0, 0)), (6, .bipush 8, 2, (0, 0, 0))] (by decide +kernel) (show jrun _ (4, [(15, a0), (0, a1), (99, 0), (99, 0), (99, 0)], [(0, v13)], s13) = some ([], (8, [(15, a0), (0, a1), (0, v13), (99, 0), (99, 0)], [(0, 8), (0, v13)], s13)) from rfl) ?_
  refine AT.ite (x := (0, 0, 0)) (by decide +kernel) (show jbr (.if_icmp .eq 9) (8, [(15, a0), (0, a1), (0, v13), (99, 0), (99, 0)], [(0, 8), (0, v13)], s13) = some ((w32 v13) = 8, (17, [(15, a0), (0, a1), (0, v13), (99, 0), (99, 0)], [], s13), (11, [(15, a0), (0, a1), (0, v13), (99, 0), (99, 0)], [], s13)) from rfl) H (fun H => ?_) (fun H => ?_)
  · refine AT.seq [(17, .iconst 1, 1, (0, 0, 0)), (18, .goto 4, 3, (0, 0, 0)), (22, .istore_n 3, 1, (0, 0, 0)), (23, .iload_n 2, 1, (0, 0, 0))] (by decide +kernel) (show jrun _ (17, [(15, a0), (0, a1), (0, v13), (99, 0), (99, 0)], [], s13) = some ([], (24, [(15, a0), (0, a1), (0, v13), (0, 1), (99, 0)], [(0, v13)], s13)) from rfl) ?_
    refine AT.ite (x := (0, 0, 0)) (by decide +kernel) (show jbr (.ifCond .ge 7) (24, [(15, a0), (0, a1), (0, v13), (0, 1), (99, 0)], [(0, v13)], s13) = some ((w32 v13) < 0, (27, [(15, a0), (0, a1), (0, v13), (0, 1), (99, 0)], [], s13), (31, [(15, a0), (0, a1), (0, v13), (0, 1), (99, 0)], [], s13)) from rfl) H (fun H => ?_) (fun H => ?_)
    · refine AT.seq [(27, .aload_n 0, 1, (0, 0, 0))] (by decide +kernel) (show jrun _ (27, [(15, a0), (0, a1), (0, v13), (0, 1), (99, 0)], [], s13) = some ([], (28, [(15, a0), (0, a1), (0, v13), (0, 1), (99, 0)], [(15, a0)], s13)) from rfl) ?_
      obtain ⟨v14, s14, h14, H⟩ := jb_some H
      refine AT.callV (As := []) (cl := 11) (b := a0) (st := []) (i := 222) (pos := 6200) kMd_amiss (by decide +kernel) rfl (by decide +kernel) rfl rfl (by omega) (Md_amiss_ok h14) ?_
      show AT sMd_readStep (9 + n0 + 1) (31, [(15, a0), (0, a1), (0, v13), (0, 1), (99, 0)], [], s14) o
      exact Md_readStep_31_ok hrec H
    · exact Md_readStep_31_ok hrec H
  · refine AT.seq [(11, .iload_n 2, 1, (0, 0, 0)), (12, .bipush 9, 2, (0, 0, 0))] (by decide +kernel) (show jrun _ (11, [(15, a0), (0, a1), (0, v13), (99, 0), (99, 0)], [], s13) = some ([], (14, [(15, a0), (0, a1), (0, v13), (99, 0), (99, 0)], [(0, 9), (0, v13)], s13)) from rfl) ?_
    refine AT.ite (x := (0, 0, 0)) (by decide +kernel) (show jbr (.if_icmp .ne 7) (14, [(15, a0), (0, a1), (0, v13), (99, 0), (99, 0)], [(0, 9), (0, v13)], s13) = some ((w32 v13) = 9, (17, [(15, a0), (0, a1), (0, v13), (99, 0), (99, 0)], [], s13), (21, [(15, a0), (0, a1), (0, v13), (99, 0), (99, 0)], [], s13)) from rfl) H (fun H => ?_) (fun H => ?_)
    · refine AT.seq [(17, .iconst 1, 1, (0, 0, 0)), (18, .goto 4, 3, (0, 0, 0)), (22, .istore_n 3, 1, (0, 0, 0)), (23, .iload_n 2, 1, (0, 0, 0))] (by decide +kernel) (show jrun _ (17, [(15, a0), (0, a1), (0, v13), (99, 0), (99, 0)], [], s13) = some ([], (24, [(15, a0), (0, a1), (0, v13), (0, 1), (99, 0)], [(0, v13)], s13)) from rfl) ?_
      refine AT.ite (x := (0, 0, 0)) (by decide +kernel) (show jbr (.ifCond .ge 7) (24, [(15, a0), (0, a1), (0, v13), (0, 1), (99, 0)], [(0, v13)], s13) = some ((w32 v13) < 0, (27, [(15, a0), (0, a1), (0, v13), (0, 1), (99, 0)], [], s13), (31, [(15, a0), (0, a1), (0, v13), (0, 1), (99, 0)], [], s13)) from rfl) H (fun H => ?_) (fun H => ?_)
      · refine AT.seq [(27, .aload_n 0, 1, (0, 0, 0))] (by decide +kernel) (show jrun _ (27, [(15, a0), (0, a1), (0, v13), (0, 1), (99, 0)], [], s13) = some ([], (28, [(15, a0), (0, a1), (0, v13), (0, 1), (99, 0)], [(15, a0)], s13)) from rfl) ?_
        obtain ⟨v15, s15, h15, H⟩ := jb_some H
        refine AT.callV (As := []) (cl := 11) (b := a0) (st := []) (i := 222) (pos := 6200) kMd_amiss (by decide +kernel) rfl (by decide +kernel) rfl rfl (by omega) (Md_amiss_ok h15) ?_
        show AT sMd_readStep (9 + n0 + 1) (31, [(15, a0), (0, a1), (0, v13), (0, 1), (99, 0)], [], s15) o
        exact Md_readStep_31_ok hrec H
      · exact Md_readStep_31_ok hrec H
    · refine AT.seq [(21, .iconst 0, 1, (0, 0, 0)), (22, .istore_n 3, 1, (0, 0, 0)), (23, .iload_n 2, 1, (0, 0, 0))] (by decide +kernel) (show jrun _ (21, [(15, a0), (0, a1), (0, v13), (99, 0), (99, 0)], [], s13) = some ([], (24, [(15, a0), (0, a1), (0, v13), (0, 0), (99, 0)], [(0, v13)], s13)) from rfl) ?_
      refine AT.ite (x := (0, 0, 0)) (by decide +kernel) (show jbr (.ifCond .ge 7) (24, [(15, a0), (0, a1), (0, v13), (0, 0), (99, 0)], [(0, v13)], s13) = some ((w32 v13) < 0, (27, [(15, a0), (0, a1), (0, v13), (0, 0), (99, 0)], [], s13), (31, [(15, a0), (0, a1), (0, v13), (0, 0), (99, 0)], [], s13)) from rfl) H (fun H => ?_) (fun H => ?_)
      · refine AT.seq [(27, .aload_n 0, 1, (0, 0, 0))] (by decide +kernel) (show jrun _ (27, [(15, a0), (0, a1), (0, v13), (0, 0), (99, 0)], [], s13) = some ([], (28, [(15, a0), (0, a1), (0, v13), (0, 0), (99, 0)], [(15, a0)], s13)) from rfl) ?_
        obtain ⟨v16, s16, h16, H⟩ := jb_some H
        refine AT.callV (As := []) (cl := 11) (b := a0) (st := []) (i := 222) (pos := 6200) kMd_amiss (by decide +kernel) rfl (by decide +kernel) rfl rfl (by omega) (Md_amiss_ok h16) ?_
        show AT sMd_readStep (9 + n0 + 1) (31, [(15, a0), (0, a1), (0, v13), (0, 0), (99, 0)], [], s16) o
        exact Md_readStep_31_ok hrec H
      · exact Md_readStep_31_ok hrec H
set_option maxRecDepth 100000 in
theorem Md_readStep_ok : ∀ (n : Nat) (a0 a1 : Int) (s : jM) (o : Int × jM), Md_readStep n a0 a1 s = some o → MK sMd_readStep (9 + n) [(15, a0), (0, a1)] s o := by
  intro n
  induction n with
  | zero =>
    intro a0 a1 s o H
    have H : (none : Option (Int × jM)) = some o := H
    cases H
  | succ n ih =>
    intro a0 a1 s o H
    exact Md_readStep_b_ok (n0 := n) ih H
def sMd_feasts : jS := (⟨"JellyCathedralModel", "feasts", "(I)I"⟩, prog_13_method_73_code, 3, 1, [15, 0], 0)
theorem kMd_feasts : jmk sMd_feasts = true := jmk_of 7098 1012 7096 7097 (by decide +kernel)
set_option maxRecDepth 100000 in
theorem Md_feasts_80_ok {o : Int × jM} : ∀ (n : Nat) (x0 x2 : Int) (s : jM), Md_feasts_80  n x0 x2 s = some o → AT sMd_feasts 22 (80, [(15, x0), (99, 0), (0, x2)], [], s) o := by
  intro n
  induction n with
  | zero =>
    intro x0 x2 s H
    have H : (none : Option (Int × jM)) = some o := H
    cases H
  | succ n ih =>
    intro x0 x2 s H
    rw [Md_feasts_80] at H
    refine AT.seq [(80, .iload_n 2, 1, (0, 0, 0)), (81, .bipush 9, 2, (0, 0, 0)), (83, .aload_n 0, 1, (0, 0, 0)), (84, .getfield 308, 3, (5213, 1126, 0)), (87, .imul, 1, (0, 0, 0))] (by decide +kernel) (show jrun _ (80, [(15, x0), (99, 0), (0, x2)], [], s) = some ([], (88, [(15, x0), (99, 0), (0, x2)], [(0, (9 * (s x0 26))), (0, x2)], s)) from rfl) ?_
    refine AT.ite (x := (0, 0, 0)) (by decide +kernel) (show jbr (.if_icmp .ge 28) (88, [(15, x0), (99, 0), (0, x2)], [(0, (9 * (s x0 26))), (0, x2)], s) = some ((w32 x2) < (w32 (9 * (s x0 26))), (91, [(15, x0), (99, 0), (0, x2)], [], s), (116, [(15, x0), (99, 0), (0, x2)], [], s)) from rfl) H (fun H => ?_) (fun H => ?_)
    · refine AT.blk (g := (0 ≤ (w32 (1635 + x2)) ∧ (w32 (1635 + x2)) < 1905) ∧ (0 ≤ (w32 (111 + x2)) ∧ (w32 (111 + x2)) < 1905)) [(91, .aload_n 0, 1, (0, 0, 0)), (92, .getfield 35, 3, (5207, 1120, 0)), (95, .bipush 111, 2, (0, 0, 0)), (97, .iload_n 2, 1, (0, 0, 0)), (98, .iadd, 1, (0, 0, 0)), (99, .aload_n 0, 1, (0, 0, 0)), (100, .getfield 35, 3, (5207, 1120, 0)), (103, .sipush 1635, 3, (0, 0, 0)), (106, .iload_n 2, 1, (0, 0, 0)), (107, .iadd, 1, (0, 0, 0)), (108, .iaload, 1, (0, 0, 0)), (109, .iastore, 1, (0, 0, 0)), (110, .iinc 2 1, 3, (0, 0, 0)), (113, .goto (-33), 3, (0, 0, 0))] (by decide +kernel) (show jrun _ (91, [(15, x0), (99, 0), (0, x2)], [], s) = some ([(0 ≤ (w32 (1635 + x2)) ∧ (w32 (1635 + x2)) < 1905), (0 ≤ (w32 (111 + x2)) ∧ (w32 (111 + x2)) < 1905)], (80, [(15, x0), (99, 0), (0, (x2 + 1))], [], (jup s (x0 + 5) (w32 (111 + x2)) (s (x0 + 5) (w32 (1635 + x2)))))) from rfl) (fun h => ⟨h.1, h.2⟩) H (fun H => ?_)
      exact ih _ _ _ H
    · refine AT.seq [(116, .aload_n 0, 1, (0, 0, 0)), (117, .getfield 308, 3, (5213, 1126, 0))] (by decide +kernel) (show jrun _ (116, [(15, x0), (99, 0), (0, x2)], [], s) = some ([], (120, [(15, x0), (99, 0), (0, x2)], [(0, (s x0 26))], s)) from rfl) ?_
      exact AT.retiH (by decide +kernel) H
set_option maxRecDepth 100000 in
theorem Md_feasts_50_ok {o : Int × jM} {x0 : Int} {s : jM} (H : Md_feasts_50  x0 s = some o) : AT sMd_feasts 22 (50, [(15, x0), (99, 0), (99, 0)], [], s) o := by
  unfold Md_feasts_50 at H
  refine AT.seq [(50, .aload_n 0, 1, (0, 0, 0))] (by decide +kernel) (show jrun _ (50, [(15, x0), (99, 0), (99, 0)], [], s) = some ([], (51, [(15, x0), (99, 0), (99, 0)], [(15, x0)], s)) from rfl) ?_
  obtain ⟨v1, s1, h1, H⟩ := jb_some H
  refine AT.callV (As := []) (cl := 11) (b := x0) (st := []) (i := 299) (pos := 7087) kMd_isWell (by decide +kernel) rfl (by decide +kernel) rfl rfl (by omega) (Md_isWell_ok h1) ?_
  show AT sMd_feasts 22 (54, [(15, x0), (99, 0), (99, 0)], [(0, v1)], s1) o
  refine AT.ite (x := (0, 0, 0)) (by decide +kernel) (show jbr (.ifCond .ne 5) (54, [(15, x0), (99, 0), (99, 0)], [(0, v1)], s1) = some ((w32 v1) = 0, (57, [(15, x0), (99, 0), (99, 0)], [], s1), (59, [(15, x0), (99, 0), (99, 0)], [], s1)) from rfl) H (fun H => ?_) (fun H => ?_)
  · refine AT.seq [(57, .iconst (-1), 1, (0, 0, 0))] (by decide +kernel) (show jrun _ (57, [(15, x0), (99, 0), (99, 0)], [], s1) = some ([], (58, [(15, x0), (99, 0), (99, 0)], [(0, (-1))], s1)) from rfl) ?_
    exact AT.retiH (by decide +kernel) H
  · refine AT.row [(59, .aload_n 0, 1, (0, 0, 0)), (60, .getfield 35, 3, (5207, 1120, 0)), (63, .bipush 109, 2, (0, 0, 0)), (65, .iconst 1, 1, (0, 0, 0)), (66, .iastore, 1, (0, 0, 0)), (67, .aload_n 0, 1, (0, 0, 0)), (68, .getfield 35, 3, (5207, 1120, 0)), (71, .bipush 110, 2, (0, 0, 0)), (73, .aload_n 0, 1, (0, 0, 0)), (74, .getfield 308, 3, (5213, 1126, 0)), (77, .iastore, 1, (0, 0, 0)), (78, .iconst 0, 1, (0, 0, 0)), (79, .istore_n 2, 1, (0, 0, 0))] (by decide +kernel) (show jrun _ (59, [(15, x0), (99, 0), (99, 0)], [], s1) = some ([(0 ≤ (109 : Int) ∧ (109 : Int) < 1905), (0 ≤ (110 : Int) ∧ (110 : Int) < 1905)], (80, [(15, x0), (99, 0), (0, 0)], [], (jup (jup s1 (x0 + 5) 109 1) (x0 + 5) 110 ((jup s1 (x0 + 5) 109 1) x0 26)))) from rfl) (show (0 ≤ (109 : Int) ∧ (109 : Int) < 1905) ∧ (0 ≤ (110 : Int) ∧ (110 : Int) < 1905) from by decide) ?_
    exact Md_feasts_80_ok  jFU _ _ _ H
set_option maxRecDepth 100000 in
theorem Md_feasts_28_ok {o : Int × jM} : ∀ (n : Nat) (x0 : Int) (s : jM), Md_feasts_28  n x0 s = some o → AT sMd_feasts 22 (28, [(15, x0), (99, 0), (99, 0)], [], s) o := by
  intro n
  induction n with
  | zero =>
    intro x0 s H
    have H : (none : Option (Int × jM)) = some o := H
    cases H
  | succ n ih =>
    intro x0 s H
    rw [Md_feasts_28] at H
    refine AT.seq [(28, .aload_n 0, 1, (0, 0, 0)), (29, .getfield 209, 3, (5199, 1112, 0))] (by decide +kernel) (show jrun _ (28, [(15, x0), (99, 0), (99, 0)], [], s) = some ([], (32, [(15, x0), (99, 0), (99, 0)], [(0, (s x0 12))], s)) from rfl) ?_
    refine AT.ite (x := (0, 0, 0)) (by decide +kernel) (show jbr (.ifCond .ne 18) (32, [(15, x0), (99, 0), (99, 0)], [(0, (s x0 12))], s) = some ((w32 (s x0 12)) = 0, (35, [(15, x0), (99, 0), (99, 0)], [], s), (50, [(15, x0), (99, 0), (99, 0)], [], s)) from rfl) H (fun H => ?_) (fun H => ?_)
    · refine AT.seq [(35, .aload_n 0, 1, (0, 0, 0)), (36, .getfield 123, 3, (5201, 1114, 0))] (by decide +kernel) (show jrun _ (35, [(15, x0), (99, 0), (99, 0)], [], s) = some ([], (39, [(15, x0), (99, 0), (99, 0)], [(0, (s x0 14))], s)) from rfl) ?_
      refine AT.ite (x := (0, 0, 0)) (by decide +kernel) (show jbr (.ifCond .eq 11) (39, [(15, x0), (99, 0), (99, 0)], [(0, (s x0 14))], s) = some ((w32 (s x0 14)) = 0, (50, [(15, x0), (99, 0), (99, 0)], [], s), (42, [(15, x0), (99, 0), (99, 0)], [], s)) from rfl) H (fun H => ?_) (fun H => ?_)
      · exact Md_feasts_50_ok  H
      · refine AT.seq [(42, .aload_n 0, 1, (0, 0, 0)), (43, .iconst 0, 1, (0, 0, 0))] (by decide +kernel) (show jrun _ (42, [(15, x0), (99, 0), (99, 0)], [], s) = some ([], (44, [(15, x0), (99, 0), (99, 0)], [(0, 0), (15, x0)], s)) from rfl) ?_
        obtain ⟨v2, s2, h2, H⟩ := jb_some H
        refine AT.callV (As := [(0, 0)]) (cl := 11) (b := x0) (st := []) (i := 314) (pos := 7099) kMd_readStep (by decide +kernel) rfl (by decide +kernel) rfl rfl (by omega) (Md_readStep_ok 12 _ _ _ _ h2) ?_
        show AT sMd_feasts 22 (47, [(15, x0), (99, 0), (99, 0)], [], s2) o
        refine AT.seq [(47, .goto (-19), 3, (0, 0, 0))] (by decide +kernel) (show jrun _ (47, [(15, x0), (99, 0), (99, 0)], [], s2) = some ([], (28, [(15, x0), (99, 0), (99, 0)], [], s2)) from rfl) ?_
        exact ih _ _ H
    · exact Md_feasts_50_ok  H
set_option maxRecDepth 100000 in
theorem Md_feasts_ok {a0 a1 : Int} {s : jM} {o : Int × jM} (H : Md_feasts a0 a1 s = some o) : MK sMd_feasts 22 [(15, a0), (0, a1)] s o := by
  refine MK.of kMd_feasts rfl ?_
  show AT sMd_feasts 22 (0, [(15, a0), (0, a1), (99, 0)], [], s) o
  unfold Md_feasts at H
  refine AT.seq [(0, .aload_n 0, 1, (0, 0, 0)), (1, .iconst 0, 1, (0, 0, 0)), (2, .putfield 72, 3, (5188, 1101, 0)), (5, .aload_n 0, 1, (0, 0, 0)), (6, .iconst 0, 1, (0, 0, 0)), (7, .putfield 75, 3, (5187, 1100, 0)), (10, .aload_n 0, 1, (0, 0, 0)), (11, .iload_n 1, 1, (0, 0, 0)), (12, .sipush 300, 3, (0, 0, 0))] (by decide +kernel) (show jrun _ (0, [(15, a0), (0, a1), (99, 0)], [], s) = some ([], (15, [(15, a0), (0, a1), (99, 0)], [(0, 300), (0, a1), (15, a0)], (jup (jup s a0 1 0) a0 0 0))) from rfl) ?_
  obtain ⟨v3, s3, h3, H⟩ := jb_some H
  refine AT.callV (As := [(0, a1), (0, 300)]) (cl := 11) (b := a0) (st := []) (i := 290) (pos := 6146) kMd_starts (by decide +kernel) rfl (by decide +kernel) rfl rfl (by omega) (Md_starts_ok h3) ?_
  show AT sMd_feasts 22 (18, [(15, a0), (0, a1), (99, 0)], [(0, v3)], s3) o
  refine AT.ite (x := (0, 0, 0)) (by decide +kernel) (show jbr (.ifCond .ne 5) (18, [(15, a0), (0, a1), (99, 0)], [(0, v3)], s3) = some ((w32 v3) = 0, (21, [(15, a0), (0, a1), (99, 0)], [], s3), (23, [(15, a0), (0, a1), (99, 0)], [], s3)) from rfl) H (fun H => ?_) (fun H => ?_)
  · refine AT.seq [(21, .iconst (-1), 1, (0, 0, 0))] (by decide +kernel) (show jrun _ (21, [(15, a0), (0, a1), (99, 0)], [], s3) = some ([], (22, [(15, a0), (0, a1), (99, 0)], [(0, (-1))], s3)) from rfl) ?_
    exact AT.retiH (by decide +kernel) H
  · refine AT.seq [(23, .aload_n 0, 1, (0, 0, 0)), (24, .iconst 0, 1, (0, 0, 0)), (25, .putfield 308, 3, (5213, 1126, 0))] (by decide +kernel) (show jrun _ (23, [(15, a0), (0, a1), (99, 0)], [], s3) = some ([], (28, [(15, a0), (0, a1), (99, 0)], [], (jup s3 a0 26 0))) from rfl) ?_
    exact AT.weak (L' := [(15, a0), (99, 0), (99, 0)]) (jleK (jleJ (jleK jle0))) (Md_feasts_28_ok  jFU _ _ H)
def sMd_isStuffAt : jS := (⟨"JellyCathedralModel", "isStuffAt", "(I)Z"⟩, prog_13_method_74_code, 2, 3, [15, 0], 0)
theorem kMd_isStuffAt : jmk sMd_isStuffAt = true := jmk_of 7131 1012 7130 91 (by decide +kernel)
set_option maxRecDepth 100000 in
theorem Md_isStuffAt_ok {a0 a1 : Int} {s : jM} {o : Int × jM} (H : Md_isStuffAt a0 a1 s = some o) : MK sMd_isStuffAt 1 [(15, a0), (0, a1)] s o := by
  refine MK.of kMd_isStuffAt rfl ?_
  show AT sMd_isStuffAt 1 (0, [(15, a0), (0, a1)], [], s) o
  unfold Md_isStuffAt at H
  refine AT.row [(0, .iload_n 1, 1, (0, 0, 0)), (1, .i2l, 1, (0, 0, 0)), (2, .lconst 0, 1, (0, 0, 0)), (3, .aload_n 0, 1, (0, 0, 0)), (4, .getfield 35, 3, (5207, 1120, 0)), (7, .iconst 0, 1, (0, 0, 0)), (8, .iaload, 1, (0, 0, 0)), (9, .iconst 1, 1, (0, 0, 0)), (10, .isub, 1, (0, 0, 0)), (11, .i2l, 1, (0, 0, 0))] (by decide +kernel) (show jrun _ (0, [(15, a0), (0, a1)], [], s) = some ([(0 ≤ (0 : Int) ∧ (0 : Int) < 1905)], (12, [(15, a0), (0, a1)], [(1, (w32 ((s (a0 + 5) 0) - 1))), (1, 0), (1, (w32 a1))], s)) from rfl) (show (0 ≤ (0 : Int) ∧ (0 : Int) < 1905) from by decide) ?_
  obtain ⟨v1, s1, h1, H⟩ := jb_some H
  refine AT.callS (As := [(1, (w32 a1)), (1, 0), (1, (w32 ((s (a0 + 5) 0) - 1)))]) (st := []) (i := 107) (pos := 6204) kMd_isIn (by decide +kernel) rfl rfl rfl (by omega) (Md_isIn_ok h1) ?_
  show AT sMd_isStuffAt 1 (15, [(15, a0), (0, a1)], [(0, v1)], s1) o
  exact AT.retzH (by decide +kernel) H
def sMd_isPlaceAt : jS := (⟨"JellyCathedralModel", "isPlaceAt", "(I)Z"⟩, prog_13_method_75_code, 2, 3, [15, 0], 0)
theorem kMd_isPlaceAt : jmk sMd_isPlaceAt = true := jmk_of 7220 1012 7219 104 (by decide +kernel)
set_option maxRecDepth 100000 in
theorem Md_isPlaceAt_ok {a0 a1 : Int} {s : jM} {o : Int × jM} (H : Md_isPlaceAt a0 a1 s = some o) : MK sMd_isPlaceAt 1 [(15, a0), (0, a1)] s o := by
  refine MK.of kMd_isPlaceAt rfl ?_
  show AT sMd_isPlaceAt 1 (0, [(15, a0), (0, a1)], [], s) o
  unfold Md_isPlaceAt at H
  refine AT.row [(0, .iload_n 1, 1, (0, 0, 0)), (1, .i2l, 1, (0, 0, 0)), (2, .lconst 0, 1, (0, 0, 0)), (3, .aload_n 0, 1, (0, 0, 0)), (4, .getfield 35, 3, (5207, 1120, 0)), (7, .iconst 1, 1, (0, 0, 0)), (8, .iaload, 1, (0, 0, 0)), (9, .iconst 1, 1, (0, 0, 0)), (10, .isub, 1, (0, 0, 0)), (11, .i2l, 1, (0, 0, 0))] (by decide +kernel) (show jrun _ (0, [(15, a0), (0, a1)], [], s) = some ([(0 ≤ (1 : Int) ∧ (1 : Int) < 1905)], (12, [(15, a0), (0, a1)], [(1, (w32 ((s (a0 + 5) 1) - 1))), (1, 0), (1, (w32 a1))], s)) from rfl) (show (0 ≤ (1 : Int) ∧ (1 : Int) < 1905) from by decide) ?_
  obtain ⟨v1, s1, h1, H⟩ := jb_some H
  refine AT.callS (As := [(1, (w32 a1)), (1, 0), (1, (w32 ((s (a0 + 5) 1) - 1)))]) (st := []) (i := 107) (pos := 6204) kMd_isIn (by decide +kernel) rfl rfl rfl (by omega) (Md_isIn_ok h1) ?_
  show AT sMd_isPlaceAt 1 (15, [(15, a0), (0, a1)], [(0, v1)], s1) o
  exact AT.retzH (by decide +kernel) H
def sMd_isMouldAt : jS := (⟨"JellyCathedralModel", "isMouldAt", "(I)Z"⟩, prog_13_method_76_code, 2, 3, [15, 0], 0)
theorem kMd_isMouldAt : jmk sMd_isMouldAt = true := jmk_of 7140 1012 7139 92 (by decide +kernel)
set_option maxRecDepth 100000 in
theorem Md_isMouldAt_ok {a0 a1 : Int} {s : jM} {o : Int × jM} (H : Md_isMouldAt a0 a1 s = some o) : MK sMd_isMouldAt 1 [(15, a0), (0, a1)] s o := by
  refine MK.of kMd_isMouldAt rfl ?_
  show AT sMd_isMouldAt 1 (0, [(15, a0), (0, a1)], [], s) o
  unfold Md_isMouldAt at H
  refine AT.row [(0, .iload_n 1, 1, (0, 0, 0)), (1, .i2l, 1, (0, 0, 0)), (2, .lconst 0, 1, (0, 0, 0)), (3, .aload_n 0, 1, (0, 0, 0)), (4, .getfield 35, 3, (5207, 1120, 0)), (7, .iconst 2, 1, (0, 0, 0)), (8, .iaload, 1, (0, 0, 0)), (9, .iconst 1, 1, (0, 0, 0)), (10, .isub, 1, (0, 0, 0)), (11, .i2l, 1, (0, 0, 0))] (by decide +kernel) (show jrun _ (0, [(15, a0), (0, a1)], [], s) = some ([(0 ≤ (2 : Int) ∧ (2 : Int) < 1905)], (12, [(15, a0), (0, a1)], [(1, (w32 ((s (a0 + 5) 2) - 1))), (1, 0), (1, (w32 a1))], s)) from rfl) (show (0 ≤ (2 : Int) ∧ (2 : Int) < 1905) from by decide) ?_
  obtain ⟨v1, s1, h1, H⟩ := jb_some H
  refine AT.callS (As := [(1, (w32 a1)), (1, 0), (1, (w32 ((s (a0 + 5) 2) - 1)))]) (st := []) (i := 107) (pos := 6204) kMd_isIn (by decide +kernel) rfl rfl rfl (by omega) (Md_isIn_ok h1) ?_
  show AT sMd_isMouldAt 1 (15, [(15, a0), (0, a1)], [(0, v1)], s1) o
  exact AT.retzH (by decide +kernel) H
def sMd_partOf : jS := (⟨"JellyCathedralModel", "partOf", "(II)I"⟩, prog_13_method_77_code, 3, 1, [15, 0, 0], 0)
theorem kMd_partOf : jmk sMd_partOf = true := jmk_of 7149 1012 7148 94 (by decide +kernel)
set_option maxRecDepth 100000 in
theorem Md_partOf_ok {a0 a1 a2 : Int} {s : jM} {o : Int × jM} (H : Md_partOf a0 a1 a2 s = some o) : MK sMd_partOf 0 [(15, a0), (0, a1), (0, a2)] s o := by
  refine MK.of kMd_partOf rfl ?_
  show AT sMd_partOf 0 (0, [(15, a0), (0, a1), (0, a2)], [], s) o
  unfold Md_partOf at H
  refine AT.blk (g := (0 ≤ (w32 ((84 + (5 * a1)) + a2)) ∧ (w32 ((84 + (5 * a1)) + a2)) < 1905)) [(0, .aload_n 0, 1, (0, 0, 0)), (1, .getfield 35, 3, (5207, 1120, 0)), (4, .bipush 84, 2, (0, 0, 0)), (6, .iconst 5, 1, (0, 0, 0)), (7, .iload_n 1, 1, (0, 0, 0)), (8, .imul, 1, (0, 0, 0)), (9, .iadd, 1, (0, 0, 0)), (10, .iload_n 2, 1, (0, 0, 0)), (11, .iadd, 1, (0, 0, 0)), (12, .iaload, 1, (0, 0, 0))] (by decide +kernel) (show jrun _ (0, [(15, a0), (0, a1), (0, a2)], [], s) = some ([(0 ≤ (w32 ((84 + (5 * a1)) + a2)) ∧ (w32 ((84 + (5 * a1)) + a2)) < 1905)], (13, [(15, a0), (0, a1), (0, a2)], [(0, (s (a0 + 5) (w32 ((84 + (5 * a1)) + a2))))], s)) from rfl) (fun h => h) H (fun H => ?_)
  exact AT.retiH (by decide +kernel) H
def sMd_partsIn : jS := (⟨"JellyCathedralModel", "partsIn", "(I)I"⟩, prog_13_method_78_code, 4, 1, [15, 0], 0)
theorem kMd_partsIn : jmk sMd_partsIn = true := jmk_of 7153 1012 7152 95 (by decide +kernel)
set_option maxRecDepth 100000 in
theorem Md_partsIn_4_ok {o : Int × jM} : ∀ (n : Nat) (x0 x1 x2 x3 : Int) (s : jM), Md_partsIn_4  n x0 x1 x2 x3 s = some o → AT sMd_partsIn 1 (4, [(15, x0), (0, x1), (0, x2), (0, x3)], [], s) o := by
  intro n
  induction n with
  | zero =>
    intro x0 x1 x2 x3 s H
    have H : (none : Option (Int × jM)) = some o := H
    cases H
  | succ n ih =>
    intro x0 x1 x2 x3 s H
    rw [Md_partsIn_4] at H
    refine AT.row [(4, .iload_n 3, 1, (0, 0, 0)), (5, .aload_n 0, 1, (0, 0, 0)), (6, .getfield 35, 3, (5207, 1120, 0)), (9, .iconst 0, 1, (0, 0, 0)), (10, .iaload, 1, (0, 0, 0))] (by decide +kernel) (show jrun _ (4, [(15, x0), (0, x1), (0, x2), (0, x3)], [], s) = some ([(0 ≤ (0 : Int) ∧ (0 : Int) < 1905)], (11, [(15, x0), (0, x1), (0, x2), (0, x3)], [(0, (s (x0 + 5) 0)), (0, x3)], s)) from rfl) (show (0 ≤ (0 : Int) ∧ (0 : Int) < 1905) from by decide) ?_
    refine AT.ite (x := (0, 0, 0)) (by decide +kernel) (show jbr (.if_icmp .ge 18) (11, [(15, x0), (0, x1), (0, x2), (0, x3)], [(0, (s (x0 + 5) 0)), (0, x3)], s) = some ((w32 x3) < (w32 (s (x0 + 5) 0)), (14, [(15, x0), (0, x1), (0, x2), (0, x3)], [], s), (29, [(15, x0), (0, x1), (0, x2), (0, x3)], [], s)) from rfl) H (fun H => ?_) (fun H => ?_)
    · refine AT.seq [(14, .iload_n 2, 1, (0, 0, 0)), (15, .aload_n 0, 1, (0, 0, 0)), (16, .iload_n 1, 1, (0, 0, 0)), (17, .iload_n 3, 1, (0, 0, 0))] (by decide +kernel) (show jrun _ (14, [(15, x0), (0, x1), (0, x2), (0, x3)], [], s) = some ([], (18, [(15, x0), (0, x1), (0, x2), (0, x3)], [(0, x3), (0, x1), (15, x0), (0, x2)], s)) from rfl) ?_
      obtain ⟨v1, s1, h1, H⟩ := jb_some H
      refine AT.callV (As := [(0, x1), (0, x3)]) (cl := 11) (b := x0) (st := [(0, x2)]) (i := 317) (pos := 7146) kMd_partOf (by decide +kernel) rfl (by decide +kernel) rfl rfl (by omega) (Md_partOf_ok h1) ?_
      show AT sMd_partsIn 1 (21, [(15, x0), (0, x1), (0, x2), (0, x3)], [(0, v1), (0, x2)], s1) o
      refine AT.seq [(21, .iadd, 1, (0, 0, 0)), (22, .istore_n 2, 1, (0, 0, 0)), (23, .iinc 3 1, 3, (0, 0, 0)), (26, .goto (-22), 3, (0, 0, 0))] (by decide +kernel) (show jrun _ (21, [(15, x0), (0, x1), (0, x2), (0, x3)], [(0, v1), (0, x2)], s1) = some ([], (4, [(15, x0), (0, x1), (0, (x2 + v1)), (0, (x3 + 1))], [], s1)) from rfl) ?_
      exact ih _ _ _ _ _ H
    · refine AT.seq [(29, .iload_n 2, 1, (0, 0, 0))] (by decide +kernel) (show jrun _ (29, [(15, x0), (0, x1), (0, x2), (0, x3)], [], s) = some ([], (30, [(15, x0), (0, x1), (0, x2), (0, x3)], [(0, x2)], s)) from rfl) ?_
      exact AT.retiH (by decide +kernel) H
set_option maxRecDepth 100000 in
theorem Md_partsIn_ok {a0 a1 : Int} {s : jM} {o : Int × jM} (H : Md_partsIn a0 a1 s = some o) : MK sMd_partsIn 1 [(15, a0), (0, a1)] s o := by
  refine MK.of kMd_partsIn rfl ?_
  show AT sMd_partsIn 1 (0, [(15, a0), (0, a1), (99, 0), (99, 0)], [], s) o
  unfold Md_partsIn at H
  refine AT.seq [(0, .iconst 0, 1, (0, 0, 0)), (1, .istore_n 2, 1, (0, 0, 0)), (2, .iconst 0, 1, (0, 0, 0)), (3, .istore_n 3, 1, (0, 0, 0))] (by decide +kernel) (show jrun _ (0, [(15, a0), (0, a1), (99, 0), (99, 0)], [], s) = some ([], (4, [(15, a0), (0, a1), (0, 0), (0, 0)], [], s)) from rfl) ?_
  exact Md_partsIn_4_ok  jFU _ _ _ _ _ H
def sMd_strengthOf : jS := (⟨"JellyCathedralModel", "strengthOf", "(I)I"⟩, prog_13_method_79_code, 4, 1, [15, 0], 0)
theorem kMd_strengthOf : jmk sMd_strengthOf = true := jmk_of 7145 1012 7144 93 (by decide +kernel)
set_option maxRecDepth 100000 in
theorem Md_strengthOf_4_ok {o : Int × jM} : ∀ (n : Nat) (x0 x1 x2 x3 : Int) (s : jM), Md_strengthOf_4  n x0 x1 x2 x3 s = some o → AT sMd_strengthOf 1 (4, [(15, x0), (0, x1), (0, x2), (0, x3)], [], s) o := by
  intro n
  induction n with
  | zero =>
    intro x0 x1 x2 x3 s H
    have H : (none : Option (Int × jM)) = some o := H
    cases H
  | succ n ih =>
    intro x0 x1 x2 x3 s H
    rw [Md_strengthOf_4] at H
    refine AT.row [(4, .iload_n 3, 1, (0, 0, 0)), (5, .aload_n 0, 1, (0, 0, 0)), (6, .getfield 35, 3, (5207, 1120, 0)), (9, .iconst 0, 1, (0, 0, 0)), (10, .iaload, 1, (0, 0, 0))] (by decide +kernel) (show jrun _ (4, [(15, x0), (0, x1), (0, x2), (0, x3)], [], s) = some ([(0 ≤ (0 : Int) ∧ (0 : Int) < 1905)], (11, [(15, x0), (0, x1), (0, x2), (0, x3)], [(0, (s (x0 + 5) 0)), (0, x3)], s)) from rfl) (show (0 ≤ (0 : Int) ∧ (0 : Int) < 1905) from by decide) ?_
    refine AT.ite (x := (0, 0, 0)) (by decide +kernel) (show jbr (.if_icmp .ge 28) (11, [(15, x0), (0, x1), (0, x2), (0, x3)], [(0, (s (x0 + 5) 0)), (0, x3)], s) = some ((w32 x3) < (w32 (s (x0 + 5) 0)), (14, [(15, x0), (0, x1), (0, x2), (0, x3)], [], s), (39, [(15, x0), (0, x1), (0, x2), (0, x3)], [], s)) from rfl) H (fun H => ?_) (fun H => ?_)
    · refine AT.seq [(14, .iload_n 2, 1, (0, 0, 0)), (15, .aload_n 0, 1, (0, 0, 0)), (16, .iload_n 1, 1, (0, 0, 0)), (17, .iload_n 3, 1, (0, 0, 0))] (by decide +kernel) (show jrun _ (14, [(15, x0), (0, x1), (0, x2), (0, x3)], [], s) = some ([], (18, [(15, x0), (0, x1), (0, x2), (0, x3)], [(0, x3), (0, x1), (15, x0), (0, x2)], s)) from rfl) ?_
      obtain ⟨v1, s1, h1, H⟩ := jb_some H
      refine AT.callV (As := [(0, x1), (0, x3)]) (cl := 11) (b := x0) (st := [(0, x2)]) (i := 317) (pos := 7146) kMd_partOf (by decide +kernel) rfl (by decide +kernel) rfl rfl (by omega) (Md_partOf_ok h1) ?_
      show AT sMd_strengthOf 1 (21, [(15, x0), (0, x1), (0, x2), (0, x3)], [(0, v1), (0, x2)], s1) o
      refine AT.blk (g := (0 ≤ (w32 (9 + x3)) ∧ (w32 (9 + x3)) < 1905)) [(21, .aload_n 0, 1, (0, 0, 0)), (22, .getfield 35, 3, (5207, 1120, 0)), (25, .bipush 9, 2, (0, 0, 0)), (27, .iload_n 3, 1, (0, 0, 0)), (28, .iadd, 1, (0, 0, 0)), (29, .iaload, 1, (0, 0, 0)), (30, .imul, 1, (0, 0, 0)), (31, .iadd, 1, (0, 0, 0)), (32, .istore_n 2, 1, (0, 0, 0)), (33, .iinc 3 1, 3, (0, 0, 0)), (36, .goto (-32), 3, (0, 0, 0))] (by decide +kernel) (show jrun _ (21, [(15, x0), (0, x1), (0, x2), (0, x3)], [(0, v1), (0, x2)], s1) = some ([(0 ≤ (w32 (9 + x3)) ∧ (w32 (9 + x3)) < 1905)], (4, [(15, x0), (0, x1), (0, (x2 + (v1 * (s1 (x0 + 5) (w32 (9 + x3)))))), (0, (x3 + 1))], [], s1)) from rfl) (fun h => h) H (fun H => ?_)
      exact ih _ _ _ _ _ H
    · refine AT.seq [(39, .iload_n 2, 1, (0, 0, 0))] (by decide +kernel) (show jrun _ (39, [(15, x0), (0, x1), (0, x2), (0, x3)], [], s) = some ([], (40, [(15, x0), (0, x1), (0, x2), (0, x3)], [(0, x2)], s)) from rfl) ?_
      exact AT.retiH (by decide +kernel) H
set_option maxRecDepth 100000 in
theorem Md_strengthOf_ok {a0 a1 : Int} {s : jM} {o : Int × jM} (H : Md_strengthOf a0 a1 s = some o) : MK sMd_strengthOf 1 [(15, a0), (0, a1)] s o := by
  refine MK.of kMd_strengthOf rfl ?_
  show AT sMd_strengthOf 1 (0, [(15, a0), (0, a1), (99, 0), (99, 0)], [], s) o
  unfold Md_strengthOf at H
  refine AT.seq [(0, .iconst 0, 1, (0, 0, 0)), (1, .istore_n 2, 1, (0, 0, 0)), (2, .iconst 0, 1, (0, 0, 0)), (3, .istore_n 3, 1, (0, 0, 0))] (by decide +kernel) (show jrun _ (0, [(15, a0), (0, a1), (99, 0), (99, 0)], [], s) = some ([], (4, [(15, a0), (0, a1), (0, 0), (0, 0)], [], s)) from rfl) ?_
  exact Md_strengthOf_4_ok  jFU _ _ _ _ _ H
def sMd_areIn : jS := (⟨"JellyCathedralModel", "areIn", "(I)I"⟩, prog_13_method_80_code, 4, 1, [15, 0], 0)
theorem kMd_areIn : jmk sMd_areIn = true := jmk_of 7123 1012 7122 90 (by decide +kernel)
set_option maxRecDepth 100000 in
theorem Md_areIn_4_ok {o : Int × jM} : ∀ (n : Nat) (x0 x1 x2 x3 : Int) (s : jM), Md_areIn_4  n x0 x1 x2 x3 s = some o → AT sMd_areIn 0 (4, [(15, x0), (0, x1), (0, x2), (0, x3)], [], s) o := by
  intro n
  induction n with
  | zero =>
    intro x0 x1 x2 x3 s H
    have H : (none : Option (Int × jM)) = some o := H
    cases H
  | succ n ih =>
    intro x0 x1 x2 x3 s H
    rw [Md_areIn_4] at H
    refine AT.row [(4, .iload_n 3, 1, (0, 0, 0)), (5, .aload_n 0, 1, (0, 0, 0)), (6, .getfield 35, 3, (5207, 1120, 0)), (9, .iconst 2, 1, (0, 0, 0)), (10, .iaload, 1, (0, 0, 0))] (by decide +kernel) (show jrun _ (4, [(15, x0), (0, x1), (0, x2), (0, x3)], [], s) = some ([(0 ≤ (2 : Int) ∧ (2 : Int) < 1905)], (11, [(15, x0), (0, x1), (0, x2), (0, x3)], [(0, (s (x0 + 5) 2)), (0, x3)], s)) from rfl) (show (0 ≤ (2 : Int) ∧ (2 : Int) < 1905) from by decide) ?_
    refine AT.ite (x := (0, 0, 0)) (by decide +kernel) (show jbr (.if_icmp .ge 32) (11, [(15, x0), (0, x1), (0, x2), (0, x3)], [(0, (s (x0 + 5) 2)), (0, x3)], s) = some ((w32 x3) < (w32 (s (x0 + 5) 2)), (14, [(15, x0), (0, x1), (0, x2), (0, x3)], [], s), (43, [(15, x0), (0, x1), (0, x2), (0, x3)], [], s)) from rfl) H (fun H => ?_) (fun H => ?_)
    · refine AT.blk (g := (0 ≤ (w32 (69 + x3)) ∧ (w32 (69 + x3)) < 1905)) [(14, .iload_n 2, 1, (0, 0, 0)), (15, .aload_n 0, 1, (0, 0, 0)), (16, .getfield 35, 3, (5207, 1120, 0)), (19, .bipush 69, 2, (0, 0, 0)), (21, .iload_n 3, 1, (0, 0, 0)), (22, .iadd, 1, (0, 0, 0)), (23, .iaload, 1, (0, 0, 0)), (24, .iload_n 1, 1, (0, 0, 0))] (by decide +kernel) (show jrun _ (14, [(15, x0), (0, x1), (0, x2), (0, x3)], [], s) = some ([(0 ≤ (w32 (69 + x3)) ∧ (w32 (69 + x3)) < 1905)], (25, [(15, x0), (0, x1), (0, x2), (0, x3)], [(0, x1), (0, (s (x0 + 5) (w32 (69 + x3)))), (0, x2)], s)) from rfl) (fun h => h) H (fun H => ?_)
      refine AT.ite (x := (0, 0, 0)) (by decide +kernel) (show jbr (.if_icmp .ne 9) (25, [(15, x0), (0, x1), (0, x2), (0, x3)], [(0, x1), (0, (s (x0 + 5) (w32 (69 + x3)))), (0, x2)], s) = some ((w32 (s (x0 + 5) (w32 (69 + x3)))) = (w32 x1), (28, [(15, x0), (0, x1), (0, x2), (0, x3)], [(0, x2)], s), (34, [(15, x0), (0, x1), (0, x2), (0, x3)], [(0, x2)], s)) from rfl) H (fun H => ?_) (fun H => ?_)
      · refine AT.seq [(28, .iconst 1, 1, (0, 0, 0)), (29, .iload_n 3, 1, (0, 0, 0)), (30, .ishl, 1, (0, 0, 0)), (31, .goto 4, 3, (0, 0, 0)), (35, .ior, 1, (0, 0, 0)), (36, .istore_n 2, 1, (0, 0, 0)), (37, .iinc 3 1, 3, (0, 0, 0)), (40, .goto (-36), 3, (0, 0, 0))] (by decide +kernel) (show jrun _ (28, [(15, x0), (0, x1), (0, x2), (0, x3)], [(0, x2)], s) = some ([], (4, [(15, x0), (0, x1), (0, (jior x2 (jishl 1 x3))), (0, (x3 + 1))], [], s)) from rfl) ?_
        exact ih _ _ _ _ _ H
      · refine AT.seq [(34, .iconst 0, 1, (0, 0, 0)), (35, .ior, 1, (0, 0, 0)), (36, .istore_n 2, 1, (0, 0, 0)), (37, .iinc 3 1, 3, (0, 0, 0)), (40, .goto (-36), 3, (0, 0, 0))] (by decide +kernel) (show jrun _ (34, [(15, x0), (0, x1), (0, x2), (0, x3)], [(0, x2)], s) = some ([], (4, [(15, x0), (0, x1), (0, (jior x2 0)), (0, (x3 + 1))], [], s)) from rfl) ?_
        exact ih _ _ _ _ _ H
    · refine AT.seq [(43, .iload_n 2, 1, (0, 0, 0))] (by decide +kernel) (show jrun _ (43, [(15, x0), (0, x1), (0, x2), (0, x3)], [], s) = some ([], (44, [(15, x0), (0, x1), (0, x2), (0, x3)], [(0, x2)], s)) from rfl) ?_
      exact AT.retiH (by decide +kernel) H
set_option maxRecDepth 100000 in
theorem Md_areIn_ok {a0 a1 : Int} {s : jM} {o : Int × jM} (H : Md_areIn a0 a1 s = some o) : MK sMd_areIn 0 [(15, a0), (0, a1)] s o := by
  refine MK.of kMd_areIn rfl ?_
  show AT sMd_areIn 0 (0, [(15, a0), (0, a1), (99, 0), (99, 0)], [], s) o
  unfold Md_areIn at H
  refine AT.seq [(0, .iconst 0, 1, (0, 0, 0)), (1, .istore_n 2, 1, (0, 0, 0)), (2, .iconst 0, 1, (0, 0, 0)), (3, .istore_n 3, 1, (0, 0, 0))] (by decide +kernel) (show jrun _ (0, [(15, a0), (0, a1), (99, 0), (99, 0)], [], s) = some ([], (4, [(15, a0), (0, a1), (0, 0), (0, 0)], [], s)) from rfl) ?_
  exact Md_areIn_4_ok  jFU _ _ _ _ _ H
