/-! printed by wip/whole/gen_all.py: Md_status, Md_top, Md_bottom, Md_refuse, Md_no, Md_isIn, Md_fraction, Md_cut, Md_tray, Md_trayed, Md_placed, Md_write, Md_read, Md_decant, Md_numberOf, Md_isTray, Md_has, Md_look2, Md_isLetter, Md_isDigit, Md_isSignByte, Md_advance, Md_isSign, Md_spelled, Md_isWord, Md_isHeat, Md_isOdds, Md_isStuff, Md_isSets, Md_isCosts, Md_isStock, Md_isPlace, Md_isWalk, Md_isShakes -/
def sMd_status : jS := (⟨"JellyCathedralModel", "status", "()I"⟩, prog_13_method_3_code, 1, 1, [15], 0)
theorem kMd_status : jmk sMd_status = true := jmk_of 6089 1012 6087 6088 (by decide +kernel)
set_option maxRecDepth 100000 in
theorem Md_status_ok {a0 : Int} {s : jM} {o : Int × jM} (H : Md_status a0 s = some o) : MK sMd_status 0 [(15, a0)] s o := by
  refine MK.of kMd_status rfl ?_
  show AT sMd_status 0 (0, [(15, a0)], [], s) o
  unfold Md_status at H
  refine AT.seq [(0, .aload_n 0, 1, (0, 0, 0)), (1, .iconst 0, 1, (0, 0, 0)), (2, .putfield 72, 3, (5188, 1101, 0)), (5, .aload_n 0, 1, (0, 0, 0)), (6, .getfield 75, 3, (5187, 1100, 0))] (by decide +kernel) (show jrun _ (0, [(15, a0)], [], s) = some ([], (9, [(15, a0)], [(0, ((jup s a0 1 0) a0 0))], (jup s a0 1 0))) from rfl) ?_
  exact AT.retiH (by decide +kernel) H
def sMd_top : jS := (⟨"JellyCathedralModel", "top", "()J"⟩, prog_13_method_4_code, 1, 2, [15], 0)
theorem kMd_top : jmk sMd_top = true := jmk_of 6093 1012 6091 6092 (by decide +kernel)
set_option maxRecDepth 100000 in
theorem Md_top_ok {a0 : Int} {s : jM} {o : Int × jM} (H : Md_top a0 s = some o) : MK sMd_top 0 [(15, a0)] s o := by
  refine MK.of kMd_top rfl ?_
  show AT sMd_top 0 (0, [(15, a0)], [], s) o
  unfold Md_top at H
  refine AT.seq [(0, .aload_n 0, 1, (0, 0, 0)), (1, .iconst 0, 1, (0, 0, 0)), (2, .putfield 72, 3, (5188, 1101, 0)), (5, .aload_n 0, 1, (0, 0, 0)), (6, .getfield 78, 3, (5189, 1102, 0))] (by decide +kernel) (show jrun _ (0, [(15, a0)], [], s) = some ([], (9, [(15, a0)], [(1, ((jup s a0 1 0) a0 2))], (jup s a0 1 0))) from rfl) ?_
  exact AT.retlH (by decide +kernel) H
def sMd_bottom : jS := (⟨"JellyCathedralModel", "bottom", "()J"⟩, prog_13_method_5_code, 1, 2, [15], 0)
theorem kMd_bottom : jmk sMd_bottom = true := jmk_of 6097 1012 6095 6096 (by decide +kernel)
set_option maxRecDepth 100000 in
theorem Md_bottom_ok {a0 : Int} {s : jM} {o : Int × jM} (H : Md_bottom a0 s = some o) : MK sMd_bottom 0 [(15, a0)] s o := by
  refine MK.of kMd_bottom rfl ?_
  show AT sMd_bottom 0 (0, [(15, a0)], [], s) o
  unfold Md_bottom at H
  refine AT.seq [(0, .aload_n 0, 1, (0, 0, 0)), (1, .iconst 0, 1, (0, 0, 0)), (2, .putfield 72, 3, (5188, 1101, 0)), (5, .aload_n 0, 1, (0, 0, 0)), (6, .getfield 7, 3, (5190, 1103, 0))] (by decide +kernel) (show jrun _ (0, [(15, a0)], [], s) = some ([], (9, [(15, a0)], [(1, ((jup s a0 1 0) a0 3))], (jup s a0 1 0))) from rfl) ?_
  exact AT.retlH (by decide +kernel) H
def sMd_refuse : jS := (⟨"JellyCathedralModel", "refuse", "(I)I"⟩, prog_13_method_6_code, 2, 1, [15, 0], 0)
theorem kMd_refuse : jmk sMd_refuse = true := jmk_of 7119 1012 7118 89 (by decide +kernel)
set_option maxRecDepth 100000 in
theorem Md_refuse_ok {a0 a1 : Int} {s : jM} {o : Int × jM} (H : Md_refuse a0 a1 s = some o) : MK sMd_refuse 0 [(15, a0), (0, a1)] s o := by
  refine MK.of kMd_refuse rfl ?_
  show AT sMd_refuse 0 (0, [(15, a0), (0, a1)], [], s) o
  unfold Md_refuse at H
  refine AT.seq [(0, .aload_n 0, 1, (0, 0, 0)), (1, .iload_n 1, 1, (0, 0, 0)), (2, .putfield 75, 3, (5187, 1100, 0)), (5, .iconst (-1), 1, (0, 0, 0))] (by decide +kernel) (show jrun _ (0, [(15, a0), (0, a1)], [], s) = some ([], (6, [(15, a0), (0, a1)], [(0, (-1))], (jup s a0 0 a1))) from rfl) ?_
  exact AT.retiH (by decide +kernel) H
def sMd_no : jS := (⟨"JellyCathedralModel", "no", "(I)Z"⟩, prog_13_method_7_code, 2, 3, [15, 0], 0)
theorem kMd_no : jmk sMd_no = true := jmk_of 6105 1012 6104 40 (by decide +kernel)
set_option maxRecDepth 100000 in
theorem Md_no_ok {a0 a1 : Int} {s : jM} {o : Int × jM} (H : Md_no a0 a1 s = some o) : MK sMd_no 0 [(15, a0), (0, a1)] s o := by
  refine MK.of kMd_no rfl ?_
  show AT sMd_no 0 (0, [(15, a0), (0, a1)], [], s) o
  unfold Md_no at H
  refine AT.seq [(0, .aload_n 0, 1, (0, 0, 0)), (1, .iload_n 1, 1, (0, 0, 0)), (2, .putfield 75, 3, (5187, 1100, 0)), (5, .iconst 0, 1, (0, 0, 0))] (by decide +kernel) (show jrun _ (0, [(15, a0), (0, a1)], [], s) = some ([], (6, [(15, a0), (0, a1)], [(0, 0)], (jup s a0 0 a1))) from rfl) ?_
  exact AT.retzC (by decide +kernel) (by decide) H
def sMd_isIn : jS := (⟨"JellyCathedralModel", "isIn", "(JJJ)Z"⟩, prog_13_method_8_code, 6, 3, [1, 1, 1], 1)
theorem kMd_isIn : jmk sMd_isIn = true := jmk_of 6206 1012 6205 0 (by decide +kernel)
set_option maxRecDepth 100000 in
theorem Md_isIn_ok {a0 a1 a2 : Int} {s : jM} {o : Int × jM} (H : Md_isIn a0 a1 a2 s = some o) : MK sMd_isIn 0 [(1, a0), (1, a1), (1, a2)] s o := by
  refine MK.of kMd_isIn rfl ?_
  show AT sMd_isIn 0 (0, [(1, a0), (99, 0), (1, a1), (99, 0), (1, a2), (99, 0)], [], s) o
  unfold Md_isIn at H
  refine AT.seq [(0, .lload_n 0, 1, (0, 0, 0)), (1, .lload_n 2, 1, (0, 0, 0)), (2, .lcmp, 1, (0, 0, 0))] (by decide +kernel) (show jrun _ (0, [(1, a0), (99, 0), (1, a1), (99, 0), (1, a2), (99, 0)], [], s) = some ([], (3, [(1, a0), (99, 0), (1, a1), (99, 0), (1, a2), (99, 0)], [(0, (jlcmp a0 a1))], s)) from rfl) ?_
  refine AT.ite (x := (0, 0, 0)) (by decide +kernel) (show jbr (.ifCond .lt 14) (3, [(1, a0), (99, 0), (1, a1), (99, 0), (1, a2), (99, 0)], [(0, (jlcmp a0 a1))], s) = some ((w32 (jlcmp a0 a1)) < 0, (17, [(1, a0), (99, 0), (1, a1), (99, 0), (1, a2), (99, 0)], [], s), (6, [(1, a0), (99, 0), (1, a1), (99, 0), (1, a2), (99, 0)], [], s)) from rfl) H (fun H => ?_) (fun H => ?_)
  · refine AT.seq [(17, .iconst 0, 1, (0, 0, 0))] (by decide +kernel) (show jrun _ (17, [(1, a0), (99, 0), (1, a1), (99, 0), (1, a2), (99, 0)], [], s) = some ([], (18, [(1, a0), (99, 0), (1, a1), (99, 0), (1, a2), (99, 0)], [(0, 0)], s)) from rfl) ?_
    exact AT.retzC (by decide +kernel) (by decide) H
  · refine AT.seq [(6, .lload_n 0, 1, (0, 0, 0)), (7, .lload 4, 2, (0, 0, 0)), (9, .lcmp, 1, (0, 0, 0))] (by decide +kernel) (show jrun _ (6, [(1, a0), (99, 0), (1, a1), (99, 0), (1, a2), (99, 0)], [], s) = some ([], (10, [(1, a0), (99, 0), (1, a1), (99, 0), (1, a2), (99, 0)], [(0, (jlcmp a0 a2))], s)) from rfl) ?_
    refine AT.ite (x := (0, 0, 0)) (by decide +kernel) (show jbr (.ifCond .gt 7) (10, [(1, a0), (99, 0), (1, a1), (99, 0), (1, a2), (99, 0)], [(0, (jlcmp a0 a2))], s) = some (0 < (w32 (jlcmp a0 a2)), (17, [(1, a0), (99, 0), (1, a1), (99, 0), (1, a2), (99, 0)], [], s), (13, [(1, a0), (99, 0), (1, a1), (99, 0), (1, a2), (99, 0)], [], s)) from rfl) H (fun H => ?_) (fun H => ?_)
    · refine AT.seq [(17, .iconst 0, 1, (0, 0, 0))] (by decide +kernel) (show jrun _ (17, [(1, a0), (99, 0), (1, a1), (99, 0), (1, a2), (99, 0)], [], s) = some ([], (18, [(1, a0), (99, 0), (1, a1), (99, 0), (1, a2), (99, 0)], [(0, 0)], s)) from rfl) ?_
      exact AT.retzC (by decide +kernel) (by decide) H
    · refine AT.seq [(13, .iconst 1, 1, (0, 0, 0)), (14, .goto 4, 3, (0, 0, 0))] (by decide +kernel) (show jrun _ (13, [(1, a0), (99, 0), (1, a1), (99, 0), (1, a2), (99, 0)], [], s) = some ([], (18, [(1, a0), (99, 0), (1, a1), (99, 0), (1, a2), (99, 0)], [(0, 1)], s)) from rfl) ?_
      exact AT.retzC (by decide +kernel) (by decide) H
def sMd_fraction : jS := (⟨"JellyCathedralModel", "fraction", "(JJ)Z"⟩, prog_13_method_9_code, 11, 3, [15, 1, 1], 0)
theorem kMd_fraction : jmk sMd_fraction = true := jmk_of 8159 1012 8158 125 (by decide +kernel)
set_option maxRecDepth 100000 in
theorem Md_fraction_9_ok {o : Int × jM} : ∀ (n : Nat) (x0 x1 x3 x5 x7 : Int) (s : jM), Md_fraction_9  n x0 x1 x3 x5 x7 s = some o → AT sMd_fraction 0 (9, [(15, x0), (1, x1), (99, 0), (1, x3), (99, 0), (1, x5), (99, 0), (1, x7), (99, 0), (99, 0), (99, 0)], [], s) o := by
  intro n
  induction n with
  | zero =>
    intro x0 x1 x3 x5 x7 s H
    have H : (none : Option (Int × jM)) = some o := H
    cases H
  | succ n ih =>
    intro x0 x1 x3 x5 x7 s H
    rw [Md_fraction_9] at H
    refine AT.seq [(9, .lload 7, 2, (0, 0, 0)), (11, .lconst 0, 1, (0, 0, 0)), (12, .lcmp, 1, (0, 0, 0))] (by decide +kernel) (show jrun _ (9, [(15, x0), (1, x1), (99, 0), (1, x3), (99, 0), (1, x5), (99, 0), (1, x7), (99, 0), (99, 0), (99, 0)], [], s) = some ([], (13, [(15, x0), (1, x1), (99, 0), (1, x3), (99, 0), (1, x5), (99, 0), (1, x7), (99, 0), (99, 0), (99, 0)], [(0, (jlcmp x7 0))], s)) from rfl) ?_
    refine AT.ite (x := (0, 0, 0)) (by decide +kernel) (show jbr (.ifCond .eq 21) (13, [(15, x0), (1, x1), (99, 0), (1, x3), (99, 0), (1, x5), (99, 0), (1, x7), (99, 0), (99, 0), (99, 0)], [(0, (jlcmp x7 0))], s) = some ((w32 (jlcmp x7 0)) = 0, (34, [(15, x0), (1, x1), (99, 0), (1, x3), (99, 0), (1, x5), (99, 0), (1, x7), (99, 0), (99, 0), (99, 0)], [], s), (16, [(15, x0), (1, x1), (99, 0), (1, x3), (99, 0), (1, x5), (99, 0), (1, x7), (99, 0), (99, 0), (99, 0)], [], s)) from rfl) H (fun H => ?_) (fun H => ?_)
    · refine AT.blk (g := ¬ w64 x5 = 0 ∧ ¬ w64 x5 = 0) [(34, .aload_n 0, 1, (0, 0, 0)), (35, .lload_n 1, 1, (0, 0, 0)), (36, .lload 5, 2, (0, 0, 0)), (38, .ldiv, 1, (0, 0, 0)), (39, .putfield 78, 3, (5189, 1102, 0)), (42, .aload_n 0, 1, (0, 0, 0)), (43, .lload_n 3, 1, (0, 0, 0)), (44, .lload 5, 2, (0, 0, 0)), (46, .ldiv, 1, (0, 0, 0)), (47, .putfield 7, 3, (5190, 1103, 0)), (50, .iconst 1, 1, (0, 0, 0))] (by decide +kernel) (show jrun _ (34, [(15, x0), (1, x1), (99, 0), (1, x3), (99, 0), (1, x5), (99, 0), (1, x7), (99, 0), (99, 0), (99, 0)], [], s) = some ([¬ w64 x5 = 0, ¬ w64 x5 = 0], (51, [(15, x0), (1, x1), (99, 0), (1, x3), (99, 0), (1, x5), (99, 0), (1, x7), (99, 0), (99, 0), (99, 0)], [(0, 1)], (jup (jup s x0 2 (jldiv x1 x5)) x0 3 (jldiv x3 x5)))) from rfl) (fun h => ⟨h.1, h.2⟩) H (fun H => ?_)
      exact AT.retzC (by decide +kernel) (by decide) H
    · refine AT.blk (g := ¬ w64 x7 = 0) [(16, .lload 5, 2, (0, 0, 0)), (18, .lload 7, 2, (0, 0, 0)), (20, .lrem, 1, (0, 0, 0)), (21, .lstore 9, 2, (0, 0, 0)), (23, .lload 7, 2, (0, 0, 0)), (25, .lstore 5, 2, (0, 0, 0)), (27, .lload 9, 2, (0, 0, 0)), (29, .lstore 7, 2, (0, 0, 0)), (31, .goto (-22), 3, (0, 0, 0))] (by decide +kernel) (show jrun _ (16, [(15, x0), (1, x1), (99, 0), (1, x3), (99, 0), (1, x5), (99, 0), (1, x7), (99, 0), (99, 0), (99, 0)], [], s) = some ([¬ w64 x7 = 0], (9, [(15, x0), (1, x1), (99, 0), (1, x3), (99, 0), (1, x7), (99, 0), (1, (jlrem x5 x7)), (99, 0), (1, (jlrem x5 x7)), (99, 0)], [], s)) from rfl) (fun h => h) H (fun H => ?_)
      exact AT.weak (L' := [(15, x0), (1, x1), (99, 0), (1, x3), (99, 0), (1, x7), (99, 0), (1, (jlrem x5 x7)), (99, 0), (99, 0), (99, 0)]) (jleK (jleK (jleK (jleK (jleK (jleK (jleK (jleK (jleK (jleJ (jleK jle0))))))))))) (ih _ _ _ _ _ _ H)
set_option maxRecDepth 100000 in
theorem Md_fraction_ok {a0 a1 a2 : Int} {s : jM} {o : Int × jM} (H : Md_fraction a0 a1 a2 s = some o) : MK sMd_fraction 0 [(15, a0), (1, a1), (1, a2)] s o := by
  refine MK.of kMd_fraction rfl ?_
  show AT sMd_fraction 0 (0, [(15, a0), (1, a1), (99, 0), (1, a2), (99, 0), (99, 0), (99, 0), (99, 0), (99, 0), (99, 0), (99, 0)], [], s) o
  unfold Md_fraction at H
  refine AT.seq [(0, .lload_n 1, 1, (0, 0, 0)), (1, .invokestatic 81, 3, (8160, 3, 0)), (4, .lstore 5, 2, (0, 0, 0)), (6, .lload_n 3, 1, (0, 0, 0)), (7, .lstore 7, 2, (0, 0, 0))] (by decide +kernel) (show jrun _ (0, [(15, a0), (1, a1), (99, 0), (1, a2), (99, 0), (99, 0), (99, 0), (99, 0), (99, 0), (99, 0), (99, 0)], [], s) = some ([], (9, [(15, a0), (1, a1), (99, 0), (1, a2), (99, 0), (1, (jlabs a1)), (99, 0), (1, a2), (99, 0), (99, 0), (99, 0)], [], s)) from rfl) ?_
  exact Md_fraction_9_ok  jFU _ _ _ _ _ _ H
def sMd_cut : jS := (⟨"JellyCathedralModel", "cut", "(IJ)J"⟩, prog_13_method_10_code, 3, 2, [0, 1], 1)
theorem kMd_cut : jmk sMd_cut = true := jmk_of 6120 1012 6119 0 (by decide +kernel)
set_option maxRecDepth 100000 in
theorem Md_cut_ok {a0 a1 : Int} {s : jM} {o : Int × jM} (H : Md_cut a0 a1 s = some o) : MK sMd_cut 0 [(0, a0), (1, a1)] s o := by
  refine MK.of kMd_cut rfl ?_
  show AT sMd_cut 0 (0, [(0, a0), (1, a1), (99, 0)], [], s) o
  unfold Md_cut at H
  refine AT.seq [(0, .iload_n 0, 1, (0, 0, 0))] (by decide +kernel) (show jrun _ (0, [(0, a0), (1, a1), (99, 0)], [], s) = some ([], (1, [(0, a0), (1, a1), (99, 0)], [(0, a0)], s)) from rfl) ?_
  refine AT.ite (x := (0, 0, 0)) (by decide +kernel) (show jbr (.ifCond .ne 10) (1, [(0, a0), (1, a1), (99, 0)], [(0, a0)], s) = some ((w32 a0) = 0, (4, [(0, a0), (1, a1), (99, 0)], [], s), (11, [(0, a0), (1, a1), (99, 0)], [], s)) from rfl) H (fun H => ?_) (fun H => ?_)
  · refine AT.seq [(4, .lload_n 1, 1, (0, 0, 0)), (5, .l2i, 1, (0, 0, 0)), (6, .i2b, 1, (0, 0, 0)), (7, .i2l, 1, (0, 0, 0)), (8, .goto 27, 3, (0, 0, 0))] (by decide +kernel) (show jrun _ (4, [(0, a0), (1, a1), (99, 0)], [], s) = some ([], (35, [(0, a0), (1, a1), (99, 0)], [(1, (w32 (w8 a1)))], s)) from rfl) ?_
    exact AT.retlH (by decide +kernel) H
  · refine AT.seq [(11, .iload_n 0, 1, (0, 0, 0)), (12, .iconst 1, 1, (0, 0, 0))] (by decide +kernel) (show jrun _ (11, [(0, a0), (1, a1), (99, 0)], [], s) = some ([], (13, [(0, a0), (1, a1), (99, 0)], [(0, 1), (0, a0)], s)) from rfl) ?_
    refine AT.ite (x := (0, 0, 0)) (by decide +kernel) (show jbr (.if_icmp .ne 10) (13, [(0, a0), (1, a1), (99, 0)], [(0, 1), (0, a0)], s) = some ((w32 a0) = 1, (16, [(0, a0), (1, a1), (99, 0)], [], s), (23, [(0, a0), (1, a1), (99, 0)], [], s)) from rfl) H (fun H => ?_) (fun H => ?_)
    · refine AT.seq [(16, .lload_n 1, 1, (0, 0, 0)), (17, .l2i, 1, (0, 0, 0)), (18, .i2s, 1, (0, 0, 0)), (19, .i2l, 1, (0, 0, 0)), (20, .goto 15, 3, (0, 0, 0))] (by decide +kernel) (show jrun _ (16, [(0, a0), (1, a1), (99, 0)], [], s) = some ([], (35, [(0, a0), (1, a1), (99, 0)], [(1, (w32 (w16 a1)))], s)) from rfl) ?_
      exact AT.retlH (by decide +kernel) H
    · refine AT.seq [(23, .iload_n 0, 1, (0, 0, 0)), (24, .iconst 2, 1, (0, 0, 0))] (by decide +kernel) (show jrun _ (23, [(0, a0), (1, a1), (99, 0)], [], s) = some ([], (25, [(0, a0), (1, a1), (99, 0)], [(0, 2), (0, a0)], s)) from rfl) ?_
      refine AT.ite (x := (0, 0, 0)) (by decide +kernel) (show jbr (.if_icmp .ne 9) (25, [(0, a0), (1, a1), (99, 0)], [(0, 2), (0, a0)], s) = some ((w32 a0) = 2, (28, [(0, a0), (1, a1), (99, 0)], [], s), (34, [(0, a0), (1, a1), (99, 0)], [], s)) from rfl) H (fun H => ?_) (fun H => ?_)
      · refine AT.seq [(28, .lload_n 1, 1, (0, 0, 0)), (29, .l2i, 1, (0, 0, 0)), (30, .i2l, 1, (0, 0, 0)), (31, .goto 4, 3, (0, 0, 0))] (by decide +kernel) (show jrun _ (28, [(0, a0), (1, a1), (99, 0)], [], s) = some ([], (35, [(0, a0), (1, a1), (99, 0)], [(1, (w32 a1))], s)) from rfl) ?_
        exact AT.retlH (by decide +kernel) H
      · refine AT.seq [(34, .lload_n 1, 1, (0, 0, 0))] (by decide +kernel) (show jrun _ (34, [(0, a0), (1, a1), (99, 0)], [], s) = some ([], (35, [(0, a0), (1, a1), (99, 0)], [(1, a1)], s)) from rfl) ?_
        exact AT.retlH (by decide +kernel) H
def sMd_tray : jS := (⟨"JellyCathedralModel", "tray", "(III)Z"⟩, prog_13_method_11_code, 5, 3, [15, 0, 0, 0], 0)
theorem kMd_tray : jmk sMd_tray = true := jmk_of 6101 1012 6099 6100 (by decide +kernel)
set_option maxRecDepth 100000 in
theorem Md_tray_74_ok {o : Int × jM} : ∀ (n : Nat) (x0 x1 x3 x4 : Int) (s : jM), Md_tray_74  n x0 x1 x3 x4 s = some o → AT sMd_tray 1 (74, [(15, x0), (0, x1), (99, 0), (0, x3), (0, x4)], [], s) o := by
  intro n
  induction n with
  | zero =>
    intro x0 x1 x3 x4 s H
    have H : (none : Option (Int × jM)) = some o := H
    cases H
  | succ n ih =>
    intro x0 x1 x3 x4 s H
    rw [Md_tray_74] at H
    refine AT.seq [(74, .iload 4, 2, (0, 0, 0)), (76, .iload_n 3, 1, (0, 0, 0))] (by decide +kernel) (show jrun _ (74, [(15, x0), (0, x1), (99, 0), (0, x3), (0, x4)], [], s) = some ([], (77, [(15, x0), (0, x1), (99, 0), (0, x3), (0, x4)], [(0, x3), (0, x4)], s)) from rfl) ?_
    refine AT.ite (x := (0, 0, 0)) (by decide +kernel) (show jbr (.if_icmp .ge 22) (77, [(15, x0), (0, x1), (99, 0), (0, x3), (0, x4)], [(0, x3), (0, x4)], s) = some ((w32 x4) < (w32 x3), (80, [(15, x0), (0, x1), (99, 0), (0, x3), (0, x4)], [], s), (99, [(15, x0), (0, x1), (99, 0), (0, x3), (0, x4)], [], s)) from rfl) H (fun H => ?_) (fun H => ?_)
    · refine AT.blk (g := (0 ≤ (w32 ((60 * x1) + x4)) ∧ (w32 ((60 * x1) + x4)) < 240)) [(80, .aload_n 0, 1, (0, 0, 0)), (81, .getfield 20, 3, (5193, 1106, 0)), (84, .bipush 60, 2, (0, 0, 0)), (86, .iload_n 1, 1, (0, 0, 0)), (87, .imul, 1, (0, 0, 0)), (88, .iload 4, 2, (0, 0, 0)), (90, .iadd, 1, (0, 0, 0)), (91, .lconst 0, 1, (0, 0, 0)), (92, .lastore, 1, (0, 0, 0)), (93, .iinc 4 1, 3, (0, 0, 0)), (96, .goto (-22), 3, (0, 0, 0))] (by decide +kernel) (show jrun _ (80, [(15, x0), (0, x1), (99, 0), (0, x3), (0, x4)], [], s) = some ([(0 ≤ (w32 ((60 * x1) + x4)) ∧ (w32 ((60 * x1) + x4)) < 240)], (74, [(15, x0), (0, x1), (99, 0), (0, x3), (0, (x4 + 1))], [], (jup s (x0 + 3) (w32 ((60 * x1) + x4)) 0))) from rfl) (fun h => h) H (fun H => ?_)
      exact ih _ _ _ _ _ H
    · refine AT.seq [(99, .iconst 1, 1, (0, 0, 0))] (by decide +kernel) (show jrun _ (99, [(15, x0), (0, x1), (99, 0), (0, x3), (0, x4)], [], s) = some ([], (100, [(15, x0), (0, x1), (99, 0), (0, x3), (0, x4)], [(0, 1)], s)) from rfl) ?_
      exact AT.retzC (by decide +kernel) (by decide) H
set_option maxRecDepth 100000 in
theorem Md_tray_ok {a0 a1 a2 a3 : Int} {s : jM} {o : Int × jM} (H : Md_tray a0 a1 a2 a3 s = some o) : MK sMd_tray 1 [(15, a0), (0, a1), (0, a2), (0, a3)] s o := by
  refine MK.of kMd_tray rfl ?_
  show AT sMd_tray 1 (0, [(15, a0), (0, a1), (0, a2), (0, a3), (99, 0)], [], s) o
  unfold Md_tray at H
  refine AT.seq [(0, .aload_n 0, 1, (0, 0, 0)), (1, .iconst 0, 1, (0, 0, 0)), (2, .putfield 72, 3, (5188, 1101, 0)), (5, .aload_n 0, 1, (0, 0, 0)), (6, .iconst 0, 1, (0, 0, 0)), (7, .putfield 75, 3, (5187, 1100, 0)), (10, .iload_n 1, 1, (0, 0, 0))] (by decide +kernel) (show jrun _ (0, [(15, a0), (0, a1), (0, a2), (0, a3), (99, 0)], [], s) = some ([], (11, [(15, a0), (0, a1), (0, a2), (0, a3), (99, 0)], [(0, a1)], (jup (jup s a0 1 0) a0 0 0))) from rfl) ?_
  refine AT.ite (x := (0, 0, 0)) (by decide +kernel) (show jbr (.ifCond .lt 17) (11, [(15, a0), (0, a1), (0, a2), (0, a3), (99, 0)], [(0, a1)], (jup (jup s a0 1 0) a0 0 0)) = some ((w32 a1) < 0, (28, [(15, a0), (0, a1), (0, a2), (0, a3), (99, 0)], [], (jup (jup s a0 1 0) a0 0 0)), (14, [(15, a0), (0, a1), (0, a2), (0, a3), (99, 0)], [], (jup (jup s a0 1 0) a0 0 0))) from rfl) H (fun H => ?_) (fun H => ?_)
  · refine AT.seq [(28, .aload_n 0, 1, (0, 0, 0)), (29, .iconst 1, 1, (0, 0, 0))] (by decide +kernel) (show jrun _ (28, [(15, a0), (0, a1), (0, a2), (0, a3), (99, 0)], [], (jup (jup s a0 1 0) a0 0 0)) = some ([], (30, [(15, a0), (0, a1), (0, a2), (0, a3), (99, 0)], [(0, 1), (15, a0)], (jup (jup s a0 1 0) a0 0 0))) from rfl) ?_
    obtain ⟨v1, s1, h1, H⟩ := jb_some H
    refine AT.callV (As := [(0, 1)]) (cl := 11) (b := a0) (st := []) (i := 87) (pos := 6102) kMd_no (by decide +kernel) rfl (by decide +kernel) rfl rfl (by omega) (Md_no_ok h1) ?_
    show AT sMd_tray 1 (33, [(15, a0), (0, a1), (0, a2), (0, a3), (99, 0)], [(0, v1)], s1) o
    exact AT.retzH (by decide +kernel) H
  · refine AT.seq [(14, .iload_n 1, 1, (0, 0, 0)), (15, .iconst 4, 1, (0, 0, 0))] (by decide +kernel) (show jrun _ (14, [(15, a0), (0, a1), (0, a2), (0, a3), (99, 0)], [], (jup (jup s a0 1 0) a0 0 0)) = some ([], (16, [(15, a0), (0, a1), (0, a2), (0, a3), (99, 0)], [(0, 4), (0, a1)], (jup (jup s a0 1 0) a0 0 0))) from rfl) ?_
    refine AT.ite (x := (0, 0, 0)) (by decide +kernel) (show jbr (.if_icmp .ge 12) (16, [(15, a0), (0, a1), (0, a2), (0, a3), (99, 0)], [(0, 4), (0, a1)], (jup (jup s a0 1 0) a0 0 0)) = some ((w32 a1) < 4, (19, [(15, a0), (0, a1), (0, a2), (0, a3), (99, 0)], [], (jup (jup s a0 1 0) a0 0 0)), (28, [(15, a0), (0, a1), (0, a2), (0, a3), (99, 0)], [], (jup (jup s a0 1 0) a0 0 0))) from rfl) H (fun H => ?_) (fun H => ?_)
    · refine AT.seq [(19, .iload_n 2, 1, (0, 0, 0))] (by decide +kernel) (show jrun _ (19, [(15, a0), (0, a1), (0, a2), (0, a3), (99, 0)], [], (jup (jup s a0 1 0) a0 0 0)) = some ([], (20, [(15, a0), (0, a1), (0, a2), (0, a3), (99, 0)], [(0, a2)], (jup (jup s a0 1 0) a0 0 0))) from rfl) ?_
      refine AT.ite (x := (0, 0, 0)) (by decide +kernel) (show jbr (.ifCond .lt 8) (20, [(15, a0), (0, a1), (0, a2), (0, a3), (99, 0)], [(0, a2)], (jup (jup s a0 1 0) a0 0 0)) = some ((w32 a2) < 0, (28, [(15, a0), (0, a1), (0, a2), (0, a3), (99, 0)], [], (jup (jup s a0 1 0) a0 0 0)), (23, [(15, a0), (0, a1), (0, a2), (0, a3), (99, 0)], [], (jup (jup s a0 1 0) a0 0 0))) from rfl) H (fun H => ?_) (fun H => ?_)
      · refine AT.seq [(28, .aload_n 0, 1, (0, 0, 0)), (29, .iconst 1, 1, (0, 0, 0))] (by decide +kernel) (show jrun _ (28, [(15, a0), (0, a1), (0, a2), (0, a3), (99, 0)], [], (jup (jup s a0 1 0) a0 0 0)) = some ([], (30, [(15, a0), (0, a1), (0, a2), (0, a3), (99, 0)], [(0, 1), (15, a0)], (jup (jup s a0 1 0) a0 0 0))) from rfl) ?_
        obtain ⟨v2, s2, h2, H⟩ := jb_some H
        refine AT.callV (As := [(0, 1)]) (cl := 11) (b := a0) (st := []) (i := 87) (pos := 6102) kMd_no (by decide +kernel) rfl (by decide +kernel) rfl rfl (by omega) (Md_no_ok h2) ?_
        show AT sMd_tray 1 (33, [(15, a0), (0, a1), (0, a2), (0, a3), (99, 0)], [(0, v2)], s2) o
        exact AT.retzH (by decide +kernel) H
      · refine AT.seq [(23, .iload_n 2, 1, (0, 0, 0)), (24, .iconst 3, 1, (0, 0, 0))] (by decide +kernel) (show jrun _ (23, [(15, a0), (0, a1), (0, a2), (0, a3), (99, 0)], [], (jup (jup s a0 1 0) a0 0 0)) = some ([], (25, [(15, a0), (0, a1), (0, a2), (0, a3), (99, 0)], [(0, 3), (0, a2)], (jup (jup s a0 1 0) a0 0 0))) from rfl) ?_
        refine AT.ite (x := (0, 0, 0)) (by decide +kernel) (show jbr (.if_icmp .le 9) (25, [(15, a0), (0, a1), (0, a2), (0, a3), (99, 0)], [(0, 3), (0, a2)], (jup (jup s a0 1 0) a0 0 0)) = some (3 < (w32 a2), (28, [(15, a0), (0, a1), (0, a2), (0, a3), (99, 0)], [], (jup (jup s a0 1 0) a0 0 0)), (34, [(15, a0), (0, a1), (0, a2), (0, a3), (99, 0)], [], (jup (jup s a0 1 0) a0 0 0))) from rfl) H (fun H => ?_) (fun H => ?_)
        · refine AT.seq [(28, .aload_n 0, 1, (0, 0, 0)), (29, .iconst 1, 1, (0, 0, 0))] (by decide +kernel) (show jrun _ (28, [(15, a0), (0, a1), (0, a2), (0, a3), (99, 0)], [], (jup (jup s a0 1 0) a0 0 0)) = some ([], (30, [(15, a0), (0, a1), (0, a2), (0, a3), (99, 0)], [(0, 1), (15, a0)], (jup (jup s a0 1 0) a0 0 0))) from rfl) ?_
          obtain ⟨v3, s3, h3, H⟩ := jb_some H
          refine AT.callV (As := [(0, 1)]) (cl := 11) (b := a0) (st := []) (i := 87) (pos := 6102) kMd_no (by decide +kernel) rfl (by decide +kernel) rfl rfl (by omega) (Md_no_ok h3) ?_
          show AT sMd_tray 1 (33, [(15, a0), (0, a1), (0, a2), (0, a3), (99, 0)], [(0, v3)], s3) o
          exact AT.retzH (by decide +kernel) H
        · refine AT.seq [(34, .iload_n 3, 1, (0, 0, 0)), (35, .bipush 60, 2, (0, 0, 0))] (by decide +kernel) (show jrun _ (34, [(15, a0), (0, a1), (0, a2), (0, a3), (99, 0)], [], (jup (jup s a0 1 0) a0 0 0)) = some ([], (37, [(15, a0), (0, a1), (0, a2), (0, a3), (99, 0)], [(0, 60), (0, a3)], (jup (jup s a0 1 0) a0 0 0))) from rfl) ?_
          refine AT.ite (x := (0, 0, 0)) (by decide +kernel) (show jbr (.if_icmp .le 9) (37, [(15, a0), (0, a1), (0, a2), (0, a3), (99, 0)], [(0, 60), (0, a3)], (jup (jup s a0 1 0) a0 0 0)) = some (60 < (w32 a3), (40, [(15, a0), (0, a1), (0, a2), (0, a3), (99, 0)], [], (jup (jup s a0 1 0) a0 0 0)), (46, [(15, a0), (0, a1), (0, a2), (0, a3), (99, 0)], [], (jup (jup s a0 1 0) a0 0 0))) from rfl) H (fun H => ?_) (fun H => ?_)
          · refine AT.seq [(40, .aload_n 0, 1, (0, 0, 0)), (41, .iconst 5, 1, (0, 0, 0))] (by decide +kernel) (show jrun _ (40, [(15, a0), (0, a1), (0, a2), (0, a3), (99, 0)], [], (jup (jup s a0 1 0) a0 0 0)) = some ([], (42, [(15, a0), (0, a1), (0, a2), (0, a3), (99, 0)], [(0, 5), (15, a0)], (jup (jup s a0 1 0) a0 0 0))) from rfl) ?_
            obtain ⟨v4, s4, h4, H⟩ := jb_some H
            refine AT.callV (As := [(0, 5)]) (cl := 11) (b := a0) (st := []) (i := 87) (pos := 6102) kMd_no (by decide +kernel) rfl (by decide +kernel) rfl rfl (by omega) (Md_no_ok h4) ?_
            show AT sMd_tray 1 (45, [(15, a0), (0, a1), (0, a2), (0, a3), (99, 0)], [(0, v4)], s4) o
            exact AT.retzH (by decide +kernel) H
          · refine AT.seq [(46, .iload_n 3, 1, (0, 0, 0))] (by decide +kernel) (show jrun _ (46, [(15, a0), (0, a1), (0, a2), (0, a3), (99, 0)], [], (jup (jup s a0 1 0) a0 0 0)) = some ([], (47, [(15, a0), (0, a1), (0, a2), (0, a3), (99, 0)], [(0, a3)], (jup (jup s a0 1 0) a0 0 0))) from rfl) ?_
            refine AT.ite (x := (0, 0, 0)) (by decide +kernel) (show jbr (.ifCond .ge 10) (47, [(15, a0), (0, a1), (0, a2), (0, a3), (99, 0)], [(0, a3)], (jup (jup s a0 1 0) a0 0 0)) = some ((w32 a3) < 0, (50, [(15, a0), (0, a1), (0, a2), (0, a3), (99, 0)], [], (jup (jup s a0 1 0) a0 0 0)), (57, [(15, a0), (0, a1), (0, a2), (0, a3), (99, 0)], [], (jup (jup s a0 1 0) a0 0 0))) from rfl) H (fun H => ?_) (fun H => ?_)
            · refine AT.seq [(50, .aload_n 0, 1, (0, 0, 0)), (51, .bipush 6, 2, (0, 0, 0))] (by decide +kernel) (show jrun _ (50, [(15, a0), (0, a1), (0, a2), (0, a3), (99, 0)], [], (jup (jup s a0 1 0) a0 0 0)) = some ([], (53, [(15, a0), (0, a1), (0, a2), (0, a3), (99, 0)], [(0, 6), (15, a0)], (jup (jup s a0 1 0) a0 0 0))) from rfl) ?_
              obtain ⟨v5, s5, h5, H⟩ := jb_some H
              refine AT.callV (As := [(0, 6)]) (cl := 11) (b := a0) (st := []) (i := 87) (pos := 6102) kMd_no (by decide +kernel) rfl (by decide +kernel) rfl rfl (by omega) (Md_no_ok h5) ?_
              show AT sMd_tray 1 (56, [(15, a0), (0, a1), (0, a2), (0, a3), (99, 0)], [(0, v5)], s5) o
              exact AT.retzH (by decide +kernel) H
            · refine AT.blk (g := (0 ≤ (w32 a1) ∧ (w32 a1) < 4) ∧ (0 ≤ (w32 a1) ∧ (w32 a1) < 4)) [(57, .aload_n 0, 1, (0, 0, 0)), (58, .getfield 13, 3, (5191, 1104, 0)), (61, .iload_n 1, 1, (0, 0, 0)), (62, .iload_n 2, 1, (0, 0, 0)), (63, .iastore, 1, (0, 0, 0)), (64, .aload_n 0, 1, (0, 0, 0)), (65, .getfield 17, 3, (5192, 1105, 0)), (68, .iload_n 1, 1, (0, 0, 0)), (69, .iload_n 3, 1, (0, 0, 0)), (70, .iastore, 1, (0, 0, 0)), (71, .iconst 0, 1, (0, 0, 0)), (72, .istore 4, 2, (0, 0, 0))] (by decide +kernel) (show jrun _ (57, [(15, a0), (0, a1), (0, a2), (0, a3), (99, 0)], [], (jup (jup s a0 1 0) a0 0 0)) = some ([(0 ≤ (w32 a1) ∧ (w32 a1) < 4), (0 ≤ (w32 a1) ∧ (w32 a1) < 4)], (74, [(15, a0), (0, a1), (0, a2), (0, a3), (0, 0)], [], (jup (jup (jup (jup s a0 1 0) a0 0 0) (a0 + 1) (w32 a1) a2) (a0 + 2) (w32 a1) a3))) from rfl) (fun h => ⟨h.1, h.2⟩) H (fun H => ?_)
              exact AT.weak (L' := [(15, a0), (0, a1), (99, 0), (0, a3), (0, 0)]) (jleK (jleK (jleJ (jleK (jleK jle0))))) (Md_tray_74_ok  jFU _ _ _ _ _ H)
    · refine AT.seq [(28, .aload_n 0, 1, (0, 0, 0)), (29, .iconst 1, 1, (0, 0, 0))] (by decide +kernel) (show jrun _ (28, [(15, a0), (0, a1), (0, a2), (0, a3), (99, 0)], [], (jup (jup s a0 1 0) a0 0 0)) = some ([], (30, [(15, a0), (0, a1), (0, a2), (0, a3), (99, 0)], [(0, 1), (15, a0)], (jup (jup s a0 1 0) a0 0 0))) from rfl) ?_
      obtain ⟨v6, s6, h6, H⟩ := jb_some H
      refine AT.callV (As := [(0, 1)]) (cl := 11) (b := a0) (st := []) (i := 87) (pos := 6102) kMd_no (by decide +kernel) rfl (by decide +kernel) rfl rfl (by omega) (Md_no_ok h6) ?_
      show AT sMd_tray 1 (33, [(15, a0), (0, a1), (0, a2), (0, a3), (99, 0)], [(0, v6)], s6) o
      exact AT.retzH (by decide +kernel) H
def sMd_trayed : jS := (⟨"JellyCathedralModel", "trayed", "(I)I"⟩, prog_13_method_12_code, 2, 1, [15, 0], 0)
theorem kMd_trayed : jmk sMd_trayed = true := jmk_of 6117 1012 6116 42 (by decide +kernel)
set_option maxRecDepth 100000 in
theorem Md_trayed_ok {a0 a1 : Int} {s : jM} {o : Int × jM} (H : Md_trayed a0 a1 s = some o) : MK sMd_trayed 0 [(15, a0), (0, a1)] s o := by
  refine MK.of kMd_trayed rfl ?_
  show AT sMd_trayed 0 (0, [(15, a0), (0, a1)], [], s) o
  unfold Md_trayed at H
  refine AT.seq [(0, .iload_n 1, 1, (0, 0, 0))] (by decide +kernel) (show jrun _ (0, [(15, a0), (0, a1)], [], s) = some ([], (1, [(15, a0), (0, a1)], [(0, a1)], s)) from rfl) ?_
  refine AT.ite (x := (0, 0, 0)) (by decide +kernel) (show jbr (.ifCond .lt 8) (1, [(15, a0), (0, a1)], [(0, a1)], s) = some ((w32 a1) < 0, (9, [(15, a0), (0, a1)], [], s), (4, [(15, a0), (0, a1)], [], s)) from rfl) H (fun H => ?_) (fun H => ?_)
  · refine AT.seq [(9, .iconst 1, 1, (0, 0, 0)), (10, .goto 17, 3, (0, 0, 0))] (by decide +kernel) (show jrun _ (9, [(15, a0), (0, a1)], [], s) = some ([], (27, [(15, a0), (0, a1)], [(0, 1)], s)) from rfl) ?_
    exact AT.retiH (by decide +kernel) H
  · refine AT.seq [(4, .iload_n 1, 1, (0, 0, 0)), (5, .iconst 4, 1, (0, 0, 0))] (by decide +kernel) (show jrun _ (4, [(15, a0), (0, a1)], [], s) = some ([], (6, [(15, a0), (0, a1)], [(0, 4), (0, a1)], s)) from rfl) ?_
    refine AT.ite (x := (0, 0, 0)) (by decide +kernel) (show jbr (.if_icmp .lt 7) (6, [(15, a0), (0, a1)], [(0, 4), (0, a1)], s) = some ((w32 a1) < 4, (13, [(15, a0), (0, a1)], [], s), (9, [(15, a0), (0, a1)], [], s)) from rfl) H (fun H => ?_) (fun H => ?_)
    · refine AT.blk (g := (0 ≤ (w32 a1) ∧ (w32 a1) < 4)) [(13, .aload_n 0, 1, (0, 0, 0)), (14, .getfield 17, 3, (5192, 1105, 0)), (17, .iload_n 1, 1, (0, 0, 0)), (18, .iaload, 1, (0, 0, 0))] (by decide +kernel) (show jrun _ (13, [(15, a0), (0, a1)], [], s) = some ([(0 ≤ (w32 a1) ∧ (w32 a1) < 4)], (19, [(15, a0), (0, a1)], [(0, (s (a0 + 2) (w32 a1)))], s)) from rfl) (fun h => h) H (fun H => ?_)
      refine AT.ite (x := (0, 0, 0)) (by decide +kernel) (show jbr (.ifCond .ge 7) (19, [(15, a0), (0, a1)], [(0, (s (a0 + 2) (w32 a1)))], s) = some ((w32 (s (a0 + 2) (w32 a1))) < 0, (22, [(15, a0), (0, a1)], [], s), (26, [(15, a0), (0, a1)], [], s)) from rfl) H (fun H => ?_) (fun H => ?_)
      · refine AT.seq [(22, .iconst 3, 1, (0, 0, 0)), (23, .goto 4, 3, (0, 0, 0))] (by decide +kernel) (show jrun _ (22, [(15, a0), (0, a1)], [], s) = some ([], (27, [(15, a0), (0, a1)], [(0, 3)], s)) from rfl) ?_
        exact AT.retiH (by decide +kernel) H
      · refine AT.seq [(26, .iconst 0, 1, (0, 0, 0))] (by decide +kernel) (show jrun _ (26, [(15, a0), (0, a1)], [], s) = some ([], (27, [(15, a0), (0, a1)], [(0, 0)], s)) from rfl) ?_
        exact AT.retiH (by decide +kernel) H
    · refine AT.seq [(9, .iconst 1, 1, (0, 0, 0)), (10, .goto 17, 3, (0, 0, 0))] (by decide +kernel) (show jrun _ (9, [(15, a0), (0, a1)], [], s) = some ([], (27, [(15, a0), (0, a1)], [(0, 1)], s)) from rfl) ?_
      exact AT.retiH (by decide +kernel) H
def sMd_placed : jS := (⟨"JellyCathedralModel", "placed", "(II)I"⟩, prog_13_method_13_code, 4, 1, [15, 0, 0], 0)
theorem kMd_placed : jmk sMd_placed = true := jmk_of 6113 1012 6112 41 (by decide +kernel)
set_option maxRecDepth 100000 in
theorem Md_placed_ok {a0 a1 a2 : Int} {s : jM} {o : Int × jM} (H : Md_placed a0 a1 a2 s = some o) : MK sMd_placed 1 [(15, a0), (0, a1), (0, a2)] s o := by
  refine MK.of kMd_placed rfl ?_
  show AT sMd_placed 1 (0, [(15, a0), (0, a1), (0, a2), (99, 0)], [], s) o
  unfold Md_placed at H
  refine AT.seq [(0, .aload_n 0, 1, (0, 0, 0)), (1, .iload_n 1, 1, (0, 0, 0))] (by decide +kernel) (show jrun _ (0, [(15, a0), (0, a1), (0, a2), (99, 0)], [], s) = some ([], (2, [(15, a0), (0, a1), (0, a2), (99, 0)], [(0, a1), (15, a0)], s)) from rfl) ?_
  obtain ⟨v1, s1, h1, H⟩ := jb_some H
  refine AT.callV (As := [(0, a1)]) (cl := 11) (b := a0) (st := []) (i := 91) (pos := 6114) kMd_trayed (by decide +kernel) rfl (by decide +kernel) rfl rfl (by omega) (Md_trayed_ok h1) ?_
  show AT sMd_placed 1 (5, [(15, a0), (0, a1), (0, a2), (99, 0)], [(0, v1)], s1) o
  refine AT.seq [(5, .istore_n 3, 1, (0, 0, 0)), (6, .iload_n 3, 1, (0, 0, 0))] (by decide +kernel) (show jrun _ (5, [(15, a0), (0, a1), (0, a2), (99, 0)], [(0, v1)], s1) = some ([], (7, [(15, a0), (0, a1), (0, a2), (0, v1)], [(0, v1)], s1)) from rfl) ?_
  refine AT.ite (x := (0, 0, 0)) (by decide +kernel) (show jbr (.ifCond .le 7) (7, [(15, a0), (0, a1), (0, a2), (0, v1)], [(0, v1)], s1) = some (0 < (w32 v1), (10, [(15, a0), (0, a1), (0, a2), (0, v1)], [], s1), (14, [(15, a0), (0, a1), (0, a2), (0, v1)], [], s1)) from rfl) H (fun H => ?_) (fun H => ?_)
  · refine AT.seq [(10, .iload_n 3, 1, (0, 0, 0)), (11, .goto 22, 3, (0, 0, 0))] (by decide +kernel) (show jrun _ (10, [(15, a0), (0, a1), (0, a2), (0, v1)], [], s1) = some ([], (33, [(15, a0), (0, a1), (0, a2), (0, v1)], [(0, v1)], s1)) from rfl) ?_
    exact AT.retiH (by decide +kernel) H
  · refine AT.seq [(14, .iload_n 2, 1, (0, 0, 0))] (by decide +kernel) (show jrun _ (14, [(15, a0), (0, a1), (0, a2), (0, v1)], [], s1) = some ([], (15, [(15, a0), (0, a1), (0, a2), (0, v1)], [(0, a2)], s1)) from rfl) ?_
    refine AT.ite (x := (0, 0, 0)) (by decide +kernel) (show jbr (.ifCond .lt 13) (15, [(15, a0), (0, a1), (0, a2), (0, v1)], [(0, a2)], s1) = some ((w32 a2) < 0, (28, [(15, a0), (0, a1), (0, a2), (0, v1)], [], s1), (18, [(15, a0), (0, a1), (0, a2), (0, v1)], [], s1)) from rfl) H (fun H => ?_) (fun H => ?_)
    · refine AT.seq [(28, .iconst 4, 1, (0, 0, 0)), (29, .goto 4, 3, (0, 0, 0))] (by decide +kernel) (show jrun _ (28, [(15, a0), (0, a1), (0, a2), (0, v1)], [], s1) = some ([], (33, [(15, a0), (0, a1), (0, a2), (0, v1)], [(0, 4)], s1)) from rfl) ?_
      exact AT.retiH (by decide +kernel) H
    · refine AT.blk (g := (0 ≤ (w32 a1) ∧ (w32 a1) < 4)) [(18, .iload_n 2, 1, (0, 0, 0)), (19, .aload_n 0, 1, (0, 0, 0)), (20, .getfield 17, 3, (5192, 1105, 0)), (23, .iload_n 1, 1, (0, 0, 0)), (24, .iaload, 1, (0, 0, 0))] (by decide +kernel) (show jrun _ (18, [(15, a0), (0, a1), (0, a2), (0, v1)], [], s1) = some ([(0 ≤ (w32 a1) ∧ (w32 a1) < 4)], (25, [(15, a0), (0, a1), (0, a2), (0, v1)], [(0, (s1 (a0 + 2) (w32 a1))), (0, a2)], s1)) from rfl) (fun h => h) H (fun H => ?_)
      refine AT.ite (x := (0, 0, 0)) (by decide +kernel) (show jbr (.if_icmp .lt 7) (25, [(15, a0), (0, a1), (0, a2), (0, v1)], [(0, (s1 (a0 + 2) (w32 a1))), (0, a2)], s1) = some ((w32 a2) < (w32 (s1 (a0 + 2) (w32 a1))), (32, [(15, a0), (0, a1), (0, a2), (0, v1)], [], s1), (28, [(15, a0), (0, a1), (0, a2), (0, v1)], [], s1)) from rfl) H (fun H => ?_) (fun H => ?_)
      · refine AT.seq [(32, .iconst 0, 1, (0, 0, 0))] (by decide +kernel) (show jrun _ (32, [(15, a0), (0, a1), (0, a2), (0, v1)], [], s1) = some ([], (33, [(15, a0), (0, a1), (0, a2), (0, v1)], [(0, 0)], s1)) from rfl) ?_
        exact AT.retiH (by decide +kernel) H
      · refine AT.seq [(28, .iconst 4, 1, (0, 0, 0)), (29, .goto 4, 3, (0, 0, 0))] (by decide +kernel) (show jrun _ (28, [(15, a0), (0, a1), (0, a2), (0, v1)], [], s1) = some ([], (33, [(15, a0), (0, a1), (0, a2), (0, v1)], [(0, 4)], s1)) from rfl) ?_
        exact AT.retiH (by decide +kernel) H
def sMd_write : jS := (⟨"JellyCathedralModel", "write", "(IIJ)Z"⟩, prog_13_method_14_code, 5, 3, [15, 0, 0, 1], 0)
theorem kMd_write : jmk sMd_write = true := jmk_of 6109 1012 6107 6108 (by decide +kernel)
set_option maxRecDepth 100000 in
theorem Md_write_ok {a0 a1 a2 a3 : Int} {s : jM} {o : Int × jM} (H : Md_write a0 a1 a2 a3 s = some o) : MK sMd_write 2 [(15, a0), (0, a1), (0, a2), (1, a3)] s o := by
  refine MK.of kMd_write rfl ?_
  show AT sMd_write 2 (0, [(15, a0), (0, a1), (0, a2), (1, a3), (99, 0)], [], s) o
  unfold Md_write at H
  refine AT.seq [(0, .aload_n 0, 1, (0, 0, 0)), (1, .iconst 0, 1, (0, 0, 0)), (2, .putfield 72, 3, (5188, 1101, 0)), (5, .aload_n 0, 1, (0, 0, 0)), (6, .aload_n 0, 1, (0, 0, 0)), (7, .iload_n 1, 1, (0, 0, 0)), (8, .iload_n 2, 1, (0, 0, 0))] (by decide +kernel) (show jrun _ (0, [(15, a0), (0, a1), (0, a2), (1, a3), (99, 0)], [], s) = some ([], (9, [(15, a0), (0, a1), (0, a2), (1, a3), (99, 0)], [(0, a2), (0, a1), (15, a0), (15, a0)], (jup s a0 1 0))) from rfl) ?_
  obtain ⟨v1, s1, h1, H⟩ := jb_some H
  refine AT.callV (As := [(0, a1), (0, a2)]) (cl := 11) (b := a0) (st := [(15, a0)]) (i := 95) (pos := 6110) kMd_placed (by decide +kernel) rfl (by decide +kernel) rfl rfl (by omega) (Md_placed_ok h1) ?_
  show AT sMd_write 2 (12, [(15, a0), (0, a1), (0, a2), (1, a3), (99, 0)], [(0, v1), (15, a0)], s1) o
  refine AT.seq [(12, .putfield 75, 3, (5187, 1100, 0)), (15, .aload_n 0, 1, (0, 0, 0)), (16, .getfield 75, 3, (5187, 1100, 0))] (by decide +kernel) (show jrun _ (12, [(15, a0), (0, a1), (0, a2), (1, a3), (99, 0)], [(0, v1), (15, a0)], s1) = some ([], (19, [(15, a0), (0, a1), (0, a2), (1, a3), (99, 0)], [(0, ((jup s1 a0 0 v1) a0 0))], (jup s1 a0 0 v1))) from rfl) ?_
  refine AT.ite (x := (0, 0, 0)) (by decide +kernel) (show jbr (.ifCond .le 5) (19, [(15, a0), (0, a1), (0, a2), (1, a3), (99, 0)], [(0, ((jup s1 a0 0 v1) a0 0))], (jup s1 a0 0 v1)) = some (0 < (w32 ((jup s1 a0 0 v1) a0 0)), (22, [(15, a0), (0, a1), (0, a2), (1, a3), (99, 0)], [], (jup s1 a0 0 v1)), (24, [(15, a0), (0, a1), (0, a2), (1, a3), (99, 0)], [], (jup s1 a0 0 v1))) from rfl) H (fun H => ?_) (fun H => ?_)
  · refine AT.seq [(22, .iconst 0, 1, (0, 0, 0))] (by decide +kernel) (show jrun _ (22, [(15, a0), (0, a1), (0, a2), (1, a3), (99, 0)], [], (jup s1 a0 0 v1)) = some ([], (23, [(15, a0), (0, a1), (0, a2), (1, a3), (99, 0)], [(0, 0)], (jup s1 a0 0 v1))) from rfl) ?_
    exact AT.retzC (by decide +kernel) (by decide) H
  · refine AT.blk (g := (0 ≤ (w32 a1) ∧ (w32 a1) < 4)) [(24, .aload_n 0, 1, (0, 0, 0)), (25, .getfield 20, 3, (5193, 1106, 0)), (28, .bipush 60, 2, (0, 0, 0)), (30, .iload_n 1, 1, (0, 0, 0)), (31, .imul, 1, (0, 0, 0)), (32, .iload_n 2, 1, (0, 0, 0)), (33, .iadd, 1, (0, 0, 0)), (34, .aload_n 0, 1, (0, 0, 0)), (35, .getfield 13, 3, (5191, 1104, 0)), (38, .iload_n 1, 1, (0, 0, 0)), (39, .iaload, 1, (0, 0, 0)), (40, .lload_n 3, 1, (0, 0, 0))] (by decide +kernel) (show jrun _ (24, [(15, a0), (0, a1), (0, a2), (1, a3), (99, 0)], [], (jup s1 a0 0 v1)) = some ([(0 ≤ (w32 a1) ∧ (w32 a1) < 4)], (41, [(15, a0), (0, a1), (0, a2), (1, a3), (99, 0)], [(1, a3), (0, ((jup s1 a0 0 v1) (a0 + 1) (w32 a1))), (0, ((60 * a1) + a2)), (39, (a0 + 3))], (jup s1 a0 0 v1))) from rfl) (fun h => h) H (fun H => ?_)
    obtain ⟨v2, s2, h2, H⟩ := jb_some H
    refine AT.callS (As := [(0, ((jup s1 a0 0 v1) (a0 + 1) (w32 a1))), (1, a3)]) (st := [(0, ((60 * a1) + a2)), (39, (a0 + 3))]) (i := 99) (pos := 6118) kMd_cut (by decide +kernel) rfl rfl rfl (by omega) (Md_cut_ok h2) ?_
    show AT sMd_write 2 (44, [(15, a0), (0, a1), (0, a2), (1, a3), (99, 0)], [(1, v2), (0, ((60 * a1) + a2)), (39, (a0 + 3))], s2) o
    refine AT.blk (g := (0 ≤ (w32 ((60 * a1) + a2)) ∧ (w32 ((60 * a1) + a2)) < 240)) [(44, .lastore, 1, (0, 0, 0)), (45, .iconst 1, 1, (0, 0, 0))] (by decide +kernel) (show jrun _ (44, [(15, a0), (0, a1), (0, a2), (1, a3), (99, 0)], [(1, v2), (0, ((60 * a1) + a2)), (39, (a0 + 3))], s2) = some ([(0 ≤ (w32 ((60 * a1) + a2)) ∧ (w32 ((60 * a1) + a2)) < 240)], (46, [(15, a0), (0, a1), (0, a2), (1, a3), (99, 0)], [(0, 1)], (jup s2 (a0 + 3) (w32 ((60 * a1) + a2)) v2))) from rfl) (fun h => h) H (fun H => ?_)
    exact AT.retzC (by decide +kernel) (by decide) H
def sMd_read : jS := (⟨"JellyCathedralModel", "read", "(II)J"⟩, prog_13_method_15_code, 3, 2, [15, 0, 0], 0)
theorem kMd_read : jmk sMd_read = true := jmk_of 6124 1012 6122 6123 (by decide +kernel)
set_option maxRecDepth 100000 in
theorem Md_read_ok {a0 a1 a2 : Int} {s : jM} {o : Int × jM} (H : Md_read a0 a1 a2 s = some o) : MK sMd_read 2 [(15, a0), (0, a1), (0, a2)] s o := by
  refine MK.of kMd_read rfl ?_
  show AT sMd_read 2 (0, [(15, a0), (0, a1), (0, a2)], [], s) o
  unfold Md_read at H
  refine AT.seq [(0, .aload_n 0, 1, (0, 0, 0)), (1, .iconst 0, 1, (0, 0, 0)), (2, .putfield 72, 3, (5188, 1101, 0)), (5, .aload_n 0, 1, (0, 0, 0)), (6, .aload_n 0, 1, (0, 0, 0)), (7, .iload_n 1, 1, (0, 0, 0)), (8, .iload_n 2, 1, (0, 0, 0))] (by decide +kernel) (show jrun _ (0, [(15, a0), (0, a1), (0, a2)], [], s) = some ([], (9, [(15, a0), (0, a1), (0, a2)], [(0, a2), (0, a1), (15, a0), (15, a0)], (jup s a0 1 0))) from rfl) ?_
  obtain ⟨v1, s1, h1, H⟩ := jb_some H
  refine AT.callV (As := [(0, a1), (0, a2)]) (cl := 11) (b := a0) (st := [(15, a0)]) (i := 95) (pos := 6110) kMd_placed (by decide +kernel) rfl (by decide +kernel) rfl rfl (by omega) (Md_placed_ok h1) ?_
  show AT sMd_read 2 (12, [(15, a0), (0, a1), (0, a2)], [(0, v1), (15, a0)], s1) o
  refine AT.seq [(12, .putfield 75, 3, (5187, 1100, 0)), (15, .aload_n 0, 1, (0, 0, 0)), (16, .getfield 75, 3, (5187, 1100, 0))] (by decide +kernel) (show jrun _ (12, [(15, a0), (0, a1), (0, a2)], [(0, v1), (15, a0)], s1) = some ([], (19, [(15, a0), (0, a1), (0, a2)], [(0, ((jup s1 a0 0 v1) a0 0))], (jup s1 a0 0 v1))) from rfl) ?_
  refine AT.ite (x := (0, 0, 0)) (by decide +kernel) (show jbr (.ifCond .le 9) (19, [(15, a0), (0, a1), (0, a2)], [(0, ((jup s1 a0 0 v1) a0 0))], (jup s1 a0 0 v1)) = some (0 < (w32 ((jup s1 a0 0 v1) a0 0)), (22, [(15, a0), (0, a1), (0, a2)], [], (jup s1 a0 0 v1)), (28, [(15, a0), (0, a1), (0, a2)], [], (jup s1 a0 0 v1))) from rfl) H (fun H => ?_) (fun H => ?_)
  · refine AT.seq [(22, .ldc2_w 103, 3, (6125, 0, (-1))), (25, .goto 14, 3, (0, 0, 0))] (by decide +kernel) (show jrun _ (22, [(15, a0), (0, a1), (0, a2)], [], (jup s1 a0 0 v1)) = some ([], (39, [(15, a0), (0, a1), (0, a2)], [(1, (-1))], (jup s1 a0 0 v1))) from rfl) ?_
    exact AT.retlH (by decide +kernel) H
  · refine AT.blk (g := (0 ≤ (w32 ((60 * a1) + a2)) ∧ (w32 ((60 * a1) + a2)) < 240)) [(28, .aload_n 0, 1, (0, 0, 0)), (29, .getfield 20, 3, (5193, 1106, 0)), (32, .bipush 60, 2, (0, 0, 0)), (34, .iload_n 1, 1, (0, 0, 0)), (35, .imul, 1, (0, 0, 0)), (36, .iload_n 2, 1, (0, 0, 0)), (37, .iadd, 1, (0, 0, 0)), (38, .laload, 1, (0, 0, 0))] (by decide +kernel) (show jrun _ (28, [(15, a0), (0, a1), (0, a2)], [], (jup s1 a0 0 v1)) = some ([(0 ≤ (w32 ((60 * a1) + a2)) ∧ (w32 ((60 * a1) + a2)) < 240)], (39, [(15, a0), (0, a1), (0, a2)], [(1, ((jup s1 a0 0 v1) (a0 + 3) (w32 ((60 * a1) + a2))))], (jup s1 a0 0 v1))) from rfl) (fun h => h) H (fun H => ?_)
    exact AT.retlH (by decide +kernel) H
def sMd_decant : jS := (⟨"JellyCathedralModel", "decant", "(IIIII)Z"⟩, prog_13_method_16_code, 9, 3, [15, 0, 0, 0, 0, 0], 0)
theorem kMd_decant : jmk sMd_decant = true := jmk_of 6129 1012 6127 6128 (by decide +kernel)
set_option maxRecDepth 100000 in
theorem Md_decant_182_ok {o : Int × jM} {k158 : Int → Int → Int → Int → Int → Int → Int → Int → jM → Option (Int × jM)} (hk158 : ∀ (x0 x1 x2 x3 x4 x5 x6 x7 : Int) (s : jM), k158 x0 x1 x2 x3 x4 x5 x6 x7 s = some o → AT sMd_decant 1 (158, [(15, x0), (0, x1), (0, x2), (0, x3), (0, x4), (0, x5), (0, x6), (0, x7), (99, 0)], [], s) o) {x0 x1 x2 x3 x4 x5 x6 x7 t0 : Int} {s : jM} (H : Md_decant_182 k158 x0 x1 x2 x3 x4 x5 x6 x7 t0 s = some o) : AT sMd_decant 1 (182, [(15, x0), (0, x1), (0, x2), (0, x3), (0, x4), (0, x5), (0, x6), (0, x7), (99, 0)], [(0, t0)], s) o := by
  unfold Md_decant_182 at H
  refine AT.blk (g := (0 ≤ (w32 (((60 * x1) + x2) + t0)) ∧ (w32 (((60 * x1) + x2) + t0)) < 240) ∧ (0 ≤ (w32 (((60 * x3) + x4) + t0)) ∧ (w32 (((60 * x3) + x4) + t0)) < 240)) [(182, .istore 8, 2, (0, 0, 0)), (184, .aload_n 0, 1, (0, 0, 0)), (185, .getfield 20, 3, (5193, 1106, 0)), (188, .bipush 60, 2, (0, 0, 0)), (190, .iload_n 3, 1, (0, 0, 0)), (191, .imul, 1, (0, 0, 0)), (192, .iload 4, 2, (0, 0, 0)), (194, .iadd, 1, (0, 0, 0)), (195, .iload 8, 2, (0, 0, 0)), (197, .iadd, 1, (0, 0, 0)), (198, .aload_n 0, 1, (0, 0, 0)), (199, .getfield 20, 3, (5193, 1106, 0)), (202, .bipush 60, 2, (0, 0, 0)), (204, .iload_n 1, 1, (0, 0, 0)), (205, .imul, 1, (0, 0, 0)), (206, .iload_n 2, 1, (0, 0, 0)), (207, .iadd, 1, (0, 0, 0)), (208, .iload 8, 2, (0, 0, 0)), (210, .iadd, 1, (0, 0, 0)), (211, .laload, 1, (0, 0, 0)), (212, .lastore, 1, (0, 0, 0)), (213, .iinc 7 1, 3, (0, 0, 0)), (216, .goto (-58), 3, (0, 0, 0))] (by decide +kernel) (show jrun _ (182, [(15, x0), (0, x1), (0, x2), (0, x3), (0, x4), (0, x5), (0, x6), (0, x7), (99, 0)], [(0, t0)], s) = some ([(0 ≤ (w32 (((60 * x1) + x2) + t0)) ∧ (w32 (((60 * x1) + x2) + t0)) < 240), (0 ≤ (w32 (((60 * x3) + x4) + t0)) ∧ (w32 (((60 * x3) + x4) + t0)) < 240)], (158, [(15, x0), (0, x1), (0, x2), (0, x3), (0, x4), (0, x5), (0, x6), (0, (x7 + 1)), (0, t0)], [], (jup s (x0 + 3) (w32 (((60 * x3) + x4) + t0)) (s (x0 + 3) (w32 (((60 * x1) + x2) + t0)))))) from rfl) (fun h => ⟨h.1, h.2⟩) H (fun H => ?_)
  exact AT.weak (L' := [(15, x0), (0, x1), (0, x2), (0, x3), (0, x4), (0, x5), (0, x6), (0, (x7 + 1)), (99, 0)]) (jleK (jleK (jleK (jleK (jleK (jleK (jleK (jleK (jleJ jle0))))))))) (hk158 _ _ _ _ _ _ _ _ _ H)
set_option maxRecDepth 100000 in
theorem Md_decant_158_ok {o : Int × jM} : ∀ (n : Nat) (x0 x1 x2 x3 x4 x5 x6 x7 : Int) (s : jM), Md_decant_158  n x0 x1 x2 x3 x4 x5 x6 x7 s = some o → AT sMd_decant 1 (158, [(15, x0), (0, x1), (0, x2), (0, x3), (0, x4), (0, x5), (0, x6), (0, x7), (99, 0)], [], s) o := by
  intro n
  induction n with
  | zero =>
    intro x0 x1 x2 x3 x4 x5 x6 x7 s H
    have H : (none : Option (Int × jM)) = some o := H
    cases H
  | succ n ih =>
    intro x0 x1 x2 x3 x4 x5 x6 x7 s H
    rw [Md_decant_158] at H
    refine AT.seq [(158, .iload 7, 2, (0, 0, 0)), (160, .iload 5, 2, (0, 0, 0))] (by decide +kernel) (show jrun _ (158, [(15, x0), (0, x1), (0, x2), (0, x3), (0, x4), (0, x5), (0, x6), (0, x7), (99, 0)], [], s) = some ([], (162, [(15, x0), (0, x1), (0, x2), (0, x3), (0, x4), (0, x5), (0, x6), (0, x7), (99, 0)], [(0, x5), (0, x7)], s)) from rfl) ?_
    refine AT.ite (x := (0, 0, 0)) (by decide +kernel) (show jbr (.if_icmp .ge 57) (162, [(15, x0), (0, x1), (0, x2), (0, x3), (0, x4), (0, x5), (0, x6), (0, x7), (99, 0)], [(0, x5), (0, x7)], s) = some ((w32 x7) < (w32 x5), (165, [(15, x0), (0, x1), (0, x2), (0, x3), (0, x4), (0, x5), (0, x6), (0, x7), (99, 0)], [], s), (219, [(15, x0), (0, x1), (0, x2), (0, x3), (0, x4), (0, x5), (0, x6), (0, x7), (99, 0)], [], s)) from rfl) H (fun H => ?_) (fun H => ?_)
    · refine AT.seq [(165, .iload 6, 2, (0, 0, 0))] (by decide +kernel) (show jrun _ (165, [(15, x0), (0, x1), (0, x2), (0, x3), (0, x4), (0, x5), (0, x6), (0, x7), (99, 0)], [], s) = some ([], (167, [(15, x0), (0, x1), (0, x2), (0, x3), (0, x4), (0, x5), (0, x6), (0, x7), (99, 0)], [(0, x6)], s)) from rfl) ?_
      refine AT.ite (x := (0, 0, 0)) (by decide +kernel) (show jbr (.ifCond .eq 13) (167, [(15, x0), (0, x1), (0, x2), (0, x3), (0, x4), (0, x5), (0, x6), (0, x7), (99, 0)], [(0, x6)], s) = some ((w32 x6) = 0, (180, [(15, x0), (0, x1), (0, x2), (0, x3), (0, x4), (0, x5), (0, x6), (0, x7), (99, 0)], [], s), (170, [(15, x0), (0, x1), (0, x2), (0, x3), (0, x4), (0, x5), (0, x6), (0, x7), (99, 0)], [], s)) from rfl) H (fun H => ?_) (fun H => ?_)
      · refine AT.seq [(180, .iload 7, 2, (0, 0, 0))] (by decide +kernel) (show jrun _ (180, [(15, x0), (0, x1), (0, x2), (0, x3), (0, x4), (0, x5), (0, x6), (0, x7), (99, 0)], [], s) = some ([], (182, [(15, x0), (0, x1), (0, x2), (0, x3), (0, x4), (0, x5), (0, x6), (0, x7), (99, 0)], [(0, x7)], s)) from rfl) ?_
        exact Md_decant_182_ok ih H
      · refine AT.seq [(170, .iload 5, 2, (0, 0, 0)), (172, .iconst 1, 1, (0, 0, 0)), (173, .isub, 1, (0, 0, 0)), (174, .iload 7, 2, (0, 0, 0)), (176, .isub, 1, (0, 0, 0)), (177, .goto 5, 3, (0, 0, 0))] (by decide +kernel) (show jrun _ (170, [(15, x0), (0, x1), (0, x2), (0, x3), (0, x4), (0, x5), (0, x6), (0, x7), (99, 0)], [], s) = some ([], (182, [(15, x0), (0, x1), (0, x2), (0, x3), (0, x4), (0, x5), (0, x6), (0, x7), (99, 0)], [(0, ((x5 - 1) - x7))], s)) from rfl) ?_
        exact Md_decant_182_ok ih H
    · refine AT.seq [(219, .iconst 1, 1, (0, 0, 0))] (by decide +kernel) (show jrun _ (219, [(15, x0), (0, x1), (0, x2), (0, x3), (0, x4), (0, x5), (0, x6), (0, x7), (99, 0)], [], s) = some ([], (220, [(15, x0), (0, x1), (0, x2), (0, x3), (0, x4), (0, x5), (0, x6), (0, x7), (99, 0)], [(0, 1)], s)) from rfl) ?_
      exact AT.retzC (by decide +kernel) (by decide) H
set_option maxRecDepth 100000 in
theorem Md_decant_ok {a0 a1 a2 a3 a4 a5 : Int} {s : jM} {o : Int × jM} (H : Md_decant a0 a1 a2 a3 a4 a5 s = some o) : MK sMd_decant 1 [(15, a0), (0, a1), (0, a2), (0, a3), (0, a4), (0, a5)] s o := by
  refine MK.of kMd_decant rfl ?_
  show AT sMd_decant 1 (0, [(15, a0), (0, a1), (0, a2), (0, a3), (0, a4), (0, a5), (99, 0), (99, 0), (99, 0)], [], s) o
  unfold Md_decant at H
  refine AT.seq [(0, .aload_n 0, 1, (0, 0, 0)), (1, .iconst 0, 1, (0, 0, 0)), (2, .putfield 72, 3, (5188, 1101, 0)), (5, .aload_n 0, 1, (0, 0, 0)), (6, .iconst 0, 1, (0, 0, 0)), (7, .putfield 75, 3, (5187, 1100, 0)), (10, .iload_n 1, 1, (0, 0, 0))] (by decide +kernel) (show jrun _ (0, [(15, a0), (0, a1), (0, a2), (0, a3), (0, a4), (0, a5), (99, 0), (99, 0), (99, 0)], [], s) = some ([], (11, [(15, a0), (0, a1), (0, a2), (0, a3), (0, a4), (0, a5), (99, 0), (99, 0), (99, 0)], [(0, a1)], (jup (jup s a0 1 0) a0 0 0))) from rfl) ?_
  refine AT.ite (x := (0, 0, 0)) (by decide +kernel) (show jbr (.ifCond .lt 17) (11, [(15, a0), (0, a1), (0, a2), (0, a3), (0, a4), (0, a5), (99, 0), (99, 0), (99, 0)], [(0, a1)], (jup (jup s a0 1 0) a0 0 0)) = some ((w32 a1) < 0, (28, [(15, a0), (0, a1), (0, a2), (0, a3), (0, a4), (0, a5), (99, 0), (99, 0), (99, 0)], [], (jup (jup s a0 1 0) a0 0 0)), (14, [(15, a0), (0, a1), (0, a2), (0, a3), (0, a4), (0, a5), (99, 0), (99, 0), (99, 0)], [], (jup (jup s a0 1 0) a0 0 0))) from rfl) H (fun H => ?_) (fun H => ?_)
  · refine AT.seq [(28, .aload_n 0, 1, (0, 0, 0)), (29, .iconst 1, 1, (0, 0, 0))] (by decide +kernel) (show jrun _ (28, [(15, a0), (0, a1), (0, a2), (0, a3), (0, a4), (0, a5), (99, 0), (99, 0), (99, 0)], [], (jup (jup s a0 1 0) a0 0 0)) = some ([], (30, [(15, a0), (0, a1), (0, a2), (0, a3), (0, a4), (0, a5), (99, 0), (99, 0), (99, 0)], [(0, 1), (15, a0)], (jup (jup s a0 1 0) a0 0 0))) from rfl) ?_
    obtain ⟨v1, s1, h1, H⟩ := jb_some H
    refine AT.callV (As := [(0, 1)]) (cl := 11) (b := a0) (st := []) (i := 87) (pos := 6102) kMd_no (by decide +kernel) rfl (by decide +kernel) rfl rfl (by omega) (Md_no_ok h1) ?_
    show AT sMd_decant 1 (33, [(15, a0), (0, a1), (0, a2), (0, a3), (0, a4), (0, a5), (99, 0), (99, 0), (99, 0)], [(0, v1)], s1) o
    exact AT.retzH (by decide +kernel) H
  · refine AT.seq [(14, .iload_n 1, 1, (0, 0, 0)), (15, .iconst 4, 1, (0, 0, 0))] (by decide +kernel) (show jrun _ (14, [(15, a0), (0, a1), (0, a2), (0, a3), (0, a4), (0, a5), (99, 0), (99, 0), (99, 0)], [], (jup (jup s a0 1 0) a0 0 0)) = some ([], (16, [(15, a0), (0, a1), (0, a2), (0, a3), (0, a4), (0, a5), (99, 0), (99, 0), (99, 0)], [(0, 4), (0, a1)], (jup (jup s a0 1 0) a0 0 0))) from rfl) ?_
    refine AT.ite (x := (0, 0, 0)) (by decide +kernel) (show jbr (.if_icmp .ge 12) (16, [(15, a0), (0, a1), (0, a2), (0, a3), (0, a4), (0, a5), (99, 0), (99, 0), (99, 0)], [(0, 4), (0, a1)], (jup (jup s a0 1 0) a0 0 0)) = some ((w32 a1) < 4, (19, [(15, a0), (0, a1), (0, a2), (0, a3), (0, a4), (0, a5), (99, 0), (99, 0), (99, 0)], [], (jup (jup s a0 1 0) a0 0 0)), (28, [(15, a0), (0, a1), (0, a2), (0, a3), (0, a4), (0, a5), (99, 0), (99, 0), (99, 0)], [], (jup (jup s a0 1 0) a0 0 0))) from rfl) H (fun H => ?_) (fun H => ?_)
    · refine AT.seq [(19, .iload_n 3, 1, (0, 0, 0))] (by decide +kernel) (show jrun _ (19, [(15, a0), (0, a1), (0, a2), (0, a3), (0, a4), (0, a5), (99, 0), (99, 0), (99, 0)], [], (jup (jup s a0 1 0) a0 0 0)) = some ([], (20, [(15, a0), (0, a1), (0, a2), (0, a3), (0, a4), (0, a5), (99, 0), (99, 0), (99, 0)], [(0, a3)], (jup (jup s a0 1 0) a0 0 0))) from rfl) ?_
      refine AT.ite (x := (0, 0, 0)) (by decide +kernel) (show jbr (.ifCond .lt 8) (20, [(15, a0), (0, a1), (0, a2), (0, a3), (0, a4), (0, a5), (99, 0), (99, 0), (99, 0)], [(0, a3)], (jup (jup s a0 1 0) a0 0 0)) = some ((w32 a3) < 0, (28, [(15, a0), (0, a1), (0, a2), (0, a3), (0, a4), (0, a5), (99, 0), (99, 0), (99, 0)], [], (jup (jup s a0 1 0) a0 0 0)), (23, [(15, a0), (0, a1), (0, a2), (0, a3), (0, a4), (0, a5), (99, 0), (99, 0), (99, 0)], [], (jup (jup s a0 1 0) a0 0 0))) from rfl) H (fun H => ?_) (fun H => ?_)
      · refine AT.seq [(28, .aload_n 0, 1, (0, 0, 0)), (29, .iconst 1, 1, (0, 0, 0))] (by decide +kernel) (show jrun _ (28, [(15, a0), (0, a1), (0, a2), (0, a3), (0, a4), (0, a5), (99, 0), (99, 0), (99, 0)], [], (jup (jup s a0 1 0) a0 0 0)) = some ([], (30, [(15, a0), (0, a1), (0, a2), (0, a3), (0, a4), (0, a5), (99, 0), (99, 0), (99, 0)], [(0, 1), (15, a0)], (jup (jup s a0 1 0) a0 0 0))) from rfl) ?_
        obtain ⟨v2, s2, h2, H⟩ := jb_some H
        refine AT.callV (As := [(0, 1)]) (cl := 11) (b := a0) (st := []) (i := 87) (pos := 6102) kMd_no (by decide +kernel) rfl (by decide +kernel) rfl rfl (by omega) (Md_no_ok h2) ?_
        show AT sMd_decant 1 (33, [(15, a0), (0, a1), (0, a2), (0, a3), (0, a4), (0, a5), (99, 0), (99, 0), (99, 0)], [(0, v2)], s2) o
        exact AT.retzH (by decide +kernel) H
      · refine AT.seq [(23, .iload_n 3, 1, (0, 0, 0)), (24, .iconst 4, 1, (0, 0, 0))] (by decide +kernel) (show jrun _ (23, [(15, a0), (0, a1), (0, a2), (0, a3), (0, a4), (0, a5), (99, 0), (99, 0), (99, 0)], [], (jup (jup s a0 1 0) a0 0 0)) = some ([], (25, [(15, a0), (0, a1), (0, a2), (0, a3), (0, a4), (0, a5), (99, 0), (99, 0), (99, 0)], [(0, 4), (0, a3)], (jup (jup s a0 1 0) a0 0 0))) from rfl) ?_
        refine AT.ite (x := (0, 0, 0)) (by decide +kernel) (show jbr (.if_icmp .lt 9) (25, [(15, a0), (0, a1), (0, a2), (0, a3), (0, a4), (0, a5), (99, 0), (99, 0), (99, 0)], [(0, 4), (0, a3)], (jup (jup s a0 1 0) a0 0 0)) = some ((w32 a3) < 4, (34, [(15, a0), (0, a1), (0, a2), (0, a3), (0, a4), (0, a5), (99, 0), (99, 0), (99, 0)], [], (jup (jup s a0 1 0) a0 0 0)), (28, [(15, a0), (0, a1), (0, a2), (0, a3), (0, a4), (0, a5), (99, 0), (99, 0), (99, 0)], [], (jup (jup s a0 1 0) a0 0 0))) from rfl) H (fun H => ?_) (fun H => ?_)
        · refine AT.blk (g := (0 ≤ (w32 a1) ∧ (w32 a1) < 4)) [(34, .aload_n 0, 1, (0, 0, 0)), (35, .getfield 17, 3, (5192, 1105, 0)), (38, .iload_n 1, 1, (0, 0, 0)), (39, .iaload, 1, (0, 0, 0))] (by decide +kernel) (show jrun _ (34, [(15, a0), (0, a1), (0, a2), (0, a3), (0, a4), (0, a5), (99, 0), (99, 0), (99, 0)], [], (jup (jup s a0 1 0) a0 0 0)) = some ([(0 ≤ (w32 a1) ∧ (w32 a1) < 4)], (40, [(15, a0), (0, a1), (0, a2), (0, a3), (0, a4), (0, a5), (99, 0), (99, 0), (99, 0)], [(0, ((jup (jup s a0 1 0) a0 0 0) (a0 + 2) (w32 a1)))], (jup (jup s a0 1 0) a0 0 0))) from rfl) (fun h => h) H (fun H => ?_)
          refine AT.ite (x := (0, 0, 0)) (by decide +kernel) (show jbr (.ifCond .lt 12) (40, [(15, a0), (0, a1), (0, a2), (0, a3), (0, a4), (0, a5), (99, 0), (99, 0), (99, 0)], [(0, ((jup (jup s a0 1 0) a0 0 0) (a0 + 2) (w32 a1)))], (jup (jup s a0 1 0) a0 0 0)) = some ((w32 ((jup (jup s a0 1 0) a0 0 0) (a0 + 2) (w32 a1))) < 0, (52, [(15, a0), (0, a1), (0, a2), (0, a3), (0, a4), (0, a5), (99, 0), (99, 0), (99, 0)], [], (jup (jup s a0 1 0) a0 0 0)), (43, [(15, a0), (0, a1), (0, a2), (0, a3), (0, a4), (0, a5), (99, 0), (99, 0), (99, 0)], [], (jup (jup s a0 1 0) a0 0 0))) from rfl) H (fun H => ?_) (fun H => ?_)
          · refine AT.seq [(52, .aload_n 0, 1, (0, 0, 0)), (53, .iconst 3, 1, (0, 0, 0))] (by decide +kernel) (show jrun _ (52, [(15, a0), (0, a1), (0, a2), (0, a3), (0, a4), (0, a5), (99, 0), (99, 0), (99, 0)], [], (jup (jup s a0 1 0) a0 0 0)) = some ([], (54, [(15, a0), (0, a1), (0, a2), (0, a3), (0, a4), (0, a5), (99, 0), (99, 0), (99, 0)], [(0, 3), (15, a0)], (jup (jup s a0 1 0) a0 0 0))) from rfl) ?_
            obtain ⟨v3, s3, h3, H⟩ := jb_some H
            refine AT.callV (As := [(0, 3)]) (cl := 11) (b := a0) (st := []) (i := 87) (pos := 6102) kMd_no (by decide +kernel) rfl (by decide +kernel) rfl rfl (by omega) (Md_no_ok h3) ?_
            show AT sMd_decant 1 (57, [(15, a0), (0, a1), (0, a2), (0, a3), (0, a4), (0, a5), (99, 0), (99, 0), (99, 0)], [(0, v3)], s3) o
            exact AT.retzH (by decide +kernel) H
          · refine AT.blk (g := (0 ≤ (w32 a3) ∧ (w32 a3) < 4)) [(43, .aload_n 0, 1, (0, 0, 0)), (44, .getfield 17, 3, (5192, 1105, 0)), (47, .iload_n 3, 1, (0, 0, 0)), (48, .iaload, 1, (0, 0, 0))] (by decide +kernel) (show jrun _ (43, [(15, a0), (0, a1), (0, a2), (0, a3), (0, a4), (0, a5), (99, 0), (99, 0), (99, 0)], [], (jup (jup s a0 1 0) a0 0 0)) = some ([(0 ≤ (w32 a3) ∧ (w32 a3) < 4)], (49, [(15, a0), (0, a1), (0, a2), (0, a3), (0, a4), (0, a5), (99, 0), (99, 0), (99, 0)], [(0, ((jup (jup s a0 1 0) a0 0 0) (a0 + 2) (w32 a3)))], (jup (jup s a0 1 0) a0 0 0))) from rfl) (fun h => h) H (fun H => ?_)
            refine AT.ite (x := (0, 0, 0)) (by decide +kernel) (show jbr (.ifCond .ge 9) (49, [(15, a0), (0, a1), (0, a2), (0, a3), (0, a4), (0, a5), (99, 0), (99, 0), (99, 0)], [(0, ((jup (jup s a0 1 0) a0 0 0) (a0 + 2) (w32 a3)))], (jup (jup s a0 1 0) a0 0 0)) = some ((w32 ((jup (jup s a0 1 0) a0 0 0) (a0 + 2) (w32 a3))) < 0, (52, [(15, a0), (0, a1), (0, a2), (0, a3), (0, a4), (0, a5), (99, 0), (99, 0), (99, 0)], [], (jup (jup s a0 1 0) a0 0 0)), (58, [(15, a0), (0, a1), (0, a2), (0, a3), (0, a4), (0, a5), (99, 0), (99, 0), (99, 0)], [], (jup (jup s a0 1 0) a0 0 0))) from rfl) H (fun H => ?_) (fun H => ?_)
            · refine AT.seq [(52, .aload_n 0, 1, (0, 0, 0)), (53, .iconst 3, 1, (0, 0, 0))] (by decide +kernel) (show jrun _ (52, [(15, a0), (0, a1), (0, a2), (0, a3), (0, a4), (0, a5), (99, 0), (99, 0), (99, 0)], [], (jup (jup s a0 1 0) a0 0 0)) = some ([], (54, [(15, a0), (0, a1), (0, a2), (0, a3), (0, a4), (0, a5), (99, 0), (99, 0), (99, 0)], [(0, 3), (15, a0)], (jup (jup s a0 1 0) a0 0 0))) from rfl) ?_
              obtain ⟨v4, s4, h4, H⟩ := jb_some H
              refine AT.callV (As := [(0, 3)]) (cl := 11) (b := a0) (st := []) (i := 87) (pos := 6102) kMd_no (by decide +kernel) rfl (by decide +kernel) rfl rfl (by omega) (Md_no_ok h4) ?_
              show AT sMd_decant 1 (57, [(15, a0), (0, a1), (0, a2), (0, a3), (0, a4), (0, a5), (99, 0), (99, 0), (99, 0)], [(0, v4)], s4) o
              exact AT.retzH (by decide +kernel) H
            · refine AT.blk (g := (0 ≤ (w32 a1) ∧ (w32 a1) < 4) ∧ (0 ≤ (w32 a3) ∧ (w32 a3) < 4)) [(58, .aload_n 0, 1, (0, 0, 0)), (59, .getfield 13, 3, (5191, 1104, 0)), (62, .iload_n 1, 1, (0, 0, 0)), (63, .iaload, 1, (0, 0, 0)), (64, .aload_n 0, 1, (0, 0, 0)), (65, .getfield 13, 3, (5191, 1104, 0)), (68, .iload_n 3, 1, (0, 0, 0)), (69, .iaload, 1, (0, 0, 0))] (by decide +kernel) (show jrun _ (58, [(15, a0), (0, a1), (0, a2), (0, a3), (0, a4), (0, a5), (99, 0), (99, 0), (99, 0)], [], (jup (jup s a0 1 0) a0 0 0)) = some ([(0 ≤ (w32 a1) ∧ (w32 a1) < 4), (0 ≤ (w32 a3) ∧ (w32 a3) < 4)], (70, [(15, a0), (0, a1), (0, a2), (0, a3), (0, a4), (0, a5), (99, 0), (99, 0), (99, 0)], [(0, ((jup (jup s a0 1 0) a0 0 0) (a0 + 1) (w32 a3))), (0, ((jup (jup s a0 1 0) a0 0 0) (a0 + 1) (w32 a1)))], (jup (jup s a0 1 0) a0 0 0))) from rfl) (fun h => ⟨h.1, h.2⟩) H (fun H => ?_)
              refine AT.ite (x := (0, 0, 0)) (by decide +kernel) (show jbr (.if_icmp .eq 10) (70, [(15, a0), (0, a1), (0, a2), (0, a3), (0, a4), (0, a5), (99, 0), (99, 0), (99, 0)], [(0, ((jup (jup s a0 1 0) a0 0 0) (a0 + 1) (w32 a3))), (0, ((jup (jup s a0 1 0) a0 0 0) (a0 + 1) (w32 a1)))], (jup (jup s a0 1 0) a0 0 0)) = some ((w32 ((jup (jup s a0 1 0) a0 0 0) (a0 + 1) (w32 a1))) = (w32 ((jup (jup s a0 1 0) a0 0 0) (a0 + 1) (w32 a3))), (80, [(15, a0), (0, a1), (0, a2), (0, a3), (0, a4), (0, a5), (99, 0), (99, 0), (99, 0)], [], (jup (jup s a0 1 0) a0 0 0)), (73, [(15, a0), (0, a1), (0, a2), (0, a3), (0, a4), (0, a5), (99, 0), (99, 0), (99, 0)], [], (jup (jup s a0 1 0) a0 0 0))) from rfl) H (fun H => ?_) (fun H => ?_)
              · refine AT.seq [(80, .iload 5, 2, (0, 0, 0))] (by decide +kernel) (show jrun _ (80, [(15, a0), (0, a1), (0, a2), (0, a3), (0, a4), (0, a5), (99, 0), (99, 0), (99, 0)], [], (jup (jup s a0 1 0) a0 0 0)) = some ([], (82, [(15, a0), (0, a1), (0, a2), (0, a3), (0, a4), (0, a5), (99, 0), (99, 0), (99, 0)], [(0, a5)], (jup (jup s a0 1 0) a0 0 0))) from rfl) ?_
                refine AT.ite (x := (0, 0, 0)) (by decide +kernel) (show jbr (.ifCond .ge 10) (82, [(15, a0), (0, a1), (0, a2), (0, a3), (0, a4), (0, a5), (99, 0), (99, 0), (99, 0)], [(0, a5)], (jup (jup s a0 1 0) a0 0 0)) = some ((w32 a5) < 0, (85, [(15, a0), (0, a1), (0, a2), (0, a3), (0, a4), (0, a5), (99, 0), (99, 0), (99, 0)], [], (jup (jup s a0 1 0) a0 0 0)), (92, [(15, a0), (0, a1), (0, a2), (0, a3), (0, a4), (0, a5), (99, 0), (99, 0), (99, 0)], [], (jup (jup s a0 1 0) a0 0 0))) from rfl) H (fun H => ?_) (fun H => ?_)
                · refine AT.seq [(85, .aload_n 0, 1, (0, 0, 0)), (86, .bipush 6, 2, (0, 0, 0))] (by decide +kernel) (show jrun _ (85, [(15, a0), (0, a1), (0, a2), (0, a3), (0, a4), (0, a5), (99, 0), (99, 0), (99, 0)], [], (jup (jup s a0 1 0) a0 0 0)) = some ([], (88, [(15, a0), (0, a1), (0, a2), (0, a3), (0, a4), (0, a5), (99, 0), (99, 0), (99, 0)], [(0, 6), (15, a0)], (jup (jup s a0 1 0) a0 0 0))) from rfl) ?_
                  obtain ⟨v5, s5, h5, H⟩ := jb_some H
                  refine AT.callV (As := [(0, 6)]) (cl := 11) (b := a0) (st := []) (i := 87) (pos := 6102) kMd_no (by decide +kernel) rfl (by decide +kernel) rfl rfl (by omega) (Md_no_ok h5) ?_
                  show AT sMd_decant 1 (91, [(15, a0), (0, a1), (0, a2), (0, a3), (0, a4), (0, a5), (99, 0), (99, 0), (99, 0)], [(0, v5)], s5) o
                  exact AT.retzH (by decide +kernel) H
                · refine AT.seq [(92, .iload_n 2, 1, (0, 0, 0))] (by decide +kernel) (show jrun _ (92, [(15, a0), (0, a1), (0, a2), (0, a3), (0, a4), (0, a5), (99, 0), (99, 0), (99, 0)], [], (jup (jup s a0 1 0) a0 0 0)) = some ([], (93, [(15, a0), (0, a1), (0, a2), (0, a3), (0, a4), (0, a5), (99, 0), (99, 0), (99, 0)], [(0, a2)], (jup (jup s a0 1 0) a0 0 0))) from rfl) ?_
                  refine AT.ite (x := (0, 0, 0)) (by decide +kernel) (show jbr (.ifCond .lt 43) (93, [(15, a0), (0, a1), (0, a2), (0, a3), (0, a4), (0, a5), (99, 0), (99, 0), (99, 0)], [(0, a2)], (jup (jup s a0 1 0) a0 0 0)) = some ((w32 a2) < 0, (136, [(15, a0), (0, a1), (0, a2), (0, a3), (0, a4), (0, a5), (99, 0), (99, 0), (99, 0)], [], (jup (jup s a0 1 0) a0 0 0)), (96, [(15, a0), (0, a1), (0, a2), (0, a3), (0, a4), (0, a5), (99, 0), (99, 0), (99, 0)], [], (jup (jup s a0 1 0) a0 0 0))) from rfl) H (fun H => ?_) (fun H => ?_)
                  · refine AT.seq [(136, .aload_n 0, 1, (0, 0, 0)), (137, .iconst 4, 1, (0, 0, 0))] (by decide +kernel) (show jrun _ (136, [(15, a0), (0, a1), (0, a2), (0, a3), (0, a4), (0, a5), (99, 0), (99, 0), (99, 0)], [], (jup (jup s a0 1 0) a0 0 0)) = some ([], (138, [(15, a0), (0, a1), (0, a2), (0, a3), (0, a4), (0, a5), (99, 0), (99, 0), (99, 0)], [(0, 4), (15, a0)], (jup (jup s a0 1 0) a0 0 0))) from rfl) ?_
                    obtain ⟨v6, s6, h6, H⟩ := jb_some H
                    refine AT.callV (As := [(0, 4)]) (cl := 11) (b := a0) (st := []) (i := 87) (pos := 6102) kMd_no (by decide +kernel) rfl (by decide +kernel) rfl rfl (by omega) (Md_no_ok h6) ?_
                    show AT sMd_decant 1 (141, [(15, a0), (0, a1), (0, a2), (0, a3), (0, a4), (0, a5), (99, 0), (99, 0), (99, 0)], [(0, v6)], s6) o
                    exact AT.retzH (by decide +kernel) H
                  · refine AT.seq [(96, .iload 4, 2, (0, 0, 0))] (by decide +kernel) (show jrun _ (96, [(15, a0), (0, a1), (0, a2), (0, a3), (0, a4), (0, a5), (99, 0), (99, 0), (99, 0)], [], (jup (jup s a0 1 0) a0 0 0)) = some ([], (98, [(15, a0), (0, a1), (0, a2), (0, a3), (0, a4), (0, a5), (99, 0), (99, 0), (99, 0)], [(0, a4)], (jup (jup s a0 1 0) a0 0 0))) from rfl) ?_
                    refine AT.ite (x := (0, 0, 0)) (by decide +kernel) (show jbr (.ifCond .lt 38) (98, [(15, a0), (0, a1), (0, a2), (0, a3), (0, a4), (0, a5), (99, 0), (99, 0), (99, 0)], [(0, a4)], (jup (jup s a0 1 0) a0 0 0)) = some ((w32 a4) < 0, (136, [(15, a0), (0, a1), (0, a2), (0, a3), (0, a4), (0, a5), (99, 0), (99, 0), (99, 0)], [], (jup (jup s a0 1 0) a0 0 0)), (101, [(15, a0), (0, a1), (0, a2), (0, a3), (0, a4), (0, a5), (99, 0), (99, 0), (99, 0)], [], (jup (jup s a0 1 0) a0 0 0))) from rfl) H (fun H => ?_) (fun H => ?_)
                    · refine AT.seq [(136, .aload_n 0, 1, (0, 0, 0)), (137, .iconst 4, 1, (0, 0, 0))] (by decide +kernel) (show jrun _ (136, [(15, a0), (0, a1), (0, a2), (0, a3), (0, a4), (0, a5), (99, 0), (99, 0), (99, 0)], [], (jup (jup s a0 1 0) a0 0 0)) = some ([], (138, [(15, a0), (0, a1), (0, a2), (0, a3), (0, a4), (0, a5), (99, 0), (99, 0), (99, 0)], [(0, 4), (15, a0)], (jup (jup s a0 1 0) a0 0 0))) from rfl) ?_
                      obtain ⟨v7, s7, h7, H⟩ := jb_some H
                      refine AT.callV (As := [(0, 4)]) (cl := 11) (b := a0) (st := []) (i := 87) (pos := 6102) kMd_no (by decide +kernel) rfl (by decide +kernel) rfl rfl (by omega) (Md_no_ok h7) ?_
                      show AT sMd_decant 1 (141, [(15, a0), (0, a1), (0, a2), (0, a3), (0, a4), (0, a5), (99, 0), (99, 0), (99, 0)], [(0, v7)], s7) o
                      exact AT.retzH (by decide +kernel) H
                    · refine AT.blk (g := (0 ≤ (w32 a1) ∧ (w32 a1) < 4)) [(101, .iload_n 2, 1, (0, 0, 0)), (102, .i2l, 1, (0, 0, 0)), (103, .iload 5, 2, (0, 0, 0)), (105, .i2l, 1, (0, 0, 0)), (106, .ladd, 1, (0, 0, 0)), (107, .aload_n 0, 1, (0, 0, 0)), (108, .getfield 17, 3, (5192, 1105, 0)), (111, .iload_n 1, 1, (0, 0, 0)), (112, .iaload, 1, (0, 0, 0)), (113, .i2l, 1, (0, 0, 0)), (114, .lcmp, 1, (0, 0, 0))] (by decide +kernel) (show jrun _ (101, [(15, a0), (0, a1), (0, a2), (0, a3), (0, a4), (0, a5), (99, 0), (99, 0), (99, 0)], [], (jup (jup s a0 1 0) a0 0 0)) = some ([(0 ≤ (w32 a1) ∧ (w32 a1) < 4)], (115, [(15, a0), (0, a1), (0, a2), (0, a3), (0, a4), (0, a5), (99, 0), (99, 0), (99, 0)], [(0, (jlcmp ((w32 a2) + (w32 a5)) (w32 ((jup (jup s a0 1 0) a0 0 0) (a0 + 2) (w32 a1)))))], (jup (jup s a0 1 0) a0 0 0))) from rfl) (fun h => h) H (fun H => ?_)
                      refine AT.ite (x := (0, 0, 0)) (by decide +kernel) (show jbr (.ifCond .gt 21) (115, [(15, a0), (0, a1), (0, a2), (0, a3), (0, a4), (0, a5), (99, 0), (99, 0), (99, 0)], [(0, (jlcmp ((w32 a2) + (w32 a5)) (w32 ((jup (jup s a0 1 0) a0 0 0) (a0 + 2) (w32 a1)))))], (jup (jup s a0 1 0) a0 0 0)) = some (0 < (w32 (jlcmp ((w32 a2) + (w32 a5)) (w32 ((jup (jup s a0 1 0) a0 0 0) (a0 + 2) (w32 a1))))), (136, [(15, a0), (0, a1), (0, a2), (0, a3), (0, a4), (0, a5), (99, 0), (99, 0), (99, 0)], [], (jup (jup s a0 1 0) a0 0 0)), (118, [(15, a0), (0, a1), (0, a2), (0, a3), (0, a4), (0, a5), (99, 0), (99, 0), (99, 0)], [], (jup (jup s a0 1 0) a0 0 0))) from rfl) H (fun H => ?_) (fun H => ?_)
                      · refine AT.seq [(136, .aload_n 0, 1, (0, 0, 0)), (137, .iconst 4, 1, (0, 0, 0))] (by decide +kernel) (show jrun _ (136, [(15, a0), (0, a1), (0, a2), (0, a3), (0, a4), (0, a5), (99, 0), (99, 0), (99, 0)], [], (jup (jup s a0 1 0) a0 0 0)) = some ([], (138, [(15, a0), (0, a1), (0, a2), (0, a3), (0, a4), (0, a5), (99, 0), (99, 0), (99, 0)], [(0, 4), (15, a0)], (jup (jup s a0 1 0) a0 0 0))) from rfl) ?_
                        obtain ⟨v8, s8, h8, H⟩ := jb_some H
                        refine AT.callV (As := [(0, 4)]) (cl := 11) (b := a0) (st := []) (i := 87) (pos := 6102) kMd_no (by decide +kernel) rfl (by decide +kernel) rfl rfl (by omega) (Md_no_ok h8) ?_
                        show AT sMd_decant 1 (141, [(15, a0), (0, a1), (0, a2), (0, a3), (0, a4), (0, a5), (99, 0), (99, 0), (99, 0)], [(0, v8)], s8) o
                        exact AT.retzH (by decide +kernel) H
                      · refine AT.blk (g := (0 ≤ (w32 a3) ∧ (w32 a3) < 4)) [(118, .iload 4, 2, (0, 0, 0)), (120, .i2l, 1, (0, 0, 0)), (121, .iload 5, 2, (0, 0, 0)), (123, .i2l, 1, (0, 0, 0)), (124, .ladd, 1, (0, 0, 0)), (125, .aload_n 0, 1, (0, 0, 0)), (126, .getfield 17, 3, (5192, 1105, 0)), (129, .iload_n 3, 1, (0, 0, 0)), (130, .iaload, 1, (0, 0, 0)), (131, .i2l, 1, (0, 0, 0)), (132, .lcmp, 1, (0, 0, 0))] (by decide +kernel) (show jrun _ (118, [(15, a0), (0, a1), (0, a2), (0, a3), (0, a4), (0, a5), (99, 0), (99, 0), (99, 0)], [], (jup (jup s a0 1 0) a0 0 0)) = some ([(0 ≤ (w32 a3) ∧ (w32 a3) < 4)], (133, [(15, a0), (0, a1), (0, a2), (0, a3), (0, a4), (0, a5), (99, 0), (99, 0), (99, 0)], [(0, (jlcmp ((w32 a4) + (w32 a5)) (w32 ((jup (jup s a0 1 0) a0 0 0) (a0 + 2) (w32 a3)))))], (jup (jup s a0 1 0) a0 0 0))) from rfl) (fun h => h) H (fun H => ?_)
                        refine AT.ite (x := (0, 0, 0)) (by decide +kernel) (show jbr (.ifCond .le 9) (133, [(15, a0), (0, a1), (0, a2), (0, a3), (0, a4), (0, a5), (99, 0), (99, 0), (99, 0)], [(0, (jlcmp ((w32 a4) + (w32 a5)) (w32 ((jup (jup s a0 1 0) a0 0 0) (a0 + 2) (w32 a3)))))], (jup (jup s a0 1 0) a0 0 0)) = some (0 < (w32 (jlcmp ((w32 a4) + (w32 a5)) (w32 ((jup (jup s a0 1 0) a0 0 0) (a0 + 2) (w32 a3))))), (136, [(15, a0), (0, a1), (0, a2), (0, a3), (0, a4), (0, a5), (99, 0), (99, 0), (99, 0)], [], (jup (jup s a0 1 0) a0 0 0)), (142, [(15, a0), (0, a1), (0, a2), (0, a3), (0, a4), (0, a5), (99, 0), (99, 0), (99, 0)], [], (jup (jup s a0 1 0) a0 0 0))) from rfl) H (fun H => ?_) (fun H => ?_)
                        · refine AT.seq [(136, .aload_n 0, 1, (0, 0, 0)), (137, .iconst 4, 1, (0, 0, 0))] (by decide +kernel) (show jrun _ (136, [(15, a0), (0, a1), (0, a2), (0, a3), (0, a4), (0, a5), (99, 0), (99, 0), (99, 0)], [], (jup (jup s a0 1 0) a0 0 0)) = some ([], (138, [(15, a0), (0, a1), (0, a2), (0, a3), (0, a4), (0, a5), (99, 0), (99, 0), (99, 0)], [(0, 4), (15, a0)], (jup (jup s a0 1 0) a0 0 0))) from rfl) ?_
                          obtain ⟨v9, s9, h9, H⟩ := jb_some H
                          refine AT.callV (As := [(0, 4)]) (cl := 11) (b := a0) (st := []) (i := 87) (pos := 6102) kMd_no (by decide +kernel) rfl (by decide +kernel) rfl rfl (by omega) (Md_no_ok h9) ?_
                          show AT sMd_decant 1 (141, [(15, a0), (0, a1), (0, a2), (0, a3), (0, a4), (0, a5), (99, 0), (99, 0), (99, 0)], [(0, v9)], s9) o
                          exact AT.retzH (by decide +kernel) H
                        · refine AT.seq [(142, .iload_n 2, 1, (0, 0, 0)), (143, .iload 4, 2, (0, 0, 0))] (by decide +kernel) (show jrun _ (142, [(15, a0), (0, a1), (0, a2), (0, a3), (0, a4), (0, a5), (99, 0), (99, 0), (99, 0)], [], (jup (jup s a0 1 0) a0 0 0)) = some ([], (145, [(15, a0), (0, a1), (0, a2), (0, a3), (0, a4), (0, a5), (99, 0), (99, 0), (99, 0)], [(0, a4), (0, a2)], (jup (jup s a0 1 0) a0 0 0))) from rfl) ?_
                          refine AT.ite (x := (0, 0, 0)) (by decide +kernel) (show jbr (.if_icmp .ge 7) (145, [(15, a0), (0, a1), (0, a2), (0, a3), (0, a4), (0, a5), (99, 0), (99, 0), (99, 0)], [(0, a4), (0, a2)], (jup (jup s a0 1 0) a0 0 0)) = some ((w32 a2) < (w32 a4), (148, [(15, a0), (0, a1), (0, a2), (0, a3), (0, a4), (0, a5), (99, 0), (99, 0), (99, 0)], [], (jup (jup s a0 1 0) a0 0 0)), (152, [(15, a0), (0, a1), (0, a2), (0, a3), (0, a4), (0, a5), (99, 0), (99, 0), (99, 0)], [], (jup (jup s a0 1 0) a0 0 0))) from rfl) H (fun H => ?_) (fun H => ?_)
                          · refine AT.seq [(148, .iconst 1, 1, (0, 0, 0)), (149, .goto 4, 3, (0, 0, 0)), (153, .istore 6, 2, (0, 0, 0)), (155, .iconst 0, 1, (0, 0, 0)), (156, .istore 7, 2, (0, 0, 0))] (by decide +kernel) (show jrun _ (148, [(15, a0), (0, a1), (0, a2), (0, a3), (0, a4), (0, a5), (99, 0), (99, 0), (99, 0)], [], (jup (jup s a0 1 0) a0 0 0)) = some ([], (158, [(15, a0), (0, a1), (0, a2), (0, a3), (0, a4), (0, a5), (0, 1), (0, 0), (99, 0)], [], (jup (jup s a0 1 0) a0 0 0))) from rfl) ?_
                            exact Md_decant_158_ok  jFU _ _ _ _ _ _ _ _ _ H
                          · refine AT.seq [(152, .iconst 0, 1, (0, 0, 0)), (153, .istore 6, 2, (0, 0, 0)), (155, .iconst 0, 1, (0, 0, 0)), (156, .istore 7, 2, (0, 0, 0))] (by decide +kernel) (show jrun _ (152, [(15, a0), (0, a1), (0, a2), (0, a3), (0, a4), (0, a5), (99, 0), (99, 0), (99, 0)], [], (jup (jup s a0 1 0) a0 0 0)) = some ([], (158, [(15, a0), (0, a1), (0, a2), (0, a3), (0, a4), (0, a5), (0, 0), (0, 0), (99, 0)], [], (jup (jup s a0 1 0) a0 0 0))) from rfl) ?_
                            exact Md_decant_158_ok  jFU _ _ _ _ _ _ _ _ _ H
              · refine AT.seq [(73, .aload_n 0, 1, (0, 0, 0)), (74, .bipush 11, 2, (0, 0, 0))] (by decide +kernel) (show jrun _ (73, [(15, a0), (0, a1), (0, a2), (0, a3), (0, a4), (0, a5), (99, 0), (99, 0), (99, 0)], [], (jup (jup s a0 1 0) a0 0 0)) = some ([], (76, [(15, a0), (0, a1), (0, a2), (0, a3), (0, a4), (0, a5), (99, 0), (99, 0), (99, 0)], [(0, 11), (15, a0)], (jup (jup s a0 1 0) a0 0 0))) from rfl) ?_
                obtain ⟨v10, s10, h10, H⟩ := jb_some H
                refine AT.callV (As := [(0, 11)]) (cl := 11) (b := a0) (st := []) (i := 87) (pos := 6102) kMd_no (by decide +kernel) rfl (by decide +kernel) rfl rfl (by omega) (Md_no_ok h10) ?_
                show AT sMd_decant 1 (79, [(15, a0), (0, a1), (0, a2), (0, a3), (0, a4), (0, a5), (99, 0), (99, 0), (99, 0)], [(0, v10)], s10) o
                exact AT.retzH (by decide +kernel) H
        · refine AT.seq [(28, .aload_n 0, 1, (0, 0, 0)), (29, .iconst 1, 1, (0, 0, 0))] (by decide +kernel) (show jrun _ (28, [(15, a0), (0, a1), (0, a2), (0, a3), (0, a4), (0, a5), (99, 0), (99, 0), (99, 0)], [], (jup (jup s a0 1 0) a0 0 0)) = some ([], (30, [(15, a0), (0, a1), (0, a2), (0, a3), (0, a4), (0, a5), (99, 0), (99, 0), (99, 0)], [(0, 1), (15, a0)], (jup (jup s a0 1 0) a0 0 0))) from rfl) ?_
          obtain ⟨v11, s11, h11, H⟩ := jb_some H
          refine AT.callV (As := [(0, 1)]) (cl := 11) (b := a0) (st := []) (i := 87) (pos := 6102) kMd_no (by decide +kernel) rfl (by decide +kernel) rfl rfl (by omega) (Md_no_ok h11) ?_
          show AT sMd_decant 1 (33, [(15, a0), (0, a1), (0, a2), (0, a3), (0, a4), (0, a5), (99, 0), (99, 0), (99, 0)], [(0, v11)], s11) o
          exact AT.retzH (by decide +kernel) H
    · refine AT.seq [(28, .aload_n 0, 1, (0, 0, 0)), (29, .iconst 1, 1, (0, 0, 0))] (by decide +kernel) (show jrun _ (28, [(15, a0), (0, a1), (0, a2), (0, a3), (0, a4), (0, a5), (99, 0), (99, 0), (99, 0)], [], (jup (jup s a0 1 0) a0 0 0)) = some ([], (30, [(15, a0), (0, a1), (0, a2), (0, a3), (0, a4), (0, a5), (99, 0), (99, 0), (99, 0)], [(0, 1), (15, a0)], (jup (jup s a0 1 0) a0 0 0))) from rfl) ?_
      obtain ⟨v12, s12, h12, H⟩ := jb_some H
      refine AT.callV (As := [(0, 1)]) (cl := 11) (b := a0) (st := []) (i := 87) (pos := 6102) kMd_no (by decide +kernel) rfl (by decide +kernel) rfl rfl (by omega) (Md_no_ok h12) ?_
      show AT sMd_decant 1 (33, [(15, a0), (0, a1), (0, a2), (0, a3), (0, a4), (0, a5), (99, 0), (99, 0), (99, 0)], [(0, v12)], s12) o
      exact AT.retzH (by decide +kernel) H
def sMd_numberOf : jS := (⟨"JellyCathedralModel", "numberOf", "(II)J"⟩, prog_13_method_17_code, 3, 2, [15, 0, 0], 0)
theorem kMd_numberOf : jmk sMd_numberOf = true := jmk_of 8113 1012 8112 119 (by decide +kernel)
set_option maxRecDepth 100000 in
theorem Md_numberOf_ok {a0 a1 a2 : Int} {s : jM} {o : Int × jM} (H : Md_numberOf a0 a1 a2 s = some o) : MK sMd_numberOf 0 [(15, a0), (0, a1), (0, a2)] s o := by
  refine MK.of kMd_numberOf rfl ?_
  show AT sMd_numberOf 0 (0, [(15, a0), (0, a1), (0, a2)], [], s) o
  unfold Md_numberOf at H
  refine AT.blk (g := (0 ≤ (w32 ((60 * a1) + a2)) ∧ (w32 ((60 * a1) + a2)) < 240)) [(0, .aload_n 0, 1, (0, 0, 0)), (1, .getfield 20, 3, (5193, 1106, 0)), (4, .bipush 60, 2, (0, 0, 0)), (6, .iload_n 1, 1, (0, 0, 0)), (7, .imul, 1, (0, 0, 0)), (8, .iload_n 2, 1, (0, 0, 0)), (9, .iadd, 1, (0, 0, 0)), (10, .laload, 1, (0, 0, 0))] (by decide +kernel) (show jrun _ (0, [(15, a0), (0, a1), (0, a2)], [], s) = some ([(0 ≤ (w32 ((60 * a1) + a2)) ∧ (w32 ((60 * a1) + a2)) < 240)], (11, [(15, a0), (0, a1), (0, a2)], [(1, (s (a0 + 3) (w32 ((60 * a1) + a2))))], s)) from rfl) (fun h => h) H (fun H => ?_)
  exact AT.retlH (by decide +kernel) H
def sMd_isTray : jS := (⟨"JellyCathedralModel", "isTray", "(I)Z"⟩, prog_13_method_18_code, 2, 3, [15, 0], 0)
theorem kMd_isTray : jmk sMd_isTray = true := jmk_of 7165 1012 7164 96 (by decide +kernel)
set_option maxRecDepth 100000 in
theorem Md_isTray_ok {a0 a1 : Int} {s : jM} {o : Int × jM} (H : Md_isTray a0 a1 s = some o) : MK sMd_isTray 1 [(15, a0), (0, a1)] s o := by
  refine MK.of kMd_isTray rfl ?_
  show AT sMd_isTray 1 (0, [(15, a0), (0, a1)], [], s) o
  unfold Md_isTray at H
  refine AT.seq [(0, .iload_n 1, 1, (0, 0, 0)), (1, .i2l, 1, (0, 0, 0)), (2, .lconst 0, 1, (0, 0, 0)), (3, .ldc2_w 105, 3, (7166, 0, 3))] (by decide +kernel) (show jrun _ (0, [(15, a0), (0, a1)], [], s) = some ([], (6, [(15, a0), (0, a1)], [(1, 3), (1, 0), (1, (w32 a1))], s)) from rfl) ?_
  obtain ⟨v1, s1, h1, H⟩ := jb_some H
  refine AT.callS (As := [(1, (w32 a1)), (1, 0), (1, 3)]) (st := []) (i := 107) (pos := 6204) kMd_isIn (by decide +kernel) rfl rfl rfl (by omega) (Md_isIn_ok h1) ?_
  show AT sMd_isTray 1 (9, [(15, a0), (0, a1)], [(0, v1)], s1) o
  exact AT.retzH (by decide +kernel) H
def sMd_has : jS := (⟨"JellyCathedralModel", "has", "(II)Z"⟩, prog_13_method_19_code, 2, 3, [0, 0], 1)
theorem kMd_has : jmk sMd_has = true := jmk_of 6191 1012 6190 0 (by decide +kernel)
set_option maxRecDepth 100000 in
theorem Md_has_ok {a0 a1 : Int} {s : jM} {o : Int × jM} (H : Md_has a0 a1 s = some o) : MK sMd_has 0 [(0, a0), (0, a1)] s o := by
  refine MK.of kMd_has rfl ?_
  show AT sMd_has 0 (0, [(0, a0), (0, a1)], [], s) o
  unfold Md_has at H
  refine AT.seq [(0, .iload_n 0, 1, (0, 0, 0)), (1, .iload_n 1, 1, (0, 0, 0)), (2, .ishr, 1, (0, 0, 0)), (3, .iconst 1, 1, (0, 0, 0)), (4, .iand, 1, (0, 0, 0)), (5, .iconst 1, 1, (0, 0, 0))] (by decide +kernel) (show jrun _ (0, [(0, a0), (0, a1)], [], s) = some ([], (6, [(0, a0), (0, a1)], [(0, 1), (0, (jiand (jishr a0 a1) 1))], s)) from rfl) ?_
  refine AT.ite (x := (0, 0, 0)) (by decide +kernel) (show jbr (.if_icmp .ne 7) (6, [(0, a0), (0, a1)], [(0, 1), (0, (jiand (jishr a0 a1) 1))], s) = some ((w32 (jiand (jishr a0 a1) 1)) = 1, (9, [(0, a0), (0, a1)], [], s), (13, [(0, a0), (0, a1)], [], s)) from rfl) H (fun H => ?_) (fun H => ?_)
  · refine AT.seq [(9, .iconst 1, 1, (0, 0, 0)), (10, .goto 4, 3, (0, 0, 0))] (by decide +kernel) (show jrun _ (9, [(0, a0), (0, a1)], [], s) = some ([], (14, [(0, a0), (0, a1)], [(0, 1)], s)) from rfl) ?_
    exact AT.retzC (by decide +kernel) (by decide) H
  · refine AT.seq [(13, .iconst 0, 1, (0, 0, 0))] (by decide +kernel) (show jrun _ (13, [(0, a0), (0, a1)], [], s) = some ([], (14, [(0, a0), (0, a1)], [(0, 0)], s)) from rfl) ?_
    exact AT.retzC (by decide +kernel) (by decide) H
def sMd_look2 : jS := (⟨"JellyCathedralModel", "look2", "(I)I"⟩, prog_13_method_20_code, 2, 1, [15, 0], 0)
theorem kMd_look2 : jmk sMd_look2 = true := jmk_of 6157 1012 6156 46 (by decide +kernel)
set_option maxRecDepth 100000 in
theorem Md_look2_ok {a0 a1 : Int} {s : jM} {o : Int × jM} (H : Md_look2 a0 a1 s = some o) : MK sMd_look2 0 [(15, a0), (0, a1)] s o := by
  refine MK.of kMd_look2 rfl ?_
  show AT sMd_look2 0 (0, [(15, a0), (0, a1)], [], s) o
  unfold Md_look2 at H
  refine AT.seq [(0, .iload_n 1, 1, (0, 0, 0)), (1, .aload_n 0, 1, (0, 0, 0)), (2, .getfield 111, 3, (5196, 1109, 0))] (by decide +kernel) (show jrun _ (0, [(15, a0), (0, a1)], [], s) = some ([], (5, [(15, a0), (0, a1)], [(0, (s a0 9)), (0, a1)], s)) from rfl) ?_
  refine AT.ite (x := (0, 0, 0)) (by decide +kernel) (show jbr (.if_icmp .ge 16) (5, [(15, a0), (0, a1)], [(0, (s a0 9)), (0, a1)], s) = some ((w32 a1) < (w32 (s a0 9)), (8, [(15, a0), (0, a1)], [], s), (21, [(15, a0), (0, a1)], [], s)) from rfl) H (fun H => ?_) (fun H => ?_)
  · refine AT.blk (g := (0 ≤ (w32 a1) ∧ (w32 a1) < 900)) [(8, .aload_n 0, 1, (0, 0, 0)), (9, .getfield 24, 3, (5194, 1107, 0)), (12, .iload_n 1, 1, (0, 0, 0)), (13, .baload, 1, (0, 0, 0)), (14, .sipush 255, 3, (0, 0, 0)), (17, .iand, 1, (0, 0, 0)), (18, .goto 4, 3, (0, 0, 0))] (by decide +kernel) (show jrun _ (8, [(15, a0), (0, a1)], [], s) = some ([(0 ≤ (w32 a1) ∧ (w32 a1) < 900)], (22, [(15, a0), (0, a1)], [(0, (jiand (s (a0 + 4) (w32 a1)) 255))], s)) from rfl) (fun h => h) H (fun H => ?_)
    exact AT.retiH (by decide +kernel) H
  · refine AT.seq [(21, .iconst 0, 1, (0, 0, 0))] (by decide +kernel) (show jrun _ (21, [(15, a0), (0, a1)], [], s) = some ([], (22, [(15, a0), (0, a1)], [(0, 0)], s)) from rfl) ?_
    exact AT.retiH (by decide +kernel) H
def sMd_isLetter : jS := (⟨"JellyCathedralModel", "isLetter", "(I)Z"⟩, prog_13_method_21_code, 1, 3, [0], 1)
theorem kMd_isLetter : jmk sMd_isLetter = true := jmk_of 6160 1012 6159 0 (by decide +kernel)
set_option maxRecDepth 100000 in
theorem Md_isLetter_ok {a0 : Int} {s : jM} {o : Int × jM} (H : Md_isLetter a0 s = some o) : MK sMd_isLetter 0 [(0, a0)] s o := by
  refine MK.of kMd_isLetter rfl ?_
  show AT sMd_isLetter 0 (0, [(0, a0)], [], s) o
  unfold Md_isLetter at H
  refine AT.seq [(0, .iload_n 0, 1, (0, 0, 0)), (1, .bipush 97, 2, (0, 0, 0))] (by decide +kernel) (show jrun _ (0, [(0, a0)], [], s) = some ([], (3, [(0, a0)], [(0, 97), (0, a0)], s)) from rfl) ?_
  refine AT.ite (x := (0, 0, 0)) (by decide +kernel) (show jbr (.if_icmp .lt 13) (3, [(0, a0)], [(0, 97), (0, a0)], s) = some ((w32 a0) < 97, (16, [(0, a0)], [], s), (6, [(0, a0)], [], s)) from rfl) H (fun H => ?_) (fun H => ?_)
  · refine AT.seq [(16, .iconst 0, 1, (0, 0, 0))] (by decide +kernel) (show jrun _ (16, [(0, a0)], [], s) = some ([], (17, [(0, a0)], [(0, 0)], s)) from rfl) ?_
    exact AT.retzC (by decide +kernel) (by decide) H
  · refine AT.seq [(6, .iload_n 0, 1, (0, 0, 0)), (7, .bipush 122, 2, (0, 0, 0))] (by decide +kernel) (show jrun _ (6, [(0, a0)], [], s) = some ([], (9, [(0, a0)], [(0, 122), (0, a0)], s)) from rfl) ?_
    refine AT.ite (x := (0, 0, 0)) (by decide +kernel) (show jbr (.if_icmp .gt 7) (9, [(0, a0)], [(0, 122), (0, a0)], s) = some (122 < (w32 a0), (16, [(0, a0)], [], s), (12, [(0, a0)], [], s)) from rfl) H (fun H => ?_) (fun H => ?_)
    · refine AT.seq [(16, .iconst 0, 1, (0, 0, 0))] (by decide +kernel) (show jrun _ (16, [(0, a0)], [], s) = some ([], (17, [(0, a0)], [(0, 0)], s)) from rfl) ?_
      exact AT.retzC (by decide +kernel) (by decide) H
    · refine AT.seq [(12, .iconst 1, 1, (0, 0, 0)), (13, .goto 4, 3, (0, 0, 0))] (by decide +kernel) (show jrun _ (12, [(0, a0)], [], s) = some ([], (17, [(0, a0)], [(0, 1)], s)) from rfl) ?_
      exact AT.retzC (by decide +kernel) (by decide) H
def sMd_isDigit : jS := (⟨"JellyCathedralModel", "isDigit", "(I)Z"⟩, prog_13_method_22_code, 1, 3, [0], 1)
theorem kMd_isDigit : jmk sMd_isDigit = true := jmk_of 6165 1012 6164 0 (by decide +kernel)
set_option maxRecDepth 100000 in
theorem Md_isDigit_ok {a0 : Int} {s : jM} {o : Int × jM} (H : Md_isDigit a0 s = some o) : MK sMd_isDigit 0 [(0, a0)] s o := by
  refine MK.of kMd_isDigit rfl ?_
  show AT sMd_isDigit 0 (0, [(0, a0)], [], s) o
  unfold Md_isDigit at H
  refine AT.seq [(0, .iload_n 0, 1, (0, 0, 0)), (1, .bipush 48, 2, (0, 0, 0))] (by decide +kernel) (show jrun _ (0, [(0, a0)], [], s) = some ([], (3, [(0, a0)], [(0, 48), (0, a0)], s)) from rfl) ?_
  refine AT.ite (x := (0, 0, 0)) (by decide +kernel) (show jbr (.if_icmp .lt 13) (3, [(0, a0)], [(0, 48), (0, a0)], s) = some ((w32 a0) < 48, (16, [(0, a0)], [], s), (6, [(0, a0)], [], s)) from rfl) H (fun H => ?_) (fun H => ?_)
  · refine AT.seq [(16, .iconst 0, 1, (0, 0, 0))] (by decide +kernel) (show jrun _ (16, [(0, a0)], [], s) = some ([], (17, [(0, a0)], [(0, 0)], s)) from rfl) ?_
    exact AT.retzC (by decide +kernel) (by decide) H
  · refine AT.seq [(6, .iload_n 0, 1, (0, 0, 0)), (7, .bipush 57, 2, (0, 0, 0))] (by decide +kernel) (show jrun _ (6, [(0, a0)], [], s) = some ([], (9, [(0, a0)], [(0, 57), (0, a0)], s)) from rfl) ?_
    refine AT.ite (x := (0, 0, 0)) (by decide +kernel) (show jbr (.if_icmp .gt 7) (9, [(0, a0)], [(0, 57), (0, a0)], s) = some (57 < (w32 a0), (16, [(0, a0)], [], s), (12, [(0, a0)], [], s)) from rfl) H (fun H => ?_) (fun H => ?_)
    · refine AT.seq [(16, .iconst 0, 1, (0, 0, 0))] (by decide +kernel) (show jrun _ (16, [(0, a0)], [], s) = some ([], (17, [(0, a0)], [(0, 0)], s)) from rfl) ?_
      exact AT.retzC (by decide +kernel) (by decide) H
    · refine AT.seq [(12, .iconst 1, 1, (0, 0, 0)), (13, .goto 4, 3, (0, 0, 0))] (by decide +kernel) (show jrun _ (12, [(0, a0)], [], s) = some ([], (17, [(0, a0)], [(0, 1)], s)) from rfl) ?_
      exact AT.retzC (by decide +kernel) (by decide) H
def sMd_isSignByte : jS := (⟨"JellyCathedralModel", "isSignByte", "(I)Z"⟩, prog_13_method_23_code, 2, 3, [15, 0], 0)
theorem kMd_isSignByte : jmk sMd_isSignByte = true := jmk_of 6169 1012 6168 47 (by decide +kernel)
set_option maxRecDepth 100000 in
theorem Md_isSignByte_ok {a0 a1 : Int} {s : jM} {o : Int × jM} (H : Md_isSignByte a0 a1 s = some o) : MK sMd_isSignByte 0 [(15, a0), (0, a1)] s o := by
  refine MK.of kMd_isSignByte rfl ?_
  show AT sMd_isSignByte 0 (0, [(15, a0), (0, a1)], [], s) o
  unfold Md_isSignByte at H
  refine AT.seq [(0, .iload_n 1, 1, (0, 0, 0)), (1, .bipush 59, 2, (0, 0, 0))] (by decide +kernel) (show jrun _ (0, [(15, a0), (0, a1)], [], s) = some ([], (3, [(15, a0), (0, a1)], [(0, 59), (0, a1)], s)) from rfl) ?_
  refine AT.ite (x := (0, 0, 0)) (by decide +kernel) (show jbr (.if_icmp .eq 21) (3, [(15, a0), (0, a1)], [(0, 59), (0, a1)], s) = some ((w32 a1) = 59, (24, [(15, a0), (0, a1)], [], s), (6, [(15, a0), (0, a1)], [], s)) from rfl) H (fun H => ?_) (fun H => ?_)
  · refine AT.seq [(24, .iconst 1, 1, (0, 0, 0)), (25, .goto 4, 3, (0, 0, 0))] (by decide +kernel) (show jrun _ (24, [(15, a0), (0, a1)], [], s) = some ([], (29, [(15, a0), (0, a1)], [(0, 1)], s)) from rfl) ?_
    exact AT.retzC (by decide +kernel) (by decide) H
  · refine AT.seq [(6, .iload_n 1, 1, (0, 0, 0)), (7, .bipush 60, 2, (0, 0, 0))] (by decide +kernel) (show jrun _ (6, [(15, a0), (0, a1)], [], s) = some ([], (9, [(15, a0), (0, a1)], [(0, 60), (0, a1)], s)) from rfl) ?_
    refine AT.ite (x := (0, 0, 0)) (by decide +kernel) (show jbr (.if_icmp .eq 15) (9, [(15, a0), (0, a1)], [(0, 60), (0, a1)], s) = some ((w32 a1) = 60, (24, [(15, a0), (0, a1)], [], s), (12, [(15, a0), (0, a1)], [], s)) from rfl) H (fun H => ?_) (fun H => ?_)
    · refine AT.seq [(24, .iconst 1, 1, (0, 0, 0)), (25, .goto 4, 3, (0, 0, 0))] (by decide +kernel) (show jrun _ (24, [(15, a0), (0, a1)], [], s) = some ([], (29, [(15, a0), (0, a1)], [(0, 1)], s)) from rfl) ?_
      exact AT.retzC (by decide +kernel) (by decide) H
    · refine AT.seq [(12, .iload_n 1, 1, (0, 0, 0)), (13, .bipush 62, 2, (0, 0, 0))] (by decide +kernel) (show jrun _ (12, [(15, a0), (0, a1)], [], s) = some ([], (15, [(15, a0), (0, a1)], [(0, 62), (0, a1)], s)) from rfl) ?_
      refine AT.ite (x := (0, 0, 0)) (by decide +kernel) (show jbr (.if_icmp .eq 9) (15, [(15, a0), (0, a1)], [(0, 62), (0, a1)], s) = some ((w32 a1) = 62, (24, [(15, a0), (0, a1)], [], s), (18, [(15, a0), (0, a1)], [], s)) from rfl) H (fun H => ?_) (fun H => ?_)
      · refine AT.seq [(24, .iconst 1, 1, (0, 0, 0)), (25, .goto 4, 3, (0, 0, 0))] (by decide +kernel) (show jrun _ (24, [(15, a0), (0, a1)], [], s) = some ([], (29, [(15, a0), (0, a1)], [(0, 1)], s)) from rfl) ?_
        exact AT.retzC (by decide +kernel) (by decide) H
      · refine AT.seq [(18, .iload_n 1, 1, (0, 0, 0)), (19, .bipush 61, 2, (0, 0, 0))] (by decide +kernel) (show jrun _ (18, [(15, a0), (0, a1)], [], s) = some ([], (21, [(15, a0), (0, a1)], [(0, 61), (0, a1)], s)) from rfl) ?_
        refine AT.ite (x := (0, 0, 0)) (by decide +kernel) (show jbr (.if_icmp .ne 7) (21, [(15, a0), (0, a1)], [(0, 61), (0, a1)], s) = some ((w32 a1) = 61, (24, [(15, a0), (0, a1)], [], s), (28, [(15, a0), (0, a1)], [], s)) from rfl) H (fun H => ?_) (fun H => ?_)
        · refine AT.seq [(24, .iconst 1, 1, (0, 0, 0)), (25, .goto 4, 3, (0, 0, 0))] (by decide +kernel) (show jrun _ (24, [(15, a0), (0, a1)], [], s) = some ([], (29, [(15, a0), (0, a1)], [(0, 1)], s)) from rfl) ?_
          exact AT.retzC (by decide +kernel) (by decide) H
        · refine AT.seq [(28, .iconst 0, 1, (0, 0, 0))] (by decide +kernel) (show jrun _ (28, [(15, a0), (0, a1)], [], s) = some ([], (29, [(15, a0), (0, a1)], [(0, 0)], s)) from rfl) ?_
          exact AT.retzC (by decide +kernel) (by decide) H
def sMd_advance : jS := (⟨"JellyCathedralModel", "advance", "()V"⟩, prog_13_method_24_code, 2, 0, [15], 0)
theorem kMd_advance : jmk sMd_advance = true := jmk_of 6153 1012 6152 45 (by decide +kernel)
set_option maxRecDepth 100000 in
theorem Md_advance_210_ok {o : Int × jM} : ∀ (n : Nat) (x0 : Int) (s : jM), Md_advance_210  n x0 s = some o → AT sMd_advance 1 (210, [(15, x0), (99, 0)], [], s) o := by
  intro n
  induction n with
  | zero =>
    intro x0 s H
    have H : (none : Option (Int × jM)) = some o := H
    cases H
  | succ n ih =>
    intro x0 s H
    rw [Md_advance_210] at H
    refine AT.seq [(210, .aload_n 0, 1, (0, 0, 0)), (211, .aload_n 0, 1, (0, 0, 0)), (212, .getfield 114, 3, (5203, 1116, 0))] (by decide +kernel) (show jrun _ (210, [(15, x0), (99, 0)], [], s) = some ([], (215, [(15, x0), (99, 0)], [(0, (s x0 16)), (15, x0)], s)) from rfl) ?_
    obtain ⟨v1, s1, h1, H⟩ := jb_some H
    refine AT.callV (As := [(0, (s x0 16))]) (cl := 11) (b := x0) (st := []) (i := 120) (pos := 6154) kMd_look2 (by decide +kernel) rfl (by decide +kernel) rfl rfl (by omega) (Md_look2_ok h1) ?_
    show AT sMd_advance 1 (218, [(15, x0), (99, 0)], [(0, v1)], s1) o
    obtain ⟨v2, s2, h2, H⟩ := jb_some H
    refine AT.callS (As := [(0, v1)]) (st := []) (i := 139) (pos := 6163) kMd_isDigit (by decide +kernel) rfl rfl rfl (by omega) (Md_isDigit_ok h2) ?_
    show AT sMd_advance 1 (221, [(15, x0), (99, 0)], [(0, v2)], s2) o
    refine AT.ite (x := (0, 0, 0)) (by decide +kernel) (show jbr (.ifCond .eq 52) (221, [(15, x0), (99, 0)], [(0, v2)], s2) = some ((w32 v2) = 0, (273, [(15, x0), (99, 0)], [], s2), (224, [(15, x0), (99, 0)], [], s2)) from rfl) H (fun H => ?_) (fun H => ?_)
    · refine AT.seq [(273, .aload_n 0, 1, (0, 0, 0)), (274, .aload_n 0, 1, (0, 0, 0)), (275, .getfield 114, 3, (5203, 1116, 0)), (278, .aload_n 0, 1, (0, 0, 0)), (279, .getfield 117, 3, (5202, 1115, 0)), (282, .isub, 1, (0, 0, 0)), (283, .iconst 4, 1, (0, 0, 0))] (by decide +kernel) (show jrun _ (273, [(15, x0), (99, 0)], [], s2) = some ([], (284, [(15, x0), (99, 0)], [(0, 4), (0, ((s2 x0 16) - (s2 x0 15))), (15, x0)], s2)) from rfl) ?_
      refine AT.ite (x := (0, 0, 0)) (by decide +kernel) (show jbr (.if_icmp .le 7) (284, [(15, x0), (99, 0)], [(0, 4), (0, ((s2 x0 16) - (s2 x0 15))), (15, x0)], s2) = some (4 < (w32 ((s2 x0 16) - (s2 x0 15))), (287, [(15, x0), (99, 0)], [(15, x0)], s2), (291, [(15, x0), (99, 0)], [(15, x0)], s2)) from rfl) H (fun H => ?_) (fun H => ?_)
      · refine AT.seq [(287, .iconst 4, 1, (0, 0, 0)), (288, .goto 4, 3, (0, 0, 0)), (292, .putfield 123, 3, (5201, 1114, 0)), (295, .goto 35, 3, (0, 0, 0))] (by decide +kernel) (show jrun _ (287, [(15, x0), (99, 0)], [(15, x0)], s2) = some ([], (330, [(15, x0), (99, 0)], [], (jup s2 x0 14 4))) from rfl) ?_
        exact AT.retvH (by decide +kernel) H
      · refine AT.seq [(291, .iconst 2, 1, (0, 0, 0)), (292, .putfield 123, 3, (5201, 1114, 0)), (295, .goto 35, 3, (0, 0, 0))] (by decide +kernel) (show jrun _ (291, [(15, x0), (99, 0)], [(15, x0)], s2) = some ([], (330, [(15, x0), (99, 0)], [], (jup s2 x0 14 2))) from rfl) ?_
        exact AT.retvH (by decide +kernel) H
    · refine AT.seq [(224, .aload_n 0, 1, (0, 0, 0)), (225, .getfield 114, 3, (5203, 1116, 0)), (228, .aload_n 0, 1, (0, 0, 0)), (229, .getfield 117, 3, (5202, 1115, 0)), (232, .isub, 1, (0, 0, 0)), (233, .iconst 4, 1, (0, 0, 0))] (by decide +kernel) (show jrun _ (224, [(15, x0), (99, 0)], [], s2) = some ([], (234, [(15, x0), (99, 0)], [(0, 4), (0, ((s2 x0 16) - (s2 x0 15)))], s2)) from rfl) ?_
      refine AT.ite (x := (0, 0, 0)) (by decide +kernel) (show jbr (.if_icmp .ge 26) (234, [(15, x0), (99, 0)], [(0, 4), (0, ((s2 x0 16) - (s2 x0 15)))], s2) = some ((w32 ((s2 x0 16) - (s2 x0 15))) < 4, (237, [(15, x0), (99, 0)], [], s2), (260, [(15, x0), (99, 0)], [], s2)) from rfl) H (fun H => ?_) (fun H => ?_)
      · refine AT.seq [(237, .aload_n 0, 1, (0, 0, 0)), (238, .bipush 10, 2, (0, 0, 0)), (240, .aload_n 0, 1, (0, 0, 0)), (241, .getfield 142, 3, (5204, 1117, 0)), (244, .imul, 1, (0, 0, 0)), (245, .aload_n 0, 1, (0, 0, 0)), (246, .aload_n 0, 1, (0, 0, 0)), (247, .getfield 114, 3, (5203, 1116, 0))] (by decide +kernel) (show jrun _ (237, [(15, x0), (99, 0)], [], s2) = some ([], (250, [(15, x0), (99, 0)], [(0, (s2 x0 16)), (15, x0), (0, (10 * (s2 x0 17))), (15, x0)], s2)) from rfl) ?_
        obtain ⟨v3, s3, h3, H⟩ := jb_some H
        refine AT.callV (As := [(0, (s2 x0 16))]) (cl := 11) (b := x0) (st := [(0, (10 * (s2 x0 17))), (15, x0)]) (i := 120) (pos := 6154) kMd_look2 (by decide +kernel) rfl (by decide +kernel) rfl rfl (by omega) (Md_look2_ok h3) ?_
        show AT sMd_advance 1 (253, [(15, x0), (99, 0)], [(0, v3), (0, (10 * (s2 x0 17))), (15, x0)], s3) o
        refine AT.seq [(253, .iadd, 1, (0, 0, 0)), (254, .bipush 48, 2, (0, 0, 0)), (256, .isub, 1, (0, 0, 0)), (257, .putfield 142, 3, (5204, 1117, 0)), (260, .aload_n 0, 1, (0, 0, 0)), (261, .dup, 1, (0, 0, 0)), (262, .getfield 114, 3, (5203, 1116, 0)), (265, .iconst 1, 1, (0, 0, 0)), (266, .iadd, 1, (0, 0, 0)), (267, .putfield 114, 3, (5203, 1116, 0)), (270, .goto (-60), 3, (0, 0, 0))] (by decide +kernel) (show jrun _ (253, [(15, x0), (99, 0)], [(0, v3), (0, (10 * (s2 x0 17))), (15, x0)], s3) = some ([], (210, [(15, x0), (99, 0)], [], (jup (jup s3 x0 17 (((10 * (s2 x0 17)) + v3) - 48)) x0 16 (((jup s3 x0 17 (((10 * (s2 x0 17)) + v3) - 48)) x0 16) + 1)))) from rfl) ?_
        exact ih _ _ H
      · refine AT.seq [(260, .aload_n 0, 1, (0, 0, 0)), (261, .dup, 1, (0, 0, 0)), (262, .getfield 114, 3, (5203, 1116, 0)), (265, .iconst 1, 1, (0, 0, 0)), (266, .iadd, 1, (0, 0, 0)), (267, .putfield 114, 3, (5203, 1116, 0)), (270, .goto (-60), 3, (0, 0, 0))] (by decide +kernel) (show jrun _ (260, [(15, x0), (99, 0)], [], s2) = some ([], (210, [(15, x0), (99, 0)], [], (jup s2 x0 16 ((s2 x0 16) + 1)))) from rfl) ?_
        exact ih _ _ H
set_option maxRecDepth 100000 in
theorem Md_advance_109_ok {o : Int × jM} : ∀ (n : Nat) (x0 : Int) (s : jM), Md_advance_109  n x0 s = some o → AT sMd_advance 1 (109, [(15, x0), (99, 0)], [], s) o := by
  intro n
  induction n with
  | zero =>
    intro x0 s H
    have H : (none : Option (Int × jM)) = some o := H
    cases H
  | succ n ih =>
    intro x0 s H
    rw [Md_advance_109] at H
    refine AT.seq [(109, .aload_n 0, 1, (0, 0, 0)), (110, .aload_n 0, 1, (0, 0, 0)), (111, .getfield 114, 3, (5203, 1116, 0))] (by decide +kernel) (show jrun _ (109, [(15, x0), (99, 0)], [], s) = some ([], (114, [(15, x0), (99, 0)], [(0, (s x0 16)), (15, x0)], s)) from rfl) ?_
    obtain ⟨v4, s4, h4, H⟩ := jb_some H
    refine AT.callV (As := [(0, (s x0 16))]) (cl := 11) (b := x0) (st := []) (i := 120) (pos := 6154) kMd_look2 (by decide +kernel) rfl (by decide +kernel) rfl rfl (by omega) (Md_look2_ok h4) ?_
    show AT sMd_advance 1 (117, [(15, x0), (99, 0)], [(0, v4)], s4) o
    obtain ⟨v5, s5, h5, H⟩ := jb_some H
    refine AT.callS (As := [(0, v4)]) (st := []) (i := 126) (pos := 6158) kMd_isLetter (by decide +kernel) rfl rfl rfl (by omega) (Md_isLetter_ok h5) ?_
    show AT sMd_advance 1 (120, [(15, x0), (99, 0)], [(0, v5)], s5) o
    refine AT.ite (x := (0, 0, 0)) (by decide +kernel) (show jbr (.ifCond .eq 62) (120, [(15, x0), (99, 0)], [(0, v5)], s5) = some ((w32 v5) = 0, (182, [(15, x0), (99, 0)], [], s5), (123, [(15, x0), (99, 0)], [], s5)) from rfl) H (fun H => ?_) (fun H => ?_)
    · refine AT.seq [(182, .aload_n 0, 1, (0, 0, 0)), (183, .aload_n 0, 1, (0, 0, 0)), (184, .getfield 114, 3, (5203, 1116, 0)), (187, .aload_n 0, 1, (0, 0, 0)), (188, .getfield 117, 3, (5202, 1115, 0)), (191, .isub, 1, (0, 0, 0)), (192, .putfield 136, 3, (5205, 1118, 0)), (195, .goto 135, 3, (0, 0, 0))] (by decide +kernel) (show jrun _ (182, [(15, x0), (99, 0)], [], s5) = some ([], (330, [(15, x0), (99, 0)], [], (jup s5 x0 18 ((s5 x0 16) - (s5 x0 15))))) from rfl) ?_
      exact AT.retvH (by decide +kernel) H
    · refine AT.seq [(123, .aload_n 0, 1, (0, 0, 0)), (124, .aload_n 0, 1, (0, 0, 0)), (125, .getfield 114, 3, (5203, 1116, 0)), (128, .aload_n 0, 1, (0, 0, 0)), (129, .getfield 117, 3, (5202, 1115, 0)), (132, .isub, 1, (0, 0, 0)), (133, .bipush 8, 2, (0, 0, 0))] (by decide +kernel) (show jrun _ (123, [(15, x0), (99, 0)], [], s5) = some ([], (135, [(15, x0), (99, 0)], [(0, 8), (0, ((s5 x0 16) - (s5 x0 15))), (15, x0)], s5)) from rfl) ?_
      refine AT.ite (x := (0, 0, 0)) (by decide +kernel) (show jbr (.if_icmp .ge 28) (135, [(15, x0), (99, 0)], [(0, 8), (0, ((s5 x0 16) - (s5 x0 15))), (15, x0)], s5) = some ((w32 ((s5 x0 16) - (s5 x0 15))) < 8, (138, [(15, x0), (99, 0)], [(15, x0)], s5), (163, [(15, x0), (99, 0)], [(15, x0)], s5)) from rfl) H (fun H => ?_) (fun H => ?_)
      · refine AT.seq [(138, .aload_n 0, 1, (0, 0, 0)), (139, .getfield 129, 3, (5206, 1119, 0)), (142, .ldc2_w 132, 3, (6161, 0, 32)), (145, .lmul, 1, (0, 0, 0)), (146, .aload_n 0, 1, (0, 0, 0)), (147, .aload_n 0, 1, (0, 0, 0)), (148, .getfield 114, 3, (5203, 1116, 0))] (by decide +kernel) (show jrun _ (138, [(15, x0), (99, 0)], [(15, x0)], s5) = some ([], (151, [(15, x0), (99, 0)], [(0, (s5 x0 16)), (15, x0), (1, ((s5 x0 19) * 32)), (15, x0)], s5)) from rfl) ?_
        obtain ⟨v6, s6, h6, H⟩ := jb_some H
        refine AT.callV (As := [(0, (s5 x0 16))]) (cl := 11) (b := x0) (st := [(1, ((s5 x0 19) * 32)), (15, x0)]) (i := 120) (pos := 6154) kMd_look2 (by decide +kernel) rfl (by decide +kernel) rfl rfl (by omega) (Md_look2_ok h6) ?_
        show AT sMd_advance 1 (154, [(15, x0), (99, 0)], [(0, v6), (1, ((s5 x0 19) * 32)), (15, x0)], s6) o
        refine AT.seq [(154, .i2l, 1, (0, 0, 0)), (155, .ladd, 1, (0, 0, 0)), (156, .ldc2_w 134, 3, (6162, 0, 96)), (159, .lsub, 1, (0, 0, 0)), (160, .goto 6, 3, (0, 0, 0)), (166, .putfield 129, 3, (5206, 1119, 0)), (169, .aload_n 0, 1, (0, 0, 0)), (170, .dup, 1, (0, 0, 0)), (171, .getfield 114, 3, (5203, 1116, 0)), (174, .iconst 1, 1, (0, 0, 0)), (175, .iadd, 1, (0, 0, 0)), (176, .putfield 114, 3, (5203, 1116, 0)), (179, .goto (-70), 3, (0, 0, 0))] (by decide +kernel) (show jrun _ (154, [(15, x0), (99, 0)], [(0, v6), (1, ((s5 x0 19) * 32)), (15, x0)], s6) = some ([], (109, [(15, x0), (99, 0)], [], (jup (jup s6 x0 19 ((((s5 x0 19) * 32) + (w32 v6)) - 96)) x0 16 (((jup s6 x0 19 ((((s5 x0 19) * 32) + (w32 v6)) - 96)) x0 16) + 1)))) from rfl) ?_
        exact ih _ _ H
      · refine AT.seq [(163, .ldc2_w 103, 3, (6125, 0, (-1))), (166, .putfield 129, 3, (5206, 1119, 0)), (169, .aload_n 0, 1, (0, 0, 0)), (170, .dup, 1, (0, 0, 0)), (171, .getfield 114, 3, (5203, 1116, 0)), (174, .iconst 1, 1, (0, 0, 0)), (175, .iadd, 1, (0, 0, 0)), (176, .putfield 114, 3, (5203, 1116, 0)), (179, .goto (-70), 3, (0, 0, 0))] (by decide +kernel) (show jrun _ (163, [(15, x0), (99, 0)], [(15, x0)], s5) = some ([], (109, [(15, x0), (99, 0)], [], (jup (jup s5 x0 19 (-1)) x0 16 (((jup s5 x0 19 (-1)) x0 16) + 1)))) from rfl) ?_
        exact ih _ _ H
set_option maxRecDepth 100000 in
theorem Md_advance_58_ok {o : Int × jM} {x0 : Int} {s : jM} (H : Md_advance_58  x0 s = some o) : AT sMd_advance 1 (58, [(15, x0), (99, 0)], [], s) o := by
  unfold Md_advance_58 at H
  refine AT.seq [(58, .aload_n 0, 1, (0, 0, 0)), (59, .aload_n 0, 1, (0, 0, 0)), (60, .getfield 117, 3, (5202, 1115, 0)), (63, .putfield 114, 3, (5203, 1116, 0)), (66, .aload_n 0, 1, (0, 0, 0)), (67, .getfield 117, 3, (5202, 1115, 0)), (70, .aload_n 0, 1, (0, 0, 0)), (71, .getfield 111, 3, (5196, 1109, 0))] (by decide +kernel) (show jrun _ (58, [(15, x0), (99, 0)], [], s) = some ([], (74, [(15, x0), (99, 0)], [(0, ((jup s x0 16 (s x0 15)) x0 9)), (0, ((jup s x0 16 (s x0 15)) x0 15))], (jup s x0 16 (s x0 15)))) from rfl) ?_
  refine AT.ite (x := (0, 0, 0)) (by decide +kernel) (show jbr (.if_icmp .lt 9) (74, [(15, x0), (99, 0)], [(0, ((jup s x0 16 (s x0 15)) x0 9)), (0, ((jup s x0 16 (s x0 15)) x0 15))], (jup s x0 16 (s x0 15))) = some ((w32 ((jup s x0 16 (s x0 15)) x0 15)) < (w32 ((jup s x0 16 (s x0 15)) x0 9)), (83, [(15, x0), (99, 0)], [], (jup s x0 16 (s x0 15))), (77, [(15, x0), (99, 0)], [], (jup s x0 16 (s x0 15)))) from rfl) H (fun H => ?_) (fun H => ?_)
  · refine AT.seq [(83, .aload_n 0, 1, (0, 0, 0)), (84, .aload_n 0, 1, (0, 0, 0)), (85, .getfield 117, 3, (5202, 1115, 0))] (by decide +kernel) (show jrun _ (83, [(15, x0), (99, 0)], [], (jup s x0 16 (s x0 15))) = some ([], (88, [(15, x0), (99, 0)], [(0, ((jup s x0 16 (s x0 15)) x0 15)), (15, x0)], (jup s x0 16 (s x0 15)))) from rfl) ?_
    obtain ⟨v7, s7, h7, H⟩ := jb_some H
    refine AT.callV (As := [(0, ((jup s x0 16 (s x0 15)) x0 15))]) (cl := 11) (b := x0) (st := []) (i := 120) (pos := 6154) kMd_look2 (by decide +kernel) rfl (by decide +kernel) rfl rfl (by omega) (Md_look2_ok h7) ?_
    show AT sMd_advance 1 (91, [(15, x0), (99, 0)], [(0, v7)], s7) o
    refine AT.seq [(91, .istore_n 1, 1, (0, 0, 0)), (92, .iload_n 1, 1, (0, 0, 0))] (by decide +kernel) (show jrun _ (91, [(15, x0), (99, 0)], [(0, v7)], s7) = some ([], (93, [(15, x0), (0, v7)], [(0, v7)], s7)) from rfl) ?_
    obtain ⟨v8, s8, h8, H⟩ := jb_some H
    refine AT.callS (As := [(0, v7)]) (st := []) (i := 126) (pos := 6158) kMd_isLetter (by decide +kernel) rfl rfl rfl (by omega) (Md_isLetter_ok h8) ?_
    show AT sMd_advance 1 (96, [(15, x0), (0, v7)], [(0, v8)], s8) o
    refine AT.ite (x := (0, 0, 0)) (by decide +kernel) (show jbr (.ifCond .eq 102) (96, [(15, x0), (0, v7)], [(0, v8)], s8) = some ((w32 v8) = 0, (198, [(15, x0), (0, v7)], [], s8), (99, [(15, x0), (0, v7)], [], s8)) from rfl) H (fun H => ?_) (fun H => ?_)
    · refine AT.seq [(198, .iload_n 1, 1, (0, 0, 0))] (by decide +kernel) (show jrun _ (198, [(15, x0), (0, v7)], [], s8) = some ([], (199, [(15, x0), (0, v7)], [(0, v7)], s8)) from rfl) ?_
      obtain ⟨v9, s9, h9, H⟩ := jb_some H
      refine AT.callS (As := [(0, v7)]) (st := []) (i := 139) (pos := 6163) kMd_isDigit (by decide +kernel) rfl rfl rfl (by omega) (Md_isDigit_ok h9) ?_
      show AT sMd_advance 1 (202, [(15, x0), (0, v7)], [(0, v9)], s9) o
      refine AT.ite (x := (0, 0, 0)) (by decide +kernel) (show jbr (.ifCond .eq 96) (202, [(15, x0), (0, v7)], [(0, v9)], s9) = some ((w32 v9) = 0, (298, [(15, x0), (0, v7)], [], s9), (205, [(15, x0), (0, v7)], [], s9)) from rfl) H (fun H => ?_) (fun H => ?_)
      · refine AT.seq [(298, .aload_n 0, 1, (0, 0, 0)), (299, .aload_n 0, 1, (0, 0, 0)), (300, .getfield 117, 3, (5202, 1115, 0)), (303, .iconst 1, 1, (0, 0, 0)), (304, .iadd, 1, (0, 0, 0)), (305, .putfield 114, 3, (5203, 1116, 0)), (308, .aload_n 0, 1, (0, 0, 0)), (309, .iload_n 1, 1, (0, 0, 0)), (310, .putfield 142, 3, (5204, 1117, 0)), (313, .aload_n 0, 1, (0, 0, 0)), (314, .aload_n 0, 1, (0, 0, 0)), (315, .iload_n 1, 1, (0, 0, 0))] (by decide +kernel) (show jrun _ (298, [(15, x0), (0, v7)], [], s9) = some ([], (316, [(15, x0), (0, v7)], [(0, v7), (15, x0), (15, x0)], (jup (jup s9 x0 16 ((s9 x0 15) + 1)) x0 17 v7))) from rfl) ?_
        obtain ⟨v10, s10, h10, H⟩ := jb_some H
        refine AT.callV (As := [(0, v7)]) (cl := 11) (b := x0) (st := [(15, x0)]) (i := 145) (pos := 6166) kMd_isSignByte (by decide +kernel) rfl (by decide +kernel) rfl rfl (by omega) (Md_isSignByte_ok h10) ?_
        show AT sMd_advance 1 (319, [(15, x0), (0, v7)], [(0, v10), (15, x0)], s10) o
        refine AT.ite (x := (0, 0, 0)) (by decide +kernel) (show jbr (.ifCond .eq 7) (319, [(15, x0), (0, v7)], [(0, v10), (15, x0)], s10) = some ((w32 v10) = 0, (326, [(15, x0), (0, v7)], [(15, x0)], s10), (322, [(15, x0), (0, v7)], [(15, x0)], s10)) from rfl) H (fun H => ?_) (fun H => ?_)
        · refine AT.seq [(326, .iconst 4, 1, (0, 0, 0)), (327, .putfield 123, 3, (5201, 1114, 0))] (by decide +kernel) (show jrun _ (326, [(15, x0), (0, v7)], [(15, x0)], s10) = some ([], (330, [(15, x0), (0, v7)], [], (jup s10 x0 14 4))) from rfl) ?_
          exact AT.retvH (by decide +kernel) H
        · refine AT.seq [(322, .iconst 3, 1, (0, 0, 0)), (323, .goto 4, 3, (0, 0, 0)), (327, .putfield 123, 3, (5201, 1114, 0))] (by decide +kernel) (show jrun _ (322, [(15, x0), (0, v7)], [(15, x0)], s10) = some ([], (330, [(15, x0), (0, v7)], [], (jup s10 x0 14 3))) from rfl) ?_
          exact AT.retvH (by decide +kernel) H
      · refine AT.seq [(205, .aload_n 0, 1, (0, 0, 0)), (206, .iconst 0, 1, (0, 0, 0)), (207, .putfield 142, 3, (5204, 1117, 0))] (by decide +kernel) (show jrun _ (205, [(15, x0), (0, v7)], [], s9) = some ([], (210, [(15, x0), (0, v7)], [], (jup s9 x0 17 0))) from rfl) ?_
        exact AT.weak (L' := [(15, x0), (99, 0)]) (jleK (jleJ jle0)) (Md_advance_210_ok  jFU _ _ H)
    · refine AT.seq [(99, .aload_n 0, 1, (0, 0, 0)), (100, .iconst 1, 1, (0, 0, 0)), (101, .putfield 123, 3, (5201, 1114, 0)), (104, .aload_n 0, 1, (0, 0, 0)), (105, .lconst 0, 1, (0, 0, 0)), (106, .putfield 129, 3, (5206, 1119, 0))] (by decide +kernel) (show jrun _ (99, [(15, x0), (0, v7)], [], s8) = some ([], (109, [(15, x0), (0, v7)], [], (jup (jup s8 x0 14 1) x0 19 0))) from rfl) ?_
      exact AT.weak (L' := [(15, x0), (99, 0)]) (jleK (jleJ jle0)) (Md_advance_109_ok  jFU _ _ H)
  · refine AT.seq [(77, .aload_n 0, 1, (0, 0, 0)), (78, .iconst 0, 1, (0, 0, 0)), (79, .putfield 123, 3, (5201, 1114, 0))] (by decide +kernel) (show jrun _ (77, [(15, x0), (99, 0)], [], (jup s x0 16 (s x0 15))) = some ([], (82, [(15, x0), (99, 0)], [], (jup (jup s x0 16 (s x0 15)) x0 14 0))) from rfl) ?_
    exact AT.retvH (by decide +kernel) H
set_option maxRecDepth 100000 in
theorem Md_advance_8_ok {o : Int × jM} : ∀ (n : Nat) (x0 : Int) (s : jM), Md_advance_8  n x0 s = some o → AT sMd_advance 1 (8, [(15, x0), (99, 0)], [], s) o := by
  intro n
  induction n with
  | zero =>
    intro x0 s H
    have H : (none : Option (Int × jM)) = some o := H
    cases H
  | succ n ih =>
    intro x0 s H
    rw [Md_advance_8] at H
    refine AT.seq [(8, .aload_n 0, 1, (0, 0, 0)), (9, .getfield 117, 3, (5202, 1115, 0)), (12, .aload_n 0, 1, (0, 0, 0)), (13, .getfield 111, 3, (5196, 1109, 0))] (by decide +kernel) (show jrun _ (8, [(15, x0), (99, 0)], [], s) = some ([], (16, [(15, x0), (99, 0)], [(0, (s x0 9)), (0, (s x0 15))], s)) from rfl) ?_
    refine AT.ite (x := (0, 0, 0)) (by decide +kernel) (show jbr (.if_icmp .ge 42) (16, [(15, x0), (99, 0)], [(0, (s x0 9)), (0, (s x0 15))], s) = some ((w32 (s x0 15)) < (w32 (s x0 9)), (19, [(15, x0), (99, 0)], [], s), (58, [(15, x0), (99, 0)], [], s)) from rfl) H (fun H => ?_) (fun H => ?_)
    · refine AT.seq [(19, .aload_n 0, 1, (0, 0, 0)), (20, .aload_n 0, 1, (0, 0, 0)), (21, .getfield 117, 3, (5202, 1115, 0))] (by decide +kernel) (show jrun _ (19, [(15, x0), (99, 0)], [], s) = some ([], (24, [(15, x0), (99, 0)], [(0, (s x0 15)), (15, x0)], s)) from rfl) ?_
      obtain ⟨v11, s11, h11, H⟩ := jb_some H
      refine AT.callV (As := [(0, (s x0 15))]) (cl := 11) (b := x0) (st := []) (i := 120) (pos := 6154) kMd_look2 (by decide +kernel) rfl (by decide +kernel) rfl rfl (by omega) (Md_look2_ok h11) ?_
      show AT sMd_advance 1 (27, [(15, x0), (99, 0)], [(0, v11)], s11) o
      refine AT.seq [(27, .bipush 10, 2, (0, 0, 0))] (by decide +kernel) (show jrun _ (27, [(15, x0), (99, 0)], [(0, v11)], s11) = some ([], (29, [(15, x0), (99, 0)], [(0, 10), (0, v11)], s11)) from rfl) ?_
      refine AT.ite (x := (0, 0, 0)) (by decide +kernel) (show jbr (.if_icmp .eq 16) (29, [(15, x0), (99, 0)], [(0, 10), (0, v11)], s11) = some ((w32 v11) = 10, (45, [(15, x0), (99, 0)], [], s11), (32, [(15, x0), (99, 0)], [], s11)) from rfl) H (fun H => ?_) (fun H => ?_)
      · refine AT.seq [(45, .aload_n 0, 1, (0, 0, 0)), (46, .dup, 1, (0, 0, 0)), (47, .getfield 117, 3, (5202, 1115, 0)), (50, .iconst 1, 1, (0, 0, 0)), (51, .iadd, 1, (0, 0, 0)), (52, .putfield 117, 3, (5202, 1115, 0)), (55, .goto (-47), 3, (0, 0, 0))] (by decide +kernel) (show jrun _ (45, [(15, x0), (99, 0)], [], s11) = some ([], (8, [(15, x0), (99, 0)], [], (jup s11 x0 15 ((s11 x0 15) + 1)))) from rfl) ?_
        exact ih _ _ H
      · refine AT.seq [(32, .aload_n 0, 1, (0, 0, 0)), (33, .aload_n 0, 1, (0, 0, 0)), (34, .getfield 117, 3, (5202, 1115, 0))] (by decide +kernel) (show jrun _ (32, [(15, x0), (99, 0)], [], s11) = some ([], (37, [(15, x0), (99, 0)], [(0, (s11 x0 15)), (15, x0)], s11)) from rfl) ?_
        obtain ⟨v12, s12, h12, H⟩ := jb_some H
        refine AT.callV (As := [(0, (s11 x0 15))]) (cl := 11) (b := x0) (st := []) (i := 120) (pos := 6154) kMd_look2 (by decide +kernel) rfl (by decide +kernel) rfl rfl (by omega) (Md_look2_ok h12) ?_
        show AT sMd_advance 1 (40, [(15, x0), (99, 0)], [(0, v12)], s12) o
        refine AT.seq [(40, .bipush 32, 2, (0, 0, 0))] (by decide +kernel) (show jrun _ (40, [(15, x0), (99, 0)], [(0, v12)], s12) = some ([], (42, [(15, x0), (99, 0)], [(0, 32), (0, v12)], s12)) from rfl) ?_
        refine AT.ite (x := (0, 0, 0)) (by decide +kernel) (show jbr (.if_icmp .ne 16) (42, [(15, x0), (99, 0)], [(0, 32), (0, v12)], s12) = some ((w32 v12) = 32, (45, [(15, x0), (99, 0)], [], s12), (58, [(15, x0), (99, 0)], [], s12)) from rfl) H (fun H => ?_) (fun H => ?_)
        · refine AT.seq [(45, .aload_n 0, 1, (0, 0, 0)), (46, .dup, 1, (0, 0, 0)), (47, .getfield 117, 3, (5202, 1115, 0)), (50, .iconst 1, 1, (0, 0, 0)), (51, .iadd, 1, (0, 0, 0)), (52, .putfield 117, 3, (5202, 1115, 0)), (55, .goto (-47), 3, (0, 0, 0))] (by decide +kernel) (show jrun _ (45, [(15, x0), (99, 0)], [], s12) = some ([], (8, [(15, x0), (99, 0)], [], (jup s12 x0 15 ((s12 x0 15) + 1)))) from rfl) ?_
          exact ih _ _ H
        · exact Md_advance_58_ok  H
    · exact Md_advance_58_ok  H
set_option maxRecDepth 100000 in
theorem Md_advance_ok {a0 : Int} {s : jM} {o : Int × jM} (H : Md_advance a0 s = some o) : MK sMd_advance 1 [(15, a0)] s o := by
  refine MK.of kMd_advance rfl ?_
  show AT sMd_advance 1 (0, [(15, a0), (99, 0)], [], s) o
  unfold Md_advance at H
  refine AT.seq [(0, .aload_n 0, 1, (0, 0, 0)), (1, .aload_n 0, 1, (0, 0, 0)), (2, .getfield 114, 3, (5203, 1116, 0)), (5, .putfield 117, 3, (5202, 1115, 0))] (by decide +kernel) (show jrun _ (0, [(15, a0), (99, 0)], [], s) = some ([], (8, [(15, a0), (99, 0)], [], (jup s a0 15 (s a0 16)))) from rfl) ?_
  exact Md_advance_8_ok  jFU _ _ H
def sMd_isSign : jS := (⟨"JellyCathedralModel", "isSign", "(I)Z"⟩, prog_13_method_25_code, 2, 3, [15, 0], 0)
theorem kMd_isSign : jmk sMd_isSign = true := jmk_of 7086 1012 7085 83 (by decide +kernel)
set_option maxRecDepth 100000 in
theorem Md_isSign_ok {a0 a1 : Int} {s : jM} {o : Int × jM} (H : Md_isSign a0 a1 s = some o) : MK sMd_isSign 0 [(15, a0), (0, a1)] s o := by
  refine MK.of kMd_isSign rfl ?_
  show AT sMd_isSign 0 (0, [(15, a0), (0, a1)], [], s) o
  unfold Md_isSign at H
  refine AT.seq [(0, .aload_n 0, 1, (0, 0, 0)), (1, .getfield 123, 3, (5201, 1114, 0)), (4, .iconst 3, 1, (0, 0, 0))] (by decide +kernel) (show jrun _ (0, [(15, a0), (0, a1)], [], s) = some ([], (5, [(15, a0), (0, a1)], [(0, 3), (0, (s a0 14))], s)) from rfl) ?_
  refine AT.ite (x := (0, 0, 0)) (by decide +kernel) (show jbr (.if_icmp .ne 15) (5, [(15, a0), (0, a1)], [(0, 3), (0, (s a0 14))], s) = some ((w32 (s a0 14)) = 3, (8, [(15, a0), (0, a1)], [], s), (20, [(15, a0), (0, a1)], [], s)) from rfl) H (fun H => ?_) (fun H => ?_)
  · refine AT.seq [(8, .aload_n 0, 1, (0, 0, 0)), (9, .getfield 142, 3, (5204, 1117, 0)), (12, .iload_n 1, 1, (0, 0, 0))] (by decide +kernel) (show jrun _ (8, [(15, a0), (0, a1)], [], s) = some ([], (13, [(15, a0), (0, a1)], [(0, a1), (0, (s a0 17))], s)) from rfl) ?_
    refine AT.ite (x := (0, 0, 0)) (by decide +kernel) (show jbr (.if_icmp .ne 7) (13, [(15, a0), (0, a1)], [(0, a1), (0, (s a0 17))], s) = some ((w32 (s a0 17)) = (w32 a1), (16, [(15, a0), (0, a1)], [], s), (20, [(15, a0), (0, a1)], [], s)) from rfl) H (fun H => ?_) (fun H => ?_)
    · refine AT.seq [(16, .iconst 1, 1, (0, 0, 0)), (17, .goto 4, 3, (0, 0, 0))] (by decide +kernel) (show jrun _ (16, [(15, a0), (0, a1)], [], s) = some ([], (21, [(15, a0), (0, a1)], [(0, 1)], s)) from rfl) ?_
      exact AT.retzC (by decide +kernel) (by decide) H
    · refine AT.seq [(20, .iconst 0, 1, (0, 0, 0))] (by decide +kernel) (show jrun _ (20, [(15, a0), (0, a1)], [], s) = some ([], (21, [(15, a0), (0, a1)], [(0, 0)], s)) from rfl) ?_
      exact AT.retzC (by decide +kernel) (by decide) H
  · refine AT.seq [(20, .iconst 0, 1, (0, 0, 0))] (by decide +kernel) (show jrun _ (20, [(15, a0), (0, a1)], [], s) = some ([], (21, [(15, a0), (0, a1)], [(0, 0)], s)) from rfl) ?_
    exact AT.retzC (by decide +kernel) (by decide) H
def sMd_spelled : jS := (⟨"JellyCathedralModel", "spelled", "(IIIIII)J"⟩, prog_13_method_26_code, 8, 2, [0, 0, 0, 0, 0, 0], 1)
theorem kMd_spelled : jmk sMd_spelled = true := jmk_of 6180 1012 6179 0 (by decide +kernel)
set_option maxRecDepth 100000 in
theorem Md_spelled_91_ok {o : Int × jM} {x5 t0 : Int} {s : jM} (H : Md_spelled_91  x5 t0 s = some o) : AT sMd_spelled 0 (91, [(99, 0), (99, 0), (99, 0), (99, 0), (99, 0), (0, x5), (99, 0), (99, 0)], [(1, t0)], s) o := by
  unfold Md_spelled_91 at H
  refine AT.seq [(91, .lstore 6, 2, (0, 0, 0)), (93, .iload 5, 2, (0, 0, 0))] (by decide +kernel) (show jrun _ (91, [(99, 0), (99, 0), (99, 0), (99, 0), (99, 0), (0, x5), (99, 0), (99, 0)], [(1, t0)], s) = some ([], (95, [(99, 0), (99, 0), (99, 0), (99, 0), (99, 0), (0, x5), (1, t0), (99, 0)], [(0, x5)], s)) from rfl) ?_
  refine AT.ite (x := (0, 0, 0)) (by decide +kernel) (show jbr (.ifCond .le 20) (95, [(99, 0), (99, 0), (99, 0), (99, 0), (99, 0), (0, x5), (1, t0), (99, 0)], [(0, x5)], s) = some (0 < (w32 x5), (98, [(99, 0), (99, 0), (99, 0), (99, 0), (99, 0), (0, x5), (1, t0), (99, 0)], [], s), (115, [(99, 0), (99, 0), (99, 0), (99, 0), (99, 0), (0, x5), (1, t0), (99, 0)], [], s)) from rfl) H (fun H => ?_) (fun H => ?_)
  · refine AT.seq [(98, .lload 6, 2, (0, 0, 0)), (100, .ldc2_w 132, 3, (6161, 0, 32)), (103, .lmul, 1, (0, 0, 0)), (104, .iload 5, 2, (0, 0, 0)), (106, .i2l, 1, (0, 0, 0)), (107, .ladd, 1, (0, 0, 0)), (108, .ldc2_w 134, 3, (6162, 0, 96)), (111, .lsub, 1, (0, 0, 0)), (112, .goto 5, 3, (0, 0, 0))] (by decide +kernel) (show jrun _ (98, [(99, 0), (99, 0), (99, 0), (99, 0), (99, 0), (0, x5), (1, t0), (99, 0)], [], s) = some ([], (117, [(99, 0), (99, 0), (99, 0), (99, 0), (99, 0), (0, x5), (1, t0), (99, 0)], [(1, (((t0 * 32) + (w32 x5)) - 96))], s)) from rfl) ?_
    exact AT.retlH (by decide +kernel) H
  · refine AT.seq [(115, .lload 6, 2, (0, 0, 0))] (by decide +kernel) (show jrun _ (115, [(99, 0), (99, 0), (99, 0), (99, 0), (99, 0), (0, x5), (1, t0), (99, 0)], [], s) = some ([], (117, [(99, 0), (99, 0), (99, 0), (99, 0), (99, 0), (0, x5), (1, t0), (99, 0)], [(1, t0)], s)) from rfl) ?_
    exact AT.retlH (by decide +kernel) H
set_option maxRecDepth 100000 in
theorem Md_spelled_65_ok {o : Int × jM} {x4 x5 t0 : Int} {s : jM} (H : Md_spelled_65  x4 x5 t0 s = some o) : AT sMd_spelled 0 (65, [(99, 0), (99, 0), (99, 0), (99, 0), (0, x4), (0, x5), (99, 0), (99, 0)], [(1, t0)], s) o := by
  unfold Md_spelled_65 at H
  refine AT.seq [(65, .lstore 6, 2, (0, 0, 0)), (67, .iload 4, 2, (0, 0, 0))] (by decide +kernel) (show jrun _ (65, [(99, 0), (99, 0), (99, 0), (99, 0), (0, x4), (0, x5), (99, 0), (99, 0)], [(1, t0)], s) = some ([], (69, [(99, 0), (99, 0), (99, 0), (99, 0), (0, x4), (0, x5), (1, t0), (99, 0)], [(0, x4)], s)) from rfl) ?_
  refine AT.ite (x := (0, 0, 0)) (by decide +kernel) (show jbr (.ifCond .le 20) (69, [(99, 0), (99, 0), (99, 0), (99, 0), (0, x4), (0, x5), (1, t0), (99, 0)], [(0, x4)], s) = some (0 < (w32 x4), (72, [(99, 0), (99, 0), (99, 0), (99, 0), (0, x4), (0, x5), (1, t0), (99, 0)], [], s), (89, [(99, 0), (99, 0), (99, 0), (99, 0), (0, x4), (0, x5), (1, t0), (99, 0)], [], s)) from rfl) H (fun H => ?_) (fun H => ?_)
  · refine AT.seq [(72, .lload 6, 2, (0, 0, 0)), (74, .ldc2_w 132, 3, (6161, 0, 32)), (77, .lmul, 1, (0, 0, 0)), (78, .iload 4, 2, (0, 0, 0)), (80, .i2l, 1, (0, 0, 0)), (81, .ladd, 1, (0, 0, 0)), (82, .ldc2_w 134, 3, (6162, 0, 96)), (85, .lsub, 1, (0, 0, 0)), (86, .goto 5, 3, (0, 0, 0))] (by decide +kernel) (show jrun _ (72, [(99, 0), (99, 0), (99, 0), (99, 0), (0, x4), (0, x5), (1, t0), (99, 0)], [], s) = some ([], (91, [(99, 0), (99, 0), (99, 0), (99, 0), (0, x4), (0, x5), (1, t0), (99, 0)], [(1, (((t0 * 32) + (w32 x4)) - 96))], s)) from rfl) ?_
    exact AT.weak (L' := [(99, 0), (99, 0), (99, 0), (99, 0), (99, 0), (0, x5), (99, 0), (99, 0)]) (jleK (jleK (jleK (jleK (jleJ (jleK (jleJ (jleK jle0)))))))) (Md_spelled_91_ok  H)
  · refine AT.seq [(89, .lload 6, 2, (0, 0, 0))] (by decide +kernel) (show jrun _ (89, [(99, 0), (99, 0), (99, 0), (99, 0), (0, x4), (0, x5), (1, t0), (99, 0)], [], s) = some ([], (91, [(99, 0), (99, 0), (99, 0), (99, 0), (0, x4), (0, x5), (1, t0), (99, 0)], [(1, t0)], s)) from rfl) ?_
    exact AT.weak (L' := [(99, 0), (99, 0), (99, 0), (99, 0), (99, 0), (0, x5), (99, 0), (99, 0)]) (jleK (jleK (jleK (jleK (jleJ (jleK (jleJ (jleK jle0)))))))) (Md_spelled_91_ok  H)
set_option maxRecDepth 100000 in
theorem Md_spelled_41_ok {o : Int × jM} {x3 x4 x5 t0 : Int} {s : jM} (H : Md_spelled_41  x3 x4 x5 t0 s = some o) : AT sMd_spelled 0 (41, [(99, 0), (99, 0), (99, 0), (0, x3), (0, x4), (0, x5), (99, 0), (99, 0)], [(1, t0)], s) o := by
  unfold Md_spelled_41 at H
  refine AT.seq [(41, .lstore 6, 2, (0, 0, 0)), (43, .iload_n 3, 1, (0, 0, 0))] (by decide +kernel) (show jrun _ (41, [(99, 0), (99, 0), (99, 0), (0, x3), (0, x4), (0, x5), (99, 0), (99, 0)], [(1, t0)], s) = some ([], (44, [(99, 0), (99, 0), (99, 0), (0, x3), (0, x4), (0, x5), (1, t0), (99, 0)], [(0, x3)], s)) from rfl) ?_
  refine AT.ite (x := (0, 0, 0)) (by decide +kernel) (show jbr (.ifCond .le 19) (44, [(99, 0), (99, 0), (99, 0), (0, x3), (0, x4), (0, x5), (1, t0), (99, 0)], [(0, x3)], s) = some (0 < (w32 x3), (47, [(99, 0), (99, 0), (99, 0), (0, x3), (0, x4), (0, x5), (1, t0), (99, 0)], [], s), (63, [(99, 0), (99, 0), (99, 0), (0, x3), (0, x4), (0, x5), (1, t0), (99, 0)], [], s)) from rfl) H (fun H => ?_) (fun H => ?_)
  · refine AT.seq [(47, .lload 6, 2, (0, 0, 0)), (49, .ldc2_w 132, 3, (6161, 0, 32)), (52, .lmul, 1, (0, 0, 0)), (53, .iload_n 3, 1, (0, 0, 0)), (54, .i2l, 1, (0, 0, 0)), (55, .ladd, 1, (0, 0, 0)), (56, .ldc2_w 134, 3, (6162, 0, 96)), (59, .lsub, 1, (0, 0, 0)), (60, .goto 5, 3, (0, 0, 0))] (by decide +kernel) (show jrun _ (47, [(99, 0), (99, 0), (99, 0), (0, x3), (0, x4), (0, x5), (1, t0), (99, 0)], [], s) = some ([], (65, [(99, 0), (99, 0), (99, 0), (0, x3), (0, x4), (0, x5), (1, t0), (99, 0)], [(1, (((t0 * 32) + (w32 x3)) - 96))], s)) from rfl) ?_
    exact AT.weak (L' := [(99, 0), (99, 0), (99, 0), (99, 0), (0, x4), (0, x5), (99, 0), (99, 0)]) (jleK (jleK (jleK (jleJ (jleK (jleK (jleJ (jleK jle0)))))))) (Md_spelled_65_ok  H)
  · refine AT.seq [(63, .lload 6, 2, (0, 0, 0))] (by decide +kernel) (show jrun _ (63, [(99, 0), (99, 0), (99, 0), (0, x3), (0, x4), (0, x5), (1, t0), (99, 0)], [], s) = some ([], (65, [(99, 0), (99, 0), (99, 0), (0, x3), (0, x4), (0, x5), (1, t0), (99, 0)], [(1, t0)], s)) from rfl) ?_
    exact AT.weak (L' := [(99, 0), (99, 0), (99, 0), (99, 0), (0, x4), (0, x5), (99, 0), (99, 0)]) (jleK (jleK (jleK (jleJ (jleK (jleK (jleJ (jleK jle0)))))))) (Md_spelled_65_ok  H)
set_option maxRecDepth 100000 in
theorem Md_spelled_ok {a0 a1 a2 a3 a4 a5 : Int} {s : jM} {o : Int × jM} (H : Md_spelled a0 a1 a2 a3 a4 a5 s = some o) : MK sMd_spelled 0 [(0, a0), (0, a1), (0, a2), (0, a3), (0, a4), (0, a5)] s o := by
  refine MK.of kMd_spelled rfl ?_
  show AT sMd_spelled 0 (0, [(0, a0), (0, a1), (0, a2), (0, a3), (0, a4), (0, a5), (99, 0), (99, 0)], [], s) o
  unfold Md_spelled at H
  refine AT.seq [(0, .iload_n 0, 1, (0, 0, 0)), (1, .i2l, 1, (0, 0, 0)), (2, .ldc2_w 134, 3, (6162, 0, 96)), (5, .lsub, 1, (0, 0, 0)), (6, .ldc2_w 132, 3, (6161, 0, 32)), (9, .lmul, 1, (0, 0, 0)), (10, .iload_n 1, 1, (0, 0, 0)), (11, .i2l, 1, (0, 0, 0)), (12, .ladd, 1, (0, 0, 0)), (13, .ldc2_w 134, 3, (6162, 0, 96)), (16, .lsub, 1, (0, 0, 0)), (17, .lstore 6, 2, (0, 0, 0)), (19, .iload_n 2, 1, (0, 0, 0))] (by decide +kernel) (show jrun _ (0, [(0, a0), (0, a1), (0, a2), (0, a3), (0, a4), (0, a5), (99, 0), (99, 0)], [], s) = some ([], (20, [(0, a0), (0, a1), (0, a2), (0, a3), (0, a4), (0, a5), (1, (((((w32 a0) - 96) * 32) + (w32 a1)) - 96)), (99, 0)], [(0, a2)], s)) from rfl) ?_
  refine AT.ite (x := (0, 0, 0)) (by decide +kernel) (show jbr (.ifCond .le 19) (20, [(0, a0), (0, a1), (0, a2), (0, a3), (0, a4), (0, a5), (1, (((((w32 a0) - 96) * 32) + (w32 a1)) - 96)), (99, 0)], [(0, a2)], s) = some (0 < (w32 a2), (23, [(0, a0), (0, a1), (0, a2), (0, a3), (0, a4), (0, a5), (1, (((((w32 a0) - 96) * 32) + (w32 a1)) - 96)), (99, 0)], [], s), (39, [(0, a0), (0, a1), (0, a2), (0, a3), (0, a4), (0, a5), (1, (((((w32 a0) - 96) * 32) + (w32 a1)) - 96)), (99, 0)], [], s)) from rfl) H (fun H => ?_) (fun H => ?_)
  · refine AT.seq [(23, .lload 6, 2, (0, 0, 0)), (25, .ldc2_w 132, 3, (6161, 0, 32)), (28, .lmul, 1, (0, 0, 0)), (29, .iload_n 2, 1, (0, 0, 0)), (30, .i2l, 1, (0, 0, 0)), (31, .ladd, 1, (0, 0, 0)), (32, .ldc2_w 134, 3, (6162, 0, 96)), (35, .lsub, 1, (0, 0, 0)), (36, .goto 5, 3, (0, 0, 0))] (by decide +kernel) (show jrun _ (23, [(0, a0), (0, a1), (0, a2), (0, a3), (0, a4), (0, a5), (1, (((((w32 a0) - 96) * 32) + (w32 a1)) - 96)), (99, 0)], [], s) = some ([], (41, [(0, a0), (0, a1), (0, a2), (0, a3), (0, a4), (0, a5), (1, (((((w32 a0) - 96) * 32) + (w32 a1)) - 96)), (99, 0)], [(1, ((((((((w32 a0) - 96) * 32) + (w32 a1)) - 96) * 32) + (w32 a2)) - 96))], s)) from rfl) ?_
    exact AT.weak (L' := [(99, 0), (99, 0), (99, 0), (0, a3), (0, a4), (0, a5), (99, 0), (99, 0)]) (jleJ (jleJ (jleJ (jleK (jleK (jleK (jleJ (jleK jle0)))))))) (Md_spelled_41_ok  H)
  · refine AT.seq [(39, .lload 6, 2, (0, 0, 0))] (by decide +kernel) (show jrun _ (39, [(0, a0), (0, a1), (0, a2), (0, a3), (0, a4), (0, a5), (1, (((((w32 a0) - 96) * 32) + (w32 a1)) - 96)), (99, 0)], [], s) = some ([], (41, [(0, a0), (0, a1), (0, a2), (0, a3), (0, a4), (0, a5), (1, (((((w32 a0) - 96) * 32) + (w32 a1)) - 96)), (99, 0)], [(1, (((((w32 a0) - 96) * 32) + (w32 a1)) - 96))], s)) from rfl) ?_
    exact AT.weak (L' := [(99, 0), (99, 0), (99, 0), (0, a3), (0, a4), (0, a5), (99, 0), (99, 0)]) (jleJ (jleJ (jleJ (jleK (jleK (jleK (jleJ (jleK jle0)))))))) (Md_spelled_41_ok  H)
def sMd_isWord : jS := (⟨"JellyCathedralModel", "isWord", "(J)Z"⟩, prog_13_method_27_code, 3, 3, [15, 1], 0)
theorem kMd_isWord : jmk sMd_isWord = true := jmk_of 6184 1012 6183 50 (by decide +kernel)
set_option maxRecDepth 100000 in
theorem Md_isWord_ok {a0 a1 : Int} {s : jM} {o : Int × jM} (H : Md_isWord a0 a1 s = some o) : MK sMd_isWord 0 [(15, a0), (1, a1)] s o := by
  refine MK.of kMd_isWord rfl ?_
  show AT sMd_isWord 0 (0, [(15, a0), (1, a1), (99, 0)], [], s) o
  unfold Md_isWord at H
  refine AT.seq [(0, .aload_n 0, 1, (0, 0, 0)), (1, .getfield 123, 3, (5201, 1114, 0)), (4, .iconst 1, 1, (0, 0, 0))] (by decide +kernel) (show jrun _ (0, [(15, a0), (1, a1), (99, 0)], [], s) = some ([], (5, [(15, a0), (1, a1), (99, 0)], [(0, 1), (0, (s a0 14))], s)) from rfl) ?_
  refine AT.ite (x := (0, 0, 0)) (by decide +kernel) (show jbr (.if_icmp .ne 16) (5, [(15, a0), (1, a1), (99, 0)], [(0, 1), (0, (s a0 14))], s) = some ((w32 (s a0 14)) = 1, (8, [(15, a0), (1, a1), (99, 0)], [], s), (21, [(15, a0), (1, a1), (99, 0)], [], s)) from rfl) H (fun H => ?_) (fun H => ?_)
  · refine AT.seq [(8, .aload_n 0, 1, (0, 0, 0)), (9, .getfield 129, 3, (5206, 1119, 0)), (12, .lload_n 1, 1, (0, 0, 0)), (13, .lcmp, 1, (0, 0, 0))] (by decide +kernel) (show jrun _ (8, [(15, a0), (1, a1), (99, 0)], [], s) = some ([], (14, [(15, a0), (1, a1), (99, 0)], [(0, (jlcmp (s a0 19) a1))], s)) from rfl) ?_
    refine AT.ite (x := (0, 0, 0)) (by decide +kernel) (show jbr (.ifCond .ne 7) (14, [(15, a0), (1, a1), (99, 0)], [(0, (jlcmp (s a0 19) a1))], s) = some ((w32 (jlcmp (s a0 19) a1)) = 0, (17, [(15, a0), (1, a1), (99, 0)], [], s), (21, [(15, a0), (1, a1), (99, 0)], [], s)) from rfl) H (fun H => ?_) (fun H => ?_)
    · refine AT.seq [(17, .iconst 1, 1, (0, 0, 0)), (18, .goto 4, 3, (0, 0, 0))] (by decide +kernel) (show jrun _ (17, [(15, a0), (1, a1), (99, 0)], [], s) = some ([], (22, [(15, a0), (1, a1), (99, 0)], [(0, 1)], s)) from rfl) ?_
      exact AT.retzC (by decide +kernel) (by decide) H
    · refine AT.seq [(21, .iconst 0, 1, (0, 0, 0))] (by decide +kernel) (show jrun _ (21, [(15, a0), (1, a1), (99, 0)], [], s) = some ([], (22, [(15, a0), (1, a1), (99, 0)], [(0, 0)], s)) from rfl) ?_
      exact AT.retzC (by decide +kernel) (by decide) H
  · refine AT.seq [(21, .iconst 0, 1, (0, 0, 0))] (by decide +kernel) (show jrun _ (21, [(15, a0), (1, a1), (99, 0)], [], s) = some ([], (22, [(15, a0), (1, a1), (99, 0)], [(0, 0)], s)) from rfl) ?_
    exact AT.retzC (by decide +kernel) (by decide) H
def sMd_isHeat : jS := (⟨"JellyCathedralModel", "isHeat", "()Z"⟩, prog_13_method_28_code, 1, 3, [15], 0)
theorem kMd_isHeat : jmk sMd_isHeat = true := jmk_of 6177 1012 6176 49 (by decide +kernel)
set_option maxRecDepth 100000 in
theorem Md_isHeat_ok {a0 : Int} {s : jM} {o : Int × jM} (H : Md_isHeat a0 s = some o) : MK sMd_isHeat 1 [(15, a0)] s o := by
  refine MK.of kMd_isHeat rfl ?_
  show AT sMd_isHeat 1 (0, [(15, a0)], [], s) o
  unfold Md_isHeat at H
  refine AT.seq [(0, .aload_n 0, 1, (0, 0, 0)), (1, .bipush 104, 2, (0, 0, 0)), (3, .bipush 101, 2, (0, 0, 0)), (5, .bipush 97, 2, (0, 0, 0)), (7, .bipush 116, 2, (0, 0, 0)), (9, .iconst 0, 1, (0, 0, 0)), (10, .iconst 0, 1, (0, 0, 0))] (by decide +kernel) (show jrun _ (0, [(15, a0)], [], s) = some ([], (11, [(15, a0)], [(0, 0), (0, 0), (0, 116), (0, 97), (0, 101), (0, 104), (15, a0)], s)) from rfl) ?_
  obtain ⟨v1, s1, h1, H⟩ := jb_some H
  refine AT.callS (As := [(0, 104), (0, 101), (0, 97), (0, 116), (0, 0), (0, 0)]) (st := [(15, a0)]) (i := 148) (pos := 6178) kMd_spelled (by decide +kernel) rfl rfl rfl (by omega) (Md_spelled_ok h1) ?_
  show AT sMd_isHeat 1 (14, [(15, a0)], [(1, v1), (15, a0)], s1) o
  obtain ⟨v2, s2, h2, H⟩ := jb_some H
  refine AT.callV (As := [(1, v1)]) (cl := 11) (b := a0) (st := []) (i := 152) (pos := 6181) kMd_isWord (by decide +kernel) rfl (by decide +kernel) rfl rfl (by omega) (Md_isWord_ok h2) ?_
  show AT sMd_isHeat 1 (17, [(15, a0)], [(0, v2)], s2) o
  exact AT.retzH (by decide +kernel) H
def sMd_isOdds : jS := (⟨"JellyCathedralModel", "isOdds", "()Z"⟩, prog_13_method_29_code, 1, 3, [15], 0)
theorem kMd_isOdds : jmk sMd_isOdds = true := jmk_of 6210 1012 6209 55 (by decide +kernel)
set_option maxRecDepth 100000 in
theorem Md_isOdds_ok {a0 : Int} {s : jM} {o : Int × jM} (H : Md_isOdds a0 s = some o) : MK sMd_isOdds 1 [(15, a0)] s o := by
  refine MK.of kMd_isOdds rfl ?_
  show AT sMd_isOdds 1 (0, [(15, a0)], [], s) o
  unfold Md_isOdds at H
  refine AT.seq [(0, .aload_n 0, 1, (0, 0, 0)), (1, .bipush 111, 2, (0, 0, 0)), (3, .bipush 100, 2, (0, 0, 0)), (5, .bipush 100, 2, (0, 0, 0)), (7, .bipush 115, 2, (0, 0, 0)), (9, .iconst 0, 1, (0, 0, 0)), (10, .iconst 0, 1, (0, 0, 0))] (by decide +kernel) (show jrun _ (0, [(15, a0)], [], s) = some ([], (11, [(15, a0)], [(0, 0), (0, 0), (0, 115), (0, 100), (0, 100), (0, 111), (15, a0)], s)) from rfl) ?_
  obtain ⟨v1, s1, h1, H⟩ := jb_some H
  refine AT.callS (As := [(0, 111), (0, 100), (0, 100), (0, 115), (0, 0), (0, 0)]) (st := [(15, a0)]) (i := 148) (pos := 6178) kMd_spelled (by decide +kernel) rfl rfl rfl (by omega) (Md_spelled_ok h1) ?_
  show AT sMd_isOdds 1 (14, [(15, a0)], [(1, v1), (15, a0)], s1) o
  obtain ⟨v2, s2, h2, H⟩ := jb_some H
  refine AT.callV (As := [(1, v1)]) (cl := 11) (b := a0) (st := []) (i := 152) (pos := 6181) kMd_isWord (by decide +kernel) rfl (by decide +kernel) rfl rfl (by omega) (Md_isWord_ok h2) ?_
  show AT sMd_isOdds 1 (17, [(15, a0)], [(0, v2)], s2) o
  exact AT.retzH (by decide +kernel) H
def sMd_isStuff : jS := (⟨"JellyCathedralModel", "isStuff", "()Z"⟩, prog_13_method_30_code, 1, 3, [15], 0)
theorem kMd_isStuff : jmk sMd_isStuff = true := jmk_of 6214 1012 6213 56 (by decide +kernel)
set_option maxRecDepth 100000 in
theorem Md_isStuff_ok {a0 : Int} {s : jM} {o : Int × jM} (H : Md_isStuff a0 s = some o) : MK sMd_isStuff 1 [(15, a0)] s o := by
  refine MK.of kMd_isStuff rfl ?_
  show AT sMd_isStuff 1 (0, [(15, a0)], [], s) o
  unfold Md_isStuff at H
  refine AT.seq [(0, .aload_n 0, 1, (0, 0, 0)), (1, .bipush 115, 2, (0, 0, 0)), (3, .bipush 116, 2, (0, 0, 0)), (5, .bipush 117, 2, (0, 0, 0)), (7, .bipush 102, 2, (0, 0, 0)), (9, .bipush 102, 2, (0, 0, 0)), (11, .iconst 0, 1, (0, 0, 0))] (by decide +kernel) (show jrun _ (0, [(15, a0)], [], s) = some ([], (12, [(15, a0)], [(0, 0), (0, 102), (0, 102), (0, 117), (0, 116), (0, 115), (15, a0)], s)) from rfl) ?_
  obtain ⟨v1, s1, h1, H⟩ := jb_some H
  refine AT.callS (As := [(0, 115), (0, 116), (0, 117), (0, 102), (0, 102), (0, 0)]) (st := [(15, a0)]) (i := 148) (pos := 6178) kMd_spelled (by decide +kernel) rfl rfl rfl (by omega) (Md_spelled_ok h1) ?_
  show AT sMd_isStuff 1 (15, [(15, a0)], [(1, v1), (15, a0)], s1) o
  obtain ⟨v2, s2, h2, H⟩ := jb_some H
  refine AT.callV (As := [(1, v1)]) (cl := 11) (b := a0) (st := []) (i := 152) (pos := 6181) kMd_isWord (by decide +kernel) rfl (by decide +kernel) rfl rfl (by omega) (Md_isWord_ok h2) ?_
  show AT sMd_isStuff 1 (18, [(15, a0)], [(0, v2)], s2) o
  exact AT.retzH (by decide +kernel) H
def sMd_isSets : jS := (⟨"JellyCathedralModel", "isSets", "()Z"⟩, prog_13_method_31_code, 1, 3, [15], 0)
theorem kMd_isSets : jmk sMd_isSets = true := jmk_of 6234 1012 6233 61 (by decide +kernel)
set_option maxRecDepth 100000 in
theorem Md_isSets_ok {a0 : Int} {s : jM} {o : Int × jM} (H : Md_isSets a0 s = some o) : MK sMd_isSets 1 [(15, a0)] s o := by
  refine MK.of kMd_isSets rfl ?_
  show AT sMd_isSets 1 (0, [(15, a0)], [], s) o
  unfold Md_isSets at H
  refine AT.seq [(0, .aload_n 0, 1, (0, 0, 0)), (1, .bipush 115, 2, (0, 0, 0)), (3, .bipush 101, 2, (0, 0, 0)), (5, .bipush 116, 2, (0, 0, 0)), (7, .bipush 115, 2, (0, 0, 0)), (9, .iconst 0, 1, (0, 0, 0)), (10, .iconst 0, 1, (0, 0, 0))] (by decide +kernel) (show jrun _ (0, [(15, a0)], [], s) = some ([], (11, [(15, a0)], [(0, 0), (0, 0), (0, 115), (0, 116), (0, 101), (0, 115), (15, a0)], s)) from rfl) ?_
  obtain ⟨v1, s1, h1, H⟩ := jb_some H
  refine AT.callS (As := [(0, 115), (0, 101), (0, 116), (0, 115), (0, 0), (0, 0)]) (st := [(15, a0)]) (i := 148) (pos := 6178) kMd_spelled (by decide +kernel) rfl rfl rfl (by omega) (Md_spelled_ok h1) ?_
  show AT sMd_isSets 1 (14, [(15, a0)], [(1, v1), (15, a0)], s1) o
  obtain ⟨v2, s2, h2, H⟩ := jb_some H
  refine AT.callV (As := [(1, v1)]) (cl := 11) (b := a0) (st := []) (i := 152) (pos := 6181) kMd_isWord (by decide +kernel) rfl (by decide +kernel) rfl rfl (by omega) (Md_isWord_ok h2) ?_
  show AT sMd_isSets 1 (17, [(15, a0)], [(0, v2)], s2) o
  exact AT.retzH (by decide +kernel) H
def sMd_isCosts : jS := (⟨"JellyCathedralModel", "isCosts", "()Z"⟩, prog_13_method_32_code, 1, 3, [15], 0)
theorem kMd_isCosts : jmk sMd_isCosts = true := jmk_of 6238 1012 6237 62 (by decide +kernel)
set_option maxRecDepth 100000 in
theorem Md_isCosts_ok {a0 : Int} {s : jM} {o : Int × jM} (H : Md_isCosts a0 s = some o) : MK sMd_isCosts 1 [(15, a0)] s o := by
  refine MK.of kMd_isCosts rfl ?_
  show AT sMd_isCosts 1 (0, [(15, a0)], [], s) o
  unfold Md_isCosts at H
  refine AT.seq [(0, .aload_n 0, 1, (0, 0, 0)), (1, .bipush 99, 2, (0, 0, 0)), (3, .bipush 111, 2, (0, 0, 0)), (5, .bipush 115, 2, (0, 0, 0)), (7, .bipush 116, 2, (0, 0, 0)), (9, .bipush 115, 2, (0, 0, 0)), (11, .iconst 0, 1, (0, 0, 0))] (by decide +kernel) (show jrun _ (0, [(15, a0)], [], s) = some ([], (12, [(15, a0)], [(0, 0), (0, 115), (0, 116), (0, 115), (0, 111), (0, 99), (15, a0)], s)) from rfl) ?_
  obtain ⟨v1, s1, h1, H⟩ := jb_some H
  refine AT.callS (As := [(0, 99), (0, 111), (0, 115), (0, 116), (0, 115), (0, 0)]) (st := [(15, a0)]) (i := 148) (pos := 6178) kMd_spelled (by decide +kernel) rfl rfl rfl (by omega) (Md_spelled_ok h1) ?_
  show AT sMd_isCosts 1 (15, [(15, a0)], [(1, v1), (15, a0)], s1) o
  obtain ⟨v2, s2, h2, H⟩ := jb_some H
  refine AT.callV (As := [(1, v1)]) (cl := 11) (b := a0) (st := []) (i := 152) (pos := 6181) kMd_isWord (by decide +kernel) rfl (by decide +kernel) rfl rfl (by omega) (Md_isWord_ok h2) ?_
  show AT sMd_isCosts 1 (18, [(15, a0)], [(0, v2)], s2) o
  exact AT.retzH (by decide +kernel) H
def sMd_isStock : jS := (⟨"JellyCathedralModel", "isStock", "()Z"⟩, prog_13_method_33_code, 1, 3, [15], 0)
theorem kMd_isStock : jmk sMd_isStock = true := jmk_of 7002 1012 7001 63 (by decide +kernel)
set_option maxRecDepth 100000 in
theorem Md_isStock_ok {a0 : Int} {s : jM} {o : Int × jM} (H : Md_isStock a0 s = some o) : MK sMd_isStock 1 [(15, a0)] s o := by
  refine MK.of kMd_isStock rfl ?_
  show AT sMd_isStock 1 (0, [(15, a0)], [], s) o
  unfold Md_isStock at H
  refine AT.seq [(0, .aload_n 0, 1, (0, 0, 0)), (1, .bipush 115, 2, (0, 0, 0)), (3, .bipush 116, 2, (0, 0, 0)), (5, .bipush 111, 2, (0, 0, 0)), (7, .bipush 99, 2, (0, 0, 0)), (9, .bipush 107, 2, (0, 0, 0)), (11, .iconst 0, 1, (0, 0, 0))] (by decide +kernel) (show jrun _ (0, [(15, a0)], [], s) = some ([], (12, [(15, a0)], [(0, 0), (0, 107), (0, 99), (0, 111), (0, 116), (0, 115), (15, a0)], s)) from rfl) ?_
  obtain ⟨v1, s1, h1, H⟩ := jb_some H
  refine AT.callS (As := [(0, 115), (0, 116), (0, 111), (0, 99), (0, 107), (0, 0)]) (st := [(15, a0)]) (i := 148) (pos := 6178) kMd_spelled (by decide +kernel) rfl rfl rfl (by omega) (Md_spelled_ok h1) ?_
  show AT sMd_isStock 1 (15, [(15, a0)], [(1, v1), (15, a0)], s1) o
  obtain ⟨v2, s2, h2, H⟩ := jb_some H
  refine AT.callV (As := [(1, v1)]) (cl := 11) (b := a0) (st := []) (i := 152) (pos := 6181) kMd_isWord (by decide +kernel) rfl (by decide +kernel) rfl rfl (by omega) (Md_isWord_ok h2) ?_
  show AT sMd_isStock 1 (18, [(15, a0)], [(0, v2)], s2) o
  exact AT.retzH (by decide +kernel) H
def sMd_isPlace : jS := (⟨"JellyCathedralModel", "isPlace", "()Z"⟩, prog_13_method_34_code, 1, 3, [15], 0)
theorem kMd_isPlace : jmk sMd_isPlace = true := jmk_of 7006 1012 7005 64 (by decide +kernel)
set_option maxRecDepth 100000 in
theorem Md_isPlace_ok {a0 : Int} {s : jM} {o : Int × jM} (H : Md_isPlace a0 s = some o) : MK sMd_isPlace 1 [(15, a0)] s o := by
  refine MK.of kMd_isPlace rfl ?_
  show AT sMd_isPlace 1 (0, [(15, a0)], [], s) o
  unfold Md_isPlace at H
  refine AT.seq [(0, .aload_n 0, 1, (0, 0, 0)), (1, .bipush 112, 2, (0, 0, 0)), (3, .bipush 108, 2, (0, 0, 0)), (5, .bipush 97, 2, (0, 0, 0)), (7, .bipush 99, 2, (0, 0, 0)), (9, .bipush 101, 2, (0, 0, 0)), (11, .iconst 0, 1, (0, 0, 0))] (by decide +kernel) (show jrun _ (0, [(15, a0)], [], s) = some ([], (12, [(15, a0)], [(0, 0), (0, 101), (0, 99), (0, 97), (0, 108), (0, 112), (15, a0)], s)) from rfl) ?_
  obtain ⟨v1, s1, h1, H⟩ := jb_some H
  refine AT.callS (As := [(0, 112), (0, 108), (0, 97), (0, 99), (0, 101), (0, 0)]) (st := [(15, a0)]) (i := 148) (pos := 6178) kMd_spelled (by decide +kernel) rfl rfl rfl (by omega) (Md_spelled_ok h1) ?_
  show AT sMd_isPlace 1 (15, [(15, a0)], [(1, v1), (15, a0)], s1) o
  obtain ⟨v2, s2, h2, H⟩ := jb_some H
  refine AT.callV (As := [(1, v1)]) (cl := 11) (b := a0) (st := []) (i := 152) (pos := 6181) kMd_isWord (by decide +kernel) rfl (by decide +kernel) rfl rfl (by omega) (Md_isWord_ok h2) ?_
  show AT sMd_isPlace 1 (18, [(15, a0)], [(0, v2)], s2) o
  exact AT.retzH (by decide +kernel) H
def sMd_isWalk : jS := (⟨"JellyCathedralModel", "isWalk", "()Z"⟩, prog_13_method_35_code, 1, 3, [15], 0)
theorem kMd_isWalk : jmk sMd_isWalk = true := jmk_of 7010 1012 7009 65 (by decide +kernel)
set_option maxRecDepth 100000 in
theorem Md_isWalk_ok {a0 : Int} {s : jM} {o : Int × jM} (H : Md_isWalk a0 s = some o) : MK sMd_isWalk 1 [(15, a0)] s o := by
  refine MK.of kMd_isWalk rfl ?_
  show AT sMd_isWalk 1 (0, [(15, a0)], [], s) o
  unfold Md_isWalk at H
  refine AT.seq [(0, .aload_n 0, 1, (0, 0, 0)), (1, .bipush 119, 2, (0, 0, 0)), (3, .bipush 97, 2, (0, 0, 0)), (5, .bipush 108, 2, (0, 0, 0)), (7, .bipush 107, 2, (0, 0, 0)), (9, .iconst 0, 1, (0, 0, 0)), (10, .iconst 0, 1, (0, 0, 0))] (by decide +kernel) (show jrun _ (0, [(15, a0)], [], s) = some ([], (11, [(15, a0)], [(0, 0), (0, 0), (0, 107), (0, 108), (0, 97), (0, 119), (15, a0)], s)) from rfl) ?_
  obtain ⟨v1, s1, h1, H⟩ := jb_some H
  refine AT.callS (As := [(0, 119), (0, 97), (0, 108), (0, 107), (0, 0), (0, 0)]) (st := [(15, a0)]) (i := 148) (pos := 6178) kMd_spelled (by decide +kernel) rfl rfl rfl (by omega) (Md_spelled_ok h1) ?_
  show AT sMd_isWalk 1 (14, [(15, a0)], [(1, v1), (15, a0)], s1) o
  obtain ⟨v2, s2, h2, H⟩ := jb_some H
  refine AT.callV (As := [(1, v1)]) (cl := 11) (b := a0) (st := []) (i := 152) (pos := 6181) kMd_isWord (by decide +kernel) rfl (by decide +kernel) rfl rfl (by omega) (Md_isWord_ok h2) ?_
  show AT sMd_isWalk 1 (17, [(15, a0)], [(0, v2)], s2) o
  exact AT.retzH (by decide +kernel) H
def sMd_isShakes : jS := (⟨"JellyCathedralModel", "isShakes", "()Z"⟩, prog_13_method_36_code, 1, 3, [15], 0)
theorem kMd_isShakes : jmk sMd_isShakes = true := jmk_of 7014 1012 7013 66 (by decide +kernel)
set_option maxRecDepth 100000 in
theorem Md_isShakes_ok {a0 : Int} {s : jM} {o : Int × jM} (H : Md_isShakes a0 s = some o) : MK sMd_isShakes 1 [(15, a0)] s o := by
  refine MK.of kMd_isShakes rfl ?_
  show AT sMd_isShakes 1 (0, [(15, a0)], [], s) o
  unfold Md_isShakes at H
  refine AT.seq [(0, .aload_n 0, 1, (0, 0, 0)), (1, .bipush 115, 2, (0, 0, 0)), (3, .bipush 104, 2, (0, 0, 0)), (5, .bipush 97, 2, (0, 0, 0)), (7, .bipush 107, 2, (0, 0, 0)), (9, .bipush 101, 2, (0, 0, 0)), (11, .bipush 115, 2, (0, 0, 0))] (by decide +kernel) (show jrun _ (0, [(15, a0)], [], s) = some ([], (13, [(15, a0)], [(0, 115), (0, 101), (0, 107), (0, 97), (0, 104), (0, 115), (15, a0)], s)) from rfl) ?_
  obtain ⟨v1, s1, h1, H⟩ := jb_some H
  refine AT.callS (As := [(0, 115), (0, 104), (0, 97), (0, 107), (0, 101), (0, 115)]) (st := [(15, a0)]) (i := 148) (pos := 6178) kMd_spelled (by decide +kernel) rfl rfl rfl (by omega) (Md_spelled_ok h1) ?_
  show AT sMd_isShakes 1 (16, [(15, a0)], [(1, v1), (15, a0)], s1) o
  obtain ⟨v2, s2, h2, H⟩ := jb_some H
  refine AT.callV (As := [(1, v1)]) (cl := 11) (b := a0) (st := []) (i := 152) (pos := 6181) kMd_isWord (by decide +kernel) rfl (by decide +kernel) rfl rfl (by omega) (Md_isWord_ok h2) ?_
  show AT sMd_isShakes 1 (19, [(15, a0)], [(0, v2)], s2) o
  exact AT.retzH (by decide +kernel) H
