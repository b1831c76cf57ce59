/-! printed by wip/whole/gen_all.py: Md_many, Md_stuff, Md_mould, Md_part, Md_copyFirm, Md_goes, Md_falls, Md_pours, Md_pour, Md_voids, Md_empty, Md_isReady, Md_knocks, Md_knock, Md_touches, Md_touch, Md_laysFar, Md_farOf, Md_shakenTo -/
def sMd_many : jS := (⟨"JellyCathedralModel", "many", "(I)I"⟩, prog_13_method_81_code, 2, 1, [15, 0], 0)
theorem kMd_many : jmk sMd_many = true := jmk_of 7114 1012 7112 7113 (by decide +kernel)
set_option maxRecDepth 100000 in
theorem Md_many_ok {a0 a1 : Int} {s : jM} {o : Int × jM} (H : Md_many a0 a1 s = some o) : MK sMd_many 1 [(15, a0), (0, a1)] s o := by
  refine MK.of kMd_many rfl ?_
  show AT sMd_many 1 (0, [(15, a0), (0, a1)], [], s) o
  unfold Md_many at H
  refine AT.seq [(0, .aload_n 0, 1, (0, 0, 0)), (1, .iconst 0, 1, (0, 0, 0)), (2, .putfield 72, 3, (5188, 1101, 0)), (5, .aload_n 0, 1, (0, 0, 0)), (6, .iconst 0, 1, (0, 0, 0)), (7, .putfield 75, 3, (5187, 1100, 0)), (10, .iload_n 1, 1, (0, 0, 0)), (11, .i2l, 1, (0, 0, 0)), (12, .lconst 0, 1, (0, 0, 0)), (13, .ldc2_w 320, 3, (7115, 0, 10))] (by decide +kernel) (show jrun _ (0, [(15, a0), (0, a1)], [], s) = some ([], (16, [(15, a0), (0, a1)], [(1, 10), (1, 0), (1, (w32 a1))], (jup (jup s a0 1 0) a0 0 0))) from rfl) ?_
  obtain ⟨v1, s1, h1, H⟩ := jb_some H
  refine AT.callS (As := [(1, (w32 a1)), (1, 0), (1, 10)]) (st := []) (i := 107) (pos := 6204) kMd_isIn (by decide +kernel) rfl rfl rfl (by omega) (Md_isIn_ok h1) ?_
  show AT sMd_many 1 (19, [(15, a0), (0, a1)], [(0, v1)], s1) o
  refine AT.ite (x := (0, 0, 0)) (by decide +kernel) (show jbr (.ifCond .ne 9) (19, [(15, a0), (0, a1)], [(0, v1)], s1) = some ((w32 v1) = 0, (22, [(15, a0), (0, a1)], [], s1), (28, [(15, a0), (0, a1)], [], s1)) from rfl) H (fun H => ?_) (fun H => ?_)
  · refine AT.seq [(22, .aload_n 0, 1, (0, 0, 0)), (23, .iconst 5, 1, (0, 0, 0))] (by decide +kernel) (show jrun _ (22, [(15, a0), (0, a1)], [], s1) = some ([], (24, [(15, a0), (0, a1)], [(0, 5), (15, a0)], s1)) from rfl) ?_
    obtain ⟨v2, s2, h2, H⟩ := jb_some H
    refine AT.callV (As := [(0, 5)]) (cl := 11) (b := a0) (st := []) (i := 322) (pos := 7116) kMd_refuse (by decide +kernel) rfl (by decide +kernel) rfl rfl (by omega) (Md_refuse_ok h2) ?_
    show AT sMd_many 1 (27, [(15, a0), (0, a1)], [(0, v2)], s2) o
    exact AT.retiH (by decide +kernel) H
  · refine AT.seq [(28, .iload_n 1, 1, (0, 0, 0)), (29, .bipush 8, 2, (0, 0, 0))] (by decide +kernel) (show jrun _ (28, [(15, a0), (0, a1)], [], s1) = some ([], (31, [(15, a0), (0, a1)], [(0, 8), (0, a1)], s1)) from rfl) ?_
    refine AT.ite (x := (0, 0, 0)) (by decide +kernel) (show jbr (.if_icmp .ge 12) (31, [(15, a0), (0, a1)], [(0, 8), (0, a1)], s1) = some ((w32 a1) < 8, (34, [(15, a0), (0, a1)], [], s1), (43, [(15, a0), (0, a1)], [], s1)) from rfl) H (fun H => ?_) (fun H => ?_)
    · refine AT.blk (g := (0 ≤ (w32 a1) ∧ (w32 a1) < 1905)) [(34, .aload_n 0, 1, (0, 0, 0)), (35, .getfield 35, 3, (5207, 1120, 0)), (38, .iload_n 1, 1, (0, 0, 0)), (39, .iaload, 1, (0, 0, 0)), (40, .goto 11, 3, (0, 0, 0))] (by decide +kernel) (show jrun _ (34, [(15, a0), (0, a1)], [], s1) = some ([(0 ≤ (w32 a1) ∧ (w32 a1) < 1905)], (51, [(15, a0), (0, a1)], [(0, (s1 (a0 + 5) (w32 a1)))], s1)) from rfl) (fun h => h) H (fun H => ?_)
      exact AT.retiH (by decide +kernel) H
    · refine AT.seq [(43, .aload_n 0, 1, (0, 0, 0)), (44, .iload_n 1, 1, (0, 0, 0)), (45, .bipush 8, 2, (0, 0, 0)), (47, .isub, 1, (0, 0, 0))] (by decide +kernel) (show jrun _ (43, [(15, a0), (0, a1)], [], s1) = some ([], (48, [(15, a0), (0, a1)], [(0, (a1 - 8)), (15, a0)], s1)) from rfl) ?_
      obtain ⟨v3, s3, h3, H⟩ := jb_some H
      refine AT.callV (As := [(0, (a1 - 8))]) (cl := 11) (b := a0) (st := []) (i := 325) (pos := 7120) kMd_areIn (by decide +kernel) rfl (by decide +kernel) rfl rfl (by omega) (Md_areIn_ok h3) ?_
      show AT sMd_many 1 (51, [(15, a0), (0, a1)], [(0, v3)], s3) o
      exact AT.retiH (by decide +kernel) H
def sMd_stuff : jS := (⟨"JellyCathedralModel", "stuff", "(II)I"⟩, prog_13_method_82_code, 3, 1, [15, 0, 0], 0)
theorem kMd_stuff : jmk sMd_stuff = true := jmk_of 7127 1012 7125 7126 (by decide +kernel)
set_option maxRecDepth 100000 in
theorem Md_stuff_ok {a0 a1 a2 : Int} {s : jM} {o : Int × jM} (H : Md_stuff a0 a1 a2 s = some o) : MK sMd_stuff 2 [(15, a0), (0, a1), (0, a2)] s o := by
  refine MK.of kMd_stuff rfl ?_
  show AT sMd_stuff 2 (0, [(15, a0), (0, a1), (0, a2)], [], s) o
  unfold Md_stuff at H
  refine AT.seq [(0, .aload_n 0, 1, (0, 0, 0)), (1, .iconst 0, 1, (0, 0, 0)), (2, .putfield 72, 3, (5188, 1101, 0)), (5, .aload_n 0, 1, (0, 0, 0)), (6, .iconst 0, 1, (0, 0, 0)), (7, .putfield 75, 3, (5187, 1100, 0)), (10, .aload_n 0, 1, (0, 0, 0)), (11, .iload_n 1, 1, (0, 0, 0))] (by decide +kernel) (show jrun _ (0, [(15, a0), (0, a1), (0, a2)], [], s) = some ([], (12, [(15, a0), (0, a1), (0, a2)], [(0, a1), (15, a0)], (jup (jup s a0 1 0) a0 0 0))) from rfl) ?_
  obtain ⟨v1, s1, h1, H⟩ := jb_some H
  refine AT.callV (As := [(0, a1)]) (cl := 11) (b := a0) (st := []) (i := 328) (pos := 7128) kMd_isStuffAt (by decide +kernel) rfl (by decide +kernel) rfl rfl (by omega) (Md_isStuffAt_ok h1) ?_
  show AT sMd_stuff 2 (15, [(15, a0), (0, a1), (0, a2)], [(0, v1)], s1) o
  refine AT.ite (x := (0, 0, 0)) (by decide +kernel) (show jbr (.ifCond .ne 9) (15, [(15, a0), (0, a1), (0, a2)], [(0, v1)], s1) = some ((w32 v1) = 0, (18, [(15, a0), (0, a1), (0, a2)], [], s1), (24, [(15, a0), (0, a1), (0, a2)], [], s1)) from rfl) H (fun H => ?_) (fun H => ?_)
  · refine AT.seq [(18, .aload_n 0, 1, (0, 0, 0)), (19, .iconst 2, 1, (0, 0, 0))] (by decide +kernel) (show jrun _ (18, [(15, a0), (0, a1), (0, a2)], [], s1) = some ([], (20, [(15, a0), (0, a1), (0, a2)], [(0, 2), (15, a0)], s1)) from rfl) ?_
    obtain ⟨v2, s2, h2, H⟩ := jb_some H
    refine AT.callV (As := [(0, 2)]) (cl := 11) (b := a0) (st := []) (i := 322) (pos := 7116) kMd_refuse (by decide +kernel) rfl (by decide +kernel) rfl rfl (by omega) (Md_refuse_ok h2) ?_
    show AT sMd_stuff 2 (23, [(15, a0), (0, a1), (0, a2)], [(0, v2)], s2) o
    exact AT.retiH (by decide +kernel) H
  · refine AT.seq [(24, .iload_n 2, 1, (0, 0, 0)), (25, .i2l, 1, (0, 0, 0)), (26, .lconst 0, 1, (0, 0, 0)), (27, .ldc2_w 331, 3, (7132, 0, 2))] (by decide +kernel) (show jrun _ (24, [(15, a0), (0, a1), (0, a2)], [], s1) = some ([], (30, [(15, a0), (0, a1), (0, a2)], [(1, 2), (1, 0), (1, (w32 a2))], s1)) from rfl) ?_
    obtain ⟨v3, s3, h3, H⟩ := jb_some H
    refine AT.callS (As := [(1, (w32 a2)), (1, 0), (1, 2)]) (st := []) (i := 107) (pos := 6204) kMd_isIn (by decide +kernel) rfl rfl rfl (by omega) (Md_isIn_ok h3) ?_
    show AT sMd_stuff 2 (33, [(15, a0), (0, a1), (0, a2)], [(0, v3)], s3) o
    refine AT.ite (x := (0, 0, 0)) (by decide +kernel) (show jbr (.ifCond .eq 19) (33, [(15, a0), (0, a1), (0, a2)], [(0, v3)], s3) = some ((w32 v3) = 0, (52, [(15, a0), (0, a1), (0, a2)], [], s3), (36, [(15, a0), (0, a1), (0, a2)], [], s3)) from rfl) H (fun H => ?_) (fun H => ?_)
    · refine AT.seq [(52, .aload_n 0, 1, (0, 0, 0)), (53, .iconst 5, 1, (0, 0, 0))] (by decide +kernel) (show jrun _ (52, [(15, a0), (0, a1), (0, a2)], [], s3) = some ([], (54, [(15, a0), (0, a1), (0, a2)], [(0, 5), (15, a0)], s3)) from rfl) ?_
      obtain ⟨v4, s4, h4, H⟩ := jb_some H
      refine AT.callV (As := [(0, 5)]) (cl := 11) (b := a0) (st := []) (i := 322) (pos := 7116) kMd_refuse (by decide +kernel) rfl (by decide +kernel) rfl rfl (by omega) (Md_refuse_ok h4) ?_
      show AT sMd_stuff 2 (57, [(15, a0), (0, a1), (0, a2)], [(0, v4)], s4) o
      exact AT.retiH (by decide +kernel) H
    · refine AT.blk (g := (0 ≤ (w32 ((9 + (5 * a2)) + a1)) ∧ (w32 ((9 + (5 * a2)) + a1)) < 1905)) [(36, .aload_n 0, 1, (0, 0, 0)), (37, .getfield 35, 3, (5207, 1120, 0)), (40, .bipush 9, 2, (0, 0, 0)), (42, .iconst 5, 1, (0, 0, 0)), (43, .iload_n 2, 1, (0, 0, 0)), (44, .imul, 1, (0, 0, 0)), (45, .iadd, 1, (0, 0, 0)), (46, .iload_n 1, 1, (0, 0, 0)), (47, .iadd, 1, (0, 0, 0)), (48, .iaload, 1, (0, 0, 0)), (49, .goto 8, 3, (0, 0, 0))] (by decide +kernel) (show jrun _ (36, [(15, a0), (0, a1), (0, a2)], [], s3) = some ([(0 ≤ (w32 ((9 + (5 * a2)) + a1)) ∧ (w32 ((9 + (5 * a2)) + a1)) < 1905)], (57, [(15, a0), (0, a1), (0, a2)], [(0, (s3 (a0 + 5) (w32 ((9 + (5 * a2)) + a1))))], s3)) from rfl) (fun h => h) H (fun H => ?_)
      exact AT.retiH (by decide +kernel) H
def sMd_mould : jS := (⟨"JellyCathedralModel", "mould", "(II)I"⟩, prog_13_method_83_code, 3, 1, [15, 0, 0], 0)
theorem kMd_mould : jmk sMd_mould = true := jmk_of 7136 1012 7134 7135 (by decide +kernel)
set_option maxRecDepth 100000 in
theorem Md_mould_ok {a0 a1 a2 : Int} {s : jM} {o : Int × jM} (H : Md_mould a0 a1 a2 s = some o) : MK sMd_mould 2 [(15, a0), (0, a1), (0, a2)] s o := by
  refine MK.of kMd_mould rfl ?_
  show AT sMd_mould 2 (0, [(15, a0), (0, a1), (0, a2)], [], s) o
  unfold Md_mould at H
  refine AT.seq [(0, .aload_n 0, 1, (0, 0, 0)), (1, .iconst 0, 1, (0, 0, 0)), (2, .putfield 72, 3, (5188, 1101, 0)), (5, .aload_n 0, 1, (0, 0, 0)), (6, .iconst 0, 1, (0, 0, 0)), (7, .putfield 75, 3, (5187, 1100, 0)), (10, .aload_n 0, 1, (0, 0, 0)), (11, .iload_n 1, 1, (0, 0, 0))] (by decide +kernel) (show jrun _ (0, [(15, a0), (0, a1), (0, a2)], [], s) = some ([], (12, [(15, a0), (0, a1), (0, a2)], [(0, a1), (15, a0)], (jup (jup s a0 1 0) a0 0 0))) from rfl) ?_
  obtain ⟨v1, s1, h1, H⟩ := jb_some H
  refine AT.callV (As := [(0, a1)]) (cl := 11) (b := a0) (st := []) (i := 333) (pos := 7137) kMd_isMouldAt (by decide +kernel) rfl (by decide +kernel) rfl rfl (by omega) (Md_isMouldAt_ok h1) ?_
  show AT sMd_mould 2 (15, [(15, a0), (0, a1), (0, a2)], [(0, v1)], s1) o
  refine AT.ite (x := (0, 0, 0)) (by decide +kernel) (show jbr (.ifCond .ne 9) (15, [(15, a0), (0, a1), (0, a2)], [(0, v1)], s1) = some ((w32 v1) = 0, (18, [(15, a0), (0, a1), (0, a2)], [], s1), (24, [(15, a0), (0, a1), (0, a2)], [], s1)) from rfl) H (fun H => ?_) (fun H => ?_)
  · refine AT.seq [(18, .aload_n 0, 1, (0, 0, 0)), (19, .iconst 2, 1, (0, 0, 0))] (by decide +kernel) (show jrun _ (18, [(15, a0), (0, a1), (0, a2)], [], s1) = some ([], (20, [(15, a0), (0, a1), (0, a2)], [(0, 2), (15, a0)], s1)) from rfl) ?_
    obtain ⟨v2, s2, h2, H⟩ := jb_some H
    refine AT.callV (As := [(0, 2)]) (cl := 11) (b := a0) (st := []) (i := 322) (pos := 7116) kMd_refuse (by decide +kernel) rfl (by decide +kernel) rfl rfl (by omega) (Md_refuse_ok h2) ?_
    show AT sMd_mould 2 (23, [(15, a0), (0, a1), (0, a2)], [(0, v2)], s2) o
    exact AT.retiH (by decide +kernel) H
  · refine AT.seq [(24, .iload_n 2, 1, (0, 0, 0)), (25, .i2l, 1, (0, 0, 0)), (26, .lconst 0, 1, (0, 0, 0)), (27, .ldc2_w 336, 3, (7141, 0, 7))] (by decide +kernel) (show jrun _ (24, [(15, a0), (0, a1), (0, a2)], [], s1) = some ([], (30, [(15, a0), (0, a1), (0, a2)], [(1, 7), (1, 0), (1, (w32 a2))], s1)) from rfl) ?_
    obtain ⟨v3, s3, h3, H⟩ := jb_some H
    refine AT.callS (As := [(1, (w32 a2)), (1, 0), (1, 7)]) (st := []) (i := 107) (pos := 6204) kMd_isIn (by decide +kernel) rfl rfl rfl (by omega) (Md_isIn_ok h3) ?_
    show AT sMd_mould 2 (33, [(15, a0), (0, a1), (0, a2)], [(0, v3)], s3) o
    refine AT.ite (x := (0, 0, 0)) (by decide +kernel) (show jbr (.ifCond .ne 9) (33, [(15, a0), (0, a1), (0, a2)], [(0, v3)], s3) = some ((w32 v3) = 0, (36, [(15, a0), (0, a1), (0, a2)], [], s3), (42, [(15, a0), (0, a1), (0, a2)], [], s3)) from rfl) H (fun H => ?_) (fun H => ?_)
    · refine AT.seq [(36, .aload_n 0, 1, (0, 0, 0)), (37, .iconst 5, 1, (0, 0, 0))] (by decide +kernel) (show jrun _ (36, [(15, a0), (0, a1), (0, a2)], [], s3) = some ([], (38, [(15, a0), (0, a1), (0, a2)], [(0, 5), (15, a0)], s3)) from rfl) ?_
      obtain ⟨v4, s4, h4, H⟩ := jb_some H
      refine AT.callV (As := [(0, 5)]) (cl := 11) (b := a0) (st := []) (i := 322) (pos := 7116) kMd_refuse (by decide +kernel) rfl (by decide +kernel) rfl rfl (by omega) (Md_refuse_ok h4) ?_
      show AT sMd_mould 2 (41, [(15, a0), (0, a1), (0, a2)], [(0, v4)], s4) o
      exact AT.retiH (by decide +kernel) H
    · refine AT.seq [(42, .iload_n 2, 1, (0, 0, 0)), (43, .iconst 5, 1, (0, 0, 0))] (by decide +kernel) (show jrun _ (42, [(15, a0), (0, a1), (0, a2)], [], s3) = some ([], (44, [(15, a0), (0, a1), (0, a2)], [(0, 5), (0, a2)], s3)) from rfl) ?_
      refine AT.ite (x := (0, 0, 0)) (by decide +kernel) (show jbr (.if_icmp .ne 9) (44, [(15, a0), (0, a1), (0, a2)], [(0, 5), (0, a2)], s3) = some ((w32 a2) = 5, (47, [(15, a0), (0, a1), (0, a2)], [], s3), (53, [(15, a0), (0, a1), (0, a2)], [], s3)) from rfl) H (fun H => ?_) (fun H => ?_)
      · refine AT.seq [(47, .aload_n 0, 1, (0, 0, 0)), (48, .iload_n 1, 1, (0, 0, 0))] (by decide +kernel) (show jrun _ (47, [(15, a0), (0, a1), (0, a2)], [], s3) = some ([], (49, [(15, a0), (0, a1), (0, a2)], [(0, a1), (15, a0)], s3)) from rfl) ?_
        obtain ⟨v5, s5, h5, H⟩ := jb_some H
        refine AT.callV (As := [(0, a1)]) (cl := 11) (b := a0) (st := []) (i := 338) (pos := 7142) kMd_strengthOf (by decide +kernel) rfl (by decide +kernel) rfl rfl (by omega) (Md_strengthOf_ok h5) ?_
        show AT sMd_mould 2 (52, [(15, a0), (0, a1), (0, a2)], [(0, v5)], s5) o
        exact AT.retiH (by decide +kernel) H
      · refine AT.seq [(53, .iload_n 2, 1, (0, 0, 0)), (54, .bipush 6, 2, (0, 0, 0))] (by decide +kernel) (show jrun _ (53, [(15, a0), (0, a1), (0, a2)], [], s3) = some ([], (56, [(15, a0), (0, a1), (0, a2)], [(0, 6), (0, a2)], s3)) from rfl) ?_
        refine AT.ite (x := (0, 0, 0)) (by decide +kernel) (show jbr (.if_icmp .ne 9) (56, [(15, a0), (0, a1), (0, a2)], [(0, 6), (0, a2)], s3) = some ((w32 a2) = 6, (59, [(15, a0), (0, a1), (0, a2)], [], s3), (65, [(15, a0), (0, a1), (0, a2)], [], s3)) from rfl) H (fun H => ?_) (fun H => ?_)
        · refine AT.seq [(59, .aload_n 0, 1, (0, 0, 0)), (60, .iload_n 1, 1, (0, 0, 0))] (by decide +kernel) (show jrun _ (59, [(15, a0), (0, a1), (0, a2)], [], s3) = some ([], (61, [(15, a0), (0, a1), (0, a2)], [(0, a1), (15, a0)], s3)) from rfl) ?_
          obtain ⟨v6, s6, h6, H⟩ := jb_some H
          refine AT.callV (As := [(0, a1)]) (cl := 11) (b := a0) (st := []) (i := 341) (pos := 7150) kMd_partsIn (by decide +kernel) rfl (by decide +kernel) rfl rfl (by omega) (Md_partsIn_ok h6) ?_
          show AT sMd_mould 2 (64, [(15, a0), (0, a1), (0, a2)], [(0, v6)], s6) o
          exact AT.retiH (by decide +kernel) H
        · refine AT.seq [(65, .iload_n 2, 1, (0, 0, 0)), (66, .bipush 7, 2, (0, 0, 0))] (by decide +kernel) (show jrun _ (65, [(15, a0), (0, a1), (0, a2)], [], s3) = some ([], (68, [(15, a0), (0, a1), (0, a2)], [(0, 7), (0, a2)], s3)) from rfl) ?_
          refine AT.ite (x := (0, 0, 0)) (by decide +kernel) (show jbr (.if_icmp .ne 15) (68, [(15, a0), (0, a1), (0, a2)], [(0, 7), (0, a2)], s3) = some ((w32 a2) = 7, (71, [(15, a0), (0, a1), (0, a2)], [], s3), (83, [(15, a0), (0, a1), (0, a2)], [], s3)) from rfl) H (fun H => ?_) (fun H => ?_)
          · refine AT.blk (g := (0 ≤ (w32 (79 + a1)) ∧ (w32 (79 + a1)) < 1905)) [(71, .aload_n 0, 1, (0, 0, 0)), (72, .getfield 35, 3, (5207, 1120, 0)), (75, .bipush 79, 2, (0, 0, 0)), (77, .iload_n 1, 1, (0, 0, 0)), (78, .iadd, 1, (0, 0, 0)), (79, .iaload, 1, (0, 0, 0)), (80, .goto 16, 3, (0, 0, 0))] (by decide +kernel) (show jrun _ (71, [(15, a0), (0, a1), (0, a2)], [], s3) = some ([(0 ≤ (w32 (79 + a1)) ∧ (w32 (79 + a1)) < 1905)], (96, [(15, a0), (0, a1), (0, a2)], [(0, (s3 (a0 + 5) (w32 (79 + a1))))], s3)) from rfl) (fun h => h) H (fun H => ?_)
            exact AT.retiH (by decide +kernel) H
          · refine AT.blk (g := (0 ≤ (w32 ((54 + (5 * a2)) + a1)) ∧ (w32 ((54 + (5 * a2)) + a1)) < 1905)) [(83, .aload_n 0, 1, (0, 0, 0)), (84, .getfield 35, 3, (5207, 1120, 0)), (87, .bipush 54, 2, (0, 0, 0)), (89, .iconst 5, 1, (0, 0, 0)), (90, .iload_n 2, 1, (0, 0, 0)), (91, .imul, 1, (0, 0, 0)), (92, .iadd, 1, (0, 0, 0)), (93, .iload_n 1, 1, (0, 0, 0)), (94, .iadd, 1, (0, 0, 0)), (95, .iaload, 1, (0, 0, 0))] (by decide +kernel) (show jrun _ (83, [(15, a0), (0, a1), (0, a2)], [], s3) = some ([(0 ≤ (w32 ((54 + (5 * a2)) + a1)) ∧ (w32 ((54 + (5 * a2)) + a1)) < 1905)], (96, [(15, a0), (0, a1), (0, a2)], [(0, (s3 (a0 + 5) (w32 ((54 + (5 * a2)) + a1))))], s3)) from rfl) (fun h => h) H (fun H => ?_)
            exact AT.retiH (by decide +kernel) H
def sMd_part : jS := (⟨"JellyCathedralModel", "part", "(II)I"⟩, prog_13_method_84_code, 3, 1, [15, 0, 0], 0)
theorem kMd_part : jmk sMd_part = true := jmk_of 7157 1012 7155 7156 (by decide +kernel)
set_option maxRecDepth 100000 in
theorem Md_part_ok {a0 a1 a2 : Int} {s : jM} {o : Int × jM} (H : Md_part a0 a1 a2 s = some o) : MK sMd_part 2 [(15, a0), (0, a1), (0, a2)] s o := by
  refine MK.of kMd_part rfl ?_
  show AT sMd_part 2 (0, [(15, a0), (0, a1), (0, a2)], [], s) o
  unfold Md_part at H
  refine AT.seq [(0, .aload_n 0, 1, (0, 0, 0)), (1, .iconst 0, 1, (0, 0, 0)), (2, .putfield 72, 3, (5188, 1101, 0)), (5, .aload_n 0, 1, (0, 0, 0)), (6, .iconst 0, 1, (0, 0, 0)), (7, .putfield 75, 3, (5187, 1100, 0)), (10, .aload_n 0, 1, (0, 0, 0)), (11, .iload_n 1, 1, (0, 0, 0))] (by decide +kernel) (show jrun _ (0, [(15, a0), (0, a1), (0, a2)], [], s) = some ([], (12, [(15, a0), (0, a1), (0, a2)], [(0, a1), (15, a0)], (jup (jup s a0 1 0) a0 0 0))) from rfl) ?_
  obtain ⟨v1, s1, h1, H⟩ := jb_some H
  refine AT.callV (As := [(0, a1)]) (cl := 11) (b := a0) (st := []) (i := 333) (pos := 7137) kMd_isMouldAt (by decide +kernel) rfl (by decide +kernel) rfl rfl (by omega) (Md_isMouldAt_ok h1) ?_
  show AT sMd_part 2 (15, [(15, a0), (0, a1), (0, a2)], [(0, v1)], s1) o
  refine AT.ite (x := (0, 0, 0)) (by decide +kernel) (show jbr (.ifCond .eq 20) (15, [(15, a0), (0, a1), (0, a2)], [(0, v1)], s1) = some ((w32 v1) = 0, (35, [(15, a0), (0, a1), (0, a2)], [], s1), (18, [(15, a0), (0, a1), (0, a2)], [], s1)) from rfl) H (fun H => ?_) (fun H => ?_)
  · refine AT.seq [(35, .aload_n 0, 1, (0, 0, 0)), (36, .iconst 2, 1, (0, 0, 0))] (by decide +kernel) (show jrun _ (35, [(15, a0), (0, a1), (0, a2)], [], s1) = some ([], (37, [(15, a0), (0, a1), (0, a2)], [(0, 2), (15, a0)], s1)) from rfl) ?_
    obtain ⟨v2, s2, h2, H⟩ := jb_some H
    refine AT.callV (As := [(0, 2)]) (cl := 11) (b := a0) (st := []) (i := 322) (pos := 7116) kMd_refuse (by decide +kernel) rfl (by decide +kernel) rfl rfl (by omega) (Md_refuse_ok h2) ?_
    show AT sMd_part 2 (40, [(15, a0), (0, a1), (0, a2)], [(0, v2)], s2) o
    exact AT.retiH (by decide +kernel) H
  · refine AT.seq [(18, .aload_n 0, 1, (0, 0, 0)), (19, .iload_n 2, 1, (0, 0, 0))] (by decide +kernel) (show jrun _ (18, [(15, a0), (0, a1), (0, a2)], [], s1) = some ([], (20, [(15, a0), (0, a1), (0, a2)], [(0, a2), (15, a0)], s1)) from rfl) ?_
    obtain ⟨v3, s3, h3, H⟩ := jb_some H
    refine AT.callV (As := [(0, a2)]) (cl := 11) (b := a0) (st := []) (i := 328) (pos := 7128) kMd_isStuffAt (by decide +kernel) rfl (by decide +kernel) rfl rfl (by omega) (Md_isStuffAt_ok h3) ?_
    show AT sMd_part 2 (23, [(15, a0), (0, a1), (0, a2)], [(0, v3)], s3) o
    refine AT.ite (x := (0, 0, 0)) (by decide +kernel) (show jbr (.ifCond .eq 12) (23, [(15, a0), (0, a1), (0, a2)], [(0, v3)], s3) = some ((w32 v3) = 0, (35, [(15, a0), (0, a1), (0, a2)], [], s3), (26, [(15, a0), (0, a1), (0, a2)], [], s3)) from rfl) H (fun H => ?_) (fun H => ?_)
    · refine AT.seq [(35, .aload_n 0, 1, (0, 0, 0)), (36, .iconst 2, 1, (0, 0, 0))] (by decide +kernel) (show jrun _ (35, [(15, a0), (0, a1), (0, a2)], [], s3) = some ([], (37, [(15, a0), (0, a1), (0, a2)], [(0, 2), (15, a0)], s3)) from rfl) ?_
      obtain ⟨v4, s4, h4, H⟩ := jb_some H
      refine AT.callV (As := [(0, 2)]) (cl := 11) (b := a0) (st := []) (i := 322) (pos := 7116) kMd_refuse (by decide +kernel) rfl (by decide +kernel) rfl rfl (by omega) (Md_refuse_ok h4) ?_
      show AT sMd_part 2 (40, [(15, a0), (0, a1), (0, a2)], [(0, v4)], s4) o
      exact AT.retiH (by decide +kernel) H
    · refine AT.seq [(26, .aload_n 0, 1, (0, 0, 0)), (27, .iload_n 1, 1, (0, 0, 0)), (28, .iload_n 2, 1, (0, 0, 0))] (by decide +kernel) (show jrun _ (26, [(15, a0), (0, a1), (0, a2)], [], s3) = some ([], (29, [(15, a0), (0, a1), (0, a2)], [(0, a2), (0, a1), (15, a0)], s3)) from rfl) ?_
      obtain ⟨v5, s5, h5, H⟩ := jb_some H
      refine AT.callV (As := [(0, a1), (0, a2)]) (cl := 11) (b := a0) (st := []) (i := 317) (pos := 7146) kMd_partOf (by decide +kernel) rfl (by decide +kernel) rfl rfl (by omega) (Md_partOf_ok h5) ?_
      show AT sMd_part 2 (32, [(15, a0), (0, a1), (0, a2)], [(0, v5)], s5) o
      refine AT.seq [(32, .goto 8, 3, (0, 0, 0))] (by decide +kernel) (show jrun _ (32, [(15, a0), (0, a1), (0, a2)], [(0, v5)], s5) = some ([], (40, [(15, a0), (0, a1), (0, a2)], [(0, v5)], s5)) from rfl) ?_
      exact AT.retiH (by decide +kernel) H
def sMd_copyFirm : jS := (⟨"JellyCathedralModel", "copyFirm", "(I)I"⟩, prog_13_method_85_code, 3, 1, [15, 0], 0)
theorem kMd_copyFirm : jmk sMd_copyFirm = true := jmk_of 7161 1012 7159 7160 (by decide +kernel)
set_option maxRecDepth 100000 in
theorem Md_copyFirm_62_ok {o : Int × jM} : ∀ (n : Nat) (x0 x1 x2 : Int) (s : jM), Md_copyFirm_62  n x0 x1 x2 s = some o → AT sMd_copyFirm 3 (62, [(15, x0), (0, x1), (0, x2)], [], s) o := by
  intro n
  induction n with
  | zero =>
    intro x0 x1 x2 s H
    have H : (none : Option (Int × jM)) = some o := H
    cases H
  | succ n ih =>
    intro x0 x1 x2 s H
    rw [Md_copyFirm_62] at H
    refine AT.row [(62, .iload_n 2, 1, (0, 0, 0)), (63, .aload_n 0, 1, (0, 0, 0)), (64, .getfield 35, 3, (5207, 1120, 0)), (67, .iconst 2, 1, (0, 0, 0)), (68, .iaload, 1, (0, 0, 0))] (by decide +kernel) (show jrun _ (62, [(15, x0), (0, x1), (0, x2)], [], s) = some ([(0 ≤ (2 : Int) ∧ (2 : Int) < 1905)], (69, [(15, x0), (0, x1), (0, x2)], [(0, (s (x0 + 5) 2)), (0, x2)], s)) from rfl) (show (0 ≤ (2 : Int) ∧ (2 : Int) < 1905) from by decide) ?_
    refine AT.ite (x := (0, 0, 0)) (by decide +kernel) (show jbr (.if_icmp .ge 26) (69, [(15, x0), (0, x1), (0, x2)], [(0, (s (x0 + 5) 2)), (0, x2)], s) = some ((w32 x2) < (w32 (s (x0 + 5) 2)), (72, [(15, x0), (0, x1), (0, x2)], [], s), (95, [(15, x0), (0, x1), (0, x2)], [], s)) from rfl) H (fun H => ?_) (fun H => ?_)
    · refine AT.blk (g := (0 ≤ (w32 (74 + x2)) ∧ (w32 (74 + x2)) < 1905)) [(72, .aload_n 0, 1, (0, 0, 0)), (73, .iload_n 1, 1, (0, 0, 0)), (74, .iload_n 2, 1, (0, 0, 0)), (75, .aload_n 0, 1, (0, 0, 0)), (76, .getfield 35, 3, (5207, 1120, 0)), (79, .bipush 74, 2, (0, 0, 0)), (81, .iload_n 2, 1, (0, 0, 0)), (82, .iadd, 1, (0, 0, 0)), (83, .iaload, 1, (0, 0, 0)), (84, .i2l, 1, (0, 0, 0))] (by decide +kernel) (show jrun _ (72, [(15, x0), (0, x1), (0, x2)], [], s) = some ([(0 ≤ (w32 (74 + x2)) ∧ (w32 (74 + x2)) < 1905)], (85, [(15, x0), (0, x1), (0, x2)], [(1, (w32 (s (x0 + 5) (w32 (74 + x2))))), (0, x2), (0, x1), (15, x0)], s)) from rfl) (fun h => h) H (fun H => ?_)
      obtain ⟨v1, s1, h1, H⟩ := jb_some H
      refine AT.callV (As := [(0, x1), (0, x2), (1, (w32 (s (x0 + 5) (w32 (74 + x2)))))]) (cl := 11) (b := x0) (st := []) (i := 347) (pos := 7167) kMd_write (by decide +kernel) rfl (by decide +kernel) rfl rfl (by omega) (Md_write_ok h1) ?_
      show AT sMd_copyFirm 3 (88, [(15, x0), (0, x1), (0, x2)], [(0, v1)], s1) o
      refine AT.seq [(88, .pop, 1, (0, 0, 0)), (89, .iinc 2 1, 3, (0, 0, 0)), (92, .goto (-30), 3, (0, 0, 0))] (by decide +kernel) (show jrun _ (88, [(15, x0), (0, x1), (0, x2)], [(0, v1)], s1) = some ([], (62, [(15, x0), (0, x1), (0, (x2 + 1))], [], s1)) from rfl) ?_
      exact ih _ _ _ _ H
    · refine AT.row [(95, .aload_n 0, 1, (0, 0, 0)), (96, .getfield 35, 3, (5207, 1120, 0)), (99, .iconst 2, 1, (0, 0, 0)), (100, .iaload, 1, (0, 0, 0))] (by decide +kernel) (show jrun _ (95, [(15, x0), (0, x1), (0, x2)], [], s) = some ([(0 ≤ (2 : Int) ∧ (2 : Int) < 1905)], (101, [(15, x0), (0, x1), (0, x2)], [(0, (s (x0 + 5) 2))], s)) from rfl) (show (0 ≤ (2 : Int) ∧ (2 : Int) < 1905) from by decide) ?_
      exact AT.retiH (by decide +kernel) H
set_option maxRecDepth 100000 in
theorem Md_copyFirm_ok {a0 a1 : Int} {s : jM} {o : Int × jM} (H : Md_copyFirm a0 a1 s = some o) : MK sMd_copyFirm 3 [(15, a0), (0, a1)] s o := by
  refine MK.of kMd_copyFirm rfl ?_
  show AT sMd_copyFirm 3 (0, [(15, a0), (0, a1), (99, 0)], [], s) o
  unfold Md_copyFirm at H
  refine AT.seq [(0, .aload_n 0, 1, (0, 0, 0)), (1, .iconst 0, 1, (0, 0, 0)), (2, .putfield 72, 3, (5188, 1101, 0)), (5, .aload_n 0, 1, (0, 0, 0)), (6, .iconst 0, 1, (0, 0, 0)), (7, .putfield 75, 3, (5187, 1100, 0)), (10, .aload_n 0, 1, (0, 0, 0)), (11, .iload_n 1, 1, (0, 0, 0))] (by decide +kernel) (show jrun _ (0, [(15, a0), (0, a1), (99, 0)], [], s) = some ([], (12, [(15, a0), (0, a1), (99, 0)], [(0, a1), (15, a0)], (jup (jup s a0 1 0) a0 0 0))) from rfl) ?_
  obtain ⟨v2, s2, h2, H⟩ := jb_some H
  refine AT.callV (As := [(0, a1)]) (cl := 11) (b := a0) (st := []) (i := 344) (pos := 7162) kMd_isTray (by decide +kernel) rfl (by decide +kernel) rfl rfl (by omega) (Md_isTray_ok h2) ?_
  show AT sMd_copyFirm 3 (15, [(15, a0), (0, a1), (99, 0)], [(0, v2)], s2) o
  refine AT.ite (x := (0, 0, 0)) (by decide +kernel) (show jbr (.ifCond .ne 9) (15, [(15, a0), (0, a1), (99, 0)], [(0, v2)], s2) = some ((w32 v2) = 0, (18, [(15, a0), (0, a1), (99, 0)], [], s2), (24, [(15, a0), (0, a1), (99, 0)], [], s2)) from rfl) H (fun H => ?_) (fun H => ?_)
  · refine AT.seq [(18, .aload_n 0, 1, (0, 0, 0)), (19, .iconst 1, 1, (0, 0, 0))] (by decide +kernel) (show jrun _ (18, [(15, a0), (0, a1), (99, 0)], [], s2) = some ([], (20, [(15, a0), (0, a1), (99, 0)], [(0, 1), (15, a0)], s2)) from rfl) ?_
    obtain ⟨v3, s3, h3, H⟩ := jb_some H
    refine AT.callV (As := [(0, 1)]) (cl := 11) (b := a0) (st := []) (i := 322) (pos := 7116) kMd_refuse (by decide +kernel) rfl (by decide +kernel) rfl rfl (by omega) (Md_refuse_ok h3) ?_
    show AT sMd_copyFirm 3 (23, [(15, a0), (0, a1), (99, 0)], [(0, v3)], s3) o
    exact AT.retiH (by decide +kernel) H
  · refine AT.blk (g := (0 ≤ (w32 a1) ∧ (w32 a1) < 4)) [(24, .aload_n 0, 1, (0, 0, 0)), (25, .getfield 17, 3, (5192, 1105, 0)), (28, .iload_n 1, 1, (0, 0, 0)), (29, .iaload, 1, (0, 0, 0))] (by decide +kernel) (show jrun _ (24, [(15, a0), (0, a1), (99, 0)], [], s2) = some ([(0 ≤ (w32 a1) ∧ (w32 a1) < 4)], (30, [(15, a0), (0, a1), (99, 0)], [(0, (s2 (a0 + 2) (w32 a1)))], s2)) from rfl) (fun h => h) H (fun H => ?_)
    refine AT.ite (x := (0, 0, 0)) (by decide +kernel) (show jbr (.ifCond .ge 9) (30, [(15, a0), (0, a1), (99, 0)], [(0, (s2 (a0 + 2) (w32 a1)))], s2) = some ((w32 (s2 (a0 + 2) (w32 a1))) < 0, (33, [(15, a0), (0, a1), (99, 0)], [], s2), (39, [(15, a0), (0, a1), (99, 0)], [], s2)) from rfl) H (fun H => ?_) (fun H => ?_)
    · refine AT.seq [(33, .aload_n 0, 1, (0, 0, 0)), (34, .iconst 3, 1, (0, 0, 0))] (by decide +kernel) (show jrun _ (33, [(15, a0), (0, a1), (99, 0)], [], s2) = some ([], (35, [(15, a0), (0, a1), (99, 0)], [(0, 3), (15, a0)], s2)) from rfl) ?_
      obtain ⟨v4, s4, h4, H⟩ := jb_some H
      refine AT.callV (As := [(0, 3)]) (cl := 11) (b := a0) (st := []) (i := 322) (pos := 7116) kMd_refuse (by decide +kernel) rfl (by decide +kernel) rfl rfl (by omega) (Md_refuse_ok h4) ?_
      show AT sMd_copyFirm 3 (38, [(15, a0), (0, a1), (99, 0)], [(0, v4)], s4) o
      exact AT.retiH (by decide +kernel) H
    · refine AT.blk (g := (0 ≤ (w32 a1) ∧ (w32 a1) < 4)) [(39, .aload_n 0, 1, (0, 0, 0)), (40, .getfield 17, 3, (5192, 1105, 0)), (43, .iload_n 1, 1, (0, 0, 0)), (44, .iaload, 1, (0, 0, 0)), (45, .aload_n 0, 1, (0, 0, 0)), (46, .getfield 35, 3, (5207, 1120, 0)), (49, .iconst 2, 1, (0, 0, 0)), (50, .iaload, 1, (0, 0, 0))] (by decide +kernel) (show jrun _ (39, [(15, a0), (0, a1), (99, 0)], [], s2) = some ([(0 ≤ (w32 a1) ∧ (w32 a1) < 4), (0 ≤ (2 : Int) ∧ (2 : Int) < 1905)], (51, [(15, a0), (0, a1), (99, 0)], [(0, (s2 (a0 + 5) 2)), (0, (s2 (a0 + 2) (w32 a1)))], s2)) from rfl) (fun h => ⟨h, (show (0 ≤ (2 : Int) ∧ (2 : Int) < 1905) from by decide)⟩) H (fun H => ?_)
      refine AT.ite (x := (0, 0, 0)) (by decide +kernel) (show jbr (.if_icmp .ge 9) (51, [(15, a0), (0, a1), (99, 0)], [(0, (s2 (a0 + 5) 2)), (0, (s2 (a0 + 2) (w32 a1)))], s2) = some ((w32 (s2 (a0 + 2) (w32 a1))) < (w32 (s2 (a0 + 5) 2)), (54, [(15, a0), (0, a1), (99, 0)], [], s2), (60, [(15, a0), (0, a1), (99, 0)], [], s2)) from rfl) H (fun H => ?_) (fun H => ?_)
      · refine AT.seq [(54, .aload_n 0, 1, (0, 0, 0)), (55, .iconst 4, 1, (0, 0, 0))] (by decide +kernel) (show jrun _ (54, [(15, a0), (0, a1), (99, 0)], [], s2) = some ([], (56, [(15, a0), (0, a1), (99, 0)], [(0, 4), (15, a0)], s2)) from rfl) ?_
        obtain ⟨v5, s5, h5, H⟩ := jb_some H
        refine AT.callV (As := [(0, 4)]) (cl := 11) (b := a0) (st := []) (i := 322) (pos := 7116) kMd_refuse (by decide +kernel) rfl (by decide +kernel) rfl rfl (by omega) (Md_refuse_ok h5) ?_
        show AT sMd_copyFirm 3 (59, [(15, a0), (0, a1), (99, 0)], [(0, v5)], s5) o
        exact AT.retiH (by decide +kernel) H
      · refine AT.seq [(60, .iconst 0, 1, (0, 0, 0)), (61, .istore_n 2, 1, (0, 0, 0))] (by decide +kernel) (show jrun _ (60, [(15, a0), (0, a1), (99, 0)], [], s2) = some ([], (62, [(15, a0), (0, a1), (0, 0)], [], s2)) from rfl) ?_
        exact Md_copyFirm_62_ok  jFU _ _ _ _ H
def sMd_goes : jS := (⟨"JellyCathedralModel", "goes", "(I)V"⟩, prog_13_method_86_code, 3, 0, [15, 0], 0)
theorem kMd_goes : jmk sMd_goes = true := jmk_of 7188 1012 7187 99 (by decide +kernel)
set_option maxRecDepth 100000 in
theorem Md_goes_2_ok {o : Int × jM} : ∀ (n : Nat) (x0 x1 x2 : Int) (s : jM), Md_goes_2  n x0 x1 x2 s = some o → AT sMd_goes 0 (2, [(15, x0), (0, x1), (0, x2)], [], s) o := by
  intro n
  induction n with
  | zero =>
    intro x0 x1 x2 s H
    have H : (none : Option (Int × jM)) = some o := H
    cases H
  | succ n ih =>
    intro x0 x1 x2 s H
    rw [Md_goes_2] at H
    refine AT.seq [(2, .iload_n 2, 1, (0, 0, 0)), (3, .iconst 5, 1, (0, 0, 0))] (by decide +kernel) (show jrun _ (2, [(15, x0), (0, x1), (0, x2)], [], s) = some ([], (4, [(15, x0), (0, x1), (0, x2)], [(0, 5), (0, x2)], s)) from rfl) ?_
    refine AT.ite (x := (0, 0, 0)) (by decide +kernel) (show jbr (.if_icmp .ge 23) (4, [(15, x0), (0, x1), (0, x2)], [(0, 5), (0, x2)], s) = some ((w32 x2) < 5, (7, [(15, x0), (0, x1), (0, x2)], [], s), (27, [(15, x0), (0, x1), (0, x2)], [], s)) from rfl) H (fun H => ?_) (fun H => ?_)
    · refine AT.blk (g := (0 ≤ (w32 ((84 + (5 * x1)) + x2)) ∧ (w32 ((84 + (5 * x1)) + x2)) < 1905)) [(7, .aload_n 0, 1, (0, 0, 0)), (8, .getfield 35, 3, (5207, 1120, 0)), (11, .bipush 84, 2, (0, 0, 0)), (13, .iconst 5, 1, (0, 0, 0)), (14, .iload_n 1, 1, (0, 0, 0)), (15, .imul, 1, (0, 0, 0)), (16, .iadd, 1, (0, 0, 0)), (17, .iload_n 2, 1, (0, 0, 0)), (18, .iadd, 1, (0, 0, 0)), (19, .iconst 0, 1, (0, 0, 0)), (20, .iastore, 1, (0, 0, 0)), (21, .iinc 2 1, 3, (0, 0, 0)), (24, .goto (-22), 3, (0, 0, 0))] (by decide +kernel) (show jrun _ (7, [(15, x0), (0, x1), (0, x2)], [], s) = some ([(0 ≤ (w32 ((84 + (5 * x1)) + x2)) ∧ (w32 ((84 + (5 * x1)) + x2)) < 1905)], (2, [(15, x0), (0, x1), (0, (x2 + 1))], [], (jup s (x0 + 5) (w32 ((84 + (5 * x1)) + x2)) 0))) from rfl) (fun h => h) H (fun H => ?_)
      exact ih _ _ _ _ H
    · refine AT.blk (g := (0 ≤ (w32 (69 + x1)) ∧ (w32 (69 + x1)) < 1905) ∧ (0 ≤ (w32 (74 + x1)) ∧ (w32 (74 + x1)) < 1905)) [(27, .aload_n 0, 1, (0, 0, 0)), (28, .getfield 35, 3, (5207, 1120, 0)), (31, .bipush 69, 2, (0, 0, 0)), (33, .iload_n 1, 1, (0, 0, 0)), (34, .iadd, 1, (0, 0, 0)), (35, .iconst 0, 1, (0, 0, 0)), (36, .iastore, 1, (0, 0, 0)), (37, .aload_n 0, 1, (0, 0, 0)), (38, .getfield 35, 3, (5207, 1120, 0)), (41, .bipush 74, 2, (0, 0, 0)), (43, .iload_n 1, 1, (0, 0, 0)), (44, .iadd, 1, (0, 0, 0)), (45, .iconst 0, 1, (0, 0, 0)), (46, .iastore, 1, (0, 0, 0))] (by decide +kernel) (show jrun _ (27, [(15, x0), (0, x1), (0, x2)], [], s) = some ([(0 ≤ (w32 (69 + x1)) ∧ (w32 (69 + x1)) < 1905), (0 ≤ (w32 (74 + x1)) ∧ (w32 (74 + x1)) < 1905)], (47, [(15, x0), (0, x1), (0, x2)], [], (jup (jup s (x0 + 5) (w32 (69 + x1)) 0) (x0 + 5) (w32 (74 + x1)) 0))) from rfl) (fun h => ⟨h.1, h.2⟩) H (fun H => ?_)
      exact AT.retvH (by decide +kernel) H
set_option maxRecDepth 100000 in
theorem Md_goes_ok {a0 a1 : Int} {s : jM} {o : Int × jM} (H : Md_goes a0 a1 s = some o) : MK sMd_goes 0 [(15, a0), (0, a1)] s o := by
  refine MK.of kMd_goes rfl ?_
  show AT sMd_goes 0 (0, [(15, a0), (0, a1), (99, 0)], [], s) o
  unfold Md_goes at H
  refine AT.seq [(0, .iconst 0, 1, (0, 0, 0)), (1, .istore_n 2, 1, (0, 0, 0))] (by decide +kernel) (show jrun _ (0, [(15, a0), (0, a1), (99, 0)], [], s) = some ([], (2, [(15, a0), (0, a1), (0, 0)], [], s)) from rfl) ?_
  exact Md_goes_2_ok  jFU _ _ _ _ H
def sMd_falls : jS := (⟨"JellyCathedralModel", "falls", "(I)Z"⟩, prog_13_method_87_code, 2, 3, [15, 0], 0)
theorem kMd_falls : jmk sMd_falls = true := jmk_of 7204 1012 7203 102 (by decide +kernel)
set_option maxRecDepth 100000 in
theorem Md_falls_ok {a0 a1 : Int} {s : jM} {o : Int × jM} (H : Md_falls a0 a1 s = some o) : MK sMd_falls 1 [(15, a0), (0, a1)] s o := by
  refine MK.of kMd_falls rfl ?_
  show AT sMd_falls 1 (0, [(15, a0), (0, a1)], [], s) o
  unfold Md_falls at H
  refine AT.blk (g := (0 ≤ (w32 (69 + a1)) ∧ (w32 (69 + a1)) < 1905)) [(0, .aload_n 0, 1, (0, 0, 0)), (1, .getfield 35, 3, (5207, 1120, 0)), (4, .bipush 69, 2, (0, 0, 0)), (6, .iload_n 1, 1, (0, 0, 0)), (7, .iadd, 1, (0, 0, 0)), (8, .iaload, 1, (0, 0, 0)), (9, .iconst 2, 1, (0, 0, 0))] (by decide +kernel) (show jrun _ (0, [(15, a0), (0, a1)], [], s) = some ([(0 ≤ (w32 (69 + a1)) ∧ (w32 (69 + a1)) < 1905)], (10, [(15, a0), (0, a1)], [(0, 2), (0, (s (a0 + 5) (w32 (69 + a1))))], s)) from rfl) (fun h => h) H (fun H => ?_)
  refine AT.ite (x := (0, 0, 0)) (by decide +kernel) (show jbr (.if_icmp .ne 24) (10, [(15, a0), (0, a1)], [(0, 2), (0, (s (a0 + 5) (w32 (69 + a1))))], s) = some ((w32 (s (a0 + 5) (w32 (69 + a1)))) = 2, (13, [(15, a0), (0, a1)], [], s), (34, [(15, a0), (0, a1)], [], s)) from rfl) H (fun H => ?_) (fun H => ?_)
  · refine AT.blk (g := (0 ≤ (w32 (74 + a1)) ∧ (w32 (74 + a1)) < 1905) ∧ (0 ≤ (w32 (54 + a1)) ∧ (w32 (54 + a1)) < 1905)) [(13, .aload_n 0, 1, (0, 0, 0)), (14, .getfield 35, 3, (5207, 1120, 0)), (17, .bipush 74, 2, (0, 0, 0)), (19, .iload_n 1, 1, (0, 0, 0)), (20, .iadd, 1, (0, 0, 0)), (21, .iaload, 1, (0, 0, 0)), (22, .aload_n 0, 1, (0, 0, 0)), (23, .getfield 35, 3, (5207, 1120, 0)), (26, .bipush 54, 2, (0, 0, 0)), (28, .iload_n 1, 1, (0, 0, 0)), (29, .iadd, 1, (0, 0, 0)), (30, .iaload, 1, (0, 0, 0))] (by decide +kernel) (show jrun _ (13, [(15, a0), (0, a1)], [], s) = some ([(0 ≤ (w32 (74 + a1)) ∧ (w32 (74 + a1)) < 1905), (0 ≤ (w32 (54 + a1)) ∧ (w32 (54 + a1)) < 1905)], (31, [(15, a0), (0, a1)], [(0, (s (a0 + 5) (w32 (54 + a1)))), (0, (s (a0 + 5) (w32 (74 + a1))))], s)) from rfl) (fun h => ⟨h.1, h.2⟩) H (fun H => ?_)
    refine AT.ite (x := (0, 0, 0)) (by decide +kernel) (show jbr (.if_icmp .lt 5) (31, [(15, a0), (0, a1)], [(0, (s (a0 + 5) (w32 (54 + a1)))), (0, (s (a0 + 5) (w32 (74 + a1))))], s) = some ((w32 (s (a0 + 5) (w32 (74 + a1)))) < (w32 (s (a0 + 5) (w32 (54 + a1)))), (36, [(15, a0), (0, a1)], [], s), (34, [(15, a0), (0, a1)], [], s)) from rfl) H (fun H => ?_) (fun H => ?_)
    · refine AT.seq [(36, .aload_n 0, 1, (0, 0, 0)), (37, .iload_n 1, 1, (0, 0, 0))] (by decide +kernel) (show jrun _ (36, [(15, a0), (0, a1)], [], s) = some ([], (38, [(15, a0), (0, a1)], [(0, a1), (15, a0)], s)) from rfl) ?_
      obtain ⟨v1, s1, h1, H⟩ := jb_some H
      refine AT.callV (As := [(0, a1)]) (cl := 11) (b := a0) (st := []) (i := 351) (pos := 7185) kMd_goes (by decide +kernel) rfl (by decide +kernel) rfl rfl (by omega) (Md_goes_ok h1) ?_
      show AT sMd_falls 1 (41, [(15, a0), (0, a1)], [], s1) o
      refine AT.blk (g := (0 ≤ (w32 (79 + a1)) ∧ (w32 (79 + a1)) < 1905) ∧ (0 ≤ (w32 (79 + a1)) ∧ (w32 (79 + a1)) < 1905)) [(41, .aload_n 0, 1, (0, 0, 0)), (42, .getfield 35, 3, (5207, 1120, 0)), (45, .bipush 79, 2, (0, 0, 0)), (47, .iload_n 1, 1, (0, 0, 0)), (48, .iadd, 1, (0, 0, 0)), (49, .dup2, 1, (0, 0, 0)), (50, .iaload, 1, (0, 0, 0)), (51, .iconst 1, 1, (0, 0, 0)), (52, .iadd, 1, (0, 0, 0)), (53, .iastore, 1, (0, 0, 0)), (54, .aload_n 0, 1, (0, 0, 0)), (55, .getfield 35, 3, (5207, 1120, 0)), (58, .bipush 7, 2, (0, 0, 0)), (60, .dup2, 1, (0, 0, 0)), (61, .iaload, 1, (0, 0, 0)), (62, .iconst 1, 1, (0, 0, 0)), (63, .iadd, 1, (0, 0, 0)), (64, .iastore, 1, (0, 0, 0)), (65, .iconst 1, 1, (0, 0, 0))] (by decide +kernel) (show jrun _ (41, [(15, a0), (0, a1)], [], s1) = some ([(0 ≤ (w32 (79 + a1)) ∧ (w32 (79 + a1)) < 1905), (0 ≤ (w32 (79 + a1)) ∧ (w32 (79 + a1)) < 1905), (0 ≤ (7 : Int) ∧ (7 : Int) < 1905), (0 ≤ (7 : Int) ∧ (7 : Int) < 1905)], (66, [(15, a0), (0, a1)], [(0, 1)], (jup (jup s1 (a0 + 5) (w32 (79 + a1)) ((s1 (a0 + 5) (w32 (79 + a1))) + 1)) (a0 + 5) 7 (((jup s1 (a0 + 5) (w32 (79 + a1)) ((s1 (a0 + 5) (w32 (79 + a1))) + 1)) (a0 + 5) 7) + 1)))) from rfl) (fun h => ⟨h.1, h.2, (show (0 ≤ (7 : Int) ∧ (7 : Int) < 1905) from by decide), (show (0 ≤ (7 : Int) ∧ (7 : Int) < 1905) from by decide)⟩) H (fun H => ?_)
      exact AT.retzC (by decide +kernel) (by decide) H
    · refine AT.seq [(34, .iconst 0, 1, (0, 0, 0))] (by decide +kernel) (show jrun _ (34, [(15, a0), (0, a1)], [], s) = some ([], (35, [(15, a0), (0, a1)], [(0, 0)], s)) from rfl) ?_
      exact AT.retzC (by decide +kernel) (by decide) H
  · refine AT.seq [(34, .iconst 0, 1, (0, 0, 0))] (by decide +kernel) (show jrun _ (34, [(15, a0), (0, a1)], [], s) = some ([], (35, [(15, a0), (0, a1)], [(0, 0)], s)) from rfl) ?_
    exact AT.retzC (by decide +kernel) (by decide) H
def sMd_pours : jS := (⟨"JellyCathedralModel", "pours", "(III)Z"⟩, prog_13_method_88_code, 4, 3, [15, 0, 0, 0], 0)
theorem kMd_pours : jmk sMd_pours = true := jmk_of 7176 1012 7175 97 (by decide +kernel)
set_option maxRecDepth 100000 in
theorem Md_pours_ok {a0 a1 a2 a3 : Int} {s : jM} {o : Int × jM} (H : Md_pours a0 a1 a2 a3 s = some o) : MK sMd_pours 2 [(15, a0), (0, a1), (0, a2), (0, a3)] s o := by
  refine MK.of kMd_pours rfl ?_
  show AT sMd_pours 2 (0, [(15, a0), (0, a1), (0, a2), (0, a3)], [], s) o
  unfold Md_pours at H
  refine AT.blk (g := (0 ≤ (w32 (69 + a1)) ∧ (w32 (69 + a1)) < 1905)) [(0, .aload_n 0, 1, (0, 0, 0)), (1, .getfield 35, 3, (5207, 1120, 0)), (4, .bipush 69, 2, (0, 0, 0)), (6, .iload_n 1, 1, (0, 0, 0)), (7, .iadd, 1, (0, 0, 0)), (8, .iaload, 1, (0, 0, 0)), (9, .iconst 2, 1, (0, 0, 0))] (by decide +kernel) (show jrun _ (0, [(15, a0), (0, a1), (0, a2), (0, a3)], [], s) = some ([(0 ≤ (w32 (69 + a1)) ∧ (w32 (69 + a1)) < 1905)], (10, [(15, a0), (0, a1), (0, a2), (0, a3)], [(0, 2), (0, (s (a0 + 5) (w32 (69 + a1))))], s)) from rfl) (fun h => h) H (fun H => ?_)
  refine AT.ite (x := (0, 0, 0)) (by decide +kernel) (show jbr (.if_icmp .eq 35) (10, [(15, a0), (0, a1), (0, a2), (0, a3)], [(0, 2), (0, (s (a0 + 5) (w32 (69 + a1))))], s) = some ((w32 (s (a0 + 5) (w32 (69 + a1)))) = 2, (45, [(15, a0), (0, a1), (0, a2), (0, a3)], [], s), (13, [(15, a0), (0, a1), (0, a2), (0, a3)], [], s)) from rfl) H (fun H => ?_) (fun H => ?_)
  · refine AT.seq [(45, .iconst 0, 1, (0, 0, 0))] (by decide +kernel) (show jrun _ (45, [(15, a0), (0, a1), (0, a2), (0, a3)], [], s) = some ([], (46, [(15, a0), (0, a1), (0, a2), (0, a3)], [(0, 0)], s)) from rfl) ?_
    exact AT.retzC (by decide +kernel) (by decide) H
  · refine AT.blk (g := (0 ≤ (w32 (19 + a2)) ∧ (w32 (19 + a2)) < 1905)) [(13, .aload_n 0, 1, (0, 0, 0)), (14, .getfield 35, 3, (5207, 1120, 0)), (17, .bipush 19, 2, (0, 0, 0)), (19, .iload_n 2, 1, (0, 0, 0)), (20, .iadd, 1, (0, 0, 0)), (21, .iaload, 1, (0, 0, 0)), (22, .iload_n 3, 1, (0, 0, 0))] (by decide +kernel) (show jrun _ (13, [(15, a0), (0, a1), (0, a2), (0, a3)], [], s) = some ([(0 ≤ (w32 (19 + a2)) ∧ (w32 (19 + a2)) < 1905)], (23, [(15, a0), (0, a1), (0, a2), (0, a3)], [(0, a3), (0, (s (a0 + 5) (w32 (19 + a2))))], s)) from rfl) (fun h => h) H (fun H => ?_)
    refine AT.ite (x := (0, 0, 0)) (by decide +kernel) (show jbr (.if_icmp .lt 22) (23, [(15, a0), (0, a1), (0, a2), (0, a3)], [(0, a3), (0, (s (a0 + 5) (w32 (19 + a2))))], s) = some ((w32 (s (a0 + 5) (w32 (19 + a2)))) < (w32 a3), (45, [(15, a0), (0, a1), (0, a2), (0, a3)], [], s), (26, [(15, a0), (0, a1), (0, a2), (0, a3)], [], s)) from rfl) H (fun H => ?_) (fun H => ?_)
    · refine AT.seq [(45, .iconst 0, 1, (0, 0, 0))] (by decide +kernel) (show jrun _ (45, [(15, a0), (0, a1), (0, a2), (0, a3)], [], s) = some ([], (46, [(15, a0), (0, a1), (0, a2), (0, a3)], [(0, 0)], s)) from rfl) ?_
      exact AT.retzC (by decide +kernel) (by decide) H
    · refine AT.seq [(26, .aload_n 0, 1, (0, 0, 0)), (27, .iload_n 1, 1, (0, 0, 0))] (by decide +kernel) (show jrun _ (26, [(15, a0), (0, a1), (0, a2), (0, a3)], [], s) = some ([], (28, [(15, a0), (0, a1), (0, a2), (0, a3)], [(0, a1), (15, a0)], s)) from rfl) ?_
      obtain ⟨v1, s1, h1, H⟩ := jb_some H
      refine AT.callV (As := [(0, a1)]) (cl := 11) (b := a0) (st := []) (i := 341) (pos := 7150) kMd_partsIn (by decide +kernel) rfl (by decide +kernel) rfl rfl (by omega) (Md_partsIn_ok h1) ?_
      show AT sMd_pours 2 (31, [(15, a0), (0, a1), (0, a2), (0, a3)], [(0, v1)], s1) o
      refine AT.blk (g := (0 ≤ (w32 (59 + a1)) ∧ (w32 (59 + a1)) < 1905)) [(31, .iload_n 3, 1, (0, 0, 0)), (32, .iadd, 1, (0, 0, 0)), (33, .aload_n 0, 1, (0, 0, 0)), (34, .getfield 35, 3, (5207, 1120, 0)), (37, .bipush 59, 2, (0, 0, 0)), (39, .iload_n 1, 1, (0, 0, 0)), (40, .iadd, 1, (0, 0, 0)), (41, .iaload, 1, (0, 0, 0))] (by decide +kernel) (show jrun _ (31, [(15, a0), (0, a1), (0, a2), (0, a3)], [(0, v1)], s1) = some ([(0 ≤ (w32 (59 + a1)) ∧ (w32 (59 + a1)) < 1905)], (42, [(15, a0), (0, a1), (0, a2), (0, a3)], [(0, (s1 (a0 + 5) (w32 (59 + a1)))), (0, (v1 + a3))], s1)) from rfl) (fun h => h) H (fun H => ?_)
      refine AT.ite (x := (0, 0, 0)) (by decide +kernel) (show jbr (.if_icmp .le 5) (42, [(15, a0), (0, a1), (0, a2), (0, a3)], [(0, (s1 (a0 + 5) (w32 (59 + a1)))), (0, (v1 + a3))], s1) = some ((w32 (s1 (a0 + 5) (w32 (59 + a1)))) < (w32 (v1 + a3)), (45, [(15, a0), (0, a1), (0, a2), (0, a3)], [], s1), (47, [(15, a0), (0, a1), (0, a2), (0, a3)], [], s1)) from rfl) H (fun H => ?_) (fun H => ?_)
      · refine AT.seq [(45, .iconst 0, 1, (0, 0, 0))] (by decide +kernel) (show jrun _ (45, [(15, a0), (0, a1), (0, a2), (0, a3)], [], s1) = some ([], (46, [(15, a0), (0, a1), (0, a2), (0, a3)], [(0, 0)], s1)) from rfl) ?_
        exact AT.retzC (by decide +kernel) (by decide) H
      · refine AT.blk (g := (0 ≤ (w32 ((84 + (5 * a1)) + a2)) ∧ (w32 ((84 + (5 * a1)) + a2)) < 1905) ∧ (0 ≤ (w32 ((84 + (5 * a1)) + a2)) ∧ (w32 ((84 + (5 * a1)) + a2)) < 1905) ∧ (0 ≤ (w32 (19 + a2)) ∧ (w32 (19 + a2)) < 1905) ∧ (0 ≤ (w32 (19 + a2)) ∧ (w32 (19 + a2)) < 1905)) [(47, .aload_n 0, 1, (0, 0, 0)), (48, .getfield 35, 3, (5207, 1120, 0)), (51, .bipush 84, 2, (0, 0, 0)), (53, .iconst 5, 1, (0, 0, 0)), (54, .iload_n 1, 1, (0, 0, 0)), (55, .imul, 1, (0, 0, 0)), (56, .iadd, 1, (0, 0, 0)), (57, .iload_n 2, 1, (0, 0, 0)), (58, .iadd, 1, (0, 0, 0)), (59, .dup2, 1, (0, 0, 0)), (60, .iaload, 1, (0, 0, 0)), (61, .iload_n 3, 1, (0, 0, 0)), (62, .iadd, 1, (0, 0, 0)), (63, .iastore, 1, (0, 0, 0)), (64, .aload_n 0, 1, (0, 0, 0)), (65, .getfield 35, 3, (5207, 1120, 0)), (68, .bipush 19, 2, (0, 0, 0)), (70, .iload_n 2, 1, (0, 0, 0)), (71, .iadd, 1, (0, 0, 0)), (72, .dup2, 1, (0, 0, 0)), (73, .iaload, 1, (0, 0, 0)), (74, .iload_n 3, 1, (0, 0, 0)), (75, .isub, 1, (0, 0, 0)), (76, .iastore, 1, (0, 0, 0)), (77, .aload_n 0, 1, (0, 0, 0)), (78, .getfield 35, 3, (5207, 1120, 0)), (81, .bipush 6, 2, (0, 0, 0)), (83, .dup2, 1, (0, 0, 0))] (by decide +kernel) (show jrun _ (47, [(15, a0), (0, a1), (0, a2), (0, a3)], [], s1) = some ([(0 ≤ (w32 ((84 + (5 * a1)) + a2)) ∧ (w32 ((84 + (5 * a1)) + a2)) < 1905), (0 ≤ (w32 ((84 + (5 * a1)) + a2)) ∧ (w32 ((84 + (5 * a1)) + a2)) < 1905), (0 ≤ (w32 (19 + a2)) ∧ (w32 (19 + a2)) < 1905), (0 ≤ (w32 (19 + a2)) ∧ (w32 (19 + a2)) < 1905)], (84, [(15, a0), (0, a1), (0, a2), (0, a3)], [(0, 6), (40, (a0 + 5)), (0, 6), (40, (a0 + 5))], (jup (jup s1 (a0 + 5) (w32 ((84 + (5 * a1)) + a2)) ((s1 (a0 + 5) (w32 ((84 + (5 * a1)) + a2))) + a3)) (a0 + 5) (w32 (19 + a2)) (((jup s1 (a0 + 5) (w32 ((84 + (5 * a1)) + a2)) ((s1 (a0 + 5) (w32 ((84 + (5 * a1)) + a2))) + a3)) (a0 + 5) (w32 (19 + a2))) - a3)))) from rfl) (fun h => ⟨h.1, h.2.1, h.2.2.1, h.2.2.2⟩) H (fun H => ?_)
        obtain ⟨s2, e2, H⟩ := jm_some H
        rw [← e2]
        refine AT.blk (g := (0 ≤ (w32 (14 + a2)) ∧ (w32 (14 + a2)) < 1905) ∧ (0 ≤ (w32 (69 + a1)) ∧ (w32 (69 + a1)) < 1905) ∧ (0 ≤ (w32 (74 + a1)) ∧ (w32 (74 + a1)) < 1905)) [(84, .iaload, 1, (0, 0, 0)), (85, .iload_n 3, 1, (0, 0, 0)), (86, .aload_n 0, 1, (0, 0, 0)), (87, .getfield 35, 3, (5207, 1120, 0)), (90, .bipush 14, 2, (0, 0, 0)), (92, .iload_n 2, 1, (0, 0, 0)), (93, .iadd, 1, (0, 0, 0)), (94, .iaload, 1, (0, 0, 0)), (95, .imul, 1, (0, 0, 0)), (96, .iadd, 1, (0, 0, 0)), (97, .iastore, 1, (0, 0, 0)), (98, .aload_n 0, 1, (0, 0, 0)), (99, .getfield 35, 3, (5207, 1120, 0)), (102, .bipush 69, 2, (0, 0, 0)), (104, .iload_n 1, 1, (0, 0, 0)), (105, .iadd, 1, (0, 0, 0)), (106, .iconst 1, 1, (0, 0, 0)), (107, .iastore, 1, (0, 0, 0)), (108, .aload_n 0, 1, (0, 0, 0)), (109, .getfield 35, 3, (5207, 1120, 0)), (112, .bipush 74, 2, (0, 0, 0)), (114, .iload_n 1, 1, (0, 0, 0)), (115, .iadd, 1, (0, 0, 0)), (116, .iconst 0, 1, (0, 0, 0)), (117, .iastore, 1, (0, 0, 0)), (118, .iconst 1, 1, (0, 0, 0))] (by decide +kernel) (show jrun _ (84, [(15, a0), (0, a1), (0, a2), (0, a3)], [(0, 6), (40, (a0 + 5)), (0, 6), (40, (a0 + 5))], s2) = some ([(0 ≤ (6 : Int) ∧ (6 : Int) < 1905), (0 ≤ (w32 (14 + a2)) ∧ (w32 (14 + a2)) < 1905), (0 ≤ (6 : Int) ∧ (6 : Int) < 1905), (0 ≤ (w32 (69 + a1)) ∧ (w32 (69 + a1)) < 1905), (0 ≤ (w32 (74 + a1)) ∧ (w32 (74 + a1)) < 1905)], (119, [(15, a0), (0, a1), (0, a2), (0, a3)], [(0, 1)], (jup (jup (jup s2 (a0 + 5) 6 ((s2 (a0 + 5) 6) + (a3 * (s2 (a0 + 5) (w32 (14 + a2)))))) (a0 + 5) (w32 (69 + a1)) 1) (a0 + 5) (w32 (74 + a1)) 0))) from rfl) (fun h => ⟨(show (0 ≤ (6 : Int) ∧ (6 : Int) < 1905) from by decide), h.1, (show (0 ≤ (6 : Int) ∧ (6 : Int) < 1905) from by decide), h.2.1, h.2.2⟩) H (fun H => ?_)
        exact AT.retzC (by decide +kernel) (by decide) H
def sMd_pour : jS := (⟨"JellyCathedralModel", "pour", "(III)I"⟩, prog_13_method_89_code, 4, 1, [15, 0, 0, 0], 0)
theorem kMd_pour : jmk sMd_pour = true := jmk_of 7171 1012 7169 7170 (by decide +kernel)
set_option maxRecDepth 100000 in
theorem Md_pour_ok {a0 a1 a2 a3 : Int} {s : jM} {o : Int × jM} (H : Md_pour a0 a1 a2 a3 s = some o) : MK sMd_pour 3 [(15, a0), (0, a1), (0, a2), (0, a3)] s o := by
  refine MK.of kMd_pour rfl ?_
  show AT sMd_pour 3 (0, [(15, a0), (0, a1), (0, a2), (0, a3)], [], s) o
  unfold Md_pour at H
  refine AT.seq [(0, .aload_n 0, 1, (0, 0, 0)), (1, .iconst 0, 1, (0, 0, 0)), (2, .putfield 72, 3, (5188, 1101, 0)), (5, .aload_n 0, 1, (0, 0, 0)), (6, .iconst 0, 1, (0, 0, 0)), (7, .putfield 75, 3, (5187, 1100, 0)), (10, .aload_n 0, 1, (0, 0, 0)), (11, .iload_n 1, 1, (0, 0, 0))] (by decide +kernel) (show jrun _ (0, [(15, a0), (0, a1), (0, a2), (0, a3)], [], s) = some ([], (12, [(15, a0), (0, a1), (0, a2), (0, a3)], [(0, a1), (15, a0)], (jup (jup s a0 1 0) a0 0 0))) from rfl) ?_
  obtain ⟨v1, s1, h1, H⟩ := jb_some H
  refine AT.callV (As := [(0, a1)]) (cl := 11) (b := a0) (st := []) (i := 333) (pos := 7137) kMd_isMouldAt (by decide +kernel) rfl (by decide +kernel) rfl rfl (by omega) (Md_isMouldAt_ok h1) ?_
  show AT sMd_pour 3 (15, [(15, a0), (0, a1), (0, a2), (0, a3)], [(0, v1)], s1) o
  refine AT.ite (x := (0, 0, 0)) (by decide +kernel) (show jbr (.ifCond .eq 11) (15, [(15, a0), (0, a1), (0, a2), (0, a3)], [(0, v1)], s1) = some ((w32 v1) = 0, (26, [(15, a0), (0, a1), (0, a2), (0, a3)], [], s1), (18, [(15, a0), (0, a1), (0, a2), (0, a3)], [], s1)) from rfl) H (fun H => ?_) (fun H => ?_)
  · refine AT.seq [(26, .aload_n 0, 1, (0, 0, 0)), (27, .iconst 2, 1, (0, 0, 0))] (by decide +kernel) (show jrun _ (26, [(15, a0), (0, a1), (0, a2), (0, a3)], [], s1) = some ([], (28, [(15, a0), (0, a1), (0, a2), (0, a3)], [(0, 2), (15, a0)], s1)) from rfl) ?_
    obtain ⟨v2, s2, h2, H⟩ := jb_some H
    refine AT.callV (As := [(0, 2)]) (cl := 11) (b := a0) (st := []) (i := 322) (pos := 7116) kMd_refuse (by decide +kernel) rfl (by decide +kernel) rfl rfl (by omega) (Md_refuse_ok h2) ?_
    show AT sMd_pour 3 (31, [(15, a0), (0, a1), (0, a2), (0, a3)], [(0, v2)], s2) o
    exact AT.retiH (by decide +kernel) H
  · refine AT.seq [(18, .aload_n 0, 1, (0, 0, 0)), (19, .iload_n 2, 1, (0, 0, 0))] (by decide +kernel) (show jrun _ (18, [(15, a0), (0, a1), (0, a2), (0, a3)], [], s1) = some ([], (20, [(15, a0), (0, a1), (0, a2), (0, a3)], [(0, a2), (15, a0)], s1)) from rfl) ?_
    obtain ⟨v3, s3, h3, H⟩ := jb_some H
    refine AT.callV (As := [(0, a2)]) (cl := 11) (b := a0) (st := []) (i := 328) (pos := 7128) kMd_isStuffAt (by decide +kernel) rfl (by decide +kernel) rfl rfl (by omega) (Md_isStuffAt_ok h3) ?_
    show AT sMd_pour 3 (23, [(15, a0), (0, a1), (0, a2), (0, a3)], [(0, v3)], s3) o
    refine AT.ite (x := (0, 0, 0)) (by decide +kernel) (show jbr (.ifCond .ne 9) (23, [(15, a0), (0, a1), (0, a2), (0, a3)], [(0, v3)], s3) = some ((w32 v3) = 0, (26, [(15, a0), (0, a1), (0, a2), (0, a3)], [], s3), (32, [(15, a0), (0, a1), (0, a2), (0, a3)], [], s3)) from rfl) H (fun H => ?_) (fun H => ?_)
    · refine AT.seq [(26, .aload_n 0, 1, (0, 0, 0)), (27, .iconst 2, 1, (0, 0, 0))] (by decide +kernel) (show jrun _ (26, [(15, a0), (0, a1), (0, a2), (0, a3)], [], s3) = some ([], (28, [(15, a0), (0, a1), (0, a2), (0, a3)], [(0, 2), (15, a0)], s3)) from rfl) ?_
      obtain ⟨v4, s4, h4, H⟩ := jb_some H
      refine AT.callV (As := [(0, 2)]) (cl := 11) (b := a0) (st := []) (i := 322) (pos := 7116) kMd_refuse (by decide +kernel) rfl (by decide +kernel) rfl rfl (by omega) (Md_refuse_ok h4) ?_
      show AT sMd_pour 3 (31, [(15, a0), (0, a1), (0, a2), (0, a3)], [(0, v4)], s4) o
      exact AT.retiH (by decide +kernel) H
    · refine AT.seq [(32, .iload_n 3, 1, (0, 0, 0)), (33, .i2l, 1, (0, 0, 0)), (34, .lconst 1, 1, (0, 0, 0)), (35, .ldc2_w 354, 3, (7172, 0, 9))] (by decide +kernel) (show jrun _ (32, [(15, a0), (0, a1), (0, a2), (0, a3)], [], s3) = some ([], (38, [(15, a0), (0, a1), (0, a2), (0, a3)], [(1, 9), (1, 1), (1, (w32 a3))], s3)) from rfl) ?_
      obtain ⟨v5, s5, h5, H⟩ := jb_some H
      refine AT.callS (As := [(1, (w32 a3)), (1, 1), (1, 9)]) (st := []) (i := 107) (pos := 6204) kMd_isIn (by decide +kernel) rfl rfl rfl (by omega) (Md_isIn_ok h5) ?_
      show AT sMd_pour 3 (41, [(15, a0), (0, a1), (0, a2), (0, a3)], [(0, v5)], s5) o
      refine AT.ite (x := (0, 0, 0)) (by decide +kernel) (show jbr (.ifCond .ne 9) (41, [(15, a0), (0, a1), (0, a2), (0, a3)], [(0, v5)], s5) = some ((w32 v5) = 0, (44, [(15, a0), (0, a1), (0, a2), (0, a3)], [], s5), (50, [(15, a0), (0, a1), (0, a2), (0, a3)], [], s5)) from rfl) H (fun H => ?_) (fun H => ?_)
      · refine AT.seq [(44, .aload_n 0, 1, (0, 0, 0)), (45, .iconst 5, 1, (0, 0, 0))] (by decide +kernel) (show jrun _ (44, [(15, a0), (0, a1), (0, a2), (0, a3)], [], s5) = some ([], (46, [(15, a0), (0, a1), (0, a2), (0, a3)], [(0, 5), (15, a0)], s5)) from rfl) ?_
        obtain ⟨v6, s6, h6, H⟩ := jb_some H
        refine AT.callV (As := [(0, 5)]) (cl := 11) (b := a0) (st := []) (i := 322) (pos := 7116) kMd_refuse (by decide +kernel) rfl (by decide +kernel) rfl rfl (by omega) (Md_refuse_ok h6) ?_
        show AT sMd_pour 3 (49, [(15, a0), (0, a1), (0, a2), (0, a3)], [(0, v6)], s6) o
        exact AT.retiH (by decide +kernel) H
      · refine AT.seq [(50, .aload_n 0, 1, (0, 0, 0)), (51, .iload_n 1, 1, (0, 0, 0)), (52, .iload_n 2, 1, (0, 0, 0)), (53, .iload_n 3, 1, (0, 0, 0))] (by decide +kernel) (show jrun _ (50, [(15, a0), (0, a1), (0, a2), (0, a3)], [], s5) = some ([], (54, [(15, a0), (0, a1), (0, a2), (0, a3)], [(0, a3), (0, a2), (0, a1), (15, a0)], s5)) from rfl) ?_
        obtain ⟨v7, s7, h7, H⟩ := jb_some H
        refine AT.callV (As := [(0, a1), (0, a2), (0, a3)]) (cl := 11) (b := a0) (st := []) (i := 356) (pos := 7173) kMd_pours (by decide +kernel) rfl (by decide +kernel) rfl rfl (by omega) (Md_pours_ok h7) ?_
        show AT sMd_pour 3 (57, [(15, a0), (0, a1), (0, a2), (0, a3)], [(0, v7)], s7) o
        refine AT.ite (x := (0, 0, 0)) (by decide +kernel) (show jbr (.ifCond .eq 11) (57, [(15, a0), (0, a1), (0, a2), (0, a3)], [(0, v7)], s7) = some ((w32 v7) = 0, (68, [(15, a0), (0, a1), (0, a2), (0, a3)], [], s7), (60, [(15, a0), (0, a1), (0, a2), (0, a3)], [], s7)) from rfl) H (fun H => ?_) (fun H => ?_)
        · refine AT.seq [(68, .aload_n 0, 1, (0, 0, 0)), (69, .bipush 9, 2, (0, 0, 0))] (by decide +kernel) (show jrun _ (68, [(15, a0), (0, a1), (0, a2), (0, a3)], [], s7) = some ([], (71, [(15, a0), (0, a1), (0, a2), (0, a3)], [(0, 9), (15, a0)], s7)) from rfl) ?_
          obtain ⟨v8, s8, h8, H⟩ := jb_some H
          refine AT.callV (As := [(0, 9)]) (cl := 11) (b := a0) (st := []) (i := 322) (pos := 7116) kMd_refuse (by decide +kernel) rfl (by decide +kernel) rfl rfl (by omega) (Md_refuse_ok h8) ?_
          show AT sMd_pour 3 (74, [(15, a0), (0, a1), (0, a2), (0, a3)], [(0, v8)], s8) o
          exact AT.retiH (by decide +kernel) H
        · refine AT.seq [(60, .aload_n 0, 1, (0, 0, 0)), (61, .iload_n 1, 1, (0, 0, 0))] (by decide +kernel) (show jrun _ (60, [(15, a0), (0, a1), (0, a2), (0, a3)], [], s7) = some ([], (62, [(15, a0), (0, a1), (0, a2), (0, a3)], [(0, a1), (15, a0)], s7)) from rfl) ?_
          obtain ⟨v9, s9, h9, H⟩ := jb_some H
          refine AT.callV (As := [(0, a1)]) (cl := 11) (b := a0) (st := []) (i := 341) (pos := 7150) kMd_partsIn (by decide +kernel) rfl (by decide +kernel) rfl rfl (by omega) (Md_partsIn_ok h9) ?_
          show AT sMd_pour 3 (65, [(15, a0), (0, a1), (0, a2), (0, a3)], [(0, v9)], s9) o
          refine AT.seq [(65, .goto 9, 3, (0, 0, 0))] (by decide +kernel) (show jrun _ (65, [(15, a0), (0, a1), (0, a2), (0, a3)], [(0, v9)], s9) = some ([], (74, [(15, a0), (0, a1), (0, a2), (0, a3)], [(0, v9)], s9)) from rfl) ?_
          exact AT.retiH (by decide +kernel) H
def sMd_voids : jS := (⟨"JellyCathedralModel", "voids", "(I)Z"⟩, prog_13_method_90_code, 2, 3, [15, 0], 0)
theorem kMd_voids : jmk sMd_voids = true := jmk_of 7184 1012 7183 98 (by decide +kernel)
set_option maxRecDepth 100000 in
theorem Md_voids_ok {a0 a1 : Int} {s : jM} {o : Int × jM} (H : Md_voids a0 a1 s = some o) : MK sMd_voids 1 [(15, a0), (0, a1)] s o := by
  refine MK.of kMd_voids rfl ?_
  show AT sMd_voids 1 (0, [(15, a0), (0, a1)], [], s) o
  unfold Md_voids at H
  refine AT.blk (g := (0 ≤ (w32 (69 + a1)) ∧ (w32 (69 + a1)) < 1905)) [(0, .aload_n 0, 1, (0, 0, 0)), (1, .getfield 35, 3, (5207, 1120, 0)), (4, .bipush 69, 2, (0, 0, 0)), (6, .iload_n 1, 1, (0, 0, 0)), (7, .iadd, 1, (0, 0, 0)), (8, .iaload, 1, (0, 0, 0))] (by decide +kernel) (show jrun _ (0, [(15, a0), (0, a1)], [], s) = some ([(0 ≤ (w32 (69 + a1)) ∧ (w32 (69 + a1)) < 1905)], (9, [(15, a0), (0, a1)], [(0, (s (a0 + 5) (w32 (69 + a1))))], s)) from rfl) (fun h => h) H (fun H => ?_)
  refine AT.ite (x := (0, 0, 0)) (by decide +kernel) (show jbr (.ifCond .ne 5) (9, [(15, a0), (0, a1)], [(0, (s (a0 + 5) (w32 (69 + a1))))], s) = some ((w32 (s (a0 + 5) (w32 (69 + a1)))) = 0, (12, [(15, a0), (0, a1)], [], s), (14, [(15, a0), (0, a1)], [], s)) from rfl) H (fun H => ?_) (fun H => ?_)
  · refine AT.seq [(12, .iconst 0, 1, (0, 0, 0))] (by decide +kernel) (show jrun _ (12, [(15, a0), (0, a1)], [], s) = some ([], (13, [(15, a0), (0, a1)], [(0, 0)], s)) from rfl) ?_
    exact AT.retzC (by decide +kernel) (by decide) H
  · refine AT.seq [(14, .aload_n 0, 1, (0, 0, 0)), (15, .iload_n 1, 1, (0, 0, 0))] (by decide +kernel) (show jrun _ (14, [(15, a0), (0, a1)], [], s) = some ([], (16, [(15, a0), (0, a1)], [(0, a1), (15, a0)], s)) from rfl) ?_
    obtain ⟨v1, s1, h1, H⟩ := jb_some H
    refine AT.callV (As := [(0, a1)]) (cl := 11) (b := a0) (st := []) (i := 351) (pos := 7185) kMd_goes (by decide +kernel) rfl (by decide +kernel) rfl rfl (by omega) (Md_goes_ok h1) ?_
    show AT sMd_voids 1 (19, [(15, a0), (0, a1)], [], s1) o
    refine AT.seq [(19, .iconst 1, 1, (0, 0, 0))] (by decide +kernel) (show jrun _ (19, [(15, a0), (0, a1)], [], s1) = some ([], (20, [(15, a0), (0, a1)], [(0, 1)], s1)) from rfl) ?_
    exact AT.retzC (by decide +kernel) (by decide) H
def sMd_empty : jS := (⟨"JellyCathedralModel", "empty", "(I)I"⟩, prog_13_method_91_code, 3, 1, [15, 0], 0)
theorem kMd_empty : jmk sMd_empty = true := jmk_of 7180 1012 7178 7179 (by decide +kernel)
set_option maxRecDepth 100000 in
theorem Md_empty_ok {a0 a1 : Int} {s : jM} {o : Int × jM} (H : Md_empty a0 a1 s = some o) : MK sMd_empty 2 [(15, a0), (0, a1)] s o := by
  refine MK.of kMd_empty rfl ?_
  show AT sMd_empty 2 (0, [(15, a0), (0, a1), (99, 0)], [], s) o
  unfold Md_empty at H
  refine AT.seq [(0, .aload_n 0, 1, (0, 0, 0)), (1, .iconst 0, 1, (0, 0, 0)), (2, .putfield 72, 3, (5188, 1101, 0)), (5, .aload_n 0, 1, (0, 0, 0)), (6, .iconst 0, 1, (0, 0, 0)), (7, .putfield 75, 3, (5187, 1100, 0)), (10, .aload_n 0, 1, (0, 0, 0)), (11, .iload_n 1, 1, (0, 0, 0))] (by decide +kernel) (show jrun _ (0, [(15, a0), (0, a1), (99, 0)], [], s) = some ([], (12, [(15, a0), (0, a1), (99, 0)], [(0, a1), (15, a0)], (jup (jup s a0 1 0) a0 0 0))) from rfl) ?_
  obtain ⟨v1, s1, h1, H⟩ := jb_some H
  refine AT.callV (As := [(0, a1)]) (cl := 11) (b := a0) (st := []) (i := 333) (pos := 7137) kMd_isMouldAt (by decide +kernel) rfl (by decide +kernel) rfl rfl (by omega) (Md_isMouldAt_ok h1) ?_
  show AT sMd_empty 2 (15, [(15, a0), (0, a1), (99, 0)], [(0, v1)], s1) o
  refine AT.ite (x := (0, 0, 0)) (by decide +kernel) (show jbr (.ifCond .ne 9) (15, [(15, a0), (0, a1), (99, 0)], [(0, v1)], s1) = some ((w32 v1) = 0, (18, [(15, a0), (0, a1), (99, 0)], [], s1), (24, [(15, a0), (0, a1), (99, 0)], [], s1)) from rfl) H (fun H => ?_) (fun H => ?_)
  · refine AT.seq [(18, .aload_n 0, 1, (0, 0, 0)), (19, .iconst 2, 1, (0, 0, 0))] (by decide +kernel) (show jrun _ (18, [(15, a0), (0, a1), (99, 0)], [], s1) = some ([], (20, [(15, a0), (0, a1), (99, 0)], [(0, 2), (15, a0)], s1)) from rfl) ?_
    obtain ⟨v2, s2, h2, H⟩ := jb_some H
    refine AT.callV (As := [(0, 2)]) (cl := 11) (b := a0) (st := []) (i := 322) (pos := 7116) kMd_refuse (by decide +kernel) rfl (by decide +kernel) rfl rfl (by omega) (Md_refuse_ok h2) ?_
    show AT sMd_empty 2 (23, [(15, a0), (0, a1), (99, 0)], [(0, v2)], s2) o
    exact AT.retiH (by decide +kernel) H
  · refine AT.seq [(24, .aload_n 0, 1, (0, 0, 0)), (25, .iload_n 1, 1, (0, 0, 0))] (by decide +kernel) (show jrun _ (24, [(15, a0), (0, a1), (99, 0)], [], s1) = some ([], (26, [(15, a0), (0, a1), (99, 0)], [(0, a1), (15, a0)], s1)) from rfl) ?_
    obtain ⟨v3, s3, h3, H⟩ := jb_some H
    refine AT.callV (As := [(0, a1)]) (cl := 11) (b := a0) (st := []) (i := 341) (pos := 7150) kMd_partsIn (by decide +kernel) rfl (by decide +kernel) rfl rfl (by omega) (Md_partsIn_ok h3) ?_
    show AT sMd_empty 2 (29, [(15, a0), (0, a1), (99, 0)], [(0, v3)], s3) o
    refine AT.seq [(29, .istore_n 2, 1, (0, 0, 0)), (30, .aload_n 0, 1, (0, 0, 0)), (31, .iload_n 1, 1, (0, 0, 0))] (by decide +kernel) (show jrun _ (29, [(15, a0), (0, a1), (99, 0)], [(0, v3)], s3) = some ([], (32, [(15, a0), (0, a1), (0, v3)], [(0, a1), (15, a0)], s3)) from rfl) ?_
    obtain ⟨v4, s4, h4, H⟩ := jb_some H
    refine AT.callV (As := [(0, a1)]) (cl := 11) (b := a0) (st := []) (i := 360) (pos := 7181) kMd_voids (by decide +kernel) rfl (by decide +kernel) rfl rfl (by omega) (Md_voids_ok h4) ?_
    show AT sMd_empty 2 (35, [(15, a0), (0, a1), (0, v3)], [(0, v4)], s4) o
    refine AT.ite (x := (0, 0, 0)) (by decide +kernel) (show jbr (.ifCond .eq 7) (35, [(15, a0), (0, a1), (0, v3)], [(0, v4)], s4) = some ((w32 v4) = 0, (42, [(15, a0), (0, a1), (0, v3)], [], s4), (38, [(15, a0), (0, a1), (0, v3)], [], s4)) from rfl) H (fun H => ?_) (fun H => ?_)
    · refine AT.seq [(42, .aload_n 0, 1, (0, 0, 0)), (43, .bipush 9, 2, (0, 0, 0))] (by decide +kernel) (show jrun _ (42, [(15, a0), (0, a1), (0, v3)], [], s4) = some ([], (45, [(15, a0), (0, a1), (0, v3)], [(0, 9), (15, a0)], s4)) from rfl) ?_
      obtain ⟨v5, s5, h5, H⟩ := jb_some H
      refine AT.callV (As := [(0, 9)]) (cl := 11) (b := a0) (st := []) (i := 322) (pos := 7116) kMd_refuse (by decide +kernel) rfl (by decide +kernel) rfl rfl (by omega) (Md_refuse_ok h5) ?_
      show AT sMd_empty 2 (48, [(15, a0), (0, a1), (0, v3)], [(0, v5)], s5) o
      exact AT.retiH (by decide +kernel) H
    · refine AT.seq [(38, .iload_n 2, 1, (0, 0, 0)), (39, .goto 9, 3, (0, 0, 0))] (by decide +kernel) (show jrun _ (38, [(15, a0), (0, a1), (0, v3)], [], s4) = some ([], (48, [(15, a0), (0, a1), (0, v3)], [(0, v3)], s4)) from rfl) ?_
      exact AT.retiH (by decide +kernel) H
def sMd_isReady : jS := (⟨"JellyCathedralModel", "isReady", "(I)Z"⟩, prog_13_method_92_code, 2, 3, [15, 0], 0)
theorem kMd_isReady : jmk sMd_isReady = true := jmk_of 7200 1012 7199 101 (by decide +kernel)
set_option maxRecDepth 100000 in
theorem Md_isReady_ok {a0 a1 : Int} {s : jM} {o : Int × jM} (H : Md_isReady a0 a1 s = some o) : MK sMd_isReady 2 [(15, a0), (0, a1)] s o := by
  refine MK.of kMd_isReady rfl ?_
  show AT sMd_isReady 2 (0, [(15, a0), (0, a1)], [], s) o
  unfold Md_isReady at H
  refine AT.blk (g := (0 ≤ (w32 (69 + a1)) ∧ (w32 (69 + a1)) < 1905)) [(0, .aload_n 0, 1, (0, 0, 0)), (1, .getfield 35, 3, (5207, 1120, 0)), (4, .bipush 69, 2, (0, 0, 0)), (6, .iload_n 1, 1, (0, 0, 0)), (7, .iadd, 1, (0, 0, 0)), (8, .iaload, 1, (0, 0, 0)), (9, .iconst 1, 1, (0, 0, 0))] (by decide +kernel) (show jrun _ (0, [(15, a0), (0, a1)], [], s) = some ([(0 ≤ (w32 (69 + a1)) ∧ (w32 (69 + a1)) < 1905)], (10, [(15, a0), (0, a1)], [(0, 1), (0, (s (a0 + 5) (w32 (69 + a1))))], s)) from rfl) (fun h => h) H (fun H => ?_)
  refine AT.ite (x := (0, 0, 0)) (by decide +kernel) (show jbr (.if_icmp .ne 24) (10, [(15, a0), (0, a1)], [(0, 1), (0, (s (a0 + 5) (w32 (69 + a1))))], s) = some ((w32 (s (a0 + 5) (w32 (69 + a1)))) = 1, (13, [(15, a0), (0, a1)], [], s), (34, [(15, a0), (0, a1)], [], s)) from rfl) H (fun H => ?_) (fun H => ?_)
  · refine AT.seq [(13, .aload_n 0, 1, (0, 0, 0)), (14, .iload_n 1, 1, (0, 0, 0))] (by decide +kernel) (show jrun _ (13, [(15, a0), (0, a1)], [], s) = some ([], (15, [(15, a0), (0, a1)], [(0, a1), (15, a0)], s)) from rfl) ?_
    obtain ⟨v1, s1, h1, H⟩ := jb_some H
    refine AT.callV (As := [(0, a1)]) (cl := 11) (b := a0) (st := []) (i := 341) (pos := 7150) kMd_partsIn (by decide +kernel) rfl (by decide +kernel) rfl rfl (by omega) (Md_partsIn_ok h1) ?_
    show AT sMd_isReady 2 (18, [(15, a0), (0, a1)], [(0, v1)], s1) o
    refine AT.blk (g := (0 ≤ (w32 (59 + a1)) ∧ (w32 (59 + a1)) < 1905)) [(18, .aload_n 0, 1, (0, 0, 0)), (19, .getfield 35, 3, (5207, 1120, 0)), (22, .bipush 59, 2, (0, 0, 0)), (24, .iload_n 1, 1, (0, 0, 0)), (25, .iadd, 1, (0, 0, 0)), (26, .iaload, 1, (0, 0, 0))] (by decide +kernel) (show jrun _ (18, [(15, a0), (0, a1)], [(0, v1)], s1) = some ([(0 ≤ (w32 (59 + a1)) ∧ (w32 (59 + a1)) < 1905)], (27, [(15, a0), (0, a1)], [(0, (s1 (a0 + 5) (w32 (59 + a1)))), (0, v1)], s1)) from rfl) (fun h => h) H (fun H => ?_)
    refine AT.ite (x := (0, 0, 0)) (by decide +kernel) (show jbr (.if_icmp .ne 7) (27, [(15, a0), (0, a1)], [(0, (s1 (a0 + 5) (w32 (59 + a1)))), (0, v1)], s1) = some ((w32 v1) = (w32 (s1 (a0 + 5) (w32 (59 + a1)))), (30, [(15, a0), (0, a1)], [], s1), (34, [(15, a0), (0, a1)], [], s1)) from rfl) H (fun H => ?_) (fun H => ?_)
    · refine AT.seq [(30, .iconst 1, 1, (0, 0, 0)), (31, .goto 4, 3, (0, 0, 0))] (by decide +kernel) (show jrun _ (30, [(15, a0), (0, a1)], [], s1) = some ([], (35, [(15, a0), (0, a1)], [(0, 1)], s1)) from rfl) ?_
      exact AT.retzC (by decide +kernel) (by decide) H
    · refine AT.seq [(34, .iconst 0, 1, (0, 0, 0))] (by decide +kernel) (show jrun _ (34, [(15, a0), (0, a1)], [], s1) = some ([], (35, [(15, a0), (0, a1)], [(0, 0)], s1)) from rfl) ?_
      exact AT.retzC (by decide +kernel) (by decide) H
  · refine AT.seq [(34, .iconst 0, 1, (0, 0, 0))] (by decide +kernel) (show jrun _ (34, [(15, a0), (0, a1)], [], s) = some ([], (35, [(15, a0), (0, a1)], [(0, 0)], s)) from rfl) ?_
    exact AT.retzC (by decide +kernel) (by decide) H
def sMd_knocks : jS := (⟨"JellyCathedralModel", "knocks", "(I)Z"⟩, prog_13_method_93_code, 2, 3, [15, 0], 0)
theorem kMd_knocks : jmk sMd_knocks = true := jmk_of 7196 1012 7195 100 (by decide +kernel)
set_option maxRecDepth 100000 in
theorem Md_knocks_ok {a0 a1 : Int} {s : jM} {o : Int × jM} (H : Md_knocks a0 a1 s = some o) : MK sMd_knocks 3 [(15, a0), (0, a1)] s o := by
  refine MK.of kMd_knocks rfl ?_
  show AT sMd_knocks 3 (0, [(15, a0), (0, a1)], [], s) o
  unfold Md_knocks at H
  refine AT.seq [(0, .aload_n 0, 1, (0, 0, 0)), (1, .iload_n 1, 1, (0, 0, 0))] (by decide +kernel) (show jrun _ (0, [(15, a0), (0, a1)], [], s) = some ([], (2, [(15, a0), (0, a1)], [(0, a1), (15, a0)], s)) from rfl) ?_
  obtain ⟨v1, s1, h1, H⟩ := jb_some H
  refine AT.callV (As := [(0, a1)]) (cl := 11) (b := a0) (st := []) (i := 363) (pos := 7197) kMd_isReady (by decide +kernel) rfl (by decide +kernel) rfl rfl (by omega) (Md_isReady_ok h1) ?_
  show AT sMd_knocks 3 (5, [(15, a0), (0, a1)], [(0, v1)], s1) o
  refine AT.ite (x := (0, 0, 0)) (by decide +kernel) (show jbr (.ifCond .ne 5) (5, [(15, a0), (0, a1)], [(0, v1)], s1) = some ((w32 v1) = 0, (8, [(15, a0), (0, a1)], [], s1), (10, [(15, a0), (0, a1)], [], s1)) from rfl) H (fun H => ?_) (fun H => ?_)
  · refine AT.seq [(8, .iconst 0, 1, (0, 0, 0))] (by decide +kernel) (show jrun _ (8, [(15, a0), (0, a1)], [], s1) = some ([], (9, [(15, a0), (0, a1)], [(0, 0)], s1)) from rfl) ?_
    exact AT.retzC (by decide +kernel) (by decide) H
  · refine AT.blk (g := (0 ≤ (w32 (69 + a1)) ∧ (w32 (69 + a1)) < 1905)) [(10, .aload_n 0, 1, (0, 0, 0)), (11, .getfield 35, 3, (5207, 1120, 0)), (14, .bipush 69, 2, (0, 0, 0)), (16, .iload_n 1, 1, (0, 0, 0)), (17, .iadd, 1, (0, 0, 0)), (18, .iconst 2, 1, (0, 0, 0)), (19, .iastore, 1, (0, 0, 0)), (20, .aload_n 0, 1, (0, 0, 0)), (21, .iload_n 1, 1, (0, 0, 0))] (by decide +kernel) (show jrun _ (10, [(15, a0), (0, a1)], [], s1) = some ([(0 ≤ (w32 (69 + a1)) ∧ (w32 (69 + a1)) < 1905)], (22, [(15, a0), (0, a1)], [(0, a1), (15, a0)], (jup s1 (a0 + 5) (w32 (69 + a1)) 2))) from rfl) (fun h => h) H (fun H => ?_)
    obtain ⟨v2, s2, h2, H⟩ := jb_some H
    refine AT.callV (As := [(0, a1)]) (cl := 11) (b := a0) (st := []) (i := 366) (pos := 7201) kMd_falls (by decide +kernel) rfl (by decide +kernel) rfl rfl (by omega) (Md_falls_ok h2) ?_
    show AT sMd_knocks 3 (25, [(15, a0), (0, a1)], [(0, v2)], s2) o
    refine AT.seq [(25, .pop, 1, (0, 0, 0)), (26, .iconst 1, 1, (0, 0, 0))] (by decide +kernel) (show jrun _ (25, [(15, a0), (0, a1)], [(0, v2)], s2) = some ([], (27, [(15, a0), (0, a1)], [(0, 1)], s2)) from rfl) ?_
    exact AT.retzC (by decide +kernel) (by decide) H
def sMd_knock : jS := (⟨"JellyCathedralModel", "knock", "(I)I"⟩, prog_13_method_94_code, 2, 1, [15, 0], 0)
theorem kMd_knock : jmk sMd_knock = true := jmk_of 7192 1012 7190 7191 (by decide +kernel)
set_option maxRecDepth 100000 in
theorem Md_knock_ok {a0 a1 : Int} {s : jM} {o : Int × jM} (H : Md_knock a0 a1 s = some o) : MK sMd_knock 4 [(15, a0), (0, a1)] s o := by
  refine MK.of kMd_knock rfl ?_
  show AT sMd_knock 4 (0, [(15, a0), (0, a1)], [], s) o
  unfold Md_knock at H
  refine AT.seq [(0, .aload_n 0, 1, (0, 0, 0)), (1, .iconst 0, 1, (0, 0, 0)), (2, .putfield 72, 3, (5188, 1101, 0)), (5, .aload_n 0, 1, (0, 0, 0)), (6, .iconst 0, 1, (0, 0, 0)), (7, .putfield 75, 3, (5187, 1100, 0)), (10, .aload_n 0, 1, (0, 0, 0)), (11, .iload_n 1, 1, (0, 0, 0))] (by decide +kernel) (show jrun _ (0, [(15, a0), (0, a1)], [], s) = some ([], (12, [(15, a0), (0, a1)], [(0, a1), (15, a0)], (jup (jup s a0 1 0) a0 0 0))) from rfl) ?_
  obtain ⟨v1, s1, h1, H⟩ := jb_some H
  refine AT.callV (As := [(0, a1)]) (cl := 11) (b := a0) (st := []) (i := 333) (pos := 7137) kMd_isMouldAt (by decide +kernel) rfl (by decide +kernel) rfl rfl (by omega) (Md_isMouldAt_ok h1) ?_
  show AT sMd_knock 4 (15, [(15, a0), (0, a1)], [(0, v1)], s1) o
  refine AT.ite (x := (0, 0, 0)) (by decide +kernel) (show jbr (.ifCond .ne 9) (15, [(15, a0), (0, a1)], [(0, v1)], s1) = some ((w32 v1) = 0, (18, [(15, a0), (0, a1)], [], s1), (24, [(15, a0), (0, a1)], [], s1)) from rfl) H (fun H => ?_) (fun H => ?_)
  · refine AT.seq [(18, .aload_n 0, 1, (0, 0, 0)), (19, .iconst 2, 1, (0, 0, 0))] (by decide +kernel) (show jrun _ (18, [(15, a0), (0, a1)], [], s1) = some ([], (20, [(15, a0), (0, a1)], [(0, 2), (15, a0)], s1)) from rfl) ?_
    obtain ⟨v2, s2, h2, H⟩ := jb_some H
    refine AT.callV (As := [(0, 2)]) (cl := 11) (b := a0) (st := []) (i := 322) (pos := 7116) kMd_refuse (by decide +kernel) rfl (by decide +kernel) rfl rfl (by omega) (Md_refuse_ok h2) ?_
    show AT sMd_knock 4 (23, [(15, a0), (0, a1)], [(0, v2)], s2) o
    exact AT.retiH (by decide +kernel) H
  · refine AT.seq [(24, .aload_n 0, 1, (0, 0, 0)), (25, .iload_n 1, 1, (0, 0, 0))] (by decide +kernel) (show jrun _ (24, [(15, a0), (0, a1)], [], s1) = some ([], (26, [(15, a0), (0, a1)], [(0, a1), (15, a0)], s1)) from rfl) ?_
    obtain ⟨v3, s3, h3, H⟩ := jb_some H
    refine AT.callV (As := [(0, a1)]) (cl := 11) (b := a0) (st := []) (i := 369) (pos := 7193) kMd_knocks (by decide +kernel) rfl (by decide +kernel) rfl rfl (by omega) (Md_knocks_ok h3) ?_
    show AT sMd_knock 4 (29, [(15, a0), (0, a1)], [(0, v3)], s3) o
    refine AT.ite (x := (0, 0, 0)) (by decide +kernel) (show jbr (.ifCond .ne 10) (29, [(15, a0), (0, a1)], [(0, v3)], s3) = some ((w32 v3) = 0, (32, [(15, a0), (0, a1)], [], s3), (39, [(15, a0), (0, a1)], [], s3)) from rfl) H (fun H => ?_) (fun H => ?_)
    · refine AT.seq [(32, .aload_n 0, 1, (0, 0, 0)), (33, .bipush 9, 2, (0, 0, 0))] (by decide +kernel) (show jrun _ (32, [(15, a0), (0, a1)], [], s3) = some ([], (35, [(15, a0), (0, a1)], [(0, 9), (15, a0)], s3)) from rfl) ?_
      obtain ⟨v4, s4, h4, H⟩ := jb_some H
      refine AT.callV (As := [(0, 9)]) (cl := 11) (b := a0) (st := []) (i := 322) (pos := 7116) kMd_refuse (by decide +kernel) rfl (by decide +kernel) rfl rfl (by omega) (Md_refuse_ok h4) ?_
      show AT sMd_knock 4 (38, [(15, a0), (0, a1)], [(0, v4)], s4) o
      exact AT.retiH (by decide +kernel) H
    · refine AT.blk (g := (0 ≤ (w32 (69 + a1)) ∧ (w32 (69 + a1)) < 1905)) [(39, .aload_n 0, 1, (0, 0, 0)), (40, .getfield 35, 3, (5207, 1120, 0)), (43, .bipush 69, 2, (0, 0, 0)), (45, .iload_n 1, 1, (0, 0, 0)), (46, .iadd, 1, (0, 0, 0)), (47, .iaload, 1, (0, 0, 0)), (48, .iconst 2, 1, (0, 0, 0))] (by decide +kernel) (show jrun _ (39, [(15, a0), (0, a1)], [], s3) = some ([(0 ≤ (w32 (69 + a1)) ∧ (w32 (69 + a1)) < 1905)], (49, [(15, a0), (0, a1)], [(0, 2), (0, (s3 (a0 + 5) (w32 (69 + a1))))], s3)) from rfl) (fun h => h) H (fun H => ?_)
      refine AT.ite (x := (0, 0, 0)) (by decide +kernel) (show jbr (.if_icmp .ne 7) (49, [(15, a0), (0, a1)], [(0, 2), (0, (s3 (a0 + 5) (w32 (69 + a1))))], s3) = some ((w32 (s3 (a0 + 5) (w32 (69 + a1)))) = 2, (52, [(15, a0), (0, a1)], [], s3), (56, [(15, a0), (0, a1)], [], s3)) from rfl) H (fun H => ?_) (fun H => ?_)
      · refine AT.seq [(52, .iconst 1, 1, (0, 0, 0)), (53, .goto 4, 3, (0, 0, 0))] (by decide +kernel) (show jrun _ (52, [(15, a0), (0, a1)], [], s3) = some ([], (57, [(15, a0), (0, a1)], [(0, 1)], s3)) from rfl) ?_
        exact AT.retiH (by decide +kernel) H
      · refine AT.seq [(56, .iconst 0, 1, (0, 0, 0))] (by decide +kernel) (show jrun _ (56, [(15, a0), (0, a1)], [], s3) = some ([], (57, [(15, a0), (0, a1)], [(0, 0)], s3)) from rfl) ?_
        exact AT.retiH (by decide +kernel) H
def sMd_touches : jS := (⟨"JellyCathedralModel", "touches", "(I)Z"⟩, prog_13_method_95_code, 2, 3, [15, 0], 0)
theorem kMd_touches : jmk sMd_touches = true := jmk_of 7212 1012 7211 103 (by decide +kernel)
set_option maxRecDepth 100000 in
theorem Md_touches_ok {a0 a1 : Int} {s : jM} {o : Int × jM} (H : Md_touches a0 a1 s = some o) : MK sMd_touches 2 [(15, a0), (0, a1)] s o := by
  refine MK.of kMd_touches rfl ?_
  show AT sMd_touches 2 (0, [(15, a0), (0, a1)], [], s) o
  unfold Md_touches at H
  refine AT.blk (g := (0 ≤ (w32 (69 + a1)) ∧ (w32 (69 + a1)) < 1905)) [(0, .aload_n 0, 1, (0, 0, 0)), (1, .getfield 35, 3, (5207, 1120, 0)), (4, .bipush 69, 2, (0, 0, 0)), (6, .iload_n 1, 1, (0, 0, 0)), (7, .iadd, 1, (0, 0, 0)), (8, .iaload, 1, (0, 0, 0)), (9, .iconst 2, 1, (0, 0, 0))] (by decide +kernel) (show jrun _ (0, [(15, a0), (0, a1)], [], s) = some ([(0 ≤ (w32 (69 + a1)) ∧ (w32 (69 + a1)) < 1905)], (10, [(15, a0), (0, a1)], [(0, 2), (0, (s (a0 + 5) (w32 (69 + a1))))], s)) from rfl) (fun h => h) H (fun H => ?_)
  refine AT.ite (x := (0, 0, 0)) (by decide +kernel) (show jbr (.if_icmp .eq 5) (10, [(15, a0), (0, a1)], [(0, 2), (0, (s (a0 + 5) (w32 (69 + a1))))], s) = some ((w32 (s (a0 + 5) (w32 (69 + a1)))) = 2, (15, [(15, a0), (0, a1)], [], s), (13, [(15, a0), (0, a1)], [], s)) from rfl) H (fun H => ?_) (fun H => ?_)
  · refine AT.blk (g := (0 ≤ (w32 (74 + a1)) ∧ (w32 (74 + a1)) < 1905) ∧ (0 ≤ (w32 (54 + a1)) ∧ (w32 (54 + a1)) < 1905)) [(15, .aload_n 0, 1, (0, 0, 0)), (16, .getfield 35, 3, (5207, 1120, 0)), (19, .bipush 74, 2, (0, 0, 0)), (21, .iload_n 1, 1, (0, 0, 0)), (22, .iadd, 1, (0, 0, 0)), (23, .dup2, 1, (0, 0, 0)), (24, .iaload, 1, (0, 0, 0)), (25, .aload_n 0, 1, (0, 0, 0)), (26, .getfield 35, 3, (5207, 1120, 0)), (29, .bipush 54, 2, (0, 0, 0)), (31, .iload_n 1, 1, (0, 0, 0)), (32, .iadd, 1, (0, 0, 0)), (33, .iaload, 1, (0, 0, 0)), (34, .bipush 9, 2, (0, 0, 0))] (by decide +kernel) (show jrun _ (15, [(15, a0), (0, a1)], [], s) = some ([(0 ≤ (w32 (74 + a1)) ∧ (w32 (74 + a1)) < 1905), (0 ≤ (w32 (54 + a1)) ∧ (w32 (54 + a1)) < 1905)], (36, [(15, a0), (0, a1)], [(0, 9), (0, (s (a0 + 5) (w32 (54 + a1)))), (0, (s (a0 + 5) (w32 (74 + a1)))), (0, (74 + a1)), (40, (a0 + 5))], s)) from rfl) (fun h => ⟨h.1, h.2⟩) H (fun H => ?_)
    refine AT.ite (x := (0, 0, 0)) (by decide +kernel) (show jbr (.if_icmp .le 7) (36, [(15, a0), (0, a1)], [(0, 9), (0, (s (a0 + 5) (w32 (54 + a1)))), (0, (s (a0 + 5) (w32 (74 + a1)))), (0, (74 + a1)), (40, (a0 + 5))], s) = some (9 < (w32 (s (a0 + 5) (w32 (54 + a1)))), (39, [(15, a0), (0, a1)], [(0, (s (a0 + 5) (w32 (74 + a1)))), (0, (74 + a1)), (40, (a0 + 5))], s), (43, [(15, a0), (0, a1)], [(0, (s (a0 + 5) (w32 (74 + a1)))), (0, (74 + a1)), (40, (a0 + 5))], s)) from rfl) H (fun H => ?_) (fun H => ?_)
    · refine AT.blk (g := (0 ≤ (w32 (74 + a1)) ∧ (w32 (74 + a1)) < 1905)) [(39, .iconst 2, 1, (0, 0, 0)), (40, .goto 4, 3, (0, 0, 0)), (44, .isub, 1, (0, 0, 0)), (45, .iastore, 1, (0, 0, 0)), (46, .aload_n 0, 1, (0, 0, 0)), (47, .iload_n 1, 1, (0, 0, 0))] (by decide +kernel) (show jrun _ (39, [(15, a0), (0, a1)], [(0, (s (a0 + 5) (w32 (74 + a1)))), (0, (74 + a1)), (40, (a0 + 5))], s) = some ([(0 ≤ (w32 (74 + a1)) ∧ (w32 (74 + a1)) < 1905)], (48, [(15, a0), (0, a1)], [(0, a1), (15, a0)], (jup s (a0 + 5) (w32 (74 + a1)) ((s (a0 + 5) (w32 (74 + a1))) - 2)))) from rfl) (fun h => h) H (fun H => ?_)
      obtain ⟨v1, s1, h1, H⟩ := jb_some H
      refine AT.callV (As := [(0, a1)]) (cl := 11) (b := a0) (st := []) (i := 366) (pos := 7201) kMd_falls (by decide +kernel) rfl (by decide +kernel) rfl rfl (by omega) (Md_falls_ok h1) ?_
      show AT sMd_touches 2 (51, [(15, a0), (0, a1)], [(0, v1)], s1) o
      refine AT.seq [(51, .pop, 1, (0, 0, 0)), (52, .iconst 1, 1, (0, 0, 0))] (by decide +kernel) (show jrun _ (51, [(15, a0), (0, a1)], [(0, v1)], s1) = some ([], (53, [(15, a0), (0, a1)], [(0, 1)], s1)) from rfl) ?_
      exact AT.retzC (by decide +kernel) (by decide) H
    · refine AT.blk (g := (0 ≤ (w32 (74 + a1)) ∧ (w32 (74 + a1)) < 1905)) [(43, .iconst 1, 1, (0, 0, 0)), (44, .isub, 1, (0, 0, 0)), (45, .iastore, 1, (0, 0, 0)), (46, .aload_n 0, 1, (0, 0, 0)), (47, .iload_n 1, 1, (0, 0, 0))] (by decide +kernel) (show jrun _ (43, [(15, a0), (0, a1)], [(0, (s (a0 + 5) (w32 (74 + a1)))), (0, (74 + a1)), (40, (a0 + 5))], s) = some ([(0 ≤ (w32 (74 + a1)) ∧ (w32 (74 + a1)) < 1905)], (48, [(15, a0), (0, a1)], [(0, a1), (15, a0)], (jup s (a0 + 5) (w32 (74 + a1)) ((s (a0 + 5) (w32 (74 + a1))) - 1)))) from rfl) (fun h => h) H (fun H => ?_)
      obtain ⟨v2, s2, h2, H⟩ := jb_some H
      refine AT.callV (As := [(0, a1)]) (cl := 11) (b := a0) (st := []) (i := 366) (pos := 7201) kMd_falls (by decide +kernel) rfl (by decide +kernel) rfl rfl (by omega) (Md_falls_ok h2) ?_
      show AT sMd_touches 2 (51, [(15, a0), (0, a1)], [(0, v2)], s2) o
      refine AT.seq [(51, .pop, 1, (0, 0, 0)), (52, .iconst 1, 1, (0, 0, 0))] (by decide +kernel) (show jrun _ (51, [(15, a0), (0, a1)], [(0, v2)], s2) = some ([], (53, [(15, a0), (0, a1)], [(0, 1)], s2)) from rfl) ?_
      exact AT.retzC (by decide +kernel) (by decide) H
  · refine AT.seq [(13, .iconst 0, 1, (0, 0, 0))] (by decide +kernel) (show jrun _ (13, [(15, a0), (0, a1)], [], s) = some ([], (14, [(15, a0), (0, a1)], [(0, 0)], s)) from rfl) ?_
    exact AT.retzC (by decide +kernel) (by decide) H
def sMd_touch : jS := (⟨"JellyCathedralModel", "touch", "(I)I"⟩, prog_13_method_96_code, 2, 1, [15, 0], 0)
theorem kMd_touch : jmk sMd_touch = true := jmk_of 7208 1012 7206 7207 (by decide +kernel)
set_option maxRecDepth 100000 in
theorem Md_touch_ok {a0 a1 : Int} {s : jM} {o : Int × jM} (H : Md_touch a0 a1 s = some o) : MK sMd_touch 3 [(15, a0), (0, a1)] s o := by
  refine MK.of kMd_touch rfl ?_
  show AT sMd_touch 3 (0, [(15, a0), (0, a1)], [], s) o
  unfold Md_touch at H
  refine AT.seq [(0, .aload_n 0, 1, (0, 0, 0)), (1, .iconst 0, 1, (0, 0, 0)), (2, .putfield 72, 3, (5188, 1101, 0)), (5, .aload_n 0, 1, (0, 0, 0)), (6, .iconst 0, 1, (0, 0, 0)), (7, .putfield 75, 3, (5187, 1100, 0)), (10, .aload_n 0, 1, (0, 0, 0)), (11, .iload_n 1, 1, (0, 0, 0))] (by decide +kernel) (show jrun _ (0, [(15, a0), (0, a1)], [], s) = some ([], (12, [(15, a0), (0, a1)], [(0, a1), (15, a0)], (jup (jup s a0 1 0) a0 0 0))) from rfl) ?_
  obtain ⟨v1, s1, h1, H⟩ := jb_some H
  refine AT.callV (As := [(0, a1)]) (cl := 11) (b := a0) (st := []) (i := 333) (pos := 7137) kMd_isMouldAt (by decide +kernel) rfl (by decide +kernel) rfl rfl (by omega) (Md_isMouldAt_ok h1) ?_
  show AT sMd_touch 3 (15, [(15, a0), (0, a1)], [(0, v1)], s1) o
  refine AT.ite (x := (0, 0, 0)) (by decide +kernel) (show jbr (.ifCond .ne 9) (15, [(15, a0), (0, a1)], [(0, v1)], s1) = some ((w32 v1) = 0, (18, [(15, a0), (0, a1)], [], s1), (24, [(15, a0), (0, a1)], [], s1)) from rfl) H (fun H => ?_) (fun H => ?_)
  · refine AT.seq [(18, .aload_n 0, 1, (0, 0, 0)), (19, .iconst 2, 1, (0, 0, 0))] (by decide +kernel) (show jrun _ (18, [(15, a0), (0, a1)], [], s1) = some ([], (20, [(15, a0), (0, a1)], [(0, 2), (15, a0)], s1)) from rfl) ?_
    obtain ⟨v2, s2, h2, H⟩ := jb_some H
    refine AT.callV (As := [(0, 2)]) (cl := 11) (b := a0) (st := []) (i := 322) (pos := 7116) kMd_refuse (by decide +kernel) rfl (by decide +kernel) rfl rfl (by omega) (Md_refuse_ok h2) ?_
    show AT sMd_touch 3 (23, [(15, a0), (0, a1)], [(0, v2)], s2) o
    exact AT.retiH (by decide +kernel) H
  · refine AT.seq [(24, .aload_n 0, 1, (0, 0, 0)), (25, .iload_n 1, 1, (0, 0, 0))] (by decide +kernel) (show jrun _ (24, [(15, a0), (0, a1)], [], s1) = some ([], (26, [(15, a0), (0, a1)], [(0, a1), (15, a0)], s1)) from rfl) ?_
    obtain ⟨v3, s3, h3, H⟩ := jb_some H
    refine AT.callV (As := [(0, a1)]) (cl := 11) (b := a0) (st := []) (i := 372) (pos := 7209) kMd_touches (by decide +kernel) rfl (by decide +kernel) rfl rfl (by omega) (Md_touches_ok h3) ?_
    show AT sMd_touch 3 (29, [(15, a0), (0, a1)], [(0, v3)], s3) o
    refine AT.ite (x := (0, 0, 0)) (by decide +kernel) (show jbr (.ifCond .eq 15) (29, [(15, a0), (0, a1)], [(0, v3)], s3) = some ((w32 v3) = 0, (44, [(15, a0), (0, a1)], [], s3), (32, [(15, a0), (0, a1)], [], s3)) from rfl) H (fun H => ?_) (fun H => ?_)
    · refine AT.seq [(44, .aload_n 0, 1, (0, 0, 0)), (45, .bipush 9, 2, (0, 0, 0))] (by decide +kernel) (show jrun _ (44, [(15, a0), (0, a1)], [], s3) = some ([], (47, [(15, a0), (0, a1)], [(0, 9), (15, a0)], s3)) from rfl) ?_
      obtain ⟨v4, s4, h4, H⟩ := jb_some H
      refine AT.callV (As := [(0, 9)]) (cl := 11) (b := a0) (st := []) (i := 322) (pos := 7116) kMd_refuse (by decide +kernel) rfl (by decide +kernel) rfl rfl (by omega) (Md_refuse_ok h4) ?_
      show AT sMd_touch 3 (50, [(15, a0), (0, a1)], [(0, v4)], s4) o
      exact AT.retiH (by decide +kernel) H
    · refine AT.blk (g := (0 ≤ (w32 (74 + a1)) ∧ (w32 (74 + a1)) < 1905)) [(32, .aload_n 0, 1, (0, 0, 0)), (33, .getfield 35, 3, (5207, 1120, 0)), (36, .bipush 74, 2, (0, 0, 0)), (38, .iload_n 1, 1, (0, 0, 0)), (39, .iadd, 1, (0, 0, 0)), (40, .iaload, 1, (0, 0, 0)), (41, .goto 9, 3, (0, 0, 0))] (by decide +kernel) (show jrun _ (32, [(15, a0), (0, a1)], [], s3) = some ([(0 ≤ (w32 (74 + a1)) ∧ (w32 (74 + a1)) < 1905)], (50, [(15, a0), (0, a1)], [(0, (s3 (a0 + 5) (w32 (74 + a1))))], s3)) from rfl) (fun h => h) H (fun H => ?_)
      exact AT.retiH (by decide +kernel) H
def sMd_laysFar : jS := (⟨"JellyCathedralModel", "laysFar", "()V"⟩, prog_13_method_97_code, 4, 0, [15], 0)
theorem kMd_laysFar : jmk sMd_laysFar = true := jmk_of 7228 1012 7227 106 (by decide +kernel)
set_option maxRecDepth 100000 in
theorem Md_laysFar_162_ok {o : Int × jM} {k154 : Int → Int → Int → jM → Option (Int × jM)} (hk154 : ∀ (x0 x1 x2 : Int) (s : jM), k154 x0 x1 x2 s = some o → AT sMd_laysFar 0 (154, [(15, x0), (0, x1), (0, x2), (99, 0)], [], s) o) : ∀ (n : Nat) (x0 x1 x2 x3 : Int) (s : jM), Md_laysFar_162 k154 n x0 x1 x2 x3 s = some o → AT sMd_laysFar 0 (162, [(15, x0), (0, x1), (0, x2), (0, x3)], [], s) o := by
  intro n
  induction n with
  | zero =>
    intro x0 x1 x2 x3 s H
    have H : (none : Option (Int × jM)) = some o := H
    cases H
  | succ n ih =>
    intro x0 x1 x2 x3 s H
    rw [Md_laysFar_162] at H
    refine AT.seq [(162, .iload_n 3, 1, (0, 0, 0)), (163, .bipush 6, 2, (0, 0, 0))] (by decide +kernel) (show jrun _ (162, [(15, x0), (0, x1), (0, x2), (0, x3)], [], s) = some ([], (165, [(15, x0), (0, x1), (0, x2), (0, x3)], [(0, 6), (0, x3)], s)) from rfl) ?_
    refine AT.ite (x := (0, 0, 0)) (by decide +kernel) (show jbr (.if_icmp .ge 57) (165, [(15, x0), (0, x1), (0, x2), (0, x3)], [(0, 6), (0, x3)], s) = some ((w32 x3) < 6, (168, [(15, x0), (0, x1), (0, x2), (0, x3)], [], s), (222, [(15, x0), (0, x1), (0, x2), (0, x3)], [], s)) from rfl) H (fun H => ?_) (fun H => ?_)
    · refine AT.blk (g := (0 ≤ (w32 ((6 * x2) + x3)) ∧ (w32 ((6 * x2) + x3)) < 36) ∧ (0 ≤ (w32 ((6 * x2) + x1)) ∧ (w32 ((6 * x2) + x1)) < 36) ∧ (0 ≤ (w32 ((6 * x1) + x3)) ∧ (w32 ((6 * x1) + x3)) < 36) ∧ (0 ≤ (w32 ((6 * x2) + x3)) ∧ (w32 ((6 * x2) + x3)) < 36)) [(168, .aload_n 0, 1, (0, 0, 0)), (169, .getfield 47, 3, (5214, 1127, 0)), (172, .bipush 6, 2, (0, 0, 0)), (174, .iload_n 2, 1, (0, 0, 0)), (175, .imul, 1, (0, 0, 0)), (176, .iload_n 3, 1, (0, 0, 0)), (177, .iadd, 1, (0, 0, 0)), (178, .aload_n 0, 1, (0, 0, 0)), (179, .getfield 47, 3, (5214, 1127, 0)), (182, .bipush 6, 2, (0, 0, 0)), (184, .iload_n 2, 1, (0, 0, 0)), (185, .imul, 1, (0, 0, 0)), (186, .iload_n 3, 1, (0, 0, 0)), (187, .iadd, 1, (0, 0, 0)), (188, .iaload, 1, (0, 0, 0)), (189, .aload_n 0, 1, (0, 0, 0)), (190, .getfield 47, 3, (5214, 1127, 0)), (193, .bipush 6, 2, (0, 0, 0)), (195, .iload_n 2, 1, (0, 0, 0)), (196, .imul, 1, (0, 0, 0)), (197, .iload_n 1, 1, (0, 0, 0)), (198, .iadd, 1, (0, 0, 0)), (199, .iaload, 1, (0, 0, 0)), (200, .aload_n 0, 1, (0, 0, 0)), (201, .getfield 47, 3, (5214, 1127, 0)), (204, .bipush 6, 2, (0, 0, 0)), (206, .iload_n 1, 1, (0, 0, 0)), (207, .imul, 1, (0, 0, 0)), (208, .iload_n 3, 1, (0, 0, 0)), (209, .iadd, 1, (0, 0, 0)), (210, .iaload, 1, (0, 0, 0)), (211, .iadd, 1, (0, 0, 0)), (212, .invokestatic 375, 3, (7229, 2, 0)), (215, .iastore, 1, (0, 0, 0)), (216, .iinc 3 1, 3, (0, 0, 0)), (219, .goto (-57), 3, (0, 0, 0))] (by decide +kernel) (show jrun _ (168, [(15, x0), (0, x1), (0, x2), (0, x3)], [], s) = some ([(0 ≤ (w32 ((6 * x2) + x3)) ∧ (w32 ((6 * x2) + x3)) < 36), (0 ≤ (w32 ((6 * x2) + x1)) ∧ (w32 ((6 * x2) + x1)) < 36), (0 ≤ (w32 ((6 * x1) + x3)) ∧ (w32 ((6 * x1) + x3)) < 36), (0 ≤ (w32 ((6 * x2) + x3)) ∧ (w32 ((6 * x2) + x3)) < 36)], (162, [(15, x0), (0, x1), (0, x2), (0, (x3 + 1))], [], (jup s (x0 + 9) (w32 ((6 * x2) + x3)) (jmin (s (x0 + 9) (w32 ((6 * x2) + x3))) ((s (x0 + 9) (w32 ((6 * x2) + x1))) + (s (x0 + 9) (w32 ((6 * x1) + x3)))))))) from rfl) (fun h => ⟨h.1, h.2.1, h.2.2.1, h.2.2.2⟩) H (fun H => ?_)
      exact ih _ _ _ _ _ H
    · refine AT.seq [(222, .iinc 2 1, 3, (0, 0, 0)), (225, .goto (-71), 3, (0, 0, 0))] (by decide +kernel) (show jrun _ (222, [(15, x0), (0, x1), (0, x2), (0, x3)], [], s) = some ([], (154, [(15, x0), (0, x1), (0, (x2 + 1)), (0, x3)], [], s)) from rfl) ?_
      exact AT.weak (L' := [(15, x0), (0, x1), (0, (x2 + 1)), (99, 0)]) (jleK (jleK (jleK (jleJ jle0)))) (hk154 _ _ _ _ H)
set_option maxRecDepth 100000 in
theorem Md_laysFar_154_ok {o : Int × jM} {k146 : Int → Int → jM → Option (Int × jM)} (hk146 : ∀ (x0 x1 : Int) (s : jM), k146 x0 x1 s = some o → AT sMd_laysFar 0 (146, [(15, x0), (0, x1), (99, 0), (99, 0)], [], s) o) : ∀ (n : Nat) (x0 x1 x2 : Int) (s : jM), Md_laysFar_154 k146 n x0 x1 x2 s = some o → AT sMd_laysFar 0 (154, [(15, x0), (0, x1), (0, x2), (99, 0)], [], s) o := by
  intro n
  induction n with
  | zero =>
    intro x0 x1 x2 s H
    have H : (none : Option (Int × jM)) = some o := H
    cases H
  | succ n ih =>
    intro x0 x1 x2 s H
    rw [Md_laysFar_154] at H
    refine AT.seq [(154, .iload_n 2, 1, (0, 0, 0)), (155, .bipush 6, 2, (0, 0, 0))] (by decide +kernel) (show jrun _ (154, [(15, x0), (0, x1), (0, x2), (99, 0)], [], s) = some ([], (157, [(15, x0), (0, x1), (0, x2), (99, 0)], [(0, 6), (0, x2)], s)) from rfl) ?_
    refine AT.ite (x := (0, 0, 0)) (by decide +kernel) (show jbr (.if_icmp .ge 71) (157, [(15, x0), (0, x1), (0, x2), (99, 0)], [(0, 6), (0, x2)], s) = some ((w32 x2) < 6, (160, [(15, x0), (0, x1), (0, x2), (99, 0)], [], s), (228, [(15, x0), (0, x1), (0, x2), (99, 0)], [], s)) from rfl) H (fun H => ?_) (fun H => ?_)
    · refine AT.seq [(160, .iconst 0, 1, (0, 0, 0)), (161, .istore_n 3, 1, (0, 0, 0))] (by decide +kernel) (show jrun _ (160, [(15, x0), (0, x1), (0, x2), (99, 0)], [], s) = some ([], (162, [(15, x0), (0, x1), (0, x2), (0, 0)], [], s)) from rfl) ?_
      exact Md_laysFar_162_ok ih jFU _ _ _ _ _ H
    · refine AT.seq [(228, .iinc 1 1, 3, (0, 0, 0)), (231, .goto (-85), 3, (0, 0, 0))] (by decide +kernel) (show jrun _ (228, [(15, x0), (0, x1), (0, x2), (99, 0)], [], s) = some ([], (146, [(15, x0), (0, (x1 + 1)), (0, x2), (99, 0)], [], s)) from rfl) ?_
      exact AT.weak (L' := [(15, x0), (0, (x1 + 1)), (99, 0), (99, 0)]) (jleK (jleK (jleJ (jleK jle0)))) (hk146 _ _ _ H)
set_option maxRecDepth 100000 in
theorem Md_laysFar_146_ok {o : Int × jM} : ∀ (n : Nat) (x0 x1 : Int) (s : jM), Md_laysFar_146  n x0 x1 s = some o → AT sMd_laysFar 0 (146, [(15, x0), (0, x1), (99, 0), (99, 0)], [], s) o := by
  intro n
  induction n with
  | zero =>
    intro x0 x1 s H
    have H : (none : Option (Int × jM)) = some o := H
    cases H
  | succ n ih =>
    intro x0 x1 s H
    rw [Md_laysFar_146] at H
    refine AT.seq [(146, .iload_n 1, 1, (0, 0, 0)), (147, .bipush 6, 2, (0, 0, 0))] (by decide +kernel) (show jrun _ (146, [(15, x0), (0, x1), (99, 0), (99, 0)], [], s) = some ([], (149, [(15, x0), (0, x1), (99, 0), (99, 0)], [(0, 6), (0, x1)], s)) from rfl) ?_
    refine AT.ite (x := (0, 0, 0)) (by decide +kernel) (show jbr (.if_icmp .ge 85) (149, [(15, x0), (0, x1), (99, 0), (99, 0)], [(0, 6), (0, x1)], s) = some ((w32 x1) < 6, (152, [(15, x0), (0, x1), (99, 0), (99, 0)], [], s), (234, [(15, x0), (0, x1), (99, 0), (99, 0)], [], s)) from rfl) H (fun H => ?_) (fun H => ?_)
    · refine AT.seq [(152, .iconst 0, 1, (0, 0, 0)), (153, .istore_n 2, 1, (0, 0, 0))] (by decide +kernel) (show jrun _ (152, [(15, x0), (0, x1), (99, 0), (99, 0)], [], s) = some ([], (154, [(15, x0), (0, x1), (0, 0), (99, 0)], [], s)) from rfl) ?_
      exact Md_laysFar_154_ok ih jFU _ _ _ _ H
    · exact AT.retvH (by decide +kernel) H
set_option maxRecDepth 100000 in
theorem Md_laysFar_40_ok {o : Int × jM} : ∀ (n : Nat) (x0 x1 : Int) (s : jM), Md_laysFar_40  n x0 x1 s = some o → AT sMd_laysFar 0 (40, [(15, x0), (0, x1), (99, 0), (99, 0)], [], s) o := by
  intro n
  induction n with
  | zero =>
    intro x0 x1 s H
    have H : (none : Option (Int × jM)) = some o := H
    cases H
  | succ n ih =>
    intro x0 x1 s H
    rw [Md_laysFar_40] at H
    refine AT.row [(40, .iload_n 1, 1, (0, 0, 0)), (41, .aload_n 0, 1, (0, 0, 0)), (42, .getfield 35, 3, (5207, 1120, 0)), (45, .bipush 8, 2, (0, 0, 0)), (47, .iaload, 1, (0, 0, 0))] (by decide +kernel) (show jrun _ (40, [(15, x0), (0, x1), (99, 0), (99, 0)], [], s) = some ([(0 ≤ (8 : Int) ∧ (8 : Int) < 1905)], (48, [(15, x0), (0, x1), (99, 0), (99, 0)], [(0, (s (x0 + 5) 8)), (0, x1)], s)) from rfl) (show (0 ≤ (8 : Int) ∧ (8 : Int) < 1905) from by decide) ?_
    refine AT.ite (x := (0, 0, 0)) (by decide +kernel) (show jbr (.if_icmp .ge 96) (48, [(15, x0), (0, x1), (99, 0), (99, 0)], [(0, (s (x0 + 5) 8)), (0, x1)], s) = some ((w32 x1) < (w32 (s (x0 + 5) 8)), (51, [(15, x0), (0, x1), (99, 0), (99, 0)], [], s), (144, [(15, x0), (0, x1), (99, 0), (99, 0)], [], s)) from rfl) H (fun H => ?_) (fun H => ?_)
    · refine AT.blk (g := (0 ≤ (w32 (24 + x1)) ∧ (w32 (24 + x1)) < 1905) ∧ (0 ≤ (w32 (34 + x1)) ∧ (w32 (34 + x1)) < 1905) ∧ (0 ≤ (w32 (34 + x1)) ∧ (w32 (34 + x1)) < 1905) ∧ (0 ≤ (w32 (24 + x1)) ∧ (w32 (24 + x1)) < 1905) ∧ (0 ≤ (w32 ((6 * (s (x0 + 5) (w32 (24 + x1)))) + (s (x0 + 5) (w32 (34 + x1))))) ∧ (w32 ((6 * (s (x0 + 5) (w32 (24 + x1)))) + (s (x0 + 5) (w32 (34 + x1))))) < 36) ∧ (0 ≤ (w32 (44 + x1)) ∧ (w32 (44 + x1)) < 1905) ∧ (0 ≤ (w32 ((6 * (s (x0 + 5) (w32 (24 + x1)))) + (s (x0 + 5) (w32 (34 + x1))))) ∧ (w32 ((6 * (s (x0 + 5) (w32 (24 + x1)))) + (s (x0 + 5) (w32 (34 + x1))))) < 36)) [(51, .bipush 6, 2, (0, 0, 0)), (53, .aload_n 0, 1, (0, 0, 0)), (54, .getfield 35, 3, (5207, 1120, 0)), (57, .bipush 24, 2, (0, 0, 0)), (59, .iload_n 1, 1, (0, 0, 0)), (60, .iadd, 1, (0, 0, 0)), (61, .iaload, 1, (0, 0, 0)), (62, .imul, 1, (0, 0, 0)), (63, .aload_n 0, 1, (0, 0, 0)), (64, .getfield 35, 3, (5207, 1120, 0)), (67, .bipush 34, 2, (0, 0, 0)), (69, .iload_n 1, 1, (0, 0, 0)), (70, .iadd, 1, (0, 0, 0)), (71, .iaload, 1, (0, 0, 0)), (72, .iadd, 1, (0, 0, 0)), (73, .istore_n 2, 1, (0, 0, 0)), (74, .bipush 6, 2, (0, 0, 0)), (76, .aload_n 0, 1, (0, 0, 0)), (77, .getfield 35, 3, (5207, 1120, 0)), (80, .bipush 34, 2, (0, 0, 0)), (82, .iload_n 1, 1, (0, 0, 0)), (83, .iadd, 1, (0, 0, 0)), (84, .iaload, 1, (0, 0, 0)), (85, .imul, 1, (0, 0, 0)), (86, .aload_n 0, 1, (0, 0, 0)), (87, .getfield 35, 3, (5207, 1120, 0)), (90, .bipush 24, 2, (0, 0, 0)), (92, .iload_n 1, 1, (0, 0, 0)), (93, .iadd, 1, (0, 0, 0)), (94, .iaload, 1, (0, 0, 0)), (95, .iadd, 1, (0, 0, 0)), (96, .istore_n 3, 1, (0, 0, 0)), (97, .aload_n 0, 1, (0, 0, 0)), (98, .getfield 47, 3, (5214, 1127, 0)), (101, .iload_n 2, 1, (0, 0, 0)), (102, .aload_n 0, 1, (0, 0, 0)), (103, .getfield 47, 3, (5214, 1127, 0)), (106, .iload_n 2, 1, (0, 0, 0)), (107, .iaload, 1, (0, 0, 0)), (108, .bipush 16, 2, (0, 0, 0)), (110, .aload_n 0, 1, (0, 0, 0)), (111, .getfield 35, 3, (5207, 1120, 0)), (114, .bipush 44, 2, (0, 0, 0)), (116, .iload_n 1, 1, (0, 0, 0)), (117, .iadd, 1, (0, 0, 0)), (118, .iaload, 1, (0, 0, 0)), (119, .imul, 1, (0, 0, 0)), (120, .iconst 1, 1, (0, 0, 0)), (121, .iadd, 1, (0, 0, 0)), (122, .invokestatic 375, 3, (7229, 2, 0)), (125, .iastore, 1, (0, 0, 0)), (126, .aload_n 0, 1, (0, 0, 0)), (127, .getfield 47, 3, (5214, 1127, 0)), (130, .iload_n 3, 1, (0, 0, 0)), (131, .aload_n 0, 1, (0, 0, 0)), (132, .getfield 47, 3, (5214, 1127, 0)), (135, .iload_n 2, 1, (0, 0, 0))] (by decide +kernel) (show jrun _ (51, [(15, x0), (0, x1), (99, 0), (99, 0)], [], s) = some ([(0 ≤ (w32 (24 + x1)) ∧ (w32 (24 + x1)) < 1905), (0 ≤ (w32 (34 + x1)) ∧ (w32 (34 + x1)) < 1905), (0 ≤ (w32 (34 + x1)) ∧ (w32 (34 + x1)) < 1905), (0 ≤ (w32 (24 + x1)) ∧ (w32 (24 + x1)) < 1905), (0 ≤ (w32 ((6 * (s (x0 + 5) (w32 (24 + x1)))) + (s (x0 + 5) (w32 (34 + x1))))) ∧ (w32 ((6 * (s (x0 + 5) (w32 (24 + x1)))) + (s (x0 + 5) (w32 (34 + x1))))) < 36), (0 ≤ (w32 (44 + x1)) ∧ (w32 (44 + x1)) < 1905), (0 ≤ (w32 ((6 * (s (x0 + 5) (w32 (24 + x1)))) + (s (x0 + 5) (w32 (34 + x1))))) ∧ (w32 ((6 * (s (x0 + 5) (w32 (24 + x1)))) + (s (x0 + 5) (w32 (34 + x1))))) < 36)], (136, [(15, x0), (0, x1), (0, ((6 * (s (x0 + 5) (w32 (24 + x1)))) + (s (x0 + 5) (w32 (34 + x1))))), (0, ((6 * (s (x0 + 5) (w32 (34 + x1)))) + (s (x0 + 5) (w32 (24 + x1)))))], [(0, ((6 * (s (x0 + 5) (w32 (24 + x1)))) + (s (x0 + 5) (w32 (34 + x1))))), (29, (x0 + 9)), (0, ((6 * (s (x0 + 5) (w32 (34 + x1)))) + (s (x0 + 5) (w32 (24 + x1))))), (29, (x0 + 9))], (jup s (x0 + 9) (w32 ((6 * (s (x0 + 5) (w32 (24 + x1)))) + (s (x0 + 5) (w32 (34 + x1))))) (jmin (s (x0 + 9) (w32 ((6 * (s (x0 + 5) (w32 (24 + x1)))) + (s (x0 + 5) (w32 (34 + x1)))))) ((16 * (s (x0 + 5) (w32 (44 + x1)))) + 1))))) from rfl) (fun h => ⟨h.1, h.2.1, h.2.2.1, h.2.2.2.1, h.2.2.2.2.1, h.2.2.2.2.2.1, h.2.2.2.2.2.2⟩) H (fun H => ?_)
      obtain ⟨s1, e1, H⟩ := jm_some H
      rw [← e1]
      refine AT.blk (g := (0 ≤ (w32 ((6 * (s (x0 + 5) (w32 (24 + x1)))) + (s (x0 + 5) (w32 (34 + x1))))) ∧ (w32 ((6 * (s (x0 + 5) (w32 (24 + x1)))) + (s (x0 + 5) (w32 (34 + x1))))) < 36) ∧ (0 ≤ (w32 ((6 * (s (x0 + 5) (w32 (34 + x1)))) + (s (x0 + 5) (w32 (24 + x1))))) ∧ (w32 ((6 * (s (x0 + 5) (w32 (34 + x1)))) + (s (x0 + 5) (w32 (24 + x1))))) < 36)) [(136, .iaload, 1, (0, 0, 0)), (137, .iastore, 1, (0, 0, 0)), (138, .iinc 1 1, 3, (0, 0, 0)), (141, .goto (-101), 3, (0, 0, 0))] (by decide +kernel) (show jrun _ (136, [(15, x0), (0, x1), (0, ((6 * (s (x0 + 5) (w32 (24 + x1)))) + (s (x0 + 5) (w32 (34 + x1))))), (0, ((6 * (s (x0 + 5) (w32 (34 + x1)))) + (s (x0 + 5) (w32 (24 + x1)))))], [(0, ((6 * (s (x0 + 5) (w32 (24 + x1)))) + (s (x0 + 5) (w32 (34 + x1))))), (29, (x0 + 9)), (0, ((6 * (s (x0 + 5) (w32 (34 + x1)))) + (s (x0 + 5) (w32 (24 + x1))))), (29, (x0 + 9))], s1) = some ([(0 ≤ (w32 ((6 * (s (x0 + 5) (w32 (24 + x1)))) + (s (x0 + 5) (w32 (34 + x1))))) ∧ (w32 ((6 * (s (x0 + 5) (w32 (24 + x1)))) + (s (x0 + 5) (w32 (34 + x1))))) < 36), (0 ≤ (w32 ((6 * (s (x0 + 5) (w32 (34 + x1)))) + (s (x0 + 5) (w32 (24 + x1))))) ∧ (w32 ((6 * (s (x0 + 5) (w32 (34 + x1)))) + (s (x0 + 5) (w32 (24 + x1))))) < 36)], (40, [(15, x0), (0, (x1 + 1)), (0, ((6 * (s (x0 + 5) (w32 (24 + x1)))) + (s (x0 + 5) (w32 (34 + x1))))), (0, ((6 * (s (x0 + 5) (w32 (34 + x1)))) + (s (x0 + 5) (w32 (24 + x1)))))], [], (jup s1 (x0 + 9) (w32 ((6 * (s (x0 + 5) (w32 (34 + x1)))) + (s (x0 + 5) (w32 (24 + x1))))) (s1 (x0 + 9) (w32 ((6 * (s (x0 + 5) (w32 (24 + x1)))) + (s (x0 + 5) (w32 (34 + x1))))))))) from rfl) (fun h => ⟨h.1, h.2⟩) H (fun H => ?_)
      exact AT.weak (L' := [(15, x0), (0, (x1 + 1)), (99, 0), (99, 0)]) (jleK (jleK (jleJ (jleJ jle0)))) (ih _ _ _ H)
    · refine AT.seq [(144, .iconst 0, 1, (0, 0, 0)), (145, .istore_n 1, 1, (0, 0, 0))] (by decide +kernel) (show jrun _ (144, [(15, x0), (0, x1), (99, 0), (99, 0)], [], s) = some ([], (146, [(15, x0), (0, 0), (99, 0), (99, 0)], [], s)) from rfl) ?_
      exact Md_laysFar_146_ok  jFU _ _ _ H
set_option maxRecDepth 100000 in
theorem Md_laysFar_2_ok {o : Int × jM} : ∀ (n : Nat) (x0 x1 : Int) (s : jM), Md_laysFar_2  n x0 x1 s = some o → AT sMd_laysFar 0 (2, [(15, x0), (0, x1), (99, 0), (99, 0)], [], s) o := by
  intro n
  induction n with
  | zero =>
    intro x0 x1 s H
    have H : (none : Option (Int × jM)) = some o := H
    cases H
  | succ n ih =>
    intro x0 x1 s H
    rw [Md_laysFar_2] at H
    refine AT.seq [(2, .iload_n 1, 1, (0, 0, 0)), (3, .bipush 36, 2, (0, 0, 0))] (by decide +kernel) (show jrun _ (2, [(15, x0), (0, x1), (99, 0), (99, 0)], [], s) = some ([], (5, [(15, x0), (0, x1), (99, 0), (99, 0)], [(0, 36), (0, x1)], s)) from rfl) ?_
    refine AT.ite (x := (0, 0, 0)) (by decide +kernel) (show jbr (.if_icmp .ge 33) (5, [(15, x0), (0, x1), (99, 0), (99, 0)], [(0, 36), (0, x1)], s) = some ((w32 x1) < 36, (8, [(15, x0), (0, x1), (99, 0), (99, 0)], [], s), (38, [(15, x0), (0, x1), (99, 0), (99, 0)], [], s)) from rfl) H (fun H => ?_) (fun H => ?_)
    · refine AT.row [(8, .aload_n 0, 1, (0, 0, 0)), (9, .getfield 47, 3, (5214, 1127, 0)), (12, .iload_n 1, 1, (0, 0, 0)), (13, .iload_n 1, 1, (0, 0, 0)), (14, .bipush 6, 2, (0, 0, 0)), (16, .idiv, 1, (0, 0, 0)), (17, .iload_n 1, 1, (0, 0, 0)), (18, .bipush 6, 2, (0, 0, 0)), (20, .irem, 1, (0, 0, 0))] (by decide +kernel) (show jrun _ (8, [(15, x0), (0, x1), (99, 0), (99, 0)], [], s) = some ([¬ (6 : Int) = 0, ¬ (6 : Int) = 0], (21, [(15, x0), (0, x1), (99, 0), (99, 0)], [(0, (jrem x1 6)), (0, (jdiv x1 6)), (0, x1), (29, (x0 + 9))], s)) from rfl) (show ¬ (6 : Int) = 0 ∧ ¬ (6 : Int) = 0 from by decide) ?_
      refine AT.ite (x := (0, 0, 0)) (by decide +kernel) (show jbr (.if_icmp .ne 7) (21, [(15, x0), (0, x1), (99, 0), (99, 0)], [(0, (jrem x1 6)), (0, (jdiv x1 6)), (0, x1), (29, (x0 + 9))], s) = some ((w32 (jdiv x1 6)) = (w32 (jrem x1 6)), (24, [(15, x0), (0, x1), (99, 0), (99, 0)], [(0, x1), (29, (x0 + 9))], s), (28, [(15, x0), (0, x1), (99, 0), (99, 0)], [(0, x1), (29, (x0 + 9))], s)) from rfl) H (fun H => ?_) (fun H => ?_)
      · refine AT.blk (g := (0 ≤ (w32 x1) ∧ (w32 x1) < 36)) [(24, .iconst 0, 1, (0, 0, 0)), (25, .goto 6, 3, (0, 0, 0)), (31, .iastore, 1, (0, 0, 0)), (32, .iinc 1 1, 3, (0, 0, 0)), (35, .goto (-33), 3, (0, 0, 0))] (by decide +kernel) (show jrun _ (24, [(15, x0), (0, x1), (99, 0), (99, 0)], [(0, x1), (29, (x0 + 9))], s) = some ([(0 ≤ (w32 x1) ∧ (w32 x1) < 36)], (2, [(15, x0), (0, (x1 + 1)), (99, 0), (99, 0)], [], (jup s (x0 + 9) (w32 x1) 0))) from rfl) (fun h => h) H (fun H => ?_)
        exact ih _ _ _ H
      · refine AT.blk (g := (0 ≤ (w32 x1) ∧ (w32 x1) < 36)) [(28, .sipush 10000, 3, (0, 0, 0)), (31, .iastore, 1, (0, 0, 0)), (32, .iinc 1 1, 3, (0, 0, 0)), (35, .goto (-33), 3, (0, 0, 0))] (by decide +kernel) (show jrun _ (28, [(15, x0), (0, x1), (99, 0), (99, 0)], [(0, x1), (29, (x0 + 9))], s) = some ([(0 ≤ (w32 x1) ∧ (w32 x1) < 36)], (2, [(15, x0), (0, (x1 + 1)), (99, 0), (99, 0)], [], (jup s (x0 + 9) (w32 x1) 10000))) from rfl) (fun h => h) H (fun H => ?_)
        exact ih _ _ _ H
    · refine AT.seq [(38, .iconst 0, 1, (0, 0, 0)), (39, .istore_n 1, 1, (0, 0, 0))] (by decide +kernel) (show jrun _ (38, [(15, x0), (0, x1), (99, 0), (99, 0)], [], s) = some ([], (40, [(15, x0), (0, 0), (99, 0), (99, 0)], [], s)) from rfl) ?_
      exact Md_laysFar_40_ok  jFU _ _ _ H
set_option maxRecDepth 100000 in
theorem Md_laysFar_ok {a0 : Int} {s : jM} {o : Int × jM} (H : Md_laysFar a0 s = some o) : MK sMd_laysFar 0 [(15, a0)] s o := by
  refine MK.of kMd_laysFar rfl ?_
  show AT sMd_laysFar 0 (0, [(15, a0), (99, 0), (99, 0), (99, 0)], [], s) o
  unfold Md_laysFar at H
  refine AT.seq [(0, .iconst 0, 1, (0, 0, 0)), (1, .istore_n 1, 1, (0, 0, 0))] (by decide +kernel) (show jrun _ (0, [(15, a0), (99, 0), (99, 0), (99, 0)], [], s) = some ([], (2, [(15, a0), (0, 0), (99, 0), (99, 0)], [], s)) from rfl) ?_
  exact Md_laysFar_2_ok  jFU _ _ _ H
def sMd_farOf : jS := (⟨"JellyCathedralModel", "farOf", "(II)I"⟩, prog_13_method_98_code, 3, 1, [15, 0, 0], 0)
theorem kMd_farOf : jmk sMd_farOf = true := jmk_of 7233 1012 7232 107 (by decide +kernel)
set_option maxRecDepth 100000 in
theorem Md_farOf_ok {a0 a1 a2 : Int} {s : jM} {o : Int × jM} (H : Md_farOf a0 a1 a2 s = some o) : MK sMd_farOf 0 [(15, a0), (0, a1), (0, a2)] s o := by
  refine MK.of kMd_farOf rfl ?_
  show AT sMd_farOf 0 (0, [(15, a0), (0, a1), (0, a2)], [], s) o
  unfold Md_farOf at H
  refine AT.blk (g := (0 ≤ (w32 ((6 * a1) + a2)) ∧ (w32 ((6 * a1) + a2)) < 36)) [(0, .aload_n 0, 1, (0, 0, 0)), (1, .getfield 47, 3, (5214, 1127, 0)), (4, .bipush 6, 2, (0, 0, 0)), (6, .iload_n 1, 1, (0, 0, 0)), (7, .imul, 1, (0, 0, 0)), (8, .iload_n 2, 1, (0, 0, 0)), (9, .iadd, 1, (0, 0, 0)), (10, .iaload, 1, (0, 0, 0))] (by decide +kernel) (show jrun _ (0, [(15, a0), (0, a1), (0, a2)], [], s) = some ([(0 ≤ (w32 ((6 * a1) + a2)) ∧ (w32 ((6 * a1) + a2)) < 36)], (11, [(15, a0), (0, a1), (0, a2)], [(0, (s (a0 + 9) (w32 ((6 * a1) + a2))))], s)) from rfl) (fun h => h) H (fun H => ?_)
  exact AT.retiH (by decide +kernel) H
def sMd_shakenTo : jS := (⟨"JellyCathedralModel", "shakenTo", "(II)I"⟩, prog_13_method_99_code, 3, 1, [15, 0, 0], 0)
theorem kMd_shakenTo : jmk sMd_shakenTo = true := jmk_of 7224 1012 7223 105 (by decide +kernel)
set_option maxRecDepth 100000 in
theorem Md_shakenTo_ok {a0 a1 a2 : Int} {s : jM} {o : Int × jM} (H : Md_shakenTo a0 a1 a2 s = some o) : MK sMd_shakenTo 1 [(15, a0), (0, a1), (0, a2)] s o := by
  refine MK.of kMd_shakenTo rfl ?_
  show AT sMd_shakenTo 1 (0, [(15, a0), (0, a1), (0, a2)], [], s) o
  unfold Md_shakenTo at H
  refine AT.seq [(0, .aload_n 0, 1, (0, 0, 0))] (by decide +kernel) (show jrun _ (0, [(15, a0), (0, a1), (0, a2)], [], s) = some ([], (1, [(15, a0), (0, a1), (0, a2)], [(15, a0)], s)) from rfl) ?_
  obtain ⟨v1, s1, h1, H⟩ := jb_some H
  refine AT.callV (As := []) (cl := 11) (b := a0) (st := []) (i := 378) (pos := 7225) kMd_laysFar (by decide +kernel) rfl (by decide +kernel) rfl rfl (by omega) (Md_laysFar_ok h1) ?_
  show AT sMd_shakenTo 1 (4, [(15, a0), (0, a1), (0, a2)], [], s1) o
  refine AT.seq [(4, .aload_n 0, 1, (0, 0, 0)), (5, .iload_n 1, 1, (0, 0, 0)), (6, .iload_n 2, 1, (0, 0, 0))] (by decide +kernel) (show jrun _ (4, [(15, a0), (0, a1), (0, a2)], [], s1) = some ([], (7, [(15, a0), (0, a1), (0, a2)], [(0, a2), (0, a1), (15, a0)], s1)) from rfl) ?_
  obtain ⟨v2, s2, h2, H⟩ := jb_some H
  refine AT.callV (As := [(0, a1), (0, a2)]) (cl := 11) (b := a0) (st := []) (i := 381) (pos := 7230) kMd_farOf (by decide +kernel) rfl (by decide +kernel) rfl rfl (by omega) (Md_farOf_ok h2) ?_
  show AT sMd_shakenTo 1 (10, [(15, a0), (0, a1), (0, a2)], [(0, v2)], s2) o
  refine AT.seq [(10, .sipush 10000, 3, (0, 0, 0))] (by decide +kernel) (show jrun _ (10, [(15, a0), (0, a1), (0, a2)], [(0, v2)], s2) = some ([], (13, [(15, a0), (0, a1), (0, a2)], [(0, 10000), (0, v2)], s2)) from rfl) ?_
  refine AT.ite (x := (0, 0, 0)) (by decide +kernel) (show jbr (.if_icmp .lt 7) (13, [(15, a0), (0, a1), (0, a2)], [(0, 10000), (0, v2)], s2) = some ((w32 v2) < 10000, (20, [(15, a0), (0, a1), (0, a2)], [], s2), (16, [(15, a0), (0, a1), (0, a2)], [], s2)) from rfl) H (fun H => ?_) (fun H => ?_)
  · refine AT.seq [(20, .aload_n 0, 1, (0, 0, 0)), (21, .iload_n 1, 1, (0, 0, 0)), (22, .iload_n 2, 1, (0, 0, 0))] (by decide +kernel) (show jrun _ (20, [(15, a0), (0, a1), (0, a2)], [], s2) = some ([], (23, [(15, a0), (0, a1), (0, a2)], [(0, a2), (0, a1), (15, a0)], s2)) from rfl) ?_
    obtain ⟨v3, s3, h3, H⟩ := jb_some H
    refine AT.callV (As := [(0, a1), (0, a2)]) (cl := 11) (b := a0) (st := []) (i := 381) (pos := 7230) kMd_farOf (by decide +kernel) rfl (by decide +kernel) rfl rfl (by omega) (Md_farOf_ok h3) ?_
    show AT sMd_shakenTo 1 (26, [(15, a0), (0, a1), (0, a2)], [(0, v3)], s3) o
    refine AT.row [(26, .bipush 16, 2, (0, 0, 0)), (28, .idiv, 1, (0, 0, 0))] (by decide +kernel) (show jrun _ (26, [(15, a0), (0, a1), (0, a2)], [(0, v3)], s3) = some ([¬ (16 : Int) = 0], (29, [(15, a0), (0, a1), (0, a2)], [(0, (jdiv v3 16))], s3)) from rfl) (show ¬ (16 : Int) = 0 from by decide) ?_
    exact AT.retiH (by decide +kernel) H
  · refine AT.seq [(16, .iconst (-1), 1, (0, 0, 0)), (17, .goto 12, 3, (0, 0, 0))] (by decide +kernel) (show jrun _ (16, [(15, a0), (0, a1), (0, a2)], [], s2) = some ([], (29, [(15, a0), (0, a1), (0, a2)], [(0, (-1))], s2)) from rfl) ?_
    exact AT.retiH (by decide +kernel) H
