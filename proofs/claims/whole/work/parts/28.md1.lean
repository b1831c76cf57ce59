/-! printed by wip/whole/gen_all.py: Md_isMould, Md_isHigh, Md_isHolds, Md_isAt, Md_stepWord, Md_testWord, Md_isEnd, Md_isKept, Md_isName, Md_fail, Md_amiss, Md_must, Md_count, Md_behindWord, Md_perhaps, Md_lay, Md_feed, Md_starts, Md_isWell, Md_fault, Md_empties, Md_namesFrom, Md_named, Md_readNew, Md_told, Md_readTold, Md_readOnce, Md_readStuff, Md_readPlace -/
def sMd_isMould : jS := (⟨"JellyCathedralModel", "isMould", "()Z"⟩, prog_13_method_37_code, 1, 3, [15], 0)
theorem kMd_isMould : jmk sMd_isMould = true := jmk_of 7018 1012 7017 67 (by decide +kernel)
set_option maxRecDepth 100000 in
theorem Md_isMould_ok {a0 : Int} {s : jM} {o : Int × jM} (H : Md_isMould a0 s = some o) : MK sMd_isMould 1 [(15, a0)] s o := by
  refine MK.of kMd_isMould rfl ?_
  show AT sMd_isMould 1 (0, [(15, a0)], [], s) o
  unfold Md_isMould at H
  refine AT.seq [(0, .aload_n 0, 1, (0, 0, 0)), (1, .bipush 109, 2, (0, 0, 0)), (3, .bipush 111, 2, (0, 0, 0)), (5, .bipush 117, 2, (0, 0, 0)), (7, .bipush 108, 2, (0, 0, 0)), (9, .bipush 100, 2, (0, 0, 0)), (11, .iconst 0, 1, (0, 0, 0))] (by decide +kernel) (show jrun _ (0, [(15, a0)], [], s) = some ([], (12, [(15, a0)], [(0, 0), (0, 100), (0, 108), (0, 117), (0, 111), (0, 109), (15, a0)], s)) from rfl) ?_
  obtain ⟨v1, s1, h1, H⟩ := jb_some H
  refine AT.callS (As := [(0, 109), (0, 111), (0, 117), (0, 108), (0, 100), (0, 0)]) (st := [(15, a0)]) (i := 148) (pos := 6178) kMd_spelled (by decide +kernel) rfl rfl rfl (by omega) (Md_spelled_ok h1) ?_
  show AT sMd_isMould 1 (15, [(15, a0)], [(1, v1), (15, a0)], s1) o
  obtain ⟨v2, s2, h2, H⟩ := jb_some H
  refine AT.callV (As := [(1, v1)]) (cl := 11) (b := a0) (st := []) (i := 152) (pos := 6181) kMd_isWord (by decide +kernel) rfl (by decide +kernel) rfl rfl (by omega) (Md_isWord_ok h2) ?_
  show AT sMd_isMould 1 (18, [(15, a0)], [(0, v2)], s2) o
  exact AT.retzH (by decide +kernel) H
def sMd_isHigh : jS := (⟨"JellyCathedralModel", "isHigh", "()Z"⟩, prog_13_method_38_code, 1, 3, [15], 0)
theorem kMd_isHigh : jmk sMd_isHigh = true := jmk_of 7022 1012 7021 68 (by decide +kernel)
set_option maxRecDepth 100000 in
theorem Md_isHigh_ok {a0 : Int} {s : jM} {o : Int × jM} (H : Md_isHigh a0 s = some o) : MK sMd_isHigh 1 [(15, a0)] s o := by
  refine MK.of kMd_isHigh rfl ?_
  show AT sMd_isHigh 1 (0, [(15, a0)], [], s) o
  unfold Md_isHigh at H
  refine AT.seq [(0, .aload_n 0, 1, (0, 0, 0)), (1, .bipush 104, 2, (0, 0, 0)), (3, .bipush 105, 2, (0, 0, 0)), (5, .bipush 103, 2, (0, 0, 0)), (7, .bipush 104, 2, (0, 0, 0)), (9, .iconst 0, 1, (0, 0, 0)), (10, .iconst 0, 1, (0, 0, 0))] (by decide +kernel) (show jrun _ (0, [(15, a0)], [], s) = some ([], (11, [(15, a0)], [(0, 0), (0, 0), (0, 104), (0, 103), (0, 105), (0, 104), (15, a0)], s)) from rfl) ?_
  obtain ⟨v1, s1, h1, H⟩ := jb_some H
  refine AT.callS (As := [(0, 104), (0, 105), (0, 103), (0, 104), (0, 0), (0, 0)]) (st := [(15, a0)]) (i := 148) (pos := 6178) kMd_spelled (by decide +kernel) rfl rfl rfl (by omega) (Md_spelled_ok h1) ?_
  show AT sMd_isHigh 1 (14, [(15, a0)], [(1, v1), (15, a0)], s1) o
  obtain ⟨v2, s2, h2, H⟩ := jb_some H
  refine AT.callV (As := [(1, v1)]) (cl := 11) (b := a0) (st := []) (i := 152) (pos := 6181) kMd_isWord (by decide +kernel) rfl (by decide +kernel) rfl rfl (by omega) (Md_isWord_ok h2) ?_
  show AT sMd_isHigh 1 (17, [(15, a0)], [(0, v2)], s2) o
  exact AT.retzH (by decide +kernel) H
def sMd_isHolds : jS := (⟨"JellyCathedralModel", "isHolds", "()Z"⟩, prog_13_method_39_code, 1, 3, [15], 0)
theorem kMd_isHolds : jmk sMd_isHolds = true := jmk_of 7026 1012 7025 69 (by decide +kernel)
set_option maxRecDepth 100000 in
theorem Md_isHolds_ok {a0 : Int} {s : jM} {o : Int × jM} (H : Md_isHolds a0 s = some o) : MK sMd_isHolds 1 [(15, a0)] s o := by
  refine MK.of kMd_isHolds rfl ?_
  show AT sMd_isHolds 1 (0, [(15, a0)], [], s) o
  unfold Md_isHolds at H
  refine AT.seq [(0, .aload_n 0, 1, (0, 0, 0)), (1, .bipush 104, 2, (0, 0, 0)), (3, .bipush 111, 2, (0, 0, 0)), (5, .bipush 108, 2, (0, 0, 0)), (7, .bipush 100, 2, (0, 0, 0)), (9, .bipush 115, 2, (0, 0, 0)), (11, .iconst 0, 1, (0, 0, 0))] (by decide +kernel) (show jrun _ (0, [(15, a0)], [], s) = some ([], (12, [(15, a0)], [(0, 0), (0, 115), (0, 100), (0, 108), (0, 111), (0, 104), (15, a0)], s)) from rfl) ?_
  obtain ⟨v1, s1, h1, H⟩ := jb_some H
  refine AT.callS (As := [(0, 104), (0, 111), (0, 108), (0, 100), (0, 115), (0, 0)]) (st := [(15, a0)]) (i := 148) (pos := 6178) kMd_spelled (by decide +kernel) rfl rfl rfl (by omega) (Md_spelled_ok h1) ?_
  show AT sMd_isHolds 1 (15, [(15, a0)], [(1, v1), (15, a0)], s1) o
  obtain ⟨v2, s2, h2, H⟩ := jb_some H
  refine AT.callV (As := [(1, v1)]) (cl := 11) (b := a0) (st := []) (i := 152) (pos := 6181) kMd_isWord (by decide +kernel) rfl (by decide +kernel) rfl rfl (by omega) (Md_isWord_ok h2) ?_
  show AT sMd_isHolds 1 (18, [(15, a0)], [(0, v2)], s2) o
  exact AT.retzH (by decide +kernel) H
def sMd_isAt : jS := (⟨"JellyCathedralModel", "isAt", "()Z"⟩, prog_13_method_40_code, 1, 3, [15], 0)
theorem kMd_isAt : jmk sMd_isAt = true := jmk_of 7038 1012 7037 72 (by decide +kernel)
set_option maxRecDepth 100000 in
theorem Md_isAt_ok {a0 : Int} {s : jM} {o : Int × jM} (H : Md_isAt a0 s = some o) : MK sMd_isAt 1 [(15, a0)] s o := by
  refine MK.of kMd_isAt rfl ?_
  show AT sMd_isAt 1 (0, [(15, a0)], [], s) o
  unfold Md_isAt at H
  refine AT.seq [(0, .aload_n 0, 1, (0, 0, 0)), (1, .bipush 97, 2, (0, 0, 0)), (3, .bipush 116, 2, (0, 0, 0)), (5, .iconst 0, 1, (0, 0, 0)), (6, .iconst 0, 1, (0, 0, 0)), (7, .iconst 0, 1, (0, 0, 0)), (8, .iconst 0, 1, (0, 0, 0))] (by decide +kernel) (show jrun _ (0, [(15, a0)], [], s) = some ([], (9, [(15, a0)], [(0, 0), (0, 0), (0, 0), (0, 0), (0, 116), (0, 97), (15, a0)], s)) from rfl) ?_
  obtain ⟨v1, s1, h1, H⟩ := jb_some H
  refine AT.callS (As := [(0, 97), (0, 116), (0, 0), (0, 0), (0, 0), (0, 0)]) (st := [(15, a0)]) (i := 148) (pos := 6178) kMd_spelled (by decide +kernel) rfl rfl rfl (by omega) (Md_spelled_ok h1) ?_
  show AT sMd_isAt 1 (12, [(15, a0)], [(1, v1), (15, a0)], s1) o
  obtain ⟨v2, s2, h2, H⟩ := jb_some H
  refine AT.callV (As := [(1, v1)]) (cl := 11) (b := a0) (st := []) (i := 152) (pos := 6181) kMd_isWord (by decide +kernel) rfl (by decide +kernel) rfl rfl (by omega) (Md_isWord_ok h2) ?_
  show AT sMd_isAt 1 (15, [(15, a0)], [(0, v2)], s2) o
  exact AT.retzH (by decide +kernel) H
def sMd_stepWord : jS := (⟨"JellyCathedralModel", "stepWord", "()I"⟩, prog_13_method_41_code, 1, 1, [15], 0)
theorem kMd_stepWord : jmk sMd_stepWord = true := jmk_of 7030 1012 7029 70 (by decide +kernel)
set_option maxRecDepth 100000 in
theorem Md_stepWord_ok {a0 : Int} {s : jM} {o : Int × jM} (H : Md_stepWord a0 s = some o) : MK sMd_stepWord 2 [(15, a0)] s o := by
  refine MK.of kMd_stepWord rfl ?_
  show AT sMd_stepWord 2 (0, [(15, a0)], [], s) o
  unfold Md_stepWord at H
  refine AT.seq [(0, .aload_n 0, 1, (0, 0, 0)), (1, .bipush 112, 2, (0, 0, 0)), (3, .bipush 111, 2, (0, 0, 0)), (5, .bipush 117, 2, (0, 0, 0)), (7, .bipush 114, 2, (0, 0, 0)), (9, .iconst 0, 1, (0, 0, 0)), (10, .iconst 0, 1, (0, 0, 0))] (by decide +kernel) (show jrun _ (0, [(15, a0)], [], s) = some ([], (11, [(15, a0)], [(0, 0), (0, 0), (0, 114), (0, 117), (0, 111), (0, 112), (15, a0)], s)) from rfl) ?_
  obtain ⟨v1, s1, h1, H⟩ := jb_some H
  refine AT.callS (As := [(0, 112), (0, 111), (0, 117), (0, 114), (0, 0), (0, 0)]) (st := [(15, a0)]) (i := 148) (pos := 6178) kMd_spelled (by decide +kernel) rfl rfl rfl (by omega) (Md_spelled_ok h1) ?_
  show AT sMd_stepWord 2 (14, [(15, a0)], [(1, v1), (15, a0)], s1) o
  obtain ⟨v2, s2, h2, H⟩ := jb_some H
  refine AT.callV (As := [(1, v1)]) (cl := 11) (b := a0) (st := []) (i := 152) (pos := 6181) kMd_isWord (by decide +kernel) rfl (by decide +kernel) rfl rfl (by omega) (Md_isWord_ok h2) ?_
  show AT sMd_stepWord 2 (17, [(15, a0)], [(0, v2)], s2) o
  refine AT.ite (x := (0, 0, 0)) (by decide +kernel) (show jbr (.ifCond .eq 5) (17, [(15, a0)], [(0, v2)], s2) = some ((w32 v2) = 0, (22, [(15, a0)], [], s2), (20, [(15, a0)], [], s2)) from rfl) H (fun H => ?_) (fun H => ?_)
  · refine AT.seq [(22, .aload_n 0, 1, (0, 0, 0)), (23, .bipush 118, 2, (0, 0, 0)), (25, .bipush 111, 2, (0, 0, 0)), (27, .bipush 105, 2, (0, 0, 0)), (29, .bipush 100, 2, (0, 0, 0)), (31, .iconst 0, 1, (0, 0, 0)), (32, .iconst 0, 1, (0, 0, 0))] (by decide +kernel) (show jrun _ (22, [(15, a0)], [], s2) = some ([], (33, [(15, a0)], [(0, 0), (0, 0), (0, 100), (0, 105), (0, 111), (0, 118), (15, a0)], s2)) from rfl) ?_
    obtain ⟨v3, s3, h3, H⟩ := jb_some H
    refine AT.callS (As := [(0, 118), (0, 111), (0, 105), (0, 100), (0, 0), (0, 0)]) (st := [(15, a0)]) (i := 148) (pos := 6178) kMd_spelled (by decide +kernel) rfl rfl rfl (by omega) (Md_spelled_ok h3) ?_
    show AT sMd_stepWord 2 (36, [(15, a0)], [(1, v3), (15, a0)], s3) o
    obtain ⟨v4, s4, h4, H⟩ := jb_some H
    refine AT.callV (As := [(1, v3)]) (cl := 11) (b := a0) (st := []) (i := 152) (pos := 6181) kMd_isWord (by decide +kernel) rfl (by decide +kernel) rfl rfl (by omega) (Md_isWord_ok h4) ?_
    show AT sMd_stepWord 2 (39, [(15, a0)], [(0, v4)], s4) o
    refine AT.ite (x := (0, 0, 0)) (by decide +kernel) (show jbr (.ifCond .eq 5) (39, [(15, a0)], [(0, v4)], s4) = some ((w32 v4) = 0, (44, [(15, a0)], [], s4), (42, [(15, a0)], [], s4)) from rfl) H (fun H => ?_) (fun H => ?_)
    · refine AT.seq [(44, .aload_n 0, 1, (0, 0, 0)), (45, .bipush 107, 2, (0, 0, 0)), (47, .bipush 110, 2, (0, 0, 0)), (49, .bipush 111, 2, (0, 0, 0)), (51, .bipush 99, 2, (0, 0, 0)), (53, .bipush 107, 2, (0, 0, 0)), (55, .iconst 0, 1, (0, 0, 0))] (by decide +kernel) (show jrun _ (44, [(15, a0)], [], s4) = some ([], (56, [(15, a0)], [(0, 0), (0, 107), (0, 99), (0, 111), (0, 110), (0, 107), (15, a0)], s4)) from rfl) ?_
      obtain ⟨v5, s5, h5, H⟩ := jb_some H
      refine AT.callS (As := [(0, 107), (0, 110), (0, 111), (0, 99), (0, 107), (0, 0)]) (st := [(15, a0)]) (i := 148) (pos := 6178) kMd_spelled (by decide +kernel) rfl rfl rfl (by omega) (Md_spelled_ok h5) ?_
      show AT sMd_stepWord 2 (59, [(15, a0)], [(1, v5), (15, a0)], s5) o
      obtain ⟨v6, s6, h6, H⟩ := jb_some H
      refine AT.callV (As := [(1, v5)]) (cl := 11) (b := a0) (st := []) (i := 152) (pos := 6181) kMd_isWord (by decide +kernel) rfl (by decide +kernel) rfl rfl (by omega) (Md_isWord_ok h6) ?_
      show AT sMd_stepWord 2 (62, [(15, a0)], [(0, v6)], s6) o
      refine AT.ite (x := (0, 0, 0)) (by decide +kernel) (show jbr (.ifCond .eq 5) (62, [(15, a0)], [(0, v6)], s6) = some ((w32 v6) = 0, (67, [(15, a0)], [], s6), (65, [(15, a0)], [], s6)) from rfl) H (fun H => ?_) (fun H => ?_)
      · refine AT.seq [(67, .aload_n 0, 1, (0, 0, 0)), (68, .bipush 116, 2, (0, 0, 0)), (70, .bipush 111, 2, (0, 0, 0)), (72, .bipush 117, 2, (0, 0, 0)), (74, .bipush 99, 2, (0, 0, 0)), (76, .bipush 104, 2, (0, 0, 0)), (78, .iconst 0, 1, (0, 0, 0))] (by decide +kernel) (show jrun _ (67, [(15, a0)], [], s6) = some ([], (79, [(15, a0)], [(0, 0), (0, 104), (0, 99), (0, 117), (0, 111), (0, 116), (15, a0)], s6)) from rfl) ?_
        obtain ⟨v7, s7, h7, H⟩ := jb_some H
        refine AT.callS (As := [(0, 116), (0, 111), (0, 117), (0, 99), (0, 104), (0, 0)]) (st := [(15, a0)]) (i := 148) (pos := 6178) kMd_spelled (by decide +kernel) rfl rfl rfl (by omega) (Md_spelled_ok h7) ?_
        show AT sMd_stepWord 2 (82, [(15, a0)], [(1, v7), (15, a0)], s7) o
        obtain ⟨v8, s8, h8, H⟩ := jb_some H
        refine AT.callV (As := [(1, v7)]) (cl := 11) (b := a0) (st := []) (i := 152) (pos := 6181) kMd_isWord (by decide +kernel) rfl (by decide +kernel) rfl rfl (by omega) (Md_isWord_ok h8) ?_
        show AT sMd_stepWord 2 (85, [(15, a0)], [(0, v8)], s8) o
        refine AT.ite (x := (0, 0, 0)) (by decide +kernel) (show jbr (.ifCond .eq 5) (85, [(15, a0)], [(0, v8)], s8) = some ((w32 v8) = 0, (90, [(15, a0)], [], s8), (88, [(15, a0)], [], s8)) from rfl) H (fun H => ?_) (fun H => ?_)
        · refine AT.seq [(90, .aload_n 0, 1, (0, 0, 0)), (91, .bipush 99, 2, (0, 0, 0)), (93, .bipush 97, 2, (0, 0, 0)), (95, .bipush 114, 2, (0, 0, 0)), (97, .bipush 114, 2, (0, 0, 0)), (99, .bipush 121, 2, (0, 0, 0)), (101, .iconst 0, 1, (0, 0, 0))] (by decide +kernel) (show jrun _ (90, [(15, a0)], [], s8) = some ([], (102, [(15, a0)], [(0, 0), (0, 121), (0, 114), (0, 114), (0, 97), (0, 99), (15, a0)], s8)) from rfl) ?_
          obtain ⟨v9, s9, h9, H⟩ := jb_some H
          refine AT.callS (As := [(0, 99), (0, 97), (0, 114), (0, 114), (0, 121), (0, 0)]) (st := [(15, a0)]) (i := 148) (pos := 6178) kMd_spelled (by decide +kernel) rfl rfl rfl (by omega) (Md_spelled_ok h9) ?_
          show AT sMd_stepWord 2 (105, [(15, a0)], [(1, v9), (15, a0)], s9) o
          obtain ⟨v10, s10, h10, H⟩ := jb_some H
          refine AT.callV (As := [(1, v9)]) (cl := 11) (b := a0) (st := []) (i := 152) (pos := 6181) kMd_isWord (by decide +kernel) rfl (by decide +kernel) rfl rfl (by omega) (Md_isWord_ok h10) ?_
          show AT sMd_stepWord 2 (108, [(15, a0)], [(0, v10)], s10) o
          refine AT.ite (x := (0, 0, 0)) (by decide +kernel) (show jbr (.ifCond .eq 5) (108, [(15, a0)], [(0, v10)], s10) = some ((w32 v10) = 0, (113, [(15, a0)], [], s10), (111, [(15, a0)], [], s10)) from rfl) H (fun H => ?_) (fun H => ?_)
          · refine AT.seq [(113, .aload_n 0, 1, (0, 0, 0)), (114, .bipush 109, 2, (0, 0, 0)), (116, .bipush 105, 2, (0, 0, 0)), (118, .bipush 110, 2, (0, 0, 0)), (120, .bipush 117, 2, (0, 0, 0)), (122, .bipush 116, 2, (0, 0, 0)), (124, .bipush 101, 2, (0, 0, 0))] (by decide +kernel) (show jrun _ (113, [(15, a0)], [], s10) = some ([], (126, [(15, a0)], [(0, 101), (0, 116), (0, 117), (0, 110), (0, 105), (0, 109), (15, a0)], s10)) from rfl) ?_
            obtain ⟨v11, s11, h11, H⟩ := jb_some H
            refine AT.callS (As := [(0, 109), (0, 105), (0, 110), (0, 117), (0, 116), (0, 101)]) (st := [(15, a0)]) (i := 148) (pos := 6178) kMd_spelled (by decide +kernel) rfl rfl rfl (by omega) (Md_spelled_ok h11) ?_
            show AT sMd_stepWord 2 (129, [(15, a0)], [(1, v11), (15, a0)], s11) o
            obtain ⟨v12, s12, h12, H⟩ := jb_some H
            refine AT.callV (As := [(1, v11)]) (cl := 11) (b := a0) (st := []) (i := 152) (pos := 6181) kMd_isWord (by decide +kernel) rfl (by decide +kernel) rfl rfl (by omega) (Md_isWord_ok h12) ?_
            show AT sMd_stepWord 2 (132, [(15, a0)], [(0, v12)], s12) o
            refine AT.ite (x := (0, 0, 0)) (by decide +kernel) (show jbr (.ifCond .eq 5) (132, [(15, a0)], [(0, v12)], s12) = some ((w32 v12) = 0, (137, [(15, a0)], [], s12), (135, [(15, a0)], [], s12)) from rfl) H (fun H => ?_) (fun H => ?_)
            · refine AT.seq [(137, .aload_n 0, 1, (0, 0, 0))] (by decide +kernel) (show jrun _ (137, [(15, a0)], [], s12) = some ([], (138, [(15, a0)], [(15, a0)], s12)) from rfl) ?_
              obtain ⟨v13, s13, h13, H⟩ := jb_some H
              refine AT.callV (As := []) (cl := 11) (b := a0) (st := []) (i := 156) (pos := 6174) kMd_isHeat (by decide +kernel) rfl (by decide +kernel) rfl rfl (by omega) (Md_isHeat_ok h13) ?_
              show AT sMd_stepWord 2 (141, [(15, a0)], [(0, v13)], s13) o
              refine AT.ite (x := (0, 0, 0)) (by decide +kernel) (show jbr (.ifCond .eq 6) (141, [(15, a0)], [(0, v13)], s13) = some ((w32 v13) = 0, (147, [(15, a0)], [], s13), (144, [(15, a0)], [], s13)) from rfl) H (fun H => ?_) (fun H => ?_)
              · refine AT.seq [(147, .aload_n 0, 1, (0, 0, 0)), (148, .bipush 97, 2, (0, 0, 0)), (150, .bipush 110, 2, (0, 0, 0)), (152, .bipush 121, 2, (0, 0, 0)), (154, .iconst 0, 1, (0, 0, 0)), (155, .iconst 0, 1, (0, 0, 0)), (156, .iconst 0, 1, (0, 0, 0))] (by decide +kernel) (show jrun _ (147, [(15, a0)], [], s13) = some ([], (157, [(15, a0)], [(0, 0), (0, 0), (0, 0), (0, 121), (0, 110), (0, 97), (15, a0)], s13)) from rfl) ?_
                obtain ⟨v14, s14, h14, H⟩ := jb_some H
                refine AT.callS (As := [(0, 97), (0, 110), (0, 121), (0, 0), (0, 0), (0, 0)]) (st := [(15, a0)]) (i := 148) (pos := 6178) kMd_spelled (by decide +kernel) rfl rfl rfl (by omega) (Md_spelled_ok h14) ?_
                show AT sMd_stepWord 2 (160, [(15, a0)], [(1, v14), (15, a0)], s14) o
                obtain ⟨v15, s15, h15, H⟩ := jb_some H
                refine AT.callV (As := [(1, v14)]) (cl := 11) (b := a0) (st := []) (i := 152) (pos := 6181) kMd_isWord (by decide +kernel) rfl (by decide +kernel) rfl rfl (by omega) (Md_isWord_ok h15) ?_
                show AT sMd_stepWord 2 (163, [(15, a0)], [(0, v15)], s15) o
                refine AT.ite (x := (0, 0, 0)) (by decide +kernel) (show jbr (.ifCond .eq 6) (163, [(15, a0)], [(0, v15)], s15) = some ((w32 v15) = 0, (169, [(15, a0)], [], s15), (166, [(15, a0)], [], s15)) from rfl) H (fun H => ?_) (fun H => ?_)
                · refine AT.seq [(169, .aload_n 0, 1, (0, 0, 0)), (170, .bipush 119, 2, (0, 0, 0)), (172, .bipush 104, 2, (0, 0, 0)), (174, .bipush 101, 2, (0, 0, 0)), (176, .bipush 110, 2, (0, 0, 0)), (178, .iconst 0, 1, (0, 0, 0)), (179, .iconst 0, 1, (0, 0, 0))] (by decide +kernel) (show jrun _ (169, [(15, a0)], [], s15) = some ([], (180, [(15, a0)], [(0, 0), (0, 0), (0, 110), (0, 101), (0, 104), (0, 119), (15, a0)], s15)) from rfl) ?_
                  obtain ⟨v16, s16, h16, H⟩ := jb_some H
                  refine AT.callS (As := [(0, 119), (0, 104), (0, 101), (0, 110), (0, 0), (0, 0)]) (st := [(15, a0)]) (i := 148) (pos := 6178) kMd_spelled (by decide +kernel) rfl rfl rfl (by omega) (Md_spelled_ok h16) ?_
                  show AT sMd_stepWord 2 (183, [(15, a0)], [(1, v16), (15, a0)], s16) o
                  obtain ⟨v17, s17, h17, H⟩ := jb_some H
                  refine AT.callV (As := [(1, v16)]) (cl := 11) (b := a0) (st := []) (i := 152) (pos := 6181) kMd_isWord (by decide +kernel) rfl (by decide +kernel) rfl rfl (by omega) (Md_isWord_ok h17) ?_
                  show AT sMd_stepWord 2 (186, [(15, a0)], [(0, v17)], s17) o
                  refine AT.ite (x := (0, 0, 0)) (by decide +kernel) (show jbr (.ifCond .eq 6) (186, [(15, a0)], [(0, v17)], s17) = some ((w32 v17) = 0, (192, [(15, a0)], [], s17), (189, [(15, a0)], [], s17)) from rfl) H (fun H => ?_) (fun H => ?_)
                  · refine AT.seq [(192, .aload_n 0, 1, (0, 0, 0)), (193, .bipush 108, 2, (0, 0, 0)), (195, .bipush 111, 2, (0, 0, 0)), (197, .bipush 111, 2, (0, 0, 0)), (199, .bipush 112, 2, (0, 0, 0)), (201, .iconst 0, 1, (0, 0, 0)), (202, .iconst 0, 1, (0, 0, 0))] (by decide +kernel) (show jrun _ (192, [(15, a0)], [], s17) = some ([], (203, [(15, a0)], [(0, 0), (0, 0), (0, 112), (0, 111), (0, 111), (0, 108), (15, a0)], s17)) from rfl) ?_
                    obtain ⟨v18, s18, h18, H⟩ := jb_some H
                    refine AT.callS (As := [(0, 108), (0, 111), (0, 111), (0, 112), (0, 0), (0, 0)]) (st := [(15, a0)]) (i := 148) (pos := 6178) kMd_spelled (by decide +kernel) rfl rfl rfl (by omega) (Md_spelled_ok h18) ?_
                    show AT sMd_stepWord 2 (206, [(15, a0)], [(1, v18), (15, a0)], s18) o
                    obtain ⟨v19, s19, h19, H⟩ := jb_some H
                    refine AT.callV (As := [(1, v18)]) (cl := 11) (b := a0) (st := []) (i := 152) (pos := 6181) kMd_isWord (by decide +kernel) rfl (by decide +kernel) rfl rfl (by omega) (Md_isWord_ok h19) ?_
                    show AT sMd_stepWord 2 (209, [(15, a0)], [(0, v19)], s19) o
                    refine AT.ite (x := (0, 0, 0)) (by decide +kernel) (show jbr (.ifCond .eq 6) (209, [(15, a0)], [(0, v19)], s19) = some ((w32 v19) = 0, (215, [(15, a0)], [], s19), (212, [(15, a0)], [], s19)) from rfl) H (fun H => ?_) (fun H => ?_)
                    · refine AT.seq [(215, .aload_n 0, 1, (0, 0, 0)), (216, .bipush 115, 2, (0, 0, 0)), (218, .bipush 116, 2, (0, 0, 0)), (220, .bipush 111, 2, (0, 0, 0)), (222, .bipush 112, 2, (0, 0, 0)), (224, .iconst 0, 1, (0, 0, 0)), (225, .iconst 0, 1, (0, 0, 0))] (by decide +kernel) (show jrun _ (215, [(15, a0)], [], s19) = some ([], (226, [(15, a0)], [(0, 0), (0, 0), (0, 112), (0, 111), (0, 116), (0, 115), (15, a0)], s19)) from rfl) ?_
                      obtain ⟨v20, s20, h20, H⟩ := jb_some H
                      refine AT.callS (As := [(0, 115), (0, 116), (0, 111), (0, 112), (0, 0), (0, 0)]) (st := [(15, a0)]) (i := 148) (pos := 6178) kMd_spelled (by decide +kernel) rfl rfl rfl (by omega) (Md_spelled_ok h20) ?_
                      show AT sMd_stepWord 2 (229, [(15, a0)], [(1, v20), (15, a0)], s20) o
                      obtain ⟨v21, s21, h21, H⟩ := jb_some H
                      refine AT.callV (As := [(1, v20)]) (cl := 11) (b := a0) (st := []) (i := 152) (pos := 6181) kMd_isWord (by decide +kernel) rfl (by decide +kernel) rfl rfl (by omega) (Md_isWord_ok h21) ?_
                      show AT sMd_stepWord 2 (232, [(15, a0)], [(0, v21)], s21) o
                      refine AT.ite (x := (0, 0, 0)) (by decide +kernel) (show jbr (.ifCond .eq 8) (232, [(15, a0)], [(0, v21)], s21) = some ((w32 v21) = 0, (240, [(15, a0)], [], s21), (235, [(15, a0)], [], s21)) from rfl) H (fun H => ?_) (fun H => ?_)
                      · refine AT.seq [(240, .iconst (-1), 1, (0, 0, 0))] (by decide +kernel) (show jrun _ (240, [(15, a0)], [], s21) = some ([], (241, [(15, a0)], [(0, (-1))], s21)) from rfl) ?_
                        exact AT.retiH (by decide +kernel) H
                      · refine AT.seq [(235, .bipush 10, 2, (0, 0, 0)), (237, .goto 4, 3, (0, 0, 0))] (by decide +kernel) (show jrun _ (235, [(15, a0)], [], s21) = some ([], (241, [(15, a0)], [(0, 10)], s21)) from rfl) ?_
                        exact AT.retiH (by decide +kernel) H
                    · refine AT.seq [(212, .bipush 9, 2, (0, 0, 0))] (by decide +kernel) (show jrun _ (212, [(15, a0)], [], s19) = some ([], (214, [(15, a0)], [(0, 9)], s19)) from rfl) ?_
                      exact AT.retiH (by decide +kernel) H
                  · refine AT.seq [(189, .bipush 8, 2, (0, 0, 0))] (by decide +kernel) (show jrun _ (189, [(15, a0)], [], s17) = some ([], (191, [(15, a0)], [(0, 8)], s17)) from rfl) ?_
                    exact AT.retiH (by decide +kernel) H
                · refine AT.seq [(166, .bipush 7, 2, (0, 0, 0))] (by decide +kernel) (show jrun _ (166, [(15, a0)], [], s15) = some ([], (168, [(15, a0)], [(0, 7)], s15)) from rfl) ?_
                  exact AT.retiH (by decide +kernel) H
              · refine AT.seq [(144, .bipush 6, 2, (0, 0, 0))] (by decide +kernel) (show jrun _ (144, [(15, a0)], [], s13) = some ([], (146, [(15, a0)], [(0, 6)], s13)) from rfl) ?_
                exact AT.retiH (by decide +kernel) H
            · refine AT.seq [(135, .iconst 5, 1, (0, 0, 0))] (by decide +kernel) (show jrun _ (135, [(15, a0)], [], s12) = some ([], (136, [(15, a0)], [(0, 5)], s12)) from rfl) ?_
              exact AT.retiH (by decide +kernel) H
          · refine AT.seq [(111, .iconst 4, 1, (0, 0, 0))] (by decide +kernel) (show jrun _ (111, [(15, a0)], [], s10) = some ([], (112, [(15, a0)], [(0, 4)], s10)) from rfl) ?_
            exact AT.retiH (by decide +kernel) H
        · refine AT.seq [(88, .iconst 3, 1, (0, 0, 0))] (by decide +kernel) (show jrun _ (88, [(15, a0)], [], s8) = some ([], (89, [(15, a0)], [(0, 3)], s8)) from rfl) ?_
          exact AT.retiH (by decide +kernel) H
      · refine AT.seq [(65, .iconst 2, 1, (0, 0, 0))] (by decide +kernel) (show jrun _ (65, [(15, a0)], [], s6) = some ([], (66, [(15, a0)], [(0, 2)], s6)) from rfl) ?_
        exact AT.retiH (by decide +kernel) H
    · refine AT.seq [(42, .iconst 1, 1, (0, 0, 0))] (by decide +kernel) (show jrun _ (42, [(15, a0)], [], s4) = some ([], (43, [(15, a0)], [(0, 1)], s4)) from rfl) ?_
      exact AT.retiH (by decide +kernel) H
  · refine AT.seq [(20, .iconst 0, 1, (0, 0, 0))] (by decide +kernel) (show jrun _ (20, [(15, a0)], [], s2) = some ([], (21, [(15, a0)], [(0, 0)], s2)) from rfl) ?_
    exact AT.retiH (by decide +kernel) H
def sMd_testWord : jS := (⟨"JellyCathedralModel", "testWord", "()I"⟩, prog_13_method_42_code, 1, 1, [15], 0)
theorem kMd_testWord : jmk sMd_testWord = true := jmk_of 7034 1012 7033 71 (by decide +kernel)
set_option maxRecDepth 100000 in
theorem Md_testWord_ok {a0 : Int} {s : jM} {o : Int × jM} (H : Md_testWord a0 s = some o) : MK sMd_testWord 2 [(15, a0)] s o := by
  refine MK.of kMd_testWord rfl ?_
  show AT sMd_testWord 2 (0, [(15, a0)], [], s) o
  unfold Md_testWord at H
  refine AT.seq [(0, .aload_n 0, 1, (0, 0, 0)), (1, .bipush 115, 2, (0, 0, 0)), (3, .bipush 116, 2, (0, 0, 0)), (5, .bipush 97, 2, (0, 0, 0)), (7, .bipush 110, 2, (0, 0, 0)), (9, .bipush 100, 2, (0, 0, 0)), (11, .bipush 115, 2, (0, 0, 0))] (by decide +kernel) (show jrun _ (0, [(15, a0)], [], s) = some ([], (13, [(15, a0)], [(0, 115), (0, 100), (0, 110), (0, 97), (0, 116), (0, 115), (15, a0)], s)) from rfl) ?_
  obtain ⟨v1, s1, h1, H⟩ := jb_some H
  refine AT.callS (As := [(0, 115), (0, 116), (0, 97), (0, 110), (0, 100), (0, 115)]) (st := [(15, a0)]) (i := 148) (pos := 6178) kMd_spelled (by decide +kernel) rfl rfl rfl (by omega) (Md_spelled_ok h1) ?_
  show AT sMd_testWord 2 (16, [(15, a0)], [(1, v1), (15, a0)], s1) o
  obtain ⟨v2, s2, h2, H⟩ := jb_some H
  refine AT.callV (As := [(1, v1)]) (cl := 11) (b := a0) (st := []) (i := 152) (pos := 6181) kMd_isWord (by decide +kernel) rfl (by decide +kernel) rfl rfl (by omega) (Md_isWord_ok h2) ?_
  show AT sMd_testWord 2 (19, [(15, a0)], [(0, v2)], s2) o
  refine AT.ite (x := (0, 0, 0)) (by decide +kernel) (show jbr (.ifCond .eq 5) (19, [(15, a0)], [(0, v2)], s2) = some ((w32 v2) = 0, (24, [(15, a0)], [], s2), (22, [(15, a0)], [], s2)) from rfl) H (fun H => ?_) (fun H => ?_)
  · refine AT.seq [(24, .aload_n 0, 1, (0, 0, 0)), (25, .bipush 102, 2, (0, 0, 0)), (27, .bipush 105, 2, (0, 0, 0)), (29, .bipush 114, 2, (0, 0, 0)), (31, .bipush 109, 2, (0, 0, 0)), (33, .iconst 0, 1, (0, 0, 0)), (34, .iconst 0, 1, (0, 0, 0))] (by decide +kernel) (show jrun _ (24, [(15, a0)], [], s2) = some ([], (35, [(15, a0)], [(0, 0), (0, 0), (0, 109), (0, 114), (0, 105), (0, 102), (15, a0)], s2)) from rfl) ?_
    obtain ⟨v3, s3, h3, H⟩ := jb_some H
    refine AT.callS (As := [(0, 102), (0, 105), (0, 114), (0, 109), (0, 0), (0, 0)]) (st := [(15, a0)]) (i := 148) (pos := 6178) kMd_spelled (by decide +kernel) rfl rfl rfl (by omega) (Md_spelled_ok h3) ?_
    show AT sMd_testWord 2 (38, [(15, a0)], [(1, v3), (15, a0)], s3) o
    obtain ⟨v4, s4, h4, H⟩ := jb_some H
    refine AT.callV (As := [(1, v3)]) (cl := 11) (b := a0) (st := []) (i := 152) (pos := 6181) kMd_isWord (by decide +kernel) rfl (by decide +kernel) rfl rfl (by omega) (Md_isWord_ok h4) ?_
    show AT sMd_testWord 2 (41, [(15, a0)], [(0, v4)], s4) o
    refine AT.ite (x := (0, 0, 0)) (by decide +kernel) (show jbr (.ifCond .eq 5) (41, [(15, a0)], [(0, v4)], s4) = some ((w32 v4) = 0, (46, [(15, a0)], [], s4), (44, [(15, a0)], [], s4)) from rfl) H (fun H => ?_) (fun H => ?_)
    · refine AT.seq [(46, .aload_n 0, 1, (0, 0, 0))] (by decide +kernel) (show jrun _ (46, [(15, a0)], [], s4) = some ([], (47, [(15, a0)], [(15, a0)], s4)) from rfl) ?_
      obtain ⟨v5, s5, h5, H⟩ := jb_some H
      refine AT.callV (As := []) (cl := 11) (b := a0) (st := []) (i := 160) (pos := 7035) kMd_isAt (by decide +kernel) rfl (by decide +kernel) rfl rfl (by omega) (Md_isAt_ok h5) ?_
      show AT sMd_testWord 2 (50, [(15, a0)], [(0, v5)], s5) o
      refine AT.ite (x := (0, 0, 0)) (by decide +kernel) (show jbr (.ifCond .eq 7) (50, [(15, a0)], [(0, v5)], s5) = some ((w32 v5) = 0, (57, [(15, a0)], [], s5), (53, [(15, a0)], [], s5)) from rfl) H (fun H => ?_) (fun H => ?_)
      · refine AT.seq [(57, .iconst (-1), 1, (0, 0, 0))] (by decide +kernel) (show jrun _ (57, [(15, a0)], [], s5) = some ([], (58, [(15, a0)], [(0, (-1))], s5)) from rfl) ?_
        exact AT.retiH (by decide +kernel) H
      · refine AT.seq [(53, .iconst 2, 1, (0, 0, 0)), (54, .goto 4, 3, (0, 0, 0))] (by decide +kernel) (show jrun _ (53, [(15, a0)], [], s5) = some ([], (58, [(15, a0)], [(0, 2)], s5)) from rfl) ?_
        exact AT.retiH (by decide +kernel) H
    · refine AT.seq [(44, .iconst 1, 1, (0, 0, 0))] (by decide +kernel) (show jrun _ (44, [(15, a0)], [], s4) = some ([], (45, [(15, a0)], [(0, 1)], s4)) from rfl) ?_
      exact AT.retiH (by decide +kernel) H
  · refine AT.seq [(22, .iconst 0, 1, (0, 0, 0))] (by decide +kernel) (show jrun _ (22, [(15, a0)], [], s2) = some ([], (23, [(15, a0)], [(0, 0)], s2)) from rfl) ?_
    exact AT.retiH (by decide +kernel) H
def sMd_isEnd : jS := (⟨"JellyCathedralModel", "isEnd", "()Z"⟩, prog_13_method_43_code, 1, 3, [15], 0)
theorem kMd_isEnd : jmk sMd_isEnd = true := jmk_of 7042 1012 7041 73 (by decide +kernel)
set_option maxRecDepth 100000 in
theorem Md_isEnd_ok {a0 : Int} {s : jM} {o : Int × jM} (H : Md_isEnd a0 s = some o) : MK sMd_isEnd 1 [(15, a0)] s o := by
  refine MK.of kMd_isEnd rfl ?_
  show AT sMd_isEnd 1 (0, [(15, a0)], [], s) o
  unfold Md_isEnd at H
  refine AT.seq [(0, .aload_n 0, 1, (0, 0, 0)), (1, .bipush 101, 2, (0, 0, 0)), (3, .bipush 110, 2, (0, 0, 0)), (5, .bipush 100, 2, (0, 0, 0)), (7, .iconst 0, 1, (0, 0, 0)), (8, .iconst 0, 1, (0, 0, 0)), (9, .iconst 0, 1, (0, 0, 0))] (by decide +kernel) (show jrun _ (0, [(15, a0)], [], s) = some ([], (10, [(15, a0)], [(0, 0), (0, 0), (0, 0), (0, 100), (0, 110), (0, 101), (15, a0)], s)) from rfl) ?_
  obtain ⟨v1, s1, h1, H⟩ := jb_some H
  refine AT.callS (As := [(0, 101), (0, 110), (0, 100), (0, 0), (0, 0), (0, 0)]) (st := [(15, a0)]) (i := 148) (pos := 6178) kMd_spelled (by decide +kernel) rfl rfl rfl (by omega) (Md_spelled_ok h1) ?_
  show AT sMd_isEnd 1 (13, [(15, a0)], [(1, v1), (15, a0)], s1) o
  obtain ⟨v2, s2, h2, H⟩ := jb_some H
  refine AT.callV (As := [(1, v1)]) (cl := 11) (b := a0) (st := []) (i := 152) (pos := 6181) kMd_isWord (by decide +kernel) rfl (by decide +kernel) rfl rfl (by omega) (Md_isWord_ok h2) ?_
  show AT sMd_isEnd 1 (16, [(15, a0)], [(0, v2)], s2) o
  exact AT.retzH (by decide +kernel) H
def sMd_isKept : jS := (⟨"JellyCathedralModel", "isKept", "()Z"⟩, prog_13_method_44_code, 1, 3, [15], 0)
theorem kMd_isKept : jmk sMd_isKept = true := jmk_of 6230 1012 6229 60 (by decide +kernel)
set_option maxRecDepth 100000 in
theorem Md_isKept_ok {a0 : Int} {s : jM} {o : Int × jM} (H : Md_isKept a0 s = some o) : MK sMd_isKept 3 [(15, a0)] s o := by
  refine MK.of kMd_isKept rfl ?_
  show AT sMd_isKept 3 (0, [(15, a0)], [], s) o
  unfold Md_isKept at H
  refine AT.seq [(0, .aload_n 0, 1, (0, 0, 0))] (by decide +kernel) (show jrun _ (0, [(15, a0)], [], s) = some ([], (1, [(15, a0)], [(15, a0)], s)) from rfl) ?_
  obtain ⟨v1, s1, h1, H⟩ := jb_some H
  refine AT.callV (As := []) (cl := 11) (b := a0) (st := []) (i := 163) (pos := 6207) kMd_isOdds (by decide +kernel) rfl (by decide +kernel) rfl rfl (by omega) (Md_isOdds_ok h1) ?_
  show AT sMd_isKept 3 (4, [(15, a0)], [(0, v1)], s1) o
  refine AT.ite (x := (0, 0, 0)) (by decide +kernel) (show jbr (.ifCond .ne 73) (4, [(15, a0)], [(0, v1)], s1) = some ((w32 v1) = 0, (7, [(15, a0)], [], s1), (77, [(15, a0)], [], s1)) from rfl) H (fun H => ?_) (fun H => ?_)
  · refine AT.seq [(7, .aload_n 0, 1, (0, 0, 0))] (by decide +kernel) (show jrun _ (7, [(15, a0)], [], s1) = some ([], (8, [(15, a0)], [(15, a0)], s1)) from rfl) ?_
    obtain ⟨v2, s2, h2, H⟩ := jb_some H
    refine AT.callV (As := []) (cl := 11) (b := a0) (st := []) (i := 166) (pos := 6211) kMd_isStuff (by decide +kernel) rfl (by decide +kernel) rfl rfl (by omega) (Md_isStuff_ok h2) ?_
    show AT sMd_isKept 3 (11, [(15, a0)], [(0, v2)], s2) o
    refine AT.ite (x := (0, 0, 0)) (by decide +kernel) (show jbr (.ifCond .ne 66) (11, [(15, a0)], [(0, v2)], s2) = some ((w32 v2) = 0, (14, [(15, a0)], [], s2), (77, [(15, a0)], [], s2)) from rfl) H (fun H => ?_) (fun H => ?_)
    · refine AT.seq [(14, .aload_n 0, 1, (0, 0, 0))] (by decide +kernel) (show jrun _ (14, [(15, a0)], [], s2) = some ([], (15, [(15, a0)], [(15, a0)], s2)) from rfl) ?_
      obtain ⟨v3, s3, h3, H⟩ := jb_some H
      refine AT.callV (As := []) (cl := 11) (b := a0) (st := []) (i := 169) (pos := 6231) kMd_isSets (by decide +kernel) rfl (by decide +kernel) rfl rfl (by omega) (Md_isSets_ok h3) ?_
      show AT sMd_isKept 3 (18, [(15, a0)], [(0, v3)], s3) o
      refine AT.ite (x := (0, 0, 0)) (by decide +kernel) (show jbr (.ifCond .ne 59) (18, [(15, a0)], [(0, v3)], s3) = some ((w32 v3) = 0, (21, [(15, a0)], [], s3), (77, [(15, a0)], [], s3)) from rfl) H (fun H => ?_) (fun H => ?_)
      · refine AT.seq [(21, .aload_n 0, 1, (0, 0, 0))] (by decide +kernel) (show jrun _ (21, [(15, a0)], [], s3) = some ([], (22, [(15, a0)], [(15, a0)], s3)) from rfl) ?_
        obtain ⟨v4, s4, h4, H⟩ := jb_some H
        refine AT.callV (As := []) (cl := 11) (b := a0) (st := []) (i := 172) (pos := 6235) kMd_isCosts (by decide +kernel) rfl (by decide +kernel) rfl rfl (by omega) (Md_isCosts_ok h4) ?_
        show AT sMd_isKept 3 (25, [(15, a0)], [(0, v4)], s4) o
        refine AT.ite (x := (0, 0, 0)) (by decide +kernel) (show jbr (.ifCond .ne 52) (25, [(15, a0)], [(0, v4)], s4) = some ((w32 v4) = 0, (28, [(15, a0)], [], s4), (77, [(15, a0)], [], s4)) from rfl) H (fun H => ?_) (fun H => ?_)
        · refine AT.seq [(28, .aload_n 0, 1, (0, 0, 0))] (by decide +kernel) (show jrun _ (28, [(15, a0)], [], s4) = some ([], (29, [(15, a0)], [(15, a0)], s4)) from rfl) ?_
          obtain ⟨v5, s5, h5, H⟩ := jb_some H
          refine AT.callV (As := []) (cl := 11) (b := a0) (st := []) (i := 175) (pos := 6239) kMd_isStock (by decide +kernel) rfl (by decide +kernel) rfl rfl (by omega) (Md_isStock_ok h5) ?_
          show AT sMd_isKept 3 (32, [(15, a0)], [(0, v5)], s5) o
          refine AT.ite (x := (0, 0, 0)) (by decide +kernel) (show jbr (.ifCond .ne 45) (32, [(15, a0)], [(0, v5)], s5) = some ((w32 v5) = 0, (35, [(15, a0)], [], s5), (77, [(15, a0)], [], s5)) from rfl) H (fun H => ?_) (fun H => ?_)
          · refine AT.seq [(35, .aload_n 0, 1, (0, 0, 0))] (by decide +kernel) (show jrun _ (35, [(15, a0)], [], s5) = some ([], (36, [(15, a0)], [(15, a0)], s5)) from rfl) ?_
            obtain ⟨v6, s6, h6, H⟩ := jb_some H
            refine AT.callV (As := []) (cl := 11) (b := a0) (st := []) (i := 178) (pos := 7003) kMd_isPlace (by decide +kernel) rfl (by decide +kernel) rfl rfl (by omega) (Md_isPlace_ok h6) ?_
            show AT sMd_isKept 3 (39, [(15, a0)], [(0, v6)], s6) o
            refine AT.ite (x := (0, 0, 0)) (by decide +kernel) (show jbr (.ifCond .ne 38) (39, [(15, a0)], [(0, v6)], s6) = some ((w32 v6) = 0, (42, [(15, a0)], [], s6), (77, [(15, a0)], [], s6)) from rfl) H (fun H => ?_) (fun H => ?_)
            · refine AT.seq [(42, .aload_n 0, 1, (0, 0, 0))] (by decide +kernel) (show jrun _ (42, [(15, a0)], [], s6) = some ([], (43, [(15, a0)], [(15, a0)], s6)) from rfl) ?_
              obtain ⟨v7, s7, h7, H⟩ := jb_some H
              refine AT.callV (As := []) (cl := 11) (b := a0) (st := []) (i := 181) (pos := 7007) kMd_isWalk (by decide +kernel) rfl (by decide +kernel) rfl rfl (by omega) (Md_isWalk_ok h7) ?_
              show AT sMd_isKept 3 (46, [(15, a0)], [(0, v7)], s7) o
              refine AT.ite (x := (0, 0, 0)) (by decide +kernel) (show jbr (.ifCond .ne 31) (46, [(15, a0)], [(0, v7)], s7) = some ((w32 v7) = 0, (49, [(15, a0)], [], s7), (77, [(15, a0)], [], s7)) from rfl) H (fun H => ?_) (fun H => ?_)
              · refine AT.seq [(49, .aload_n 0, 1, (0, 0, 0))] (by decide +kernel) (show jrun _ (49, [(15, a0)], [], s7) = some ([], (50, [(15, a0)], [(15, a0)], s7)) from rfl) ?_
                obtain ⟨v8, s8, h8, H⟩ := jb_some H
                refine AT.callV (As := []) (cl := 11) (b := a0) (st := []) (i := 184) (pos := 7011) kMd_isShakes (by decide +kernel) rfl (by decide +kernel) rfl rfl (by omega) (Md_isShakes_ok h8) ?_
                show AT sMd_isKept 3 (53, [(15, a0)], [(0, v8)], s8) o
                refine AT.ite (x := (0, 0, 0)) (by decide +kernel) (show jbr (.ifCond .ne 24) (53, [(15, a0)], [(0, v8)], s8) = some ((w32 v8) = 0, (56, [(15, a0)], [], s8), (77, [(15, a0)], [], s8)) from rfl) H (fun H => ?_) (fun H => ?_)
                · refine AT.seq [(56, .aload_n 0, 1, (0, 0, 0))] (by decide +kernel) (show jrun _ (56, [(15, a0)], [], s8) = some ([], (57, [(15, a0)], [(15, a0)], s8)) from rfl) ?_
                  obtain ⟨v9, s9, h9, H⟩ := jb_some H
                  refine AT.callV (As := []) (cl := 11) (b := a0) (st := []) (i := 187) (pos := 7015) kMd_isMould (by decide +kernel) rfl (by decide +kernel) rfl rfl (by omega) (Md_isMould_ok h9) ?_
                  show AT sMd_isKept 3 (60, [(15, a0)], [(0, v9)], s9) o
                  refine AT.ite (x := (0, 0, 0)) (by decide +kernel) (show jbr (.ifCond .ne 17) (60, [(15, a0)], [(0, v9)], s9) = some ((w32 v9) = 0, (63, [(15, a0)], [], s9), (77, [(15, a0)], [], s9)) from rfl) H (fun H => ?_) (fun H => ?_)
                  · refine AT.seq [(63, .aload_n 0, 1, (0, 0, 0))] (by decide +kernel) (show jrun _ (63, [(15, a0)], [], s9) = some ([], (64, [(15, a0)], [(15, a0)], s9)) from rfl) ?_
                    obtain ⟨v10, s10, h10, H⟩ := jb_some H
                    refine AT.callV (As := []) (cl := 11) (b := a0) (st := []) (i := 190) (pos := 7019) kMd_isHigh (by decide +kernel) rfl (by decide +kernel) rfl rfl (by omega) (Md_isHigh_ok h10) ?_
                    show AT sMd_isKept 3 (67, [(15, a0)], [(0, v10)], s10) o
                    refine AT.ite (x := (0, 0, 0)) (by decide +kernel) (show jbr (.ifCond .ne 10) (67, [(15, a0)], [(0, v10)], s10) = some ((w32 v10) = 0, (70, [(15, a0)], [], s10), (77, [(15, a0)], [], s10)) from rfl) H (fun H => ?_) (fun H => ?_)
                    · refine AT.seq [(70, .aload_n 0, 1, (0, 0, 0))] (by decide +kernel) (show jrun _ (70, [(15, a0)], [], s10) = some ([], (71, [(15, a0)], [(15, a0)], s10)) from rfl) ?_
                      obtain ⟨v11, s11, h11, H⟩ := jb_some H
                      refine AT.callV (As := []) (cl := 11) (b := a0) (st := []) (i := 193) (pos := 7023) kMd_isHolds (by decide +kernel) rfl (by decide +kernel) rfl rfl (by omega) (Md_isHolds_ok h11) ?_
                      show AT sMd_isKept 3 (74, [(15, a0)], [(0, v11)], s11) o
                      refine AT.ite (x := (0, 0, 0)) (by decide +kernel) (show jbr (.ifCond .eq 5) (74, [(15, a0)], [(0, v11)], s11) = some ((w32 v11) = 0, (79, [(15, a0)], [], s11), (77, [(15, a0)], [], s11)) from rfl) H (fun H => ?_) (fun H => ?_)
                      · refine AT.seq [(79, .aload_n 0, 1, (0, 0, 0))] (by decide +kernel) (show jrun _ (79, [(15, a0)], [], s11) = some ([], (80, [(15, a0)], [(15, a0)], s11)) from rfl) ?_
                        obtain ⟨v12, s12, h12, H⟩ := jb_some H
                        refine AT.callV (As := []) (cl := 11) (b := a0) (st := []) (i := 196) (pos := 7027) kMd_stepWord (by decide +kernel) rfl (by decide +kernel) rfl rfl (by omega) (Md_stepWord_ok h12) ?_
                        show AT sMd_isKept 3 (83, [(15, a0)], [(0, v12)], s12) o
                        refine AT.ite (x := (0, 0, 0)) (by decide +kernel) (show jbr (.ifCond .ge 17) (83, [(15, a0)], [(0, v12)], s12) = some ((w32 v12) < 0, (86, [(15, a0)], [], s12), (100, [(15, a0)], [], s12)) from rfl) H (fun H => ?_) (fun H => ?_)
                        · refine AT.seq [(86, .aload_n 0, 1, (0, 0, 0))] (by decide +kernel) (show jrun _ (86, [(15, a0)], [], s12) = some ([], (87, [(15, a0)], [(15, a0)], s12)) from rfl) ?_
                          obtain ⟨v13, s13, h13, H⟩ := jb_some H
                          refine AT.callV (As := []) (cl := 11) (b := a0) (st := []) (i := 200) (pos := 7031) kMd_testWord (by decide +kernel) rfl (by decide +kernel) rfl rfl (by omega) (Md_testWord_ok h13) ?_
                          show AT sMd_isKept 3 (90, [(15, a0)], [(0, v13)], s13) o
                          refine AT.ite (x := (0, 0, 0)) (by decide +kernel) (show jbr (.ifCond .ge 10) (90, [(15, a0)], [(0, v13)], s13) = some ((w32 v13) < 0, (93, [(15, a0)], [], s13), (100, [(15, a0)], [], s13)) from rfl) H (fun H => ?_) (fun H => ?_)
                          · refine AT.seq [(93, .aload_n 0, 1, (0, 0, 0))] (by decide +kernel) (show jrun _ (93, [(15, a0)], [], s13) = some ([], (94, [(15, a0)], [(15, a0)], s13)) from rfl) ?_
                            obtain ⟨v14, s14, h14, H⟩ := jb_some H
                            refine AT.callV (As := []) (cl := 11) (b := a0) (st := []) (i := 203) (pos := 7039) kMd_isEnd (by decide +kernel) rfl (by decide +kernel) rfl rfl (by omega) (Md_isEnd_ok h14) ?_
                            show AT sMd_isKept 3 (97, [(15, a0)], [(0, v14)], s14) o
                            refine AT.ite (x := (0, 0, 0)) (by decide +kernel) (show jbr (.ifCond .eq 7) (97, [(15, a0)], [(0, v14)], s14) = some ((w32 v14) = 0, (104, [(15, a0)], [], s14), (100, [(15, a0)], [], s14)) from rfl) H (fun H => ?_) (fun H => ?_)
                            · refine AT.seq [(104, .iconst 0, 1, (0, 0, 0))] (by decide +kernel) (show jrun _ (104, [(15, a0)], [], s14) = some ([], (105, [(15, a0)], [(0, 0)], s14)) from rfl) ?_
                              exact AT.retzC (by decide +kernel) (by decide) H
                            · refine AT.seq [(100, .iconst 1, 1, (0, 0, 0)), (101, .goto 4, 3, (0, 0, 0))] (by decide +kernel) (show jrun _ (100, [(15, a0)], [], s14) = some ([], (105, [(15, a0)], [(0, 1)], s14)) from rfl) ?_
                              exact AT.retzC (by decide +kernel) (by decide) H
                          · refine AT.seq [(100, .iconst 1, 1, (0, 0, 0)), (101, .goto 4, 3, (0, 0, 0))] (by decide +kernel) (show jrun _ (100, [(15, a0)], [], s13) = some ([], (105, [(15, a0)], [(0, 1)], s13)) from rfl) ?_
                            exact AT.retzC (by decide +kernel) (by decide) H
                        · refine AT.seq [(100, .iconst 1, 1, (0, 0, 0)), (101, .goto 4, 3, (0, 0, 0))] (by decide +kernel) (show jrun _ (100, [(15, a0)], [], s12) = some ([], (105, [(15, a0)], [(0, 1)], s12)) from rfl) ?_
                          exact AT.retzC (by decide +kernel) (by decide) H
                      · refine AT.seq [(77, .iconst 1, 1, (0, 0, 0))] (by decide +kernel) (show jrun _ (77, [(15, a0)], [], s11) = some ([], (78, [(15, a0)], [(0, 1)], s11)) from rfl) ?_
                        exact AT.retzC (by decide +kernel) (by decide) H
                    · refine AT.seq [(77, .iconst 1, 1, (0, 0, 0))] (by decide +kernel) (show jrun _ (77, [(15, a0)], [], s10) = some ([], (78, [(15, a0)], [(0, 1)], s10)) from rfl) ?_
                      exact AT.retzC (by decide +kernel) (by decide) H
                  · refine AT.seq [(77, .iconst 1, 1, (0, 0, 0))] (by decide +kernel) (show jrun _ (77, [(15, a0)], [], s9) = some ([], (78, [(15, a0)], [(0, 1)], s9)) from rfl) ?_
                    exact AT.retzC (by decide +kernel) (by decide) H
                · refine AT.seq [(77, .iconst 1, 1, (0, 0, 0))] (by decide +kernel) (show jrun _ (77, [(15, a0)], [], s8) = some ([], (78, [(15, a0)], [(0, 1)], s8)) from rfl) ?_
                  exact AT.retzC (by decide +kernel) (by decide) H
              · refine AT.seq [(77, .iconst 1, 1, (0, 0, 0))] (by decide +kernel) (show jrun _ (77, [(15, a0)], [], s7) = some ([], (78, [(15, a0)], [(0, 1)], s7)) from rfl) ?_
                exact AT.retzC (by decide +kernel) (by decide) H
            · refine AT.seq [(77, .iconst 1, 1, (0, 0, 0))] (by decide +kernel) (show jrun _ (77, [(15, a0)], [], s6) = some ([], (78, [(15, a0)], [(0, 1)], s6)) from rfl) ?_
              exact AT.retzC (by decide +kernel) (by decide) H
          · refine AT.seq [(77, .iconst 1, 1, (0, 0, 0))] (by decide +kernel) (show jrun _ (77, [(15, a0)], [], s5) = some ([], (78, [(15, a0)], [(0, 1)], s5)) from rfl) ?_
            exact AT.retzC (by decide +kernel) (by decide) H
        · refine AT.seq [(77, .iconst 1, 1, (0, 0, 0))] (by decide +kernel) (show jrun _ (77, [(15, a0)], [], s4) = some ([], (78, [(15, a0)], [(0, 1)], s4)) from rfl) ?_
          exact AT.retzC (by decide +kernel) (by decide) H
      · refine AT.seq [(77, .iconst 1, 1, (0, 0, 0))] (by decide +kernel) (show jrun _ (77, [(15, a0)], [], s3) = some ([], (78, [(15, a0)], [(0, 1)], s3)) from rfl) ?_
        exact AT.retzC (by decide +kernel) (by decide) H
    · refine AT.seq [(77, .iconst 1, 1, (0, 0, 0))] (by decide +kernel) (show jrun _ (77, [(15, a0)], [], s2) = some ([], (78, [(15, a0)], [(0, 1)], s2)) from rfl) ?_
      exact AT.retzC (by decide +kernel) (by decide) H
  · refine AT.seq [(77, .iconst 1, 1, (0, 0, 0))] (by decide +kernel) (show jrun _ (77, [(15, a0)], [], s1) = some ([], (78, [(15, a0)], [(0, 1)], s1)) from rfl) ?_
    exact AT.retzC (by decide +kernel) (by decide) H
def sMd_isName : jS := (⟨"JellyCathedralModel", "isName", "()Z"⟩, prog_13_method_45_code, 1, 3, [15], 0)
theorem kMd_isName : jmk sMd_isName = true := jmk_of 6226 1012 6225 59 (by decide +kernel)
set_option maxRecDepth 100000 in
theorem Md_isName_ok {a0 : Int} {s : jM} {o : Int × jM} (H : Md_isName a0 s = some o) : MK sMd_isName 4 [(15, a0)] s o := by
  refine MK.of kMd_isName rfl ?_
  show AT sMd_isName 4 (0, [(15, a0)], [], s) o
  unfold Md_isName at H
  refine AT.seq [(0, .aload_n 0, 1, (0, 0, 0)), (1, .getfield 123, 3, (5201, 1114, 0)), (4, .iconst 1, 1, (0, 0, 0))] (by decide +kernel) (show jrun _ (0, [(15, a0)], [], s) = some ([], (5, [(15, a0)], [(0, 1), (0, (s a0 14))], s)) from rfl) ?_
  refine AT.ite (x := (0, 0, 0)) (by decide +kernel) (show jbr (.if_icmp .ne 23) (5, [(15, a0)], [(0, 1), (0, (s a0 14))], s) = some ((w32 (s a0 14)) = 1, (8, [(15, a0)], [], s), (28, [(15, a0)], [], s)) from rfl) H (fun H => ?_) (fun H => ?_)
  · refine AT.seq [(8, .aload_n 0, 1, (0, 0, 0)), (9, .getfield 136, 3, (5205, 1118, 0)), (12, .bipush 8, 2, (0, 0, 0))] (by decide +kernel) (show jrun _ (8, [(15, a0)], [], s) = some ([], (14, [(15, a0)], [(0, 8), (0, (s a0 18))], s)) from rfl) ?_
    refine AT.ite (x := (0, 0, 0)) (by decide +kernel) (show jbr (.if_icmp .gt 14) (14, [(15, a0)], [(0, 8), (0, (s a0 18))], s) = some (8 < (w32 (s a0 18)), (28, [(15, a0)], [], s), (17, [(15, a0)], [], s)) from rfl) H (fun H => ?_) (fun H => ?_)
    · refine AT.seq [(28, .iconst 0, 1, (0, 0, 0))] (by decide +kernel) (show jrun _ (28, [(15, a0)], [], s) = some ([], (29, [(15, a0)], [(0, 0)], s)) from rfl) ?_
      exact AT.retzC (by decide +kernel) (by decide) H
    · refine AT.seq [(17, .aload_n 0, 1, (0, 0, 0))] (by decide +kernel) (show jrun _ (17, [(15, a0)], [], s) = some ([], (18, [(15, a0)], [(15, a0)], s)) from rfl) ?_
      obtain ⟨v1, s1, h1, H⟩ := jb_some H
      refine AT.callV (As := []) (cl := 11) (b := a0) (st := []) (i := 206) (pos := 6227) kMd_isKept (by decide +kernel) rfl (by decide +kernel) rfl rfl (by omega) (Md_isKept_ok h1) ?_
      show AT sMd_isName 4 (21, [(15, a0)], [(0, v1)], s1) o
      refine AT.ite (x := (0, 0, 0)) (by decide +kernel) (show jbr (.ifCond .ne 7) (21, [(15, a0)], [(0, v1)], s1) = some ((w32 v1) = 0, (24, [(15, a0)], [], s1), (28, [(15, a0)], [], s1)) from rfl) H (fun H => ?_) (fun H => ?_)
      · refine AT.seq [(24, .iconst 1, 1, (0, 0, 0)), (25, .goto 4, 3, (0, 0, 0))] (by decide +kernel) (show jrun _ (24, [(15, a0)], [], s1) = some ([], (29, [(15, a0)], [(0, 1)], s1)) from rfl) ?_
        exact AT.retzC (by decide +kernel) (by decide) H
      · refine AT.seq [(28, .iconst 0, 1, (0, 0, 0))] (by decide +kernel) (show jrun _ (28, [(15, a0)], [], s1) = some ([], (29, [(15, a0)], [(0, 0)], s1)) from rfl) ?_
        exact AT.retzC (by decide +kernel) (by decide) H
  · refine AT.seq [(28, .iconst 0, 1, (0, 0, 0))] (by decide +kernel) (show jrun _ (28, [(15, a0)], [], s) = some ([], (29, [(15, a0)], [(0, 0)], s)) from rfl) ?_
    exact AT.retzC (by decide +kernel) (by decide) H
def sMd_fail : jS := (⟨"JellyCathedralModel", "fail", "(II)V"⟩, prog_13_method_46_code, 3, 0, [15, 0, 0], 0)
theorem kMd_fail : jmk sMd_fail = true := jmk_of 6195 1012 6194 52 (by decide +kernel)
set_option maxRecDepth 100000 in
theorem Md_fail_ok {a0 a1 a2 : Int} {s : jM} {o : Int × jM} (H : Md_fail a0 a1 a2 s = some o) : MK sMd_fail 0 [(15, a0), (0, a1), (0, a2)] s o := by
  refine MK.of kMd_fail rfl ?_
  show AT sMd_fail 0 (0, [(15, a0), (0, a1), (0, a2)], [], s) o
  unfold Md_fail at H
  refine AT.seq [(0, .aload_n 0, 1, (0, 0, 0)), (1, .getfield 209, 3, (5199, 1112, 0))] (by decide +kernel) (show jrun _ (0, [(15, a0), (0, a1), (0, a2)], [], s) = some ([], (4, [(15, a0), (0, a1), (0, a2)], [(0, (s a0 12))], s)) from rfl) ?_
  refine AT.ite (x := (0, 0, 0)) (by decide +kernel) (show jbr (.ifCond .le 4) (4, [(15, a0), (0, a1), (0, a2)], [(0, (s a0 12))], s) = some (0 < (w32 (s a0 12)), (7, [(15, a0), (0, a1), (0, a2)], [], s), (8, [(15, a0), (0, a1), (0, a2)], [], s)) from rfl) H (fun H => ?_) (fun H => ?_)
  · exact AT.retvH (by decide +kernel) H
  · refine AT.seq [(8, .aload_n 0, 1, (0, 0, 0)), (9, .iload_n 1, 1, (0, 0, 0)), (10, .putfield 209, 3, (5199, 1112, 0)), (13, .aload_n 0, 1, (0, 0, 0)), (14, .iload_n 2, 1, (0, 0, 0)), (15, .putfield 212, 3, (5200, 1113, 0))] (by decide +kernel) (show jrun _ (8, [(15, a0), (0, a1), (0, a2)], [], s) = some ([], (18, [(15, a0), (0, a1), (0, a2)], [], (jup (jup s a0 12 a1) a0 13 a2))) from rfl) ?_
    exact AT.retvH (by decide +kernel) H
def sMd_amiss : jS := (⟨"JellyCathedralModel", "amiss", "()V"⟩, prog_13_method_47_code, 1, 0, [15], 0)
theorem kMd_amiss : jmk sMd_amiss = true := jmk_of 6203 1012 6202 54 (by decide +kernel)
set_option maxRecDepth 100000 in
theorem Md_amiss_ok {a0 : Int} {s : jM} {o : Int × jM} (H : Md_amiss a0 s = some o) : MK sMd_amiss 1 [(15, a0)] s o := by
  refine MK.of kMd_amiss rfl ?_
  show AT sMd_amiss 1 (0, [(15, a0)], [], s) o
  unfold Md_amiss at H
  refine AT.seq [(0, .aload_n 0, 1, (0, 0, 0)), (1, .aload_n 0, 1, (0, 0, 0)), (2, .getfield 123, 3, (5201, 1114, 0)), (5, .iconst 4, 1, (0, 0, 0))] (by decide +kernel) (show jrun _ (0, [(15, a0)], [], s) = some ([], (6, [(15, a0)], [(0, 4), (0, (s a0 14)), (15, a0)], s)) from rfl) ?_
  refine AT.ite (x := (0, 0, 0)) (by decide +kernel) (show jbr (.if_icmp .ne 7) (6, [(15, a0)], [(0, 4), (0, (s a0 14)), (15, a0)], s) = some ((w32 (s a0 14)) = 4, (9, [(15, a0)], [(15, a0)], s), (13, [(15, a0)], [(15, a0)], s)) from rfl) H (fun H => ?_) (fun H => ?_)
  · refine AT.seq [(9, .iconst 1, 1, (0, 0, 0)), (10, .goto 4, 3, (0, 0, 0)), (14, .aload_n 0, 1, (0, 0, 0)), (15, .getfield 117, 3, (5202, 1115, 0))] (by decide +kernel) (show jrun _ (9, [(15, a0)], [(15, a0)], s) = some ([], (18, [(15, a0)], [(0, (s a0 15)), (0, 1), (15, a0)], s)) from rfl) ?_
    obtain ⟨v1, s1, h1, H⟩ := jb_some H
    refine AT.callV (As := [(0, 1), (0, (s a0 15))]) (cl := 11) (b := a0) (st := []) (i := 215) (pos := 6192) kMd_fail (by decide +kernel) rfl (by decide +kernel) rfl rfl (by omega) (Md_fail_ok h1) ?_
    show AT sMd_amiss 1 (21, [(15, a0)], [], s1) o
    exact AT.retvH (by decide +kernel) H
  · refine AT.seq [(13, .iconst 2, 1, (0, 0, 0)), (14, .aload_n 0, 1, (0, 0, 0)), (15, .getfield 117, 3, (5202, 1115, 0))] (by decide +kernel) (show jrun _ (13, [(15, a0)], [(15, a0)], s) = some ([], (18, [(15, a0)], [(0, (s a0 15)), (0, 2), (15, a0)], s)) from rfl) ?_
    obtain ⟨v2, s2, h2, H⟩ := jb_some H
    refine AT.callV (As := [(0, 2), (0, (s a0 15))]) (cl := 11) (b := a0) (st := []) (i := 215) (pos := 6192) kMd_fail (by decide +kernel) rfl (by decide +kernel) rfl rfl (by omega) (Md_fail_ok h2) ?_
    show AT sMd_amiss 1 (21, [(15, a0)], [], s2) o
    exact AT.retvH (by decide +kernel) H
def sMd_must : jS := (⟨"JellyCathedralModel", "must", "(Z)V"⟩, prog_13_method_48_code, 2, 0, [15, 0], 0)
theorem kMd_must : jmk sMd_must = true := jmk_of 7057 1012 7056 76 (by decide +kernel)
set_option maxRecDepth 100000 in
theorem Md_must_ok {a0 a1 : Int} {s : jM} {o : Int × jM} (H : Md_must a0 a1 s = some o) : MK sMd_must 2 [(15, a0), (0, a1)] s o := by
  refine MK.of kMd_must rfl ?_
  show AT sMd_must 2 (0, [(15, a0), (0, a1)], [], s) o
  unfold Md_must at H
  refine AT.seq [(0, .aload_n 0, 1, (0, 0, 0)), (1, .getfield 209, 3, (5199, 1112, 0))] (by decide +kernel) (show jrun _ (0, [(15, a0), (0, a1)], [], s) = some ([], (4, [(15, a0), (0, a1)], [(0, (s a0 12))], s)) from rfl) ?_
  refine AT.ite (x := (0, 0, 0)) (by decide +kernel) (show jbr (.ifCond .le 4) (4, [(15, a0), (0, a1)], [(0, (s a0 12))], s) = some (0 < (w32 (s a0 12)), (7, [(15, a0), (0, a1)], [], s), (8, [(15, a0), (0, a1)], [], s)) from rfl) H (fun H => ?_) (fun H => ?_)
  · exact AT.retvH (by decide +kernel) H
  · refine AT.seq [(8, .iload_n 1, 1, (0, 0, 0))] (by decide +kernel) (show jrun _ (8, [(15, a0), (0, a1)], [], s) = some ([], (9, [(15, a0), (0, a1)], [(0, a1)], s)) from rfl) ?_
    refine AT.ite (x := (0, 0, 0)) (by decide +kernel) (show jbr (.ifCond .eq 10) (9, [(15, a0), (0, a1)], [(0, a1)], s) = some ((w32 a1) = 0, (19, [(15, a0), (0, a1)], [], s), (12, [(15, a0), (0, a1)], [], s)) from rfl) H (fun H => ?_) (fun H => ?_)
    · refine AT.seq [(19, .aload_n 0, 1, (0, 0, 0))] (by decide +kernel) (show jrun _ (19, [(15, a0), (0, a1)], [], s) = some ([], (20, [(15, a0), (0, a1)], [(15, a0)], s)) from rfl) ?_
      obtain ⟨v1, s1, h1, H⟩ := jb_some H
      refine AT.callV (As := []) (cl := 11) (b := a0) (st := []) (i := 222) (pos := 6200) kMd_amiss (by decide +kernel) rfl (by decide +kernel) rfl rfl (by omega) (Md_amiss_ok h1) ?_
      show AT sMd_must 2 (23, [(15, a0), (0, a1)], [], s1) o
      exact AT.retvH (by decide +kernel) H
    · refine AT.seq [(12, .aload_n 0, 1, (0, 0, 0))] (by decide +kernel) (show jrun _ (12, [(15, a0), (0, a1)], [], s) = some ([], (13, [(15, a0), (0, a1)], [(15, a0)], s)) from rfl) ?_
      obtain ⟨v2, s2, h2, H⟩ := jb_some H
      refine AT.callV (As := []) (cl := 11) (b := a0) (st := []) (i := 219) (pos := 6150) kMd_advance (by decide +kernel) rfl (by decide +kernel) rfl rfl (by omega) (Md_advance_ok h2) ?_
      show AT sMd_must 2 (16, [(15, a0), (0, a1)], [], s2) o
      refine AT.seq [(16, .goto 7, 3, (0, 0, 0))] (by decide +kernel) (show jrun _ (16, [(15, a0), (0, a1)], [], s2) = some ([], (23, [(15, a0), (0, a1)], [], s2)) from rfl) ?_
      exact AT.retvH (by decide +kernel) H
def sMd_count : jS := (⟨"JellyCathedralModel", "count", "(II)I"⟩, prog_13_method_49_code, 4, 1, [15, 0, 0], 0)
theorem kMd_count : jmk sMd_count = true := jmk_of 6199 1012 6198 53 (by decide +kernel)
set_option maxRecDepth 100000 in
theorem Md_count_50_ok {o : Int × jM} {x0 : Int} {s : jM} (H : Md_count_50  x0 s = some o) : AT sMd_count 2 (50, [(15, x0), (99, 0), (99, 0), (99, 0)], [], s) o := by
  unfold Md_count_50 at H
  refine AT.seq [(50, .aload_n 0, 1, (0, 0, 0)), (51, .getfield 209, 3, (5199, 1112, 0))] (by decide +kernel) (show jrun _ (50, [(15, x0), (99, 0), (99, 0), (99, 0)], [], s) = some ([], (54, [(15, x0), (99, 0), (99, 0), (99, 0)], [(0, (s x0 12))], s)) from rfl) ?_
  refine AT.ite (x := (0, 0, 0)) (by decide +kernel) (show jbr (.ifCond .le 5) (54, [(15, x0), (99, 0), (99, 0), (99, 0)], [(0, (s x0 12))], s) = some (0 < (w32 (s x0 12)), (57, [(15, x0), (99, 0), (99, 0), (99, 0)], [], s), (59, [(15, x0), (99, 0), (99, 0), (99, 0)], [], s)) from rfl) H (fun H => ?_) (fun H => ?_)
  · refine AT.seq [(57, .iconst 0, 1, (0, 0, 0))] (by decide +kernel) (show jrun _ (57, [(15, x0), (99, 0), (99, 0), (99, 0)], [], s) = some ([], (58, [(15, x0), (99, 0), (99, 0), (99, 0)], [(0, 0)], s)) from rfl) ?_
    exact AT.retiH (by decide +kernel) H
  · refine AT.seq [(59, .aload_n 0, 1, (0, 0, 0)), (60, .getfield 142, 3, (5204, 1117, 0)), (63, .istore_n 3, 1, (0, 0, 0)), (64, .aload_n 0, 1, (0, 0, 0))] (by decide +kernel) (show jrun _ (59, [(15, x0), (99, 0), (99, 0), (99, 0)], [], s) = some ([], (65, [(15, x0), (99, 0), (99, 0), (0, (s x0 17))], [(15, x0)], s)) from rfl) ?_
    obtain ⟨v1, s1, h1, H⟩ := jb_some H
    refine AT.callV (As := []) (cl := 11) (b := x0) (st := []) (i := 219) (pos := 6150) kMd_advance (by decide +kernel) rfl (by decide +kernel) rfl rfl (by omega) (Md_advance_ok h1) ?_
    show AT sMd_count 2 (68, [(15, x0), (99, 0), (99, 0), (0, (s x0 17))], [], s1) o
    refine AT.seq [(68, .iload_n 3, 1, (0, 0, 0))] (by decide +kernel) (show jrun _ (68, [(15, x0), (99, 0), (99, 0), (0, (s x0 17))], [], s1) = some ([], (69, [(15, x0), (99, 0), (99, 0), (0, (s x0 17))], [(0, (s x0 17))], s1)) from rfl) ?_
    exact AT.retiH (by decide +kernel) H
set_option maxRecDepth 100000 in
theorem Md_count_19_ok {o : Int × jM} {x0 x1 x2 : Int} {s : jM} (H : Md_count_19  x0 x1 x2 s = some o) : AT sMd_count 2 (19, [(15, x0), (0, x1), (0, x2), (99, 0)], [], s) o := by
  unfold Md_count_19 at H
  refine AT.seq [(19, .aload_n 0, 1, (0, 0, 0)), (20, .getfield 209, 3, (5199, 1112, 0))] (by decide +kernel) (show jrun _ (19, [(15, x0), (0, x1), (0, x2), (99, 0)], [], s) = some ([], (23, [(15, x0), (0, x1), (0, x2), (99, 0)], [(0, (s x0 12))], s)) from rfl) ?_
  refine AT.ite (x := (0, 0, 0)) (by decide +kernel) (show jbr (.ifCond .ne 27) (23, [(15, x0), (0, x1), (0, x2), (99, 0)], [(0, (s x0 12))], s) = some ((w32 (s x0 12)) = 0, (26, [(15, x0), (0, x1), (0, x2), (99, 0)], [], s), (50, [(15, x0), (0, x1), (0, x2), (99, 0)], [], s)) from rfl) H (fun H => ?_) (fun H => ?_)
  · refine AT.seq [(26, .aload_n 0, 1, (0, 0, 0)), (27, .getfield 142, 3, (5204, 1117, 0)), (30, .i2l, 1, (0, 0, 0)), (31, .iload_n 1, 1, (0, 0, 0)), (32, .i2l, 1, (0, 0, 0)), (33, .iload_n 2, 1, (0, 0, 0)), (34, .i2l, 1, (0, 0, 0))] (by decide +kernel) (show jrun _ (26, [(15, x0), (0, x1), (0, x2), (99, 0)], [], s) = some ([], (35, [(15, x0), (0, x1), (0, x2), (99, 0)], [(1, (w32 x2)), (1, (w32 x1)), (1, (w32 (s x0 17)))], s)) from rfl) ?_
    obtain ⟨v2, s2, h2, H⟩ := jb_some H
    refine AT.callS (As := [(1, (w32 (s x0 17))), (1, (w32 x1)), (1, (w32 x2))]) (st := []) (i := 107) (pos := 6204) kMd_isIn (by decide +kernel) rfl rfl rfl (by omega) (Md_isIn_ok h2) ?_
    show AT sMd_count 2 (38, [(15, x0), (0, x1), (0, x2), (99, 0)], [(0, v2)], s2) o
    refine AT.ite (x := (0, 0, 0)) (by decide +kernel) (show jbr (.ifCond .ne 12) (38, [(15, x0), (0, x1), (0, x2), (99, 0)], [(0, v2)], s2) = some ((w32 v2) = 0, (41, [(15, x0), (0, x1), (0, x2), (99, 0)], [], s2), (50, [(15, x0), (0, x1), (0, x2), (99, 0)], [], s2)) from rfl) H (fun H => ?_) (fun H => ?_)
    · refine AT.seq [(41, .aload_n 0, 1, (0, 0, 0)), (42, .iconst 4, 1, (0, 0, 0)), (43, .aload_n 0, 1, (0, 0, 0)), (44, .getfield 117, 3, (5202, 1115, 0))] (by decide +kernel) (show jrun _ (41, [(15, x0), (0, x1), (0, x2), (99, 0)], [], s2) = some ([], (47, [(15, x0), (0, x1), (0, x2), (99, 0)], [(0, (s2 x0 15)), (0, 4), (15, x0)], s2)) from rfl) ?_
      obtain ⟨v3, s3, h3, H⟩ := jb_some H
      refine AT.callV (As := [(0, 4), (0, (s2 x0 15))]) (cl := 11) (b := x0) (st := []) (i := 215) (pos := 6192) kMd_fail (by decide +kernel) rfl (by decide +kernel) rfl rfl (by omega) (Md_fail_ok h3) ?_
      show AT sMd_count 2 (50, [(15, x0), (0, x1), (0, x2), (99, 0)], [], s3) o
      exact AT.weak (L' := [(15, x0), (99, 0), (99, 0), (99, 0)]) (jleK (jleJ (jleJ (jleK jle0)))) (Md_count_50_ok  H)
    · exact AT.weak (L' := [(15, x0), (99, 0), (99, 0), (99, 0)]) (jleK (jleJ (jleJ (jleK jle0)))) (Md_count_50_ok  H)
  · exact AT.weak (L' := [(15, x0), (99, 0), (99, 0), (99, 0)]) (jleK (jleJ (jleJ (jleK jle0)))) (Md_count_50_ok  H)
set_option maxRecDepth 100000 in
theorem Md_count_ok {a0 a1 a2 : Int} {s : jM} {o : Int × jM} (H : Md_count a0 a1 a2 s = some o) : MK sMd_count 2 [(15, a0), (0, a1), (0, a2)] s o := by
  refine MK.of kMd_count rfl ?_
  show AT sMd_count 2 (0, [(15, a0), (0, a1), (0, a2), (99, 0)], [], s) o
  unfold Md_count at H
  refine AT.seq [(0, .aload_n 0, 1, (0, 0, 0)), (1, .getfield 209, 3, (5199, 1112, 0))] (by decide +kernel) (show jrun _ (0, [(15, a0), (0, a1), (0, a2), (99, 0)], [], s) = some ([], (4, [(15, a0), (0, a1), (0, a2), (99, 0)], [(0, (s a0 12))], s)) from rfl) ?_
  refine AT.ite (x := (0, 0, 0)) (by decide +kernel) (show jbr (.ifCond .ne 15) (4, [(15, a0), (0, a1), (0, a2), (99, 0)], [(0, (s a0 12))], s) = some ((w32 (s a0 12)) = 0, (7, [(15, a0), (0, a1), (0, a2), (99, 0)], [], s), (19, [(15, a0), (0, a1), (0, a2), (99, 0)], [], s)) from rfl) H (fun H => ?_) (fun H => ?_)
  · refine AT.seq [(7, .aload_n 0, 1, (0, 0, 0)), (8, .getfield 123, 3, (5201, 1114, 0)), (11, .iconst 2, 1, (0, 0, 0))] (by decide +kernel) (show jrun _ (7, [(15, a0), (0, a1), (0, a2), (99, 0)], [], s) = some ([], (12, [(15, a0), (0, a1), (0, a2), (99, 0)], [(0, 2), (0, (s a0 14))], s)) from rfl) ?_
    refine AT.ite (x := (0, 0, 0)) (by decide +kernel) (show jbr (.if_icmp .eq 7) (12, [(15, a0), (0, a1), (0, a2), (99, 0)], [(0, 2), (0, (s a0 14))], s) = some ((w32 (s a0 14)) = 2, (19, [(15, a0), (0, a1), (0, a2), (99, 0)], [], s), (15, [(15, a0), (0, a1), (0, a2), (99, 0)], [], s)) from rfl) H (fun H => ?_) (fun H => ?_)
    · exact Md_count_19_ok  H
    · refine AT.seq [(15, .aload_n 0, 1, (0, 0, 0))] (by decide +kernel) (show jrun _ (15, [(15, a0), (0, a1), (0, a2), (99, 0)], [], s) = some ([], (16, [(15, a0), (0, a1), (0, a2), (99, 0)], [(15, a0)], s)) from rfl) ?_
      obtain ⟨v4, s4, h4, H⟩ := jb_some H
      refine AT.callV (As := []) (cl := 11) (b := a0) (st := []) (i := 222) (pos := 6200) kMd_amiss (by decide +kernel) rfl (by decide +kernel) rfl rfl (by omega) (Md_amiss_ok h4) ?_
      show AT sMd_count 2 (19, [(15, a0), (0, a1), (0, a2), (99, 0)], [], s4) o
      exact Md_count_19_ok  H
  · exact Md_count_19_ok  H
def sMd_behindWord : jS := (⟨"JellyCathedralModel", "behindWord", "(ZII)I"⟩, prog_13_method_50_code, 4, 1, [15, 0, 0, 0], 0)
theorem kMd_behindWord : jmk sMd_behindWord = true := jmk_of 7053 1012 7052 75 (by decide +kernel)
set_option maxRecDepth 100000 in
theorem Md_behindWord_ok {a0 a1 a2 a3 : Int} {s : jM} {o : Int × jM} (H : Md_behindWord a0 a1 a2 a3 s = some o) : MK sMd_behindWord 3 [(15, a0), (0, a1), (0, a2), (0, a3)] s o := by
  refine MK.of kMd_behindWord rfl ?_
  show AT sMd_behindWord 3 (0, [(15, a0), (0, a1), (0, a2), (0, a3)], [], s) o
  unfold Md_behindWord at H
  refine AT.seq [(0, .aload_n 0, 1, (0, 0, 0)), (1, .iload_n 1, 1, (0, 0, 0))] (by decide +kernel) (show jrun _ (0, [(15, a0), (0, a1), (0, a2), (0, a3)], [], s) = some ([], (2, [(15, a0), (0, a1), (0, a2), (0, a3)], [(0, a1), (15, a0)], s)) from rfl) ?_
  obtain ⟨v1, s1, h1, H⟩ := jb_some H
  refine AT.callV (As := [(0, a1)]) (cl := 11) (b := a0) (st := []) (i := 225) (pos := 7054) kMd_must (by decide +kernel) rfl (by decide +kernel) rfl rfl (by omega) (Md_must_ok h1) ?_
  show AT sMd_behindWord 3 (5, [(15, a0), (0, a1), (0, a2), (0, a3)], [], s1) o
  refine AT.seq [(5, .aload_n 0, 1, (0, 0, 0)), (6, .iload_n 2, 1, (0, 0, 0)), (7, .iload_n 3, 1, (0, 0, 0))] (by decide +kernel) (show jrun _ (5, [(15, a0), (0, a1), (0, a2), (0, a3)], [], s1) = some ([], (8, [(15, a0), (0, a1), (0, a2), (0, a3)], [(0, a3), (0, a2), (15, a0)], s1)) from rfl) ?_
  obtain ⟨v2, s2, h2, H⟩ := jb_some H
  refine AT.callV (As := [(0, a2), (0, a3)]) (cl := 11) (b := a0) (st := []) (i := 229) (pos := 6196) kMd_count (by decide +kernel) rfl (by decide +kernel) rfl rfl (by omega) (Md_count_ok h2) ?_
  show AT sMd_behindWord 3 (11, [(15, a0), (0, a1), (0, a2), (0, a3)], [(0, v2)], s2) o
  exact AT.retiH (by decide +kernel) H
def sMd_perhaps : jS := (⟨"JellyCathedralModel", "perhaps", "(Z)Z"⟩, prog_13_method_51_code, 2, 3, [15, 0], 0)
theorem kMd_perhaps : jmk sMd_perhaps = true := jmk_of 7061 1012 7060 77 (by decide +kernel)
set_option maxRecDepth 100000 in
theorem Md_perhaps_ok {a0 a1 : Int} {s : jM} {o : Int × jM} (H : Md_perhaps a0 a1 s = some o) : MK sMd_perhaps 2 [(15, a0), (0, a1)] s o := by
  refine MK.of kMd_perhaps rfl ?_
  show AT sMd_perhaps 2 (0, [(15, a0), (0, a1)], [], s) o
  unfold Md_perhaps at H
  refine AT.seq [(0, .aload_n 0, 1, (0, 0, 0)), (1, .getfield 209, 3, (5199, 1112, 0))] (by decide +kernel) (show jrun _ (0, [(15, a0), (0, a1)], [], s) = some ([], (4, [(15, a0), (0, a1)], [(0, (s a0 12))], s)) from rfl) ?_
  refine AT.ite (x := (0, 0, 0)) (by decide +kernel) (show jbr (.ifCond .gt 7) (4, [(15, a0), (0, a1)], [(0, (s a0 12))], s) = some (0 < (w32 (s a0 12)), (11, [(15, a0), (0, a1)], [], s), (7, [(15, a0), (0, a1)], [], s)) from rfl) H (fun H => ?_) (fun H => ?_)
  · refine AT.seq [(11, .iconst 0, 1, (0, 0, 0))] (by decide +kernel) (show jrun _ (11, [(15, a0), (0, a1)], [], s) = some ([], (12, [(15, a0), (0, a1)], [(0, 0)], s)) from rfl) ?_
    exact AT.retzC (by decide +kernel) (by decide) H
  · refine AT.seq [(7, .iload_n 1, 1, (0, 0, 0))] (by decide +kernel) (show jrun _ (7, [(15, a0), (0, a1)], [], s) = some ([], (8, [(15, a0), (0, a1)], [(0, a1)], s)) from rfl) ?_
    refine AT.ite (x := (0, 0, 0)) (by decide +kernel) (show jbr (.ifCond .ne 5) (8, [(15, a0), (0, a1)], [(0, a1)], s) = some ((w32 a1) = 0, (11, [(15, a0), (0, a1)], [], s), (13, [(15, a0), (0, a1)], [], s)) from rfl) H (fun H => ?_) (fun H => ?_)
    · refine AT.seq [(11, .iconst 0, 1, (0, 0, 0))] (by decide +kernel) (show jrun _ (11, [(15, a0), (0, a1)], [], s) = some ([], (12, [(15, a0), (0, a1)], [(0, 0)], s)) from rfl) ?_
      exact AT.retzC (by decide +kernel) (by decide) H
    · refine AT.seq [(13, .aload_n 0, 1, (0, 0, 0))] (by decide +kernel) (show jrun _ (13, [(15, a0), (0, a1)], [], s) = some ([], (14, [(15, a0), (0, a1)], [(15, a0)], s)) from rfl) ?_
      obtain ⟨v1, s1, h1, H⟩ := jb_some H
      refine AT.callV (As := []) (cl := 11) (b := a0) (st := []) (i := 219) (pos := 6150) kMd_advance (by decide +kernel) rfl (by decide +kernel) rfl rfl (by omega) (Md_advance_ok h1) ?_
      show AT sMd_perhaps 2 (17, [(15, a0), (0, a1)], [], s1) o
      refine AT.seq [(17, .iconst 1, 1, (0, 0, 0))] (by decide +kernel) (show jrun _ (17, [(15, a0), (0, a1)], [], s1) = some ([], (18, [(15, a0), (0, a1)], [(0, 1)], s1)) from rfl) ?_
      exact AT.retzC (by decide +kernel) (by decide) H
def sMd_lay : jS := (⟨"JellyCathedralModel", "lay", "(I)V"⟩, prog_13_method_53_code, 3, 0, [15, 0], 0)
theorem kMd_lay : jmk sMd_lay = true := jmk_of 6137 1012 6136 43 (by decide +kernel)
set_option maxRecDepth 100000 in
theorem Md_lay_2_ok {o : Int × jM} : ∀ (n : Nat) (x0 x1 x2 : Int) (s : jM), Md_lay_2  n x0 x1 x2 s = some o → AT sMd_lay 0 (2, [(15, x0), (0, x1), (0, x2)], [], s) o := by
  intro n
  induction n with
  | zero =>
    intro x0 x1 x2 s H
    have H : (none : Option (Int × jM)) = some o := H
    cases H
  | succ n ih =>
    intro x0 x1 x2 s H
    rw [Md_lay_2] at H
    refine AT.seq [(2, .iload_n 2, 1, (0, 0, 0))] (by decide +kernel) (show jrun _ (2, [(15, x0), (0, x1), (0, x2)], [], s) = some ([], (3, [(15, x0), (0, x1), (0, x2)], [(0, x2)], s)) from rfl) ?_
    refine AT.ite (x := (0, 0, 0)) (by decide +kernel) (show jbr (.ifCond .lt 35) (3, [(15, x0), (0, x1), (0, x2)], [(0, x2)], s) = some ((w32 x2) < 0, (38, [(15, x0), (0, x1), (0, x2)], [], s), (6, [(15, x0), (0, x1), (0, x2)], [], s)) from rfl) H (fun H => ?_) (fun H => ?_)
    · exact AT.retvH (by decide +kernel) H
    · refine AT.blk (g := (0 ≤ (w32 (s x0 8)) ∧ (w32 (s x0 8)) < 900)) [(6, .aload_n 0, 1, (0, 0, 0)), (7, .getfield 24, 3, (5194, 1107, 0)), (10, .aload_n 0, 1, (0, 0, 0)), (11, .getfield 232, 3, (5195, 1108, 0)), (14, .iload_n 1, 1, (0, 0, 0)), (15, .bipush 8, 2, (0, 0, 0)), (17, .iload_n 2, 1, (0, 0, 0)), (18, .imul, 1, (0, 0, 0)), (19, .ishr, 1, (0, 0, 0)), (20, .i2b, 1, (0, 0, 0)), (21, .bastore, 1, (0, 0, 0)), (22, .aload_n 0, 1, (0, 0, 0)), (23, .dup, 1, (0, 0, 0)), (24, .getfield 232, 3, (5195, 1108, 0)), (27, .iconst 1, 1, (0, 0, 0)), (28, .iadd, 1, (0, 0, 0)), (29, .putfield 232, 3, (5195, 1108, 0)), (32, .iinc 2 (-1), 3, (0, 0, 0)), (35, .goto (-33), 3, (0, 0, 0))] (by decide +kernel) (show jrun _ (6, [(15, x0), (0, x1), (0, x2)], [], s) = some ([(0 ≤ (w32 (s x0 8)) ∧ (w32 (s x0 8)) < 900)], (2, [(15, x0), (0, x1), (0, (x2 + (-1)))], [], (jup (jup s (x0 + 4) (w32 (s x0 8)) (w8 (w8 (jishr x1 (8 * x2))))) x0 8 (((jup s (x0 + 4) (w32 (s x0 8)) (w8 (w8 (jishr x1 (8 * x2))))) x0 8) + 1)))) from rfl) (fun h => h) H (fun H => ?_)
      exact ih _ _ _ _ H
set_option maxRecDepth 100000 in
theorem Md_lay_ok {a0 a1 : Int} {s : jM} {o : Int × jM} (H : Md_lay a0 a1 s = some o) : MK sMd_lay 0 [(15, a0), (0, a1)] s o := by
  refine MK.of kMd_lay rfl ?_
  show AT sMd_lay 0 (0, [(15, a0), (0, a1), (99, 0)], [], s) o
  unfold Md_lay at H
  refine AT.seq [(0, .iconst 3, 1, (0, 0, 0)), (1, .istore_n 2, 1, (0, 0, 0))] (by decide +kernel) (show jrun _ (0, [(15, a0), (0, a1), (99, 0)], [], s) = some ([], (2, [(15, a0), (0, a1), (0, 3)], [], s)) from rfl) ?_
  exact Md_lay_2_ok  jFU _ _ _ _ H
def sMd_feed : jS := (⟨"JellyCathedralModel", "feed", "(IIIII)I"⟩, prog_13_method_52_code, 6, 1, [15, 0, 0, 0, 0, 0], 0)
theorem kMd_feed : jmk sMd_feed = true := jmk_of 6133 1012 6131 6132 (by decide +kernel)
set_option maxRecDepth 100000 in
theorem Md_feed_ok {a0 a1 a2 a3 a4 a5 : Int} {s : jM} {o : Int × jM} (H : Md_feed a0 a1 a2 a3 a4 a5 s = some o) : MK sMd_feed 1 [(15, a0), (0, a1), (0, a2), (0, a3), (0, a4), (0, a5)] s o := by
  refine MK.of kMd_feed rfl ?_
  show AT sMd_feed 1 (0, [(15, a0), (0, a1), (0, a2), (0, a3), (0, a4), (0, a5)], [], s) o
  unfold Md_feed at H
  refine AT.seq [(0, .aload_n 0, 1, (0, 0, 0)), (1, .iconst 0, 1, (0, 0, 0)), (2, .putfield 72, 3, (5188, 1101, 0)), (5, .aload_n 0, 1, (0, 0, 0)), (6, .getfield 232, 3, (5195, 1108, 0)), (9, .bipush 20, 2, (0, 0, 0)), (11, .iadd, 1, (0, 0, 0)), (12, .sipush 900, 3, (0, 0, 0))] (by decide +kernel) (show jrun _ (0, [(15, a0), (0, a1), (0, a2), (0, a3), (0, a4), (0, a5)], [], s) = some ([], (15, [(15, a0), (0, a1), (0, a2), (0, a3), (0, a4), (0, a5)], [(0, 900), (0, (((jup s a0 1 0) a0 8) + 20))], (jup s a0 1 0))) from rfl) ?_
  refine AT.ite (x := (0, 0, 0)) (by decide +kernel) (show jbr (.if_icmp .le 5) (15, [(15, a0), (0, a1), (0, a2), (0, a3), (0, a4), (0, a5)], [(0, 900), (0, (((jup s a0 1 0) a0 8) + 20))], (jup s a0 1 0)) = some (900 < (w32 (((jup s a0 1 0) a0 8) + 20)), (18, [(15, a0), (0, a1), (0, a2), (0, a3), (0, a4), (0, a5)], [], (jup s a0 1 0)), (20, [(15, a0), (0, a1), (0, a2), (0, a3), (0, a4), (0, a5)], [], (jup s a0 1 0))) from rfl) H (fun H => ?_) (fun H => ?_)
  · refine AT.seq [(18, .iconst (-1), 1, (0, 0, 0))] (by decide +kernel) (show jrun _ (18, [(15, a0), (0, a1), (0, a2), (0, a3), (0, a4), (0, a5)], [], (jup s a0 1 0)) = some ([], (19, [(15, a0), (0, a1), (0, a2), (0, a3), (0, a4), (0, a5)], [(0, (-1))], (jup s a0 1 0))) from rfl) ?_
    exact AT.retiH (by decide +kernel) H
  · refine AT.seq [(20, .aload_n 0, 1, (0, 0, 0)), (21, .iload_n 1, 1, (0, 0, 0))] (by decide +kernel) (show jrun _ (20, [(15, a0), (0, a1), (0, a2), (0, a3), (0, a4), (0, a5)], [], (jup s a0 1 0)) = some ([], (22, [(15, a0), (0, a1), (0, a2), (0, a3), (0, a4), (0, a5)], [(0, a1), (15, a0)], (jup s a0 1 0))) from rfl) ?_
    obtain ⟨v1, s1, h1, H⟩ := jb_some H
    refine AT.callV (As := [(0, a1)]) (cl := 11) (b := a0) (st := []) (i := 235) (pos := 6134) kMd_lay (by decide +kernel) rfl (by decide +kernel) rfl rfl (by omega) (Md_lay_ok h1) ?_
    show AT sMd_feed 1 (25, [(15, a0), (0, a1), (0, a2), (0, a3), (0, a4), (0, a5)], [], s1) o
    refine AT.seq [(25, .aload_n 0, 1, (0, 0, 0)), (26, .iload_n 2, 1, (0, 0, 0))] (by decide +kernel) (show jrun _ (25, [(15, a0), (0, a1), (0, a2), (0, a3), (0, a4), (0, a5)], [], s1) = some ([], (27, [(15, a0), (0, a1), (0, a2), (0, a3), (0, a4), (0, a5)], [(0, a2), (15, a0)], s1)) from rfl) ?_
    obtain ⟨v2, s2, h2, H⟩ := jb_some H
    refine AT.callV (As := [(0, a2)]) (cl := 11) (b := a0) (st := []) (i := 235) (pos := 6134) kMd_lay (by decide +kernel) rfl (by decide +kernel) rfl rfl (by omega) (Md_lay_ok h2) ?_
    show AT sMd_feed 1 (30, [(15, a0), (0, a1), (0, a2), (0, a3), (0, a4), (0, a5)], [], s2) o
    refine AT.seq [(30, .aload_n 0, 1, (0, 0, 0)), (31, .iload_n 3, 1, (0, 0, 0))] (by decide +kernel) (show jrun _ (30, [(15, a0), (0, a1), (0, a2), (0, a3), (0, a4), (0, a5)], [], s2) = some ([], (32, [(15, a0), (0, a1), (0, a2), (0, a3), (0, a4), (0, a5)], [(0, a3), (15, a0)], s2)) from rfl) ?_
    obtain ⟨v3, s3, h3, H⟩ := jb_some H
    refine AT.callV (As := [(0, a3)]) (cl := 11) (b := a0) (st := []) (i := 235) (pos := 6134) kMd_lay (by decide +kernel) rfl (by decide +kernel) rfl rfl (by omega) (Md_lay_ok h3) ?_
    show AT sMd_feed 1 (35, [(15, a0), (0, a1), (0, a2), (0, a3), (0, a4), (0, a5)], [], s3) o
    refine AT.seq [(35, .aload_n 0, 1, (0, 0, 0)), (36, .iload 4, 2, (0, 0, 0))] (by decide +kernel) (show jrun _ (35, [(15, a0), (0, a1), (0, a2), (0, a3), (0, a4), (0, a5)], [], s3) = some ([], (38, [(15, a0), (0, a1), (0, a2), (0, a3), (0, a4), (0, a5)], [(0, a4), (15, a0)], s3)) from rfl) ?_
    obtain ⟨v4, s4, h4, H⟩ := jb_some H
    refine AT.callV (As := [(0, a4)]) (cl := 11) (b := a0) (st := []) (i := 235) (pos := 6134) kMd_lay (by decide +kernel) rfl (by decide +kernel) rfl rfl (by omega) (Md_lay_ok h4) ?_
    show AT sMd_feed 1 (41, [(15, a0), (0, a1), (0, a2), (0, a3), (0, a4), (0, a5)], [], s4) o
    refine AT.seq [(41, .aload_n 0, 1, (0, 0, 0)), (42, .iload 5, 2, (0, 0, 0))] (by decide +kernel) (show jrun _ (41, [(15, a0), (0, a1), (0, a2), (0, a3), (0, a4), (0, a5)], [], s4) = some ([], (44, [(15, a0), (0, a1), (0, a2), (0, a3), (0, a4), (0, a5)], [(0, a5), (15, a0)], s4)) from rfl) ?_
    obtain ⟨v5, s5, h5, H⟩ := jb_some H
    refine AT.callV (As := [(0, a5)]) (cl := 11) (b := a0) (st := []) (i := 235) (pos := 6134) kMd_lay (by decide +kernel) rfl (by decide +kernel) rfl rfl (by omega) (Md_lay_ok h5) ?_
    show AT sMd_feed 1 (47, [(15, a0), (0, a1), (0, a2), (0, a3), (0, a4), (0, a5)], [], s5) o
    refine AT.seq [(47, .aload_n 0, 1, (0, 0, 0)), (48, .getfield 232, 3, (5195, 1108, 0))] (by decide +kernel) (show jrun _ (47, [(15, a0), (0, a1), (0, a2), (0, a3), (0, a4), (0, a5)], [], s5) = some ([], (51, [(15, a0), (0, a1), (0, a2), (0, a3), (0, a4), (0, a5)], [(0, (s5 a0 8))], s5)) from rfl) ?_
    exact AT.retiH (by decide +kernel) H
def sMd_starts : jS := (⟨"JellyCathedralModel", "starts", "(II)Z"⟩, prog_13_method_54_code, 3, 3, [15, 0, 0], 0)
theorem kMd_starts : jmk sMd_starts = true := jmk_of 6149 1012 6148 44 (by decide +kernel)
set_option maxRecDepth 100000 in
theorem Md_starts_ok {a0 a1 a2 : Int} {s : jM} {o : Int × jM} (H : Md_starts a0 a1 a2 s = some o) : MK sMd_starts 2 [(15, a0), (0, a1), (0, a2)] s o := by
  refine MK.of kMd_starts rfl ?_
  show AT sMd_starts 2 (0, [(15, a0), (0, a1), (0, a2)], [], s) o
  unfold Md_starts at H
  refine AT.seq [(0, .iload_n 1, 1, (0, 0, 0))] (by decide +kernel) (show jrun _ (0, [(15, a0), (0, a1), (0, a2)], [], s) = some ([], (1, [(15, a0), (0, a1), (0, a2)], [(0, a1)], s)) from rfl) ?_
  refine AT.ite (x := (0, 0, 0)) (by decide +kernel) (show jbr (.ifCond .lt 16) (1, [(15, a0), (0, a1), (0, a2)], [(0, a1)], s) = some ((w32 a1) < 0, (17, [(15, a0), (0, a1), (0, a2)], [], s), (4, [(15, a0), (0, a1), (0, a2)], [], s)) from rfl) H (fun H => ?_) (fun H => ?_)
  · refine AT.seq [(17, .aload_n 0, 1, (0, 0, 0)), (18, .iconst 5, 1, (0, 0, 0))] (by decide +kernel) (show jrun _ (17, [(15, a0), (0, a1), (0, a2)], [], s) = some ([], (19, [(15, a0), (0, a1), (0, a2)], [(0, 5), (15, a0)], s)) from rfl) ?_
    obtain ⟨v1, s1, h1, H⟩ := jb_some H
    refine AT.callV (As := [(0, 5)]) (cl := 11) (b := a0) (st := []) (i := 87) (pos := 6102) kMd_no (by decide +kernel) rfl (by decide +kernel) rfl rfl (by omega) (Md_no_ok h1) ?_
    show AT sMd_starts 2 (22, [(15, a0), (0, a1), (0, a2)], [(0, v1)], s1) o
    exact AT.retzH (by decide +kernel) H
  · refine AT.seq [(4, .iload_n 1, 1, (0, 0, 0)), (5, .aload_n 0, 1, (0, 0, 0)), (6, .getfield 232, 3, (5195, 1108, 0))] (by decide +kernel) (show jrun _ (4, [(15, a0), (0, a1), (0, a2)], [], s) = some ([], (9, [(15, a0), (0, a1), (0, a2)], [(0, (s a0 8)), (0, a1)], s)) from rfl) ?_
    refine AT.ite (x := (0, 0, 0)) (by decide +kernel) (show jbr (.if_icmp .gt 8) (9, [(15, a0), (0, a1), (0, a2)], [(0, (s a0 8)), (0, a1)], s) = some ((w32 (s a0 8)) < (w32 a1), (17, [(15, a0), (0, a1), (0, a2)], [], s), (12, [(15, a0), (0, a1), (0, a2)], [], s)) from rfl) H (fun H => ?_) (fun H => ?_)
    · refine AT.seq [(17, .aload_n 0, 1, (0, 0, 0)), (18, .iconst 5, 1, (0, 0, 0))] (by decide +kernel) (show jrun _ (17, [(15, a0), (0, a1), (0, a2)], [], s) = some ([], (19, [(15, a0), (0, a1), (0, a2)], [(0, 5), (15, a0)], s)) from rfl) ?_
      obtain ⟨v2, s2, h2, H⟩ := jb_some H
      refine AT.callV (As := [(0, 5)]) (cl := 11) (b := a0) (st := []) (i := 87) (pos := 6102) kMd_no (by decide +kernel) rfl (by decide +kernel) rfl rfl (by omega) (Md_no_ok h2) ?_
      show AT sMd_starts 2 (22, [(15, a0), (0, a1), (0, a2)], [(0, v2)], s2) o
      exact AT.retzH (by decide +kernel) H
    · refine AT.seq [(12, .iload_n 1, 1, (0, 0, 0)), (13, .iload_n 2, 1, (0, 0, 0))] (by decide +kernel) (show jrun _ (12, [(15, a0), (0, a1), (0, a2)], [], s) = some ([], (14, [(15, a0), (0, a1), (0, a2)], [(0, a2), (0, a1)], s)) from rfl) ?_
      refine AT.ite (x := (0, 0, 0)) (by decide +kernel) (show jbr (.if_icmp .le 9) (14, [(15, a0), (0, a1), (0, a2)], [(0, a2), (0, a1)], s) = some ((w32 a2) < (w32 a1), (17, [(15, a0), (0, a1), (0, a2)], [], s), (23, [(15, a0), (0, a1), (0, a2)], [], s)) from rfl) H (fun H => ?_) (fun H => ?_)
      · refine AT.seq [(17, .aload_n 0, 1, (0, 0, 0)), (18, .iconst 5, 1, (0, 0, 0))] (by decide +kernel) (show jrun _ (17, [(15, a0), (0, a1), (0, a2)], [], s) = some ([], (19, [(15, a0), (0, a1), (0, a2)], [(0, 5), (15, a0)], s)) from rfl) ?_
        obtain ⟨v3, s3, h3, H⟩ := jb_some H
        refine AT.callV (As := [(0, 5)]) (cl := 11) (b := a0) (st := []) (i := 87) (pos := 6102) kMd_no (by decide +kernel) rfl (by decide +kernel) rfl rfl (by omega) (Md_no_ok h3) ?_
        show AT sMd_starts 2 (22, [(15, a0), (0, a1), (0, a2)], [(0, v3)], s3) o
        exact AT.retzH (by decide +kernel) H
      · refine AT.seq [(23, .aload_n 0, 1, (0, 0, 0)), (24, .iload_n 1, 1, (0, 0, 0)), (25, .putfield 111, 3, (5196, 1109, 0)), (28, .aload_n 0, 1, (0, 0, 0)), (29, .iconst 0, 1, (0, 0, 0)), (30, .putfield 232, 3, (5195, 1108, 0)), (33, .aload_n 0, 1, (0, 0, 0)), (34, .iconst 0, 1, (0, 0, 0)), (35, .putfield 114, 3, (5203, 1116, 0)), (38, .aload_n 0, 1, (0, 0, 0)), (39, .iconst 0, 1, (0, 0, 0)), (40, .putfield 209, 3, (5199, 1112, 0)), (43, .aload_n 0, 1, (0, 0, 0))] (by decide +kernel) (show jrun _ (23, [(15, a0), (0, a1), (0, a2)], [], s) = some ([], (44, [(15, a0), (0, a1), (0, a2)], [(15, a0)], (jup (jup (jup (jup s a0 9 a1) a0 8 0) a0 16 0) a0 12 0))) from rfl) ?_
        obtain ⟨v4, s4, h4, H⟩ := jb_some H
        refine AT.callV (As := []) (cl := 11) (b := a0) (st := []) (i := 219) (pos := 6150) kMd_advance (by decide +kernel) rfl (by decide +kernel) rfl rfl (by omega) (Md_advance_ok h4) ?_
        show AT sMd_starts 2 (47, [(15, a0), (0, a1), (0, a2)], [], s4) o
        refine AT.seq [(47, .iconst 1, 1, (0, 0, 0))] (by decide +kernel) (show jrun _ (47, [(15, a0), (0, a1), (0, a2)], [], s4) = some ([], (48, [(15, a0), (0, a1), (0, a2)], [(0, 1)], s4)) from rfl) ?_
        exact AT.retzC (by decide +kernel) (by decide) H
def sMd_isWell : jS := (⟨"JellyCathedralModel", "isWell", "()Z"⟩, prog_13_method_55_code, 1, 3, [15], 0)
theorem kMd_isWell : jmk sMd_isWell = true := jmk_of 7090 1012 7089 84 (by decide +kernel)
set_option maxRecDepth 100000 in
theorem Md_isWell_24_ok {o : Int × jM} {x0 t0 t1 : Int} {s : jM} (H : Md_isWell_24  x0 t0 t1 s = some o) : AT sMd_isWell 1 (24, [(15, x0)], [(0, t0), (15, t1)], s) o := by
  unfold Md_isWell_24 at H
  refine AT.seq [(24, .putfield 32, 3, (5198, 1111, 0)), (27, .aload_n 0, 1, (0, 0, 0)), (28, .getfield 209, 3, (5199, 1112, 0))] (by decide +kernel) (show jrun _ (24, [(15, x0)], [(0, t0), (15, t1)], s) = some ([], (31, [(15, x0)], [(0, ((jup s t1 11 t0) x0 12))], (jup s t1 11 t0))) from rfl) ?_
  refine AT.ite (x := (0, 0, 0)) (by decide +kernel) (show jbr (.ifCond .eq 12) (31, [(15, x0)], [(0, ((jup s t1 11 t0) x0 12))], (jup s t1 11 t0)) = some ((w32 ((jup s t1 11 t0) x0 12)) = 0, (43, [(15, x0)], [], (jup s t1 11 t0)), (34, [(15, x0)], [], (jup s t1 11 t0))) from rfl) H (fun H => ?_) (fun H => ?_)
  · refine AT.seq [(43, .iconst 1, 1, (0, 0, 0)), (44, .goto 4, 3, (0, 0, 0))] (by decide +kernel) (show jrun _ (43, [(15, x0)], [], (jup s t1 11 t0)) = some ([], (48, [(15, x0)], [(0, 1)], (jup s t1 11 t0))) from rfl) ?_
    exact AT.retzC (by decide +kernel) (by decide) H
  · refine AT.seq [(34, .aload_n 0, 1, (0, 0, 0)), (35, .bipush 10, 2, (0, 0, 0))] (by decide +kernel) (show jrun _ (34, [(15, x0)], [], (jup s t1 11 t0)) = some ([], (37, [(15, x0)], [(0, 10), (15, x0)], (jup s t1 11 t0))) from rfl) ?_
    obtain ⟨v1, s1, h1, H⟩ := jb_some H
    refine AT.callV (As := [(0, 10)]) (cl := 11) (b := x0) (st := []) (i := 87) (pos := 6102) kMd_no (by decide +kernel) rfl (by decide +kernel) rfl rfl (by omega) (Md_no_ok h1) ?_
    show AT sMd_isWell 1 (40, [(15, x0)], [(0, v1)], s1) o
    refine AT.ite (x := (0, 0, 0)) (by decide +kernel) (show jbr (.ifCond .eq 7) (40, [(15, x0)], [(0, v1)], s1) = some ((w32 v1) = 0, (47, [(15, x0)], [], s1), (43, [(15, x0)], [], s1)) from rfl) H (fun H => ?_) (fun H => ?_)
    · refine AT.seq [(47, .iconst 0, 1, (0, 0, 0))] (by decide +kernel) (show jrun _ (47, [(15, x0)], [], s1) = some ([], (48, [(15, x0)], [(0, 0)], s1)) from rfl) ?_
      exact AT.retzC (by decide +kernel) (by decide) H
    · refine AT.seq [(43, .iconst 1, 1, (0, 0, 0)), (44, .goto 4, 3, (0, 0, 0))] (by decide +kernel) (show jrun _ (43, [(15, x0)], [], s1) = some ([], (48, [(15, x0)], [(0, 1)], s1)) from rfl) ?_
      exact AT.retzC (by decide +kernel) (by decide) H
set_option maxRecDepth 100000 in
theorem Md_isWell_ok {a0 : Int} {s : jM} {o : Int × jM} (H : Md_isWell a0 s = some o) : MK sMd_isWell 1 [(15, a0)] s o := by
  refine MK.of kMd_isWell rfl ?_
  show AT sMd_isWell 1 (0, [(15, a0)], [], s) o
  unfold Md_isWell at H
  refine AT.seq [(0, .aload_n 0, 1, (0, 0, 0)), (1, .aload_n 0, 1, (0, 0, 0)), (2, .getfield 209, 3, (5199, 1112, 0)), (5, .putfield 28, 3, (5197, 1110, 0)), (8, .aload_n 0, 1, (0, 0, 0)), (9, .aload_n 0, 1, (0, 0, 0)), (10, .getfield 209, 3, (5199, 1112, 0))] (by decide +kernel) (show jrun _ (0, [(15, a0)], [], s) = some ([], (13, [(15, a0)], [(0, ((jup s a0 10 (s a0 12)) a0 12)), (15, a0)], (jup s a0 10 (s a0 12)))) from rfl) ?_
  refine AT.ite (x := (0, 0, 0)) (by decide +kernel) (show jbr (.ifCond .ne 7) (13, [(15, a0)], [(0, ((jup s a0 10 (s a0 12)) a0 12)), (15, a0)], (jup s a0 10 (s a0 12))) = some ((w32 ((jup s a0 10 (s a0 12)) a0 12)) = 0, (16, [(15, a0)], [(15, a0)], (jup s a0 10 (s a0 12))), (20, [(15, a0)], [(15, a0)], (jup s a0 10 (s a0 12)))) from rfl) H (fun H => ?_) (fun H => ?_)
  · refine AT.seq [(16, .iconst (-1), 1, (0, 0, 0)), (17, .goto 7, 3, (0, 0, 0))] (by decide +kernel) (show jrun _ (16, [(15, a0)], [(15, a0)], (jup s a0 10 (s a0 12))) = some ([], (24, [(15, a0)], [(0, (-1)), (15, a0)], (jup s a0 10 (s a0 12)))) from rfl) ?_
    exact Md_isWell_24_ok  H
  · refine AT.seq [(20, .aload_n 0, 1, (0, 0, 0)), (21, .getfield 212, 3, (5200, 1113, 0))] (by decide +kernel) (show jrun _ (20, [(15, a0)], [(15, a0)], (jup s a0 10 (s a0 12))) = some ([], (24, [(15, a0)], [(0, ((jup s a0 10 (s a0 12)) a0 13)), (15, a0)], (jup s a0 10 (s a0 12)))) from rfl) ?_
    exact Md_isWell_24_ok  H
def sMd_fault : jS := (⟨"JellyCathedralModel", "fault", "(I)I"⟩, prog_13_method_56_code, 2, 1, [15, 0], 0)
theorem kMd_fault : jmk sMd_fault = true := jmk_of 6141 1012 6139 6140 (by decide +kernel)
set_option maxRecDepth 100000 in
theorem Md_fault_ok {a0 a1 : Int} {s : jM} {o : Int × jM} (H : Md_fault a0 a1 s = some o) : MK sMd_fault 0 [(15, a0), (0, a1)] s o := by
  refine MK.of kMd_fault rfl ?_
  show AT sMd_fault 0 (0, [(15, a0), (0, a1)], [], s) o
  unfold Md_fault at H
  refine AT.seq [(0, .aload_n 0, 1, (0, 0, 0)), (1, .iconst 0, 1, (0, 0, 0)), (2, .putfield 72, 3, (5188, 1101, 0)), (5, .iload_n 1, 1, (0, 0, 0))] (by decide +kernel) (show jrun _ (0, [(15, a0), (0, a1)], [], s) = some ([], (6, [(15, a0), (0, a1)], [(0, a1)], (jup s a0 1 0))) from rfl) ?_
  refine AT.ite (x := (0, 0, 0)) (by decide +kernel) (show jbr (.ifCond .ne 10) (6, [(15, a0), (0, a1)], [(0, a1)], (jup s a0 1 0)) = some ((w32 a1) = 0, (9, [(15, a0), (0, a1)], [], (jup s a0 1 0)), (16, [(15, a0), (0, a1)], [], (jup s a0 1 0))) from rfl) H (fun H => ?_) (fun H => ?_)
  · refine AT.seq [(9, .aload_n 0, 1, (0, 0, 0)), (10, .getfield 28, 3, (5197, 1110, 0)), (13, .goto 16, 3, (0, 0, 0))] (by decide +kernel) (show jrun _ (9, [(15, a0), (0, a1)], [], (jup s a0 1 0)) = some ([], (29, [(15, a0), (0, a1)], [(0, ((jup s a0 1 0) a0 10))], (jup s a0 1 0))) from rfl) ?_
    exact AT.retiH (by decide +kernel) H
  · refine AT.seq [(16, .iload_n 1, 1, (0, 0, 0)), (17, .iconst 1, 1, (0, 0, 0))] (by decide +kernel) (show jrun _ (16, [(15, a0), (0, a1)], [], (jup s a0 1 0)) = some ([], (18, [(15, a0), (0, a1)], [(0, 1), (0, a1)], (jup s a0 1 0))) from rfl) ?_
    refine AT.ite (x := (0, 0, 0)) (by decide +kernel) (show jbr (.if_icmp .ne 10) (18, [(15, a0), (0, a1)], [(0, 1), (0, a1)], (jup s a0 1 0)) = some ((w32 a1) = 1, (21, [(15, a0), (0, a1)], [], (jup s a0 1 0)), (28, [(15, a0), (0, a1)], [], (jup s a0 1 0))) from rfl) H (fun H => ?_) (fun H => ?_)
    · refine AT.seq [(21, .aload_n 0, 1, (0, 0, 0)), (22, .getfield 32, 3, (5198, 1111, 0)), (25, .goto 4, 3, (0, 0, 0))] (by decide +kernel) (show jrun _ (21, [(15, a0), (0, a1)], [], (jup s a0 1 0)) = some ([], (29, [(15, a0), (0, a1)], [(0, ((jup s a0 1 0) a0 11))], (jup s a0 1 0))) from rfl) ?_
      exact AT.retiH (by decide +kernel) H
    · refine AT.seq [(28, .iconst (-1), 1, (0, 0, 0))] (by decide +kernel) (show jrun _ (28, [(15, a0), (0, a1)], [], (jup s a0 1 0)) = some ([], (29, [(15, a0), (0, a1)], [(0, (-1))], (jup s a0 1 0))) from rfl) ?_
      exact AT.retiH (by decide +kernel) H
def sMd_empties : jS := (⟨"JellyCathedralModel", "empties", "(I)V"⟩, prog_13_method_57_code, 4, 0, [15, 0], 0)
theorem kMd_empties : jmk sMd_empties = true := jmk_of 5186 1012 5185 39 (by decide +kernel)
set_option maxRecDepth 100000 in
theorem Md_empties_8_ok {o : Int × jM} : ∀ (n : Nat) (x0 x2 x3 : Int) (s : jM), Md_empties_8  n x0 x2 x3 s = some o → AT sMd_empties 0 (8, [(15, x0), (99, 0), (0, x2), (0, x3)], [], s) o := by
  intro n
  induction n with
  | zero =>
    intro x0 x2 x3 s H
    have H : (none : Option (Int × jM)) = some o := H
    cases H
  | succ n ih =>
    intro x0 x2 x3 s H
    rw [Md_empties_8] at H
    refine AT.seq [(8, .iload_n 3, 1, (0, 0, 0)), (9, .sipush 381, 3, (0, 0, 0))] (by decide +kernel) (show jrun _ (8, [(15, x0), (99, 0), (0, x2), (0, x3)], [], s) = some ([], (12, [(15, x0), (99, 0), (0, x2), (0, x3)], [(0, 381), (0, x3)], s)) from rfl) ?_
    refine AT.ite (x := (0, 0, 0)) (by decide +kernel) (show jbr (.if_icmp .ge 18) (12, [(15, x0), (99, 0), (0, x2), (0, x3)], [(0, 381), (0, x3)], s) = some ((w32 x3) < 381, (15, [(15, x0), (99, 0), (0, x2), (0, x3)], [], s), (30, [(15, x0), (99, 0), (0, x2), (0, x3)], [], s)) from rfl) H (fun H => ?_) (fun H => ?_)
    · refine AT.blk (g := (0 ≤ (w32 (x2 + x3)) ∧ (w32 (x2 + x3)) < 1905)) [(15, .aload_n 0, 1, (0, 0, 0)), (16, .getfield 35, 3, (5207, 1120, 0)), (19, .iload_n 2, 1, (0, 0, 0)), (20, .iload_n 3, 1, (0, 0, 0)), (21, .iadd, 1, (0, 0, 0)), (22, .iconst 0, 1, (0, 0, 0)), (23, .iastore, 1, (0, 0, 0)), (24, .iinc 3 1, 3, (0, 0, 0)), (27, .goto (-19), 3, (0, 0, 0))] (by decide +kernel) (show jrun _ (15, [(15, x0), (99, 0), (0, x2), (0, x3)], [], s) = some ([(0 ≤ (w32 (x2 + x3)) ∧ (w32 (x2 + x3)) < 1905)], (8, [(15, x0), (99, 0), (0, x2), (0, (x3 + 1))], [], (jup s (x0 + 5) (w32 (x2 + x3)) 0))) from rfl) (fun h => h) H (fun H => ?_)
      exact ih _ _ _ _ H
    · refine AT.blk (g := (0 ≤ (w32 (x2 + 3)) ∧ (w32 (x2 + 3)) < 1905) ∧ (0 ≤ (w32 (x2 + 4)) ∧ (w32 (x2 + 4)) < 1905)) [(30, .aload_n 0, 1, (0, 0, 0)), (31, .getfield 35, 3, (5207, 1120, 0)), (34, .iload_n 2, 1, (0, 0, 0)), (35, .iconst 3, 1, (0, 0, 0)), (36, .iadd, 1, (0, 0, 0)), (37, .iconst 3, 1, (0, 0, 0)), (38, .iastore, 1, (0, 0, 0)), (39, .aload_n 0, 1, (0, 0, 0)), (40, .getfield 35, 3, (5207, 1120, 0)), (43, .iload_n 2, 1, (0, 0, 0)), (44, .iconst 4, 1, (0, 0, 0)), (45, .iadd, 1, (0, 0, 0)), (46, .iconst 2, 1, (0, 0, 0)), (47, .iastore, 1, (0, 0, 0))] (by decide +kernel) (show jrun _ (30, [(15, x0), (99, 0), (0, x2), (0, x3)], [], s) = some ([(0 ≤ (w32 (x2 + 3)) ∧ (w32 (x2 + 3)) < 1905), (0 ≤ (w32 (x2 + 4)) ∧ (w32 (x2 + 4)) < 1905)], (48, [(15, x0), (99, 0), (0, x2), (0, x3)], [], (jup (jup s (x0 + 5) (w32 (x2 + 3)) 3) (x0 + 5) (w32 (x2 + 4)) 2))) from rfl) (fun h => ⟨h.1, h.2⟩) H (fun H => ?_)
      exact AT.retvH (by decide +kernel) H
set_option maxRecDepth 100000 in
theorem Md_empties_ok {a0 a1 : Int} {s : jM} {o : Int × jM} (H : Md_empties a0 a1 s = some o) : MK sMd_empties 0 [(15, a0), (0, a1)] s o := by
  refine MK.of kMd_empties rfl ?_
  show AT sMd_empties 0 (0, [(15, a0), (0, a1), (99, 0), (99, 0)], [], s) o
  unfold Md_empties at H
  refine AT.seq [(0, .sipush 381, 3, (0, 0, 0)), (3, .iload_n 1, 1, (0, 0, 0)), (4, .imul, 1, (0, 0, 0)), (5, .istore_n 2, 1, (0, 0, 0)), (6, .iconst 0, 1, (0, 0, 0)), (7, .istore_n 3, 1, (0, 0, 0))] (by decide +kernel) (show jrun _ (0, [(15, a0), (0, a1), (99, 0), (99, 0)], [], s) = some ([], (8, [(15, a0), (0, a1), (0, (381 * a1)), (0, 0)], [], s)) from rfl) ?_
  exact AT.weak (L' := [(15, a0), (99, 0), (0, (381 * a1)), (0, 0)]) (jleK (jleJ (jleK (jleK jle0)))) (Md_empties_8_ok  jFU _ _ _ _ H)
def sMd_namesFrom : jS := (⟨"JellyCathedralModel", "namesFrom", "(I)I"⟩, prog_13_method_58_code, 1, 1, [0], 1)
theorem kMd_namesFrom : jmk sMd_namesFrom = true := jmk_of 7049 1012 7048 0 (by decide +kernel)
set_option maxRecDepth 100000 in
theorem Md_namesFrom_ok {a0 : Int} {s : jM} {o : Int × jM} (H : Md_namesFrom a0 s = some o) : MK sMd_namesFrom 0 [(0, a0)] s o := by
  refine MK.of kMd_namesFrom rfl ?_
  show AT sMd_namesFrom 0 (0, [(0, a0)], [], s) o
  unfold Md_namesFrom at H
  refine AT.seq [(0, .iload_n 0, 1, (0, 0, 0))] (by decide +kernel) (show jrun _ (0, [(0, a0)], [], s) = some ([], (1, [(0, a0)], [(0, a0)], s)) from rfl) ?_
  refine AT.ite (x := (0, 0, 0)) (by decide +kernel) (show jbr (.ifCond .ne 7) (1, [(0, a0)], [(0, a0)], s) = some ((w32 a0) = 0, (4, [(0, a0)], [], s), (8, [(0, a0)], [], s)) from rfl) H (fun H => ?_) (fun H => ?_)
  · refine AT.seq [(4, .iconst 0, 1, (0, 0, 0)), (5, .goto 14, 3, (0, 0, 0))] (by decide +kernel) (show jrun _ (4, [(0, a0)], [], s) = some ([], (19, [(0, a0)], [(0, 0)], s)) from rfl) ?_
    exact AT.retiH (by decide +kernel) H
  · refine AT.seq [(8, .iload_n 0, 1, (0, 0, 0)), (9, .iconst 1, 1, (0, 0, 0))] (by decide +kernel) (show jrun _ (8, [(0, a0)], [], s) = some ([], (10, [(0, a0)], [(0, 1), (0, a0)], s)) from rfl) ?_
    refine AT.ite (x := (0, 0, 0)) (by decide +kernel) (show jbr (.if_icmp .ne 7) (10, [(0, a0)], [(0, 1), (0, a0)], s) = some ((w32 a0) = 1, (13, [(0, a0)], [], s), (17, [(0, a0)], [], s)) from rfl) H (fun H => ?_) (fun H => ?_)
    · refine AT.seq [(13, .iconst 5, 1, (0, 0, 0)), (14, .goto 5, 3, (0, 0, 0))] (by decide +kernel) (show jrun _ (13, [(0, a0)], [], s) = some ([], (19, [(0, a0)], [(0, 5)], s)) from rfl) ?_
      exact AT.retiH (by decide +kernel) H
    · refine AT.seq [(17, .bipush 11, 2, (0, 0, 0))] (by decide +kernel) (show jrun _ (17, [(0, a0)], [], s) = some ([], (19, [(0, a0)], [(0, 11)], s)) from rfl) ?_
      exact AT.retiH (by decide +kernel) H
def sMd_named : jS := (⟨"JellyCathedralModel", "named", "(II)I"⟩, prog_13_method_59_code, 4, 1, [15, 0, 0], 0)
theorem kMd_named : jmk sMd_named = true := jmk_of 7046 1012 7045 74 (by decide +kernel)
set_option maxRecDepth 100000 in
theorem Md_named_2_ok {o : Int × jM} : ∀ (n : Nat) (x0 x1 x2 x3 : Int) (s : jM), Md_named_2  n x0 x1 x2 x3 s = some o → AT sMd_named 1 (2, [(15, x0), (0, x1), (0, x2), (0, x3)], [], s) o := by
  intro n
  induction n with
  | zero =>
    intro x0 x1 x2 x3 s H
    have H : (none : Option (Int × jM)) = some o := H
    cases H
  | succ n ih =>
    intro x0 x1 x2 x3 s H
    rw [Md_named_2] at H
    refine AT.blk (g := (0 ≤ (w32 ((381 * x1) + x2)) ∧ (w32 ((381 * x1) + x2)) < 1905)) [(2, .iload_n 3, 1, (0, 0, 0)), (3, .aload_n 0, 1, (0, 0, 0)), (4, .getfield 35, 3, (5207, 1120, 0)), (7, .sipush 381, 3, (0, 0, 0)), (10, .iload_n 1, 1, (0, 0, 0)), (11, .imul, 1, (0, 0, 0)), (12, .iload_n 2, 1, (0, 0, 0)), (13, .iadd, 1, (0, 0, 0)), (14, .iaload, 1, (0, 0, 0))] (by decide +kernel) (show jrun _ (2, [(15, x0), (0, x1), (0, x2), (0, x3)], [], s) = some ([(0 ≤ (w32 ((381 * x1) + x2)) ∧ (w32 ((381 * x1) + x2)) < 1905)], (15, [(15, x0), (0, x1), (0, x2), (0, x3)], [(0, (s (x0 + 5) (w32 ((381 * x1) + x2)))), (0, x3)], s)) from rfl) (fun h => h) H (fun H => ?_)
    refine AT.ite (x := (0, 0, 0)) (by decide +kernel) (show jbr (.if_icmp .ge 35) (15, [(15, x0), (0, x1), (0, x2), (0, x3)], [(0, (s (x0 + 5) (w32 ((381 * x1) + x2)))), (0, x3)], s) = some ((w32 x3) < (w32 (s (x0 + 5) (w32 ((381 * x1) + x2)))), (18, [(15, x0), (0, x1), (0, x2), (0, x3)], [], s), (50, [(15, x0), (0, x1), (0, x2), (0, x3)], [], s)) from rfl) H (fun H => ?_) (fun H => ?_)
    · refine AT.seq [(18, .aload_n 0, 1, (0, 0, 0)), (19, .getfield 44, 3, (5210, 1123, 0)), (22, .bipush 16, 2, (0, 0, 0)), (24, .iload_n 1, 1, (0, 0, 0)), (25, .imul, 1, (0, 0, 0)), (26, .iload_n 2, 1, (0, 0, 0))] (by decide +kernel) (show jrun _ (18, [(15, x0), (0, x1), (0, x2), (0, x3)], [], s) = some ([], (27, [(15, x0), (0, x1), (0, x2), (0, x3)], [(0, x2), (0, (16 * x1)), (42, (x0 + 8))], s)) from rfl) ?_
      obtain ⟨v1, s1, h1, H⟩ := jb_some H
      refine AT.callS (As := [(0, x2)]) (st := [(0, (16 * x1)), (42, (x0 + 8))]) (i := 238) (pos := 7047) kMd_namesFrom (by decide +kernel) rfl rfl rfl (by omega) (Md_namesFrom_ok h1) ?_
      show AT sMd_named 1 (30, [(15, x0), (0, x1), (0, x2), (0, x3)], [(0, v1), (0, (16 * x1)), (42, (x0 + 8))], s1) o
      refine AT.blk (g := (0 ≤ (w32 (((16 * x1) + v1) + x3)) ∧ (w32 (((16 * x1) + v1) + x3)) < 80)) [(30, .iadd, 1, (0, 0, 0)), (31, .iload_n 3, 1, (0, 0, 0)), (32, .iadd, 1, (0, 0, 0)), (33, .laload, 1, (0, 0, 0)), (34, .aload_n 0, 1, (0, 0, 0)), (35, .getfield 129, 3, (5206, 1119, 0)), (38, .lcmp, 1, (0, 0, 0))] (by decide +kernel) (show jrun _ (30, [(15, x0), (0, x1), (0, x2), (0, x3)], [(0, v1), (0, (16 * x1)), (42, (x0 + 8))], s1) = some ([(0 ≤ (w32 (((16 * x1) + v1) + x3)) ∧ (w32 (((16 * x1) + v1) + x3)) < 80)], (39, [(15, x0), (0, x1), (0, x2), (0, x3)], [(0, (jlcmp (s1 (x0 + 8) (w32 (((16 * x1) + v1) + x3))) (s1 x0 19)))], s1)) from rfl) (fun h => h) H (fun H => ?_)
      refine AT.ite (x := (0, 0, 0)) (by decide +kernel) (show jbr (.ifCond .ne 5) (39, [(15, x0), (0, x1), (0, x2), (0, x3)], [(0, (jlcmp (s1 (x0 + 8) (w32 (((16 * x1) + v1) + x3))) (s1 x0 19)))], s1) = some ((w32 (jlcmp (s1 (x0 + 8) (w32 (((16 * x1) + v1) + x3))) (s1 x0 19))) = 0, (42, [(15, x0), (0, x1), (0, x2), (0, x3)], [], s1), (44, [(15, x0), (0, x1), (0, x2), (0, x3)], [], s1)) from rfl) H (fun H => ?_) (fun H => ?_)
      · refine AT.seq [(42, .iload_n 3, 1, (0, 0, 0))] (by decide +kernel) (show jrun _ (42, [(15, x0), (0, x1), (0, x2), (0, x3)], [], s1) = some ([], (43, [(15, x0), (0, x1), (0, x2), (0, x3)], [(0, x3)], s1)) from rfl) ?_
        exact AT.retiH (by decide +kernel) H
      · refine AT.seq [(44, .iinc 3 1, 3, (0, 0, 0)), (47, .goto (-45), 3, (0, 0, 0))] (by decide +kernel) (show jrun _ (44, [(15, x0), (0, x1), (0, x2), (0, x3)], [], s1) = some ([], (2, [(15, x0), (0, x1), (0, x2), (0, (x3 + 1))], [], s1)) from rfl) ?_
        exact ih _ _ _ _ _ H
    · refine AT.seq [(50, .iconst (-1), 1, (0, 0, 0))] (by decide +kernel) (show jrun _ (50, [(15, x0), (0, x1), (0, x2), (0, x3)], [], s) = some ([], (51, [(15, x0), (0, x1), (0, x2), (0, x3)], [(0, (-1))], s)) from rfl) ?_
      exact AT.retiH (by decide +kernel) H
set_option maxRecDepth 100000 in
theorem Md_named_ok {a0 a1 a2 : Int} {s : jM} {o : Int × jM} (H : Md_named a0 a1 a2 s = some o) : MK sMd_named 1 [(15, a0), (0, a1), (0, a2)] s o := by
  refine MK.of kMd_named rfl ?_
  show AT sMd_named 1 (0, [(15, a0), (0, a1), (0, a2), (99, 0)], [], s) o
  unfold Md_named at H
  refine AT.seq [(0, .iconst 0, 1, (0, 0, 0)), (1, .istore_n 3, 1, (0, 0, 0))] (by decide +kernel) (show jrun _ (0, [(15, a0), (0, a1), (0, a2), (99, 0)], [], s) = some ([], (2, [(15, a0), (0, a1), (0, a2), (0, 0)], [], s)) from rfl) ?_
  exact Md_named_2_ok  jFU _ _ _ _ _ H
def sMd_readNew : jS := (⟨"JellyCathedralModel", "readNew", "(II)I"⟩, prog_13_method_60_code, 4, 1, [15, 0, 0], 0)
theorem kMd_readNew : jmk sMd_readNew = true := jmk_of 6222 1012 6221 58 (by decide +kernel)
set_option maxRecDepth 100000 in
theorem Md_readNew_93_ok {o : Int × jM} {x0 x1 x3 : Int} {s : jM} (H : Md_readNew_93  x0 x1 x3 s = some o) : AT sMd_readNew 5 (93, [(15, x0), (0, x1), (99, 0), (0, x3)], [], s) o := by
  unfold Md_readNew_93 at H
  refine AT.seq [(93, .aload_n 0, 1, (0, 0, 0)), (94, .getfield 209, 3, (5199, 1112, 0))] (by decide +kernel) (show jrun _ (93, [(15, x0), (0, x1), (99, 0), (0, x3)], [], s) = some ([], (97, [(15, x0), (0, x1), (99, 0), (0, x3)], [(0, (s x0 12))], s)) from rfl) ?_
  refine AT.ite (x := (0, 0, 0)) (by decide +kernel) (show jbr (.ifCond .le 5) (97, [(15, x0), (0, x1), (99, 0), (0, x3)], [(0, (s x0 12))], s) = some (0 < (w32 (s x0 12)), (100, [(15, x0), (0, x1), (99, 0), (0, x3)], [], s), (102, [(15, x0), (0, x1), (99, 0), (0, x3)], [], s)) from rfl) H (fun H => ?_) (fun H => ?_)
  · refine AT.seq [(100, .iconst 0, 1, (0, 0, 0))] (by decide +kernel) (show jrun _ (100, [(15, x0), (0, x1), (99, 0), (0, x3)], [], s) = some ([], (101, [(15, x0), (0, x1), (99, 0), (0, x3)], [(0, 0)], s)) from rfl) ?_
    exact AT.retiH (by decide +kernel) H
  · refine AT.seq [(102, .aload_n 0, 1, (0, 0, 0)), (103, .getfield 44, 3, (5210, 1123, 0)), (106, .bipush 64, 2, (0, 0, 0)), (108, .iload_n 1, 1, (0, 0, 0))] (by decide +kernel) (show jrun _ (102, [(15, x0), (0, x1), (99, 0), (0, x3)], [], s) = some ([], (109, [(15, x0), (0, x1), (99, 0), (0, x3)], [(0, x1), (0, 64), (42, (x0 + 8))], s)) from rfl) ?_
    obtain ⟨v1, s1, h1, H⟩ := jb_some H
    refine AT.callS (As := [(0, x1)]) (st := [(0, 64), (42, (x0 + 8))]) (i := 238) (pos := 7047) kMd_namesFrom (by decide +kernel) rfl rfl rfl (by omega) (Md_namesFrom_ok h1) ?_
    show AT sMd_readNew 5 (112, [(15, x0), (0, x1), (99, 0), (0, x3)], [(0, v1), (0, 64), (42, (x0 + 8))], s1) o
    refine AT.blk (g := (0 ≤ (w32 ((64 + v1) + x3)) ∧ (w32 ((64 + v1) + x3)) < 80)) [(112, .iadd, 1, (0, 0, 0)), (113, .iload_n 3, 1, (0, 0, 0)), (114, .iadd, 1, (0, 0, 0)), (115, .aload_n 0, 1, (0, 0, 0)), (116, .getfield 129, 3, (5206, 1119, 0)), (119, .lastore, 1, (0, 0, 0)), (120, .aload_n 0, 1, (0, 0, 0))] (by decide +kernel) (show jrun _ (112, [(15, x0), (0, x1), (99, 0), (0, x3)], [(0, v1), (0, 64), (42, (x0 + 8))], s1) = some ([(0 ≤ (w32 ((64 + v1) + x3)) ∧ (w32 ((64 + v1) + x3)) < 80)], (121, [(15, x0), (0, x1), (99, 0), (0, x3)], [(15, x0)], (jup s1 (x0 + 8) (w32 ((64 + v1) + x3)) (s1 x0 19)))) from rfl) (fun h => h) H (fun H => ?_)
    obtain ⟨v2, s2, h2, H⟩ := jb_some H
    refine AT.callV (As := []) (cl := 11) (b := x0) (st := []) (i := 219) (pos := 6150) kMd_advance (by decide +kernel) rfl (by decide +kernel) rfl rfl (by omega) (Md_advance_ok h2) ?_
    show AT sMd_readNew 5 (124, [(15, x0), (0, x1), (99, 0), (0, x3)], [], s2) o
    refine AT.seq [(124, .iload_n 3, 1, (0, 0, 0))] (by decide +kernel) (show jrun _ (124, [(15, x0), (0, x1), (99, 0), (0, x3)], [], s2) = some ([], (125, [(15, x0), (0, x1), (99, 0), (0, x3)], [(0, x3)], s2)) from rfl) ?_
    exact AT.retiH (by decide +kernel) H
set_option maxRecDepth 100000 in
theorem Md_readNew_50_ok {o : Int × jM} {x0 x1 x3 : Int} {s : jM} (H : Md_readNew_50  x0 x1 x3 s = some o) : AT sMd_readNew 5 (50, [(15, x0), (0, x1), (99, 0), (0, x3)], [], s) o := by
  unfold Md_readNew_50 at H
  refine AT.seq [(50, .aload_n 0, 1, (0, 0, 0)), (51, .getfield 209, 3, (5199, 1112, 0))] (by decide +kernel) (show jrun _ (50, [(15, x0), (0, x1), (99, 0), (0, x3)], [], s) = some ([], (54, [(15, x0), (0, x1), (99, 0), (0, x3)], [(0, (s x0 12))], s)) from rfl) ?_
  refine AT.ite (x := (0, 0, 0)) (by decide +kernel) (show jbr (.ifCond .ne 39) (54, [(15, x0), (0, x1), (99, 0), (0, x3)], [(0, (s x0 12))], s) = some ((w32 (s x0 12)) = 0, (57, [(15, x0), (0, x1), (99, 0), (0, x3)], [], s), (93, [(15, x0), (0, x1), (99, 0), (0, x3)], [], s)) from rfl) H (fun H => ?_) (fun H => ?_)
  · refine AT.seq [(57, .aload_n 0, 1, (0, 0, 0)), (58, .iconst 4, 1, (0, 0, 0)), (59, .iconst 0, 1, (0, 0, 0))] (by decide +kernel) (show jrun _ (57, [(15, x0), (0, x1), (99, 0), (0, x3)], [], s) = some ([], (60, [(15, x0), (0, x1), (99, 0), (0, x3)], [(0, 0), (0, 4), (15, x0)], s)) from rfl) ?_
    obtain ⟨v3, s3, h3, H⟩ := jb_some H
    refine AT.callV (As := [(0, 4), (0, 0)]) (cl := 11) (b := x0) (st := []) (i := 244) (pos := 7043) kMd_named (by decide +kernel) rfl (by decide +kernel) rfl rfl (by omega) (Md_named_ok h3) ?_
    show AT sMd_readNew 5 (63, [(15, x0), (0, x1), (99, 0), (0, x3)], [(0, v3)], s3) o
    refine AT.ite (x := (0, 0, 0)) (by decide +kernel) (show jbr (.ifCond .ge 21) (63, [(15, x0), (0, x1), (99, 0), (0, x3)], [(0, v3)], s3) = some ((w32 v3) < 0, (66, [(15, x0), (0, x1), (99, 0), (0, x3)], [], s3), (84, [(15, x0), (0, x1), (99, 0), (0, x3)], [], s3)) from rfl) H (fun H => ?_) (fun H => ?_)
    · refine AT.seq [(66, .aload_n 0, 1, (0, 0, 0)), (67, .iconst 4, 1, (0, 0, 0)), (68, .iconst 1, 1, (0, 0, 0))] (by decide +kernel) (show jrun _ (66, [(15, x0), (0, x1), (99, 0), (0, x3)], [], s3) = some ([], (69, [(15, x0), (0, x1), (99, 0), (0, x3)], [(0, 1), (0, 4), (15, x0)], s3)) from rfl) ?_
      obtain ⟨v4, s4, h4, H⟩ := jb_some H
      refine AT.callV (As := [(0, 4), (0, 1)]) (cl := 11) (b := x0) (st := []) (i := 244) (pos := 7043) kMd_named (by decide +kernel) rfl (by decide +kernel) rfl rfl (by omega) (Md_named_ok h4) ?_
      show AT sMd_readNew 5 (72, [(15, x0), (0, x1), (99, 0), (0, x3)], [(0, v4)], s4) o
      refine AT.ite (x := (0, 0, 0)) (by decide +kernel) (show jbr (.ifCond .ge 12) (72, [(15, x0), (0, x1), (99, 0), (0, x3)], [(0, v4)], s4) = some ((w32 v4) < 0, (75, [(15, x0), (0, x1), (99, 0), (0, x3)], [], s4), (84, [(15, x0), (0, x1), (99, 0), (0, x3)], [], s4)) from rfl) H (fun H => ?_) (fun H => ?_)
      · refine AT.seq [(75, .aload_n 0, 1, (0, 0, 0)), (76, .iconst 4, 1, (0, 0, 0)), (77, .iconst 2, 1, (0, 0, 0))] (by decide +kernel) (show jrun _ (75, [(15, x0), (0, x1), (99, 0), (0, x3)], [], s4) = some ([], (78, [(15, x0), (0, x1), (99, 0), (0, x3)], [(0, 2), (0, 4), (15, x0)], s4)) from rfl) ?_
        obtain ⟨v5, s5, h5, H⟩ := jb_some H
        refine AT.callV (As := [(0, 4), (0, 2)]) (cl := 11) (b := x0) (st := []) (i := 244) (pos := 7043) kMd_named (by decide +kernel) rfl (by decide +kernel) rfl rfl (by omega) (Md_named_ok h5) ?_
        show AT sMd_readNew 5 (81, [(15, x0), (0, x1), (99, 0), (0, x3)], [(0, v5)], s5) o
        refine AT.ite (x := (0, 0, 0)) (by decide +kernel) (show jbr (.ifCond .lt 12) (81, [(15, x0), (0, x1), (99, 0), (0, x3)], [(0, v5)], s5) = some ((w32 v5) < 0, (93, [(15, x0), (0, x1), (99, 0), (0, x3)], [], s5), (84, [(15, x0), (0, x1), (99, 0), (0, x3)], [], s5)) from rfl) H (fun H => ?_) (fun H => ?_)
        · exact Md_readNew_93_ok  H
        · refine AT.seq [(84, .aload_n 0, 1, (0, 0, 0)), (85, .iconst 3, 1, (0, 0, 0)), (86, .aload_n 0, 1, (0, 0, 0)), (87, .getfield 117, 3, (5202, 1115, 0))] (by decide +kernel) (show jrun _ (84, [(15, x0), (0, x1), (99, 0), (0, x3)], [], s5) = some ([], (90, [(15, x0), (0, x1), (99, 0), (0, x3)], [(0, (s5 x0 15)), (0, 3), (15, x0)], s5)) from rfl) ?_
          obtain ⟨v6, s6, h6, H⟩ := jb_some H
          refine AT.callV (As := [(0, 3), (0, (s5 x0 15))]) (cl := 11) (b := x0) (st := []) (i := 215) (pos := 6192) kMd_fail (by decide +kernel) rfl (by decide +kernel) rfl rfl (by omega) (Md_fail_ok h6) ?_
          show AT sMd_readNew 5 (93, [(15, x0), (0, x1), (99, 0), (0, x3)], [], s6) o
          exact Md_readNew_93_ok  H
      · refine AT.seq [(84, .aload_n 0, 1, (0, 0, 0)), (85, .iconst 3, 1, (0, 0, 0)), (86, .aload_n 0, 1, (0, 0, 0)), (87, .getfield 117, 3, (5202, 1115, 0))] (by decide +kernel) (show jrun _ (84, [(15, x0), (0, x1), (99, 0), (0, x3)], [], s4) = some ([], (90, [(15, x0), (0, x1), (99, 0), (0, x3)], [(0, (s4 x0 15)), (0, 3), (15, x0)], s4)) from rfl) ?_
        obtain ⟨v7, s7, h7, H⟩ := jb_some H
        refine AT.callV (As := [(0, 3), (0, (s4 x0 15))]) (cl := 11) (b := x0) (st := []) (i := 215) (pos := 6192) kMd_fail (by decide +kernel) rfl (by decide +kernel) rfl rfl (by omega) (Md_fail_ok h7) ?_
        show AT sMd_readNew 5 (93, [(15, x0), (0, x1), (99, 0), (0, x3)], [], s7) o
        exact Md_readNew_93_ok  H
    · refine AT.seq [(84, .aload_n 0, 1, (0, 0, 0)), (85, .iconst 3, 1, (0, 0, 0)), (86, .aload_n 0, 1, (0, 0, 0)), (87, .getfield 117, 3, (5202, 1115, 0))] (by decide +kernel) (show jrun _ (84, [(15, x0), (0, x1), (99, 0), (0, x3)], [], s3) = some ([], (90, [(15, x0), (0, x1), (99, 0), (0, x3)], [(0, (s3 x0 15)), (0, 3), (15, x0)], s3)) from rfl) ?_
      obtain ⟨v8, s8, h8, H⟩ := jb_some H
      refine AT.callV (As := [(0, 3), (0, (s3 x0 15))]) (cl := 11) (b := x0) (st := []) (i := 215) (pos := 6192) kMd_fail (by decide +kernel) rfl (by decide +kernel) rfl rfl (by omega) (Md_fail_ok h8) ?_
      show AT sMd_readNew 5 (93, [(15, x0), (0, x1), (99, 0), (0, x3)], [], s8) o
      exact Md_readNew_93_ok  H
  · exact Md_readNew_93_ok  H
set_option maxRecDepth 100000 in
theorem Md_readNew_26_ok {o : Int × jM} {x0 x1 x3 : Int} {s : jM} (H : Md_readNew_26  x0 x1 x3 s = some o) : AT sMd_readNew 5 (26, [(15, x0), (0, x1), (99, 0), (0, x3)], [], s) o := by
  unfold Md_readNew_26 at H
  refine AT.seq [(26, .aload_n 0, 1, (0, 0, 0)), (27, .getfield 209, 3, (5199, 1112, 0))] (by decide +kernel) (show jrun _ (26, [(15, x0), (0, x1), (99, 0), (0, x3)], [], s) = some ([], (30, [(15, x0), (0, x1), (99, 0), (0, x3)], [(0, (s x0 12))], s)) from rfl) ?_
  refine AT.ite (x := (0, 0, 0)) (by decide +kernel) (show jbr (.ifCond .le 5) (30, [(15, x0), (0, x1), (99, 0), (0, x3)], [(0, (s x0 12))], s) = some (0 < (w32 (s x0 12)), (33, [(15, x0), (0, x1), (99, 0), (0, x3)], [], s), (35, [(15, x0), (0, x1), (99, 0), (0, x3)], [], s)) from rfl) H (fun H => ?_) (fun H => ?_)
  · refine AT.seq [(33, .iconst 0, 1, (0, 0, 0))] (by decide +kernel) (show jrun _ (33, [(15, x0), (0, x1), (99, 0), (0, x3)], [], s) = some ([], (34, [(15, x0), (0, x1), (99, 0), (0, x3)], [(0, 0)], s)) from rfl) ?_
    exact AT.retiH (by decide +kernel) H
  · refine AT.seq [(35, .aload_n 0, 1, (0, 0, 0))] (by decide +kernel) (show jrun _ (35, [(15, x0), (0, x1), (99, 0), (0, x3)], [], s) = some ([], (36, [(15, x0), (0, x1), (99, 0), (0, x3)], [(15, x0)], s)) from rfl) ?_
    obtain ⟨v9, s9, h9, H⟩ := jb_some H
    refine AT.callV (As := []) (cl := 11) (b := x0) (st := []) (i := 219) (pos := 6150) kMd_advance (by decide +kernel) rfl (by decide +kernel) rfl rfl (by omega) (Md_advance_ok h9) ?_
    show AT sMd_readNew 5 (39, [(15, x0), (0, x1), (99, 0), (0, x3)], [], s9) o
    refine AT.seq [(39, .aload_n 0, 1, (0, 0, 0))] (by decide +kernel) (show jrun _ (39, [(15, x0), (0, x1), (99, 0), (0, x3)], [], s9) = some ([], (40, [(15, x0), (0, x1), (99, 0), (0, x3)], [(15, x0)], s9)) from rfl) ?_
    obtain ⟨v10, s10, h10, H⟩ := jb_some H
    refine AT.callV (As := []) (cl := 11) (b := x0) (st := []) (i := 241) (pos := 6223) kMd_isName (by decide +kernel) rfl (by decide +kernel) rfl rfl (by omega) (Md_isName_ok h10) ?_
    show AT sMd_readNew 5 (43, [(15, x0), (0, x1), (99, 0), (0, x3)], [(0, v10)], s10) o
    refine AT.ite (x := (0, 0, 0)) (by decide +kernel) (show jbr (.ifCond .ne 7) (43, [(15, x0), (0, x1), (99, 0), (0, x3)], [(0, v10)], s10) = some ((w32 v10) = 0, (46, [(15, x0), (0, x1), (99, 0), (0, x3)], [], s10), (50, [(15, x0), (0, x1), (99, 0), (0, x3)], [], s10)) from rfl) H (fun H => ?_) (fun H => ?_)
    · refine AT.seq [(46, .aload_n 0, 1, (0, 0, 0))] (by decide +kernel) (show jrun _ (46, [(15, x0), (0, x1), (99, 0), (0, x3)], [], s10) = some ([], (47, [(15, x0), (0, x1), (99, 0), (0, x3)], [(15, x0)], s10)) from rfl) ?_
      obtain ⟨v11, s11, h11, H⟩ := jb_some H
      refine AT.callV (As := []) (cl := 11) (b := x0) (st := []) (i := 222) (pos := 6200) kMd_amiss (by decide +kernel) rfl (by decide +kernel) rfl rfl (by omega) (Md_amiss_ok h11) ?_
      show AT sMd_readNew 5 (50, [(15, x0), (0, x1), (99, 0), (0, x3)], [], s11) o
      exact Md_readNew_50_ok  H
    · exact Md_readNew_50_ok  H
set_option maxRecDepth 100000 in
theorem Md_readNew_ok {a0 a1 a2 : Int} {s : jM} {o : Int × jM} (H : Md_readNew a0 a1 a2 s = some o) : MK sMd_readNew 5 [(15, a0), (0, a1), (0, a2)] s o := by
  refine MK.of kMd_readNew rfl ?_
  show AT sMd_readNew 5 (0, [(15, a0), (0, a1), (0, a2), (99, 0)], [], s) o
  unfold Md_readNew at H
  refine AT.blk (g := (0 ≤ (w32 (1524 + a1)) ∧ (w32 (1524 + a1)) < 1905)) [(0, .aload_n 0, 1, (0, 0, 0)), (1, .getfield 35, 3, (5207, 1120, 0)), (4, .sipush 1524, 3, (0, 0, 0)), (7, .iload_n 1, 1, (0, 0, 0)), (8, .iadd, 1, (0, 0, 0)), (9, .iaload, 1, (0, 0, 0)), (10, .istore_n 3, 1, (0, 0, 0)), (11, .iload_n 3, 1, (0, 0, 0)), (12, .iload_n 2, 1, (0, 0, 0))] (by decide +kernel) (show jrun _ (0, [(15, a0), (0, a1), (0, a2), (99, 0)], [], s) = some ([(0 ≤ (w32 (1524 + a1)) ∧ (w32 (1524 + a1)) < 1905)], (13, [(15, a0), (0, a1), (0, a2), (0, (s (a0 + 5) (w32 (1524 + a1))))], [(0, a2), (0, (s (a0 + 5) (w32 (1524 + a1))))], s)) from rfl) (fun h => h) H (fun H => ?_)
  refine AT.ite (x := (0, 0, 0)) (by decide +kernel) (show jbr (.if_icmp .ne 13) (13, [(15, a0), (0, a1), (0, a2), (0, (s (a0 + 5) (w32 (1524 + a1))))], [(0, a2), (0, (s (a0 + 5) (w32 (1524 + a1))))], s) = some ((w32 (s (a0 + 5) (w32 (1524 + a1)))) = (w32 a2), (16, [(15, a0), (0, a1), (0, a2), (0, (s (a0 + 5) (w32 (1524 + a1))))], [], s), (26, [(15, a0), (0, a1), (0, a2), (0, (s (a0 + 5) (w32 (1524 + a1))))], [], s)) from rfl) H (fun H => ?_) (fun H => ?_)
  · refine AT.seq [(16, .aload_n 0, 1, (0, 0, 0)), (17, .bipush 6, 2, (0, 0, 0)), (19, .aload_n 0, 1, (0, 0, 0)), (20, .getfield 117, 3, (5202, 1115, 0))] (by decide +kernel) (show jrun _ (16, [(15, a0), (0, a1), (0, a2), (0, (s (a0 + 5) (w32 (1524 + a1))))], [], s) = some ([], (23, [(15, a0), (0, a1), (0, a2), (0, (s (a0 + 5) (w32 (1524 + a1))))], [(0, (s a0 15)), (0, 6), (15, a0)], s)) from rfl) ?_
    obtain ⟨v12, s12, h12, H⟩ := jb_some H
    refine AT.callV (As := [(0, 6), (0, (s a0 15))]) (cl := 11) (b := a0) (st := []) (i := 215) (pos := 6192) kMd_fail (by decide +kernel) rfl (by decide +kernel) rfl rfl (by omega) (Md_fail_ok h12) ?_
    show AT sMd_readNew 5 (26, [(15, a0), (0, a1), (0, a2), (0, (s (a0 + 5) (w32 (1524 + a1))))], [], s12) o
    exact AT.weak (L' := [(15, a0), (0, a1), (99, 0), (0, (s (a0 + 5) (w32 (1524 + a1))))]) (jleK (jleK (jleJ (jleK jle0)))) (Md_readNew_26_ok  H)
  · exact AT.weak (L' := [(15, a0), (0, a1), (99, 0), (0, (s (a0 + 5) (w32 (1524 + a1))))]) (jleK (jleK (jleJ (jleK jle0)))) (Md_readNew_26_ok  H)
def sMd_told : jS := (⟨"JellyCathedralModel", "told", "(II)I"⟩, prog_13_method_61_code, 4, 1, [15, 0, 0], 0)
theorem kMd_told : jmk sMd_told = true := jmk_of 7077 1012 7076 81 (by decide +kernel)
set_option maxRecDepth 100000 in
theorem Md_told_18_ok {o : Int × jM} {x0 x1 x2 : Int} {s : jM} (H : Md_told_18  x0 x1 x2 s = some o) : AT sMd_told 5 (18, [(15, x0), (0, x1), (0, x2), (99, 0)], [], s) o := by
  unfold Md_told_18 at H
  refine AT.seq [(18, .aload_n 0, 1, (0, 0, 0)), (19, .getfield 209, 3, (5199, 1112, 0))] (by decide +kernel) (show jrun _ (18, [(15, x0), (0, x1), (0, x2), (99, 0)], [], s) = some ([], (22, [(15, x0), (0, x1), (0, x2), (99, 0)], [(0, (s x0 12))], s)) from rfl) ?_
  refine AT.ite (x := (0, 0, 0)) (by decide +kernel) (show jbr (.ifCond .le 5) (22, [(15, x0), (0, x1), (0, x2), (99, 0)], [(0, (s x0 12))], s) = some (0 < (w32 (s x0 12)), (25, [(15, x0), (0, x1), (0, x2), (99, 0)], [], s), (27, [(15, x0), (0, x1), (0, x2), (99, 0)], [], s)) from rfl) H (fun H => ?_) (fun H => ?_)
  · refine AT.seq [(25, .iconst 0, 1, (0, 0, 0))] (by decide +kernel) (show jrun _ (25, [(15, x0), (0, x1), (0, x2), (99, 0)], [], s) = some ([], (26, [(15, x0), (0, x1), (0, x2), (99, 0)], [(0, 0)], s)) from rfl) ?_
    exact AT.retiH (by decide +kernel) H
  · refine AT.seq [(27, .aload_n 0, 1, (0, 0, 0)), (28, .iload_n 1, 1, (0, 0, 0)), (29, .iload_n 2, 1, (0, 0, 0))] (by decide +kernel) (show jrun _ (27, [(15, x0), (0, x1), (0, x2), (99, 0)], [], s) = some ([], (30, [(15, x0), (0, x1), (0, x2), (99, 0)], [(0, x2), (0, x1), (15, x0)], s)) from rfl) ?_
    obtain ⟨v1, s1, h1, H⟩ := jb_some H
    refine AT.callV (As := [(0, x1), (0, x2)]) (cl := 11) (b := x0) (st := []) (i := 244) (pos := 7043) kMd_named (by decide +kernel) rfl (by decide +kernel) rfl rfl (by omega) (Md_named_ok h1) ?_
    show AT sMd_told 5 (33, [(15, x0), (0, x1), (0, x2), (99, 0)], [(0, v1)], s1) o
    refine AT.seq [(33, .istore_n 3, 1, (0, 0, 0)), (34, .iload_n 3, 1, (0, 0, 0))] (by decide +kernel) (show jrun _ (33, [(15, x0), (0, x1), (0, x2), (99, 0)], [(0, v1)], s1) = some ([], (35, [(15, x0), (0, x1), (0, x2), (0, v1)], [(0, v1)], s1)) from rfl) ?_
    refine AT.ite (x := (0, 0, 0)) (by decide +kernel) (show jbr (.ifCond .ge 12) (35, [(15, x0), (0, x1), (0, x2), (0, v1)], [(0, v1)], s1) = some ((w32 v1) < 0, (38, [(15, x0), (0, x1), (0, x2), (0, v1)], [], s1), (47, [(15, x0), (0, x1), (0, x2), (0, v1)], [], s1)) from rfl) H (fun H => ?_) (fun H => ?_)
    · refine AT.seq [(38, .aload_n 0, 1, (0, 0, 0)), (39, .iconst 3, 1, (0, 0, 0)), (40, .aload_n 0, 1, (0, 0, 0)), (41, .getfield 117, 3, (5202, 1115, 0))] (by decide +kernel) (show jrun _ (38, [(15, x0), (0, x1), (0, x2), (0, v1)], [], s1) = some ([], (44, [(15, x0), (0, x1), (0, x2), (0, v1)], [(0, (s1 x0 15)), (0, 3), (15, x0)], s1)) from rfl) ?_
      obtain ⟨v2, s2, h2, H⟩ := jb_some H
      refine AT.callV (As := [(0, 3), (0, (s1 x0 15))]) (cl := 11) (b := x0) (st := []) (i := 215) (pos := 6192) kMd_fail (by decide +kernel) rfl (by decide +kernel) rfl rfl (by omega) (Md_fail_ok h2) ?_
      show AT sMd_told 5 (47, [(15, x0), (0, x1), (0, x2), (0, v1)], [], s2) o
      refine AT.seq [(47, .iconst 0, 1, (0, 0, 0)), (48, .iload_n 3, 1, (0, 0, 0)), (49, .invokestatic 247, 3, (7078, 1, 0))] (by decide +kernel) (show jrun _ (47, [(15, x0), (0, x1), (0, x2), (0, v1)], [], s2) = some ([], (52, [(15, x0), (0, x1), (0, x2), (0, v1)], [(0, (jmax 0 v1))], s2)) from rfl) ?_
      exact AT.retiH (by decide +kernel) H
    · refine AT.seq [(47, .iconst 0, 1, (0, 0, 0)), (48, .iload_n 3, 1, (0, 0, 0)), (49, .invokestatic 247, 3, (7078, 1, 0))] (by decide +kernel) (show jrun _ (47, [(15, x0), (0, x1), (0, x2), (0, v1)], [], s1) = some ([], (52, [(15, x0), (0, x1), (0, x2), (0, v1)], [(0, (jmax 0 v1))], s1)) from rfl) ?_
      exact AT.retiH (by decide +kernel) H
set_option maxRecDepth 100000 in
theorem Md_told_ok {a0 a1 a2 : Int} {s : jM} {o : Int × jM} (H : Md_told a0 a1 a2 s = some o) : MK sMd_told 5 [(15, a0), (0, a1), (0, a2)] s o := by
  refine MK.of kMd_told rfl ?_
  show AT sMd_told 5 (0, [(15, a0), (0, a1), (0, a2), (99, 0)], [], s) o
  unfold Md_told at H
  refine AT.seq [(0, .aload_n 0, 1, (0, 0, 0)), (1, .getfield 209, 3, (5199, 1112, 0))] (by decide +kernel) (show jrun _ (0, [(15, a0), (0, a1), (0, a2), (99, 0)], [], s) = some ([], (4, [(15, a0), (0, a1), (0, a2), (99, 0)], [(0, (s a0 12))], s)) from rfl) ?_
  refine AT.ite (x := (0, 0, 0)) (by decide +kernel) (show jbr (.ifCond .ne 14) (4, [(15, a0), (0, a1), (0, a2), (99, 0)], [(0, (s a0 12))], s) = some ((w32 (s a0 12)) = 0, (7, [(15, a0), (0, a1), (0, a2), (99, 0)], [], s), (18, [(15, a0), (0, a1), (0, a2), (99, 0)], [], s)) from rfl) H (fun H => ?_) (fun H => ?_)
  · refine AT.seq [(7, .aload_n 0, 1, (0, 0, 0))] (by decide +kernel) (show jrun _ (7, [(15, a0), (0, a1), (0, a2), (99, 0)], [], s) = some ([], (8, [(15, a0), (0, a1), (0, a2), (99, 0)], [(15, a0)], s)) from rfl) ?_
    obtain ⟨v3, s3, h3, H⟩ := jb_some H
    refine AT.callV (As := []) (cl := 11) (b := a0) (st := []) (i := 241) (pos := 6223) kMd_isName (by decide +kernel) rfl (by decide +kernel) rfl rfl (by omega) (Md_isName_ok h3) ?_
    show AT sMd_told 5 (11, [(15, a0), (0, a1), (0, a2), (99, 0)], [(0, v3)], s3) o
    refine AT.ite (x := (0, 0, 0)) (by decide +kernel) (show jbr (.ifCond .ne 7) (11, [(15, a0), (0, a1), (0, a2), (99, 0)], [(0, v3)], s3) = some ((w32 v3) = 0, (14, [(15, a0), (0, a1), (0, a2), (99, 0)], [], s3), (18, [(15, a0), (0, a1), (0, a2), (99, 0)], [], s3)) from rfl) H (fun H => ?_) (fun H => ?_)
    · refine AT.seq [(14, .aload_n 0, 1, (0, 0, 0))] (by decide +kernel) (show jrun _ (14, [(15, a0), (0, a1), (0, a2), (99, 0)], [], s3) = some ([], (15, [(15, a0), (0, a1), (0, a2), (99, 0)], [(15, a0)], s3)) from rfl) ?_
      obtain ⟨v4, s4, h4, H⟩ := jb_some H
      refine AT.callV (As := []) (cl := 11) (b := a0) (st := []) (i := 222) (pos := 6200) kMd_amiss (by decide +kernel) rfl (by decide +kernel) rfl rfl (by omega) (Md_amiss_ok h4) ?_
      show AT sMd_told 5 (18, [(15, a0), (0, a1), (0, a2), (99, 0)], [], s4) o
      exact Md_told_18_ok  H
    · exact Md_told_18_ok  H
  · exact Md_told_18_ok  H
def sMd_readTold : jS := (⟨"JellyCathedralModel", "readTold", "(II)I"⟩, prog_13_method_62_code, 4, 1, [15, 0, 0], 0)
theorem kMd_readTold : jmk sMd_readTold = true := jmk_of 7073 1012 7072 80 (by decide +kernel)
set_option maxRecDepth 100000 in
theorem Md_readTold_ok {a0 a1 a2 : Int} {s : jM} {o : Int × jM} (H : Md_readTold a0 a1 a2 s = some o) : MK sMd_readTold 6 [(15, a0), (0, a1), (0, a2)] s o := by
  refine MK.of kMd_readTold rfl ?_
  show AT sMd_readTold 6 (0, [(15, a0), (0, a1), (0, a2), (99, 0)], [], s) o
  unfold Md_readTold at H
  refine AT.seq [(0, .aload_n 0, 1, (0, 0, 0)), (1, .iload_n 1, 1, (0, 0, 0)), (2, .iload_n 2, 1, (0, 0, 0))] (by decide +kernel) (show jrun _ (0, [(15, a0), (0, a1), (0, a2), (99, 0)], [], s) = some ([], (3, [(15, a0), (0, a1), (0, a2), (99, 0)], [(0, a2), (0, a1), (15, a0)], s)) from rfl) ?_
  obtain ⟨v1, s1, h1, H⟩ := jb_some H
  refine AT.callV (As := [(0, a1), (0, a2)]) (cl := 11) (b := a0) (st := []) (i := 250) (pos := 7074) kMd_told (by decide +kernel) rfl (by decide +kernel) rfl rfl (by omega) (Md_told_ok h1) ?_
  show AT sMd_readTold 6 (6, [(15, a0), (0, a1), (0, a2), (99, 0)], [(0, v1)], s1) o
  refine AT.seq [(6, .istore_n 3, 1, (0, 0, 0)), (7, .aload_n 0, 1, (0, 0, 0)), (8, .iconst 1, 1, (0, 0, 0))] (by decide +kernel) (show jrun _ (6, [(15, a0), (0, a1), (0, a2), (99, 0)], [(0, v1)], s1) = some ([], (9, [(15, a0), (0, a1), (0, a2), (0, v1)], [(0, 1), (15, a0)], s1)) from rfl) ?_
  obtain ⟨v2, s2, h2, H⟩ := jb_some H
  refine AT.callV (As := [(0, 1)]) (cl := 11) (b := a0) (st := []) (i := 225) (pos := 7054) kMd_must (by decide +kernel) rfl (by decide +kernel) rfl rfl (by omega) (Md_must_ok h2) ?_
  show AT sMd_readTold 6 (12, [(15, a0), (0, a1), (0, a2), (0, v1)], [], s2) o
  refine AT.seq [(12, .iload_n 3, 1, (0, 0, 0))] (by decide +kernel) (show jrun _ (12, [(15, a0), (0, a1), (0, a2), (0, v1)], [], s2) = some ([], (13, [(15, a0), (0, a1), (0, a2), (0, v1)], [(0, v1)], s2)) from rfl) ?_
  exact AT.retiH (by decide +kernel) H
def sMd_readOnce : jS := (⟨"JellyCathedralModel", "readOnce", "(III)V"⟩, prog_13_method_63_code, 4, 0, [15, 0, 0, 0], 0)
theorem kMd_readOnce : jmk sMd_readOnce = true := jmk_of 6188 1012 6187 51 (by decide +kernel)
set_option maxRecDepth 100000 in
theorem Md_readOnce_20_ok {o : Int × jM} {x0 x1 x2 x3 : Int} {s : jM} (H : Md_readOnce_20  x0 x1 x2 x3 s = some o) : AT sMd_readOnce 3 (20, [(15, x0), (0, x1), (0, x2), (0, x3)], [], s) o := by
  unfold Md_readOnce_20 at H
  refine AT.seq [(20, .aload_n 0, 1, (0, 0, 0)), (21, .getfield 209, 3, (5199, 1112, 0))] (by decide +kernel) (show jrun _ (20, [(15, x0), (0, x1), (0, x2), (0, x3)], [], s) = some ([], (24, [(15, x0), (0, x1), (0, x2), (0, x3)], [(0, (s x0 12))], s)) from rfl) ?_
  refine AT.ite (x := (0, 0, 0)) (by decide +kernel) (show jbr (.ifCond .le 4) (24, [(15, x0), (0, x1), (0, x2), (0, x3)], [(0, (s x0 12))], s) = some (0 < (w32 (s x0 12)), (27, [(15, x0), (0, x1), (0, x2), (0, x3)], [], s), (28, [(15, x0), (0, x1), (0, x2), (0, x3)], [], s)) from rfl) H (fun H => ?_) (fun H => ?_)
  · exact AT.retvH (by decide +kernel) H
  · refine AT.seq [(28, .aload_n 0, 1, (0, 0, 0)), (29, .dup, 1, (0, 0, 0)), (30, .getfield 253, 3, (5212, 1125, 0)), (33, .iconst 1, 1, (0, 0, 0)), (34, .iload_n 1, 1, (0, 0, 0)), (35, .ishl, 1, (0, 0, 0)), (36, .ior, 1, (0, 0, 0)), (37, .putfield 253, 3, (5212, 1125, 0)), (40, .aload_n 0, 1, (0, 0, 0))] (by decide +kernel) (show jrun _ (28, [(15, x0), (0, x1), (0, x2), (0, x3)], [], s) = some ([], (41, [(15, x0), (0, x1), (0, x2), (0, x3)], [(15, x0)], (jup s x0 25 (jior (s x0 25) (jishl 1 x1))))) from rfl) ?_
    obtain ⟨v1, s1, h1, H⟩ := jb_some H
    refine AT.callV (As := []) (cl := 11) (b := x0) (st := []) (i := 219) (pos := 6150) kMd_advance (by decide +kernel) rfl (by decide +kernel) rfl rfl (by omega) (Md_advance_ok h1) ?_
    show AT sMd_readOnce 3 (44, [(15, x0), (0, x1), (0, x2), (0, x3)], [], s1) o
    refine AT.seq [(44, .aload_n 0, 1, (0, 0, 0)), (45, .getfield 35, 3, (5207, 1120, 0)), (48, .sipush 1524, 3, (0, 0, 0)), (51, .iload_n 1, 1, (0, 0, 0)), (52, .iadd, 1, (0, 0, 0)), (53, .aload_n 0, 1, (0, 0, 0)), (54, .iload_n 2, 1, (0, 0, 0)), (55, .iload_n 3, 1, (0, 0, 0))] (by decide +kernel) (show jrun _ (44, [(15, x0), (0, x1), (0, x2), (0, x3)], [], s1) = some ([], (56, [(15, x0), (0, x1), (0, x2), (0, x3)], [(0, x3), (0, x2), (15, x0), (0, (1524 + x1)), (40, (x0 + 5))], s1)) from rfl) ?_
    obtain ⟨v2, s2, h2, H⟩ := jb_some H
    refine AT.callV (As := [(0, x2), (0, x3)]) (cl := 11) (b := x0) (st := [(0, (1524 + x1)), (40, (x0 + 5))]) (i := 229) (pos := 6196) kMd_count (by decide +kernel) rfl (by decide +kernel) rfl rfl (by omega) (Md_count_ok h2) ?_
    show AT sMd_readOnce 3 (59, [(15, x0), (0, x1), (0, x2), (0, x3)], [(0, v2), (0, (1524 + x1)), (40, (x0 + 5))], s2) o
    refine AT.blk (g := (0 ≤ (w32 (1524 + x1)) ∧ (w32 (1524 + x1)) < 1905)) [(59, .iastore, 1, (0, 0, 0))] (by decide +kernel) (show jrun _ (59, [(15, x0), (0, x1), (0, x2), (0, x3)], [(0, v2), (0, (1524 + x1)), (40, (x0 + 5))], s2) = some ([(0 ≤ (w32 (1524 + x1)) ∧ (w32 (1524 + x1)) < 1905)], (60, [(15, x0), (0, x1), (0, x2), (0, x3)], [], (jup s2 (x0 + 5) (w32 (1524 + x1)) v2))) from rfl) (fun h => h) H (fun H => ?_)
    exact AT.retvH (by decide +kernel) H
set_option maxRecDepth 100000 in
theorem Md_readOnce_ok {a0 a1 a2 a3 : Int} {s : jM} {o : Int × jM} (H : Md_readOnce a0 a1 a2 a3 s = some o) : MK sMd_readOnce 3 [(15, a0), (0, a1), (0, a2), (0, a3)] s o := by
  refine MK.of kMd_readOnce rfl ?_
  show AT sMd_readOnce 3 (0, [(15, a0), (0, a1), (0, a2), (0, a3)], [], s) o
  unfold Md_readOnce at H
  refine AT.seq [(0, .aload_n 0, 1, (0, 0, 0)), (1, .getfield 253, 3, (5212, 1125, 0)), (4, .iload_n 1, 1, (0, 0, 0))] (by decide +kernel) (show jrun _ (0, [(15, a0), (0, a1), (0, a2), (0, a3)], [], s) = some ([], (5, [(15, a0), (0, a1), (0, a2), (0, a3)], [(0, a1), (0, (s a0 25))], s)) from rfl) ?_
  obtain ⟨v3, s3, h3, H⟩ := jb_some H
  refine AT.callS (As := [(0, (s a0 25)), (0, a1)]) (st := []) (i := 256) (pos := 6189) kMd_has (by decide +kernel) rfl rfl rfl (by omega) (Md_has_ok h3) ?_
  show AT sMd_readOnce 3 (8, [(15, a0), (0, a1), (0, a2), (0, a3)], [(0, v3)], s3) o
  refine AT.ite (x := (0, 0, 0)) (by decide +kernel) (show jbr (.ifCond .eq 12) (8, [(15, a0), (0, a1), (0, a2), (0, a3)], [(0, v3)], s3) = some ((w32 v3) = 0, (20, [(15, a0), (0, a1), (0, a2), (0, a3)], [], s3), (11, [(15, a0), (0, a1), (0, a2), (0, a3)], [], s3)) from rfl) H (fun H => ?_) (fun H => ?_)
  · exact Md_readOnce_20_ok  H
  · refine AT.seq [(11, .aload_n 0, 1, (0, 0, 0)), (12, .iconst 5, 1, (0, 0, 0)), (13, .aload_n 0, 1, (0, 0, 0)), (14, .getfield 117, 3, (5202, 1115, 0))] (by decide +kernel) (show jrun _ (11, [(15, a0), (0, a1), (0, a2), (0, a3)], [], s3) = some ([], (17, [(15, a0), (0, a1), (0, a2), (0, a3)], [(0, (s3 a0 15)), (0, 5), (15, a0)], s3)) from rfl) ?_
    obtain ⟨v4, s4, h4, H⟩ := jb_some H
    refine AT.callV (As := [(0, 5), (0, (s3 a0 15))]) (cl := 11) (b := a0) (st := []) (i := 215) (pos := 6192) kMd_fail (by decide +kernel) rfl (by decide +kernel) rfl rfl (by omega) (Md_fail_ok h4) ?_
    show AT sMd_readOnce 3 (20, [(15, a0), (0, a1), (0, a2), (0, a3)], [], s4) o
    exact Md_readOnce_20_ok  H
def sMd_readStuff : jS := (⟨"JellyCathedralModel", "readStuff", "()V"⟩, prog_13_method_64_code, 5, 0, [15], 0)
theorem kMd_readStuff : jmk sMd_readStuff = true := jmk_of 6218 1012 6217 57 (by decide +kernel)
set_option maxRecDepth 100000 in
theorem Md_readStuff_54_ok {o : Int × jM} {x0 x1 x2 x3 t0 : Int} {s : jM} (H : Md_readStuff_54  x0 x1 x2 x3 t0 s = some o) : AT sMd_readStuff 6 (54, [(15, x0), (0, x1), (0, x2), (0, x3), (99, 0)], [(0, t0)], s) o := by
  unfold Md_readStuff_54 at H
  refine AT.seq [(54, .istore 4, 2, (0, 0, 0)), (56, .aload_n 0, 1, (0, 0, 0)), (57, .getfield 209, 3, (5199, 1112, 0))] (by decide +kernel) (show jrun _ (54, [(15, x0), (0, x1), (0, x2), (0, x3), (99, 0)], [(0, t0)], s) = some ([], (60, [(15, x0), (0, x1), (0, x2), (0, x3), (0, t0)], [(0, (s x0 12))], s)) from rfl) ?_
  refine AT.ite (x := (0, 0, 0)) (by decide +kernel) (show jbr (.ifCond .le 4) (60, [(15, x0), (0, x1), (0, x2), (0, x3), (0, t0)], [(0, (s x0 12))], s) = some (0 < (w32 (s x0 12)), (63, [(15, x0), (0, x1), (0, x2), (0, x3), (0, t0)], [], s), (64, [(15, x0), (0, x1), (0, x2), (0, x3), (0, t0)], [], s)) from rfl) H (fun H => ?_) (fun H => ?_)
  · exact AT.retvH (by decide +kernel) H
  · refine AT.blk (g := (0 ≤ (w32 (1533 + x1)) ∧ (w32 (1533 + x1)) < 1905) ∧ (0 ≤ (w32 (1538 + x1)) ∧ (w32 (1538 + x1)) < 1905) ∧ (0 ≤ (w32 (1543 + x1)) ∧ (w32 (1543 + x1)) < 1905)) [(64, .aload_n 0, 1, (0, 0, 0)), (65, .getfield 35, 3, (5207, 1120, 0)), (68, .sipush 1533, 3, (0, 0, 0)), (71, .iload_n 1, 1, (0, 0, 0)), (72, .iadd, 1, (0, 0, 0)), (73, .iload_n 2, 1, (0, 0, 0)), (74, .iastore, 1, (0, 0, 0)), (75, .aload_n 0, 1, (0, 0, 0)), (76, .getfield 35, 3, (5207, 1120, 0)), (79, .sipush 1538, 3, (0, 0, 0)), (82, .iload_n 1, 1, (0, 0, 0)), (83, .iadd, 1, (0, 0, 0)), (84, .iload_n 3, 1, (0, 0, 0)), (85, .iastore, 1, (0, 0, 0)), (86, .aload_n 0, 1, (0, 0, 0)), (87, .getfield 35, 3, (5207, 1120, 0)), (90, .sipush 1543, 3, (0, 0, 0)), (93, .iload_n 1, 1, (0, 0, 0)), (94, .iadd, 1, (0, 0, 0)), (95, .iload 4, 2, (0, 0, 0)), (97, .iastore, 1, (0, 0, 0)), (98, .aload_n 0, 1, (0, 0, 0)), (99, .getfield 35, 3, (5207, 1120, 0)), (102, .sipush 1524, 3, (0, 0, 0)), (105, .dup2, 1, (0, 0, 0))] (by decide +kernel) (show jrun _ (64, [(15, x0), (0, x1), (0, x2), (0, x3), (0, t0)], [], s) = some ([(0 ≤ (w32 (1533 + x1)) ∧ (w32 (1533 + x1)) < 1905), (0 ≤ (w32 (1538 + x1)) ∧ (w32 (1538 + x1)) < 1905), (0 ≤ (w32 (1543 + x1)) ∧ (w32 (1543 + x1)) < 1905)], (106, [(15, x0), (0, x1), (0, x2), (0, x3), (0, t0)], [(0, 1524), (40, (x0 + 5)), (0, 1524), (40, (x0 + 5))], (jup (jup (jup s (x0 + 5) (w32 (1533 + x1)) x2) (x0 + 5) (w32 (1538 + x1)) x3) (x0 + 5) (w32 (1543 + x1)) t0))) from rfl) (fun h => ⟨h.1, h.2.1, h.2.2⟩) H (fun H => ?_)
    obtain ⟨s1, e1, H⟩ := jm_some H
    rw [← e1]
    refine AT.row [(106, .iaload, 1, (0, 0, 0)), (107, .iconst 1, 1, (0, 0, 0)), (108, .iadd, 1, (0, 0, 0)), (109, .iastore, 1, (0, 0, 0))] (by decide +kernel) (show jrun _ (106, [(15, x0), (0, x1), (0, x2), (0, x3), (0, t0)], [(0, 1524), (40, (x0 + 5)), (0, 1524), (40, (x0 + 5))], s1) = some ([(0 ≤ (1524 : Int) ∧ (1524 : Int) < 1905), (0 ≤ (1524 : Int) ∧ (1524 : Int) < 1905)], (110, [(15, x0), (0, x1), (0, x2), (0, x3), (0, t0)], [], (jup s1 (x0 + 5) 1524 ((s1 (x0 + 5) 1524) + 1)))) from rfl) (show (0 ≤ (1524 : Int) ∧ (1524 : Int) < 1905) ∧ (0 ≤ (1524 : Int) ∧ (1524 : Int) < 1905) from by decide) ?_
    exact AT.retvH (by decide +kernel) H
set_option maxRecDepth 100000 in
theorem Md_readStuff_ok {a0 : Int} {s : jM} {o : Int × jM} (H : Md_readStuff a0 s = some o) : MK sMd_readStuff 6 [(15, a0)] s o := by
  refine MK.of kMd_readStuff rfl ?_
  show AT sMd_readStuff 6 (0, [(15, a0), (99, 0), (99, 0), (99, 0), (99, 0)], [], s) o
  unfold Md_readStuff at H
  refine AT.seq [(0, .aload_n 0, 1, (0, 0, 0)), (1, .iconst 0, 1, (0, 0, 0)), (2, .iconst 5, 1, (0, 0, 0))] (by decide +kernel) (show jrun _ (0, [(15, a0), (99, 0), (99, 0), (99, 0), (99, 0)], [], s) = some ([], (3, [(15, a0), (99, 0), (99, 0), (99, 0), (99, 0)], [(0, 5), (0, 0), (15, a0)], s)) from rfl) ?_
  obtain ⟨v2, s2, h2, H⟩ := jb_some H
  refine AT.callV (As := [(0, 0), (0, 5)]) (cl := 11) (b := a0) (st := []) (i := 260) (pos := 6219) kMd_readNew (by decide +kernel) rfl (by decide +kernel) rfl rfl (by omega) (Md_readNew_ok h2) ?_
  show AT sMd_readStuff 6 (6, [(15, a0), (99, 0), (99, 0), (99, 0), (99, 0)], [(0, v2)], s2) o
  refine AT.seq [(6, .istore_n 1, 1, (0, 0, 0)), (7, .aload_n 0, 1, (0, 0, 0)), (8, .aload_n 0, 1, (0, 0, 0))] (by decide +kernel) (show jrun _ (6, [(15, a0), (99, 0), (99, 0), (99, 0), (99, 0)], [(0, v2)], s2) = some ([], (9, [(15, a0), (0, v2), (99, 0), (99, 0), (99, 0)], [(15, a0), (15, a0)], s2)) from rfl) ?_
  obtain ⟨v3, s3, h3, H⟩ := jb_some H
  refine AT.callV (As := []) (cl := 11) (b := a0) (st := [(15, a0)]) (i := 169) (pos := 6231) kMd_isSets (by decide +kernel) rfl (by decide +kernel) rfl rfl (by omega) (Md_isSets_ok h3) ?_
  show AT sMd_readStuff 6 (12, [(15, a0), (0, v2), (99, 0), (99, 0), (99, 0)], [(0, v3), (15, a0)], s3) o
  refine AT.seq [(12, .iconst 0, 1, (0, 0, 0)), (13, .bipush 9, 2, (0, 0, 0))] (by decide +kernel) (show jrun _ (12, [(15, a0), (0, v2), (99, 0), (99, 0), (99, 0)], [(0, v3), (15, a0)], s3) = some ([], (15, [(15, a0), (0, v2), (99, 0), (99, 0), (99, 0)], [(0, 9), (0, 0), (0, v3), (15, a0)], s3)) from rfl) ?_
  obtain ⟨v4, s4, h4, H⟩ := jb_some H
  refine AT.callV (As := [(0, v3), (0, 0), (0, 9)]) (cl := 11) (b := a0) (st := []) (i := 263) (pos := 7050) kMd_behindWord (by decide +kernel) rfl (by decide +kernel) rfl rfl (by omega) (Md_behindWord_ok h4) ?_
  show AT sMd_readStuff 6 (18, [(15, a0), (0, v2), (99, 0), (99, 0), (99, 0)], [(0, v4)], s4) o
  refine AT.seq [(18, .istore_n 2, 1, (0, 0, 0)), (19, .aload_n 0, 1, (0, 0, 0)), (20, .aload_n 0, 1, (0, 0, 0))] (by decide +kernel) (show jrun _ (18, [(15, a0), (0, v2), (99, 0), (99, 0), (99, 0)], [(0, v4)], s4) = some ([], (21, [(15, a0), (0, v2), (0, v4), (99, 0), (99, 0)], [(15, a0), (15, a0)], s4)) from rfl) ?_
  obtain ⟨v5, s5, h5, H⟩ := jb_some H
  refine AT.callV (As := []) (cl := 11) (b := a0) (st := [(15, a0)]) (i := 172) (pos := 6235) kMd_isCosts (by decide +kernel) rfl (by decide +kernel) rfl rfl (by omega) (Md_isCosts_ok h5) ?_
  show AT sMd_readStuff 6 (24, [(15, a0), (0, v2), (0, v4), (99, 0), (99, 0)], [(0, v5), (15, a0)], s5) o
  refine AT.seq [(24, .iconst 0, 1, (0, 0, 0)), (25, .bipush 99, 2, (0, 0, 0))] (by decide +kernel) (show jrun _ (24, [(15, a0), (0, v2), (0, v4), (99, 0), (99, 0)], [(0, v5), (15, a0)], s5) = some ([], (27, [(15, a0), (0, v2), (0, v4), (99, 0), (99, 0)], [(0, 99), (0, 0), (0, v5), (15, a0)], s5)) from rfl) ?_
  obtain ⟨v6, s6, h6, H⟩ := jb_some H
  refine AT.callV (As := [(0, v5), (0, 0), (0, 99)]) (cl := 11) (b := a0) (st := []) (i := 263) (pos := 7050) kMd_behindWord (by decide +kernel) rfl (by decide +kernel) rfl rfl (by omega) (Md_behindWord_ok h6) ?_
  show AT sMd_readStuff 6 (30, [(15, a0), (0, v2), (0, v4), (99, 0), (99, 0)], [(0, v6)], s6) o
  refine AT.seq [(30, .istore_n 3, 1, (0, 0, 0)), (31, .aload_n 0, 1, (0, 0, 0)), (32, .aload_n 0, 1, (0, 0, 0))] (by decide +kernel) (show jrun _ (30, [(15, a0), (0, v2), (0, v4), (99, 0), (99, 0)], [(0, v6)], s6) = some ([], (33, [(15, a0), (0, v2), (0, v4), (0, v6), (99, 0)], [(15, a0), (15, a0)], s6)) from rfl) ?_
  obtain ⟨v7, s7, h7, H⟩ := jb_some H
  refine AT.callV (As := []) (cl := 11) (b := a0) (st := [(15, a0)]) (i := 175) (pos := 6239) kMd_isStock (by decide +kernel) rfl (by decide +kernel) rfl rfl (by omega) (Md_isStock_ok h7) ?_
  show AT sMd_readStuff 6 (36, [(15, a0), (0, v2), (0, v4), (0, v6), (99, 0)], [(0, v7), (15, a0)], s7) o
  obtain ⟨v8, s8, h8, H⟩ := jb_some H
  refine AT.callV (As := [(0, v7)]) (cl := 11) (b := a0) (st := []) (i := 267) (pos := 7058) kMd_perhaps (by decide +kernel) rfl (by decide +kernel) rfl rfl (by omega) (Md_perhaps_ok h8) ?_
  show AT sMd_readStuff 6 (39, [(15, a0), (0, v2), (0, v4), (0, v6), (99, 0)], [(0, v8)], s8) o
  refine AT.ite (x := (0, 0, 0)) (by decide +kernel) (show jbr (.ifCond .eq 13) (39, [(15, a0), (0, v2), (0, v4), (0, v6), (99, 0)], [(0, v8)], s8) = some ((w32 v8) = 0, (52, [(15, a0), (0, v2), (0, v4), (0, v6), (99, 0)], [], s8), (42, [(15, a0), (0, v2), (0, v4), (0, v6), (99, 0)], [], s8)) from rfl) H (fun H => ?_) (fun H => ?_)
  · refine AT.seq [(52, .bipush 20, 2, (0, 0, 0))] (by decide +kernel) (show jrun _ (52, [(15, a0), (0, v2), (0, v4), (0, v6), (99, 0)], [], s8) = some ([], (54, [(15, a0), (0, v2), (0, v4), (0, v6), (99, 0)], [(0, 20)], s8)) from rfl) ?_
    exact Md_readStuff_54_ok  H
  · refine AT.seq [(42, .aload_n 0, 1, (0, 0, 0)), (43, .iconst 0, 1, (0, 0, 0)), (44, .bipush 99, 2, (0, 0, 0))] (by decide +kernel) (show jrun _ (42, [(15, a0), (0, v2), (0, v4), (0, v6), (99, 0)], [], s8) = some ([], (46, [(15, a0), (0, v2), (0, v4), (0, v6), (99, 0)], [(0, 99), (0, 0), (15, a0)], s8)) from rfl) ?_
    obtain ⟨v9, s9, h9, H⟩ := jb_some H
    refine AT.callV (As := [(0, 0), (0, 99)]) (cl := 11) (b := a0) (st := []) (i := 229) (pos := 6196) kMd_count (by decide +kernel) rfl (by decide +kernel) rfl rfl (by omega) (Md_count_ok h9) ?_
    show AT sMd_readStuff 6 (49, [(15, a0), (0, v2), (0, v4), (0, v6), (99, 0)], [(0, v9)], s9) o
    refine AT.seq [(49, .goto 5, 3, (0, 0, 0))] (by decide +kernel) (show jrun _ (49, [(15, a0), (0, v2), (0, v4), (0, v6), (99, 0)], [(0, v9)], s9) = some ([], (54, [(15, a0), (0, v2), (0, v4), (0, v6), (99, 0)], [(0, v9)], s9)) from rfl) ?_
    exact Md_readStuff_54_ok  H
def sMd_readPlace : jS := (⟨"JellyCathedralModel", "readPlace", "()V"⟩, prog_13_method_65_code, 1, 0, [15], 0)
theorem kMd_readPlace : jmk sMd_readPlace = true := jmk_of 7065 1012 7064 78 (by decide +kernel)
set_option maxRecDepth 100000 in
theorem Md_readPlace_ok {a0 : Int} {s : jM} {o : Int × jM} (H : Md_readPlace a0 s = some o) : MK sMd_readPlace 6 [(15, a0)] s o := by
  refine MK.of kMd_readPlace rfl ?_
  show AT sMd_readPlace 6 (0, [(15, a0)], [], s) o
  unfold Md_readPlace at H
  refine AT.seq [(0, .aload_n 0, 1, (0, 0, 0)), (1, .iconst 1, 1, (0, 0, 0)), (2, .bipush 6, 2, (0, 0, 0))] (by decide +kernel) (show jrun _ (0, [(15, a0)], [], s) = some ([], (4, [(15, a0)], [(0, 6), (0, 1), (15, a0)], s)) from rfl) ?_
  obtain ⟨v1, s1, h1, H⟩ := jb_some H
  refine AT.callV (As := [(0, 1), (0, 6)]) (cl := 11) (b := a0) (st := []) (i := 260) (pos := 6219) kMd_readNew (by decide +kernel) rfl (by decide +kernel) rfl rfl (by omega) (Md_readNew_ok h1) ?_
  show AT sMd_readPlace 6 (7, [(15, a0)], [(0, v1)], s1) o
  refine AT.seq [(7, .pop, 1, (0, 0, 0)), (8, .aload_n 0, 1, (0, 0, 0)), (9, .getfield 209, 3, (5199, 1112, 0))] (by decide +kernel) (show jrun _ (7, [(15, a0)], [(0, v1)], s1) = some ([], (12, [(15, a0)], [(0, (s1 a0 12))], s1)) from rfl) ?_
  refine AT.ite (x := (0, 0, 0)) (by decide +kernel) (show jbr (.ifCond .ne 15) (12, [(15, a0)], [(0, (s1 a0 12))], s1) = some ((w32 (s1 a0 12)) = 0, (15, [(15, a0)], [], s1), (27, [(15, a0)], [], s1)) from rfl) H (fun H => ?_) (fun H => ?_)
  · refine AT.row [(15, .aload_n 0, 1, (0, 0, 0)), (16, .getfield 35, 3, (5207, 1120, 0)), (19, .sipush 1525, 3, (0, 0, 0)), (22, .dup2, 1, (0, 0, 0)), (23, .iaload, 1, (0, 0, 0)), (24, .iconst 1, 1, (0, 0, 0)), (25, .iadd, 1, (0, 0, 0)), (26, .iastore, 1, (0, 0, 0))] (by decide +kernel) (show jrun _ (15, [(15, a0)], [], s1) = some ([(0 ≤ (1525 : Int) ∧ (1525 : Int) < 1905), (0 ≤ (1525 : Int) ∧ (1525 : Int) < 1905)], (27, [(15, a0)], [], (jup s1 (a0 + 5) 1525 ((s1 (a0 + 5) 1525) + 1)))) from rfl) (show (0 ≤ (1525 : Int) ∧ (1525 : Int) < 1905) ∧ (0 ≤ (1525 : Int) ∧ (1525 : Int) < 1905) from by decide) ?_
    exact AT.retvH (by decide +kernel) H
  · exact AT.retvH (by decide +kernel) H
