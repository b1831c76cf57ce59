/-! printed by wip/whole/gen_all.py: Md_mix, Md_mixPart, Md_strongest, Md_fillings, Md_shaken, Md_joins, Md_nextOn, Md_way, Md_reach, Md_whyNoFits, Md_laysFits, Md_fits, Md_fitsBy, Md_mostAlike, Md_ask, Md_moves -/
def sMd_mix : jS := (⟨"JellyCathedralModel", "mix", "(II)I"⟩, prog_13_method_118_code, 3, 1, [15, 0, 0], 0)
theorem kMd_mix : jmk sMd_mix = true := jmk_of 8055 1012 8053 8054 (by decide +kernel)
set_option maxRecDepth 100000 in
theorem Md_mix_ok {a0 a1 a2 : Int} {s : jM} {o : Int × jM} (H : Md_mix a0 a1 a2 s = some o) : MK sMd_mix 14 [(15, a0), (0, a1), (0, a2)] s o := by
  refine MK.of kMd_mix rfl ?_
  show AT sMd_mix 14 (0, [(15, a0), (0, a1), (0, a2)], [], s) o
  unfold Md_mix at H
  refine AT.seq [(0, .aload_n 0, 1, (0, 0, 0)), (1, .iconst 0, 1, (0, 0, 0)), (2, .putfield 72, 3, (5188, 1101, 0)), (5, .aload_n 0, 1, (0, 0, 0)), (6, .aload_n 0, 1, (0, 0, 0)), (7, .iload_n 1, 1, (0, 0, 0)), (8, .iload_n 2, 1, (0, 0, 0))] (by decide +kernel) (show jrun _ (0, [(15, a0), (0, a1), (0, a2)], [], s) = some ([], (9, [(15, a0), (0, a1), (0, a2)], [(0, a2), (0, a1), (15, a0), (15, a0)], (jup s a0 1 0))) from rfl) ?_
  obtain ⟨v1, s1, h1, H⟩ := jb_some H
  refine AT.callV (As := [(0, a1), (0, a2)]) (cl := 11) (b := a0) (st := [(15, a0)]) (i := 427) (pos := 8056) kMd_whyNoMix (by decide +kernel) rfl (by decide +kernel) rfl rfl (by omega) (Md_whyNoMix_ok h1) ?_
  show AT sMd_mix 14 (12, [(15, a0), (0, a1), (0, a2)], [(0, v1), (15, a0)], s1) o
  refine AT.seq [(12, .putfield 75, 3, (5187, 1100, 0)), (15, .aload_n 0, 1, (0, 0, 0)), (16, .getfield 75, 3, (5187, 1100, 0))] (by decide +kernel) (show jrun _ (12, [(15, a0), (0, a1), (0, a2)], [(0, v1), (15, a0)], s1) = some ([], (19, [(15, a0), (0, a1), (0, a2)], [(0, ((jup s1 a0 0 v1) a0 0))], (jup s1 a0 0 v1))) from rfl) ?_
  refine AT.ite (x := (0, 0, 0)) (by decide +kernel) (show jbr (.ifCond .le 5) (19, [(15, a0), (0, a1), (0, a2)], [(0, ((jup s1 a0 0 v1) a0 0))], (jup s1 a0 0 v1)) = some (0 < (w32 ((jup s1 a0 0 v1) a0 0)), (22, [(15, a0), (0, a1), (0, a2)], [], (jup s1 a0 0 v1)), (24, [(15, a0), (0, a1), (0, a2)], [], (jup s1 a0 0 v1))) from rfl) H (fun H => ?_) (fun H => ?_)
  · refine AT.seq [(22, .iconst (-1), 1, (0, 0, 0))] (by decide +kernel) (show jrun _ (22, [(15, a0), (0, a1), (0, a2)], [], (jup s1 a0 0 v1)) = some ([], (23, [(15, a0), (0, a1), (0, a2)], [(0, (-1))], (jup s1 a0 0 v1))) from rfl) ?_
    exact AT.retiH (by decide +kernel) H
  · refine AT.seq [(24, .aload_n 0, 1, (0, 0, 0)), (25, .iload_n 1, 1, (0, 0, 0)), (26, .iload_n 2, 1, (0, 0, 0)), (27, .iconst 1, 1, (0, 0, 0))] (by decide +kernel) (show jrun _ (24, [(15, a0), (0, a1), (0, a2)], [], (jup s1 a0 0 v1)) = some ([], (28, [(15, a0), (0, a1), (0, a2)], [(0, 1), (0, a2), (0, a1), (15, a0)], (jup s1 a0 0 v1))) from rfl) ?_
    obtain ⟨v2, s2, h2, H⟩ := jb_some H
    refine AT.callV (As := [(0, a1), (0, a2), (0, 1)]) (cl := 11) (b := a0) (st := []) (i := 430) (pos := 8061) kMd_laysMix (by decide +kernel) rfl (by decide +kernel) rfl rfl (by omega) (Md_laysMix_ok h2) ?_
    show AT sMd_mix 14 (31, [(15, a0), (0, a1), (0, a2)], [], s2) o
    refine AT.seq [(31, .aload_n 0, 1, (0, 0, 0)), (32, .getfield 418, 3, (5218, 1131, 0))] (by decide +kernel) (show jrun _ (31, [(15, a0), (0, a1), (0, a2)], [], s2) = some ([], (35, [(15, a0), (0, a1), (0, a2)], [(0, (s2 a0 31))], s2)) from rfl) ?_
    refine AT.ite (x := (0, 0, 0)) (by decide +kernel) (show jbr (.ifCond .ge 12) (35, [(15, a0), (0, a1), (0, a2)], [(0, (s2 a0 31))], s2) = some ((w32 (s2 a0 31)) < 0, (38, [(15, a0), (0, a1), (0, a2)], [], s2), (47, [(15, a0), (0, a1), (0, a2)], [], s2)) from rfl) H (fun H => ?_) (fun H => ?_)
    · refine AT.seq [(38, .aload_n 0, 1, (0, 0, 0)), (39, .bipush 8, 2, (0, 0, 0))] (by decide +kernel) (show jrun _ (38, [(15, a0), (0, a1), (0, a2)], [], s2) = some ([], (41, [(15, a0), (0, a1), (0, a2)], [(0, 8), (15, a0)], s2)) from rfl) ?_
      obtain ⟨v3, s3, h3, H⟩ := jb_some H
      refine AT.callV (As := [(0, 8)]) (cl := 11) (b := a0) (st := []) (i := 322) (pos := 7116) kMd_refuse (by decide +kernel) rfl (by decide +kernel) rfl rfl (by omega) (Md_refuse_ok h3) ?_
      show AT sMd_mix 14 (44, [(15, a0), (0, a1), (0, a2)], [(0, v3)], s3) o
      refine AT.seq [(44, .goto 7, 3, (0, 0, 0))] (by decide +kernel) (show jrun _ (44, [(15, a0), (0, a1), (0, a2)], [(0, v3)], s3) = some ([], (51, [(15, a0), (0, a1), (0, a2)], [(0, v3)], s3)) from rfl) ?_
      exact AT.retiH (by decide +kernel) H
    · refine AT.seq [(47, .aload_n 0, 1, (0, 0, 0)), (48, .getfield 418, 3, (5218, 1131, 0))] (by decide +kernel) (show jrun _ (47, [(15, a0), (0, a1), (0, a2)], [], s2) = some ([], (51, [(15, a0), (0, a1), (0, a2)], [(0, (s2 a0 31))], s2)) from rfl) ?_
      exact AT.retiH (by decide +kernel) H
def sMd_mixPart : jS := (⟨"JellyCathedralModel", "mixPart", "(III)I"⟩, prog_13_method_119_code, 4, 1, [15, 0, 0, 0], 0)
theorem kMd_mixPart : jmk sMd_mixPart = true := jmk_of 8072 1012 8070 8071 (by decide +kernel)
set_option maxRecDepth 100000 in
theorem Md_mixPart_32_ok {o : Int × jM} {x0 x1 x2 x3 t0 t1 : Int} {s : jM} (H : Md_mixPart_32  x0 x1 x2 x3 t0 t1 s = some o) : AT sMd_mixPart 14 (32, [(15, x0), (0, x1), (0, x2), (0, x3)], [(0, t0), (15, t1)], s) o := by
  unfold Md_mixPart_32 at H
  refine AT.seq [(32, .putfield 75, 3, (5187, 1100, 0)), (35, .aload_n 0, 1, (0, 0, 0)), (36, .getfield 75, 3, (5187, 1100, 0))] (by decide +kernel) (show jrun _ (32, [(15, x0), (0, x1), (0, x2), (0, x3)], [(0, t0), (15, t1)], s) = some ([], (39, [(15, x0), (0, x1), (0, x2), (0, x3)], [(0, ((jup s t1 0 t0) x0 0))], (jup s t1 0 t0))) from rfl) ?_
  refine AT.ite (x := (0, 0, 0)) (by decide +kernel) (show jbr (.ifCond .le 5) (39, [(15, x0), (0, x1), (0, x2), (0, x3)], [(0, ((jup s t1 0 t0) x0 0))], (jup s t1 0 t0)) = some (0 < (w32 ((jup s t1 0 t0) x0 0)), (42, [(15, x0), (0, x1), (0, x2), (0, x3)], [], (jup s t1 0 t0)), (44, [(15, x0), (0, x1), (0, x2), (0, x3)], [], (jup s t1 0 t0))) from rfl) H (fun H => ?_) (fun H => ?_)
  · refine AT.seq [(42, .iconst (-1), 1, (0, 0, 0))] (by decide +kernel) (show jrun _ (42, [(15, x0), (0, x1), (0, x2), (0, x3)], [], (jup s t1 0 t0)) = some ([], (43, [(15, x0), (0, x1), (0, x2), (0, x3)], [(0, (-1))], (jup s t1 0 t0))) from rfl) ?_
    exact AT.retiH (by decide +kernel) H
  · refine AT.seq [(44, .aload_n 0, 1, (0, 0, 0)), (45, .iload_n 1, 1, (0, 0, 0)), (46, .iload_n 2, 1, (0, 0, 0)), (47, .iconst 1, 1, (0, 0, 0))] (by decide +kernel) (show jrun _ (44, [(15, x0), (0, x1), (0, x2), (0, x3)], [], (jup s t1 0 t0)) = some ([], (48, [(15, x0), (0, x1), (0, x2), (0, x3)], [(0, 1), (0, x2), (0, x1), (15, x0)], (jup s t1 0 t0))) from rfl) ?_
    obtain ⟨v1, s1, h1, H⟩ := jb_some H
    refine AT.callV (As := [(0, x1), (0, x2), (0, 1)]) (cl := 11) (b := x0) (st := []) (i := 430) (pos := 8061) kMd_laysMix (by decide +kernel) rfl (by decide +kernel) rfl rfl (by omega) (Md_laysMix_ok h1) ?_
    show AT sMd_mixPart 14 (51, [(15, x0), (0, x1), (0, x2), (0, x3)], [], s1) o
    refine AT.seq [(51, .aload_n 0, 1, (0, 0, 0)), (52, .getfield 418, 3, (5218, 1131, 0))] (by decide +kernel) (show jrun _ (51, [(15, x0), (0, x1), (0, x2), (0, x3)], [], s1) = some ([], (55, [(15, x0), (0, x1), (0, x2), (0, x3)], [(0, (s1 x0 31))], s1)) from rfl) ?_
    refine AT.ite (x := (0, 0, 0)) (by decide +kernel) (show jbr (.ifCond .ge 12) (55, [(15, x0), (0, x1), (0, x2), (0, x3)], [(0, (s1 x0 31))], s1) = some ((w32 (s1 x0 31)) < 0, (58, [(15, x0), (0, x1), (0, x2), (0, x3)], [], s1), (67, [(15, x0), (0, x1), (0, x2), (0, x3)], [], s1)) from rfl) H (fun H => ?_) (fun H => ?_)
    · refine AT.seq [(58, .aload_n 0, 1, (0, 0, 0)), (59, .bipush 8, 2, (0, 0, 0))] (by decide +kernel) (show jrun _ (58, [(15, x0), (0, x1), (0, x2), (0, x3)], [], s1) = some ([], (61, [(15, x0), (0, x1), (0, x2), (0, x3)], [(0, 8), (15, x0)], s1)) from rfl) ?_
      obtain ⟨v2, s2, h2, H⟩ := jb_some H
      refine AT.callV (As := [(0, 8)]) (cl := 11) (b := x0) (st := []) (i := 322) (pos := 7116) kMd_refuse (by decide +kernel) rfl (by decide +kernel) rfl rfl (by omega) (Md_refuse_ok h2) ?_
      show AT sMd_mixPart 14 (64, [(15, x0), (0, x1), (0, x2), (0, x3)], [(0, v2)], s2) o
      refine AT.seq [(64, .goto 9, 3, (0, 0, 0))] (by decide +kernel) (show jrun _ (64, [(15, x0), (0, x1), (0, x2), (0, x3)], [(0, v2)], s2) = some ([], (73, [(15, x0), (0, x1), (0, x2), (0, x3)], [(0, v2)], s2)) from rfl) ?_
      exact AT.retiH (by decide +kernel) H
    · refine AT.blk (g := (0 ≤ (w32 x3) ∧ (w32 x3) < 5)) [(67, .aload_n 0, 1, (0, 0, 0)), (68, .getfield 53, 3, (5216, 1129, 0)), (71, .iload_n 3, 1, (0, 0, 0)), (72, .iaload, 1, (0, 0, 0))] (by decide +kernel) (show jrun _ (67, [(15, x0), (0, x1), (0, x2), (0, x3)], [], s1) = some ([(0 ≤ (w32 x3) ∧ (w32 x3) < 5)], (73, [(15, x0), (0, x1), (0, x2), (0, x3)], [(0, (s1 (x0 + 11) (w32 x3)))], s1)) from rfl) (fun h => h) H (fun H => ?_)
      exact AT.retiH (by decide +kernel) H
set_option maxRecDepth 100000 in
theorem Md_mixPart_ok {a0 a1 a2 a3 : Int} {s : jM} {o : Int × jM} (H : Md_mixPart a0 a1 a2 a3 s = some o) : MK sMd_mixPart 14 [(15, a0), (0, a1), (0, a2), (0, a3)] s o := by
  refine MK.of kMd_mixPart rfl ?_
  show AT sMd_mixPart 14 (0, [(15, a0), (0, a1), (0, a2), (0, a3)], [], s) o
  unfold Md_mixPart at H
  refine AT.seq [(0, .aload_n 0, 1, (0, 0, 0)), (1, .iconst 0, 1, (0, 0, 0)), (2, .putfield 72, 3, (5188, 1101, 0)), (5, .aload_n 0, 1, (0, 0, 0)), (6, .aload_n 0, 1, (0, 0, 0)), (7, .iload_n 1, 1, (0, 0, 0))] (by decide +kernel) (show jrun _ (0, [(15, a0), (0, a1), (0, a2), (0, a3)], [], s) = some ([], (8, [(15, a0), (0, a1), (0, a2), (0, a3)], [(0, a1), (15, a0), (15, a0)], (jup s a0 1 0))) from rfl) ?_
  obtain ⟨v3, s3, h3, H⟩ := jb_some H
  refine AT.callV (As := [(0, a1)]) (cl := 11) (b := a0) (st := [(15, a0)]) (i := 333) (pos := 7137) kMd_isMouldAt (by decide +kernel) rfl (by decide +kernel) rfl rfl (by omega) (Md_isMouldAt_ok h3) ?_
  show AT sMd_mixPart 14 (11, [(15, a0), (0, a1), (0, a2), (0, a3)], [(0, v3), (15, a0)], s3) o
  refine AT.ite (x := (0, 0, 0)) (by decide +kernel) (show jbr (.ifCond .eq 20) (11, [(15, a0), (0, a1), (0, a2), (0, a3)], [(0, v3), (15, a0)], s3) = some ((w32 v3) = 0, (31, [(15, a0), (0, a1), (0, a2), (0, a3)], [(15, a0)], s3), (14, [(15, a0), (0, a1), (0, a2), (0, a3)], [(15, a0)], s3)) from rfl) H (fun H => ?_) (fun H => ?_)
  · refine AT.seq [(31, .iconst 2, 1, (0, 0, 0))] (by decide +kernel) (show jrun _ (31, [(15, a0), (0, a1), (0, a2), (0, a3)], [(15, a0)], s3) = some ([], (32, [(15, a0), (0, a1), (0, a2), (0, a3)], [(0, 2), (15, a0)], s3)) from rfl) ?_
    exact Md_mixPart_32_ok  H
  · refine AT.seq [(14, .aload_n 0, 1, (0, 0, 0)), (15, .iload_n 3, 1, (0, 0, 0))] (by decide +kernel) (show jrun _ (14, [(15, a0), (0, a1), (0, a2), (0, a3)], [(15, a0)], s3) = some ([], (16, [(15, a0), (0, a1), (0, a2), (0, a3)], [(0, a3), (15, a0), (15, a0)], s3)) from rfl) ?_
    obtain ⟨v4, s4, h4, H⟩ := jb_some H
    refine AT.callV (As := [(0, a3)]) (cl := 11) (b := a0) (st := [(15, a0)]) (i := 328) (pos := 7128) kMd_isStuffAt (by decide +kernel) rfl (by decide +kernel) rfl rfl (by omega) (Md_isStuffAt_ok h4) ?_
    show AT sMd_mixPart 14 (19, [(15, a0), (0, a1), (0, a2), (0, a3)], [(0, v4), (15, a0)], s4) o
    refine AT.ite (x := (0, 0, 0)) (by decide +kernel) (show jbr (.ifCond .eq 12) (19, [(15, a0), (0, a1), (0, a2), (0, a3)], [(0, v4), (15, a0)], s4) = some ((w32 v4) = 0, (31, [(15, a0), (0, a1), (0, a2), (0, a3)], [(15, a0)], s4), (22, [(15, a0), (0, a1), (0, a2), (0, a3)], [(15, a0)], s4)) from rfl) H (fun H => ?_) (fun H => ?_)
    · refine AT.seq [(31, .iconst 2, 1, (0, 0, 0))] (by decide +kernel) (show jrun _ (31, [(15, a0), (0, a1), (0, a2), (0, a3)], [(15, a0)], s4) = some ([], (32, [(15, a0), (0, a1), (0, a2), (0, a3)], [(0, 2), (15, a0)], s4)) from rfl) ?_
      exact Md_mixPart_32_ok  H
    · refine AT.seq [(22, .aload_n 0, 1, (0, 0, 0)), (23, .iload_n 1, 1, (0, 0, 0)), (24, .iload_n 2, 1, (0, 0, 0))] (by decide +kernel) (show jrun _ (22, [(15, a0), (0, a1), (0, a2), (0, a3)], [(15, a0)], s4) = some ([], (25, [(15, a0), (0, a1), (0, a2), (0, a3)], [(0, a2), (0, a1), (15, a0), (15, a0)], s4)) from rfl) ?_
      obtain ⟨v5, s5, h5, H⟩ := jb_some H
      refine AT.callV (As := [(0, a1), (0, a2)]) (cl := 11) (b := a0) (st := [(15, a0)]) (i := 427) (pos := 8056) kMd_whyNoMix (by decide +kernel) rfl (by decide +kernel) rfl rfl (by omega) (Md_whyNoMix_ok h5) ?_
      show AT sMd_mixPart 14 (28, [(15, a0), (0, a1), (0, a2), (0, a3)], [(0, v5), (15, a0)], s5) o
      refine AT.seq [(28, .goto 4, 3, (0, 0, 0))] (by decide +kernel) (show jrun _ (28, [(15, a0), (0, a1), (0, a2), (0, a3)], [(0, v5), (15, a0)], s5) = some ([], (32, [(15, a0), (0, a1), (0, a2), (0, a3)], [(0, v5), (15, a0)], s5)) from rfl) ?_
      exact Md_mixPart_32_ok  H
def sMd_strongest : jS := (⟨"JellyCathedralModel", "strongest", "(I)I"⟩, prog_13_method_120_code, 2, 1, [15, 0], 0)
theorem kMd_strongest : jmk sMd_strongest = true := jmk_of 8076 1012 8074 8075 (by decide +kernel)
set_option maxRecDepth 100000 in
theorem Md_strongest_ok {a0 a1 : Int} {s : jM} {o : Int × jM} (H : Md_strongest a0 a1 s = some o) : MK sMd_strongest 14 [(15, a0), (0, a1)] s o := by
  refine MK.of kMd_strongest rfl ?_
  show AT sMd_strongest 14 (0, [(15, a0), (0, a1)], [], s) o
  unfold Md_strongest at H
  refine AT.seq [(0, .aload_n 0, 1, (0, 0, 0)), (1, .iconst 0, 1, (0, 0, 0)), (2, .putfield 72, 3, (5188, 1101, 0)), (5, .aload_n 0, 1, (0, 0, 0)), (6, .iconst 0, 1, (0, 0, 0)), (7, .putfield 75, 3, (5187, 1100, 0)), (10, .aload_n 0, 1, (0, 0, 0)), (11, .iload_n 1, 1, (0, 0, 0))] (by decide +kernel) (show jrun _ (0, [(15, a0), (0, a1)], [], s) = some ([], (12, [(15, a0), (0, a1)], [(0, a1), (15, a0)], (jup (jup s a0 1 0) a0 0 0))) from rfl) ?_
  obtain ⟨v1, s1, h1, H⟩ := jb_some H
  refine AT.callV (As := [(0, a1)]) (cl := 11) (b := a0) (st := []) (i := 333) (pos := 7137) kMd_isMouldAt (by decide +kernel) rfl (by decide +kernel) rfl rfl (by omega) (Md_isMouldAt_ok h1) ?_
  show AT sMd_strongest 14 (15, [(15, a0), (0, a1)], [(0, v1)], s1) o
  refine AT.ite (x := (0, 0, 0)) (by decide +kernel) (show jbr (.ifCond .ne 9) (15, [(15, a0), (0, a1)], [(0, v1)], s1) = some ((w32 v1) = 0, (18, [(15, a0), (0, a1)], [], s1), (24, [(15, a0), (0, a1)], [], s1)) from rfl) H (fun H => ?_) (fun H => ?_)
  · refine AT.seq [(18, .aload_n 0, 1, (0, 0, 0)), (19, .iconst 2, 1, (0, 0, 0))] (by decide +kernel) (show jrun _ (18, [(15, a0), (0, a1)], [], s1) = some ([], (20, [(15, a0), (0, a1)], [(0, 2), (15, a0)], s1)) from rfl) ?_
    obtain ⟨v2, s2, h2, H⟩ := jb_some H
    refine AT.callV (As := [(0, 2)]) (cl := 11) (b := a0) (st := []) (i := 322) (pos := 7116) kMd_refuse (by decide +kernel) rfl (by decide +kernel) rfl rfl (by omega) (Md_refuse_ok h2) ?_
    show AT sMd_strongest 14 (23, [(15, a0), (0, a1)], [(0, v2)], s2) o
    exact AT.retiH (by decide +kernel) H
  · refine AT.seq [(24, .aload_n 0, 1, (0, 0, 0)), (25, .iload_n 1, 1, (0, 0, 0)), (26, .iconst 0, 1, (0, 0, 0)), (27, .iconst 1, 1, (0, 0, 0))] (by decide +kernel) (show jrun _ (24, [(15, a0), (0, a1)], [], s1) = some ([], (28, [(15, a0), (0, a1)], [(0, 1), (0, 0), (0, a1), (15, a0)], s1)) from rfl) ?_
    obtain ⟨v3, s3, h3, H⟩ := jb_some H
    refine AT.callV (As := [(0, a1), (0, 0), (0, 1)]) (cl := 11) (b := a0) (st := []) (i := 430) (pos := 8061) kMd_laysMix (by decide +kernel) rfl (by decide +kernel) rfl rfl (by omega) (Md_laysMix_ok h3) ?_
    show AT sMd_strongest 14 (31, [(15, a0), (0, a1)], [], s3) o
    refine AT.seq [(31, .aload_n 0, 1, (0, 0, 0)), (32, .getfield 415, 3, (5219, 1132, 0))] (by decide +kernel) (show jrun _ (31, [(15, a0), (0, a1)], [], s3) = some ([], (35, [(15, a0), (0, a1)], [(0, (s3 a0 32))], s3)) from rfl) ?_
    refine AT.ite (x := (0, 0, 0)) (by decide +kernel) (show jbr (.ifCond .ge 12) (35, [(15, a0), (0, a1)], [(0, (s3 a0 32))], s3) = some ((w32 (s3 a0 32)) < 0, (38, [(15, a0), (0, a1)], [], s3), (47, [(15, a0), (0, a1)], [], s3)) from rfl) H (fun H => ?_) (fun H => ?_)
    · refine AT.seq [(38, .aload_n 0, 1, (0, 0, 0)), (39, .bipush 8, 2, (0, 0, 0))] (by decide +kernel) (show jrun _ (38, [(15, a0), (0, a1)], [], s3) = some ([], (41, [(15, a0), (0, a1)], [(0, 8), (15, a0)], s3)) from rfl) ?_
      obtain ⟨v4, s4, h4, H⟩ := jb_some H
      refine AT.callV (As := [(0, 8)]) (cl := 11) (b := a0) (st := []) (i := 322) (pos := 7116) kMd_refuse (by decide +kernel) rfl (by decide +kernel) rfl rfl (by omega) (Md_refuse_ok h4) ?_
      show AT sMd_strongest 14 (44, [(15, a0), (0, a1)], [(0, v4)], s4) o
      refine AT.seq [(44, .goto 7, 3, (0, 0, 0))] (by decide +kernel) (show jrun _ (44, [(15, a0), (0, a1)], [(0, v4)], s4) = some ([], (51, [(15, a0), (0, a1)], [(0, v4)], s4)) from rfl) ?_
      exact AT.retiH (by decide +kernel) H
    · refine AT.seq [(47, .aload_n 0, 1, (0, 0, 0)), (48, .getfield 415, 3, (5219, 1132, 0))] (by decide +kernel) (show jrun _ (47, [(15, a0), (0, a1)], [], s3) = some ([], (51, [(15, a0), (0, a1)], [(0, (s3 a0 32))], s3)) from rfl) ?_
      exact AT.retiH (by decide +kernel) H
def sMd_fillings : jS := (⟨"JellyCathedralModel", "fillings", "(I)I"⟩, prog_13_method_121_code, 4, 1, [15, 0], 0)
theorem kMd_fillings : jmk sMd_fillings = true := jmk_of 8080 1012 8078 8079 (by decide +kernel)
set_option maxRecDepth 100000 in
theorem Md_fillings_35_ok {o : Int × jM} : ∀ (n : Nat) (x0 x2 x3 : Int) (s : jM), Md_fillings_35  n x0 x2 x3 s = some o → AT sMd_fillings 14 (35, [(15, x0), (99, 0), (0, x2), (0, x3)], [], s) o := by
  intro n
  induction n with
  | zero =>
    intro x0 x2 x3 s H
    have H : (none : Option (Int × jM)) = some o := H
    cases H
  | succ n ih =>
    intro x0 x2 x3 s H
    rw [Md_fillings_35] at H
    refine AT.seq [(35, .iload_n 3, 1, (0, 0, 0)), (36, .bipush 82, 2, (0, 0, 0))] (by decide +kernel) (show jrun _ (35, [(15, x0), (99, 0), (0, x2), (0, x3)], [], s) = some ([], (38, [(15, x0), (99, 0), (0, x2), (0, x3)], [(0, 82), (0, x3)], s)) from rfl) ?_
    refine AT.ite (x := (0, 0, 0)) (by decide +kernel) (show jbr (.if_icmp .ge 18) (38, [(15, x0), (99, 0), (0, x2), (0, x3)], [(0, 82), (0, x3)], s) = some ((w32 x3) < 82, (41, [(15, x0), (99, 0), (0, x2), (0, x3)], [], s), (56, [(15, x0), (99, 0), (0, x2), (0, x3)], [], s)) from rfl) H (fun H => ?_) (fun H => ?_)
    · refine AT.blk (g := (0 ≤ (w32 x3) ∧ (w32 x3) < 82)) [(41, .iload_n 2, 1, (0, 0, 0)), (42, .aload_n 0, 1, (0, 0, 0)), (43, .getfield 56, 3, (5217, 1130, 0)), (46, .iload_n 3, 1, (0, 0, 0)), (47, .iaload, 1, (0, 0, 0)), (48, .iadd, 1, (0, 0, 0)), (49, .istore_n 2, 1, (0, 0, 0)), (50, .iinc 3 1, 3, (0, 0, 0)), (53, .goto (-18), 3, (0, 0, 0))] (by decide +kernel) (show jrun _ (41, [(15, x0), (99, 0), (0, x2), (0, x3)], [], s) = some ([(0 ≤ (w32 x3) ∧ (w32 x3) < 82)], (35, [(15, x0), (99, 0), (0, (x2 + (s (x0 + 12) (w32 x3)))), (0, (x3 + 1))], [], s)) from rfl) (fun h => h) H (fun H => ?_)
      exact ih _ _ _ _ H
    · refine AT.seq [(56, .iload_n 2, 1, (0, 0, 0))] (by decide +kernel) (show jrun _ (56, [(15, x0), (99, 0), (0, x2), (0, x3)], [], s) = some ([], (57, [(15, x0), (99, 0), (0, x2), (0, x3)], [(0, x2)], s)) from rfl) ?_
      exact AT.retiH (by decide +kernel) H
set_option maxRecDepth 100000 in
theorem Md_fillings_ok {a0 a1 : Int} {s : jM} {o : Int × jM} (H : Md_fillings a0 a1 s = some o) : MK sMd_fillings 14 [(15, a0), (0, a1)] s o := by
  refine MK.of kMd_fillings rfl ?_
  show AT sMd_fillings 14 (0, [(15, a0), (0, a1), (99, 0), (99, 0)], [], s) o
  unfold Md_fillings at H
  refine AT.seq [(0, .aload_n 0, 1, (0, 0, 0)), (1, .iconst 0, 1, (0, 0, 0)), (2, .putfield 72, 3, (5188, 1101, 0)), (5, .aload_n 0, 1, (0, 0, 0)), (6, .iconst 0, 1, (0, 0, 0)), (7, .putfield 75, 3, (5187, 1100, 0)), (10, .aload_n 0, 1, (0, 0, 0)), (11, .iload_n 1, 1, (0, 0, 0))] (by decide +kernel) (show jrun _ (0, [(15, a0), (0, a1), (99, 0), (99, 0)], [], s) = some ([], (12, [(15, a0), (0, a1), (99, 0), (99, 0)], [(0, a1), (15, a0)], (jup (jup s a0 1 0) a0 0 0))) from rfl) ?_
  obtain ⟨v1, s1, h1, H⟩ := jb_some H
  refine AT.callV (As := [(0, a1)]) (cl := 11) (b := a0) (st := []) (i := 333) (pos := 7137) kMd_isMouldAt (by decide +kernel) rfl (by decide +kernel) rfl rfl (by omega) (Md_isMouldAt_ok h1) ?_
  show AT sMd_fillings 14 (15, [(15, a0), (0, a1), (99, 0), (99, 0)], [(0, v1)], s1) o
  refine AT.ite (x := (0, 0, 0)) (by decide +kernel) (show jbr (.ifCond .ne 9) (15, [(15, a0), (0, a1), (99, 0), (99, 0)], [(0, v1)], s1) = some ((w32 v1) = 0, (18, [(15, a0), (0, a1), (99, 0), (99, 0)], [], s1), (24, [(15, a0), (0, a1), (99, 0), (99, 0)], [], s1)) from rfl) H (fun H => ?_) (fun H => ?_)
  · refine AT.seq [(18, .aload_n 0, 1, (0, 0, 0)), (19, .iconst 2, 1, (0, 0, 0))] (by decide +kernel) (show jrun _ (18, [(15, a0), (0, a1), (99, 0), (99, 0)], [], s1) = some ([], (20, [(15, a0), (0, a1), (99, 0), (99, 0)], [(0, 2), (15, a0)], s1)) from rfl) ?_
    obtain ⟨v2, s2, h2, H⟩ := jb_some H
    refine AT.callV (As := [(0, 2)]) (cl := 11) (b := a0) (st := []) (i := 322) (pos := 7116) kMd_refuse (by decide +kernel) rfl (by decide +kernel) rfl rfl (by omega) (Md_refuse_ok h2) ?_
    show AT sMd_fillings 14 (23, [(15, a0), (0, a1), (99, 0), (99, 0)], [(0, v2)], s2) o
    exact AT.retiH (by decide +kernel) H
  · refine AT.seq [(24, .aload_n 0, 1, (0, 0, 0)), (25, .iload_n 1, 1, (0, 0, 0)), (26, .iconst 0, 1, (0, 0, 0)), (27, .iconst 1, 1, (0, 0, 0))] (by decide +kernel) (show jrun _ (24, [(15, a0), (0, a1), (99, 0), (99, 0)], [], s1) = some ([], (28, [(15, a0), (0, a1), (99, 0), (99, 0)], [(0, 1), (0, 0), (0, a1), (15, a0)], s1)) from rfl) ?_
    obtain ⟨v3, s3, h3, H⟩ := jb_some H
    refine AT.callV (As := [(0, a1), (0, 0), (0, 1)]) (cl := 11) (b := a0) (st := []) (i := 430) (pos := 8061) kMd_laysMix (by decide +kernel) rfl (by decide +kernel) rfl rfl (by omega) (Md_laysMix_ok h3) ?_
    show AT sMd_fillings 14 (31, [(15, a0), (0, a1), (99, 0), (99, 0)], [], s3) o
    refine AT.seq [(31, .iconst 0, 1, (0, 0, 0)), (32, .istore_n 2, 1, (0, 0, 0)), (33, .iconst 0, 1, (0, 0, 0)), (34, .istore_n 3, 1, (0, 0, 0))] (by decide +kernel) (show jrun _ (31, [(15, a0), (0, a1), (99, 0), (99, 0)], [], s3) = some ([], (35, [(15, a0), (0, a1), (0, 0), (0, 0)], [], s3)) from rfl) ?_
    exact AT.weak (L' := [(15, a0), (99, 0), (0, 0), (0, 0)]) (jleK (jleJ (jleK (jleK jle0)))) (Md_fillings_35_ok  jFU _ _ _ _ H)
def sMd_shaken : jS := (⟨"JellyCathedralModel", "shaken", "(II)I"⟩, prog_13_method_122_code, 4, 1, [15, 0, 0], 0)
theorem kMd_shaken : jmk sMd_shaken = true := jmk_of 8084 1012 8082 8083 (by decide +kernel)
set_option maxRecDepth 100000 in
theorem Md_shaken_ok {a0 a1 a2 : Int} {s : jM} {o : Int × jM} (H : Md_shaken a0 a1 a2 s = some o) : MK sMd_shaken 2 [(15, a0), (0, a1), (0, a2)] s o := by
  refine MK.of kMd_shaken rfl ?_
  show AT sMd_shaken 2 (0, [(15, a0), (0, a1), (0, a2), (99, 0)], [], s) o
  unfold Md_shaken at H
  refine AT.seq [(0, .aload_n 0, 1, (0, 0, 0)), (1, .iconst 0, 1, (0, 0, 0)), (2, .putfield 72, 3, (5188, 1101, 0)), (5, .aload_n 0, 1, (0, 0, 0)), (6, .iconst 0, 1, (0, 0, 0)), (7, .putfield 75, 3, (5187, 1100, 0)), (10, .aload_n 0, 1, (0, 0, 0)), (11, .iload_n 1, 1, (0, 0, 0))] (by decide +kernel) (show jrun _ (0, [(15, a0), (0, a1), (0, a2), (99, 0)], [], s) = some ([], (12, [(15, a0), (0, a1), (0, a2), (99, 0)], [(0, a1), (15, a0)], (jup (jup s a0 1 0) a0 0 0))) from rfl) ?_
  obtain ⟨v1, s1, h1, H⟩ := jb_some H
  refine AT.callV (As := [(0, a1)]) (cl := 11) (b := a0) (st := []) (i := 387) (pos := 7217) kMd_isPlaceAt (by decide +kernel) rfl (by decide +kernel) rfl rfl (by omega) (Md_isPlaceAt_ok h1) ?_
  show AT sMd_shaken 2 (15, [(15, a0), (0, a1), (0, a2), (99, 0)], [(0, v1)], s1) o
  refine AT.ite (x := (0, 0, 0)) (by decide +kernel) (show jbr (.ifCond .eq 11) (15, [(15, a0), (0, a1), (0, a2), (99, 0)], [(0, v1)], s1) = some ((w32 v1) = 0, (26, [(15, a0), (0, a1), (0, a2), (99, 0)], [], s1), (18, [(15, a0), (0, a1), (0, a2), (99, 0)], [], s1)) from rfl) H (fun H => ?_) (fun H => ?_)
  · refine AT.seq [(26, .aload_n 0, 1, (0, 0, 0)), (27, .iconst 2, 1, (0, 0, 0))] (by decide +kernel) (show jrun _ (26, [(15, a0), (0, a1), (0, a2), (99, 0)], [], s1) = some ([], (28, [(15, a0), (0, a1), (0, a2), (99, 0)], [(0, 2), (15, a0)], s1)) from rfl) ?_
    obtain ⟨v2, s2, h2, H⟩ := jb_some H
    refine AT.callV (As := [(0, 2)]) (cl := 11) (b := a0) (st := []) (i := 322) (pos := 7116) kMd_refuse (by decide +kernel) rfl (by decide +kernel) rfl rfl (by omega) (Md_refuse_ok h2) ?_
    show AT sMd_shaken 2 (31, [(15, a0), (0, a1), (0, a2), (99, 0)], [(0, v2)], s2) o
    exact AT.retiH (by decide +kernel) H
  · refine AT.seq [(18, .aload_n 0, 1, (0, 0, 0)), (19, .iload_n 2, 1, (0, 0, 0))] (by decide +kernel) (show jrun _ (18, [(15, a0), (0, a1), (0, a2), (99, 0)], [], s1) = some ([], (20, [(15, a0), (0, a1), (0, a2), (99, 0)], [(0, a2), (15, a0)], s1)) from rfl) ?_
    obtain ⟨v3, s3, h3, H⟩ := jb_some H
    refine AT.callV (As := [(0, a2)]) (cl := 11) (b := a0) (st := []) (i := 387) (pos := 7217) kMd_isPlaceAt (by decide +kernel) rfl (by decide +kernel) rfl rfl (by omega) (Md_isPlaceAt_ok h3) ?_
    show AT sMd_shaken 2 (23, [(15, a0), (0, a1), (0, a2), (99, 0)], [(0, v3)], s3) o
    refine AT.ite (x := (0, 0, 0)) (by decide +kernel) (show jbr (.ifCond .ne 9) (23, [(15, a0), (0, a1), (0, a2), (99, 0)], [(0, v3)], s3) = some ((w32 v3) = 0, (26, [(15, a0), (0, a1), (0, a2), (99, 0)], [], s3), (32, [(15, a0), (0, a1), (0, a2), (99, 0)], [], s3)) from rfl) H (fun H => ?_) (fun H => ?_)
    · refine AT.seq [(26, .aload_n 0, 1, (0, 0, 0)), (27, .iconst 2, 1, (0, 0, 0))] (by decide +kernel) (show jrun _ (26, [(15, a0), (0, a1), (0, a2), (99, 0)], [], s3) = some ([], (28, [(15, a0), (0, a1), (0, a2), (99, 0)], [(0, 2), (15, a0)], s3)) from rfl) ?_
      obtain ⟨v4, s4, h4, H⟩ := jb_some H
      refine AT.callV (As := [(0, 2)]) (cl := 11) (b := a0) (st := []) (i := 322) (pos := 7116) kMd_refuse (by decide +kernel) rfl (by decide +kernel) rfl rfl (by omega) (Md_refuse_ok h4) ?_
      show AT sMd_shaken 2 (31, [(15, a0), (0, a1), (0, a2), (99, 0)], [(0, v4)], s4) o
      exact AT.retiH (by decide +kernel) H
    · refine AT.seq [(32, .aload_n 0, 1, (0, 0, 0)), (33, .iload_n 1, 1, (0, 0, 0)), (34, .iload_n 2, 1, (0, 0, 0))] (by decide +kernel) (show jrun _ (32, [(15, a0), (0, a1), (0, a2), (99, 0)], [], s3) = some ([], (35, [(15, a0), (0, a1), (0, a2), (99, 0)], [(0, a2), (0, a1), (15, a0)], s3)) from rfl) ?_
      obtain ⟨v5, s5, h5, H⟩ := jb_some H
      refine AT.callV (As := [(0, a1), (0, a2)]) (cl := 11) (b := a0) (st := []) (i := 384) (pos := 7221) kMd_shakenTo (by decide +kernel) rfl (by decide +kernel) rfl rfl (by omega) (Md_shakenTo_ok h5) ?_
      show AT sMd_shaken 2 (38, [(15, a0), (0, a1), (0, a2), (99, 0)], [(0, v5)], s5) o
      refine AT.seq [(38, .istore_n 3, 1, (0, 0, 0)), (39, .iload_n 3, 1, (0, 0, 0))] (by decide +kernel) (show jrun _ (38, [(15, a0), (0, a1), (0, a2), (99, 0)], [(0, v5)], s5) = some ([], (40, [(15, a0), (0, a1), (0, a2), (0, v5)], [(0, v5)], s5)) from rfl) ?_
      refine AT.ite (x := (0, 0, 0)) (by decide +kernel) (show jbr (.ifCond .ge 12) (40, [(15, a0), (0, a1), (0, a2), (0, v5)], [(0, v5)], s5) = some ((w32 v5) < 0, (43, [(15, a0), (0, a1), (0, a2), (0, v5)], [], s5), (52, [(15, a0), (0, a1), (0, a2), (0, v5)], [], s5)) from rfl) H (fun H => ?_) (fun H => ?_)
      · refine AT.seq [(43, .aload_n 0, 1, (0, 0, 0)), (44, .bipush 8, 2, (0, 0, 0))] (by decide +kernel) (show jrun _ (43, [(15, a0), (0, a1), (0, a2), (0, v5)], [], s5) = some ([], (46, [(15, a0), (0, a1), (0, a2), (0, v5)], [(0, 8), (15, a0)], s5)) from rfl) ?_
        obtain ⟨v6, s6, h6, H⟩ := jb_some H
        refine AT.callV (As := [(0, 8)]) (cl := 11) (b := a0) (st := []) (i := 322) (pos := 7116) kMd_refuse (by decide +kernel) rfl (by decide +kernel) rfl rfl (by omega) (Md_refuse_ok h6) ?_
        show AT sMd_shaken 2 (49, [(15, a0), (0, a1), (0, a2), (0, v5)], [(0, v6)], s6) o
        refine AT.seq [(49, .goto 4, 3, (0, 0, 0))] (by decide +kernel) (show jrun _ (49, [(15, a0), (0, a1), (0, a2), (0, v5)], [(0, v6)], s6) = some ([], (53, [(15, a0), (0, a1), (0, a2), (0, v5)], [(0, v6)], s6)) from rfl) ?_
        exact AT.retiH (by decide +kernel) H
      · refine AT.seq [(52, .iload_n 3, 1, (0, 0, 0))] (by decide +kernel) (show jrun _ (52, [(15, a0), (0, a1), (0, a2), (0, v5)], [], s5) = some ([], (53, [(15, a0), (0, a1), (0, a2), (0, v5)], [(0, v5)], s5)) from rfl) ?_
        exact AT.retiH (by decide +kernel) H
def sMd_joins : jS := (⟨"JellyCathedralModel", "joins", "(III)Z"⟩, prog_13_method_123_code, 4, 3, [15, 0, 0, 0], 0)
theorem kMd_joins : jmk sMd_joins = true := jmk_of 8096 1012 8095 117 (by decide +kernel)
set_option maxRecDepth 100000 in
theorem Md_joins_26_ok {o : Int × jM} {x0 x1 x2 x3 : Int} {s : jM} (H : Md_joins_26  x0 x1 x2 x3 s = some o) : AT sMd_joins 0 (26, [(15, x0), (0, x1), (0, x2), (0, x3)], [], s) o := by
  unfold Md_joins_26 at H
  refine AT.blk (g := (0 ≤ (w32 (24 + x1)) ∧ (w32 (24 + x1)) < 1905)) [(26, .aload_n 0, 1, (0, 0, 0)), (27, .getfield 35, 3, (5207, 1120, 0)), (30, .bipush 24, 2, (0, 0, 0)), (32, .iload_n 1, 1, (0, 0, 0)), (33, .iadd, 1, (0, 0, 0)), (34, .iaload, 1, (0, 0, 0)), (35, .iload_n 3, 1, (0, 0, 0))] (by decide +kernel) (show jrun _ (26, [(15, x0), (0, x1), (0, x2), (0, x3)], [], s) = some ([(0 ≤ (w32 (24 + x1)) ∧ (w32 (24 + x1)) < 1905)], (36, [(15, x0), (0, x1), (0, x2), (0, x3)], [(0, x3), (0, (s (x0 + 5) (w32 (24 + x1))))], s)) from rfl) (fun h => h) H (fun H => ?_)
  refine AT.ite (x := (0, 0, 0)) (by decide +kernel) (show jbr (.if_icmp .ne 20) (36, [(15, x0), (0, x1), (0, x2), (0, x3)], [(0, x3), (0, (s (x0 + 5) (w32 (24 + x1))))], s) = some ((w32 (s (x0 + 5) (w32 (24 + x1)))) = (w32 x3), (39, [(15, x0), (0, x1), (0, x2), (0, x3)], [], s), (56, [(15, x0), (0, x1), (0, x2), (0, x3)], [], s)) from rfl) H (fun H => ?_) (fun H => ?_)
  · refine AT.blk (g := (0 ≤ (w32 (34 + x1)) ∧ (w32 (34 + x1)) < 1905)) [(39, .aload_n 0, 1, (0, 0, 0)), (40, .getfield 35, 3, (5207, 1120, 0)), (43, .bipush 34, 2, (0, 0, 0)), (45, .iload_n 1, 1, (0, 0, 0)), (46, .iadd, 1, (0, 0, 0)), (47, .iaload, 1, (0, 0, 0)), (48, .iload_n 2, 1, (0, 0, 0))] (by decide +kernel) (show jrun _ (39, [(15, x0), (0, x1), (0, x2), (0, x3)], [], s) = some ([(0 ≤ (w32 (34 + x1)) ∧ (w32 (34 + x1)) < 1905)], (49, [(15, x0), (0, x1), (0, x2), (0, x3)], [(0, x2), (0, (s (x0 + 5) (w32 (34 + x1))))], s)) from rfl) (fun h => h) H (fun H => ?_)
    refine AT.ite (x := (0, 0, 0)) (by decide +kernel) (show jbr (.if_icmp .ne 7) (49, [(15, x0), (0, x1), (0, x2), (0, x3)], [(0, x2), (0, (s (x0 + 5) (w32 (34 + x1))))], s) = some ((w32 (s (x0 + 5) (w32 (34 + x1)))) = (w32 x2), (52, [(15, x0), (0, x1), (0, x2), (0, x3)], [], s), (56, [(15, x0), (0, x1), (0, x2), (0, x3)], [], s)) from rfl) H (fun H => ?_) (fun H => ?_)
    · refine AT.seq [(52, .iconst 1, 1, (0, 0, 0)), (53, .goto 4, 3, (0, 0, 0))] (by decide +kernel) (show jrun _ (52, [(15, x0), (0, x1), (0, x2), (0, x3)], [], s) = some ([], (57, [(15, x0), (0, x1), (0, x2), (0, x3)], [(0, 1)], s)) from rfl) ?_
      exact AT.retzC (by decide +kernel) (by decide) H
    · refine AT.seq [(56, .iconst 0, 1, (0, 0, 0))] (by decide +kernel) (show jrun _ (56, [(15, x0), (0, x1), (0, x2), (0, x3)], [], s) = some ([], (57, [(15, x0), (0, x1), (0, x2), (0, x3)], [(0, 0)], s)) from rfl) ?_
      exact AT.retzC (by decide +kernel) (by decide) H
  · refine AT.seq [(56, .iconst 0, 1, (0, 0, 0))] (by decide +kernel) (show jrun _ (56, [(15, x0), (0, x1), (0, x2), (0, x3)], [], s) = some ([], (57, [(15, x0), (0, x1), (0, x2), (0, x3)], [(0, 0)], s)) from rfl) ?_
    exact AT.retzC (by decide +kernel) (by decide) H
set_option maxRecDepth 100000 in
theorem Md_joins_ok {a0 a1 a2 a3 : Int} {s : jM} {o : Int × jM} (H : Md_joins a0 a1 a2 a3 s = some o) : MK sMd_joins 0 [(15, a0), (0, a1), (0, a2), (0, a3)] s o := by
  refine MK.of kMd_joins rfl ?_
  show AT sMd_joins 0 (0, [(15, a0), (0, a1), (0, a2), (0, a3)], [], s) o
  unfold Md_joins at H
  refine AT.blk (g := (0 ≤ (w32 (24 + a1)) ∧ (w32 (24 + a1)) < 1905)) [(0, .aload_n 0, 1, (0, 0, 0)), (1, .getfield 35, 3, (5207, 1120, 0)), (4, .bipush 24, 2, (0, 0, 0)), (6, .iload_n 1, 1, (0, 0, 0)), (7, .iadd, 1, (0, 0, 0)), (8, .iaload, 1, (0, 0, 0)), (9, .iload_n 2, 1, (0, 0, 0))] (by decide +kernel) (show jrun _ (0, [(15, a0), (0, a1), (0, a2), (0, a3)], [], s) = some ([(0 ≤ (w32 (24 + a1)) ∧ (w32 (24 + a1)) < 1905)], (10, [(15, a0), (0, a1), (0, a2), (0, a3)], [(0, a2), (0, (s (a0 + 5) (w32 (24 + a1))))], s)) from rfl) (fun h => h) H (fun H => ?_)
  refine AT.ite (x := (0, 0, 0)) (by decide +kernel) (show jbr (.if_icmp .ne 16) (10, [(15, a0), (0, a1), (0, a2), (0, a3)], [(0, a2), (0, (s (a0 + 5) (w32 (24 + a1))))], s) = some ((w32 (s (a0 + 5) (w32 (24 + a1)))) = (w32 a2), (13, [(15, a0), (0, a1), (0, a2), (0, a3)], [], s), (26, [(15, a0), (0, a1), (0, a2), (0, a3)], [], s)) from rfl) H (fun H => ?_) (fun H => ?_)
  · refine AT.blk (g := (0 ≤ (w32 (34 + a1)) ∧ (w32 (34 + a1)) < 1905)) [(13, .aload_n 0, 1, (0, 0, 0)), (14, .getfield 35, 3, (5207, 1120, 0)), (17, .bipush 34, 2, (0, 0, 0)), (19, .iload_n 1, 1, (0, 0, 0)), (20, .iadd, 1, (0, 0, 0)), (21, .iaload, 1, (0, 0, 0)), (22, .iload_n 3, 1, (0, 0, 0))] (by decide +kernel) (show jrun _ (13, [(15, a0), (0, a1), (0, a2), (0, a3)], [], s) = some ([(0 ≤ (w32 (34 + a1)) ∧ (w32 (34 + a1)) < 1905)], (23, [(15, a0), (0, a1), (0, a2), (0, a3)], [(0, a3), (0, (s (a0 + 5) (w32 (34 + a1))))], s)) from rfl) (fun h => h) H (fun H => ?_)
    refine AT.ite (x := (0, 0, 0)) (by decide +kernel) (show jbr (.if_icmp .eq 29) (23, [(15, a0), (0, a1), (0, a2), (0, a3)], [(0, a3), (0, (s (a0 + 5) (w32 (34 + a1))))], s) = some ((w32 (s (a0 + 5) (w32 (34 + a1)))) = (w32 a3), (52, [(15, a0), (0, a1), (0, a2), (0, a3)], [], s), (26, [(15, a0), (0, a1), (0, a2), (0, a3)], [], s)) from rfl) H (fun H => ?_) (fun H => ?_)
    · refine AT.seq [(52, .iconst 1, 1, (0, 0, 0)), (53, .goto 4, 3, (0, 0, 0))] (by decide +kernel) (show jrun _ (52, [(15, a0), (0, a1), (0, a2), (0, a3)], [], s) = some ([], (57, [(15, a0), (0, a1), (0, a2), (0, a3)], [(0, 1)], s)) from rfl) ?_
      exact AT.retzC (by decide +kernel) (by decide) H
    · exact Md_joins_26_ok  H
  · exact Md_joins_26_ok  H
def sMd_nextOn : jS := (⟨"JellyCathedralModel", "nextOn", "(II)I"⟩, prog_13_method_124_code, 5, 1, [15, 0, 0], 0)
theorem kMd_nextOn : jmk sMd_nextOn = true := jmk_of 8092 1012 8091 116 (by decide +kernel)
set_option maxRecDepth 100000 in
theorem Md_nextOn_15_ok {o : Int × jM} {k2 : Int → Int → Int → Int → jM → Option (Int × jM)} (hk2 : ∀ (x0 x1 x2 x3 : Int) (s : jM), k2 x0 x1 x2 x3 s = some o → AT sMd_nextOn 1 (2, [(15, x0), (0, x1), (0, x2), (0, x3), (99, 0)], [], s) o) : ∀ (n : Nat) (x0 x1 x2 x3 x4 : Int) (s : jM), Md_nextOn_15 k2 n x0 x1 x2 x3 x4 s = some o → AT sMd_nextOn 1 (15, [(15, x0), (0, x1), (0, x2), (0, x3), (0, x4)], [], s) o := by
  intro n
  induction n with
  | zero =>
    intro x0 x1 x2 x3 x4 s H
    have H : (none : Option (Int × jM)) = some o := H
    cases H
  | succ n ih =>
    intro x0 x1 x2 x3 x4 s H
    rw [Md_nextOn_15] at H
    refine AT.row [(15, .iload 4, 2, (0, 0, 0)), (17, .aload_n 0, 1, (0, 0, 0)), (18, .getfield 35, 3, (5207, 1120, 0)), (21, .bipush 8, 2, (0, 0, 0)), (23, .iaload, 1, (0, 0, 0))] (by decide +kernel) (show jrun _ (15, [(15, x0), (0, x1), (0, x2), (0, x3), (0, x4)], [], s) = some ([(0 ≤ (8 : Int) ∧ (8 : Int) < 1905)], (24, [(15, x0), (0, x1), (0, x2), (0, x3), (0, x4)], [(0, (s (x0 + 5) 8)), (0, x4)], s)) from rfl) (show (0 ≤ (8 : Int) ∧ (8 : Int) < 1905) from by decide) ?_
    refine AT.ite (x := (0, 0, 0)) (by decide +kernel) (show jbr (.if_icmp .ge 53) (24, [(15, x0), (0, x1), (0, x2), (0, x3), (0, x4)], [(0, (s (x0 + 5) 8)), (0, x4)], s) = some ((w32 x4) < (w32 (s (x0 + 5) 8)), (27, [(15, x0), (0, x1), (0, x2), (0, x3), (0, x4)], [], s), (77, [(15, x0), (0, x1), (0, x2), (0, x3), (0, x4)], [], s)) from rfl) H (fun H => ?_) (fun H => ?_)
    · refine AT.seq [(27, .aload_n 0, 1, (0, 0, 0)), (28, .iload 4, 2, (0, 0, 0)), (30, .iload_n 1, 1, (0, 0, 0)), (31, .iload_n 3, 1, (0, 0, 0))] (by decide +kernel) (show jrun _ (27, [(15, x0), (0, x1), (0, x2), (0, x3), (0, x4)], [], s) = some ([], (32, [(15, x0), (0, x1), (0, x2), (0, x3), (0, x4)], [(0, x3), (0, x1), (0, x4), (15, x0)], s)) from rfl) ?_
      obtain ⟨v1, s1, h1, H⟩ := jb_some H
      refine AT.callV (As := [(0, x4), (0, x1), (0, x3)]) (cl := 11) (b := x0) (st := []) (i := 434) (pos := 8093) kMd_joins (by decide +kernel) rfl (by decide +kernel) rfl rfl (by omega) (Md_joins_ok h1) ?_
      show AT sMd_nextOn 1 (35, [(15, x0), (0, x1), (0, x2), (0, x3), (0, x4)], [(0, v1)], s1) o
      refine AT.ite (x := (0, 0, 0)) (by decide +kernel) (show jbr (.ifCond .eq 36) (35, [(15, x0), (0, x1), (0, x2), (0, x3), (0, x4)], [(0, v1)], s1) = some ((w32 v1) = 0, (71, [(15, x0), (0, x1), (0, x2), (0, x3), (0, x4)], [], s1), (38, [(15, x0), (0, x1), (0, x2), (0, x3), (0, x4)], [], s1)) from rfl) H (fun H => ?_) (fun H => ?_)
      · refine AT.seq [(71, .iinc 4 1, 3, (0, 0, 0)), (74, .goto (-59), 3, (0, 0, 0))] (by decide +kernel) (show jrun _ (71, [(15, x0), (0, x1), (0, x2), (0, x3), (0, x4)], [], s1) = some ([], (15, [(15, x0), (0, x1), (0, x2), (0, x3), (0, (x4 + 1))], [], s1)) from rfl) ?_
        exact ih _ _ _ _ _ _ H
      · refine AT.blk (g := (0 ≤ (w32 (44 + x4)) ∧ (w32 (44 + x4)) < 1905)) [(38, .bipush 16, 2, (0, 0, 0)), (40, .aload_n 0, 1, (0, 0, 0)), (41, .getfield 35, 3, (5207, 1120, 0)), (44, .bipush 44, 2, (0, 0, 0)), (46, .iload 4, 2, (0, 0, 0)), (48, .iadd, 1, (0, 0, 0)), (49, .iaload, 1, (0, 0, 0)), (50, .imul, 1, (0, 0, 0)), (51, .iconst 1, 1, (0, 0, 0)), (52, .iadd, 1, (0, 0, 0)), (53, .aload_n 0, 1, (0, 0, 0)), (54, .iload_n 3, 1, (0, 0, 0)), (55, .iload_n 2, 1, (0, 0, 0))] (by decide +kernel) (show jrun _ (38, [(15, x0), (0, x1), (0, x2), (0, x3), (0, x4)], [], s1) = some ([(0 ≤ (w32 (44 + x4)) ∧ (w32 (44 + x4)) < 1905)], (56, [(15, x0), (0, x1), (0, x2), (0, x3), (0, x4)], [(0, x2), (0, x3), (15, x0), (0, ((16 * (s1 (x0 + 5) (w32 (44 + x4)))) + 1))], s1)) from rfl) (fun h => h) H (fun H => ?_)
        obtain ⟨v2, s2, h2, H⟩ := jb_some H
        refine AT.callV (As := [(0, x3), (0, x2)]) (cl := 11) (b := x0) (st := [(0, ((16 * (s1 (x0 + 5) (w32 (44 + x4)))) + 1))]) (i := 381) (pos := 7230) kMd_farOf (by decide +kernel) rfl (by decide +kernel) rfl rfl (by omega) (Md_farOf_ok h2) ?_
        show AT sMd_nextOn 1 (59, [(15, x0), (0, x1), (0, x2), (0, x3), (0, x4)], [(0, v2), (0, ((16 * (s1 (x0 + 5) (w32 (44 + x4)))) + 1))], s2) o
        refine AT.seq [(59, .iadd, 1, (0, 0, 0)), (60, .aload_n 0, 1, (0, 0, 0)), (61, .iload_n 1, 1, (0, 0, 0)), (62, .iload_n 2, 1, (0, 0, 0))] (by decide +kernel) (show jrun _ (59, [(15, x0), (0, x1), (0, x2), (0, x3), (0, x4)], [(0, v2), (0, ((16 * (s1 (x0 + 5) (w32 (44 + x4)))) + 1))], s2) = some ([], (63, [(15, x0), (0, x1), (0, x2), (0, x3), (0, x4)], [(0, x2), (0, x1), (15, x0), (0, (((16 * (s1 (x0 + 5) (w32 (44 + x4)))) + 1) + v2))], s2)) from rfl) ?_
        obtain ⟨v3, s3, h3, H⟩ := jb_some H
        refine AT.callV (As := [(0, x1), (0, x2)]) (cl := 11) (b := x0) (st := [(0, (((16 * (s1 (x0 + 5) (w32 (44 + x4)))) + 1) + v2))]) (i := 381) (pos := 7230) kMd_farOf (by decide +kernel) rfl (by decide +kernel) rfl rfl (by omega) (Md_farOf_ok h3) ?_
        show AT sMd_nextOn 1 (66, [(15, x0), (0, x1), (0, x2), (0, x3), (0, x4)], [(0, v3), (0, (((16 * (s1 (x0 + 5) (w32 (44 + x4)))) + 1) + v2))], s3) o
        refine AT.ite (x := (0, 0, 0)) (by decide +kernel) (show jbr (.if_icmp .ne 5) (66, [(15, x0), (0, x1), (0, x2), (0, x3), (0, x4)], [(0, v3), (0, (((16 * (s1 (x0 + 5) (w32 (44 + x4)))) + 1) + v2))], s3) = some ((w32 (((16 * (s1 (x0 + 5) (w32 (44 + x4)))) + 1) + v2)) = (w32 v3), (69, [(15, x0), (0, x1), (0, x2), (0, x3), (0, x4)], [], s3), (71, [(15, x0), (0, x1), (0, x2), (0, x3), (0, x4)], [], s3)) from rfl) H (fun H => ?_) (fun H => ?_)
        · refine AT.seq [(69, .iload_n 3, 1, (0, 0, 0))] (by decide +kernel) (show jrun _ (69, [(15, x0), (0, x1), (0, x2), (0, x3), (0, x4)], [], s3) = some ([], (70, [(15, x0), (0, x1), (0, x2), (0, x3), (0, x4)], [(0, x3)], s3)) from rfl) ?_
          exact AT.retiH (by decide +kernel) H
        · refine AT.seq [(71, .iinc 4 1, 3, (0, 0, 0)), (74, .goto (-59), 3, (0, 0, 0))] (by decide +kernel) (show jrun _ (71, [(15, x0), (0, x1), (0, x2), (0, x3), (0, x4)], [], s3) = some ([], (15, [(15, x0), (0, x1), (0, x2), (0, x3), (0, (x4 + 1))], [], s3)) from rfl) ?_
          exact ih _ _ _ _ _ _ H
    · refine AT.seq [(77, .iinc 3 1, 3, (0, 0, 0)), (80, .goto (-78), 3, (0, 0, 0))] (by decide +kernel) (show jrun _ (77, [(15, x0), (0, x1), (0, x2), (0, x3), (0, x4)], [], s) = some ([], (2, [(15, x0), (0, x1), (0, x2), (0, (x3 + 1)), (0, x4)], [], s)) from rfl) ?_
      exact AT.weak (L' := [(15, x0), (0, x1), (0, x2), (0, (x3 + 1)), (99, 0)]) (jleK (jleK (jleK (jleK (jleJ jle0))))) (hk2 _ _ _ _ _ H)
set_option maxRecDepth 100000 in
theorem Md_nextOn_2_ok {o : Int × jM} : ∀ (n : Nat) (x0 x1 x2 x3 : Int) (s : jM), Md_nextOn_2  n x0 x1 x2 x3 s = some o → AT sMd_nextOn 1 (2, [(15, x0), (0, x1), (0, x2), (0, x3), (99, 0)], [], s) o := by
  intro n
  induction n with
  | zero =>
    intro x0 x1 x2 x3 s H
    have H : (none : Option (Int × jM)) = some o := H
    cases H
  | succ n ih =>
    intro x0 x1 x2 x3 s H
    rw [Md_nextOn_2] at H
    refine AT.row [(2, .iload_n 3, 1, (0, 0, 0)), (3, .aload_n 0, 1, (0, 0, 0)), (4, .getfield 35, 3, (5207, 1120, 0)), (7, .iconst 1, 1, (0, 0, 0)), (8, .iaload, 1, (0, 0, 0))] (by decide +kernel) (show jrun _ (2, [(15, x0), (0, x1), (0, x2), (0, x3), (99, 0)], [], s) = some ([(0 ≤ (1 : Int) ∧ (1 : Int) < 1905)], (9, [(15, x0), (0, x1), (0, x2), (0, x3), (99, 0)], [(0, (s (x0 + 5) 1)), (0, x3)], s)) from rfl) (show (0 ≤ (1 : Int) ∧ (1 : Int) < 1905) from by decide) ?_
    refine AT.ite (x := (0, 0, 0)) (by decide +kernel) (show jbr (.if_icmp .ge 74) (9, [(15, x0), (0, x1), (0, x2), (0, x3), (99, 0)], [(0, (s (x0 + 5) 1)), (0, x3)], s) = some ((w32 x3) < (w32 (s (x0 + 5) 1)), (12, [(15, x0), (0, x1), (0, x2), (0, x3), (99, 0)], [], s), (83, [(15, x0), (0, x1), (0, x2), (0, x3), (99, 0)], [], s)) from rfl) H (fun H => ?_) (fun H => ?_)
    · refine AT.seq [(12, .iconst 0, 1, (0, 0, 0)), (13, .istore 4, 2, (0, 0, 0))] (by decide +kernel) (show jrun _ (12, [(15, x0), (0, x1), (0, x2), (0, x3), (99, 0)], [], s) = some ([], (15, [(15, x0), (0, x1), (0, x2), (0, x3), (0, 0)], [], s)) from rfl) ?_
      exact Md_nextOn_15_ok ih jFU _ _ _ _ _ _ H
    · refine AT.seq [(83, .iconst (-1), 1, (0, 0, 0))] (by decide +kernel) (show jrun _ (83, [(15, x0), (0, x1), (0, x2), (0, x3), (99, 0)], [], s) = some ([], (84, [(15, x0), (0, x1), (0, x2), (0, x3), (99, 0)], [(0, (-1))], s)) from rfl) ?_
      exact AT.retiH (by decide +kernel) H
set_option maxRecDepth 100000 in
theorem Md_nextOn_ok {a0 a1 a2 : Int} {s : jM} {o : Int × jM} (H : Md_nextOn a0 a1 a2 s = some o) : MK sMd_nextOn 1 [(15, a0), (0, a1), (0, a2)] s o := by
  refine MK.of kMd_nextOn rfl ?_
  show AT sMd_nextOn 1 (0, [(15, a0), (0, a1), (0, a2), (99, 0), (99, 0)], [], s) o
  unfold Md_nextOn at H
  refine AT.seq [(0, .iconst 0, 1, (0, 0, 0)), (1, .istore_n 3, 1, (0, 0, 0))] (by decide +kernel) (show jrun _ (0, [(15, a0), (0, a1), (0, a2), (99, 0), (99, 0)], [], s) = some ([], (2, [(15, a0), (0, a1), (0, a2), (0, 0), (99, 0)], [], s)) from rfl) ?_
  exact Md_nextOn_2_ok  jFU _ _ _ _ _ H
def sMd_way : jS := (⟨"JellyCathedralModel", "way", "(III)I"⟩, prog_13_method_125_code, 6, 1, [15, 0, 0, 0], 0)
theorem kMd_way : jmk sMd_way = true := jmk_of 8088 1012 8086 8087 (by decide +kernel)
set_option maxRecDepth 100000 in
theorem Md_way_65_ok {o : Int × jM} : ∀ (n : Nat) (x0 x2 x3 x4 x5 : Int) (s : jM), Md_way_65  n x0 x2 x3 x4 x5 s = some o → AT sMd_way 2 (65, [(15, x0), (99, 0), (0, x2), (0, x3), (0, x4), (0, x5)], [], s) o := by
  intro n
  induction n with
  | zero =>
    intro x0 x2 x3 x4 x5 s H
    have H : (none : Option (Int × jM)) = some o := H
    cases H
  | succ n ih =>
    intro x0 x2 x3 x4 x5 s H
    rw [Md_way_65] at H
    refine AT.seq [(65, .iload 5, 2, (0, 0, 0)), (67, .iload_n 3, 1, (0, 0, 0))] (by decide +kernel) (show jrun _ (65, [(15, x0), (99, 0), (0, x2), (0, x3), (0, x4), (0, x5)], [], s) = some ([], (68, [(15, x0), (99, 0), (0, x2), (0, x3), (0, x4), (0, x5)], [(0, x3), (0, x5)], s)) from rfl) ?_
    refine AT.ite (x := (0, 0, 0)) (by decide +kernel) (show jbr (.if_icmp .ge 31) (68, [(15, x0), (99, 0), (0, x2), (0, x3), (0, x4), (0, x5)], [(0, x3), (0, x5)], s) = some ((w32 x5) < (w32 x3), (71, [(15, x0), (99, 0), (0, x2), (0, x3), (0, x4), (0, x5)], [], s), (99, [(15, x0), (99, 0), (0, x2), (0, x3), (0, x4), (0, x5)], [], s)) from rfl) H (fun H => ?_) (fun H => ?_)
    · refine AT.seq [(71, .iload 4, 2, (0, 0, 0)), (73, .iload_n 2, 1, (0, 0, 0))] (by decide +kernel) (show jrun _ (71, [(15, x0), (99, 0), (0, x2), (0, x3), (0, x4), (0, x5)], [], s) = some ([], (74, [(15, x0), (99, 0), (0, x2), (0, x3), (0, x4), (0, x5)], [(0, x2), (0, x4)], s)) from rfl) ?_
      refine AT.ite (x := (0, 0, 0)) (by decide +kernel) (show jbr (.if_icmp .ne 10) (74, [(15, x0), (99, 0), (0, x2), (0, x3), (0, x4), (0, x5)], [(0, x2), (0, x4)], s) = some ((w32 x4) = (w32 x2), (77, [(15, x0), (99, 0), (0, x2), (0, x3), (0, x4), (0, x5)], [], s), (84, [(15, x0), (99, 0), (0, x2), (0, x3), (0, x4), (0, x5)], [], s)) from rfl) H (fun H => ?_) (fun H => ?_)
      · refine AT.seq [(77, .aload_n 0, 1, (0, 0, 0)), (78, .bipush 8, 2, (0, 0, 0))] (by decide +kernel) (show jrun _ (77, [(15, x0), (99, 0), (0, x2), (0, x3), (0, x4), (0, x5)], [], s) = some ([], (80, [(15, x0), (99, 0), (0, x2), (0, x3), (0, x4), (0, x5)], [(0, 8), (15, x0)], s)) from rfl) ?_
        obtain ⟨v1, s1, h1, H⟩ := jb_some H
        refine AT.callV (As := [(0, 8)]) (cl := 11) (b := x0) (st := []) (i := 322) (pos := 7116) kMd_refuse (by decide +kernel) rfl (by decide +kernel) rfl rfl (by omega) (Md_refuse_ok h1) ?_
        show AT sMd_way 2 (83, [(15, x0), (99, 0), (0, x2), (0, x3), (0, x4), (0, x5)], [(0, v1)], s1) o
        exact AT.retiH (by decide +kernel) H
      · refine AT.seq [(84, .aload_n 0, 1, (0, 0, 0)), (85, .iload 4, 2, (0, 0, 0)), (87, .iload_n 2, 1, (0, 0, 0))] (by decide +kernel) (show jrun _ (84, [(15, x0), (99, 0), (0, x2), (0, x3), (0, x4), (0, x5)], [], s) = some ([], (88, [(15, x0), (99, 0), (0, x2), (0, x3), (0, x4), (0, x5)], [(0, x2), (0, x4), (15, x0)], s)) from rfl) ?_
        obtain ⟨v2, s2, h2, H⟩ := jb_some H
        refine AT.callV (As := [(0, x4), (0, x2)]) (cl := 11) (b := x0) (st := []) (i := 437) (pos := 8089) kMd_nextOn (by decide +kernel) rfl (by decide +kernel) rfl rfl (by omega) (Md_nextOn_ok h2) ?_
        show AT sMd_way 2 (91, [(15, x0), (99, 0), (0, x2), (0, x3), (0, x4), (0, x5)], [(0, v2)], s2) o
        refine AT.seq [(91, .istore 4, 2, (0, 0, 0)), (93, .iinc 5 1, 3, (0, 0, 0)), (96, .goto (-31), 3, (0, 0, 0))] (by decide +kernel) (show jrun _ (91, [(15, x0), (99, 0), (0, x2), (0, x3), (0, x4), (0, x5)], [(0, v2)], s2) = some ([], (65, [(15, x0), (99, 0), (0, x2), (0, x3), (0, v2), (0, (x5 + 1))], [], s2)) from rfl) ?_
        exact ih _ _ _ _ _ _ H
    · refine AT.seq [(99, .iload 4, 2, (0, 0, 0))] (by decide +kernel) (show jrun _ (99, [(15, x0), (99, 0), (0, x2), (0, x3), (0, x4), (0, x5)], [], s) = some ([], (101, [(15, x0), (99, 0), (0, x2), (0, x3), (0, x4), (0, x5)], [(0, x4)], s)) from rfl) ?_
      exact AT.retiH (by decide +kernel) H
set_option maxRecDepth 100000 in
theorem Md_way_ok {a0 a1 a2 a3 : Int} {s : jM} {o : Int × jM} (H : Md_way a0 a1 a2 a3 s = some o) : MK sMd_way 2 [(15, a0), (0, a1), (0, a2), (0, a3)] s o := by
  refine MK.of kMd_way rfl ?_
  show AT sMd_way 2 (0, [(15, a0), (0, a1), (0, a2), (0, a3), (99, 0), (99, 0)], [], s) o
  unfold Md_way at H
  refine AT.seq [(0, .aload_n 0, 1, (0, 0, 0)), (1, .iconst 0, 1, (0, 0, 0)), (2, .putfield 72, 3, (5188, 1101, 0)), (5, .aload_n 0, 1, (0, 0, 0)), (6, .iconst 0, 1, (0, 0, 0)), (7, .putfield 75, 3, (5187, 1100, 0)), (10, .aload_n 0, 1, (0, 0, 0)), (11, .iload_n 1, 1, (0, 0, 0))] (by decide +kernel) (show jrun _ (0, [(15, a0), (0, a1), (0, a2), (0, a3), (99, 0), (99, 0)], [], s) = some ([], (12, [(15, a0), (0, a1), (0, a2), (0, a3), (99, 0), (99, 0)], [(0, a1), (15, a0)], (jup (jup s a0 1 0) a0 0 0))) from rfl) ?_
  obtain ⟨v3, s3, h3, H⟩ := jb_some H
  refine AT.callV (As := [(0, a1)]) (cl := 11) (b := a0) (st := []) (i := 387) (pos := 7217) kMd_isPlaceAt (by decide +kernel) rfl (by decide +kernel) rfl rfl (by omega) (Md_isPlaceAt_ok h3) ?_
  show AT sMd_way 2 (15, [(15, a0), (0, a1), (0, a2), (0, a3), (99, 0), (99, 0)], [(0, v3)], s3) o
  refine AT.ite (x := (0, 0, 0)) (by decide +kernel) (show jbr (.ifCond .eq 11) (15, [(15, a0), (0, a1), (0, a2), (0, a3), (99, 0), (99, 0)], [(0, v3)], s3) = some ((w32 v3) = 0, (26, [(15, a0), (0, a1), (0, a2), (0, a3), (99, 0), (99, 0)], [], s3), (18, [(15, a0), (0, a1), (0, a2), (0, a3), (99, 0), (99, 0)], [], s3)) from rfl) H (fun H => ?_) (fun H => ?_)
  · refine AT.seq [(26, .aload_n 0, 1, (0, 0, 0)), (27, .iconst 2, 1, (0, 0, 0))] (by decide +kernel) (show jrun _ (26, [(15, a0), (0, a1), (0, a2), (0, a3), (99, 0), (99, 0)], [], s3) = some ([], (28, [(15, a0), (0, a1), (0, a2), (0, a3), (99, 0), (99, 0)], [(0, 2), (15, a0)], s3)) from rfl) ?_
    obtain ⟨v4, s4, h4, H⟩ := jb_some H
    refine AT.callV (As := [(0, 2)]) (cl := 11) (b := a0) (st := []) (i := 322) (pos := 7116) kMd_refuse (by decide +kernel) rfl (by decide +kernel) rfl rfl (by omega) (Md_refuse_ok h4) ?_
    show AT sMd_way 2 (31, [(15, a0), (0, a1), (0, a2), (0, a3), (99, 0), (99, 0)], [(0, v4)], s4) o
    exact AT.retiH (by decide +kernel) H
  · refine AT.seq [(18, .aload_n 0, 1, (0, 0, 0)), (19, .iload_n 2, 1, (0, 0, 0))] (by decide +kernel) (show jrun _ (18, [(15, a0), (0, a1), (0, a2), (0, a3), (99, 0), (99, 0)], [], s3) = some ([], (20, [(15, a0), (0, a1), (0, a2), (0, a3), (99, 0), (99, 0)], [(0, a2), (15, a0)], s3)) from rfl) ?_
    obtain ⟨v5, s5, h5, H⟩ := jb_some H
    refine AT.callV (As := [(0, a2)]) (cl := 11) (b := a0) (st := []) (i := 387) (pos := 7217) kMd_isPlaceAt (by decide +kernel) rfl (by decide +kernel) rfl rfl (by omega) (Md_isPlaceAt_ok h5) ?_
    show AT sMd_way 2 (23, [(15, a0), (0, a1), (0, a2), (0, a3), (99, 0), (99, 0)], [(0, v5)], s5) o
    refine AT.ite (x := (0, 0, 0)) (by decide +kernel) (show jbr (.ifCond .ne 9) (23, [(15, a0), (0, a1), (0, a2), (0, a3), (99, 0), (99, 0)], [(0, v5)], s5) = some ((w32 v5) = 0, (26, [(15, a0), (0, a1), (0, a2), (0, a3), (99, 0), (99, 0)], [], s5), (32, [(15, a0), (0, a1), (0, a2), (0, a3), (99, 0), (99, 0)], [], s5)) from rfl) H (fun H => ?_) (fun H => ?_)
    · refine AT.seq [(26, .aload_n 0, 1, (0, 0, 0)), (27, .iconst 2, 1, (0, 0, 0))] (by decide +kernel) (show jrun _ (26, [(15, a0), (0, a1), (0, a2), (0, a3), (99, 0), (99, 0)], [], s5) = some ([], (28, [(15, a0), (0, a1), (0, a2), (0, a3), (99, 0), (99, 0)], [(0, 2), (15, a0)], s5)) from rfl) ?_
      obtain ⟨v6, s6, h6, H⟩ := jb_some H
      refine AT.callV (As := [(0, 2)]) (cl := 11) (b := a0) (st := []) (i := 322) (pos := 7116) kMd_refuse (by decide +kernel) rfl (by decide +kernel) rfl rfl (by omega) (Md_refuse_ok h6) ?_
      show AT sMd_way 2 (31, [(15, a0), (0, a1), (0, a2), (0, a3), (99, 0), (99, 0)], [(0, v6)], s6) o
      exact AT.retiH (by decide +kernel) H
    · refine AT.seq [(32, .aload_n 0, 1, (0, 0, 0))] (by decide +kernel) (show jrun _ (32, [(15, a0), (0, a1), (0, a2), (0, a3), (99, 0), (99, 0)], [], s5) = some ([], (33, [(15, a0), (0, a1), (0, a2), (0, a3), (99, 0), (99, 0)], [(15, a0)], s5)) from rfl) ?_
      obtain ⟨v7, s7, h7, H⟩ := jb_some H
      refine AT.callV (As := []) (cl := 11) (b := a0) (st := []) (i := 378) (pos := 7225) kMd_laysFar (by decide +kernel) rfl (by decide +kernel) rfl rfl (by omega) (Md_laysFar_ok h7) ?_
      show AT sMd_way 2 (36, [(15, a0), (0, a1), (0, a2), (0, a3), (99, 0), (99, 0)], [], s7) o
      refine AT.seq [(36, .iload_n 3, 1, (0, 0, 0))] (by decide +kernel) (show jrun _ (36, [(15, a0), (0, a1), (0, a2), (0, a3), (99, 0), (99, 0)], [], s7) = some ([], (37, [(15, a0), (0, a1), (0, a2), (0, a3), (99, 0), (99, 0)], [(0, a3)], s7)) from rfl) ?_
      refine AT.ite (x := (0, 0, 0)) (by decide +kernel) (show jbr (.ifCond .lt 15) (37, [(15, a0), (0, a1), (0, a2), (0, a3), (99, 0), (99, 0)], [(0, a3)], s7) = some ((w32 a3) < 0, (52, [(15, a0), (0, a1), (0, a2), (0, a3), (99, 0), (99, 0)], [], s7), (40, [(15, a0), (0, a1), (0, a2), (0, a3), (99, 0), (99, 0)], [], s7)) from rfl) H (fun H => ?_) (fun H => ?_)
      · refine AT.seq [(52, .aload_n 0, 1, (0, 0, 0)), (53, .bipush 8, 2, (0, 0, 0))] (by decide +kernel) (show jrun _ (52, [(15, a0), (0, a1), (0, a2), (0, a3), (99, 0), (99, 0)], [], s7) = some ([], (55, [(15, a0), (0, a1), (0, a2), (0, a3), (99, 0), (99, 0)], [(0, 8), (15, a0)], s7)) from rfl) ?_
        obtain ⟨v8, s8, h8, H⟩ := jb_some H
        refine AT.callV (As := [(0, 8)]) (cl := 11) (b := a0) (st := []) (i := 322) (pos := 7116) kMd_refuse (by decide +kernel) rfl (by decide +kernel) rfl rfl (by omega) (Md_refuse_ok h8) ?_
        show AT sMd_way 2 (58, [(15, a0), (0, a1), (0, a2), (0, a3), (99, 0), (99, 0)], [(0, v8)], s8) o
        exact AT.retiH (by decide +kernel) H
      · refine AT.seq [(40, .aload_n 0, 1, (0, 0, 0)), (41, .iload_n 1, 1, (0, 0, 0)), (42, .iload_n 2, 1, (0, 0, 0))] (by decide +kernel) (show jrun _ (40, [(15, a0), (0, a1), (0, a2), (0, a3), (99, 0), (99, 0)], [], s7) = some ([], (43, [(15, a0), (0, a1), (0, a2), (0, a3), (99, 0), (99, 0)], [(0, a2), (0, a1), (15, a0)], s7)) from rfl) ?_
        obtain ⟨v9, s9, h9, H⟩ := jb_some H
        refine AT.callV (As := [(0, a1), (0, a2)]) (cl := 11) (b := a0) (st := []) (i := 381) (pos := 7230) kMd_farOf (by decide +kernel) rfl (by decide +kernel) rfl rfl (by omega) (Md_farOf_ok h9) ?_
        show AT sMd_way 2 (46, [(15, a0), (0, a1), (0, a2), (0, a3), (99, 0), (99, 0)], [(0, v9)], s9) o
        refine AT.seq [(46, .sipush 10000, 3, (0, 0, 0))] (by decide +kernel) (show jrun _ (46, [(15, a0), (0, a1), (0, a2), (0, a3), (99, 0), (99, 0)], [(0, v9)], s9) = some ([], (49, [(15, a0), (0, a1), (0, a2), (0, a3), (99, 0), (99, 0)], [(0, 10000), (0, v9)], s9)) from rfl) ?_
        refine AT.ite (x := (0, 0, 0)) (by decide +kernel) (show jbr (.if_icmp .lt 10) (49, [(15, a0), (0, a1), (0, a2), (0, a3), (99, 0), (99, 0)], [(0, 10000), (0, v9)], s9) = some ((w32 v9) < 10000, (59, [(15, a0), (0, a1), (0, a2), (0, a3), (99, 0), (99, 0)], [], s9), (52, [(15, a0), (0, a1), (0, a2), (0, a3), (99, 0), (99, 0)], [], s9)) from rfl) H (fun H => ?_) (fun H => ?_)
        · refine AT.seq [(59, .iload_n 1, 1, (0, 0, 0)), (60, .istore 4, 2, (0, 0, 0)), (62, .iconst 0, 1, (0, 0, 0)), (63, .istore 5, 2, (0, 0, 0))] (by decide +kernel) (show jrun _ (59, [(15, a0), (0, a1), (0, a2), (0, a3), (99, 0), (99, 0)], [], s9) = some ([], (65, [(15, a0), (0, a1), (0, a2), (0, a3), (0, a1), (0, 0)], [], s9)) from rfl) ?_
          exact AT.weak (L' := [(15, a0), (99, 0), (0, a2), (0, a3), (0, a1), (0, 0)]) (jleK (jleJ (jleK (jleK (jleK (jleK jle0)))))) (Md_way_65_ok  jFU _ _ _ _ _ _ H)
        · refine AT.seq [(52, .aload_n 0, 1, (0, 0, 0)), (53, .bipush 8, 2, (0, 0, 0))] (by decide +kernel) (show jrun _ (52, [(15, a0), (0, a1), (0, a2), (0, a3), (99, 0), (99, 0)], [], s9) = some ([], (55, [(15, a0), (0, a1), (0, a2), (0, a3), (99, 0), (99, 0)], [(0, 8), (15, a0)], s9)) from rfl) ?_
          obtain ⟨v10, s10, h10, H⟩ := jb_some H
          refine AT.callV (As := [(0, 8)]) (cl := 11) (b := a0) (st := []) (i := 322) (pos := 7116) kMd_refuse (by decide +kernel) rfl (by decide +kernel) rfl rfl (by omega) (Md_refuse_ok h10) ?_
          show AT sMd_way 2 (58, [(15, a0), (0, a1), (0, a2), (0, a3), (99, 0), (99, 0)], [(0, v10)], s10) o
          exact AT.retiH (by decide +kernel) H
def sMd_reach : jS := (⟨"JellyCathedralModel", "reach", "(I)I"⟩, prog_13_method_126_code, 5, 1, [15, 0], 0)
theorem kMd_reach : jmk sMd_reach = true := jmk_of 8100 1012 8098 8099 (by decide +kernel)
set_option maxRecDepth 100000 in
theorem Md_reach_48_ok {o : Int × jM} : ∀ (n : Nat) (x0 x1 x2 x3 : Int) (s : jM), Md_reach_48  n x0 x1 x2 x3 s = some o → AT sMd_reach 2 (48, [(15, x0), (0, x1), (0, x2), (0, x3), (99, 0)], [], s) o := by
  intro n
  induction n with
  | zero =>
    intro x0 x1 x2 x3 s H
    have H : (none : Option (Int × jM)) = some o := H
    cases H
  | succ n ih =>
    intro x0 x1 x2 x3 s H
    rw [Md_reach_48] at H
    refine AT.row [(48, .iload_n 3, 1, (0, 0, 0)), (49, .aload_n 0, 1, (0, 0, 0)), (50, .getfield 35, 3, (5207, 1120, 0)), (53, .iconst 1, 1, (0, 0, 0)), (54, .iaload, 1, (0, 0, 0))] (by decide +kernel) (show jrun _ (48, [(15, x0), (0, x1), (0, x2), (0, x3), (99, 0)], [], s) = some ([(0 ≤ (1 : Int) ∧ (1 : Int) < 1905)], (55, [(15, x0), (0, x1), (0, x2), (0, x3), (99, 0)], [(0, (s (x0 + 5) 1)), (0, x3)], s)) from rfl) (show (0 ≤ (1 : Int) ∧ (1 : Int) < 1905) from by decide) ?_
    refine AT.ite (x := (0, 0, 0)) (by decide +kernel) (show jbr (.if_icmp .ge 64) (55, [(15, x0), (0, x1), (0, x2), (0, x3), (99, 0)], [(0, (s (x0 + 5) 1)), (0, x3)], s) = some ((w32 x3) < (w32 (s (x0 + 5) 1)), (58, [(15, x0), (0, x1), (0, x2), (0, x3), (99, 0)], [], s), (119, [(15, x0), (0, x1), (0, x2), (0, x3), (99, 0)], [], s)) from rfl) H (fun H => ?_) (fun H => ?_)
    · refine AT.blk (g := (0 ≤ (w32 (64 + x1)) ∧ (w32 (64 + x1)) < 1905)) [(58, .aload_n 0, 1, (0, 0, 0)), (59, .aload_n 0, 1, (0, 0, 0)), (60, .getfield 35, 3, (5207, 1120, 0)), (63, .bipush 64, 2, (0, 0, 0)), (65, .iload_n 1, 1, (0, 0, 0)), (66, .iadd, 1, (0, 0, 0)), (67, .iaload, 1, (0, 0, 0)), (68, .iload_n 3, 1, (0, 0, 0))] (by decide +kernel) (show jrun _ (58, [(15, x0), (0, x1), (0, x2), (0, x3), (99, 0)], [], s) = some ([(0 ≤ (w32 (64 + x1)) ∧ (w32 (64 + x1)) < 1905)], (69, [(15, x0), (0, x1), (0, x2), (0, x3), (99, 0)], [(0, x3), (0, (s (x0 + 5) (w32 (64 + x1)))), (15, x0)], s)) from rfl) (fun h => h) H (fun H => ?_)
      obtain ⟨v1, s1, h1, H⟩ := jb_some H
      refine AT.callV (As := [(0, (s (x0 + 5) (w32 (64 + x1)))), (0, x3)]) (cl := 11) (b := x0) (st := []) (i := 384) (pos := 7221) kMd_shakenTo (by decide +kernel) rfl (by decide +kernel) rfl rfl (by omega) (Md_shakenTo_ok h1) ?_
      show AT sMd_reach 2 (72, [(15, x0), (0, x1), (0, x2), (0, x3), (99, 0)], [(0, v1)], s1) o
      refine AT.seq [(72, .istore 4, 2, (0, 0, 0)), (74, .iload_n 2, 1, (0, 0, 0)), (75, .iload 4, 2, (0, 0, 0))] (by decide +kernel) (show jrun _ (72, [(15, x0), (0, x1), (0, x2), (0, x3), (99, 0)], [(0, v1)], s1) = some ([], (77, [(15, x0), (0, x1), (0, x2), (0, x3), (0, v1)], [(0, v1), (0, x2)], s1)) from rfl) ?_
      refine AT.ite (x := (0, 0, 0)) (by decide +kernel) (show jbr (.ifCond .lt 33) (77, [(15, x0), (0, x1), (0, x2), (0, x3), (0, v1)], [(0, v1), (0, x2)], s1) = some ((w32 v1) < 0, (110, [(15, x0), (0, x1), (0, x2), (0, x3), (0, v1)], [(0, x2)], s1), (80, [(15, x0), (0, x1), (0, x2), (0, x3), (0, v1)], [(0, x2)], s1)) from rfl) H (fun H => ?_) (fun H => ?_)
      · refine AT.seq [(110, .iconst 0, 1, (0, 0, 0)), (111, .ior, 1, (0, 0, 0)), (112, .istore_n 2, 1, (0, 0, 0)), (113, .iinc 3 1, 3, (0, 0, 0)), (116, .goto (-68), 3, (0, 0, 0))] (by decide +kernel) (show jrun _ (110, [(15, x0), (0, x1), (0, x2), (0, x3), (0, v1)], [(0, x2)], s1) = some ([], (48, [(15, x0), (0, x1), (0, (jior x2 0)), (0, (x3 + 1)), (0, v1)], [], s1)) from rfl) ?_
        exact AT.weak (L' := [(15, x0), (0, x1), (0, (jior x2 0)), (0, (x3 + 1)), (99, 0)]) (jleK (jleK (jleK (jleK (jleJ jle0))))) (ih _ _ _ _ _ H)
      · refine AT.blk (g := (0 ≤ (w32 (74 + x1)) ∧ (w32 (74 + x1)) < 1905) ∧ (0 ≤ (w32 (54 + x1)) ∧ (w32 (54 + x1)) < 1905)) [(80, .aload_n 0, 1, (0, 0, 0)), (81, .getfield 35, 3, (5207, 1120, 0)), (84, .bipush 74, 2, (0, 0, 0)), (86, .iload_n 1, 1, (0, 0, 0)), (87, .iadd, 1, (0, 0, 0)), (88, .iaload, 1, (0, 0, 0)), (89, .iload 4, 2, (0, 0, 0)), (91, .isub, 1, (0, 0, 0)), (92, .aload_n 0, 1, (0, 0, 0)), (93, .getfield 35, 3, (5207, 1120, 0)), (96, .bipush 54, 2, (0, 0, 0)), (98, .iload_n 1, 1, (0, 0, 0)), (99, .iadd, 1, (0, 0, 0)), (100, .iaload, 1, (0, 0, 0))] (by decide +kernel) (show jrun _ (80, [(15, x0), (0, x1), (0, x2), (0, x3), (0, v1)], [(0, x2)], s1) = some ([(0 ≤ (w32 (74 + x1)) ∧ (w32 (74 + x1)) < 1905), (0 ≤ (w32 (54 + x1)) ∧ (w32 (54 + x1)) < 1905)], (101, [(15, x0), (0, x1), (0, x2), (0, x3), (0, v1)], [(0, (s1 (x0 + 5) (w32 (54 + x1)))), (0, ((s1 (x0 + 5) (w32 (74 + x1))) - v1)), (0, x2)], s1)) from rfl) (fun h => ⟨h.1, h.2⟩) H (fun H => ?_)
        refine AT.ite (x := (0, 0, 0)) (by decide +kernel) (show jbr (.if_icmp .lt 9) (101, [(15, x0), (0, x1), (0, x2), (0, x3), (0, v1)], [(0, (s1 (x0 + 5) (w32 (54 + x1)))), (0, ((s1 (x0 + 5) (w32 (74 + x1))) - v1)), (0, x2)], s1) = some ((w32 ((s1 (x0 + 5) (w32 (74 + x1))) - v1)) < (w32 (s1 (x0 + 5) (w32 (54 + x1)))), (110, [(15, x0), (0, x1), (0, x2), (0, x3), (0, v1)], [(0, x2)], s1), (104, [(15, x0), (0, x1), (0, x2), (0, x3), (0, v1)], [(0, x2)], s1)) from rfl) H (fun H => ?_) (fun H => ?_)
        · refine AT.seq [(110, .iconst 0, 1, (0, 0, 0)), (111, .ior, 1, (0, 0, 0)), (112, .istore_n 2, 1, (0, 0, 0)), (113, .iinc 3 1, 3, (0, 0, 0)), (116, .goto (-68), 3, (0, 0, 0))] (by decide +kernel) (show jrun _ (110, [(15, x0), (0, x1), (0, x2), (0, x3), (0, v1)], [(0, x2)], s1) = some ([], (48, [(15, x0), (0, x1), (0, (jior x2 0)), (0, (x3 + 1)), (0, v1)], [], s1)) from rfl) ?_
          exact AT.weak (L' := [(15, x0), (0, x1), (0, (jior x2 0)), (0, (x3 + 1)), (99, 0)]) (jleK (jleK (jleK (jleK (jleJ jle0))))) (ih _ _ _ _ _ H)
        · refine AT.seq [(104, .iconst 1, 1, (0, 0, 0)), (105, .iload_n 3, 1, (0, 0, 0)), (106, .ishl, 1, (0, 0, 0)), (107, .goto 4, 3, (0, 0, 0)), (111, .ior, 1, (0, 0, 0)), (112, .istore_n 2, 1, (0, 0, 0)), (113, .iinc 3 1, 3, (0, 0, 0)), (116, .goto (-68), 3, (0, 0, 0))] (by decide +kernel) (show jrun _ (104, [(15, x0), (0, x1), (0, x2), (0, x3), (0, v1)], [(0, x2)], s1) = some ([], (48, [(15, x0), (0, x1), (0, (jior x2 (jishl 1 x3))), (0, (x3 + 1)), (0, v1)], [], s1)) from rfl) ?_
          exact AT.weak (L' := [(15, x0), (0, x1), (0, (jior x2 (jishl 1 x3))), (0, (x3 + 1)), (99, 0)]) (jleK (jleK (jleK (jleK (jleJ jle0))))) (ih _ _ _ _ _ H)
    · refine AT.seq [(119, .iload_n 2, 1, (0, 0, 0))] (by decide +kernel) (show jrun _ (119, [(15, x0), (0, x1), (0, x2), (0, x3), (99, 0)], [], s) = some ([], (120, [(15, x0), (0, x1), (0, x2), (0, x3), (99, 0)], [(0, x2)], s)) from rfl) ?_
      exact AT.retiH (by decide +kernel) H
set_option maxRecDepth 100000 in
theorem Md_reach_ok {a0 a1 : Int} {s : jM} {o : Int × jM} (H : Md_reach a0 a1 s = some o) : MK sMd_reach 2 [(15, a0), (0, a1)] s o := by
  refine MK.of kMd_reach rfl ?_
  show AT sMd_reach 2 (0, [(15, a0), (0, a1), (99, 0), (99, 0), (99, 0)], [], s) o
  unfold Md_reach at H
  refine AT.seq [(0, .aload_n 0, 1, (0, 0, 0)), (1, .iconst 0, 1, (0, 0, 0)), (2, .putfield 72, 3, (5188, 1101, 0)), (5, .aload_n 0, 1, (0, 0, 0)), (6, .iconst 0, 1, (0, 0, 0)), (7, .putfield 75, 3, (5187, 1100, 0)), (10, .aload_n 0, 1, (0, 0, 0)), (11, .iload_n 1, 1, (0, 0, 0))] (by decide +kernel) (show jrun _ (0, [(15, a0), (0, a1), (99, 0), (99, 0), (99, 0)], [], s) = some ([], (12, [(15, a0), (0, a1), (99, 0), (99, 0), (99, 0)], [(0, a1), (15, a0)], (jup (jup s a0 1 0) a0 0 0))) from rfl) ?_
  obtain ⟨v2, s2, h2, H⟩ := jb_some H
  refine AT.callV (As := [(0, a1)]) (cl := 11) (b := a0) (st := []) (i := 333) (pos := 7137) kMd_isMouldAt (by decide +kernel) rfl (by decide +kernel) rfl rfl (by omega) (Md_isMouldAt_ok h2) ?_
  show AT sMd_reach 2 (15, [(15, a0), (0, a1), (99, 0), (99, 0), (99, 0)], [(0, v2)], s2) o
  refine AT.ite (x := (0, 0, 0)) (by decide +kernel) (show jbr (.ifCond .ne 9) (15, [(15, a0), (0, a1), (99, 0), (99, 0), (99, 0)], [(0, v2)], s2) = some ((w32 v2) = 0, (18, [(15, a0), (0, a1), (99, 0), (99, 0), (99, 0)], [], s2), (24, [(15, a0), (0, a1), (99, 0), (99, 0), (99, 0)], [], s2)) from rfl) H (fun H => ?_) (fun H => ?_)
  · refine AT.seq [(18, .aload_n 0, 1, (0, 0, 0)), (19, .iconst 2, 1, (0, 0, 0))] (by decide +kernel) (show jrun _ (18, [(15, a0), (0, a1), (99, 0), (99, 0), (99, 0)], [], s2) = some ([], (20, [(15, a0), (0, a1), (99, 0), (99, 0), (99, 0)], [(0, 2), (15, a0)], s2)) from rfl) ?_
    obtain ⟨v3, s3, h3, H⟩ := jb_some H
    refine AT.callV (As := [(0, 2)]) (cl := 11) (b := a0) (st := []) (i := 322) (pos := 7116) kMd_refuse (by decide +kernel) rfl (by decide +kernel) rfl rfl (by omega) (Md_refuse_ok h3) ?_
    show AT sMd_reach 2 (23, [(15, a0), (0, a1), (99, 0), (99, 0), (99, 0)], [(0, v3)], s3) o
    exact AT.retiH (by decide +kernel) H
  · refine AT.blk (g := (0 ≤ (w32 (69 + a1)) ∧ (w32 (69 + a1)) < 1905)) [(24, .aload_n 0, 1, (0, 0, 0)), (25, .getfield 35, 3, (5207, 1120, 0)), (28, .bipush 69, 2, (0, 0, 0)), (30, .iload_n 1, 1, (0, 0, 0)), (31, .iadd, 1, (0, 0, 0)), (32, .iaload, 1, (0, 0, 0)), (33, .iconst 2, 1, (0, 0, 0))] (by decide +kernel) (show jrun _ (24, [(15, a0), (0, a1), (99, 0), (99, 0), (99, 0)], [], s2) = some ([(0 ≤ (w32 (69 + a1)) ∧ (w32 (69 + a1)) < 1905)], (34, [(15, a0), (0, a1), (99, 0), (99, 0), (99, 0)], [(0, 2), (0, (s2 (a0 + 5) (w32 (69 + a1))))], s2)) from rfl) (fun h => h) H (fun H => ?_)
    refine AT.ite (x := (0, 0, 0)) (by decide +kernel) (show jbr (.if_icmp .eq 10) (34, [(15, a0), (0, a1), (99, 0), (99, 0), (99, 0)], [(0, 2), (0, (s2 (a0 + 5) (w32 (69 + a1))))], s2) = some ((w32 (s2 (a0 + 5) (w32 (69 + a1)))) = 2, (44, [(15, a0), (0, a1), (99, 0), (99, 0), (99, 0)], [], s2), (37, [(15, a0), (0, a1), (99, 0), (99, 0), (99, 0)], [], s2)) from rfl) H (fun H => ?_) (fun H => ?_)
    · refine AT.seq [(44, .iconst 0, 1, (0, 0, 0)), (45, .istore_n 2, 1, (0, 0, 0)), (46, .iconst 0, 1, (0, 0, 0)), (47, .istore_n 3, 1, (0, 0, 0))] (by decide +kernel) (show jrun _ (44, [(15, a0), (0, a1), (99, 0), (99, 0), (99, 0)], [], s2) = some ([], (48, [(15, a0), (0, a1), (0, 0), (0, 0), (99, 0)], [], s2)) from rfl) ?_
      exact Md_reach_48_ok  jFU _ _ _ _ _ H
    · refine AT.seq [(37, .aload_n 0, 1, (0, 0, 0)), (38, .bipush 9, 2, (0, 0, 0))] (by decide +kernel) (show jrun _ (37, [(15, a0), (0, a1), (99, 0), (99, 0), (99, 0)], [], s2) = some ([], (40, [(15, a0), (0, a1), (99, 0), (99, 0), (99, 0)], [(0, 9), (15, a0)], s2)) from rfl) ?_
      obtain ⟨v4, s4, h4, H⟩ := jb_some H
      refine AT.callV (As := [(0, 9)]) (cl := 11) (b := a0) (st := []) (i := 322) (pos := 7116) kMd_refuse (by decide +kernel) rfl (by decide +kernel) rfl rfl (by omega) (Md_refuse_ok h4) ?_
      show AT sMd_reach 2 (43, [(15, a0), (0, a1), (99, 0), (99, 0), (99, 0)], [(0, v4)], s4) o
      exact AT.retiH (by decide +kernel) H
def sMd_whyNoFits : jS := (⟨"JellyCathedralModel", "whyNoFits", "(III)I"⟩, prog_13_method_127_code, 5, 1, [15, 0, 0, 0], 0)
theorem kMd_whyNoFits : jmk sMd_whyNoFits = true := jmk_of 8108 1012 8107 118 (by decide +kernel)
set_option maxRecDepth 100000 in
theorem Md_whyNoFits_67_ok {o : Int × jM} : ∀ (n : Nat) (x0 x2 x3 x4 : Int) (s : jM), Md_whyNoFits_67  n x0 x2 x3 x4 s = some o → AT sMd_whyNoFits 2 (67, [(15, x0), (99, 0), (0, x2), (0, x3), (0, x4)], [], s) o := by
  intro n
  induction n with
  | zero =>
    intro x0 x2 x3 x4 s H
    have H : (none : Option (Int × jM)) = some o := H
    cases H
  | succ n ih =>
    intro x0 x2 x3 x4 s H
    rw [Md_whyNoFits_67] at H
    refine AT.seq [(67, .iload 4, 2, (0, 0, 0)), (69, .iload_n 3, 1, (0, 0, 0))] (by decide +kernel) (show jrun _ (67, [(15, x0), (99, 0), (0, x2), (0, x3), (0, x4)], [], s) = some ([], (70, [(15, x0), (99, 0), (0, x2), (0, x3), (0, x4)], [(0, x3), (0, x4)], s)) from rfl) ?_
    refine AT.ite (x := (0, 0, 0)) (by decide +kernel) (show jbr (.if_icmp .ge 51) (70, [(15, x0), (99, 0), (0, x2), (0, x3), (0, x4)], [(0, x3), (0, x4)], s) = some ((w32 x4) < (w32 x3), (73, [(15, x0), (99, 0), (0, x2), (0, x3), (0, x4)], [], s), (121, [(15, x0), (99, 0), (0, x2), (0, x3), (0, x4)], [], s)) from rfl) H (fun H => ?_) (fun H => ?_)
    · refine AT.seq [(73, .aload_n 0, 1, (0, 0, 0)), (74, .iload_n 2, 1, (0, 0, 0)), (75, .iconst 2, 1, (0, 0, 0)), (76, .iload 4, 2, (0, 0, 0)), (78, .imul, 1, (0, 0, 0))] (by decide +kernel) (show jrun _ (73, [(15, x0), (99, 0), (0, x2), (0, x3), (0, x4)], [], s) = some ([], (79, [(15, x0), (99, 0), (0, x2), (0, x3), (0, x4)], [(0, (2 * x4)), (0, x2), (15, x0)], s)) from rfl) ?_
      obtain ⟨v1, s1, h1, H⟩ := jb_some H
      refine AT.callV (As := [(0, x2), (0, (2 * x4))]) (cl := 11) (b := x0) (st := []) (i := 442) (pos := 8110) kMd_numberOf (by decide +kernel) rfl (by decide +kernel) rfl rfl (by omega) (Md_numberOf_ok h1) ?_
      show AT sMd_whyNoFits 2 (82, [(15, x0), (99, 0), (0, x2), (0, x3), (0, x4)], [(1, v1)], s1) o
      refine AT.seq [(82, .lconst 1, 1, (0, 0, 0)), (83, .ldc2_w 354, 3, (7172, 0, 9))] (by decide +kernel) (show jrun _ (82, [(15, x0), (99, 0), (0, x2), (0, x3), (0, x4)], [(1, v1)], s1) = some ([], (86, [(15, x0), (99, 0), (0, x2), (0, x3), (0, x4)], [(1, 9), (1, 1), (1, v1)], s1)) from rfl) ?_
      obtain ⟨v2, s2, h2, H⟩ := jb_some H
      refine AT.callS (As := [(1, v1), (1, 1), (1, 9)]) (st := []) (i := 107) (pos := 6204) kMd_isIn (by decide +kernel) rfl rfl rfl (by omega) (Md_isIn_ok h2) ?_
      show AT sMd_whyNoFits 2 (89, [(15, x0), (99, 0), (0, x2), (0, x3), (0, x4)], [(0, v2)], s2) o
      refine AT.ite (x := (0, 0, 0)) (by decide +kernel) (show jbr (.ifCond .eq 24) (89, [(15, x0), (99, 0), (0, x2), (0, x3), (0, x4)], [(0, v2)], s2) = some ((w32 v2) = 0, (113, [(15, x0), (99, 0), (0, x2), (0, x3), (0, x4)], [], s2), (92, [(15, x0), (99, 0), (0, x2), (0, x3), (0, x4)], [], s2)) from rfl) H (fun H => ?_) (fun H => ?_)
      · refine AT.seq [(113, .iconst 5, 1, (0, 0, 0))] (by decide +kernel) (show jrun _ (113, [(15, x0), (99, 0), (0, x2), (0, x3), (0, x4)], [], s2) = some ([], (114, [(15, x0), (99, 0), (0, x2), (0, x3), (0, x4)], [(0, 5)], s2)) from rfl) ?_
        exact AT.retiH (by decide +kernel) H
      · refine AT.seq [(92, .aload_n 0, 1, (0, 0, 0)), (93, .iload_n 2, 1, (0, 0, 0)), (94, .iconst 2, 1, (0, 0, 0)), (95, .iload 4, 2, (0, 0, 0)), (97, .imul, 1, (0, 0, 0)), (98, .iconst 1, 1, (0, 0, 0)), (99, .iadd, 1, (0, 0, 0))] (by decide +kernel) (show jrun _ (92, [(15, x0), (99, 0), (0, x2), (0, x3), (0, x4)], [], s2) = some ([], (100, [(15, x0), (99, 0), (0, x2), (0, x3), (0, x4)], [(0, ((2 * x4) + 1)), (0, x2), (15, x0)], s2)) from rfl) ?_
        obtain ⟨v3, s3, h3, H⟩ := jb_some H
        refine AT.callV (As := [(0, x2), (0, ((2 * x4) + 1))]) (cl := 11) (b := x0) (st := []) (i := 442) (pos := 8110) kMd_numberOf (by decide +kernel) rfl (by decide +kernel) rfl rfl (by omega) (Md_numberOf_ok h3) ?_
        show AT sMd_whyNoFits 2 (103, [(15, x0), (99, 0), (0, x2), (0, x3), (0, x4)], [(1, v3)], s3) o
        refine AT.seq [(103, .lconst 0, 1, (0, 0, 0)), (104, .ldc2_w 393, 3, (8002, 0, 99))] (by decide +kernel) (show jrun _ (103, [(15, x0), (99, 0), (0, x2), (0, x3), (0, x4)], [(1, v3)], s3) = some ([], (107, [(15, x0), (99, 0), (0, x2), (0, x3), (0, x4)], [(1, 99), (1, 0), (1, v3)], s3)) from rfl) ?_
        obtain ⟨v4, s4, h4, H⟩ := jb_some H
        refine AT.callS (As := [(1, v3), (1, 0), (1, 99)]) (st := []) (i := 107) (pos := 6204) kMd_isIn (by decide +kernel) rfl rfl rfl (by omega) (Md_isIn_ok h4) ?_
        show AT sMd_whyNoFits 2 (110, [(15, x0), (99, 0), (0, x2), (0, x3), (0, x4)], [(0, v4)], s4) o
        refine AT.ite (x := (0, 0, 0)) (by decide +kernel) (show jbr (.ifCond .ne 5) (110, [(15, x0), (99, 0), (0, x2), (0, x3), (0, x4)], [(0, v4)], s4) = some ((w32 v4) = 0, (113, [(15, x0), (99, 0), (0, x2), (0, x3), (0, x4)], [], s4), (115, [(15, x0), (99, 0), (0, x2), (0, x3), (0, x4)], [], s4)) from rfl) H (fun H => ?_) (fun H => ?_)
        · refine AT.seq [(113, .iconst 5, 1, (0, 0, 0))] (by decide +kernel) (show jrun _ (113, [(15, x0), (99, 0), (0, x2), (0, x3), (0, x4)], [], s4) = some ([], (114, [(15, x0), (99, 0), (0, x2), (0, x3), (0, x4)], [(0, 5)], s4)) from rfl) ?_
          exact AT.retiH (by decide +kernel) H
        · refine AT.seq [(115, .iinc 4 1, 3, (0, 0, 0)), (118, .goto (-51), 3, (0, 0, 0))] (by decide +kernel) (show jrun _ (115, [(15, x0), (99, 0), (0, x2), (0, x3), (0, x4)], [], s4) = some ([], (67, [(15, x0), (99, 0), (0, x2), (0, x3), (0, (x4 + 1))], [], s4)) from rfl) ?_
          exact ih _ _ _ _ _ H
    · refine AT.seq [(121, .iconst 0, 1, (0, 0, 0))] (by decide +kernel) (show jrun _ (121, [(15, x0), (99, 0), (0, x2), (0, x3), (0, x4)], [], s) = some ([], (122, [(15, x0), (99, 0), (0, x2), (0, x3), (0, x4)], [(0, 0)], s)) from rfl) ?_
      exact AT.retiH (by decide +kernel) H
set_option maxRecDepth 100000 in
theorem Md_whyNoFits_ok {a0 a1 a2 a3 : Int} {s : jM} {o : Int × jM} (H : Md_whyNoFits a0 a1 a2 a3 s = some o) : MK sMd_whyNoFits 2 [(15, a0), (0, a1), (0, a2), (0, a3)] s o := by
  refine MK.of kMd_whyNoFits rfl ?_
  show AT sMd_whyNoFits 2 (0, [(15, a0), (0, a1), (0, a2), (0, a3), (99, 0)], [], s) o
  unfold Md_whyNoFits at H
  refine AT.seq [(0, .aload_n 0, 1, (0, 0, 0)), (1, .iload_n 2, 1, (0, 0, 0))] (by decide +kernel) (show jrun _ (0, [(15, a0), (0, a1), (0, a2), (0, a3), (99, 0)], [], s) = some ([], (2, [(15, a0), (0, a1), (0, a2), (0, a3), (99, 0)], [(0, a2), (15, a0)], s)) from rfl) ?_
  obtain ⟨v5, s5, h5, H⟩ := jb_some H
  refine AT.callV (As := [(0, a2)]) (cl := 11) (b := a0) (st := []) (i := 344) (pos := 7162) kMd_isTray (by decide +kernel) rfl (by decide +kernel) rfl rfl (by omega) (Md_isTray_ok h5) ?_
  show AT sMd_whyNoFits 2 (5, [(15, a0), (0, a1), (0, a2), (0, a3), (99, 0)], [(0, v5)], s5) o
  refine AT.ite (x := (0, 0, 0)) (by decide +kernel) (show jbr (.ifCond .ne 5) (5, [(15, a0), (0, a1), (0, a2), (0, a3), (99, 0)], [(0, v5)], s5) = some ((w32 v5) = 0, (8, [(15, a0), (0, a1), (0, a2), (0, a3), (99, 0)], [], s5), (10, [(15, a0), (0, a1), (0, a2), (0, a3), (99, 0)], [], s5)) from rfl) H (fun H => ?_) (fun H => ?_)
  · refine AT.seq [(8, .iconst 1, 1, (0, 0, 0))] (by decide +kernel) (show jrun _ (8, [(15, a0), (0, a1), (0, a2), (0, a3), (99, 0)], [], s5) = some ([], (9, [(15, a0), (0, a1), (0, a2), (0, a3), (99, 0)], [(0, 1)], s5)) from rfl) ?_
    exact AT.retiH (by decide +kernel) H
  · refine AT.seq [(10, .aload_n 0, 1, (0, 0, 0)), (11, .iload_n 1, 1, (0, 0, 0))] (by decide +kernel) (show jrun _ (10, [(15, a0), (0, a1), (0, a2), (0, a3), (99, 0)], [], s5) = some ([], (12, [(15, a0), (0, a1), (0, a2), (0, a3), (99, 0)], [(0, a1), (15, a0)], s5)) from rfl) ?_
    obtain ⟨v6, s6, h6, H⟩ := jb_some H
    refine AT.callV (As := [(0, a1)]) (cl := 11) (b := a0) (st := []) (i := 333) (pos := 7137) kMd_isMouldAt (by decide +kernel) rfl (by decide +kernel) rfl rfl (by omega) (Md_isMouldAt_ok h6) ?_
    show AT sMd_whyNoFits 2 (15, [(15, a0), (0, a1), (0, a2), (0, a3), (99, 0)], [(0, v6)], s6) o
    refine AT.ite (x := (0, 0, 0)) (by decide +kernel) (show jbr (.ifCond .ne 5) (15, [(15, a0), (0, a1), (0, a2), (0, a3), (99, 0)], [(0, v6)], s6) = some ((w32 v6) = 0, (18, [(15, a0), (0, a1), (0, a2), (0, a3), (99, 0)], [], s6), (20, [(15, a0), (0, a1), (0, a2), (0, a3), (99, 0)], [], s6)) from rfl) H (fun H => ?_) (fun H => ?_)
    · refine AT.seq [(18, .iconst 2, 1, (0, 0, 0))] (by decide +kernel) (show jrun _ (18, [(15, a0), (0, a1), (0, a2), (0, a3), (99, 0)], [], s6) = some ([], (19, [(15, a0), (0, a1), (0, a2), (0, a3), (99, 0)], [(0, 2)], s6)) from rfl) ?_
      exact AT.retiH (by decide +kernel) H
    · refine AT.blk (g := (0 ≤ (w32 a2) ∧ (w32 a2) < 4)) [(20, .aload_n 0, 1, (0, 0, 0)), (21, .getfield 17, 3, (5192, 1105, 0)), (24, .iload_n 2, 1, (0, 0, 0)), (25, .iaload, 1, (0, 0, 0))] (by decide +kernel) (show jrun _ (20, [(15, a0), (0, a1), (0, a2), (0, a3), (99, 0)], [], s6) = some ([(0 ≤ (w32 a2) ∧ (w32 a2) < 4)], (26, [(15, a0), (0, a1), (0, a2), (0, a3), (99, 0)], [(0, (s6 (a0 + 2) (w32 a2)))], s6)) from rfl) (fun h => h) H (fun H => ?_)
      refine AT.ite (x := (0, 0, 0)) (by decide +kernel) (show jbr (.ifCond .ge 5) (26, [(15, a0), (0, a1), (0, a2), (0, a3), (99, 0)], [(0, (s6 (a0 + 2) (w32 a2)))], s6) = some ((w32 (s6 (a0 + 2) (w32 a2))) < 0, (29, [(15, a0), (0, a1), (0, a2), (0, a3), (99, 0)], [], s6), (31, [(15, a0), (0, a1), (0, a2), (0, a3), (99, 0)], [], s6)) from rfl) H (fun H => ?_) (fun H => ?_)
      · refine AT.seq [(29, .iconst 3, 1, (0, 0, 0))] (by decide +kernel) (show jrun _ (29, [(15, a0), (0, a1), (0, a2), (0, a3), (99, 0)], [], s6) = some ([], (30, [(15, a0), (0, a1), (0, a2), (0, a3), (99, 0)], [(0, 3)], s6)) from rfl) ?_
        exact AT.retiH (by decide +kernel) H
      · refine AT.blk (g := (0 ≤ (w32 a2) ∧ (w32 a2) < 4)) [(31, .aload_n 0, 1, (0, 0, 0)), (32, .getfield 17, 3, (5192, 1105, 0)), (35, .iload_n 2, 1, (0, 0, 0)), (36, .iaload, 1, (0, 0, 0)), (37, .i2l, 1, (0, 0, 0)), (38, .ldc2_w 331, 3, (7132, 0, 2)), (41, .iload_n 3, 1, (0, 0, 0)), (42, .i2l, 1, (0, 0, 0)), (43, .lmul, 1, (0, 0, 0)), (44, .lcmp, 1, (0, 0, 0))] (by decide +kernel) (show jrun _ (31, [(15, a0), (0, a1), (0, a2), (0, a3), (99, 0)], [], s6) = some ([(0 ≤ (w32 a2) ∧ (w32 a2) < 4)], (45, [(15, a0), (0, a1), (0, a2), (0, a3), (99, 0)], [(0, (jlcmp (w32 (s6 (a0 + 2) (w32 a2))) (2 * (w32 a3))))], s6)) from rfl) (fun h => h) H (fun H => ?_)
        refine AT.ite (x := (0, 0, 0)) (by decide +kernel) (show jbr (.ifCond .ge 5) (45, [(15, a0), (0, a1), (0, a2), (0, a3), (99, 0)], [(0, (jlcmp (w32 (s6 (a0 + 2) (w32 a2))) (2 * (w32 a3))))], s6) = some ((w32 (jlcmp (w32 (s6 (a0 + 2) (w32 a2))) (2 * (w32 a3)))) < 0, (48, [(15, a0), (0, a1), (0, a2), (0, a3), (99, 0)], [], s6), (50, [(15, a0), (0, a1), (0, a2), (0, a3), (99, 0)], [], s6)) from rfl) H (fun H => ?_) (fun H => ?_)
        · refine AT.seq [(48, .iconst 4, 1, (0, 0, 0))] (by decide +kernel) (show jrun _ (48, [(15, a0), (0, a1), (0, a2), (0, a3), (99, 0)], [], s6) = some ([], (49, [(15, a0), (0, a1), (0, a2), (0, a3), (99, 0)], [(0, 4)], s6)) from rfl) ?_
          exact AT.retiH (by decide +kernel) H
        · refine AT.seq [(50, .iload_n 3, 1, (0, 0, 0)), (51, .i2l, 1, (0, 0, 0)), (52, .lconst 0, 1, (0, 0, 0)), (53, .ldc2_w 440, 3, (8109, 0, 20))] (by decide +kernel) (show jrun _ (50, [(15, a0), (0, a1), (0, a2), (0, a3), (99, 0)], [], s6) = some ([], (56, [(15, a0), (0, a1), (0, a2), (0, a3), (99, 0)], [(1, 20), (1, 0), (1, (w32 a3))], s6)) from rfl) ?_
          obtain ⟨v7, s7, h7, H⟩ := jb_some H
          refine AT.callS (As := [(1, (w32 a3)), (1, 0), (1, 20)]) (st := []) (i := 107) (pos := 6204) kMd_isIn (by decide +kernel) rfl rfl rfl (by omega) (Md_isIn_ok h7) ?_
          show AT sMd_whyNoFits 2 (59, [(15, a0), (0, a1), (0, a2), (0, a3), (99, 0)], [(0, v7)], s7) o
          refine AT.ite (x := (0, 0, 0)) (by decide +kernel) (show jbr (.ifCond .ne 5) (59, [(15, a0), (0, a1), (0, a2), (0, a3), (99, 0)], [(0, v7)], s7) = some ((w32 v7) = 0, (62, [(15, a0), (0, a1), (0, a2), (0, a3), (99, 0)], [], s7), (64, [(15, a0), (0, a1), (0, a2), (0, a3), (99, 0)], [], s7)) from rfl) H (fun H => ?_) (fun H => ?_)
          · refine AT.seq [(62, .iconst 5, 1, (0, 0, 0))] (by decide +kernel) (show jrun _ (62, [(15, a0), (0, a1), (0, a2), (0, a3), (99, 0)], [], s7) = some ([], (63, [(15, a0), (0, a1), (0, a2), (0, a3), (99, 0)], [(0, 5)], s7)) from rfl) ?_
            exact AT.retiH (by decide +kernel) H
          · refine AT.seq [(64, .iconst 0, 1, (0, 0, 0)), (65, .istore 4, 2, (0, 0, 0))] (by decide +kernel) (show jrun _ (64, [(15, a0), (0, a1), (0, a2), (0, a3), (99, 0)], [], s7) = some ([], (67, [(15, a0), (0, a1), (0, a2), (0, a3), (0, 0)], [], s7)) from rfl) ?_
            exact AT.weak (L' := [(15, a0), (99, 0), (0, a2), (0, a3), (0, 0)]) (jleK (jleJ (jleK (jleK (jleK jle0))))) (Md_whyNoFits_67_ok  jFU _ _ _ _ _ H)
def sMd_laysFits : jS := (⟨"JellyCathedralModel", "laysFits", "(III)I"⟩, prog_13_method_128_code, 7, 1, [15, 0, 0, 0], 0)
theorem kMd_laysFits : jmk sMd_laysFits = true := jmk_of 8117 1012 8116 120 (by decide +kernel)
set_option maxRecDepth 100000 in
theorem Md_laysFits_23_ok {o : Int × jM} {k13 : Int → Int → Int → Int → Int → Int → jM → Option (Int × jM)} (hk13 : ∀ (x0 x1 x2 x3 x4 x5 : Int) (s : jM), k13 x0 x1 x2 x3 x4 x5 s = some o → AT sMd_laysFits 14 (13, [(15, x0), (0, x1), (0, x2), (0, x3), (0, x4), (0, x5), (99, 0)], [], s) o) : ∀ (n : Nat) (x0 x1 x2 x3 x4 x5 x6 : Int) (s : jM), Md_laysFits_23 k13 n x0 x1 x2 x3 x4 x5 x6 s = some o → AT sMd_laysFits 14 (23, [(15, x0), (0, x1), (0, x2), (0, x3), (0, x4), (0, x5), (0, x6)], [], s) o := by
  intro n
  induction n with
  | zero =>
    intro x0 x1 x2 x3 x4 x5 x6 s H
    have H : (none : Option (Int × jM)) = some o := H
    cases H
  | succ n ih =>
    intro x0 x1 x2 x3 x4 x5 x6 s H
    rw [Md_laysFits_23] at H
    refine AT.seq [(23, .iload 6, 2, (0, 0, 0)), (25, .iload_n 3, 1, (0, 0, 0))] (by decide +kernel) (show jrun _ (23, [(15, x0), (0, x1), (0, x2), (0, x3), (0, x4), (0, x5), (0, x6)], [], s) = some ([], (26, [(15, x0), (0, x1), (0, x2), (0, x3), (0, x4), (0, x5), (0, x6)], [(0, x3), (0, x6)], s)) from rfl) ?_
    refine AT.ite (x := (0, 0, 0)) (by decide +kernel) (show jbr (.if_icmp .ge 57) (26, [(15, x0), (0, x1), (0, x2), (0, x3), (0, x4), (0, x5), (0, x6)], [(0, x3), (0, x6)], s) = some ((w32 x6) < (w32 x3), (29, [(15, x0), (0, x1), (0, x2), (0, x3), (0, x4), (0, x5), (0, x6)], [], s), (83, [(15, x0), (0, x1), (0, x2), (0, x3), (0, x4), (0, x5), (0, x6)], [], s)) from rfl) H (fun H => ?_) (fun H => ?_)
    · refine AT.blk (g := (0 ≤ (w32 (54 + x1)) ∧ (w32 (54 + x1)) < 1905)) [(29, .iload 5, 2, (0, 0, 0)), (31, .aload_n 0, 1, (0, 0, 0)), (32, .getfield 35, 3, (5207, 1120, 0)), (35, .bipush 54, 2, (0, 0, 0)), (37, .iload_n 1, 1, (0, 0, 0)), (38, .iadd, 1, (0, 0, 0)), (39, .iaload, 1, (0, 0, 0)), (40, .aload_n 0, 1, (0, 0, 0)), (41, .iload_n 2, 1, (0, 0, 0)), (42, .iconst 2, 1, (0, 0, 0)), (43, .iload 6, 2, (0, 0, 0)), (45, .imul, 1, (0, 0, 0))] (by decide +kernel) (show jrun _ (29, [(15, x0), (0, x1), (0, x2), (0, x3), (0, x4), (0, x5), (0, x6)], [], s) = some ([(0 ≤ (w32 (54 + x1)) ∧ (w32 (54 + x1)) < 1905)], (46, [(15, x0), (0, x1), (0, x2), (0, x3), (0, x4), (0, x5), (0, x6)], [(0, (2 * x6)), (0, x2), (15, x0), (0, (s (x0 + 5) (w32 (54 + x1)))), (0, x5)], s)) from rfl) (fun h => h) H (fun H => ?_)
      obtain ⟨v1, s1, h1, H⟩ := jb_some H
      refine AT.callV (As := [(0, x2), (0, (2 * x6))]) (cl := 11) (b := x0) (st := [(0, (s (x0 + 5) (w32 (54 + x1)))), (0, x5)]) (i := 442) (pos := 8110) kMd_numberOf (by decide +kernel) rfl (by decide +kernel) rfl rfl (by omega) (Md_numberOf_ok h1) ?_
      show AT sMd_laysFits 14 (49, [(15, x0), (0, x1), (0, x2), (0, x3), (0, x4), (0, x5), (0, x6)], [(1, v1), (0, (s (x0 + 5) (w32 (54 + x1)))), (0, x5)], s1) o
      refine AT.seq [(49, .l2i, 1, (0, 0, 0))] (by decide +kernel) (show jrun _ (49, [(15, x0), (0, x1), (0, x2), (0, x3), (0, x4), (0, x5), (0, x6)], [(1, v1), (0, (s (x0 + 5) (w32 (54 + x1)))), (0, x5)], s1) = some ([], (50, [(15, x0), (0, x1), (0, x2), (0, x3), (0, x4), (0, x5), (0, x6)], [(0, v1), (0, (s (x0 + 5) (w32 (54 + x1)))), (0, x5)], s1)) from rfl) ?_
      obtain ⟨v2, s2, h2, H⟩ := jb_some H
      refine AT.callS (As := [(0, x5), (0, (s (x0 + 5) (w32 (54 + x1)))), (0, v1)]) (st := []) (i := 411) (pos := 8045) kMd_lastsOf (by decide +kernel) rfl rfl rfl (by omega) (Md_lastsOf_ok h2) ?_
      show AT sMd_laysFits 14 (53, [(15, x0), (0, x1), (0, x2), (0, x3), (0, x4), (0, x5), (0, x6)], [(0, v2)], s2) o
      refine AT.seq [(53, .i2l, 1, (0, 0, 0)), (54, .aload_n 0, 1, (0, 0, 0)), (55, .iload_n 2, 1, (0, 0, 0)), (56, .iconst 2, 1, (0, 0, 0)), (57, .iload 6, 2, (0, 0, 0)), (59, .imul, 1, (0, 0, 0)), (60, .iconst 1, 1, (0, 0, 0)), (61, .iadd, 1, (0, 0, 0))] (by decide +kernel) (show jrun _ (53, [(15, x0), (0, x1), (0, x2), (0, x3), (0, x4), (0, x5), (0, x6)], [(0, v2)], s2) = some ([], (62, [(15, x0), (0, x1), (0, x2), (0, x3), (0, x4), (0, x5), (0, x6)], [(0, ((2 * x6) + 1)), (0, x2), (15, x0), (1, (w32 v2))], s2)) from rfl) ?_
      obtain ⟨v3, s3, h3, H⟩ := jb_some H
      refine AT.callV (As := [(0, x2), (0, ((2 * x6) + 1))]) (cl := 11) (b := x0) (st := [(1, (w32 v2))]) (i := 442) (pos := 8110) kMd_numberOf (by decide +kernel) rfl (by decide +kernel) rfl rfl (by omega) (Md_numberOf_ok h3) ?_
      show AT sMd_laysFits 14 (65, [(15, x0), (0, x1), (0, x2), (0, x3), (0, x4), (0, x5), (0, x6)], [(1, v3), (1, (w32 v2))], s3) o
      refine AT.seq [(65, .lcmp, 1, (0, 0, 0))] (by decide +kernel) (show jrun _ (65, [(15, x0), (0, x1), (0, x2), (0, x3), (0, x4), (0, x5), (0, x6)], [(1, v3), (1, (w32 v2))], s3) = some ([], (66, [(15, x0), (0, x1), (0, x2), (0, x3), (0, x4), (0, x5), (0, x6)], [(0, (jlcmp (w32 v2) v3))], s3)) from rfl) ?_
      refine AT.ite (x := (0, 0, 0)) (by decide +kernel) (show jbr (.ifCond .eq 11) (66, [(15, x0), (0, x1), (0, x2), (0, x3), (0, x4), (0, x5), (0, x6)], [(0, (jlcmp (w32 v2) v3))], s3) = some ((w32 (jlcmp (w32 v2) v3)) = 0, (77, [(15, x0), (0, x1), (0, x2), (0, x3), (0, x4), (0, x5), (0, x6)], [], s3), (69, [(15, x0), (0, x1), (0, x2), (0, x3), (0, x4), (0, x5), (0, x6)], [], s3)) from rfl) H (fun H => ?_) (fun H => ?_)
      · refine AT.seq [(77, .iinc 6 1, 3, (0, 0, 0)), (80, .goto (-57), 3, (0, 0, 0))] (by decide +kernel) (show jrun _ (77, [(15, x0), (0, x1), (0, x2), (0, x3), (0, x4), (0, x5), (0, x6)], [], s3) = some ([], (23, [(15, x0), (0, x1), (0, x2), (0, x3), (0, x4), (0, x5), (0, (x6 + 1))], [], s3)) from rfl) ?_
        exact ih _ _ _ _ _ _ _ _ H
      · refine AT.blk (g := (0 ≤ (w32 x5) ∧ (w32 x5) < 82)) [(69, .aload_n 0, 1, (0, 0, 0)), (70, .getfield 56, 3, (5217, 1130, 0)), (73, .iload 5, 2, (0, 0, 0)), (75, .iconst 0, 1, (0, 0, 0)), (76, .iastore, 1, (0, 0, 0)), (77, .iinc 6 1, 3, (0, 0, 0)), (80, .goto (-57), 3, (0, 0, 0))] (by decide +kernel) (show jrun _ (69, [(15, x0), (0, x1), (0, x2), (0, x3), (0, x4), (0, x5), (0, x6)], [], s3) = some ([(0 ≤ (w32 x5) ∧ (w32 x5) < 82)], (23, [(15, x0), (0, x1), (0, x2), (0, x3), (0, x4), (0, x5), (0, (x6 + 1))], [], (jup s3 (x0 + 12) (w32 x5) 0))) from rfl) (fun h => h) H (fun H => ?_)
        exact ih _ _ _ _ _ _ _ _ H
    · refine AT.blk (g := (0 ≤ (w32 x5) ∧ (w32 x5) < 82)) [(83, .iload 4, 2, (0, 0, 0)), (85, .aload_n 0, 1, (0, 0, 0)), (86, .getfield 56, 3, (5217, 1130, 0)), (89, .iload 5, 2, (0, 0, 0)), (91, .iaload, 1, (0, 0, 0)), (92, .iadd, 1, (0, 0, 0)), (93, .istore 4, 2, (0, 0, 0)), (95, .iinc 5 1, 3, (0, 0, 0)), (98, .goto (-85), 3, (0, 0, 0))] (by decide +kernel) (show jrun _ (83, [(15, x0), (0, x1), (0, x2), (0, x3), (0, x4), (0, x5), (0, x6)], [], s) = some ([(0 ≤ (w32 x5) ∧ (w32 x5) < 82)], (13, [(15, x0), (0, x1), (0, x2), (0, x3), (0, (x4 + (s (x0 + 12) (w32 x5)))), (0, (x5 + 1)), (0, x6)], [], s)) from rfl) (fun h => h) H (fun H => ?_)
      exact AT.weak (L' := [(15, x0), (0, x1), (0, x2), (0, x3), (0, (x4 + (s (x0 + 12) (w32 x5)))), (0, (x5 + 1)), (99, 0)]) (jleK (jleK (jleK (jleK (jleK (jleK (jleJ jle0))))))) (hk13 _ _ _ _ _ _ _ H)
set_option maxRecDepth 100000 in
theorem Md_laysFits_13_ok {o : Int × jM} : ∀ (n : Nat) (x0 x1 x2 x3 x4 x5 : Int) (s : jM), Md_laysFits_13  n x0 x1 x2 x3 x4 x5 s = some o → AT sMd_laysFits 14 (13, [(15, x0), (0, x1), (0, x2), (0, x3), (0, x4), (0, x5), (99, 0)], [], s) o := by
  intro n
  induction n with
  | zero =>
    intro x0 x1 x2 x3 x4 x5 s H
    have H : (none : Option (Int × jM)) = some o := H
    cases H
  | succ n ih =>
    intro x0 x1 x2 x3 x4 x5 s H
    rw [Md_laysFits_13] at H
    refine AT.seq [(13, .iload 5, 2, (0, 0, 0)), (15, .bipush 82, 2, (0, 0, 0))] (by decide +kernel) (show jrun _ (13, [(15, x0), (0, x1), (0, x2), (0, x3), (0, x4), (0, x5), (99, 0)], [], s) = some ([], (17, [(15, x0), (0, x1), (0, x2), (0, x3), (0, x4), (0, x5), (99, 0)], [(0, 82), (0, x5)], s)) from rfl) ?_
    refine AT.ite (x := (0, 0, 0)) (by decide +kernel) (show jbr (.if_icmp .ge 84) (17, [(15, x0), (0, x1), (0, x2), (0, x3), (0, x4), (0, x5), (99, 0)], [(0, 82), (0, x5)], s) = some ((w32 x5) < 82, (20, [(15, x0), (0, x1), (0, x2), (0, x3), (0, x4), (0, x5), (99, 0)], [], s), (101, [(15, x0), (0, x1), (0, x2), (0, x3), (0, x4), (0, x5), (99, 0)], [], s)) from rfl) H (fun H => ?_) (fun H => ?_)
    · refine AT.seq [(20, .iconst 0, 1, (0, 0, 0)), (21, .istore 6, 2, (0, 0, 0))] (by decide +kernel) (show jrun _ (20, [(15, x0), (0, x1), (0, x2), (0, x3), (0, x4), (0, x5), (99, 0)], [], s) = some ([], (23, [(15, x0), (0, x1), (0, x2), (0, x3), (0, x4), (0, x5), (0, 0)], [], s)) from rfl) ?_
      exact Md_laysFits_23_ok ih jFU _ _ _ _ _ _ _ _ H
    · refine AT.seq [(101, .iload 4, 2, (0, 0, 0))] (by decide +kernel) (show jrun _ (101, [(15, x0), (0, x1), (0, x2), (0, x3), (0, x4), (0, x5), (99, 0)], [], s) = some ([], (103, [(15, x0), (0, x1), (0, x2), (0, x3), (0, x4), (0, x5), (99, 0)], [(0, x4)], s)) from rfl) ?_
      exact AT.retiH (by decide +kernel) H
set_option maxRecDepth 100000 in
theorem Md_laysFits_ok {a0 a1 a2 a3 : Int} {s : jM} {o : Int × jM} (H : Md_laysFits a0 a1 a2 a3 s = some o) : MK sMd_laysFits 14 [(15, a0), (0, a1), (0, a2), (0, a3)] s o := by
  refine MK.of kMd_laysFits rfl ?_
  show AT sMd_laysFits 14 (0, [(15, a0), (0, a1), (0, a2), (0, a3), (99, 0), (99, 0), (99, 0)], [], s) o
  unfold Md_laysFits at H
  refine AT.seq [(0, .aload_n 0, 1, (0, 0, 0)), (1, .iload_n 1, 1, (0, 0, 0)), (2, .iconst 0, 1, (0, 0, 0)), (3, .iconst 0, 1, (0, 0, 0))] (by decide +kernel) (show jrun _ (0, [(15, a0), (0, a1), (0, a2), (0, a3), (99, 0), (99, 0), (99, 0)], [], s) = some ([], (4, [(15, a0), (0, a1), (0, a2), (0, a3), (99, 0), (99, 0), (99, 0)], [(0, 0), (0, 0), (0, a1), (15, a0)], s)) from rfl) ?_
  obtain ⟨v4, s4, h4, H⟩ := jb_some H
  refine AT.callV (As := [(0, a1), (0, 0), (0, 0)]) (cl := 11) (b := a0) (st := []) (i := 430) (pos := 8061) kMd_laysMix (by decide +kernel) rfl (by decide +kernel) rfl rfl (by omega) (Md_laysMix_ok h4) ?_
  show AT sMd_laysFits 14 (7, [(15, a0), (0, a1), (0, a2), (0, a3), (99, 0), (99, 0), (99, 0)], [], s4) o
  refine AT.seq [(7, .iconst 0, 1, (0, 0, 0)), (8, .istore 4, 2, (0, 0, 0)), (10, .iconst 0, 1, (0, 0, 0)), (11, .istore 5, 2, (0, 0, 0))] (by decide +kernel) (show jrun _ (7, [(15, a0), (0, a1), (0, a2), (0, a3), (99, 0), (99, 0), (99, 0)], [], s4) = some ([], (13, [(15, a0), (0, a1), (0, a2), (0, a3), (0, 0), (0, 0), (99, 0)], [], s4)) from rfl) ?_
  exact Md_laysFits_13_ok  jFU _ _ _ _ _ _ _ H
def sMd_fits : jS := (⟨"JellyCathedralModel", "fits", "(III)I"⟩, prog_13_method_129_code, 4, 1, [15, 0, 0, 0], 0)
theorem kMd_fits : jmk sMd_fits = true := jmk_of 8104 1012 8102 8103 (by decide +kernel)
set_option maxRecDepth 100000 in
theorem Md_fits_ok {a0 a1 a2 a3 : Int} {s : jM} {o : Int × jM} (H : Md_fits a0 a1 a2 a3 s = some o) : MK sMd_fits 15 [(15, a0), (0, a1), (0, a2), (0, a3)] s o := by
  refine MK.of kMd_fits rfl ?_
  show AT sMd_fits 15 (0, [(15, a0), (0, a1), (0, a2), (0, a3)], [], s) o
  unfold Md_fits at H
  refine AT.seq [(0, .aload_n 0, 1, (0, 0, 0)), (1, .iconst 0, 1, (0, 0, 0)), (2, .putfield 72, 3, (5188, 1101, 0)), (5, .aload_n 0, 1, (0, 0, 0)), (6, .aload_n 0, 1, (0, 0, 0)), (7, .iload_n 1, 1, (0, 0, 0)), (8, .iload_n 2, 1, (0, 0, 0)), (9, .iload_n 3, 1, (0, 0, 0))] (by decide +kernel) (show jrun _ (0, [(15, a0), (0, a1), (0, a2), (0, a3)], [], s) = some ([], (10, [(15, a0), (0, a1), (0, a2), (0, a3)], [(0, a3), (0, a2), (0, a1), (15, a0), (15, a0)], (jup s a0 1 0))) from rfl) ?_
  obtain ⟨v1, s1, h1, H⟩ := jb_some H
  refine AT.callV (As := [(0, a1), (0, a2), (0, a3)]) (cl := 11) (b := a0) (st := [(15, a0)]) (i := 446) (pos := 8105) kMd_whyNoFits (by decide +kernel) rfl (by decide +kernel) rfl rfl (by omega) (Md_whyNoFits_ok h1) ?_
  show AT sMd_fits 15 (13, [(15, a0), (0, a1), (0, a2), (0, a3)], [(0, v1), (15, a0)], s1) o
  refine AT.seq [(13, .putfield 75, 3, (5187, 1100, 0)), (16, .aload_n 0, 1, (0, 0, 0)), (17, .getfield 75, 3, (5187, 1100, 0))] (by decide +kernel) (show jrun _ (13, [(15, a0), (0, a1), (0, a2), (0, a3)], [(0, v1), (15, a0)], s1) = some ([], (20, [(15, a0), (0, a1), (0, a2), (0, a3)], [(0, ((jup s1 a0 0 v1) a0 0))], (jup s1 a0 0 v1))) from rfl) ?_
  refine AT.ite (x := (0, 0, 0)) (by decide +kernel) (show jbr (.ifCond .le 7) (20, [(15, a0), (0, a1), (0, a2), (0, a3)], [(0, ((jup s1 a0 0 v1) a0 0))], (jup s1 a0 0 v1)) = some (0 < (w32 ((jup s1 a0 0 v1) a0 0)), (23, [(15, a0), (0, a1), (0, a2), (0, a3)], [], (jup s1 a0 0 v1)), (27, [(15, a0), (0, a1), (0, a2), (0, a3)], [], (jup s1 a0 0 v1))) from rfl) H (fun H => ?_) (fun H => ?_)
  · refine AT.seq [(23, .iconst (-1), 1, (0, 0, 0)), (24, .goto 10, 3, (0, 0, 0))] (by decide +kernel) (show jrun _ (23, [(15, a0), (0, a1), (0, a2), (0, a3)], [], (jup s1 a0 0 v1)) = some ([], (34, [(15, a0), (0, a1), (0, a2), (0, a3)], [(0, (-1))], (jup s1 a0 0 v1))) from rfl) ?_
    exact AT.retiH (by decide +kernel) H
  · refine AT.seq [(27, .aload_n 0, 1, (0, 0, 0)), (28, .iload_n 1, 1, (0, 0, 0)), (29, .iload_n 2, 1, (0, 0, 0)), (30, .iload_n 3, 1, (0, 0, 0))] (by decide +kernel) (show jrun _ (27, [(15, a0), (0, a1), (0, a2), (0, a3)], [], (jup s1 a0 0 v1)) = some ([], (31, [(15, a0), (0, a1), (0, a2), (0, a3)], [(0, a3), (0, a2), (0, a1), (15, a0)], (jup s1 a0 0 v1))) from rfl) ?_
    obtain ⟨v2, s2, h2, H⟩ := jb_some H
    refine AT.callV (As := [(0, a1), (0, a2), (0, a3)]) (cl := 11) (b := a0) (st := []) (i := 449) (pos := 8114) kMd_laysFits (by decide +kernel) rfl (by decide +kernel) rfl rfl (by omega) (Md_laysFits_ok h2) ?_
    show AT sMd_fits 15 (34, [(15, a0), (0, a1), (0, a2), (0, a3)], [(0, v2)], s2) o
    exact AT.retiH (by decide +kernel) H
def sMd_fitsBy : jS := (⟨"JellyCathedralModel", "fitsBy", "(IIII)I"⟩, prog_13_method_130_code, 7, 1, [15, 0, 0, 0, 0], 0)
theorem kMd_fitsBy : jmk sMd_fitsBy = true := jmk_of 8121 1012 8119 8120 (by decide +kernel)
set_option maxRecDepth 100000 in
theorem Md_fitsBy_56_ok {o : Int × jM} : ∀ (n : Nat) (x0 x4 x5 x6 : Int) (s : jM), Md_fitsBy_56  n x0 x4 x5 x6 s = some o → AT sMd_fitsBy 15 (56, [(15, x0), (99, 0), (99, 0), (99, 0), (0, x4), (0, x5), (0, x6)], [], s) o := by
  intro n
  induction n with
  | zero =>
    intro x0 x4 x5 x6 s H
    have H : (none : Option (Int × jM)) = some o := H
    cases H
  | succ n ih =>
    intro x0 x4 x5 x6 s H
    rw [Md_fitsBy_56] at H
    refine AT.seq [(56, .iload 6, 2, (0, 0, 0)), (58, .bipush 82, 2, (0, 0, 0))] (by decide +kernel) (show jrun _ (56, [(15, x0), (99, 0), (99, 0), (99, 0), (0, x4), (0, x5), (0, x6)], [], s) = some ([], (60, [(15, x0), (99, 0), (99, 0), (99, 0), (0, x4), (0, x5), (0, x6)], [(0, 82), (0, x6)], s)) from rfl) ?_
    refine AT.ite (x := (0, 0, 0)) (by decide +kernel) (show jbr (.if_icmp .ge 34) (60, [(15, x0), (99, 0), (99, 0), (99, 0), (0, x4), (0, x5), (0, x6)], [(0, 82), (0, x6)], s) = some ((w32 x6) < 82, (63, [(15, x0), (99, 0), (99, 0), (99, 0), (0, x4), (0, x5), (0, x6)], [], s), (94, [(15, x0), (99, 0), (99, 0), (99, 0), (0, x4), (0, x5), (0, x6)], [], s)) from rfl) H (fun H => ?_) (fun H => ?_)
    · refine AT.blk (g := (0 ≤ (w32 x6) ∧ (w32 x6) < 82)) [(63, .aload_n 0, 1, (0, 0, 0)), (64, .getfield 56, 3, (5217, 1130, 0)), (67, .iload 6, 2, (0, 0, 0)), (69, .iaload, 1, (0, 0, 0))] (by decide +kernel) (show jrun _ (63, [(15, x0), (99, 0), (99, 0), (99, 0), (0, x4), (0, x5), (0, x6)], [], s) = some ([(0 ≤ (w32 x6) ∧ (w32 x6) < 82)], (70, [(15, x0), (99, 0), (99, 0), (99, 0), (0, x4), (0, x5), (0, x6)], [(0, (s (x0 + 12) (w32 x6)))], s)) from rfl) (fun h => h) H (fun H => ?_)
      refine AT.ite (x := (0, 0, 0)) (by decide +kernel) (show jbr (.ifCond .le 18) (70, [(15, x0), (99, 0), (99, 0), (99, 0), (0, x4), (0, x5), (0, x6)], [(0, (s (x0 + 12) (w32 x6)))], s) = some (0 < (w32 (s (x0 + 12) (w32 x6))), (73, [(15, x0), (99, 0), (99, 0), (99, 0), (0, x4), (0, x5), (0, x6)], [], s), (88, [(15, x0), (99, 0), (99, 0), (99, 0), (0, x4), (0, x5), (0, x6)], [], s)) from rfl) H (fun H => ?_) (fun H => ?_)
      · refine AT.seq [(73, .iload 5, 2, (0, 0, 0))] (by decide +kernel) (show jrun _ (73, [(15, x0), (99, 0), (99, 0), (99, 0), (0, x4), (0, x5), (0, x6)], [], s) = some ([], (75, [(15, x0), (99, 0), (99, 0), (99, 0), (0, x4), (0, x5), (0, x6)], [(0, x5)], s)) from rfl) ?_
        refine AT.ite (x := (0, 0, 0)) (by decide +kernel) (show jbr (.ifCond .lt 9) (75, [(15, x0), (99, 0), (99, 0), (99, 0), (0, x4), (0, x5), (0, x6)], [(0, x5)], s) = some ((w32 x5) < 0, (84, [(15, x0), (99, 0), (99, 0), (99, 0), (0, x4), (0, x5), (0, x6)], [], s), (78, [(15, x0), (99, 0), (99, 0), (99, 0), (0, x4), (0, x5), (0, x6)], [], s)) from rfl) H (fun H => ?_) (fun H => ?_)
        · refine AT.seq [(84, .iload 6, 2, (0, 0, 0)), (86, .istore 5, 2, (0, 0, 0)), (88, .iinc 6 1, 3, (0, 0, 0)), (91, .goto (-35), 3, (0, 0, 0))] (by decide +kernel) (show jrun _ (84, [(15, x0), (99, 0), (99, 0), (99, 0), (0, x4), (0, x5), (0, x6)], [], s) = some ([], (56, [(15, x0), (99, 0), (99, 0), (99, 0), (0, x4), (0, x6), (0, (x6 + 1))], [], s)) from rfl) ?_
          exact ih _ _ _ _ _ H
        · refine AT.seq [(78, .iload 4, 2, (0, 0, 0)), (80, .iconst 1, 1, (0, 0, 0))] (by decide +kernel) (show jrun _ (78, [(15, x0), (99, 0), (99, 0), (99, 0), (0, x4), (0, x5), (0, x6)], [], s) = some ([], (81, [(15, x0), (99, 0), (99, 0), (99, 0), (0, x4), (0, x5), (0, x6)], [(0, 1), (0, x4)], s)) from rfl) ?_
          refine AT.ite (x := (0, 0, 0)) (by decide +kernel) (show jbr (.if_icmp .ne 7) (81, [(15, x0), (99, 0), (99, 0), (99, 0), (0, x4), (0, x5), (0, x6)], [(0, 1), (0, x4)], s) = some ((w32 x4) = 1, (84, [(15, x0), (99, 0), (99, 0), (99, 0), (0, x4), (0, x5), (0, x6)], [], s), (88, [(15, x0), (99, 0), (99, 0), (99, 0), (0, x4), (0, x5), (0, x6)], [], s)) from rfl) H (fun H => ?_) (fun H => ?_)
          · refine AT.seq [(84, .iload 6, 2, (0, 0, 0)), (86, .istore 5, 2, (0, 0, 0)), (88, .iinc 6 1, 3, (0, 0, 0)), (91, .goto (-35), 3, (0, 0, 0))] (by decide +kernel) (show jrun _ (84, [(15, x0), (99, 0), (99, 0), (99, 0), (0, x4), (0, x5), (0, x6)], [], s) = some ([], (56, [(15, x0), (99, 0), (99, 0), (99, 0), (0, x4), (0, x6), (0, (x6 + 1))], [], s)) from rfl) ?_
            exact ih _ _ _ _ _ H
          · refine AT.seq [(88, .iinc 6 1, 3, (0, 0, 0)), (91, .goto (-35), 3, (0, 0, 0))] (by decide +kernel) (show jrun _ (88, [(15, x0), (99, 0), (99, 0), (99, 0), (0, x4), (0, x5), (0, x6)], [], s) = some ([], (56, [(15, x0), (99, 0), (99, 0), (99, 0), (0, x4), (0, x5), (0, (x6 + 1))], [], s)) from rfl) ?_
            exact ih _ _ _ _ _ H
      · refine AT.seq [(88, .iinc 6 1, 3, (0, 0, 0)), (91, .goto (-35), 3, (0, 0, 0))] (by decide +kernel) (show jrun _ (88, [(15, x0), (99, 0), (99, 0), (99, 0), (0, x4), (0, x5), (0, x6)], [], s) = some ([], (56, [(15, x0), (99, 0), (99, 0), (99, 0), (0, x4), (0, x5), (0, (x6 + 1))], [], s)) from rfl) ?_
        exact ih _ _ _ _ _ H
    · refine AT.seq [(94, .iload 5, 2, (0, 0, 0))] (by decide +kernel) (show jrun _ (94, [(15, x0), (99, 0), (99, 0), (99, 0), (0, x4), (0, x5), (0, x6)], [], s) = some ([], (96, [(15, x0), (99, 0), (99, 0), (99, 0), (0, x4), (0, x5), (0, x6)], [(0, x5)], s)) from rfl) ?_
      refine AT.ite (x := (0, 0, 0)) (by decide +kernel) (show jbr (.ifCond .ge 12) (96, [(15, x0), (99, 0), (99, 0), (99, 0), (0, x4), (0, x5), (0, x6)], [(0, x5)], s) = some ((w32 x5) < 0, (99, [(15, x0), (99, 0), (99, 0), (99, 0), (0, x4), (0, x5), (0, x6)], [], s), (108, [(15, x0), (99, 0), (99, 0), (99, 0), (0, x4), (0, x5), (0, x6)], [], s)) from rfl) H (fun H => ?_) (fun H => ?_)
      · refine AT.seq [(99, .aload_n 0, 1, (0, 0, 0)), (100, .bipush 8, 2, (0, 0, 0))] (by decide +kernel) (show jrun _ (99, [(15, x0), (99, 0), (99, 0), (99, 0), (0, x4), (0, x5), (0, x6)], [], s) = some ([], (102, [(15, x0), (99, 0), (99, 0), (99, 0), (0, x4), (0, x5), (0, x6)], [(0, 8), (15, x0)], s)) from rfl) ?_
        obtain ⟨v1, s1, h1, H⟩ := jb_some H
        refine AT.callV (As := [(0, 8)]) (cl := 11) (b := x0) (st := []) (i := 322) (pos := 7116) kMd_refuse (by decide +kernel) rfl (by decide +kernel) rfl rfl (by omega) (Md_refuse_ok h1) ?_
        show AT sMd_fitsBy 15 (105, [(15, x0), (99, 0), (99, 0), (99, 0), (0, x4), (0, x5), (0, x6)], [(0, v1)], s1) o
        refine AT.seq [(105, .goto 5, 3, (0, 0, 0))] (by decide +kernel) (show jrun _ (105, [(15, x0), (99, 0), (99, 0), (99, 0), (0, x4), (0, x5), (0, x6)], [(0, v1)], s1) = some ([], (110, [(15, x0), (99, 0), (99, 0), (99, 0), (0, x4), (0, x5), (0, x6)], [(0, v1)], s1)) from rfl) ?_
        exact AT.retiH (by decide +kernel) H
      · refine AT.seq [(108, .iload 5, 2, (0, 0, 0))] (by decide +kernel) (show jrun _ (108, [(15, x0), (99, 0), (99, 0), (99, 0), (0, x4), (0, x5), (0, x6)], [], s) = some ([], (110, [(15, x0), (99, 0), (99, 0), (99, 0), (0, x4), (0, x5), (0, x6)], [(0, x5)], s)) from rfl) ?_
        exact AT.retiH (by decide +kernel) H
set_option maxRecDepth 100000 in
theorem Md_fitsBy_ok {a0 a1 a2 a3 a4 : Int} {s : jM} {o : Int × jM} (H : Md_fitsBy a0 a1 a2 a3 a4 s = some o) : MK sMd_fitsBy 15 [(15, a0), (0, a1), (0, a2), (0, a3), (0, a4)] s o := by
  refine MK.of kMd_fitsBy rfl ?_
  show AT sMd_fitsBy 15 (0, [(15, a0), (0, a1), (0, a2), (0, a3), (0, a4), (99, 0), (99, 0)], [], s) o
  unfold Md_fitsBy at H
  refine AT.seq [(0, .aload_n 0, 1, (0, 0, 0)), (1, .iconst 0, 1, (0, 0, 0)), (2, .putfield 72, 3, (5188, 1101, 0)), (5, .aload_n 0, 1, (0, 0, 0)), (6, .aload_n 0, 1, (0, 0, 0)), (7, .iload_n 1, 1, (0, 0, 0)), (8, .iload_n 2, 1, (0, 0, 0)), (9, .iload_n 3, 1, (0, 0, 0))] (by decide +kernel) (show jrun _ (0, [(15, a0), (0, a1), (0, a2), (0, a3), (0, a4), (99, 0), (99, 0)], [], s) = some ([], (10, [(15, a0), (0, a1), (0, a2), (0, a3), (0, a4), (99, 0), (99, 0)], [(0, a3), (0, a2), (0, a1), (15, a0), (15, a0)], (jup s a0 1 0))) from rfl) ?_
  obtain ⟨v2, s2, h2, H⟩ := jb_some H
  refine AT.callV (As := [(0, a1), (0, a2), (0, a3)]) (cl := 11) (b := a0) (st := [(15, a0)]) (i := 446) (pos := 8105) kMd_whyNoFits (by decide +kernel) rfl (by decide +kernel) rfl rfl (by omega) (Md_whyNoFits_ok h2) ?_
  show AT sMd_fitsBy 15 (13, [(15, a0), (0, a1), (0, a2), (0, a3), (0, a4), (99, 0), (99, 0)], [(0, v2), (15, a0)], s2) o
  refine AT.seq [(13, .putfield 75, 3, (5187, 1100, 0)), (16, .aload_n 0, 1, (0, 0, 0)), (17, .getfield 75, 3, (5187, 1100, 0))] (by decide +kernel) (show jrun _ (13, [(15, a0), (0, a1), (0, a2), (0, a3), (0, a4), (99, 0), (99, 0)], [(0, v2), (15, a0)], s2) = some ([], (20, [(15, a0), (0, a1), (0, a2), (0, a3), (0, a4), (99, 0), (99, 0)], [(0, ((jup s2 a0 0 v2) a0 0))], (jup s2 a0 0 v2))) from rfl) ?_
  refine AT.ite (x := (0, 0, 0)) (by decide +kernel) (show jbr (.ifCond .le 5) (20, [(15, a0), (0, a1), (0, a2), (0, a3), (0, a4), (99, 0), (99, 0)], [(0, ((jup s2 a0 0 v2) a0 0))], (jup s2 a0 0 v2)) = some (0 < (w32 ((jup s2 a0 0 v2) a0 0)), (23, [(15, a0), (0, a1), (0, a2), (0, a3), (0, a4), (99, 0), (99, 0)], [], (jup s2 a0 0 v2)), (25, [(15, a0), (0, a1), (0, a2), (0, a3), (0, a4), (99, 0), (99, 0)], [], (jup s2 a0 0 v2))) from rfl) H (fun H => ?_) (fun H => ?_)
  · refine AT.seq [(23, .iconst (-1), 1, (0, 0, 0))] (by decide +kernel) (show jrun _ (23, [(15, a0), (0, a1), (0, a2), (0, a3), (0, a4), (99, 0), (99, 0)], [], (jup s2 a0 0 v2)) = some ([], (24, [(15, a0), (0, a1), (0, a2), (0, a3), (0, a4), (99, 0), (99, 0)], [(0, (-1))], (jup s2 a0 0 v2))) from rfl) ?_
    exact AT.retiH (by decide +kernel) H
  · refine AT.seq [(25, .iload 4, 2, (0, 0, 0)), (27, .i2l, 1, (0, 0, 0)), (28, .lconst 0, 1, (0, 0, 0)), (29, .lconst 1, 1, (0, 0, 0))] (by decide +kernel) (show jrun _ (25, [(15, a0), (0, a1), (0, a2), (0, a3), (0, a4), (99, 0), (99, 0)], [], (jup s2 a0 0 v2)) = some ([], (30, [(15, a0), (0, a1), (0, a2), (0, a3), (0, a4), (99, 0), (99, 0)], [(1, 1), (1, 0), (1, (w32 a4))], (jup s2 a0 0 v2))) from rfl) ?_
    obtain ⟨v3, s3, h3, H⟩ := jb_some H
    refine AT.callS (As := [(1, (w32 a4)), (1, 0), (1, 1)]) (st := []) (i := 107) (pos := 6204) kMd_isIn (by decide +kernel) rfl rfl rfl (by omega) (Md_isIn_ok h3) ?_
    show AT sMd_fitsBy 15 (33, [(15, a0), (0, a1), (0, a2), (0, a3), (0, a4), (99, 0), (99, 0)], [(0, v3)], s3) o
    refine AT.ite (x := (0, 0, 0)) (by decide +kernel) (show jbr (.ifCond .ne 9) (33, [(15, a0), (0, a1), (0, a2), (0, a3), (0, a4), (99, 0), (99, 0)], [(0, v3)], s3) = some ((w32 v3) = 0, (36, [(15, a0), (0, a1), (0, a2), (0, a3), (0, a4), (99, 0), (99, 0)], [], s3), (42, [(15, a0), (0, a1), (0, a2), (0, a3), (0, a4), (99, 0), (99, 0)], [], s3)) from rfl) H (fun H => ?_) (fun H => ?_)
    · refine AT.seq [(36, .aload_n 0, 1, (0, 0, 0)), (37, .iconst 5, 1, (0, 0, 0))] (by decide +kernel) (show jrun _ (36, [(15, a0), (0, a1), (0, a2), (0, a3), (0, a4), (99, 0), (99, 0)], [], s3) = some ([], (38, [(15, a0), (0, a1), (0, a2), (0, a3), (0, a4), (99, 0), (99, 0)], [(0, 5), (15, a0)], s3)) from rfl) ?_
      obtain ⟨v4, s4, h4, H⟩ := jb_some H
      refine AT.callV (As := [(0, 5)]) (cl := 11) (b := a0) (st := []) (i := 322) (pos := 7116) kMd_refuse (by decide +kernel) rfl (by decide +kernel) rfl rfl (by omega) (Md_refuse_ok h4) ?_
      show AT sMd_fitsBy 15 (41, [(15, a0), (0, a1), (0, a2), (0, a3), (0, a4), (99, 0), (99, 0)], [(0, v4)], s4) o
      exact AT.retiH (by decide +kernel) H
    · refine AT.seq [(42, .aload_n 0, 1, (0, 0, 0)), (43, .iload_n 1, 1, (0, 0, 0)), (44, .iload_n 2, 1, (0, 0, 0)), (45, .iload_n 3, 1, (0, 0, 0))] (by decide +kernel) (show jrun _ (42, [(15, a0), (0, a1), (0, a2), (0, a3), (0, a4), (99, 0), (99, 0)], [], s3) = some ([], (46, [(15, a0), (0, a1), (0, a2), (0, a3), (0, a4), (99, 0), (99, 0)], [(0, a3), (0, a2), (0, a1), (15, a0)], s3)) from rfl) ?_
      obtain ⟨v5, s5, h5, H⟩ := jb_some H
      refine AT.callV (As := [(0, a1), (0, a2), (0, a3)]) (cl := 11) (b := a0) (st := []) (i := 449) (pos := 8114) kMd_laysFits (by decide +kernel) rfl (by decide +kernel) rfl rfl (by omega) (Md_laysFits_ok h5) ?_
      show AT sMd_fitsBy 15 (49, [(15, a0), (0, a1), (0, a2), (0, a3), (0, a4), (99, 0), (99, 0)], [(0, v5)], s5) o
      refine AT.seq [(49, .pop, 1, (0, 0, 0)), (50, .iconst (-1), 1, (0, 0, 0)), (51, .istore 5, 2, (0, 0, 0)), (53, .iconst 0, 1, (0, 0, 0)), (54, .istore 6, 2, (0, 0, 0))] (by decide +kernel) (show jrun _ (49, [(15, a0), (0, a1), (0, a2), (0, a3), (0, a4), (99, 0), (99, 0)], [(0, v5)], s5) = some ([], (56, [(15, a0), (0, a1), (0, a2), (0, a3), (0, a4), (0, (-1)), (0, 0)], [], s5)) from rfl) ?_
      exact AT.weak (L' := [(15, a0), (99, 0), (99, 0), (99, 0), (0, a4), (0, (-1)), (0, 0)]) (jleK (jleJ (jleJ (jleJ (jleK (jleK (jleK jle0))))))) (Md_fitsBy_56_ok  jFU _ _ _ _ _ H)
def sMd_mostAlike : jS := (⟨"JellyCathedralModel", "mostAlike", "(II)I"⟩, prog_13_method_131_code, 6, 1, [15, 0, 0], 0)
theorem kMd_mostAlike : jmk sMd_mostAlike = true := jmk_of 8129 1012 8128 121 (by decide +kernel)
set_option maxRecDepth 100000 in
theorem Md_mostAlike_29_ok {o : Int × jM} : ∀ (n : Nat) (x0 x1 x2 x3 x4 : Int) (s : jM), Md_mostAlike_29  n x0 x1 x2 x3 x4 s = some o → AT sMd_mostAlike 1 (29, [(15, x0), (0, x1), (0, x2), (0, x3), (0, x4), (99, 0)], [], s) o := by
  intro n
  induction n with
  | zero =>
    intro x0 x1 x2 x3 x4 s H
    have H : (none : Option (Int × jM)) = some o := H
    cases H
  | succ n ih =>
    intro x0 x1 x2 x3 x4 s H
    rw [Md_mostAlike_29] at H
    refine AT.seq [(29, .iload 4, 2, (0, 0, 0)), (31, .bipush 82, 2, (0, 0, 0))] (by decide +kernel) (show jrun _ (29, [(15, x0), (0, x1), (0, x2), (0, x3), (0, x4), (99, 0)], [], s) = some ([], (33, [(15, x0), (0, x1), (0, x2), (0, x3), (0, x4), (99, 0)], [(0, 82), (0, x4)], s)) from rfl) ?_
    refine AT.ite (x := (0, 0, 0)) (by decide +kernel) (show jbr (.if_icmp .ge 55) (33, [(15, x0), (0, x1), (0, x2), (0, x3), (0, x4), (99, 0)], [(0, 82), (0, x4)], s) = some ((w32 x4) < 82, (36, [(15, x0), (0, x1), (0, x2), (0, x3), (0, x4), (99, 0)], [], s), (88, [(15, x0), (0, x1), (0, x2), (0, x3), (0, x4), (99, 0)], [], s)) from rfl) H (fun H => ?_) (fun H => ?_)
    · refine AT.blk (g := (0 ≤ (w32 (54 + x1)) ∧ (w32 (54 + x1)) < 1905)) [(36, .iload 4, 2, (0, 0, 0)), (38, .aload_n 0, 1, (0, 0, 0)), (39, .getfield 35, 3, (5207, 1120, 0)), (42, .bipush 54, 2, (0, 0, 0)), (44, .iload_n 1, 1, (0, 0, 0)), (45, .iadd, 1, (0, 0, 0)), (46, .iaload, 1, (0, 0, 0)), (47, .iload_n 2, 1, (0, 0, 0))] (by decide +kernel) (show jrun _ (36, [(15, x0), (0, x1), (0, x2), (0, x3), (0, x4), (99, 0)], [], s) = some ([(0 ≤ (w32 (54 + x1)) ∧ (w32 (54 + x1)) < 1905)], (48, [(15, x0), (0, x1), (0, x2), (0, x3), (0, x4), (99, 0)], [(0, x2), (0, (s (x0 + 5) (w32 (54 + x1)))), (0, x4)], s)) from rfl) (fun h => h) H (fun H => ?_)
      obtain ⟨v1, s1, h1, H⟩ := jb_some H
      refine AT.callS (As := [(0, x4), (0, (s (x0 + 5) (w32 (54 + x1)))), (0, x2)]) (st := []) (i := 411) (pos := 8045) kMd_lastsOf (by decide +kernel) rfl rfl rfl (by omega) (Md_lastsOf_ok h1) ?_
      show AT sMd_mostAlike 1 (51, [(15, x0), (0, x1), (0, x2), (0, x3), (0, x4), (99, 0)], [(0, v1)], s1) o
      refine AT.blk (g := (0 ≤ (w32 v1) ∧ (w32 v1) < 100) ∧ (0 ≤ (w32 x4) ∧ (w32 x4) < 82) ∧ (0 ≤ (w32 v1) ∧ (w32 v1) < 100) ∧ (0 ≤ (w32 v1) ∧ (w32 v1) < 100)) [(51, .istore 5, 2, (0, 0, 0)), (53, .aload_n 0, 1, (0, 0, 0)), (54, .getfield 59, 3, (5220, 1133, 0)), (57, .iload 5, 2, (0, 0, 0)), (59, .dup2, 1, (0, 0, 0)), (60, .iaload, 1, (0, 0, 0)), (61, .aload_n 0, 1, (0, 0, 0)), (62, .getfield 56, 3, (5217, 1130, 0)), (65, .iload 4, 2, (0, 0, 0)), (67, .iaload, 1, (0, 0, 0)), (68, .iadd, 1, (0, 0, 0)), (69, .iastore, 1, (0, 0, 0)), (70, .iload_n 3, 1, (0, 0, 0)), (71, .aload_n 0, 1, (0, 0, 0)), (72, .getfield 59, 3, (5220, 1133, 0)), (75, .iload 5, 2, (0, 0, 0)), (77, .iaload, 1, (0, 0, 0)), (78, .invokestatic 247, 3, (7078, 1, 0)), (81, .istore_n 3, 1, (0, 0, 0)), (82, .iinc 4 1, 3, (0, 0, 0)), (85, .goto (-56), 3, (0, 0, 0))] (by decide +kernel) (show jrun _ (51, [(15, x0), (0, x1), (0, x2), (0, x3), (0, x4), (99, 0)], [(0, v1)], s1) = some ([(0 ≤ (w32 v1) ∧ (w32 v1) < 100), (0 ≤ (w32 x4) ∧ (w32 x4) < 82), (0 ≤ (w32 v1) ∧ (w32 v1) < 100), (0 ≤ (w32 v1) ∧ (w32 v1) < 100)], (29, [(15, x0), (0, x1), (0, x2), (0, (jmax x3 ((jup s1 (x0 + 13) (w32 v1) ((s1 (x0 + 13) (w32 v1)) + (s1 (x0 + 12) (w32 x4)))) (x0 + 13) (w32 v1)))), (0, (x4 + 1)), (0, v1)], [], (jup s1 (x0 + 13) (w32 v1) ((s1 (x0 + 13) (w32 v1)) + (s1 (x0 + 12) (w32 x4)))))) from rfl) (fun h => ⟨h.1, h.2.1, h.2.2.1, h.2.2.2⟩) H (fun H => ?_)
      exact AT.weak (L' := [(15, x0), (0, x1), (0, x2), (0, (jmax x3 ((jup s1 (x0 + 13) (w32 v1) ((s1 (x0 + 13) (w32 v1)) + (s1 (x0 + 12) (w32 x4)))) (x0 + 13) (w32 v1)))), (0, (x4 + 1)), (99, 0)]) (jleK (jleK (jleK (jleK (jleK (jleJ jle0)))))) (ih _ _ _ _ _ _ H)
    · refine AT.seq [(88, .iload_n 3, 1, (0, 0, 0))] (by decide +kernel) (show jrun _ (88, [(15, x0), (0, x1), (0, x2), (0, x3), (0, x4), (99, 0)], [], s) = some ([], (89, [(15, x0), (0, x1), (0, x2), (0, x3), (0, x4), (99, 0)], [(0, x3)], s)) from rfl) ?_
      exact AT.retiH (by decide +kernel) H
set_option maxRecDepth 100000 in
theorem Md_mostAlike_5_ok {o : Int × jM} : ∀ (n : Nat) (x0 x1 x2 x3 x4 : Int) (s : jM), Md_mostAlike_5  n x0 x1 x2 x3 x4 s = some o → AT sMd_mostAlike 1 (5, [(15, x0), (0, x1), (0, x2), (0, x3), (0, x4), (99, 0)], [], s) o := by
  intro n
  induction n with
  | zero =>
    intro x0 x1 x2 x3 x4 s H
    have H : (none : Option (Int × jM)) = some o := H
    cases H
  | succ n ih =>
    intro x0 x1 x2 x3 x4 s H
    rw [Md_mostAlike_5] at H
    refine AT.seq [(5, .iload 4, 2, (0, 0, 0)), (7, .bipush 100, 2, (0, 0, 0))] (by decide +kernel) (show jrun _ (5, [(15, x0), (0, x1), (0, x2), (0, x3), (0, x4), (99, 0)], [], s) = some ([], (9, [(15, x0), (0, x1), (0, x2), (0, x3), (0, x4), (99, 0)], [(0, 100), (0, x4)], s)) from rfl) ?_
    refine AT.ite (x := (0, 0, 0)) (by decide +kernel) (show jbr (.if_icmp .ge 17) (9, [(15, x0), (0, x1), (0, x2), (0, x3), (0, x4), (99, 0)], [(0, 100), (0, x4)], s) = some ((w32 x4) < 100, (12, [(15, x0), (0, x1), (0, x2), (0, x3), (0, x4), (99, 0)], [], s), (26, [(15, x0), (0, x1), (0, x2), (0, x3), (0, x4), (99, 0)], [], s)) from rfl) H (fun H => ?_) (fun H => ?_)
    · refine AT.blk (g := (0 ≤ (w32 x4) ∧ (w32 x4) < 100)) [(12, .aload_n 0, 1, (0, 0, 0)), (13, .getfield 59, 3, (5220, 1133, 0)), (16, .iload 4, 2, (0, 0, 0)), (18, .iconst 0, 1, (0, 0, 0)), (19, .iastore, 1, (0, 0, 0)), (20, .iinc 4 1, 3, (0, 0, 0)), (23, .goto (-18), 3, (0, 0, 0))] (by decide +kernel) (show jrun _ (12, [(15, x0), (0, x1), (0, x2), (0, x3), (0, x4), (99, 0)], [], s) = some ([(0 ≤ (w32 x4) ∧ (w32 x4) < 100)], (5, [(15, x0), (0, x1), (0, x2), (0, x3), (0, (x4 + 1)), (99, 0)], [], (jup s (x0 + 13) (w32 x4) 0))) from rfl) (fun h => h) H (fun H => ?_)
      exact ih _ _ _ _ _ _ H
    · refine AT.seq [(26, .iconst 0, 1, (0, 0, 0)), (27, .istore 4, 2, (0, 0, 0))] (by decide +kernel) (show jrun _ (26, [(15, x0), (0, x1), (0, x2), (0, x3), (0, x4), (99, 0)], [], s) = some ([], (29, [(15, x0), (0, x1), (0, x2), (0, x3), (0, 0), (99, 0)], [], s)) from rfl) ?_
      exact Md_mostAlike_29_ok  jFU _ _ _ _ _ _ H
set_option maxRecDepth 100000 in
theorem Md_mostAlike_ok {a0 a1 a2 : Int} {s : jM} {o : Int × jM} (H : Md_mostAlike a0 a1 a2 s = some o) : MK sMd_mostAlike 1 [(15, a0), (0, a1), (0, a2)] s o := by
  refine MK.of kMd_mostAlike rfl ?_
  show AT sMd_mostAlike 1 (0, [(15, a0), (0, a1), (0, a2), (99, 0), (99, 0), (99, 0)], [], s) o
  unfold Md_mostAlike at H
  refine AT.seq [(0, .iconst 0, 1, (0, 0, 0)), (1, .istore_n 3, 1, (0, 0, 0)), (2, .iconst 0, 1, (0, 0, 0)), (3, .istore 4, 2, (0, 0, 0))] (by decide +kernel) (show jrun _ (0, [(15, a0), (0, a1), (0, a2), (99, 0), (99, 0), (99, 0)], [], s) = some ([], (5, [(15, a0), (0, a1), (0, a2), (0, 0), (0, 0), (99, 0)], [], s)) from rfl) ?_
  exact Md_mostAlike_5_ok  jFU _ _ _ _ _ _ H
def sMd_ask : jS := (⟨"JellyCathedralModel", "ask", "(III)I"⟩, prog_13_method_132_code, 6, 1, [15, 0, 0, 0], 0)
theorem kMd_ask : jmk sMd_ask = true := jmk_of 8125 1012 8123 8124 (by decide +kernel)
set_option maxRecDepth 100000 in
theorem Md_ask_49_ok {o : Int × jM} : ∀ (n : Nat) (x0 x1 x4 x5 : Int) (s : jM), Md_ask_49  n x0 x1 x4 x5 s = some o → AT sMd_ask 15 (49, [(15, x0), (0, x1), (99, 0), (99, 0), (0, x4), (0, x5)], [], s) o := by
  intro n
  induction n with
  | zero =>
    intro x0 x1 x4 x5 s H
    have H : (none : Option (Int × jM)) = some o := H
    cases H
  | succ n ih =>
    intro x0 x1 x4 x5 s H
    rw [Md_ask_49] at H
    refine AT.seq [(49, .iload 5, 2, (0, 0, 0)), (51, .bipush 9, 2, (0, 0, 0))] (by decide +kernel) (show jrun _ (49, [(15, x0), (0, x1), (99, 0), (99, 0), (0, x4), (0, x5)], [], s) = some ([], (53, [(15, x0), (0, x1), (99, 0), (99, 0), (0, x4), (0, x5)], [(0, 9), (0, x5)], s)) from rfl) ?_
    refine AT.ite (x := (0, 0, 0)) (by decide +kernel) (show jbr (.if_icmp .gt 30) (53, [(15, x0), (0, x1), (99, 0), (99, 0), (0, x4), (0, x5)], [(0, 9), (0, x5)], s) = some (9 < (w32 x5), (83, [(15, x0), (0, x1), (99, 0), (99, 0), (0, x4), (0, x5)], [], s), (56, [(15, x0), (0, x1), (99, 0), (99, 0), (0, x4), (0, x5)], [], s)) from rfl) H (fun H => ?_) (fun H => ?_)
    · refine AT.seq [(83, .iload 4, 2, (0, 0, 0))] (by decide +kernel) (show jrun _ (83, [(15, x0), (0, x1), (99, 0), (99, 0), (0, x4), (0, x5)], [], s) = some ([], (85, [(15, x0), (0, x1), (99, 0), (99, 0), (0, x4), (0, x5)], [(0, x4)], s)) from rfl) ?_
      exact AT.retiH (by decide +kernel) H
    · refine AT.seq [(56, .aload_n 0, 1, (0, 0, 0)), (57, .iload_n 1, 1, (0, 0, 0)), (58, .iload 5, 2, (0, 0, 0))] (by decide +kernel) (show jrun _ (56, [(15, x0), (0, x1), (99, 0), (99, 0), (0, x4), (0, x5)], [], s) = some ([], (60, [(15, x0), (0, x1), (99, 0), (99, 0), (0, x4), (0, x5)], [(0, x5), (0, x1), (15, x0)], s)) from rfl) ?_
      obtain ⟨v1, s1, h1, H⟩ := jb_some H
      refine AT.callV (As := [(0, x1), (0, x5)]) (cl := 11) (b := x0) (st := []) (i := 452) (pos := 8126) kMd_mostAlike (by decide +kernel) rfl (by decide +kernel) rfl rfl (by omega) (Md_mostAlike_ok h1) ?_
      show AT sMd_ask 15 (63, [(15, x0), (0, x1), (99, 0), (99, 0), (0, x4), (0, x5)], [(0, v1)], s1) o
      refine AT.seq [(63, .aload_n 0, 1, (0, 0, 0)), (64, .iload_n 1, 1, (0, 0, 0)), (65, .iload 4, 2, (0, 0, 0))] (by decide +kernel) (show jrun _ (63, [(15, x0), (0, x1), (99, 0), (99, 0), (0, x4), (0, x5)], [(0, v1)], s1) = some ([], (67, [(15, x0), (0, x1), (99, 0), (99, 0), (0, x4), (0, x5)], [(0, x4), (0, x1), (15, x0), (0, v1)], s1)) from rfl) ?_
      obtain ⟨v2, s2, h2, H⟩ := jb_some H
      refine AT.callV (As := [(0, x1), (0, x4)]) (cl := 11) (b := x0) (st := [(0, v1)]) (i := 452) (pos := 8126) kMd_mostAlike (by decide +kernel) rfl (by decide +kernel) rfl rfl (by omega) (Md_mostAlike_ok h2) ?_
      show AT sMd_ask 15 (70, [(15, x0), (0, x1), (99, 0), (99, 0), (0, x4), (0, x5)], [(0, v2), (0, v1)], s2) o
      refine AT.ite (x := (0, 0, 0)) (by decide +kernel) (show jbr (.if_icmp .ge 7) (70, [(15, x0), (0, x1), (99, 0), (99, 0), (0, x4), (0, x5)], [(0, v2), (0, v1)], s2) = some ((w32 v1) < (w32 v2), (73, [(15, x0), (0, x1), (99, 0), (99, 0), (0, x4), (0, x5)], [], s2), (77, [(15, x0), (0, x1), (99, 0), (99, 0), (0, x4), (0, x5)], [], s2)) from rfl) H (fun H => ?_) (fun H => ?_)
      · refine AT.seq [(73, .iload 5, 2, (0, 0, 0)), (75, .istore 4, 2, (0, 0, 0)), (77, .iinc 5 1, 3, (0, 0, 0)), (80, .goto (-31), 3, (0, 0, 0))] (by decide +kernel) (show jrun _ (73, [(15, x0), (0, x1), (99, 0), (99, 0), (0, x4), (0, x5)], [], s2) = some ([], (49, [(15, x0), (0, x1), (99, 0), (99, 0), (0, x5), (0, (x5 + 1))], [], s2)) from rfl) ?_
        exact ih _ _ _ _ _ H
      · refine AT.seq [(77, .iinc 5 1, 3, (0, 0, 0)), (80, .goto (-31), 3, (0, 0, 0))] (by decide +kernel) (show jrun _ (77, [(15, x0), (0, x1), (99, 0), (99, 0), (0, x4), (0, x5)], [], s2) = some ([], (49, [(15, x0), (0, x1), (99, 0), (99, 0), (0, x4), (0, (x5 + 1))], [], s2)) from rfl) ?_
        exact ih _ _ _ _ _ H
set_option maxRecDepth 100000 in
theorem Md_ask_ok {a0 a1 a2 a3 : Int} {s : jM} {o : Int × jM} (H : Md_ask a0 a1 a2 a3 s = some o) : MK sMd_ask 15 [(15, a0), (0, a1), (0, a2), (0, a3)] s o := by
  refine MK.of kMd_ask rfl ?_
  show AT sMd_ask 15 (0, [(15, a0), (0, a1), (0, a2), (0, a3), (99, 0), (99, 0)], [], s) o
  unfold Md_ask at H
  refine AT.seq [(0, .aload_n 0, 1, (0, 0, 0)), (1, .iconst 0, 1, (0, 0, 0)), (2, .putfield 72, 3, (5188, 1101, 0)), (5, .aload_n 0, 1, (0, 0, 0)), (6, .aload_n 0, 1, (0, 0, 0)), (7, .iload_n 1, 1, (0, 0, 0)), (8, .iload_n 2, 1, (0, 0, 0)), (9, .iload_n 3, 1, (0, 0, 0))] (by decide +kernel) (show jrun _ (0, [(15, a0), (0, a1), (0, a2), (0, a3), (99, 0), (99, 0)], [], s) = some ([], (10, [(15, a0), (0, a1), (0, a2), (0, a3), (99, 0), (99, 0)], [(0, a3), (0, a2), (0, a1), (15, a0), (15, a0)], (jup s a0 1 0))) from rfl) ?_
  obtain ⟨v3, s3, h3, H⟩ := jb_some H
  refine AT.callV (As := [(0, a1), (0, a2), (0, a3)]) (cl := 11) (b := a0) (st := [(15, a0)]) (i := 446) (pos := 8105) kMd_whyNoFits (by decide +kernel) rfl (by decide +kernel) rfl rfl (by omega) (Md_whyNoFits_ok h3) ?_
  show AT sMd_ask 15 (13, [(15, a0), (0, a1), (0, a2), (0, a3), (99, 0), (99, 0)], [(0, v3), (15, a0)], s3) o
  refine AT.seq [(13, .putfield 75, 3, (5187, 1100, 0)), (16, .aload_n 0, 1, (0, 0, 0)), (17, .getfield 75, 3, (5187, 1100, 0))] (by decide +kernel) (show jrun _ (13, [(15, a0), (0, a1), (0, a2), (0, a3), (99, 0), (99, 0)], [(0, v3), (15, a0)], s3) = some ([], (20, [(15, a0), (0, a1), (0, a2), (0, a3), (99, 0), (99, 0)], [(0, ((jup s3 a0 0 v3) a0 0))], (jup s3 a0 0 v3))) from rfl) ?_
  refine AT.ite (x := (0, 0, 0)) (by decide +kernel) (show jbr (.ifCond .le 5) (20, [(15, a0), (0, a1), (0, a2), (0, a3), (99, 0), (99, 0)], [(0, ((jup s3 a0 0 v3) a0 0))], (jup s3 a0 0 v3)) = some (0 < (w32 ((jup s3 a0 0 v3) a0 0)), (23, [(15, a0), (0, a1), (0, a2), (0, a3), (99, 0), (99, 0)], [], (jup s3 a0 0 v3)), (25, [(15, a0), (0, a1), (0, a2), (0, a3), (99, 0), (99, 0)], [], (jup s3 a0 0 v3))) from rfl) H (fun H => ?_) (fun H => ?_)
  · refine AT.seq [(23, .iconst (-1), 1, (0, 0, 0))] (by decide +kernel) (show jrun _ (23, [(15, a0), (0, a1), (0, a2), (0, a3), (99, 0), (99, 0)], [], (jup s3 a0 0 v3)) = some ([], (24, [(15, a0), (0, a1), (0, a2), (0, a3), (99, 0), (99, 0)], [(0, (-1))], (jup s3 a0 0 v3))) from rfl) ?_
    exact AT.retiH (by decide +kernel) H
  · refine AT.seq [(25, .aload_n 0, 1, (0, 0, 0)), (26, .iload_n 1, 1, (0, 0, 0)), (27, .iload_n 2, 1, (0, 0, 0)), (28, .iload_n 3, 1, (0, 0, 0))] (by decide +kernel) (show jrun _ (25, [(15, a0), (0, a1), (0, a2), (0, a3), (99, 0), (99, 0)], [], (jup s3 a0 0 v3)) = some ([], (29, [(15, a0), (0, a1), (0, a2), (0, a3), (99, 0), (99, 0)], [(0, a3), (0, a2), (0, a1), (15, a0)], (jup s3 a0 0 v3))) from rfl) ?_
    obtain ⟨v4, s4, h4, H⟩ := jb_some H
    refine AT.callV (As := [(0, a1), (0, a2), (0, a3)]) (cl := 11) (b := a0) (st := []) (i := 449) (pos := 8114) kMd_laysFits (by decide +kernel) rfl (by decide +kernel) rfl rfl (by omega) (Md_laysFits_ok h4) ?_
    show AT sMd_ask 15 (32, [(15, a0), (0, a1), (0, a2), (0, a3), (99, 0), (99, 0)], [(0, v4)], s4) o
    refine AT.seq [(32, .iconst 2, 1, (0, 0, 0))] (by decide +kernel) (show jrun _ (32, [(15, a0), (0, a1), (0, a2), (0, a3), (99, 0), (99, 0)], [(0, v4)], s4) = some ([], (33, [(15, a0), (0, a1), (0, a2), (0, a3), (99, 0), (99, 0)], [(0, 2), (0, v4)], s4)) from rfl) ?_
    refine AT.ite (x := (0, 0, 0)) (by decide +kernel) (show jbr (.if_icmp .ge 10) (33, [(15, a0), (0, a1), (0, a2), (0, a3), (99, 0), (99, 0)], [(0, 2), (0, v4)], s4) = some ((w32 v4) < 2, (36, [(15, a0), (0, a1), (0, a2), (0, a3), (99, 0), (99, 0)], [], s4), (43, [(15, a0), (0, a1), (0, a2), (0, a3), (99, 0), (99, 0)], [], s4)) from rfl) H (fun H => ?_) (fun H => ?_)
    · refine AT.seq [(36, .aload_n 0, 1, (0, 0, 0)), (37, .bipush 8, 2, (0, 0, 0))] (by decide +kernel) (show jrun _ (36, [(15, a0), (0, a1), (0, a2), (0, a3), (99, 0), (99, 0)], [], s4) = some ([], (39, [(15, a0), (0, a1), (0, a2), (0, a3), (99, 0), (99, 0)], [(0, 8), (15, a0)], s4)) from rfl) ?_
      obtain ⟨v5, s5, h5, H⟩ := jb_some H
      refine AT.callV (As := [(0, 8)]) (cl := 11) (b := a0) (st := []) (i := 322) (pos := 7116) kMd_refuse (by decide +kernel) rfl (by decide +kernel) rfl rfl (by omega) (Md_refuse_ok h5) ?_
      show AT sMd_ask 15 (42, [(15, a0), (0, a1), (0, a2), (0, a3), (99, 0), (99, 0)], [(0, v5)], s5) o
      exact AT.retiH (by decide +kernel) H
    · refine AT.seq [(43, .iconst 1, 1, (0, 0, 0)), (44, .istore 4, 2, (0, 0, 0)), (46, .iconst 2, 1, (0, 0, 0)), (47, .istore 5, 2, (0, 0, 0))] (by decide +kernel) (show jrun _ (43, [(15, a0), (0, a1), (0, a2), (0, a3), (99, 0), (99, 0)], [], s4) = some ([], (49, [(15, a0), (0, a1), (0, a2), (0, a3), (0, 1), (0, 2)], [], s4)) from rfl) ?_
      exact AT.weak (L' := [(15, a0), (0, a1), (99, 0), (99, 0), (0, 1), (0, 2)]) (jleK (jleK (jleJ (jleJ (jleK (jleK jle0)))))) (Md_ask_49_ok  jFU _ _ _ _ _ H)
def sMd_moves : jS := (⟨"JellyCathedralModel", "moves", "(III)V"⟩, prog_13_method_134_code, 4, 0, [15, 0, 0, 0], 0)
theorem kMd_moves : jmk sMd_moves = true := jmk_of 8146 1012 8145 124 (by decide +kernel)
set_option maxRecDepth 100000 in
theorem Md_moves_ok {a0 a1 a2 a3 : Int} {s : jM} {o : Int × jM} (H : Md_moves a0 a1 a2 a3 s = some o) : MK sMd_moves 0 [(15, a0), (0, a1), (0, a2), (0, a3)] s o := by
  refine MK.of kMd_moves rfl ?_
  show AT sMd_moves 0 (0, [(15, a0), (0, a1), (0, a2), (0, a3)], [], s) o
  unfold Md_moves at H
  refine AT.blk (g := (0 ≤ (w32 ((84 + (5 * a1)) + a2)) ∧ (w32 ((84 + (5 * a1)) + a2)) < 1905) ∧ (0 ≤ (w32 ((84 + (5 * a1)) + a2)) ∧ (w32 ((84 + (5 * a1)) + a2)) < 1905) ∧ (0 ≤ (w32 (19 + a2)) ∧ (w32 (19 + a2)) < 1905) ∧ (0 ≤ (w32 (19 + a2)) ∧ (w32 (19 + a2)) < 1905)) [(0, .aload_n 0, 1, (0, 0, 0)), (1, .getfield 35, 3, (5207, 1120, 0)), (4, .bipush 84, 2, (0, 0, 0)), (6, .iconst 5, 1, (0, 0, 0)), (7, .iload_n 1, 1, (0, 0, 0)), (8, .imul, 1, (0, 0, 0)), (9, .iadd, 1, (0, 0, 0)), (10, .iload_n 2, 1, (0, 0, 0)), (11, .iadd, 1, (0, 0, 0)), (12, .dup2, 1, (0, 0, 0)), (13, .iaload, 1, (0, 0, 0)), (14, .iload_n 3, 1, (0, 0, 0)), (15, .iadd, 1, (0, 0, 0)), (16, .iastore, 1, (0, 0, 0)), (17, .aload_n 0, 1, (0, 0, 0)), (18, .getfield 35, 3, (5207, 1120, 0)), (21, .bipush 19, 2, (0, 0, 0)), (23, .iload_n 2, 1, (0, 0, 0)), (24, .iadd, 1, (0, 0, 0)), (25, .dup2, 1, (0, 0, 0)), (26, .iaload, 1, (0, 0, 0)), (27, .iload_n 3, 1, (0, 0, 0)), (28, .isub, 1, (0, 0, 0)), (29, .iastore, 1, (0, 0, 0))] (by decide +kernel) (show jrun _ (0, [(15, a0), (0, a1), (0, a2), (0, a3)], [], s) = some ([(0 ≤ (w32 ((84 + (5 * a1)) + a2)) ∧ (w32 ((84 + (5 * a1)) + a2)) < 1905), (0 ≤ (w32 ((84 + (5 * a1)) + a2)) ∧ (w32 ((84 + (5 * a1)) + a2)) < 1905), (0 ≤ (w32 (19 + a2)) ∧ (w32 (19 + a2)) < 1905), (0 ≤ (w32 (19 + a2)) ∧ (w32 (19 + a2)) < 1905)], (30, [(15, a0), (0, a1), (0, a2), (0, a3)], [], (jup (jup s (a0 + 5) (w32 ((84 + (5 * a1)) + a2)) ((s (a0 + 5) (w32 ((84 + (5 * a1)) + a2))) + a3)) (a0 + 5) (w32 (19 + a2)) (((jup s (a0 + 5) (w32 ((84 + (5 * a1)) + a2)) ((s (a0 + 5) (w32 ((84 + (5 * a1)) + a2))) + a3)) (a0 + 5) (w32 (19 + a2))) - a3)))) from rfl) (fun h => ⟨h.1, h.2.1, h.2.2.1, h.2.2.2⟩) H (fun H => ?_)
  exact AT.retvH (by decide +kernel) H
