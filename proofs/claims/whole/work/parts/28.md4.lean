/-! printed by wip/whole/gen_all.py: Md_carries, Md_carry, Md_goesMinute, Md_minute, Md_becomes, Md_warm, Md_buy, Md_rule, Md_puts, Md_gives, Md_firmIn, Md_fallIn, Md_lastsOf, Md_lasts, Md_waits, Md_mixes, Md_laysMix, Md_whyNoMix -/
def sMd_carries : jS := (⟨"JellyCathedralModel", "carries", "(II)Z"⟩, prog_13_method_100_code, 4, 3, [15, 0, 0], 0)
theorem kMd_carries : jmk sMd_carries = true := jmk_of 7237 1012 7236 108 (by decide +kernel)
set_option maxRecDepth 100000 in
theorem Md_carries_ok {a0 a1 a2 : Int} {s : jM} {o : Int × jM} (H : Md_carries a0 a1 a2 s = some o) : MK sMd_carries 2 [(15, a0), (0, a1), (0, a2)] s o := by
  refine MK.of kMd_carries rfl ?_
  show AT sMd_carries 2 (0, [(15, a0), (0, a1), (0, a2), (99, 0)], [], s) o
  unfold Md_carries at H
  refine AT.blk (g := (0 ≤ (w32 (64 + a1)) ∧ (w32 (64 + a1)) < 1905)) [(0, .aload_n 0, 1, (0, 0, 0)), (1, .aload_n 0, 1, (0, 0, 0)), (2, .getfield 35, 3, (5207, 1120, 0)), (5, .bipush 64, 2, (0, 0, 0)), (7, .iload_n 1, 1, (0, 0, 0)), (8, .iadd, 1, (0, 0, 0)), (9, .iaload, 1, (0, 0, 0)), (10, .iload_n 2, 1, (0, 0, 0))] (by decide +kernel) (show jrun _ (0, [(15, a0), (0, a1), (0, a2), (99, 0)], [], s) = some ([(0 ≤ (w32 (64 + a1)) ∧ (w32 (64 + a1)) < 1905)], (11, [(15, a0), (0, a1), (0, a2), (99, 0)], [(0, a2), (0, (s (a0 + 5) (w32 (64 + a1)))), (15, a0)], s)) from rfl) (fun h => h) H (fun H => ?_)
  obtain ⟨v1, s1, h1, H⟩ := jb_some H
  refine AT.callV (As := [(0, (s (a0 + 5) (w32 (64 + a1)))), (0, a2)]) (cl := 11) (b := a0) (st := []) (i := 384) (pos := 7221) kMd_shakenTo (by decide +kernel) rfl (by decide +kernel) rfl rfl (by omega) (Md_shakenTo_ok h1) ?_
  show AT sMd_carries 2 (14, [(15, a0), (0, a1), (0, a2), (99, 0)], [(0, v1)], s1) o
  refine AT.seq [(14, .istore_n 3, 1, (0, 0, 0)), (15, .iload_n 3, 1, (0, 0, 0))] (by decide +kernel) (show jrun _ (14, [(15, a0), (0, a1), (0, a2), (99, 0)], [(0, v1)], s1) = some ([], (16, [(15, a0), (0, a1), (0, a2), (0, v1)], [(0, v1)], s1)) from rfl) ?_
  refine AT.ite (x := (0, 0, 0)) (by decide +kernel) (show jbr (.ifCond .lt 16) (16, [(15, a0), (0, a1), (0, a2), (0, v1)], [(0, v1)], s1) = some ((w32 v1) < 0, (32, [(15, a0), (0, a1), (0, a2), (0, v1)], [], s1), (19, [(15, a0), (0, a1), (0, a2), (0, v1)], [], s1)) from rfl) H (fun H => ?_) (fun H => ?_)
  · refine AT.seq [(32, .iconst 0, 1, (0, 0, 0))] (by decide +kernel) (show jrun _ (32, [(15, a0), (0, a1), (0, a2), (0, v1)], [], s1) = some ([], (33, [(15, a0), (0, a1), (0, a2), (0, v1)], [(0, 0)], s1)) from rfl) ?_
    exact AT.retzC (by decide +kernel) (by decide) H
  · refine AT.blk (g := (0 ≤ (w32 (64 + a1)) ∧ (w32 (64 + a1)) < 1905)) [(19, .aload_n 0, 1, (0, 0, 0)), (20, .getfield 35, 3, (5207, 1120, 0)), (23, .bipush 64, 2, (0, 0, 0)), (25, .iload_n 1, 1, (0, 0, 0)), (26, .iadd, 1, (0, 0, 0)), (27, .iaload, 1, (0, 0, 0)), (28, .iload_n 2, 1, (0, 0, 0))] (by decide +kernel) (show jrun _ (19, [(15, a0), (0, a1), (0, a2), (0, v1)], [], s1) = some ([(0 ≤ (w32 (64 + a1)) ∧ (w32 (64 + a1)) < 1905)], (29, [(15, a0), (0, a1), (0, a2), (0, v1)], [(0, a2), (0, (s1 (a0 + 5) (w32 (64 + a1))))], s1)) from rfl) (fun h => h) H (fun H => ?_)
    refine AT.ite (x := (0, 0, 0)) (by decide +kernel) (show jbr (.if_icmp .ne 5) (29, [(15, a0), (0, a1), (0, a2), (0, v1)], [(0, a2), (0, (s1 (a0 + 5) (w32 (64 + a1))))], s1) = some ((w32 (s1 (a0 + 5) (w32 (64 + a1)))) = (w32 a2), (32, [(15, a0), (0, a1), (0, a2), (0, v1)], [], s1), (34, [(15, a0), (0, a1), (0, a2), (0, v1)], [], s1)) from rfl) H (fun H => ?_) (fun H => ?_)
    · refine AT.seq [(32, .iconst 0, 1, (0, 0, 0))] (by decide +kernel) (show jrun _ (32, [(15, a0), (0, a1), (0, a2), (0, v1)], [], s1) = some ([], (33, [(15, a0), (0, a1), (0, a2), (0, v1)], [(0, 0)], s1)) from rfl) ?_
      exact AT.retzC (by decide +kernel) (by decide) H
    · refine AT.blk (g := (0 ≤ (w32 (64 + a1)) ∧ (w32 (64 + a1)) < 1905) ∧ (0 ≤ (w32 (69 + a1)) ∧ (w32 (69 + a1)) < 1905)) [(34, .aload_n 0, 1, (0, 0, 0)), (35, .getfield 35, 3, (5207, 1120, 0)), (38, .bipush 64, 2, (0, 0, 0)), (40, .iload_n 1, 1, (0, 0, 0)), (41, .iadd, 1, (0, 0, 0)), (42, .iload_n 2, 1, (0, 0, 0)), (43, .iastore, 1, (0, 0, 0)), (44, .aload_n 0, 1, (0, 0, 0)), (45, .getfield 35, 3, (5207, 1120, 0)), (48, .bipush 69, 2, (0, 0, 0)), (50, .iload_n 1, 1, (0, 0, 0)), (51, .iadd, 1, (0, 0, 0)), (52, .iaload, 1, (0, 0, 0)), (53, .iconst 2, 1, (0, 0, 0))] (by decide +kernel) (show jrun _ (34, [(15, a0), (0, a1), (0, a2), (0, v1)], [], s1) = some ([(0 ≤ (w32 (64 + a1)) ∧ (w32 (64 + a1)) < 1905), (0 ≤ (w32 (69 + a1)) ∧ (w32 (69 + a1)) < 1905)], (54, [(15, a0), (0, a1), (0, a2), (0, v1)], [(0, 2), (0, ((jup s1 (a0 + 5) (w32 (64 + a1)) a2) (a0 + 5) (w32 (69 + a1))))], (jup s1 (a0 + 5) (w32 (64 + a1)) a2))) from rfl) (fun h => ⟨h.1, h.2⟩) H (fun H => ?_)
      refine AT.ite (x := (0, 0, 0)) (by decide +kernel) (show jbr (.if_icmp .eq 5) (54, [(15, a0), (0, a1), (0, a2), (0, v1)], [(0, 2), (0, ((jup s1 (a0 + 5) (w32 (64 + a1)) a2) (a0 + 5) (w32 (69 + a1))))], (jup s1 (a0 + 5) (w32 (64 + a1)) a2)) = some ((w32 ((jup s1 (a0 + 5) (w32 (64 + a1)) a2) (a0 + 5) (w32 (69 + a1)))) = 2, (59, [(15, a0), (0, a1), (0, a2), (0, v1)], [], (jup s1 (a0 + 5) (w32 (64 + a1)) a2)), (57, [(15, a0), (0, a1), (0, a2), (0, v1)], [], (jup s1 (a0 + 5) (w32 (64 + a1)) a2))) from rfl) H (fun H => ?_) (fun H => ?_)
      · refine AT.blk (g := (0 ≤ (w32 (74 + a1)) ∧ (w32 (74 + a1)) < 1905) ∧ (0 ≤ (w32 (74 + a1)) ∧ (w32 (74 + a1)) < 1905)) [(59, .aload_n 0, 1, (0, 0, 0)), (60, .getfield 35, 3, (5207, 1120, 0)), (63, .bipush 74, 2, (0, 0, 0)), (65, .iload_n 1, 1, (0, 0, 0)), (66, .iadd, 1, (0, 0, 0)), (67, .dup2, 1, (0, 0, 0)), (68, .iaload, 1, (0, 0, 0)), (69, .iload_n 3, 1, (0, 0, 0)), (70, .isub, 1, (0, 0, 0)), (71, .iastore, 1, (0, 0, 0)), (72, .aload_n 0, 1, (0, 0, 0)), (73, .iload_n 1, 1, (0, 0, 0))] (by decide +kernel) (show jrun _ (59, [(15, a0), (0, a1), (0, a2), (0, v1)], [], (jup s1 (a0 + 5) (w32 (64 + a1)) a2)) = some ([(0 ≤ (w32 (74 + a1)) ∧ (w32 (74 + a1)) < 1905), (0 ≤ (w32 (74 + a1)) ∧ (w32 (74 + a1)) < 1905)], (74, [(15, a0), (0, a1), (0, a2), (0, v1)], [(0, a1), (15, a0)], (jup (jup s1 (a0 + 5) (w32 (64 + a1)) a2) (a0 + 5) (w32 (74 + a1)) (((jup s1 (a0 + 5) (w32 (64 + a1)) a2) (a0 + 5) (w32 (74 + a1))) - v1)))) from rfl) (fun h => ⟨h.1, h.2⟩) H (fun H => ?_)
        obtain ⟨s2, e2, H⟩ := jm_some H
        rw [← e2]
        obtain ⟨v3, s3, h3, H⟩ := jb_some H
        refine AT.callV (As := [(0, a1)]) (cl := 11) (b := a0) (st := []) (i := 366) (pos := 7201) kMd_falls (by decide +kernel) rfl (by decide +kernel) rfl rfl (by omega) (Md_falls_ok h3) ?_
        show AT sMd_carries 2 (77, [(15, a0), (0, a1), (0, a2), (0, v1)], [(0, v3)], s3) o
        refine AT.seq [(77, .pop, 1, (0, 0, 0)), (78, .iconst 1, 1, (0, 0, 0))] (by decide +kernel) (show jrun _ (77, [(15, a0), (0, a1), (0, a2), (0, v1)], [(0, v3)], s3) = some ([], (79, [(15, a0), (0, a1), (0, a2), (0, v1)], [(0, 1)], s3)) from rfl) ?_
        exact AT.retzC (by decide +kernel) (by decide) H
      · refine AT.seq [(57, .iconst 1, 1, (0, 0, 0))] (by decide +kernel) (show jrun _ (57, [(15, a0), (0, a1), (0, a2), (0, v1)], [], (jup s1 (a0 + 5) (w32 (64 + a1)) a2)) = some ([], (58, [(15, a0), (0, a1), (0, a2), (0, v1)], [(0, 1)], (jup s1 (a0 + 5) (w32 (64 + a1)) a2))) from rfl) ?_
        exact AT.retzC (by decide +kernel) (by decide) H
def sMd_carry : jS := (⟨"JellyCathedralModel", "carry", "(II)I"⟩, prog_13_method_101_code, 4, 1, [15, 0, 0], 0)
theorem kMd_carry : jmk sMd_carry = true := jmk_of 7216 1012 7214 7215 (by decide +kernel)
set_option maxRecDepth 100000 in
theorem Md_carry_ok {a0 a1 a2 : Int} {s : jM} {o : Int × jM} (H : Md_carry a0 a1 a2 s = some o) : MK sMd_carry 3 [(15, a0), (0, a1), (0, a2)] s o := by
  refine MK.of kMd_carry rfl ?_
  show AT sMd_carry 3 (0, [(15, a0), (0, a1), (0, a2), (99, 0)], [], s) o
  unfold Md_carry at H
  refine AT.seq [(0, .aload_n 0, 1, (0, 0, 0)), (1, .iconst 0, 1, (0, 0, 0)), (2, .putfield 72, 3, (5188, 1101, 0)), (5, .aload_n 0, 1, (0, 0, 0)), (6, .iconst 0, 1, (0, 0, 0)), (7, .putfield 75, 3, (5187, 1100, 0)), (10, .aload_n 0, 1, (0, 0, 0)), (11, .iload_n 1, 1, (0, 0, 0))] (by decide +kernel) (show jrun _ (0, [(15, a0), (0, a1), (0, a2), (99, 0)], [], s) = some ([], (12, [(15, a0), (0, a1), (0, a2), (99, 0)], [(0, a1), (15, a0)], (jup (jup s a0 1 0) a0 0 0))) from rfl) ?_
  obtain ⟨v1, s1, h1, H⟩ := jb_some H
  refine AT.callV (As := [(0, a1)]) (cl := 11) (b := a0) (st := []) (i := 333) (pos := 7137) kMd_isMouldAt (by decide +kernel) rfl (by decide +kernel) rfl rfl (by omega) (Md_isMouldAt_ok h1) ?_
  show AT sMd_carry 3 (15, [(15, a0), (0, a1), (0, a2), (99, 0)], [(0, v1)], s1) o
  refine AT.ite (x := (0, 0, 0)) (by decide +kernel) (show jbr (.ifCond .eq 11) (15, [(15, a0), (0, a1), (0, a2), (99, 0)], [(0, v1)], s1) = some ((w32 v1) = 0, (26, [(15, a0), (0, a1), (0, a2), (99, 0)], [], s1), (18, [(15, a0), (0, a1), (0, a2), (99, 0)], [], s1)) from rfl) H (fun H => ?_) (fun H => ?_)
  · refine AT.seq [(26, .aload_n 0, 1, (0, 0, 0)), (27, .iconst 2, 1, (0, 0, 0))] (by decide +kernel) (show jrun _ (26, [(15, a0), (0, a1), (0, a2), (99, 0)], [], s1) = some ([], (28, [(15, a0), (0, a1), (0, a2), (99, 0)], [(0, 2), (15, a0)], s1)) from rfl) ?_
    obtain ⟨v2, s2, h2, H⟩ := jb_some H
    refine AT.callV (As := [(0, 2)]) (cl := 11) (b := a0) (st := []) (i := 322) (pos := 7116) kMd_refuse (by decide +kernel) rfl (by decide +kernel) rfl rfl (by omega) (Md_refuse_ok h2) ?_
    show AT sMd_carry 3 (31, [(15, a0), (0, a1), (0, a2), (99, 0)], [(0, v2)], s2) o
    exact AT.retiH (by decide +kernel) H
  · refine AT.seq [(18, .aload_n 0, 1, (0, 0, 0)), (19, .iload_n 2, 1, (0, 0, 0))] (by decide +kernel) (show jrun _ (18, [(15, a0), (0, a1), (0, a2), (99, 0)], [], s1) = some ([], (20, [(15, a0), (0, a1), (0, a2), (99, 0)], [(0, a2), (15, a0)], s1)) from rfl) ?_
    obtain ⟨v3, s3, h3, H⟩ := jb_some H
    refine AT.callV (As := [(0, a2)]) (cl := 11) (b := a0) (st := []) (i := 387) (pos := 7217) kMd_isPlaceAt (by decide +kernel) rfl (by decide +kernel) rfl rfl (by omega) (Md_isPlaceAt_ok h3) ?_
    show AT sMd_carry 3 (23, [(15, a0), (0, a1), (0, a2), (99, 0)], [(0, v3)], s3) o
    refine AT.ite (x := (0, 0, 0)) (by decide +kernel) (show jbr (.ifCond .ne 9) (23, [(15, a0), (0, a1), (0, a2), (99, 0)], [(0, v3)], s3) = some ((w32 v3) = 0, (26, [(15, a0), (0, a1), (0, a2), (99, 0)], [], s3), (32, [(15, a0), (0, a1), (0, a2), (99, 0)], [], s3)) from rfl) H (fun H => ?_) (fun H => ?_)
    · refine AT.seq [(26, .aload_n 0, 1, (0, 0, 0)), (27, .iconst 2, 1, (0, 0, 0))] (by decide +kernel) (show jrun _ (26, [(15, a0), (0, a1), (0, a2), (99, 0)], [], s3) = some ([], (28, [(15, a0), (0, a1), (0, a2), (99, 0)], [(0, 2), (15, a0)], s3)) from rfl) ?_
      obtain ⟨v4, s4, h4, H⟩ := jb_some H
      refine AT.callV (As := [(0, 2)]) (cl := 11) (b := a0) (st := []) (i := 322) (pos := 7116) kMd_refuse (by decide +kernel) rfl (by decide +kernel) rfl rfl (by omega) (Md_refuse_ok h4) ?_
      show AT sMd_carry 3 (31, [(15, a0), (0, a1), (0, a2), (99, 0)], [(0, v4)], s4) o
      exact AT.retiH (by decide +kernel) H
    · refine AT.blk (g := (0 ≤ (w32 (64 + a1)) ∧ (w32 (64 + a1)) < 1905)) [(32, .aload_n 0, 1, (0, 0, 0)), (33, .aload_n 0, 1, (0, 0, 0)), (34, .getfield 35, 3, (5207, 1120, 0)), (37, .bipush 64, 2, (0, 0, 0)), (39, .iload_n 1, 1, (0, 0, 0)), (40, .iadd, 1, (0, 0, 0)), (41, .iaload, 1, (0, 0, 0)), (42, .iload_n 2, 1, (0, 0, 0))] (by decide +kernel) (show jrun _ (32, [(15, a0), (0, a1), (0, a2), (99, 0)], [], s3) = some ([(0 ≤ (w32 (64 + a1)) ∧ (w32 (64 + a1)) < 1905)], (43, [(15, a0), (0, a1), (0, a2), (99, 0)], [(0, a2), (0, (s3 (a0 + 5) (w32 (64 + a1)))), (15, a0)], s3)) from rfl) (fun h => h) H (fun H => ?_)
      obtain ⟨v5, s5, h5, H⟩ := jb_some H
      refine AT.callV (As := [(0, (s3 (a0 + 5) (w32 (64 + a1)))), (0, a2)]) (cl := 11) (b := a0) (st := []) (i := 384) (pos := 7221) kMd_shakenTo (by decide +kernel) rfl (by decide +kernel) rfl rfl (by omega) (Md_shakenTo_ok h5) ?_
      show AT sMd_carry 3 (46, [(15, a0), (0, a1), (0, a2), (99, 0)], [(0, v5)], s5) o
      refine AT.seq [(46, .istore_n 3, 1, (0, 0, 0)), (47, .iload_n 3, 1, (0, 0, 0))] (by decide +kernel) (show jrun _ (46, [(15, a0), (0, a1), (0, a2), (99, 0)], [(0, v5)], s5) = some ([], (48, [(15, a0), (0, a1), (0, a2), (0, v5)], [(0, v5)], s5)) from rfl) ?_
      refine AT.ite (x := (0, 0, 0)) (by decide +kernel) (show jbr (.ifCond .ge 10) (48, [(15, a0), (0, a1), (0, a2), (0, v5)], [(0, v5)], s5) = some ((w32 v5) < 0, (51, [(15, a0), (0, a1), (0, a2), (0, v5)], [], s5), (58, [(15, a0), (0, a1), (0, a2), (0, v5)], [], s5)) from rfl) H (fun H => ?_) (fun H => ?_)
      · refine AT.seq [(51, .aload_n 0, 1, (0, 0, 0)), (52, .bipush 8, 2, (0, 0, 0))] (by decide +kernel) (show jrun _ (51, [(15, a0), (0, a1), (0, a2), (0, v5)], [], s5) = some ([], (54, [(15, a0), (0, a1), (0, a2), (0, v5)], [(0, 8), (15, a0)], s5)) from rfl) ?_
        obtain ⟨v6, s6, h6, H⟩ := jb_some H
        refine AT.callV (As := [(0, 8)]) (cl := 11) (b := a0) (st := []) (i := 322) (pos := 7116) kMd_refuse (by decide +kernel) rfl (by decide +kernel) rfl rfl (by omega) (Md_refuse_ok h6) ?_
        show AT sMd_carry 3 (57, [(15, a0), (0, a1), (0, a2), (0, v5)], [(0, v6)], s6) o
        exact AT.retiH (by decide +kernel) H
      · refine AT.seq [(58, .aload_n 0, 1, (0, 0, 0)), (59, .iload_n 1, 1, (0, 0, 0)), (60, .iload_n 2, 1, (0, 0, 0))] (by decide +kernel) (show jrun _ (58, [(15, a0), (0, a1), (0, a2), (0, v5)], [], s5) = some ([], (61, [(15, a0), (0, a1), (0, a2), (0, v5)], [(0, a2), (0, a1), (15, a0)], s5)) from rfl) ?_
        obtain ⟨v7, s7, h7, H⟩ := jb_some H
        refine AT.callV (As := [(0, a1), (0, a2)]) (cl := 11) (b := a0) (st := []) (i := 390) (pos := 7234) kMd_carries (by decide +kernel) rfl (by decide +kernel) rfl rfl (by omega) (Md_carries_ok h7) ?_
        show AT sMd_carry 3 (64, [(15, a0), (0, a1), (0, a2), (0, v5)], [(0, v7)], s7) o
        refine AT.ite (x := (0, 0, 0)) (by decide +kernel) (show jbr (.ifCond .eq 7) (64, [(15, a0), (0, a1), (0, a2), (0, v5)], [(0, v7)], s7) = some ((w32 v7) = 0, (71, [(15, a0), (0, a1), (0, a2), (0, v5)], [], s7), (67, [(15, a0), (0, a1), (0, a2), (0, v5)], [], s7)) from rfl) H (fun H => ?_) (fun H => ?_)
        · refine AT.seq [(71, .aload_n 0, 1, (0, 0, 0)), (72, .bipush 9, 2, (0, 0, 0))] (by decide +kernel) (show jrun _ (71, [(15, a0), (0, a1), (0, a2), (0, v5)], [], s7) = some ([], (74, [(15, a0), (0, a1), (0, a2), (0, v5)], [(0, 9), (15, a0)], s7)) from rfl) ?_
          obtain ⟨v8, s8, h8, H⟩ := jb_some H
          refine AT.callV (As := [(0, 9)]) (cl := 11) (b := a0) (st := []) (i := 322) (pos := 7116) kMd_refuse (by decide +kernel) rfl (by decide +kernel) rfl rfl (by omega) (Md_refuse_ok h8) ?_
          show AT sMd_carry 3 (77, [(15, a0), (0, a1), (0, a2), (0, v5)], [(0, v8)], s8) o
          exact AT.retiH (by decide +kernel) H
        · refine AT.seq [(67, .iload_n 3, 1, (0, 0, 0)), (68, .goto 9, 3, (0, 0, 0))] (by decide +kernel) (show jrun _ (67, [(15, a0), (0, a1), (0, a2), (0, v5)], [], s7) = some ([], (77, [(15, a0), (0, a1), (0, a2), (0, v5)], [(0, v5)], s7)) from rfl) ?_
          exact AT.retiH (by decide +kernel) H
def sMd_goesMinute : jS := (⟨"JellyCathedralModel", "goesMinute", "()V"⟩, prog_13_method_102_code, 2, 0, [15], 0)
theorem kMd_goesMinute : jmk sMd_goesMinute = true := jmk_of 8006 1012 8005 109 (by decide +kernel)
set_option maxRecDepth 100000 in
theorem Md_goesMinute_2_ok {o : Int × jM} : ∀ (n : Nat) (x0 x1 : Int) (s : jM), Md_goesMinute_2  n x0 x1 s = some o → AT sMd_goesMinute 2 (2, [(15, x0), (0, x1)], [], s) o := by
  intro n
  induction n with
  | zero =>
    intro x0 x1 s H
    have H : (none : Option (Int × jM)) = some o := H
    cases H
  | succ n ih =>
    intro x0 x1 s H
    rw [Md_goesMinute_2] at H
    refine AT.row [(2, .iload_n 1, 1, (0, 0, 0)), (3, .aload_n 0, 1, (0, 0, 0)), (4, .getfield 35, 3, (5207, 1120, 0)), (7, .iconst 2, 1, (0, 0, 0)), (8, .iaload, 1, (0, 0, 0))] (by decide +kernel) (show jrun _ (2, [(15, x0), (0, x1)], [], s) = some ([(0 ≤ (2 : Int) ∧ (2 : Int) < 1905)], (9, [(15, x0), (0, x1)], [(0, (s (x0 + 5) 2)), (0, x1)], s)) from rfl) (show (0 ≤ (2 : Int) ∧ (2 : Int) < 1905) from by decide) ?_
    refine AT.ite (x := (0, 0, 0)) (by decide +kernel) (show jbr (.if_icmp .ge 98) (9, [(15, x0), (0, x1)], [(0, (s (x0 + 5) 2)), (0, x1)], s) = some ((w32 x1) < (w32 (s (x0 + 5) 2)), (12, [(15, x0), (0, x1)], [], s), (107, [(15, x0), (0, x1)], [], s)) from rfl) H (fun H => ?_) (fun H => ?_)
    · refine AT.blk (g := (0 ≤ (w32 (69 + x1)) ∧ (w32 (69 + x1)) < 1905)) [(12, .aload_n 0, 1, (0, 0, 0)), (13, .getfield 35, 3, (5207, 1120, 0)), (16, .bipush 69, 2, (0, 0, 0)), (18, .iload_n 1, 1, (0, 0, 0)), (19, .iadd, 1, (0, 0, 0)), (20, .iaload, 1, (0, 0, 0)), (21, .iconst 1, 1, (0, 0, 0))] (by decide +kernel) (show jrun _ (12, [(15, x0), (0, x1)], [], s) = some ([(0 ≤ (w32 (69 + x1)) ∧ (w32 (69 + x1)) < 1905)], (22, [(15, x0), (0, x1)], [(0, 1), (0, (s (x0 + 5) (w32 (69 + x1))))], s)) from rfl) (fun h => h) H (fun H => ?_)
      refine AT.ite (x := (0, 0, 0)) (by decide +kernel) (show jbr (.if_icmp .ne 42) (22, [(15, x0), (0, x1)], [(0, 1), (0, (s (x0 + 5) (w32 (69 + x1))))], s) = some ((w32 (s (x0 + 5) (w32 (69 + x1)))) = 1, (25, [(15, x0), (0, x1)], [], s), (64, [(15, x0), (0, x1)], [], s)) from rfl) H (fun H => ?_) (fun H => ?_)
      · refine AT.seq [(25, .aload_n 0, 1, (0, 0, 0)), (26, .getfield 35, 3, (5207, 1120, 0)), (29, .bipush 74, 2, (0, 0, 0)), (31, .iload_n 1, 1, (0, 0, 0)), (32, .iadd, 1, (0, 0, 0)), (33, .aload_n 0, 1, (0, 0, 0)), (34, .iload_n 1, 1, (0, 0, 0))] (by decide +kernel) (show jrun _ (25, [(15, x0), (0, x1)], [], s) = some ([], (35, [(15, x0), (0, x1)], [(0, x1), (15, x0), (0, (74 + x1)), (40, (x0 + 5))], s)) from rfl) ?_
        obtain ⟨v1, s1, h1, H⟩ := jb_some H
        refine AT.callV (As := [(0, x1)]) (cl := 11) (b := x0) (st := [(0, (74 + x1)), (40, (x0 + 5))]) (i := 338) (pos := 7142) kMd_strengthOf (by decide +kernel) rfl (by decide +kernel) rfl rfl (by omega) (Md_strengthOf_ok h1) ?_
        show AT sMd_goesMinute 2 (38, [(15, x0), (0, x1)], [(0, v1), (0, (74 + x1)), (40, (x0 + 5))], s1) o
        refine AT.blk (g := (0 ≤ (w32 (74 + x1)) ∧ (w32 (74 + x1)) < 1905) ∧ (0 ≤ (w32 (74 + x1)) ∧ (w32 (74 + x1)) < 1905)) [(38, .aload_n 0, 1, (0, 0, 0)), (39, .getfield 35, 3, (5207, 1120, 0)), (42, .bipush 74, 2, (0, 0, 0)), (44, .iload_n 1, 1, (0, 0, 0)), (45, .iadd, 1, (0, 0, 0)), (46, .iaload, 1, (0, 0, 0)), (47, .bipush 9, 2, (0, 0, 0)), (49, .iadd, 1, (0, 0, 0)), (50, .aload_n 0, 1, (0, 0, 0)), (51, .getfield 35, 3, (5207, 1120, 0)), (54, .iconst 3, 1, (0, 0, 0)), (55, .iaload, 1, (0, 0, 0)), (56, .isub, 1, (0, 0, 0)), (57, .invokestatic 375, 3, (7229, 2, 0)), (60, .iastore, 1, (0, 0, 0)), (61, .goto 34, 3, (0, 0, 0)), (95, .aload_n 0, 1, (0, 0, 0)), (96, .iload_n 1, 1, (0, 0, 0))] (by decide +kernel) (show jrun _ (38, [(15, x0), (0, x1)], [(0, v1), (0, (74 + x1)), (40, (x0 + 5))], s1) = some ([(0 ≤ (w32 (74 + x1)) ∧ (w32 (74 + x1)) < 1905), (0 ≤ (3 : Int) ∧ (3 : Int) < 1905), (0 ≤ (w32 (74 + x1)) ∧ (w32 (74 + x1)) < 1905)], (97, [(15, x0), (0, x1)], [(0, x1), (15, x0)], (jup s1 (x0 + 5) (w32 (74 + x1)) (jmin v1 (((s1 (x0 + 5) (w32 (74 + x1))) + 9) - (s1 (x0 + 5) 3)))))) from rfl) (fun h => ⟨h.1, (show (0 ≤ (3 : Int) ∧ (3 : Int) < 1905) from by decide), h.2⟩) H (fun H => ?_)
        obtain ⟨v2, s2, h2, H⟩ := jb_some H
        refine AT.callV (As := [(0, x1)]) (cl := 11) (b := x0) (st := []) (i := 366) (pos := 7201) kMd_falls (by decide +kernel) rfl (by decide +kernel) rfl rfl (by omega) (Md_falls_ok h2) ?_
        show AT sMd_goesMinute 2 (100, [(15, x0), (0, x1)], [(0, v2)], s2) o
        refine AT.seq [(100, .pop, 1, (0, 0, 0)), (101, .iinc 1 1, 3, (0, 0, 0)), (104, .goto (-102), 3, (0, 0, 0))] (by decide +kernel) (show jrun _ (100, [(15, x0), (0, x1)], [(0, v2)], s2) = some ([], (2, [(15, x0), (0, (x1 + 1))], [], s2)) from rfl) ?_
        exact ih _ _ _ H
      · refine AT.blk (g := (0 ≤ (w32 (69 + x1)) ∧ (w32 (69 + x1)) < 1905)) [(64, .aload_n 0, 1, (0, 0, 0)), (65, .getfield 35, 3, (5207, 1120, 0)), (68, .bipush 69, 2, (0, 0, 0)), (70, .iload_n 1, 1, (0, 0, 0)), (71, .iadd, 1, (0, 0, 0)), (72, .iaload, 1, (0, 0, 0)), (73, .iconst 2, 1, (0, 0, 0))] (by decide +kernel) (show jrun _ (64, [(15, x0), (0, x1)], [], s) = some ([(0 ≤ (w32 (69 + x1)) ∧ (w32 (69 + x1)) < 1905)], (74, [(15, x0), (0, x1)], [(0, 2), (0, (s (x0 + 5) (w32 (69 + x1))))], s)) from rfl) (fun h => h) H (fun H => ?_)
        refine AT.ite (x := (0, 0, 0)) (by decide +kernel) (show jbr (.if_icmp .ne 21) (74, [(15, x0), (0, x1)], [(0, 2), (0, (s (x0 + 5) (w32 (69 + x1))))], s) = some ((w32 (s (x0 + 5) (w32 (69 + x1)))) = 2, (77, [(15, x0), (0, x1)], [], s), (95, [(15, x0), (0, x1)], [], s)) from rfl) H (fun H => ?_) (fun H => ?_)
        · refine AT.blk (g := (0 ≤ (w32 (74 + x1)) ∧ (w32 (74 + x1)) < 1905) ∧ (0 ≤ (w32 (74 + x1)) ∧ (w32 (74 + x1)) < 1905)) [(77, .aload_n 0, 1, (0, 0, 0)), (78, .getfield 35, 3, (5207, 1120, 0)), (81, .bipush 74, 2, (0, 0, 0)), (83, .iload_n 1, 1, (0, 0, 0)), (84, .iadd, 1, (0, 0, 0)), (85, .dup2, 1, (0, 0, 0)), (86, .iaload, 1, (0, 0, 0)), (87, .aload_n 0, 1, (0, 0, 0)), (88, .getfield 35, 3, (5207, 1120, 0)), (91, .iconst 3, 1, (0, 0, 0)), (92, .iaload, 1, (0, 0, 0)), (93, .isub, 1, (0, 0, 0)), (94, .iastore, 1, (0, 0, 0)), (95, .aload_n 0, 1, (0, 0, 0)), (96, .iload_n 1, 1, (0, 0, 0))] (by decide +kernel) (show jrun _ (77, [(15, x0), (0, x1)], [], s) = some ([(0 ≤ (w32 (74 + x1)) ∧ (w32 (74 + x1)) < 1905), (0 ≤ (3 : Int) ∧ (3 : Int) < 1905), (0 ≤ (w32 (74 + x1)) ∧ (w32 (74 + x1)) < 1905)], (97, [(15, x0), (0, x1)], [(0, x1), (15, x0)], (jup s (x0 + 5) (w32 (74 + x1)) ((s (x0 + 5) (w32 (74 + x1))) - (s (x0 + 5) 3))))) from rfl) (fun h => ⟨h.1, (show (0 ≤ (3 : Int) ∧ (3 : Int) < 1905) from by decide), h.2⟩) H (fun H => ?_)
          obtain ⟨v3, s3, h3, H⟩ := jb_some H
          refine AT.callV (As := [(0, x1)]) (cl := 11) (b := x0) (st := []) (i := 366) (pos := 7201) kMd_falls (by decide +kernel) rfl (by decide +kernel) rfl rfl (by omega) (Md_falls_ok h3) ?_
          show AT sMd_goesMinute 2 (100, [(15, x0), (0, x1)], [(0, v3)], s3) o
          refine AT.seq [(100, .pop, 1, (0, 0, 0)), (101, .iinc 1 1, 3, (0, 0, 0)), (104, .goto (-102), 3, (0, 0, 0))] (by decide +kernel) (show jrun _ (100, [(15, x0), (0, x1)], [(0, v3)], s3) = some ([], (2, [(15, x0), (0, (x1 + 1))], [], s3)) from rfl) ?_
          exact ih _ _ _ H
        · refine AT.seq [(95, .aload_n 0, 1, (0, 0, 0)), (96, .iload_n 1, 1, (0, 0, 0))] (by decide +kernel) (show jrun _ (95, [(15, x0), (0, x1)], [], s) = some ([], (97, [(15, x0), (0, x1)], [(0, x1), (15, x0)], s)) from rfl) ?_
          obtain ⟨v4, s4, h4, H⟩ := jb_some H
          refine AT.callV (As := [(0, x1)]) (cl := 11) (b := x0) (st := []) (i := 366) (pos := 7201) kMd_falls (by decide +kernel) rfl (by decide +kernel) rfl rfl (by omega) (Md_falls_ok h4) ?_
          show AT sMd_goesMinute 2 (100, [(15, x0), (0, x1)], [(0, v4)], s4) o
          refine AT.seq [(100, .pop, 1, (0, 0, 0)), (101, .iinc 1 1, 3, (0, 0, 0)), (104, .goto (-102), 3, (0, 0, 0))] (by decide +kernel) (show jrun _ (100, [(15, x0), (0, x1)], [(0, v4)], s4) = some ([], (2, [(15, x0), (0, (x1 + 1))], [], s4)) from rfl) ?_
          exact ih _ _ _ H
    · refine AT.row [(107, .aload_n 0, 1, (0, 0, 0)), (108, .getfield 35, 3, (5207, 1120, 0)), (111, .iconst 5, 1, (0, 0, 0)), (112, .dup2, 1, (0, 0, 0)), (113, .iaload, 1, (0, 0, 0)), (114, .iconst 1, 1, (0, 0, 0)), (115, .iadd, 1, (0, 0, 0)), (116, .iastore, 1, (0, 0, 0))] (by decide +kernel) (show jrun _ (107, [(15, x0), (0, x1)], [], s) = some ([(0 ≤ (5 : Int) ∧ (5 : Int) < 1905), (0 ≤ (5 : Int) ∧ (5 : Int) < 1905)], (117, [(15, x0), (0, x1)], [], (jup s (x0 + 5) 5 ((s (x0 + 5) 5) + 1)))) from rfl) (show (0 ≤ (5 : Int) ∧ (5 : Int) < 1905) ∧ (0 ≤ (5 : Int) ∧ (5 : Int) < 1905) from by decide) ?_
      exact AT.retvH (by decide +kernel) H
set_option maxRecDepth 100000 in
theorem Md_goesMinute_ok {a0 : Int} {s : jM} {o : Int × jM} (H : Md_goesMinute a0 s = some o) : MK sMd_goesMinute 2 [(15, a0)] s o := by
  refine MK.of kMd_goesMinute rfl ?_
  show AT sMd_goesMinute 2 (0, [(15, a0), (99, 0)], [], s) o
  unfold Md_goesMinute at H
  refine AT.seq [(0, .iconst 0, 1, (0, 0, 0)), (1, .istore_n 1, 1, (0, 0, 0))] (by decide +kernel) (show jrun _ (0, [(15, a0), (99, 0)], [], s) = some ([], (2, [(15, a0), (0, 0)], [], s)) from rfl) ?_
  exact Md_goesMinute_2_ok  jFU _ _ _ H
def sMd_minute : jS := (⟨"JellyCathedralModel", "minute", "(I)I"⟩, prog_13_method_103_code, 4, 1, [15, 0], 0)
theorem kMd_minute : jmk sMd_minute = true := jmk_of 8001 1012 7239 8000 (by decide +kernel)
set_option maxRecDepth 100000 in
theorem Md_minute_59_ok {o : Int × jM} : ∀ (n : Nat) (x0 x1 x2 x3 : Int) (s : jM), Md_minute_59  n x0 x1 x2 x3 s = some o → AT sMd_minute 3 (59, [(15, x0), (0, x1), (0, x2), (0, x3)], [], s) o := by
  intro n
  induction n with
  | zero =>
    intro x0 x1 x2 x3 s H
    have H : (none : Option (Int × jM)) = some o := H
    cases H
  | succ n ih =>
    intro x0 x1 x2 x3 s H
    rw [Md_minute_59] at H
    refine AT.seq [(59, .iload_n 3, 1, (0, 0, 0)), (60, .iload_n 1, 1, (0, 0, 0))] (by decide +kernel) (show jrun _ (59, [(15, x0), (0, x1), (0, x2), (0, x3)], [], s) = some ([], (61, [(15, x0), (0, x1), (0, x2), (0, x3)], [(0, x1), (0, x3)], s)) from rfl) ?_
    refine AT.ite (x := (0, 0, 0)) (by decide +kernel) (show jbr (.if_icmp .ge 13) (61, [(15, x0), (0, x1), (0, x2), (0, x3)], [(0, x1), (0, x3)], s) = some ((w32 x3) < (w32 x1), (64, [(15, x0), (0, x1), (0, x2), (0, x3)], [], s), (74, [(15, x0), (0, x1), (0, x2), (0, x3)], [], s)) from rfl) H (fun H => ?_) (fun H => ?_)
    · refine AT.seq [(64, .aload_n 0, 1, (0, 0, 0))] (by decide +kernel) (show jrun _ (64, [(15, x0), (0, x1), (0, x2), (0, x3)], [], s) = some ([], (65, [(15, x0), (0, x1), (0, x2), (0, x3)], [(15, x0)], s)) from rfl) ?_
      obtain ⟨v1, s1, h1, H⟩ := jb_some H
      refine AT.callV (As := []) (cl := 11) (b := x0) (st := []) (i := 395) (pos := 8003) kMd_goesMinute (by decide +kernel) rfl (by decide +kernel) rfl rfl (by omega) (Md_goesMinute_ok h1) ?_
      show AT sMd_minute 3 (68, [(15, x0), (0, x1), (0, x2), (0, x3)], [], s1) o
      refine AT.seq [(68, .iinc 3 1, 3, (0, 0, 0)), (71, .goto (-12), 3, (0, 0, 0))] (by decide +kernel) (show jrun _ (68, [(15, x0), (0, x1), (0, x2), (0, x3)], [], s1) = some ([], (59, [(15, x0), (0, x1), (0, x2), (0, (x3 + 1))], [], s1)) from rfl) ?_
      exact ih _ _ _ _ _ H
    · refine AT.row [(74, .aload_n 0, 1, (0, 0, 0)), (75, .getfield 35, 3, (5207, 1120, 0)), (78, .bipush 7, 2, (0, 0, 0)), (80, .iaload, 1, (0, 0, 0)), (81, .iload_n 2, 1, (0, 0, 0)), (82, .isub, 1, (0, 0, 0))] (by decide +kernel) (show jrun _ (74, [(15, x0), (0, x1), (0, x2), (0, x3)], [], s) = some ([(0 ≤ (7 : Int) ∧ (7 : Int) < 1905)], (83, [(15, x0), (0, x1), (0, x2), (0, x3)], [(0, ((s (x0 + 5) 7) - x2))], s)) from rfl) (show (0 ≤ (7 : Int) ∧ (7 : Int) < 1905) from by decide) ?_
      exact AT.retiH (by decide +kernel) H
set_option maxRecDepth 100000 in
theorem Md_minute_ok {a0 a1 : Int} {s : jM} {o : Int × jM} (H : Md_minute a0 a1 s = some o) : MK sMd_minute 3 [(15, a0), (0, a1)] s o := by
  refine MK.of kMd_minute rfl ?_
  show AT sMd_minute 3 (0, [(15, a0), (0, a1), (99, 0), (99, 0)], [], s) o
  unfold Md_minute at H
  refine AT.seq [(0, .aload_n 0, 1, (0, 0, 0)), (1, .iconst 0, 1, (0, 0, 0)), (2, .putfield 72, 3, (5188, 1101, 0)), (5, .aload_n 0, 1, (0, 0, 0)), (6, .iconst 0, 1, (0, 0, 0)), (7, .putfield 75, 3, (5187, 1100, 0)), (10, .iload_n 1, 1, (0, 0, 0)), (11, .i2l, 1, (0, 0, 0)), (12, .lconst 1, 1, (0, 0, 0)), (13, .ldc2_w 393, 3, (8002, 0, 99))] (by decide +kernel) (show jrun _ (0, [(15, a0), (0, a1), (99, 0), (99, 0)], [], s) = some ([], (16, [(15, a0), (0, a1), (99, 0), (99, 0)], [(1, 99), (1, 1), (1, (w32 a1))], (jup (jup s a0 1 0) a0 0 0))) from rfl) ?_
  obtain ⟨v2, s2, h2, H⟩ := jb_some H
  refine AT.callS (As := [(1, (w32 a1)), (1, 1), (1, 99)]) (st := []) (i := 107) (pos := 6204) kMd_isIn (by decide +kernel) rfl rfl rfl (by omega) (Md_isIn_ok h2) ?_
  show AT sMd_minute 3 (19, [(15, a0), (0, a1), (99, 0), (99, 0)], [(0, v2)], s2) o
  refine AT.ite (x := (0, 0, 0)) (by decide +kernel) (show jbr (.ifCond .ne 9) (19, [(15, a0), (0, a1), (99, 0), (99, 0)], [(0, v2)], s2) = some ((w32 v2) = 0, (22, [(15, a0), (0, a1), (99, 0), (99, 0)], [], s2), (28, [(15, a0), (0, a1), (99, 0), (99, 0)], [], s2)) from rfl) H (fun H => ?_) (fun H => ?_)
  · refine AT.seq [(22, .aload_n 0, 1, (0, 0, 0)), (23, .iconst 5, 1, (0, 0, 0))] (by decide +kernel) (show jrun _ (22, [(15, a0), (0, a1), (99, 0), (99, 0)], [], s2) = some ([], (24, [(15, a0), (0, a1), (99, 0), (99, 0)], [(0, 5), (15, a0)], s2)) from rfl) ?_
    obtain ⟨v3, s3, h3, H⟩ := jb_some H
    refine AT.callV (As := [(0, 5)]) (cl := 11) (b := a0) (st := []) (i := 322) (pos := 7116) kMd_refuse (by decide +kernel) rfl (by decide +kernel) rfl rfl (by omega) (Md_refuse_ok h3) ?_
    show AT sMd_minute 3 (27, [(15, a0), (0, a1), (99, 0), (99, 0)], [(0, v3)], s3) o
    exact AT.retiH (by decide +kernel) H
  · refine AT.row [(28, .aload_n 0, 1, (0, 0, 0)), (29, .getfield 35, 3, (5207, 1120, 0)), (32, .iconst 5, 1, (0, 0, 0)), (33, .iaload, 1, (0, 0, 0)), (34, .iload_n 1, 1, (0, 0, 0)), (35, .iadd, 1, (0, 0, 0)), (36, .sipush 9999, 3, (0, 0, 0))] (by decide +kernel) (show jrun _ (28, [(15, a0), (0, a1), (99, 0), (99, 0)], [], s2) = some ([(0 ≤ (5 : Int) ∧ (5 : Int) < 1905)], (39, [(15, a0), (0, a1), (99, 0), (99, 0)], [(0, 9999), (0, ((s2 (a0 + 5) 5) + a1))], s2)) from rfl) (show (0 ≤ (5 : Int) ∧ (5 : Int) < 1905) from by decide) ?_
    refine AT.ite (x := (0, 0, 0)) (by decide +kernel) (show jbr (.if_icmp .le 10) (39, [(15, a0), (0, a1), (99, 0), (99, 0)], [(0, 9999), (0, ((s2 (a0 + 5) 5) + a1))], s2) = some (9999 < (w32 ((s2 (a0 + 5) 5) + a1)), (42, [(15, a0), (0, a1), (99, 0), (99, 0)], [], s2), (49, [(15, a0), (0, a1), (99, 0), (99, 0)], [], s2)) from rfl) H (fun H => ?_) (fun H => ?_)
    · refine AT.seq [(42, .aload_n 0, 1, (0, 0, 0)), (43, .bipush 7, 2, (0, 0, 0))] (by decide +kernel) (show jrun _ (42, [(15, a0), (0, a1), (99, 0), (99, 0)], [], s2) = some ([], (45, [(15, a0), (0, a1), (99, 0), (99, 0)], [(0, 7), (15, a0)], s2)) from rfl) ?_
      obtain ⟨v4, s4, h4, H⟩ := jb_some H
      refine AT.callV (As := [(0, 7)]) (cl := 11) (b := a0) (st := []) (i := 322) (pos := 7116) kMd_refuse (by decide +kernel) rfl (by decide +kernel) rfl rfl (by omega) (Md_refuse_ok h4) ?_
      show AT sMd_minute 3 (48, [(15, a0), (0, a1), (99, 0), (99, 0)], [(0, v4)], s4) o
      exact AT.retiH (by decide +kernel) H
    · refine AT.row [(49, .aload_n 0, 1, (0, 0, 0)), (50, .getfield 35, 3, (5207, 1120, 0)), (53, .bipush 7, 2, (0, 0, 0)), (55, .iaload, 1, (0, 0, 0)), (56, .istore_n 2, 1, (0, 0, 0)), (57, .iconst 0, 1, (0, 0, 0)), (58, .istore_n 3, 1, (0, 0, 0))] (by decide +kernel) (show jrun _ (49, [(15, a0), (0, a1), (99, 0), (99, 0)], [], s2) = some ([(0 ≤ (7 : Int) ∧ (7 : Int) < 1905)], (59, [(15, a0), (0, a1), (0, (s2 (a0 + 5) 7)), (0, 0)], [], s2)) from rfl) (show (0 ≤ (7 : Int) ∧ (7 : Int) < 1905) from by decide) ?_
      exact Md_minute_59_ok  jFU _ _ _ _ _ H
def sMd_becomes : jS := (⟨"JellyCathedralModel", "becomes", "(II)Z"⟩, prog_13_method_104_code, 3, 3, [15, 0, 0], 0)
theorem kMd_becomes : jmk sMd_becomes = true := jmk_of 8014 1012 8013 110 (by decide +kernel)
set_option maxRecDepth 100000 in
theorem Md_becomes_ok {a0 a1 a2 : Int} {s : jM} {o : Int × jM} (H : Md_becomes a0 a1 a2 s = some o) : MK sMd_becomes 0 [(15, a0), (0, a1), (0, a2)] s o := by
  refine MK.of kMd_becomes rfl ?_
  show AT sMd_becomes 0 (0, [(15, a0), (0, a1), (0, a2)], [], s) o
  unfold Md_becomes at H
  refine AT.blk (g := (0 ≤ (w32 a1) ∧ (w32 a1) < 1905)) [(0, .aload_n 0, 1, (0, 0, 0)), (1, .getfield 35, 3, (5207, 1120, 0)), (4, .iload_n 1, 1, (0, 0, 0)), (5, .iaload, 1, (0, 0, 0)), (6, .iload_n 2, 1, (0, 0, 0))] (by decide +kernel) (show jrun _ (0, [(15, a0), (0, a1), (0, a2)], [], s) = some ([(0 ≤ (w32 a1) ∧ (w32 a1) < 1905)], (7, [(15, a0), (0, a1), (0, a2)], [(0, a2), (0, (s (a0 + 5) (w32 a1)))], s)) from rfl) (fun h => h) H (fun H => ?_)
  refine AT.ite (x := (0, 0, 0)) (by decide +kernel) (show jbr (.if_icmp .ne 5) (7, [(15, a0), (0, a1), (0, a2)], [(0, a2), (0, (s (a0 + 5) (w32 a1)))], s) = some ((w32 (s (a0 + 5) (w32 a1))) = (w32 a2), (10, [(15, a0), (0, a1), (0, a2)], [], s), (12, [(15, a0), (0, a1), (0, a2)], [], s)) from rfl) H (fun H => ?_) (fun H => ?_)
  · refine AT.seq [(10, .iconst 0, 1, (0, 0, 0))] (by decide +kernel) (show jrun _ (10, [(15, a0), (0, a1), (0, a2)], [], s) = some ([], (11, [(15, a0), (0, a1), (0, a2)], [(0, 0)], s)) from rfl) ?_
    exact AT.retzC (by decide +kernel) (by decide) H
  · refine AT.blk (g := (0 ≤ (w32 a1) ∧ (w32 a1) < 1905)) [(12, .aload_n 0, 1, (0, 0, 0)), (13, .getfield 35, 3, (5207, 1120, 0)), (16, .iload_n 1, 1, (0, 0, 0)), (17, .iload_n 2, 1, (0, 0, 0)), (18, .iastore, 1, (0, 0, 0)), (19, .iconst 1, 1, (0, 0, 0))] (by decide +kernel) (show jrun _ (12, [(15, a0), (0, a1), (0, a2)], [], s) = some ([(0 ≤ (w32 a1) ∧ (w32 a1) < 1905)], (20, [(15, a0), (0, a1), (0, a2)], [(0, 1)], (jup s (a0 + 5) (w32 a1) a2))) from rfl) (fun h => h) H (fun H => ?_)
    exact AT.retzC (by decide +kernel) (by decide) H
def sMd_warm : jS := (⟨"JellyCathedralModel", "warm", "(I)I"⟩, prog_13_method_105_code, 3, 1, [15, 0], 0)
theorem kMd_warm : jmk sMd_warm = true := jmk_of 8010 1012 8008 8009 (by decide +kernel)
set_option maxRecDepth 100000 in
theorem Md_warm_ok {a0 a1 : Int} {s : jM} {o : Int × jM} (H : Md_warm a0 a1 s = some o) : MK sMd_warm 1 [(15, a0), (0, a1)] s o := by
  refine MK.of kMd_warm rfl ?_
  show AT sMd_warm 1 (0, [(15, a0), (0, a1), (99, 0)], [], s) o
  unfold Md_warm at H
  refine AT.seq [(0, .aload_n 0, 1, (0, 0, 0)), (1, .iconst 0, 1, (0, 0, 0)), (2, .putfield 72, 3, (5188, 1101, 0)), (5, .aload_n 0, 1, (0, 0, 0)), (6, .iconst 0, 1, (0, 0, 0)), (7, .putfield 75, 3, (5187, 1100, 0)), (10, .iload_n 1, 1, (0, 0, 0)), (11, .i2l, 1, (0, 0, 0)), (12, .lconst 0, 1, (0, 0, 0)), (13, .ldc2_w 354, 3, (7172, 0, 9))] (by decide +kernel) (show jrun _ (0, [(15, a0), (0, a1), (99, 0)], [], s) = some ([], (16, [(15, a0), (0, a1), (99, 0)], [(1, 9), (1, 0), (1, (w32 a1))], (jup (jup s a0 1 0) a0 0 0))) from rfl) ?_
  obtain ⟨v1, s1, h1, H⟩ := jb_some H
  refine AT.callS (As := [(1, (w32 a1)), (1, 0), (1, 9)]) (st := []) (i := 107) (pos := 6204) kMd_isIn (by decide +kernel) rfl rfl rfl (by omega) (Md_isIn_ok h1) ?_
  show AT sMd_warm 1 (19, [(15, a0), (0, a1), (99, 0)], [(0, v1)], s1) o
  refine AT.ite (x := (0, 0, 0)) (by decide +kernel) (show jbr (.ifCond .ne 9) (19, [(15, a0), (0, a1), (99, 0)], [(0, v1)], s1) = some ((w32 v1) = 0, (22, [(15, a0), (0, a1), (99, 0)], [], s1), (28, [(15, a0), (0, a1), (99, 0)], [], s1)) from rfl) H (fun H => ?_) (fun H => ?_)
  · refine AT.seq [(22, .aload_n 0, 1, (0, 0, 0)), (23, .iconst 5, 1, (0, 0, 0))] (by decide +kernel) (show jrun _ (22, [(15, a0), (0, a1), (99, 0)], [], s1) = some ([], (24, [(15, a0), (0, a1), (99, 0)], [(0, 5), (15, a0)], s1)) from rfl) ?_
    obtain ⟨v2, s2, h2, H⟩ := jb_some H
    refine AT.callV (As := [(0, 5)]) (cl := 11) (b := a0) (st := []) (i := 322) (pos := 7116) kMd_refuse (by decide +kernel) rfl (by decide +kernel) rfl rfl (by omega) (Md_refuse_ok h2) ?_
    show AT sMd_warm 1 (27, [(15, a0), (0, a1), (99, 0)], [(0, v2)], s2) o
    exact AT.retiH (by decide +kernel) H
  · refine AT.row [(28, .aload_n 0, 1, (0, 0, 0)), (29, .getfield 35, 3, (5207, 1120, 0)), (32, .iconst 3, 1, (0, 0, 0)), (33, .iaload, 1, (0, 0, 0)), (34, .istore_n 2, 1, (0, 0, 0)), (35, .aload_n 0, 1, (0, 0, 0)), (36, .iconst 3, 1, (0, 0, 0)), (37, .iload_n 1, 1, (0, 0, 0))] (by decide +kernel) (show jrun _ (28, [(15, a0), (0, a1), (99, 0)], [], s1) = some ([(0 ≤ (3 : Int) ∧ (3 : Int) < 1905)], (38, [(15, a0), (0, a1), (0, (s1 (a0 + 5) 3))], [(0, a1), (0, 3), (15, a0)], s1)) from rfl) (show (0 ≤ (3 : Int) ∧ (3 : Int) < 1905) from by decide) ?_
    obtain ⟨v3, s3, h3, H⟩ := jb_some H
    refine AT.callV (As := [(0, 3), (0, a1)]) (cl := 11) (b := a0) (st := []) (i := 398) (pos := 8011) kMd_becomes (by decide +kernel) rfl (by decide +kernel) rfl rfl (by omega) (Md_becomes_ok h3) ?_
    show AT sMd_warm 1 (41, [(15, a0), (0, a1), (0, (s1 (a0 + 5) 3))], [(0, v3)], s3) o
    refine AT.ite (x := (0, 0, 0)) (by decide +kernel) (show jbr (.ifCond .eq 7) (41, [(15, a0), (0, a1), (0, (s1 (a0 + 5) 3))], [(0, v3)], s3) = some ((w32 v3) = 0, (48, [(15, a0), (0, a1), (0, (s1 (a0 + 5) 3))], [], s3), (44, [(15, a0), (0, a1), (0, (s1 (a0 + 5) 3))], [], s3)) from rfl) H (fun H => ?_) (fun H => ?_)
    · refine AT.seq [(48, .aload_n 0, 1, (0, 0, 0)), (49, .bipush 9, 2, (0, 0, 0))] (by decide +kernel) (show jrun _ (48, [(15, a0), (0, a1), (0, (s1 (a0 + 5) 3))], [], s3) = some ([], (51, [(15, a0), (0, a1), (0, (s1 (a0 + 5) 3))], [(0, 9), (15, a0)], s3)) from rfl) ?_
      obtain ⟨v4, s4, h4, H⟩ := jb_some H
      refine AT.callV (As := [(0, 9)]) (cl := 11) (b := a0) (st := []) (i := 322) (pos := 7116) kMd_refuse (by decide +kernel) rfl (by decide +kernel) rfl rfl (by omega) (Md_refuse_ok h4) ?_
      show AT sMd_warm 1 (54, [(15, a0), (0, a1), (0, (s1 (a0 + 5) 3))], [(0, v4)], s4) o
      exact AT.retiH (by decide +kernel) H
    · refine AT.seq [(44, .iload_n 2, 1, (0, 0, 0)), (45, .goto 9, 3, (0, 0, 0))] (by decide +kernel) (show jrun _ (44, [(15, a0), (0, a1), (0, (s1 (a0 + 5) 3))], [], s3) = some ([], (54, [(15, a0), (0, a1), (0, (s1 (a0 + 5) 3))], [(0, (s1 (a0 + 5) 3))], s3)) from rfl) ?_
      exact AT.retiH (by decide +kernel) H
def sMd_buy : jS := (⟨"JellyCathedralModel", "buy", "(II)I"⟩, prog_13_method_106_code, 3, 1, [15, 0, 0], 0)
theorem kMd_buy : jmk sMd_buy = true := jmk_of 8018 1012 8016 8017 (by decide +kernel)
set_option maxRecDepth 100000 in
theorem Md_buy_ok {a0 a1 a2 : Int} {s : jM} {o : Int × jM} (H : Md_buy a0 a1 a2 s = some o) : MK sMd_buy 2 [(15, a0), (0, a1), (0, a2)] s o := by
  refine MK.of kMd_buy rfl ?_
  show AT sMd_buy 2 (0, [(15, a0), (0, a1), (0, a2)], [], s) o
  unfold Md_buy at H
  refine AT.seq [(0, .aload_n 0, 1, (0, 0, 0)), (1, .iconst 0, 1, (0, 0, 0)), (2, .putfield 72, 3, (5188, 1101, 0)), (5, .aload_n 0, 1, (0, 0, 0)), (6, .iconst 0, 1, (0, 0, 0)), (7, .putfield 75, 3, (5187, 1100, 0)), (10, .aload_n 0, 1, (0, 0, 0)), (11, .iload_n 1, 1, (0, 0, 0))] (by decide +kernel) (show jrun _ (0, [(15, a0), (0, a1), (0, a2)], [], s) = some ([], (12, [(15, a0), (0, a1), (0, a2)], [(0, a1), (15, a0)], (jup (jup s a0 1 0) a0 0 0))) from rfl) ?_
  obtain ⟨v1, s1, h1, H⟩ := jb_some H
  refine AT.callV (As := [(0, a1)]) (cl := 11) (b := a0) (st := []) (i := 328) (pos := 7128) kMd_isStuffAt (by decide +kernel) rfl (by decide +kernel) rfl rfl (by omega) (Md_isStuffAt_ok h1) ?_
  show AT sMd_buy 2 (15, [(15, a0), (0, a1), (0, a2)], [(0, v1)], s1) o
  refine AT.ite (x := (0, 0, 0)) (by decide +kernel) (show jbr (.ifCond .ne 9) (15, [(15, a0), (0, a1), (0, a2)], [(0, v1)], s1) = some ((w32 v1) = 0, (18, [(15, a0), (0, a1), (0, a2)], [], s1), (24, [(15, a0), (0, a1), (0, a2)], [], s1)) from rfl) H (fun H => ?_) (fun H => ?_)
  · refine AT.seq [(18, .aload_n 0, 1, (0, 0, 0)), (19, .iconst 2, 1, (0, 0, 0))] (by decide +kernel) (show jrun _ (18, [(15, a0), (0, a1), (0, a2)], [], s1) = some ([], (20, [(15, a0), (0, a1), (0, a2)], [(0, 2), (15, a0)], s1)) from rfl) ?_
    obtain ⟨v2, s2, h2, H⟩ := jb_some H
    refine AT.callV (As := [(0, 2)]) (cl := 11) (b := a0) (st := []) (i := 322) (pos := 7116) kMd_refuse (by decide +kernel) rfl (by decide +kernel) rfl rfl (by omega) (Md_refuse_ok h2) ?_
    show AT sMd_buy 2 (23, [(15, a0), (0, a1), (0, a2)], [(0, v2)], s2) o
    exact AT.retiH (by decide +kernel) H
  · refine AT.seq [(24, .iload_n 2, 1, (0, 0, 0)), (25, .i2l, 1, (0, 0, 0)), (26, .lconst 1, 1, (0, 0, 0)), (27, .ldc2_w 393, 3, (8002, 0, 99))] (by decide +kernel) (show jrun _ (24, [(15, a0), (0, a1), (0, a2)], [], s1) = some ([], (30, [(15, a0), (0, a1), (0, a2)], [(1, 99), (1, 1), (1, (w32 a2))], s1)) from rfl) ?_
    obtain ⟨v3, s3, h3, H⟩ := jb_some H
    refine AT.callS (As := [(1, (w32 a2)), (1, 1), (1, 99)]) (st := []) (i := 107) (pos := 6204) kMd_isIn (by decide +kernel) rfl rfl rfl (by omega) (Md_isIn_ok h3) ?_
    show AT sMd_buy 2 (33, [(15, a0), (0, a1), (0, a2)], [(0, v3)], s3) o
    refine AT.ite (x := (0, 0, 0)) (by decide +kernel) (show jbr (.ifCond .ne 9) (33, [(15, a0), (0, a1), (0, a2)], [(0, v3)], s3) = some ((w32 v3) = 0, (36, [(15, a0), (0, a1), (0, a2)], [], s3), (42, [(15, a0), (0, a1), (0, a2)], [], s3)) from rfl) H (fun H => ?_) (fun H => ?_)
    · refine AT.seq [(36, .aload_n 0, 1, (0, 0, 0)), (37, .iconst 5, 1, (0, 0, 0))] (by decide +kernel) (show jrun _ (36, [(15, a0), (0, a1), (0, a2)], [], s3) = some ([], (38, [(15, a0), (0, a1), (0, a2)], [(0, 5), (15, a0)], s3)) from rfl) ?_
      obtain ⟨v4, s4, h4, H⟩ := jb_some H
      refine AT.callV (As := [(0, 5)]) (cl := 11) (b := a0) (st := []) (i := 322) (pos := 7116) kMd_refuse (by decide +kernel) rfl (by decide +kernel) rfl rfl (by omega) (Md_refuse_ok h4) ?_
      show AT sMd_buy 2 (41, [(15, a0), (0, a1), (0, a2)], [(0, v4)], s4) o
      exact AT.retiH (by decide +kernel) H
    · refine AT.blk (g := (0 ≤ (w32 (19 + a1)) ∧ (w32 (19 + a1)) < 1905)) [(42, .aload_n 0, 1, (0, 0, 0)), (43, .getfield 35, 3, (5207, 1120, 0)), (46, .bipush 19, 2, (0, 0, 0)), (48, .iload_n 1, 1, (0, 0, 0)), (49, .iadd, 1, (0, 0, 0)), (50, .iaload, 1, (0, 0, 0)), (51, .iload_n 2, 1, (0, 0, 0)), (52, .iadd, 1, (0, 0, 0)), (53, .sipush 999, 3, (0, 0, 0))] (by decide +kernel) (show jrun _ (42, [(15, a0), (0, a1), (0, a2)], [], s3) = some ([(0 ≤ (w32 (19 + a1)) ∧ (w32 (19 + a1)) < 1905)], (56, [(15, a0), (0, a1), (0, a2)], [(0, 999), (0, ((s3 (a0 + 5) (w32 (19 + a1))) + a2))], s3)) from rfl) (fun h => h) H (fun H => ?_)
      refine AT.ite (x := (0, 0, 0)) (by decide +kernel) (show jbr (.if_icmp .le 10) (56, [(15, a0), (0, a1), (0, a2)], [(0, 999), (0, ((s3 (a0 + 5) (w32 (19 + a1))) + a2))], s3) = some (999 < (w32 ((s3 (a0 + 5) (w32 (19 + a1))) + a2)), (59, [(15, a0), (0, a1), (0, a2)], [], s3), (66, [(15, a0), (0, a1), (0, a2)], [], s3)) from rfl) H (fun H => ?_) (fun H => ?_)
      · refine AT.seq [(59, .aload_n 0, 1, (0, 0, 0)), (60, .bipush 7, 2, (0, 0, 0))] (by decide +kernel) (show jrun _ (59, [(15, a0), (0, a1), (0, a2)], [], s3) = some ([], (62, [(15, a0), (0, a1), (0, a2)], [(0, 7), (15, a0)], s3)) from rfl) ?_
        obtain ⟨v5, s5, h5, H⟩ := jb_some H
        refine AT.callV (As := [(0, 7)]) (cl := 11) (b := a0) (st := []) (i := 322) (pos := 7116) kMd_refuse (by decide +kernel) rfl (by decide +kernel) rfl rfl (by omega) (Md_refuse_ok h5) ?_
        show AT sMd_buy 2 (65, [(15, a0), (0, a1), (0, a2)], [(0, v5)], s5) o
        exact AT.retiH (by decide +kernel) H
      · refine AT.blk (g := (0 ≤ (w32 (19 + a1)) ∧ (w32 (19 + a1)) < 1905) ∧ (0 ≤ (w32 (19 + a1)) ∧ (w32 (19 + a1)) < 1905) ∧ (0 ≤ (w32 (19 + a1)) ∧ (w32 (19 + a1)) < 1905)) [(66, .aload_n 0, 1, (0, 0, 0)), (67, .getfield 35, 3, (5207, 1120, 0)), (70, .bipush 19, 2, (0, 0, 0)), (72, .iload_n 1, 1, (0, 0, 0)), (73, .iadd, 1, (0, 0, 0)), (74, .dup2, 1, (0, 0, 0)), (75, .iaload, 1, (0, 0, 0)), (76, .iload_n 2, 1, (0, 0, 0)), (77, .iadd, 1, (0, 0, 0)), (78, .iastore, 1, (0, 0, 0)), (79, .aload_n 0, 1, (0, 0, 0)), (80, .getfield 35, 3, (5207, 1120, 0)), (83, .bipush 19, 2, (0, 0, 0)), (85, .iload_n 1, 1, (0, 0, 0)), (86, .iadd, 1, (0, 0, 0)), (87, .iaload, 1, (0, 0, 0))] (by decide +kernel) (show jrun _ (66, [(15, a0), (0, a1), (0, a2)], [], s3) = some ([(0 ≤ (w32 (19 + a1)) ∧ (w32 (19 + a1)) < 1905), (0 ≤ (w32 (19 + a1)) ∧ (w32 (19 + a1)) < 1905), (0 ≤ (w32 (19 + a1)) ∧ (w32 (19 + a1)) < 1905)], (88, [(15, a0), (0, a1), (0, a2)], [(0, ((jup s3 (a0 + 5) (w32 (19 + a1)) ((s3 (a0 + 5) (w32 (19 + a1))) + a2)) (a0 + 5) (w32 (19 + a1))))], (jup s3 (a0 + 5) (w32 (19 + a1)) ((s3 (a0 + 5) (w32 (19 + a1))) + a2)))) from rfl) (fun h => ⟨h.1, h.2.1, h.2.2⟩) H (fun H => ?_)
        exact AT.retiH (by decide +kernel) H
def sMd_rule : jS := (⟨"JellyCathedralModel", "rule", "(I)Z"⟩, prog_13_method_107_code, 2, 3, [15, 0], 0)
theorem kMd_rule : jmk sMd_rule = true := jmk_of 8022 1012 8020 8021 (by decide +kernel)
set_option maxRecDepth 100000 in
theorem Md_rule_ok {a0 a1 : Int} {s : jM} {o : Int × jM} (H : Md_rule a0 a1 s = some o) : MK sMd_rule 1 [(15, a0), (0, a1)] s o := by
  refine MK.of kMd_rule rfl ?_
  show AT sMd_rule 1 (0, [(15, a0), (0, a1)], [], s) o
  unfold Md_rule at H
  refine AT.seq [(0, .aload_n 0, 1, (0, 0, 0)), (1, .iconst 0, 1, (0, 0, 0)), (2, .putfield 72, 3, (5188, 1101, 0)), (5, .aload_n 0, 1, (0, 0, 0)), (6, .iconst 0, 1, (0, 0, 0)), (7, .putfield 75, 3, (5187, 1100, 0)), (10, .iload_n 1, 1, (0, 0, 0)), (11, .i2l, 1, (0, 0, 0)), (12, .lconst 0, 1, (0, 0, 0)), (13, .ldc2_w 401, 3, (8023, 0, 16))] (by decide +kernel) (show jrun _ (0, [(15, a0), (0, a1)], [], s) = some ([], (16, [(15, a0), (0, a1)], [(1, 16), (1, 0), (1, (w32 a1))], (jup (jup s a0 1 0) a0 0 0))) from rfl) ?_
  obtain ⟨v1, s1, h1, H⟩ := jb_some H
  refine AT.callS (As := [(1, (w32 a1)), (1, 0), (1, 16)]) (st := []) (i := 107) (pos := 6204) kMd_isIn (by decide +kernel) rfl rfl rfl (by omega) (Md_isIn_ok h1) ?_
  show AT sMd_rule 1 (19, [(15, a0), (0, a1)], [(0, v1)], s1) o
  refine AT.ite (x := (0, 0, 0)) (by decide +kernel) (show jbr (.ifCond .ne 9) (19, [(15, a0), (0, a1)], [(0, v1)], s1) = some ((w32 v1) = 0, (22, [(15, a0), (0, a1)], [], s1), (28, [(15, a0), (0, a1)], [], s1)) from rfl) H (fun H => ?_) (fun H => ?_)
  · refine AT.seq [(22, .aload_n 0, 1, (0, 0, 0)), (23, .iconst 5, 1, (0, 0, 0))] (by decide +kernel) (show jrun _ (22, [(15, a0), (0, a1)], [], s1) = some ([], (24, [(15, a0), (0, a1)], [(0, 5), (15, a0)], s1)) from rfl) ?_
    obtain ⟨v2, s2, h2, H⟩ := jb_some H
    refine AT.callV (As := [(0, 5)]) (cl := 11) (b := a0) (st := []) (i := 87) (pos := 6102) kMd_no (by decide +kernel) rfl (by decide +kernel) rfl rfl (by omega) (Md_no_ok h2) ?_
    show AT sMd_rule 1 (27, [(15, a0), (0, a1)], [(0, v2)], s2) o
    exact AT.retzH (by decide +kernel) H
  · refine AT.row [(28, .aload_n 0, 1, (0, 0, 0)), (29, .getfield 35, 3, (5207, 1120, 0)), (32, .iconst 4, 1, (0, 0, 0)), (33, .iload_n 1, 1, (0, 0, 0)), (34, .iastore, 1, (0, 0, 0)), (35, .iconst 1, 1, (0, 0, 0))] (by decide +kernel) (show jrun _ (28, [(15, a0), (0, a1)], [], s1) = some ([(0 ≤ (4 : Int) ∧ (4 : Int) < 1905)], (36, [(15, a0), (0, a1)], [(0, 1)], (jup s1 (a0 + 5) 4 a1))) from rfl) (show (0 ≤ (4 : Int) ∧ (4 : Int) < 1905) from by decide) ?_
    exact AT.retzC (by decide +kernel) (by decide) H
def sMd_puts : jS := (⟨"JellyCathedralModel", "puts", "()V"⟩, prog_13_method_108_code, 2, 0, [15], 0)
theorem kMd_puts : jmk sMd_puts = true := jmk_of 8032 1012 8031 111 (by decide +kernel)
set_option maxRecDepth 100000 in
theorem Md_puts_2_ok {o : Int × jM} : ∀ (n : Nat) (x0 x1 : Int) (s : jM), Md_puts_2  n x0 x1 s = some o → AT sMd_puts 0 (2, [(15, x0), (0, x1)], [], s) o := by
  intro n
  induction n with
  | zero =>
    intro x0 x1 s H
    have H : (none : Option (Int × jM)) = some o := H
    cases H
  | succ n ih =>
    intro x0 x1 s H
    rw [Md_puts_2] at H
    refine AT.seq [(2, .iload_n 1, 1, (0, 0, 0)), (3, .bipush 109, 2, (0, 0, 0))] (by decide +kernel) (show jrun _ (2, [(15, x0), (0, x1)], [], s) = some ([], (5, [(15, x0), (0, x1)], [(0, 109), (0, x1)], s)) from rfl) ?_
    refine AT.ite (x := (0, 0, 0)) (by decide +kernel) (show jbr (.if_icmp .ge 21) (5, [(15, x0), (0, x1)], [(0, 109), (0, x1)], s) = some ((w32 x1) < 109, (8, [(15, x0), (0, x1)], [], s), (26, [(15, x0), (0, x1)], [], s)) from rfl) H (fun H => ?_) (fun H => ?_)
    · refine AT.blk (g := (0 ≤ (w32 x1) ∧ (w32 x1) < 1905) ∧ (0 ≤ (w32 x1) ∧ (w32 x1) < 109)) [(8, .aload_n 0, 1, (0, 0, 0)), (9, .getfield 38, 3, (5208, 1121, 0)), (12, .iload_n 1, 1, (0, 0, 0)), (13, .aload_n 0, 1, (0, 0, 0)), (14, .getfield 35, 3, (5207, 1120, 0)), (17, .iload_n 1, 1, (0, 0, 0)), (18, .iaload, 1, (0, 0, 0)), (19, .iastore, 1, (0, 0, 0)), (20, .iinc 1 1, 3, (0, 0, 0)), (23, .goto (-21), 3, (0, 0, 0))] (by decide +kernel) (show jrun _ (8, [(15, x0), (0, x1)], [], s) = some ([(0 ≤ (w32 x1) ∧ (w32 x1) < 1905), (0 ≤ (w32 x1) ∧ (w32 x1) < 109)], (2, [(15, x0), (0, (x1 + 1))], [], (jup s (x0 + 6) (w32 x1) (s (x0 + 5) (w32 x1))))) from rfl) (fun h => ⟨h.1, h.2⟩) H (fun H => ?_)
      exact ih _ _ _ H
    · exact AT.retvH (by decide +kernel) H
set_option maxRecDepth 100000 in
theorem Md_puts_ok {a0 : Int} {s : jM} {o : Int × jM} (H : Md_puts a0 s = some o) : MK sMd_puts 0 [(15, a0)] s o := by
  refine MK.of kMd_puts rfl ?_
  show AT sMd_puts 0 (0, [(15, a0), (99, 0)], [], s) o
  unfold Md_puts at H
  refine AT.seq [(0, .iconst 0, 1, (0, 0, 0)), (1, .istore_n 1, 1, (0, 0, 0))] (by decide +kernel) (show jrun _ (0, [(15, a0), (99, 0)], [], s) = some ([], (2, [(15, a0), (0, 0)], [], s)) from rfl) ?_
  exact Md_puts_2_ok  jFU _ _ _ H
def sMd_gives : jS := (⟨"JellyCathedralModel", "gives", "()V"⟩, prog_13_method_109_code, 2, 0, [15], 0)
theorem kMd_gives : jmk sMd_gives = true := jmk_of 8036 1012 8035 112 (by decide +kernel)
set_option maxRecDepth 100000 in
theorem Md_gives_2_ok {o : Int × jM} : ∀ (n : Nat) (x0 x1 : Int) (s : jM), Md_gives_2  n x0 x1 s = some o → AT sMd_gives 0 (2, [(15, x0), (0, x1)], [], s) o := by
  intro n
  induction n with
  | zero =>
    intro x0 x1 s H
    have H : (none : Option (Int × jM)) = some o := H
    cases H
  | succ n ih =>
    intro x0 x1 s H
    rw [Md_gives_2] at H
    refine AT.seq [(2, .iload_n 1, 1, (0, 0, 0)), (3, .bipush 109, 2, (0, 0, 0))] (by decide +kernel) (show jrun _ (2, [(15, x0), (0, x1)], [], s) = some ([], (5, [(15, x0), (0, x1)], [(0, 109), (0, x1)], s)) from rfl) ?_
    refine AT.ite (x := (0, 0, 0)) (by decide +kernel) (show jbr (.if_icmp .ge 21) (5, [(15, x0), (0, x1)], [(0, 109), (0, x1)], s) = some ((w32 x1) < 109, (8, [(15, x0), (0, x1)], [], s), (26, [(15, x0), (0, x1)], [], s)) from rfl) H (fun H => ?_) (fun H => ?_)
    · refine AT.blk (g := (0 ≤ (w32 x1) ∧ (w32 x1) < 109) ∧ (0 ≤ (w32 x1) ∧ (w32 x1) < 1905)) [(8, .aload_n 0, 1, (0, 0, 0)), (9, .getfield 35, 3, (5207, 1120, 0)), (12, .iload_n 1, 1, (0, 0, 0)), (13, .aload_n 0, 1, (0, 0, 0)), (14, .getfield 38, 3, (5208, 1121, 0)), (17, .iload_n 1, 1, (0, 0, 0)), (18, .iaload, 1, (0, 0, 0)), (19, .iastore, 1, (0, 0, 0)), (20, .iinc 1 1, 3, (0, 0, 0)), (23, .goto (-21), 3, (0, 0, 0))] (by decide +kernel) (show jrun _ (8, [(15, x0), (0, x1)], [], s) = some ([(0 ≤ (w32 x1) ∧ (w32 x1) < 109), (0 ≤ (w32 x1) ∧ (w32 x1) < 1905)], (2, [(15, x0), (0, (x1 + 1))], [], (jup s (x0 + 5) (w32 x1) (s (x0 + 6) (w32 x1))))) from rfl) (fun h => ⟨h.1, h.2⟩) H (fun H => ?_)
      exact ih _ _ _ H
    · exact AT.retvH (by decide +kernel) H
set_option maxRecDepth 100000 in
theorem Md_gives_ok {a0 : Int} {s : jM} {o : Int × jM} (H : Md_gives a0 s = some o) : MK sMd_gives 0 [(15, a0)] s o := by
  refine MK.of kMd_gives rfl ?_
  show AT sMd_gives 0 (0, [(15, a0), (99, 0)], [], s) o
  unfold Md_gives at H
  refine AT.seq [(0, .iconst 0, 1, (0, 0, 0)), (1, .istore_n 1, 1, (0, 0, 0))] (by decide +kernel) (show jrun _ (0, [(15, a0), (99, 0)], [], s) = some ([], (2, [(15, a0), (0, 0)], [], s)) from rfl) ?_
  exact Md_gives_2_ok  jFU _ _ _ H
def sMd_firmIn : jS := (⟨"JellyCathedralModel", "firmIn", "(II)I"⟩, prog_13_method_110_code, 4, 1, [15, 0, 0], 0)
theorem kMd_firmIn : jmk sMd_firmIn = true := jmk_of 8027 1012 8025 8026 (by decide +kernel)
set_option maxRecDepth 100000 in
theorem Md_firmIn_48_ok {o : Int × jM} : ∀ (n : Nat) (x0 x1 x2 x3 : Int) (s : jM), Md_firmIn_48  n x0 x1 x2 x3 s = some o → AT sMd_firmIn 3 (48, [(15, x0), (0, x1), (0, x2), (0, x3)], [], s) o := by
  intro n
  induction n with
  | zero =>
    intro x0 x1 x2 x3 s H
    have H : (none : Option (Int × jM)) = some o := H
    cases H
  | succ n ih =>
    intro x0 x1 x2 x3 s H
    rw [Md_firmIn_48] at H
    refine AT.seq [(48, .iload_n 3, 1, (0, 0, 0)), (49, .iload_n 2, 1, (0, 0, 0))] (by decide +kernel) (show jrun _ (48, [(15, x0), (0, x1), (0, x2), (0, x3)], [], s) = some ([], (50, [(15, x0), (0, x1), (0, x2), (0, x3)], [(0, x2), (0, x3)], s)) from rfl) ?_
    refine AT.ite (x := (0, 0, 0)) (by decide +kernel) (show jbr (.if_icmp .ge 13) (50, [(15, x0), (0, x1), (0, x2), (0, x3)], [(0, x2), (0, x3)], s) = some ((w32 x3) < (w32 x2), (53, [(15, x0), (0, x1), (0, x2), (0, x3)], [], s), (63, [(15, x0), (0, x1), (0, x2), (0, x3)], [], s)) from rfl) H (fun H => ?_) (fun H => ?_)
    · refine AT.seq [(53, .aload_n 0, 1, (0, 0, 0))] (by decide +kernel) (show jrun _ (53, [(15, x0), (0, x1), (0, x2), (0, x3)], [], s) = some ([], (54, [(15, x0), (0, x1), (0, x2), (0, x3)], [(15, x0)], s)) from rfl) ?_
      obtain ⟨v1, s1, h1, H⟩ := jb_some H
      refine AT.callV (As := []) (cl := 11) (b := x0) (st := []) (i := 395) (pos := 8003) kMd_goesMinute (by decide +kernel) rfl (by decide +kernel) rfl rfl (by omega) (Md_goesMinute_ok h1) ?_
      show AT sMd_firmIn 3 (57, [(15, x0), (0, x1), (0, x2), (0, x3)], [], s1) o
      refine AT.seq [(57, .iinc 3 1, 3, (0, 0, 0)), (60, .goto (-12), 3, (0, 0, 0))] (by decide +kernel) (show jrun _ (57, [(15, x0), (0, x1), (0, x2), (0, x3)], [], s1) = some ([], (48, [(15, x0), (0, x1), (0, x2), (0, (x3 + 1))], [], s1)) from rfl) ?_
      exact ih _ _ _ _ _ H
    · refine AT.blk (g := (0 ≤ (w32 (74 + x1)) ∧ (w32 (74 + x1)) < 1905)) [(63, .aload_n 0, 1, (0, 0, 0)), (64, .getfield 35, 3, (5207, 1120, 0)), (67, .bipush 74, 2, (0, 0, 0)), (69, .iload_n 1, 1, (0, 0, 0)), (70, .iadd, 1, (0, 0, 0)), (71, .iaload, 1, (0, 0, 0)), (72, .istore_n 3, 1, (0, 0, 0)), (73, .aload_n 0, 1, (0, 0, 0))] (by decide +kernel) (show jrun _ (63, [(15, x0), (0, x1), (0, x2), (0, x3)], [], s) = some ([(0 ≤ (w32 (74 + x1)) ∧ (w32 (74 + x1)) < 1905)], (74, [(15, x0), (0, x1), (0, x2), (0, (s (x0 + 5) (w32 (74 + x1))))], [(15, x0)], s)) from rfl) (fun h => h) H (fun H => ?_)
      obtain ⟨v2, s2, h2, H⟩ := jb_some H
      refine AT.callV (As := []) (cl := 11) (b := x0) (st := []) (i := 408) (pos := 8033) kMd_gives (by decide +kernel) rfl (by decide +kernel) rfl rfl (by omega) (Md_gives_ok h2) ?_
      show AT sMd_firmIn 3 (77, [(15, x0), (0, x1), (0, x2), (0, (s (x0 + 5) (w32 (74 + x1))))], [], s2) o
      refine AT.seq [(77, .iload_n 3, 1, (0, 0, 0))] (by decide +kernel) (show jrun _ (77, [(15, x0), (0, x1), (0, x2), (0, (s (x0 + 5) (w32 (74 + x1))))], [], s2) = some ([], (78, [(15, x0), (0, x1), (0, x2), (0, (s (x0 + 5) (w32 (74 + x1))))], [(0, (s (x0 + 5) (w32 (74 + x1))))], s2)) from rfl) ?_
      exact AT.retiH (by decide +kernel) H
set_option maxRecDepth 100000 in
theorem Md_firmIn_ok {a0 a1 a2 : Int} {s : jM} {o : Int × jM} (H : Md_firmIn a0 a1 a2 s = some o) : MK sMd_firmIn 3 [(15, a0), (0, a1), (0, a2)] s o := by
  refine MK.of kMd_firmIn rfl ?_
  show AT sMd_firmIn 3 (0, [(15, a0), (0, a1), (0, a2), (99, 0)], [], s) o
  unfold Md_firmIn at H
  refine AT.seq [(0, .aload_n 0, 1, (0, 0, 0)), (1, .iconst 0, 1, (0, 0, 0)), (2, .putfield 72, 3, (5188, 1101, 0)), (5, .aload_n 0, 1, (0, 0, 0)), (6, .iconst 0, 1, (0, 0, 0)), (7, .putfield 75, 3, (5187, 1100, 0)), (10, .aload_n 0, 1, (0, 0, 0)), (11, .iload_n 1, 1, (0, 0, 0))] (by decide +kernel) (show jrun _ (0, [(15, a0), (0, a1), (0, a2), (99, 0)], [], s) = some ([], (12, [(15, a0), (0, a1), (0, a2), (99, 0)], [(0, a1), (15, a0)], (jup (jup s a0 1 0) a0 0 0))) from rfl) ?_
  obtain ⟨v3, s3, h3, H⟩ := jb_some H
  refine AT.callV (As := [(0, a1)]) (cl := 11) (b := a0) (st := []) (i := 333) (pos := 7137) kMd_isMouldAt (by decide +kernel) rfl (by decide +kernel) rfl rfl (by omega) (Md_isMouldAt_ok h3) ?_
  show AT sMd_firmIn 3 (15, [(15, a0), (0, a1), (0, a2), (99, 0)], [(0, v3)], s3) o
  refine AT.ite (x := (0, 0, 0)) (by decide +kernel) (show jbr (.ifCond .ne 9) (15, [(15, a0), (0, a1), (0, a2), (99, 0)], [(0, v3)], s3) = some ((w32 v3) = 0, (18, [(15, a0), (0, a1), (0, a2), (99, 0)], [], s3), (24, [(15, a0), (0, a1), (0, a2), (99, 0)], [], s3)) from rfl) H (fun H => ?_) (fun H => ?_)
  · refine AT.seq [(18, .aload_n 0, 1, (0, 0, 0)), (19, .iconst 2, 1, (0, 0, 0))] (by decide +kernel) (show jrun _ (18, [(15, a0), (0, a1), (0, a2), (99, 0)], [], s3) = some ([], (20, [(15, a0), (0, a1), (0, a2), (99, 0)], [(0, 2), (15, a0)], s3)) from rfl) ?_
    obtain ⟨v4, s4, h4, H⟩ := jb_some H
    refine AT.callV (As := [(0, 2)]) (cl := 11) (b := a0) (st := []) (i := 322) (pos := 7116) kMd_refuse (by decide +kernel) rfl (by decide +kernel) rfl rfl (by omega) (Md_refuse_ok h4) ?_
    show AT sMd_firmIn 3 (23, [(15, a0), (0, a1), (0, a2), (99, 0)], [(0, v4)], s4) o
    exact AT.retiH (by decide +kernel) H
  · refine AT.seq [(24, .iload_n 2, 1, (0, 0, 0)), (25, .i2l, 1, (0, 0, 0)), (26, .lconst 0, 1, (0, 0, 0)), (27, .ldc2_w 403, 3, (8028, 0, 300))] (by decide +kernel) (show jrun _ (24, [(15, a0), (0, a1), (0, a2), (99, 0)], [], s3) = some ([], (30, [(15, a0), (0, a1), (0, a2), (99, 0)], [(1, 300), (1, 0), (1, (w32 a2))], s3)) from rfl) ?_
    obtain ⟨v5, s5, h5, H⟩ := jb_some H
    refine AT.callS (As := [(1, (w32 a2)), (1, 0), (1, 300)]) (st := []) (i := 107) (pos := 6204) kMd_isIn (by decide +kernel) rfl rfl rfl (by omega) (Md_isIn_ok h5) ?_
    show AT sMd_firmIn 3 (33, [(15, a0), (0, a1), (0, a2), (99, 0)], [(0, v5)], s5) o
    refine AT.ite (x := (0, 0, 0)) (by decide +kernel) (show jbr (.ifCond .ne 9) (33, [(15, a0), (0, a1), (0, a2), (99, 0)], [(0, v5)], s5) = some ((w32 v5) = 0, (36, [(15, a0), (0, a1), (0, a2), (99, 0)], [], s5), (42, [(15, a0), (0, a1), (0, a2), (99, 0)], [], s5)) from rfl) H (fun H => ?_) (fun H => ?_)
    · refine AT.seq [(36, .aload_n 0, 1, (0, 0, 0)), (37, .iconst 5, 1, (0, 0, 0))] (by decide +kernel) (show jrun _ (36, [(15, a0), (0, a1), (0, a2), (99, 0)], [], s5) = some ([], (38, [(15, a0), (0, a1), (0, a2), (99, 0)], [(0, 5), (15, a0)], s5)) from rfl) ?_
      obtain ⟨v6, s6, h6, H⟩ := jb_some H
      refine AT.callV (As := [(0, 5)]) (cl := 11) (b := a0) (st := []) (i := 322) (pos := 7116) kMd_refuse (by decide +kernel) rfl (by decide +kernel) rfl rfl (by omega) (Md_refuse_ok h6) ?_
      show AT sMd_firmIn 3 (41, [(15, a0), (0, a1), (0, a2), (99, 0)], [(0, v6)], s6) o
      exact AT.retiH (by decide +kernel) H
    · refine AT.seq [(42, .aload_n 0, 1, (0, 0, 0))] (by decide +kernel) (show jrun _ (42, [(15, a0), (0, a1), (0, a2), (99, 0)], [], s5) = some ([], (43, [(15, a0), (0, a1), (0, a2), (99, 0)], [(15, a0)], s5)) from rfl) ?_
      obtain ⟨v7, s7, h7, H⟩ := jb_some H
      refine AT.callV (As := []) (cl := 11) (b := a0) (st := []) (i := 405) (pos := 8029) kMd_puts (by decide +kernel) rfl (by decide +kernel) rfl rfl (by omega) (Md_puts_ok h7) ?_
      show AT sMd_firmIn 3 (46, [(15, a0), (0, a1), (0, a2), (99, 0)], [], s7) o
      refine AT.seq [(46, .iconst 0, 1, (0, 0, 0)), (47, .istore_n 3, 1, (0, 0, 0))] (by decide +kernel) (show jrun _ (46, [(15, a0), (0, a1), (0, a2), (99, 0)], [], s7) = some ([], (48, [(15, a0), (0, a1), (0, a2), (0, 0)], [], s7)) from rfl) ?_
      exact Md_firmIn_48_ok  jFU _ _ _ _ _ H
def sMd_fallIn : jS := (⟨"JellyCathedralModel", "fallIn", "()I"⟩, prog_13_method_111_code, 3, 1, [15], 0)
theorem kMd_fallIn : jmk sMd_fallIn = true := jmk_of 8040 1012 8038 8039 (by decide +kernel)
set_option maxRecDepth 100000 in
theorem Md_fallIn_49_ok {o : Int × jM} {x0 x1 : Int} {s : jM} (H : Md_fallIn_49  x0 x1 s = some o) : AT sMd_fallIn 3 (49, [(15, x0), (0, x1), (99, 0)], [], s) o := by
  unfold Md_fallIn_49 at H
  refine AT.seq [(49, .aload_n 0, 1, (0, 0, 0))] (by decide +kernel) (show jrun _ (49, [(15, x0), (0, x1), (99, 0)], [], s) = some ([], (50, [(15, x0), (0, x1), (99, 0)], [(15, x0)], s)) from rfl) ?_
  obtain ⟨v1, s1, h1, H⟩ := jb_some H
  refine AT.callV (As := []) (cl := 11) (b := x0) (st := []) (i := 408) (pos := 8033) kMd_gives (by decide +kernel) rfl (by decide +kernel) rfl rfl (by omega) (Md_gives_ok h1) ?_
  show AT sMd_fallIn 3 (53, [(15, x0), (0, x1), (99, 0)], [], s1) o
  refine AT.seq [(53, .iload_n 1, 1, (0, 0, 0))] (by decide +kernel) (show jrun _ (53, [(15, x0), (0, x1), (99, 0)], [], s1) = some ([], (54, [(15, x0), (0, x1), (99, 0)], [(0, x1)], s1)) from rfl) ?_
  refine AT.ite (x := (0, 0, 0)) (by decide +kernel) (show jbr (.ifCond .ge 12) (54, [(15, x0), (0, x1), (99, 0)], [(0, x1)], s1) = some ((w32 x1) < 0, (57, [(15, x0), (0, x1), (99, 0)], [], s1), (66, [(15, x0), (0, x1), (99, 0)], [], s1)) from rfl) H (fun H => ?_) (fun H => ?_)
  · refine AT.seq [(57, .aload_n 0, 1, (0, 0, 0)), (58, .bipush 8, 2, (0, 0, 0))] (by decide +kernel) (show jrun _ (57, [(15, x0), (0, x1), (99, 0)], [], s1) = some ([], (60, [(15, x0), (0, x1), (99, 0)], [(0, 8), (15, x0)], s1)) from rfl) ?_
    obtain ⟨v2, s2, h2, H⟩ := jb_some H
    refine AT.callV (As := [(0, 8)]) (cl := 11) (b := x0) (st := []) (i := 322) (pos := 7116) kMd_refuse (by decide +kernel) rfl (by decide +kernel) rfl rfl (by omega) (Md_refuse_ok h2) ?_
    show AT sMd_fallIn 3 (63, [(15, x0), (0, x1), (99, 0)], [(0, v2)], s2) o
    refine AT.seq [(63, .goto 4, 3, (0, 0, 0))] (by decide +kernel) (show jrun _ (63, [(15, x0), (0, x1), (99, 0)], [(0, v2)], s2) = some ([], (67, [(15, x0), (0, x1), (99, 0)], [(0, v2)], s2)) from rfl) ?_
    exact AT.retiH (by decide +kernel) H
  · refine AT.seq [(66, .iload_n 1, 1, (0, 0, 0))] (by decide +kernel) (show jrun _ (66, [(15, x0), (0, x1), (99, 0)], [], s1) = some ([], (67, [(15, x0), (0, x1), (99, 0)], [(0, x1)], s1)) from rfl) ?_
    exact AT.retiH (by decide +kernel) H
set_option maxRecDepth 100000 in
theorem Md_fallIn_18_ok {o : Int × jM} : ∀ (n : Nat) (x0 x1 x2 : Int) (s : jM), Md_fallIn_18  n x0 x1 x2 s = some o → AT sMd_fallIn 3 (18, [(15, x0), (0, x1), (0, x2)], [], s) o := by
  intro n
  induction n with
  | zero =>
    intro x0 x1 x2 s H
    have H : (none : Option (Int × jM)) = some o := H
    cases H
  | succ n ih =>
    intro x0 x1 x2 s H
    rw [Md_fallIn_18] at H
    refine AT.seq [(18, .iload_n 2, 1, (0, 0, 0)), (19, .sipush 300, 3, (0, 0, 0))] (by decide +kernel) (show jrun _ (18, [(15, x0), (0, x1), (0, x2)], [], s) = some ([], (22, [(15, x0), (0, x1), (0, x2)], [(0, 300), (0, x2)], s)) from rfl) ?_
    refine AT.ite (x := (0, 0, 0)) (by decide +kernel) (show jbr (.if_icmp .gt 27) (22, [(15, x0), (0, x1), (0, x2)], [(0, 300), (0, x2)], s) = some (300 < (w32 x2), (49, [(15, x0), (0, x1), (0, x2)], [], s), (25, [(15, x0), (0, x1), (0, x2)], [], s)) from rfl) H (fun H => ?_) (fun H => ?_)
    · exact AT.weak (L' := [(15, x0), (0, x1), (99, 0)]) (jleK (jleK (jleJ jle0))) (Md_fallIn_49_ok  H)
    · refine AT.seq [(25, .iload_n 1, 1, (0, 0, 0))] (by decide +kernel) (show jrun _ (25, [(15, x0), (0, x1), (0, x2)], [], s) = some ([], (26, [(15, x0), (0, x1), (0, x2)], [(0, x1)], s)) from rfl) ?_
      refine AT.ite (x := (0, 0, 0)) (by decide +kernel) (show jbr (.ifCond .ge 23) (26, [(15, x0), (0, x1), (0, x2)], [(0, x1)], s) = some ((w32 x1) < 0, (29, [(15, x0), (0, x1), (0, x2)], [], s), (49, [(15, x0), (0, x1), (0, x2)], [], s)) from rfl) H (fun H => ?_) (fun H => ?_)
      · refine AT.seq [(29, .aload_n 0, 1, (0, 0, 0)), (30, .iconst 2, 1, (0, 0, 0))] (by decide +kernel) (show jrun _ (29, [(15, x0), (0, x1), (0, x2)], [], s) = some ([], (31, [(15, x0), (0, x1), (0, x2)], [(0, 2), (15, x0)], s)) from rfl) ?_
        obtain ⟨v3, s3, h3, H⟩ := jb_some H
        refine AT.callV (As := [(0, 2)]) (cl := 11) (b := x0) (st := []) (i := 325) (pos := 7120) kMd_areIn (by decide +kernel) rfl (by decide +kernel) rfl rfl (by omega) (Md_areIn_ok h3) ?_
        show AT sMd_fallIn 3 (34, [(15, x0), (0, x1), (0, x2)], [(0, v3)], s3) o
        refine AT.ite (x := (0, 0, 0)) (by decide +kernel) (show jbr (.ifCond .ne 5) (34, [(15, x0), (0, x1), (0, x2)], [(0, v3)], s3) = some ((w32 v3) = 0, (37, [(15, x0), (0, x1), (0, x2)], [], s3), (39, [(15, x0), (0, x1), (0, x2)], [], s3)) from rfl) H (fun H => ?_) (fun H => ?_)
        · refine AT.seq [(37, .iload_n 2, 1, (0, 0, 0)), (38, .istore_n 1, 1, (0, 0, 0)), (39, .aload_n 0, 1, (0, 0, 0))] (by decide +kernel) (show jrun _ (37, [(15, x0), (0, x1), (0, x2)], [], s3) = some ([], (40, [(15, x0), (0, x2), (0, x2)], [(15, x0)], s3)) from rfl) ?_
          obtain ⟨v4, s4, h4, H⟩ := jb_some H
          refine AT.callV (As := []) (cl := 11) (b := x0) (st := []) (i := 395) (pos := 8003) kMd_goesMinute (by decide +kernel) rfl (by decide +kernel) rfl rfl (by omega) (Md_goesMinute_ok h4) ?_
          show AT sMd_fallIn 3 (43, [(15, x0), (0, x2), (0, x2)], [], s4) o
          refine AT.seq [(43, .iinc 2 1, 3, (0, 0, 0)), (46, .goto (-28), 3, (0, 0, 0))] (by decide +kernel) (show jrun _ (43, [(15, x0), (0, x2), (0, x2)], [], s4) = some ([], (18, [(15, x0), (0, x2), (0, (x2 + 1))], [], s4)) from rfl) ?_
          exact ih _ _ _ _ H
        · refine AT.seq [(39, .aload_n 0, 1, (0, 0, 0))] (by decide +kernel) (show jrun _ (39, [(15, x0), (0, x1), (0, x2)], [], s3) = some ([], (40, [(15, x0), (0, x1), (0, x2)], [(15, x0)], s3)) from rfl) ?_
          obtain ⟨v5, s5, h5, H⟩ := jb_some H
          refine AT.callV (As := []) (cl := 11) (b := x0) (st := []) (i := 395) (pos := 8003) kMd_goesMinute (by decide +kernel) rfl (by decide +kernel) rfl rfl (by omega) (Md_goesMinute_ok h5) ?_
          show AT sMd_fallIn 3 (43, [(15, x0), (0, x1), (0, x2)], [], s5) o
          refine AT.seq [(43, .iinc 2 1, 3, (0, 0, 0)), (46, .goto (-28), 3, (0, 0, 0))] (by decide +kernel) (show jrun _ (43, [(15, x0), (0, x1), (0, x2)], [], s5) = some ([], (18, [(15, x0), (0, x1), (0, (x2 + 1))], [], s5)) from rfl) ?_
          exact ih _ _ _ _ H
      · exact AT.weak (L' := [(15, x0), (0, x1), (99, 0)]) (jleK (jleK (jleJ jle0))) (Md_fallIn_49_ok  H)
set_option maxRecDepth 100000 in
theorem Md_fallIn_ok {a0 : Int} {s : jM} {o : Int × jM} (H : Md_fallIn a0 s = some o) : MK sMd_fallIn 3 [(15, a0)] s o := by
  refine MK.of kMd_fallIn rfl ?_
  show AT sMd_fallIn 3 (0, [(15, a0), (99, 0), (99, 0)], [], s) o
  unfold Md_fallIn at H
  refine AT.seq [(0, .aload_n 0, 1, (0, 0, 0)), (1, .iconst 0, 1, (0, 0, 0)), (2, .putfield 72, 3, (5188, 1101, 0)), (5, .aload_n 0, 1, (0, 0, 0)), (6, .iconst 0, 1, (0, 0, 0)), (7, .putfield 75, 3, (5187, 1100, 0)), (10, .iconst (-1), 1, (0, 0, 0)), (11, .istore_n 1, 1, (0, 0, 0)), (12, .aload_n 0, 1, (0, 0, 0))] (by decide +kernel) (show jrun _ (0, [(15, a0), (99, 0), (99, 0)], [], s) = some ([], (13, [(15, a0), (0, (-1)), (99, 0)], [(15, a0)], (jup (jup s a0 1 0) a0 0 0))) from rfl) ?_
  obtain ⟨v6, s6, h6, H⟩ := jb_some H
  refine AT.callV (As := []) (cl := 11) (b := a0) (st := []) (i := 405) (pos := 8029) kMd_puts (by decide +kernel) rfl (by decide +kernel) rfl rfl (by omega) (Md_puts_ok h6) ?_
  show AT sMd_fallIn 3 (16, [(15, a0), (0, (-1)), (99, 0)], [], s6) o
  refine AT.seq [(16, .iconst 0, 1, (0, 0, 0)), (17, .istore_n 2, 1, (0, 0, 0))] (by decide +kernel) (show jrun _ (16, [(15, a0), (0, (-1)), (99, 0)], [], s6) = some ([], (18, [(15, a0), (0, (-1)), (0, 0)], [], s6)) from rfl) ?_
  exact Md_fallIn_18_ok  jFU _ _ _ _ H
def sMd_lastsOf : jS := (⟨"JellyCathedralModel", "lastsOf", "(III)I"⟩, prog_13_method_112_code, 3, 1, [0, 0, 0], 1)
theorem kMd_lastsOf : jmk sMd_lastsOf = true := jmk_of 8047 1012 8046 0 (by decide +kernel)
set_option maxRecDepth 100000 in
theorem Md_lastsOf_ok {a0 a1 a2 : Int} {s : jM} {o : Int × jM} (H : Md_lastsOf a0 a1 a2 s = some o) : MK sMd_lastsOf 0 [(0, a0), (0, a1), (0, a2)] s o := by
  refine MK.of kMd_lastsOf rfl ?_
  show AT sMd_lastsOf 0 (0, [(0, a0), (0, a1), (0, a2)], [], s) o
  unfold Md_lastsOf at H
  refine AT.seq [(0, .iload_n 0, 1, (0, 0, 0)), (1, .iload_n 1, 1, (0, 0, 0))] (by decide +kernel) (show jrun _ (0, [(0, a0), (0, a1), (0, a2)], [], s) = some ([], (2, [(0, a0), (0, a1), (0, a2)], [(0, a1), (0, a0)], s)) from rfl) ?_
  refine AT.ite (x := (0, 0, 0)) (by decide +kernel) (show jbr (.if_icmp .ge 5) (2, [(0, a0), (0, a1), (0, a2)], [(0, a1), (0, a0)], s) = some ((w32 a0) < (w32 a1), (5, [(0, a0), (0, a1), (0, a2)], [], s), (7, [(0, a0), (0, a1), (0, a2)], [], s)) from rfl) H (fun H => ?_) (fun H => ?_)
  · refine AT.seq [(5, .iconst 0, 1, (0, 0, 0))] (by decide +kernel) (show jrun _ (5, [(0, a0), (0, a1), (0, a2)], [], s) = some ([], (6, [(0, a0), (0, a1), (0, a2)], [(0, 0)], s)) from rfl) ?_
    exact AT.retiH (by decide +kernel) H
  · refine AT.seq [(7, .iload_n 2, 1, (0, 0, 0))] (by decide +kernel) (show jrun _ (7, [(0, a0), (0, a1), (0, a2)], [], s) = some ([], (8, [(0, a0), (0, a1), (0, a2)], [(0, a2)], s)) from rfl) ?_
    refine AT.ite (x := (0, 0, 0)) (by decide +kernel) (show jbr (.ifCond .ne 9) (8, [(0, a0), (0, a1), (0, a2)], [(0, a2)], s) = some ((w32 a2) = 0, (11, [(0, a0), (0, a1), (0, a2)], [], s), (17, [(0, a0), (0, a1), (0, a2)], [], s)) from rfl) H (fun H => ?_) (fun H => ?_)
    · refine AT.seq [(11, .sipush 10000, 3, (0, 0, 0)), (14, .goto 10, 3, (0, 0, 0))] (by decide +kernel) (show jrun _ (11, [(0, a0), (0, a1), (0, a2)], [], s) = some ([], (24, [(0, a0), (0, a1), (0, a2)], [(0, 10000)], s)) from rfl) ?_
      exact AT.retiH (by decide +kernel) H
    · refine AT.blk (g := ¬ w32 a2 = 0) [(17, .iload_n 0, 1, (0, 0, 0)), (18, .iload_n 1, 1, (0, 0, 0)), (19, .isub, 1, (0, 0, 0)), (20, .iload_n 2, 1, (0, 0, 0)), (21, .idiv, 1, (0, 0, 0)), (22, .iconst 1, 1, (0, 0, 0)), (23, .iadd, 1, (0, 0, 0))] (by decide +kernel) (show jrun _ (17, [(0, a0), (0, a1), (0, a2)], [], s) = some ([¬ w32 a2 = 0], (24, [(0, a0), (0, a1), (0, a2)], [(0, ((jdiv (a0 - a1) a2) + 1))], s)) from rfl) (fun h => h) H (fun H => ?_)
      exact AT.retiH (by decide +kernel) H
def sMd_lasts : jS := (⟨"JellyCathedralModel", "lasts", "(I)I"⟩, prog_13_method_113_code, 4, 1, [15, 0], 0)
theorem kMd_lasts : jmk sMd_lasts = true := jmk_of 8044 1012 8042 8043 (by decide +kernel)
set_option maxRecDepth 100000 in
theorem Md_lasts_50_ok {o : Int × jM} {x0 x1 t0 : Int} {s : jM} (H : Md_lasts_50  x0 x1 t0 s = some o) : AT sMd_lasts 3 (50, [(15, x0), (0, x1), (99, 0), (99, 0)], [(0, t0)], s) o := by
  unfold Md_lasts_50 at H
  refine AT.blk (g := (0 ≤ (w32 (74 + x1)) ∧ (w32 (74 + x1)) < 1905) ∧ (0 ≤ (w32 (54 + x1)) ∧ (w32 (54 + x1)) < 1905)) [(50, .istore_n 2, 1, (0, 0, 0)), (51, .aload_n 0, 1, (0, 0, 0)), (52, .getfield 35, 3, (5207, 1120, 0)), (55, .bipush 74, 2, (0, 0, 0)), (57, .iload_n 1, 1, (0, 0, 0)), (58, .iadd, 1, (0, 0, 0)), (59, .iaload, 1, (0, 0, 0)), (60, .aload_n 0, 1, (0, 0, 0)), (61, .getfield 35, 3, (5207, 1120, 0)), (64, .bipush 54, 2, (0, 0, 0)), (66, .iload_n 1, 1, (0, 0, 0)), (67, .iadd, 1, (0, 0, 0)), (68, .iaload, 1, (0, 0, 0)), (69, .aload_n 0, 1, (0, 0, 0)), (70, .getfield 35, 3, (5207, 1120, 0)), (73, .iconst 3, 1, (0, 0, 0)), (74, .iaload, 1, (0, 0, 0))] (by decide +kernel) (show jrun _ (50, [(15, x0), (0, x1), (99, 0), (99, 0)], [(0, t0)], s) = some ([(0 ≤ (w32 (74 + x1)) ∧ (w32 (74 + x1)) < 1905), (0 ≤ (w32 (54 + x1)) ∧ (w32 (54 + x1)) < 1905), (0 ≤ (3 : Int) ∧ (3 : Int) < 1905)], (75, [(15, x0), (0, x1), (0, t0), (99, 0)], [(0, (s (x0 + 5) 3)), (0, (s (x0 + 5) (w32 (54 + x1)))), (0, (s (x0 + 5) (w32 (74 + x1))))], s)) from rfl) (fun h => ⟨h.1, h.2, (show (0 ≤ (3 : Int) ∧ (3 : Int) < 1905) from by decide)⟩) H (fun H => ?_)
  obtain ⟨v1, s1, h1, H⟩ := jb_some H
  refine AT.callS (As := [(0, (s (x0 + 5) (w32 (74 + x1)))), (0, (s (x0 + 5) (w32 (54 + x1)))), (0, (s (x0 + 5) 3))]) (st := []) (i := 411) (pos := 8045) kMd_lastsOf (by decide +kernel) rfl rfl rfl (by omega) (Md_lastsOf_ok h1) ?_
  show AT sMd_lasts 3 (78, [(15, x0), (0, x1), (0, t0), (99, 0)], [(0, v1)], s1) o
  refine AT.seq [(78, .istore_n 3, 1, (0, 0, 0)), (79, .iload_n 2, 1, (0, 0, 0))] (by decide +kernel) (show jrun _ (78, [(15, x0), (0, x1), (0, t0), (99, 0)], [(0, v1)], s1) = some ([], (80, [(15, x0), (0, x1), (0, t0), (0, v1)], [(0, t0)], s1)) from rfl) ?_
  refine AT.ite (x := (0, 0, 0)) (by decide +kernel) (show jbr (.ifCond .eq 17) (80, [(15, x0), (0, x1), (0, t0), (0, v1)], [(0, t0)], s1) = some ((w32 t0) = 0, (97, [(15, x0), (0, x1), (0, t0), (0, v1)], [], s1), (83, [(15, x0), (0, x1), (0, t0), (0, v1)], [], s1)) from rfl) H (fun H => ?_) (fun H => ?_)
  · refine AT.seq [(97, .iload_n 2, 1, (0, 0, 0))] (by decide +kernel) (show jrun _ (97, [(15, x0), (0, x1), (0, t0), (0, v1)], [], s1) = some ([], (98, [(15, x0), (0, x1), (0, t0), (0, v1)], [(0, t0)], s1)) from rfl) ?_
    refine AT.ite (x := (0, 0, 0)) (by decide +kernel) (show jbr (.ifCond .eq 7) (98, [(15, x0), (0, x1), (0, t0), (0, v1)], [(0, t0)], s1) = some ((w32 t0) = 0, (105, [(15, x0), (0, x1), (0, t0), (0, v1)], [], s1), (101, [(15, x0), (0, x1), (0, t0), (0, v1)], [], s1)) from rfl) H (fun H => ?_) (fun H => ?_)
    · refine AT.seq [(105, .aload_n 0, 1, (0, 0, 0)), (106, .bipush 9, 2, (0, 0, 0))] (by decide +kernel) (show jrun _ (105, [(15, x0), (0, x1), (0, t0), (0, v1)], [], s1) = some ([], (108, [(15, x0), (0, x1), (0, t0), (0, v1)], [(0, 9), (15, x0)], s1)) from rfl) ?_
      obtain ⟨v2, s2, h2, H⟩ := jb_some H
      refine AT.callV (As := [(0, 9)]) (cl := 11) (b := x0) (st := []) (i := 322) (pos := 7116) kMd_refuse (by decide +kernel) rfl (by decide +kernel) rfl rfl (by omega) (Md_refuse_ok h2) ?_
      show AT sMd_lasts 3 (111, [(15, x0), (0, x1), (0, t0), (0, v1)], [(0, v2)], s2) o
      exact AT.retiH (by decide +kernel) H
    · refine AT.seq [(101, .iload_n 3, 1, (0, 0, 0)), (102, .goto 9, 3, (0, 0, 0))] (by decide +kernel) (show jrun _ (101, [(15, x0), (0, x1), (0, t0), (0, v1)], [], s1) = some ([], (111, [(15, x0), (0, x1), (0, t0), (0, v1)], [(0, v1)], s1)) from rfl) ?_
      exact AT.retiH (by decide +kernel) H
  · refine AT.seq [(83, .iload_n 3, 1, (0, 0, 0)), (84, .sipush 10000, 3, (0, 0, 0))] (by decide +kernel) (show jrun _ (83, [(15, x0), (0, x1), (0, t0), (0, v1)], [], s1) = some ([], (87, [(15, x0), (0, x1), (0, t0), (0, v1)], [(0, 10000), (0, v1)], s1)) from rfl) ?_
    refine AT.ite (x := (0, 0, 0)) (by decide +kernel) (show jbr (.if_icmp .lt 10) (87, [(15, x0), (0, x1), (0, t0), (0, v1)], [(0, 10000), (0, v1)], s1) = some ((w32 v1) < 10000, (97, [(15, x0), (0, x1), (0, t0), (0, v1)], [], s1), (90, [(15, x0), (0, x1), (0, t0), (0, v1)], [], s1)) from rfl) H (fun H => ?_) (fun H => ?_)
    · refine AT.seq [(97, .iload_n 2, 1, (0, 0, 0))] (by decide +kernel) (show jrun _ (97, [(15, x0), (0, x1), (0, t0), (0, v1)], [], s1) = some ([], (98, [(15, x0), (0, x1), (0, t0), (0, v1)], [(0, t0)], s1)) from rfl) ?_
      refine AT.ite (x := (0, 0, 0)) (by decide +kernel) (show jbr (.ifCond .eq 7) (98, [(15, x0), (0, x1), (0, t0), (0, v1)], [(0, t0)], s1) = some ((w32 t0) = 0, (105, [(15, x0), (0, x1), (0, t0), (0, v1)], [], s1), (101, [(15, x0), (0, x1), (0, t0), (0, v1)], [], s1)) from rfl) H (fun H => ?_) (fun H => ?_)
      · refine AT.seq [(105, .aload_n 0, 1, (0, 0, 0)), (106, .bipush 9, 2, (0, 0, 0))] (by decide +kernel) (show jrun _ (105, [(15, x0), (0, x1), (0, t0), (0, v1)], [], s1) = some ([], (108, [(15, x0), (0, x1), (0, t0), (0, v1)], [(0, 9), (15, x0)], s1)) from rfl) ?_
        obtain ⟨v3, s3, h3, H⟩ := jb_some H
        refine AT.callV (As := [(0, 9)]) (cl := 11) (b := x0) (st := []) (i := 322) (pos := 7116) kMd_refuse (by decide +kernel) rfl (by decide +kernel) rfl rfl (by omega) (Md_refuse_ok h3) ?_
        show AT sMd_lasts 3 (111, [(15, x0), (0, x1), (0, t0), (0, v1)], [(0, v3)], s3) o
        exact AT.retiH (by decide +kernel) H
      · refine AT.seq [(101, .iload_n 3, 1, (0, 0, 0)), (102, .goto 9, 3, (0, 0, 0))] (by decide +kernel) (show jrun _ (101, [(15, x0), (0, x1), (0, t0), (0, v1)], [], s1) = some ([], (111, [(15, x0), (0, x1), (0, t0), (0, v1)], [(0, v1)], s1)) from rfl) ?_
        exact AT.retiH (by decide +kernel) H
    · refine AT.seq [(90, .aload_n 0, 1, (0, 0, 0)), (91, .bipush 8, 2, (0, 0, 0))] (by decide +kernel) (show jrun _ (90, [(15, x0), (0, x1), (0, t0), (0, v1)], [], s1) = some ([], (93, [(15, x0), (0, x1), (0, t0), (0, v1)], [(0, 8), (15, x0)], s1)) from rfl) ?_
      obtain ⟨v4, s4, h4, H⟩ := jb_some H
      refine AT.callV (As := [(0, 8)]) (cl := 11) (b := x0) (st := []) (i := 322) (pos := 7116) kMd_refuse (by decide +kernel) rfl (by decide +kernel) rfl rfl (by omega) (Md_refuse_ok h4) ?_
      show AT sMd_lasts 3 (96, [(15, x0), (0, x1), (0, t0), (0, v1)], [(0, v4)], s4) o
      exact AT.retiH (by decide +kernel) H
set_option maxRecDepth 100000 in
theorem Md_lasts_ok {a0 a1 : Int} {s : jM} {o : Int × jM} (H : Md_lasts a0 a1 s = some o) : MK sMd_lasts 3 [(15, a0), (0, a1)] s o := by
  refine MK.of kMd_lasts rfl ?_
  show AT sMd_lasts 3 (0, [(15, a0), (0, a1), (99, 0), (99, 0)], [], s) o
  unfold Md_lasts at H
  refine AT.seq [(0, .aload_n 0, 1, (0, 0, 0)), (1, .iconst 0, 1, (0, 0, 0)), (2, .putfield 72, 3, (5188, 1101, 0)), (5, .aload_n 0, 1, (0, 0, 0)), (6, .iconst 0, 1, (0, 0, 0)), (7, .putfield 75, 3, (5187, 1100, 0)), (10, .aload_n 0, 1, (0, 0, 0)), (11, .iload_n 1, 1, (0, 0, 0))] (by decide +kernel) (show jrun _ (0, [(15, a0), (0, a1), (99, 0), (99, 0)], [], s) = some ([], (12, [(15, a0), (0, a1), (99, 0), (99, 0)], [(0, a1), (15, a0)], (jup (jup s a0 1 0) a0 0 0))) from rfl) ?_
  obtain ⟨v5, s5, h5, H⟩ := jb_some H
  refine AT.callV (As := [(0, a1)]) (cl := 11) (b := a0) (st := []) (i := 333) (pos := 7137) kMd_isMouldAt (by decide +kernel) rfl (by decide +kernel) rfl rfl (by omega) (Md_isMouldAt_ok h5) ?_
  show AT sMd_lasts 3 (15, [(15, a0), (0, a1), (99, 0), (99, 0)], [(0, v5)], s5) o
  refine AT.ite (x := (0, 0, 0)) (by decide +kernel) (show jbr (.ifCond .ne 9) (15, [(15, a0), (0, a1), (99, 0), (99, 0)], [(0, v5)], s5) = some ((w32 v5) = 0, (18, [(15, a0), (0, a1), (99, 0), (99, 0)], [], s5), (24, [(15, a0), (0, a1), (99, 0), (99, 0)], [], s5)) from rfl) H (fun H => ?_) (fun H => ?_)
  · refine AT.seq [(18, .aload_n 0, 1, (0, 0, 0)), (19, .iconst 2, 1, (0, 0, 0))] (by decide +kernel) (show jrun _ (18, [(15, a0), (0, a1), (99, 0), (99, 0)], [], s5) = some ([], (20, [(15, a0), (0, a1), (99, 0), (99, 0)], [(0, 2), (15, a0)], s5)) from rfl) ?_
    obtain ⟨v6, s6, h6, H⟩ := jb_some H
    refine AT.callV (As := [(0, 2)]) (cl := 11) (b := a0) (st := []) (i := 322) (pos := 7116) kMd_refuse (by decide +kernel) rfl (by decide +kernel) rfl rfl (by omega) (Md_refuse_ok h6) ?_
    show AT sMd_lasts 3 (23, [(15, a0), (0, a1), (99, 0), (99, 0)], [(0, v6)], s6) o
    exact AT.retiH (by decide +kernel) H
  · refine AT.blk (g := (0 ≤ (w32 (69 + a1)) ∧ (w32 (69 + a1)) < 1905)) [(24, .aload_n 0, 1, (0, 0, 0)), (25, .getfield 35, 3, (5207, 1120, 0)), (28, .bipush 69, 2, (0, 0, 0)), (30, .iload_n 1, 1, (0, 0, 0)), (31, .iadd, 1, (0, 0, 0)), (32, .iaload, 1, (0, 0, 0)), (33, .iconst 2, 1, (0, 0, 0))] (by decide +kernel) (show jrun _ (24, [(15, a0), (0, a1), (99, 0), (99, 0)], [], s5) = some ([(0 ≤ (w32 (69 + a1)) ∧ (w32 (69 + a1)) < 1905)], (34, [(15, a0), (0, a1), (99, 0), (99, 0)], [(0, 2), (0, (s5 (a0 + 5) (w32 (69 + a1))))], s5)) from rfl) (fun h => h) H (fun H => ?_)
    refine AT.ite (x := (0, 0, 0)) (by decide +kernel) (show jbr (.if_icmp .eq 11) (34, [(15, a0), (0, a1), (99, 0), (99, 0)], [(0, 2), (0, (s5 (a0 + 5) (w32 (69 + a1))))], s5) = some ((w32 (s5 (a0 + 5) (w32 (69 + a1)))) = 2, (45, [(15, a0), (0, a1), (99, 0), (99, 0)], [], s5), (37, [(15, a0), (0, a1), (99, 0), (99, 0)], [], s5)) from rfl) H (fun H => ?_) (fun H => ?_)
    · refine AT.seq [(45, .iconst 1, 1, (0, 0, 0)), (46, .goto 4, 3, (0, 0, 0))] (by decide +kernel) (show jrun _ (45, [(15, a0), (0, a1), (99, 0), (99, 0)], [], s5) = some ([], (50, [(15, a0), (0, a1), (99, 0), (99, 0)], [(0, 1)], s5)) from rfl) ?_
      exact Md_lasts_50_ok  H
    · refine AT.seq [(37, .aload_n 0, 1, (0, 0, 0)), (38, .iload_n 1, 1, (0, 0, 0))] (by decide +kernel) (show jrun _ (37, [(15, a0), (0, a1), (99, 0), (99, 0)], [], s5) = some ([], (39, [(15, a0), (0, a1), (99, 0), (99, 0)], [(0, a1), (15, a0)], s5)) from rfl) ?_
      obtain ⟨v7, s7, h7, H⟩ := jb_some H
      refine AT.callV (As := [(0, a1)]) (cl := 11) (b := a0) (st := []) (i := 363) (pos := 7197) kMd_isReady (by decide +kernel) rfl (by decide +kernel) rfl rfl (by omega) (Md_isReady_ok h7) ?_
      show AT sMd_lasts 3 (42, [(15, a0), (0, a1), (99, 0), (99, 0)], [(0, v7)], s7) o
      refine AT.ite (x := (0, 0, 0)) (by decide +kernel) (show jbr (.ifCond .eq 7) (42, [(15, a0), (0, a1), (99, 0), (99, 0)], [(0, v7)], s7) = some ((w32 v7) = 0, (49, [(15, a0), (0, a1), (99, 0), (99, 0)], [], s7), (45, [(15, a0), (0, a1), (99, 0), (99, 0)], [], s7)) from rfl) H (fun H => ?_) (fun H => ?_)
      · refine AT.seq [(49, .iconst 0, 1, (0, 0, 0))] (by decide +kernel) (show jrun _ (49, [(15, a0), (0, a1), (99, 0), (99, 0)], [], s7) = some ([], (50, [(15, a0), (0, a1), (99, 0), (99, 0)], [(0, 0)], s7)) from rfl) ?_
        exact Md_lasts_50_ok  H
      · refine AT.seq [(45, .iconst 1, 1, (0, 0, 0)), (46, .goto 4, 3, (0, 0, 0))] (by decide +kernel) (show jrun _ (45, [(15, a0), (0, a1), (99, 0), (99, 0)], [], s7) = some ([], (50, [(15, a0), (0, a1), (99, 0), (99, 0)], [(0, 1)], s7)) from rfl) ?_
        exact Md_lasts_50_ok  H
def sMd_waits : jS := (⟨"JellyCathedralModel", "waits", "(II)I"⟩, prog_13_method_114_code, 4, 1, [15, 0, 0], 0)
theorem kMd_waits : jmk sMd_waits = true := jmk_of 8051 1012 8049 8050 (by decide +kernel)
set_option maxRecDepth 100000 in
theorem Md_waits_59_ok {o : Int × jM} : ∀ (n : Nat) (x0 x1 x2 x3 : Int) (s : jM), Md_waits_59  n x0 x1 x2 x3 s = some o → AT sMd_waits 3 (59, [(15, x0), (0, x1), (0, x2), (0, x3)], [], s) o := by
  intro n
  induction n with
  | zero =>
    intro x0 x1 x2 x3 s H
    have H : (none : Option (Int × jM)) = some o := H
    cases H
  | succ n ih =>
    intro x0 x1 x2 x3 s H
    rw [Md_waits_59] at H
    refine AT.seq [(59, .iload_n 3, 1, (0, 0, 0)), (60, .sipush 300, 3, (0, 0, 0))] (by decide +kernel) (show jrun _ (59, [(15, x0), (0, x1), (0, x2), (0, x3)], [], s) = some ([], (63, [(15, x0), (0, x1), (0, x2), (0, x3)], [(0, 300), (0, x3)], s)) from rfl) ?_
    refine AT.ite (x := (0, 0, 0)) (by decide +kernel) (show jbr (.if_icmp .gt 62) (63, [(15, x0), (0, x1), (0, x2), (0, x3)], [(0, 300), (0, x3)], s) = some (300 < (w32 x3), (125, [(15, x0), (0, x1), (0, x2), (0, x3)], [], s), (66, [(15, x0), (0, x1), (0, x2), (0, x3)], [], s)) from rfl) H (fun H => ?_) (fun H => ?_)
    · refine AT.seq [(125, .aload_n 0, 1, (0, 0, 0)), (126, .bipush 8, 2, (0, 0, 0))] (by decide +kernel) (show jrun _ (125, [(15, x0), (0, x1), (0, x2), (0, x3)], [], s) = some ([], (128, [(15, x0), (0, x1), (0, x2), (0, x3)], [(0, 8), (15, x0)], s)) from rfl) ?_
      obtain ⟨v1, s1, h1, H⟩ := jb_some H
      refine AT.callV (As := [(0, 8)]) (cl := 11) (b := x0) (st := []) (i := 322) (pos := 7116) kMd_refuse (by decide +kernel) rfl (by decide +kernel) rfl rfl (by omega) (Md_refuse_ok h1) ?_
      show AT sMd_waits 3 (131, [(15, x0), (0, x1), (0, x2), (0, x3)], [(0, v1)], s1) o
      exact AT.retiH (by decide +kernel) H
    · refine AT.seq [(66, .aload_n 0, 1, (0, 0, 0)), (67, .iload_n 1, 1, (0, 0, 0))] (by decide +kernel) (show jrun _ (66, [(15, x0), (0, x1), (0, x2), (0, x3)], [], s) = some ([], (68, [(15, x0), (0, x1), (0, x2), (0, x3)], [(0, x1), (15, x0)], s)) from rfl) ?_
      obtain ⟨v2, s2, h2, H⟩ := jb_some H
      refine AT.callV (As := [(0, x1)]) (cl := 11) (b := x0) (st := []) (i := 338) (pos := 7142) kMd_strengthOf (by decide +kernel) rfl (by decide +kernel) rfl rfl (by omega) (Md_strengthOf_ok h2) ?_
      show AT sMd_waits 3 (71, [(15, x0), (0, x1), (0, x2), (0, x3)], [(0, v2)], s2) o
      refine AT.blk (g := (0 ≤ (w32 (74 + x1)) ∧ (w32 (74 + x1)) < 1905) ∧ (0 ≤ (w32 (54 + x1)) ∧ (w32 (54 + x1)) < 1905)) [(71, .aload_n 0, 1, (0, 0, 0)), (72, .getfield 35, 3, (5207, 1120, 0)), (75, .bipush 74, 2, (0, 0, 0)), (77, .iload_n 1, 1, (0, 0, 0)), (78, .iadd, 1, (0, 0, 0)), (79, .iaload, 1, (0, 0, 0)), (80, .iload_n 3, 1, (0, 0, 0)), (81, .bipush 9, 2, (0, 0, 0)), (83, .aload_n 0, 1, (0, 0, 0)), (84, .getfield 35, 3, (5207, 1120, 0)), (87, .iconst 3, 1, (0, 0, 0)), (88, .iaload, 1, (0, 0, 0)), (89, .isub, 1, (0, 0, 0)), (90, .imul, 1, (0, 0, 0)), (91, .iadd, 1, (0, 0, 0)), (92, .invokestatic 375, 3, (7229, 2, 0)), (95, .aload_n 0, 1, (0, 0, 0)), (96, .getfield 35, 3, (5207, 1120, 0)), (99, .bipush 54, 2, (0, 0, 0)), (101, .iload_n 1, 1, (0, 0, 0)), (102, .iadd, 1, (0, 0, 0)), (103, .iaload, 1, (0, 0, 0)), (104, .aload_n 0, 1, (0, 0, 0)), (105, .getfield 35, 3, (5207, 1120, 0)), (108, .iconst 3, 1, (0, 0, 0)), (109, .iaload, 1, (0, 0, 0))] (by decide +kernel) (show jrun _ (71, [(15, x0), (0, x1), (0, x2), (0, x3)], [(0, v2)], s2) = some ([(0 ≤ (w32 (74 + x1)) ∧ (w32 (74 + x1)) < 1905), (0 ≤ (3 : Int) ∧ (3 : Int) < 1905), (0 ≤ (w32 (54 + x1)) ∧ (w32 (54 + x1)) < 1905), (0 ≤ (3 : Int) ∧ (3 : Int) < 1905)], (110, [(15, x0), (0, x1), (0, x2), (0, x3)], [(0, (s2 (x0 + 5) 3)), (0, (s2 (x0 + 5) (w32 (54 + x1)))), (0, (jmin v2 ((s2 (x0 + 5) (w32 (74 + x1))) + (x3 * (9 - (s2 (x0 + 5) 3))))))], s2)) from rfl) (fun h => ⟨h.1, (show (0 ≤ (3 : Int) ∧ (3 : Int) < 1905) from by decide), h.2, (show (0 ≤ (3 : Int) ∧ (3 : Int) < 1905) from by decide)⟩) H (fun H => ?_)
      obtain ⟨v3, s3, h3, H⟩ := jb_some H
      refine AT.callS (As := [(0, (jmin v2 ((s2 (x0 + 5) (w32 (74 + x1))) + (x3 * (9 - (s2 (x0 + 5) 3)))))), (0, (s2 (x0 + 5) (w32 (54 + x1)))), (0, (s2 (x0 + 5) 3))]) (st := []) (i := 411) (pos := 8045) kMd_lastsOf (by decide +kernel) rfl rfl rfl (by omega) (Md_lastsOf_ok h3) ?_
      show AT sMd_waits 3 (113, [(15, x0), (0, x1), (0, x2), (0, x3)], [(0, v3)], s3) o
      refine AT.seq [(113, .iload_n 2, 1, (0, 0, 0))] (by decide +kernel) (show jrun _ (113, [(15, x0), (0, x1), (0, x2), (0, x3)], [(0, v3)], s3) = some ([], (114, [(15, x0), (0, x1), (0, x2), (0, x3)], [(0, x2), (0, v3)], s3)) from rfl) ?_
      refine AT.ite (x := (0, 0, 0)) (by decide +kernel) (show jbr (.if_icmp .le 5) (114, [(15, x0), (0, x1), (0, x2), (0, x3)], [(0, x2), (0, v3)], s3) = some ((w32 x2) < (w32 v3), (117, [(15, x0), (0, x1), (0, x2), (0, x3)], [], s3), (119, [(15, x0), (0, x1), (0, x2), (0, x3)], [], s3)) from rfl) H (fun H => ?_) (fun H => ?_)
      · refine AT.seq [(117, .iload_n 3, 1, (0, 0, 0))] (by decide +kernel) (show jrun _ (117, [(15, x0), (0, x1), (0, x2), (0, x3)], [], s3) = some ([], (118, [(15, x0), (0, x1), (0, x2), (0, x3)], [(0, x3)], s3)) from rfl) ?_
        exact AT.retiH (by decide +kernel) H
      · refine AT.seq [(119, .iinc 3 1, 3, (0, 0, 0)), (122, .goto (-63), 3, (0, 0, 0))] (by decide +kernel) (show jrun _ (119, [(15, x0), (0, x1), (0, x2), (0, x3)], [], s3) = some ([], (59, [(15, x0), (0, x1), (0, x2), (0, (x3 + 1))], [], s3)) from rfl) ?_
        exact ih _ _ _ _ _ H
set_option maxRecDepth 100000 in
theorem Md_waits_ok {a0 a1 a2 : Int} {s : jM} {o : Int × jM} (H : Md_waits a0 a1 a2 s = some o) : MK sMd_waits 3 [(15, a0), (0, a1), (0, a2)] s o := by
  refine MK.of kMd_waits rfl ?_
  show AT sMd_waits 3 (0, [(15, a0), (0, a1), (0, a2), (99, 0)], [], s) o
  unfold Md_waits at H
  refine AT.seq [(0, .aload_n 0, 1, (0, 0, 0)), (1, .iconst 0, 1, (0, 0, 0)), (2, .putfield 72, 3, (5188, 1101, 0)), (5, .aload_n 0, 1, (0, 0, 0)), (6, .iconst 0, 1, (0, 0, 0)), (7, .putfield 75, 3, (5187, 1100, 0)), (10, .aload_n 0, 1, (0, 0, 0)), (11, .iload_n 1, 1, (0, 0, 0))] (by decide +kernel) (show jrun _ (0, [(15, a0), (0, a1), (0, a2), (99, 0)], [], s) = some ([], (12, [(15, a0), (0, a1), (0, a2), (99, 0)], [(0, a1), (15, a0)], (jup (jup s a0 1 0) a0 0 0))) from rfl) ?_
  obtain ⟨v4, s4, h4, H⟩ := jb_some H
  refine AT.callV (As := [(0, a1)]) (cl := 11) (b := a0) (st := []) (i := 333) (pos := 7137) kMd_isMouldAt (by decide +kernel) rfl (by decide +kernel) rfl rfl (by omega) (Md_isMouldAt_ok h4) ?_
  show AT sMd_waits 3 (15, [(15, a0), (0, a1), (0, a2), (99, 0)], [(0, v4)], s4) o
  refine AT.ite (x := (0, 0, 0)) (by decide +kernel) (show jbr (.ifCond .ne 9) (15, [(15, a0), (0, a1), (0, a2), (99, 0)], [(0, v4)], s4) = some ((w32 v4) = 0, (18, [(15, a0), (0, a1), (0, a2), (99, 0)], [], s4), (24, [(15, a0), (0, a1), (0, a2), (99, 0)], [], s4)) from rfl) H (fun H => ?_) (fun H => ?_)
  · refine AT.seq [(18, .aload_n 0, 1, (0, 0, 0)), (19, .iconst 2, 1, (0, 0, 0))] (by decide +kernel) (show jrun _ (18, [(15, a0), (0, a1), (0, a2), (99, 0)], [], s4) = some ([], (20, [(15, a0), (0, a1), (0, a2), (99, 0)], [(0, 2), (15, a0)], s4)) from rfl) ?_
    obtain ⟨v5, s5, h5, H⟩ := jb_some H
    refine AT.callV (As := [(0, 2)]) (cl := 11) (b := a0) (st := []) (i := 322) (pos := 7116) kMd_refuse (by decide +kernel) rfl (by decide +kernel) rfl rfl (by omega) (Md_refuse_ok h5) ?_
    show AT sMd_waits 3 (23, [(15, a0), (0, a1), (0, a2), (99, 0)], [(0, v5)], s5) o
    exact AT.retiH (by decide +kernel) H
  · refine AT.seq [(24, .iload_n 2, 1, (0, 0, 0)), (25, .i2l, 1, (0, 0, 0)), (26, .lconst 0, 1, (0, 0, 0)), (27, .ldc2_w 393, 3, (8002, 0, 99))] (by decide +kernel) (show jrun _ (24, [(15, a0), (0, a1), (0, a2), (99, 0)], [], s4) = some ([], (30, [(15, a0), (0, a1), (0, a2), (99, 0)], [(1, 99), (1, 0), (1, (w32 a2))], s4)) from rfl) ?_
    obtain ⟨v6, s6, h6, H⟩ := jb_some H
    refine AT.callS (As := [(1, (w32 a2)), (1, 0), (1, 99)]) (st := []) (i := 107) (pos := 6204) kMd_isIn (by decide +kernel) rfl rfl rfl (by omega) (Md_isIn_ok h6) ?_
    show AT sMd_waits 3 (33, [(15, a0), (0, a1), (0, a2), (99, 0)], [(0, v6)], s6) o
    refine AT.ite (x := (0, 0, 0)) (by decide +kernel) (show jbr (.ifCond .ne 9) (33, [(15, a0), (0, a1), (0, a2), (99, 0)], [(0, v6)], s6) = some ((w32 v6) = 0, (36, [(15, a0), (0, a1), (0, a2), (99, 0)], [], s6), (42, [(15, a0), (0, a1), (0, a2), (99, 0)], [], s6)) from rfl) H (fun H => ?_) (fun H => ?_)
    · refine AT.seq [(36, .aload_n 0, 1, (0, 0, 0)), (37, .iconst 5, 1, (0, 0, 0))] (by decide +kernel) (show jrun _ (36, [(15, a0), (0, a1), (0, a2), (99, 0)], [], s6) = some ([], (38, [(15, a0), (0, a1), (0, a2), (99, 0)], [(0, 5), (15, a0)], s6)) from rfl) ?_
      obtain ⟨v7, s7, h7, H⟩ := jb_some H
      refine AT.callV (As := [(0, 5)]) (cl := 11) (b := a0) (st := []) (i := 322) (pos := 7116) kMd_refuse (by decide +kernel) rfl (by decide +kernel) rfl rfl (by omega) (Md_refuse_ok h7) ?_
      show AT sMd_waits 3 (41, [(15, a0), (0, a1), (0, a2), (99, 0)], [(0, v7)], s7) o
      exact AT.retiH (by decide +kernel) H
    · refine AT.seq [(42, .aload_n 0, 1, (0, 0, 0)), (43, .iload_n 1, 1, (0, 0, 0))] (by decide +kernel) (show jrun _ (42, [(15, a0), (0, a1), (0, a2), (99, 0)], [], s6) = some ([], (44, [(15, a0), (0, a1), (0, a2), (99, 0)], [(0, a1), (15, a0)], s6)) from rfl) ?_
      obtain ⟨v8, s8, h8, H⟩ := jb_some H
      refine AT.callV (As := [(0, a1)]) (cl := 11) (b := a0) (st := []) (i := 363) (pos := 7197) kMd_isReady (by decide +kernel) rfl (by decide +kernel) rfl rfl (by omega) (Md_isReady_ok h8) ?_
      show AT sMd_waits 3 (47, [(15, a0), (0, a1), (0, a2), (99, 0)], [(0, v8)], s8) o
      refine AT.ite (x := (0, 0, 0)) (by decide +kernel) (show jbr (.ifCond .ne 10) (47, [(15, a0), (0, a1), (0, a2), (99, 0)], [(0, v8)], s8) = some ((w32 v8) = 0, (50, [(15, a0), (0, a1), (0, a2), (99, 0)], [], s8), (57, [(15, a0), (0, a1), (0, a2), (99, 0)], [], s8)) from rfl) H (fun H => ?_) (fun H => ?_)
      · refine AT.seq [(50, .aload_n 0, 1, (0, 0, 0)), (51, .bipush 9, 2, (0, 0, 0))] (by decide +kernel) (show jrun _ (50, [(15, a0), (0, a1), (0, a2), (99, 0)], [], s8) = some ([], (53, [(15, a0), (0, a1), (0, a2), (99, 0)], [(0, 9), (15, a0)], s8)) from rfl) ?_
        obtain ⟨v9, s9, h9, H⟩ := jb_some H
        refine AT.callV (As := [(0, 9)]) (cl := 11) (b := a0) (st := []) (i := 322) (pos := 7116) kMd_refuse (by decide +kernel) rfl (by decide +kernel) rfl rfl (by omega) (Md_refuse_ok h9) ?_
        show AT sMd_waits 3 (56, [(15, a0), (0, a1), (0, a2), (99, 0)], [(0, v9)], s9) o
        exact AT.retiH (by decide +kernel) H
      · refine AT.seq [(57, .iconst 0, 1, (0, 0, 0)), (58, .istore_n 3, 1, (0, 0, 0))] (by decide +kernel) (show jrun _ (57, [(15, a0), (0, a1), (0, a2), (99, 0)], [], s8) = some ([], (59, [(15, a0), (0, a1), (0, a2), (0, 0)], [], s8)) from rfl) ?_
        exact Md_waits_59_ok  jFU _ _ _ _ _ H
def sMd_mixes : jS := (⟨"JellyCathedralModel", "mixes", "(IIIIIZ)V"⟩, prog_13_method_115_code, 8, 0, [15, 0, 0, 0, 0, 0, 0], 0)
theorem kMd_mixes : jmk sMd_mixes = true := jmk_of 8068 1012 8067 115 (by decide +kernel)
set_option maxRecDepth 100000 in
theorem Md_mixes_120_ok {o : Int × jM} {n0 : Nat} {rec : Int → Int → Int → Int → Int → Int → Int → jM → Option (Int × jM)} (hrec : ∀ (y0 y1 y2 y3 y4 y5 y6 : Int) (s : jM) (o : Int × jM), rec y0 y1 y2 y3 y4 y5 y6 s = some o → MK sMd_mixes (0 + n0) [(15, y0), (0, y1), (0, y2), (0, y3), (0, y4), (0, y5), (0, y6)] s o) : ∀ (n : Nat) (x0 x1 x2 x3 x4 x5 x6 x7 : Int) (s : jM), Md_mixes_120 rec n x0 x1 x2 x3 x4 x5 x6 x7 s = some o → AT sMd_mixes (0 + n0 + 1) (120, [(15, x0), (0, x1), (0, x2), (0, x3), (0, x4), (0, x5), (0, x6), (0, x7)], [], s) o := by
  intro n
  induction n with
  | zero =>
    intro x0 x1 x2 x3 x4 x5 x6 x7 s H
    have H : (none : Option (Int × jM)) = some o := H
    cases H
  | succ n ih =>
    intro x0 x1 x2 x3 x4 x5 x6 x7 s H
    rw [Md_mixes_120] at H
    refine AT.seq [(120, .iload 7, 2, (0, 0, 0))] (by decide +kernel) (show jrun _ (120, [(15, x0), (0, x1), (0, x2), (0, x3), (0, x4), (0, x5), (0, x6), (0, x7)], [], s) = some ([], (122, [(15, x0), (0, x1), (0, x2), (0, x3), (0, x4), (0, x5), (0, x6), (0, x7)], [(0, x7)], s)) from rfl) ?_
    refine AT.ite (x := (0, 0, 0)) (by decide +kernel) (show jbr (.ifCond .lt 61) (122, [(15, x0), (0, x1), (0, x2), (0, x3), (0, x4), (0, x5), (0, x6), (0, x7)], [(0, x7)], s) = some ((w32 x7) < 0, (183, [(15, x0), (0, x1), (0, x2), (0, x3), (0, x4), (0, x5), (0, x6), (0, x7)], [], s), (125, [(15, x0), (0, x1), (0, x2), (0, x3), (0, x4), (0, x5), (0, x6), (0, x7)], [], s)) from rfl) H (fun H => ?_) (fun H => ?_)
    · refine AT.blk (g := (0 ≤ (w32 x1) ∧ (w32 x1) < 5)) [(183, .aload_n 0, 1, (0, 0, 0)), (184, .getfield 50, 3, (5215, 1128, 0)), (187, .iload_n 1, 1, (0, 0, 0)), (188, .iconst 0, 1, (0, 0, 0)), (189, .iastore, 1, (0, 0, 0))] (by decide +kernel) (show jrun _ (183, [(15, x0), (0, x1), (0, x2), (0, x3), (0, x4), (0, x5), (0, x6), (0, x7)], [], s) = some ([(0 ≤ (w32 x1) ∧ (w32 x1) < 5)], (190, [(15, x0), (0, x1), (0, x2), (0, x3), (0, x4), (0, x5), (0, x6), (0, x7)], [], (jup s (x0 + 10) (w32 x1) 0))) from rfl) (fun h => h) H (fun H => ?_)
      exact AT.retvH (by decide +kernel) H
    · refine AT.blk (g := (0 ≤ (w32 x1) ∧ (w32 x1) < 5) ∧ (0 ≤ (w32 (9 + x1)) ∧ (w32 (9 + x1)) < 1905) ∧ (0 ≤ (w32 (14 + x1)) ∧ (w32 (14 + x1)) < 1905)) [(125, .aload_n 0, 1, (0, 0, 0)), (126, .getfield 50, 3, (5215, 1128, 0)), (129, .iload_n 1, 1, (0, 0, 0)), (130, .iload 7, 2, (0, 0, 0)), (132, .iastore, 1, (0, 0, 0)), (133, .aload_n 0, 1, (0, 0, 0)), (134, .iload_n 1, 1, (0, 0, 0)), (135, .iconst 1, 1, (0, 0, 0)), (136, .iadd, 1, (0, 0, 0)), (137, .iload_n 2, 1, (0, 0, 0)), (138, .iload 7, 2, (0, 0, 0)), (140, .isub, 1, (0, 0, 0)), (141, .iload_n 3, 1, (0, 0, 0)), (142, .iload 7, 2, (0, 0, 0)), (144, .aload_n 0, 1, (0, 0, 0)), (145, .getfield 35, 3, (5207, 1120, 0)), (148, .bipush 9, 2, (0, 0, 0)), (150, .iload_n 1, 1, (0, 0, 0)), (151, .iadd, 1, (0, 0, 0)), (152, .iaload, 1, (0, 0, 0)), (153, .imul, 1, (0, 0, 0)), (154, .iadd, 1, (0, 0, 0)), (155, .iload 4, 2, (0, 0, 0)), (157, .iload 7, 2, (0, 0, 0)), (159, .aload_n 0, 1, (0, 0, 0)), (160, .getfield 35, 3, (5207, 1120, 0)), (163, .bipush 14, 2, (0, 0, 0)), (165, .iload_n 1, 1, (0, 0, 0)), (166, .iadd, 1, (0, 0, 0)), (167, .iaload, 1, (0, 0, 0)), (168, .imul, 1, (0, 0, 0)), (169, .iadd, 1, (0, 0, 0)), (170, .iload 5, 2, (0, 0, 0)), (172, .iload 6, 2, (0, 0, 0))] (by decide +kernel) (show jrun _ (125, [(15, x0), (0, x1), (0, x2), (0, x3), (0, x4), (0, x5), (0, x6), (0, x7)], [], s) = some ([(0 ≤ (w32 x1) ∧ (w32 x1) < 5), (0 ≤ (w32 (9 + x1)) ∧ (w32 (9 + x1)) < 1905), (0 ≤ (w32 (14 + x1)) ∧ (w32 (14 + x1)) < 1905)], (174, [(15, x0), (0, x1), (0, x2), (0, x3), (0, x4), (0, x5), (0, x6), (0, x7)], [(0, x6), (0, x5), (0, (x4 + (x7 * ((jup s (x0 + 10) (w32 x1) x7) (x0 + 5) (w32 (14 + x1)))))), (0, (x3 + (x7 * ((jup s (x0 + 10) (w32 x1) x7) (x0 + 5) (w32 (9 + x1)))))), (0, (x2 - x7)), (0, (x1 + 1)), (15, x0)], (jup s (x0 + 10) (w32 x1) x7))) from rfl) (fun h => ⟨h.1, h.2.1, h.2.2⟩) H (fun H => ?_)
      obtain ⟨v1, s1, h1, H⟩ := jb_some H
      refine AT.callV (As := [(0, (x1 + 1)), (0, (x2 - x7)), (0, (x3 + (x7 * ((jup s (x0 + 10) (w32 x1) x7) (x0 + 5) (w32 (9 + x1)))))), (0, (x4 + (x7 * ((jup s (x0 + 10) (w32 x1) x7) (x0 + 5) (w32 (14 + x1)))))), (0, x5), (0, x6)]) (cl := 11) (b := x0) (st := []) (i := 421) (pos := 8065) kMd_mixes (by decide +kernel) rfl (by decide +kernel) rfl rfl (by omega) (hrec _ _ _ _ _ _ _ _ _ h1) ?_
      show AT sMd_mixes (0 + n0 + 1) (177, [(15, x0), (0, x1), (0, x2), (0, x3), (0, x4), (0, x5), (0, x6), (0, x7)], [], s1) o
      refine AT.seq [(177, .iinc 7 (-1), 3, (0, 0, 0)), (180, .goto (-60), 3, (0, 0, 0))] (by decide +kernel) (show jrun _ (177, [(15, x0), (0, x1), (0, x2), (0, x3), (0, x4), (0, x5), (0, x6), (0, x7)], [], s1) = some ([], (120, [(15, x0), (0, x1), (0, x2), (0, x3), (0, x4), (0, x5), (0, x6), (0, (x7 + (-1)))], [], s1)) from rfl) ?_
      exact ih _ _ _ _ _ _ _ _ _ H
set_option maxRecDepth 100000 in
theorem Md_mixes_69_ok {o : Int × jM} {n0 : Nat} {rec : Int → Int → Int → Int → Int → Int → Int → jM → Option (Int × jM)} (hrec : ∀ (y0 y1 y2 y3 y4 y5 y6 : Int) (s : jM) (o : Int × jM), rec y0 y1 y2 y3 y4 y5 y6 s = some o → MK sMd_mixes (0 + n0) [(15, y0), (0, y1), (0, y2), (0, y3), (0, y4), (0, y5), (0, y6)] s o) : ∀ (n : Nat) (x0 x7 : Int) (s : jM), Md_mixes_69 rec n x0 x7 s = some o → AT sMd_mixes (0 + n0 + 1) (69, [(15, x0), (99, 0), (99, 0), (99, 0), (99, 0), (99, 0), (99, 0), (0, x7)], [], s) o := by
  intro n
  induction n with
  | zero =>
    intro x0 x7 s H
    have H : (none : Option (Int × jM)) = some o := H
    cases H
  | succ n ih =>
    intro x0 x7 s H
    rw [Md_mixes_69] at H
    refine AT.seq [(69, .iload 7, 2, (0, 0, 0)), (71, .iconst 5, 1, (0, 0, 0))] (by decide +kernel) (show jrun _ (69, [(15, x0), (99, 0), (99, 0), (99, 0), (99, 0), (99, 0), (99, 0), (0, x7)], [], s) = some ([], (72, [(15, x0), (99, 0), (99, 0), (99, 0), (99, 0), (99, 0), (99, 0), (0, x7)], [(0, 5), (0, x7)], s)) from rfl) ?_
    refine AT.ite (x := (0, 0, 0)) (by decide +kernel) (show jbr (.if_icmp .ge 23) (72, [(15, x0), (99, 0), (99, 0), (99, 0), (99, 0), (99, 0), (99, 0), (0, x7)], [(0, 5), (0, x7)], s) = some ((w32 x7) < 5, (75, [(15, x0), (99, 0), (99, 0), (99, 0), (99, 0), (99, 0), (99, 0), (0, x7)], [], s), (95, [(15, x0), (99, 0), (99, 0), (99, 0), (99, 0), (99, 0), (99, 0), (0, x7)], [], s)) from rfl) H (fun H => ?_) (fun H => ?_)
    · refine AT.blk (g := (0 ≤ (w32 x7) ∧ (w32 x7) < 5) ∧ (0 ≤ (w32 x7) ∧ (w32 x7) < 5)) [(75, .aload_n 0, 1, (0, 0, 0)), (76, .getfield 53, 3, (5216, 1129, 0)), (79, .iload 7, 2, (0, 0, 0)), (81, .aload_n 0, 1, (0, 0, 0)), (82, .getfield 50, 3, (5215, 1128, 0)), (85, .iload 7, 2, (0, 0, 0)), (87, .iaload, 1, (0, 0, 0)), (88, .iastore, 1, (0, 0, 0)), (89, .iinc 7 1, 3, (0, 0, 0)), (92, .goto (-23), 3, (0, 0, 0))] (by decide +kernel) (show jrun _ (75, [(15, x0), (99, 0), (99, 0), (99, 0), (99, 0), (99, 0), (99, 0), (0, x7)], [], s) = some ([(0 ≤ (w32 x7) ∧ (w32 x7) < 5), (0 ≤ (w32 x7) ∧ (w32 x7) < 5)], (69, [(15, x0), (99, 0), (99, 0), (99, 0), (99, 0), (99, 0), (99, 0), (0, (x7 + 1))], [], (jup s (x0 + 11) (w32 x7) (s (x0 + 10) (w32 x7))))) from rfl) (fun h => ⟨h.1, h.2⟩) H (fun H => ?_)
      exact ih _ _ _ H
    · exact AT.retvH (by decide +kernel) H
set_option maxRecDepth 100000 in
theorem Md_mixes_b_ok {n0 : Nat} {rec : Int → Int → Int → Int → Int → Int → Int → jM → Option (Int × jM)} (hrec : ∀ (y0 y1 y2 y3 y4 y5 y6 : Int) (s : jM) (o : Int × jM), rec y0 y1 y2 y3 y4 y5 y6 s = some o → MK sMd_mixes (0 + n0) [(15, y0), (0, y1), (0, y2), (0, y3), (0, y4), (0, y5), (0, y6)] s o) {a0 a1 a2 a3 a4 a5 a6 : Int} {s : jM} {o : Int × jM} (H : Md_mixes_b rec a0 a1 a2 a3 a4 a5 a6 s = some o) : MK sMd_mixes (0 + n0 + 1) [(15, a0), (0, a1), (0, a2), (0, a3), (0, a4), (0, a5), (0, a6)] s o := by
  refine MK.of kMd_mixes rfl ?_
  show AT sMd_mixes (0 + n0 + 1) (0, [(15, a0), (0, a1), (0, a2), (0, a3), (0, a4), (0, a5), (0, a6), (99, 0)], [], s) o
  unfold Md_mixes_b at H
  refine AT.row [(0, .iload_n 1, 1, (0, 0, 0)), (1, .aload_n 0, 1, (0, 0, 0)), (2, .getfield 35, 3, (5207, 1120, 0)), (5, .iconst 0, 1, (0, 0, 0)), (6, .iaload, 1, (0, 0, 0))] (by decide +kernel) (show jrun _ (0, [(15, a0), (0, a1), (0, a2), (0, a3), (0, a4), (0, a5), (0, a6), (99, 0)], [], s) = some ([(0 ≤ (0 : Int) ∧ (0 : Int) < 1905)], (7, [(15, a0), (0, a1), (0, a2), (0, a3), (0, a4), (0, a5), (0, a6), (99, 0)], [(0, (s (a0 + 5) 0)), (0, a1)], s)) from rfl) (show (0 ≤ (0 : Int) ∧ (0 : Int) < 1905) from by decide) ?_
  refine AT.ite (x := (0, 0, 0)) (by decide +kernel) (show jbr (.if_icmp .ne 89) (7, [(15, a0), (0, a1), (0, a2), (0, a3), (0, a4), (0, a5), (0, a6), (99, 0)], [(0, (s (a0 + 5) 0)), (0, a1)], s) = some ((w32 a1) = (w32 (s (a0 + 5) 0)), (10, [(15, a0), (0, a1), (0, a2), (0, a3), (0, a4), (0, a5), (0, a6), (99, 0)], [], s), (96, [(15, a0), (0, a1), (0, a2), (0, a3), (0, a4), (0, a5), (0, a6), (99, 0)], [], s)) from rfl) H (fun H => ?_) (fun H => ?_)
  · refine AT.seq [(10, .iload_n 2, 1, (0, 0, 0))] (by decide +kernel) (show jrun _ (10, [(15, a0), (0, a1), (0, a2), (0, a3), (0, a4), (0, a5), (0, a6), (99, 0)], [], s) = some ([], (11, [(15, a0), (0, a1), (0, a2), (0, a3), (0, a4), (0, a5), (0, a6), (99, 0)], [(0, a2)], s)) from rfl) ?_
    refine AT.ite (x := (0, 0, 0)) (by decide +kernel) (show jbr (.ifCond .le 4) (11, [(15, a0), (0, a1), (0, a2), (0, a3), (0, a4), (0, a5), (0, a6), (99, 0)], [(0, a2)], s) = some (0 < (w32 a2), (14, [(15, a0), (0, a1), (0, a2), (0, a3), (0, a4), (0, a5), (0, a6), (99, 0)], [], s), (15, [(15, a0), (0, a1), (0, a2), (0, a3), (0, a4), (0, a5), (0, a6), (99, 0)], [], s)) from rfl) H (fun H => ?_) (fun H => ?_)
    · exact AT.retvH (by decide +kernel) H
    · refine AT.blk (g := (0 ≤ (w32 a3) ∧ (w32 a3) < 82) ∧ (0 ≤ (w32 a3) ∧ (w32 a3) < 82)) [(15, .aload_n 0, 1, (0, 0, 0)), (16, .getfield 56, 3, (5217, 1130, 0)), (19, .iload_n 3, 1, (0, 0, 0)), (20, .dup2, 1, (0, 0, 0)), (21, .iaload, 1, (0, 0, 0)), (22, .iconst 1, 1, (0, 0, 0)), (23, .iadd, 1, (0, 0, 0)), (24, .iastore, 1, (0, 0, 0)), (25, .aload_n 0, 1, (0, 0, 0)), (26, .aload_n 0, 1, (0, 0, 0)), (27, .getfield 415, 3, (5219, 1132, 0)), (30, .iload_n 3, 1, (0, 0, 0)), (31, .invokestatic 247, 3, (7078, 1, 0)), (34, .putfield 415, 3, (5219, 1132, 0)), (37, .iload_n 3, 1, (0, 0, 0)), (38, .iload 5, 2, (0, 0, 0))] (by decide +kernel) (show jrun _ (15, [(15, a0), (0, a1), (0, a2), (0, a3), (0, a4), (0, a5), (0, a6), (99, 0)], [], s) = some ([(0 ≤ (w32 a3) ∧ (w32 a3) < 82), (0 ≤ (w32 a3) ∧ (w32 a3) < 82)], (40, [(15, a0), (0, a1), (0, a2), (0, a3), (0, a4), (0, a5), (0, a6), (99, 0)], [(0, a5), (0, a3)], (jup (jup s (a0 + 12) (w32 a3) ((s (a0 + 12) (w32 a3)) + 1)) a0 32 (jmax ((jup s (a0 + 12) (w32 a3) ((s (a0 + 12) (w32 a3)) + 1)) a0 32) a3)))) from rfl) (fun h => ⟨h.1, h.2⟩) H (fun H => ?_)
      obtain ⟨s2, e2, H⟩ := jm_some H
      rw [← e2]
      refine AT.ite (x := (0, 0, 0)) (by decide +kernel) (show jbr (.if_icmp .lt 19) (40, [(15, a0), (0, a1), (0, a2), (0, a3), (0, a4), (0, a5), (0, a6), (99, 0)], [(0, a5), (0, a3)], s2) = some ((w32 a3) < (w32 a5), (59, [(15, a0), (0, a1), (0, a2), (0, a3), (0, a4), (0, a5), (0, a6), (99, 0)], [], s2), (43, [(15, a0), (0, a1), (0, a2), (0, a3), (0, a4), (0, a5), (0, a6), (99, 0)], [], s2)) from rfl) H (fun H => ?_) (fun H => ?_)
      · exact AT.retvH (by decide +kernel) H
      · refine AT.seq [(43, .aload_n 0, 1, (0, 0, 0)), (44, .getfield 418, 3, (5218, 1131, 0))] (by decide +kernel) (show jrun _ (43, [(15, a0), (0, a1), (0, a2), (0, a3), (0, a4), (0, a5), (0, a6), (99, 0)], [], s2) = some ([], (47, [(15, a0), (0, a1), (0, a2), (0, a3), (0, a4), (0, a5), (0, a6), (99, 0)], [(0, (s2 a0 31))], s2)) from rfl) ?_
        refine AT.ite (x := (0, 0, 0)) (by decide +kernel) (show jbr (.ifCond .lt 13) (47, [(15, a0), (0, a1), (0, a2), (0, a3), (0, a4), (0, a5), (0, a6), (99, 0)], [(0, (s2 a0 31))], s2) = some ((w32 (s2 a0 31)) < 0, (60, [(15, a0), (0, a1), (0, a2), (0, a3), (0, a4), (0, a5), (0, a6), (99, 0)], [], s2), (50, [(15, a0), (0, a1), (0, a2), (0, a3), (0, a4), (0, a5), (0, a6), (99, 0)], [], s2)) from rfl) H (fun H => ?_) (fun H => ?_)
        · refine AT.seq [(60, .aload_n 0, 1, (0, 0, 0)), (61, .iload 4, 2, (0, 0, 0)), (63, .putfield 418, 3, (5218, 1131, 0)), (66, .iconst 0, 1, (0, 0, 0)), (67, .istore 7, 2, (0, 0, 0))] (by decide +kernel) (show jrun _ (60, [(15, a0), (0, a1), (0, a2), (0, a3), (0, a4), (0, a5), (0, a6), (99, 0)], [], s2) = some ([], (69, [(15, a0), (0, a1), (0, a2), (0, a3), (0, a4), (0, a5), (0, a6), (0, 0)], [], (jup s2 a0 31 a4))) from rfl) ?_
          exact AT.weak (L' := [(15, a0), (99, 0), (99, 0), (99, 0), (99, 0), (99, 0), (99, 0), (0, 0)]) (jleK (jleJ (jleJ (jleJ (jleJ (jleJ (jleJ (jleK jle0)))))))) (Md_mixes_69_ok hrec jFU _ _ _ H)
        · refine AT.seq [(50, .iload 4, 2, (0, 0, 0)), (52, .aload_n 0, 1, (0, 0, 0)), (53, .getfield 418, 3, (5218, 1131, 0))] (by decide +kernel) (show jrun _ (50, [(15, a0), (0, a1), (0, a2), (0, a3), (0, a4), (0, a5), (0, a6), (99, 0)], [], s2) = some ([], (56, [(15, a0), (0, a1), (0, a2), (0, a3), (0, a4), (0, a5), (0, a6), (99, 0)], [(0, (s2 a0 31)), (0, a4)], s2)) from rfl) ?_
          refine AT.ite (x := (0, 0, 0)) (by decide +kernel) (show jbr (.if_icmp .lt 4) (56, [(15, a0), (0, a1), (0, a2), (0, a3), (0, a4), (0, a5), (0, a6), (99, 0)], [(0, (s2 a0 31)), (0, a4)], s2) = some ((w32 a4) < (w32 (s2 a0 31)), (60, [(15, a0), (0, a1), (0, a2), (0, a3), (0, a4), (0, a5), (0, a6), (99, 0)], [], s2), (59, [(15, a0), (0, a1), (0, a2), (0, a3), (0, a4), (0, a5), (0, a6), (99, 0)], [], s2)) from rfl) H (fun H => ?_) (fun H => ?_)
          · refine AT.seq [(60, .aload_n 0, 1, (0, 0, 0)), (61, .iload 4, 2, (0, 0, 0)), (63, .putfield 418, 3, (5218, 1131, 0)), (66, .iconst 0, 1, (0, 0, 0)), (67, .istore 7, 2, (0, 0, 0))] (by decide +kernel) (show jrun _ (60, [(15, a0), (0, a1), (0, a2), (0, a3), (0, a4), (0, a5), (0, a6), (99, 0)], [], s2) = some ([], (69, [(15, a0), (0, a1), (0, a2), (0, a3), (0, a4), (0, a5), (0, a6), (0, 0)], [], (jup s2 a0 31 a4))) from rfl) ?_
            exact AT.weak (L' := [(15, a0), (99, 0), (99, 0), (99, 0), (99, 0), (99, 0), (99, 0), (0, 0)]) (jleK (jleJ (jleJ (jleJ (jleJ (jleJ (jleJ (jleK jle0)))))))) (Md_mixes_69_ok hrec jFU _ _ _ H)
          · exact AT.retvH (by decide +kernel) H
  · refine AT.seq [(96, .iload 6, 2, (0, 0, 0))] (by decide +kernel) (show jrun _ (96, [(15, a0), (0, a1), (0, a2), (0, a3), (0, a4), (0, a5), (0, a6), (99, 0)], [], s) = some ([], (98, [(15, a0), (0, a1), (0, a2), (0, a3), (0, a4), (0, a5), (0, a6), (99, 0)], [(0, a6)], s)) from rfl) ?_
    refine AT.ite (x := (0, 0, 0)) (by decide +kernel) (show jbr (.ifCond .eq 19) (98, [(15, a0), (0, a1), (0, a2), (0, a3), (0, a4), (0, a5), (0, a6), (99, 0)], [(0, a6)], s) = some ((w32 a6) = 0, (117, [(15, a0), (0, a1), (0, a2), (0, a3), (0, a4), (0, a5), (0, a6), (99, 0)], [], s), (101, [(15, a0), (0, a1), (0, a2), (0, a3), (0, a4), (0, a5), (0, a6), (99, 0)], [], s)) from rfl) H (fun H => ?_) (fun H => ?_)
    · refine AT.seq [(117, .iload_n 2, 1, (0, 0, 0)), (118, .istore 7, 2, (0, 0, 0))] (by decide +kernel) (show jrun _ (117, [(15, a0), (0, a1), (0, a2), (0, a3), (0, a4), (0, a5), (0, a6), (99, 0)], [], s) = some ([], (120, [(15, a0), (0, a1), (0, a2), (0, a3), (0, a4), (0, a5), (0, a6), (0, a2)], [], s)) from rfl) ?_
      exact Md_mixes_120_ok hrec jFU _ _ _ _ _ _ _ _ _ H
    · refine AT.blk (g := (0 ≤ (w32 (19 + a1)) ∧ (w32 (19 + a1)) < 1905)) [(101, .iload_n 2, 1, (0, 0, 0)), (102, .aload_n 0, 1, (0, 0, 0)), (103, .getfield 35, 3, (5207, 1120, 0)), (106, .bipush 19, 2, (0, 0, 0)), (108, .iload_n 1, 1, (0, 0, 0)), (109, .iadd, 1, (0, 0, 0)), (110, .iaload, 1, (0, 0, 0)), (111, .invokestatic 375, 3, (7229, 2, 0)), (114, .goto 4, 3, (0, 0, 0)), (118, .istore 7, 2, (0, 0, 0))] (by decide +kernel) (show jrun _ (101, [(15, a0), (0, a1), (0, a2), (0, a3), (0, a4), (0, a5), (0, a6), (99, 0)], [], s) = some ([(0 ≤ (w32 (19 + a1)) ∧ (w32 (19 + a1)) < 1905)], (120, [(15, a0), (0, a1), (0, a2), (0, a3), (0, a4), (0, a5), (0, a6), (0, (jmin a2 (s (a0 + 5) (w32 (19 + a1)))))], [], s)) from rfl) (fun h => h) H (fun H => ?_)
      exact Md_mixes_120_ok hrec jFU _ _ _ _ _ _ _ _ _ H
set_option maxRecDepth 100000 in
theorem Md_mixes_ok : ∀ (n : Nat) (a0 a1 a2 a3 a4 a5 a6 : Int) (s : jM) (o : Int × jM), Md_mixes n a0 a1 a2 a3 a4 a5 a6 s = some o → MK sMd_mixes (0 + n) [(15, a0), (0, a1), (0, a2), (0, a3), (0, a4), (0, a5), (0, a6)] s o := by
  intro n
  induction n with
  | zero =>
    intro a0 a1 a2 a3 a4 a5 a6 s o H
    have H : (none : Option (Int × jM)) = some o := H
    cases H
  | succ n ih =>
    intro a0 a1 a2 a3 a4 a5 a6 s o H
    exact Md_mixes_b_ok (n0 := n) ih H
def sMd_laysMix : jS := (⟨"JellyCathedralModel", "laysMix", "(IIZ)V"⟩, prog_13_method_116_code, 5, 0, [15, 0, 0, 0], 0)
theorem kMd_laysMix : jmk sMd_laysMix = true := jmk_of 8064 1012 8063 114 (by decide +kernel)
set_option maxRecDepth 100000 in
theorem Md_laysMix_37_ok {o : Int × jM} : ∀ (n : Nat) (x0 x1 x2 x3 x4 : Int) (s : jM), Md_laysMix_37  n x0 x1 x2 x3 x4 s = some o → AT sMd_laysMix 13 (37, [(15, x0), (0, x1), (0, x2), (0, x3), (0, x4)], [], s) o := by
  intro n
  induction n with
  | zero =>
    intro x0 x1 x2 x3 x4 s H
    have H : (none : Option (Int × jM)) = some o := H
    cases H
  | succ n ih =>
    intro x0 x1 x2 x3 x4 s H
    rw [Md_laysMix_37] at H
    refine AT.seq [(37, .iload 4, 2, (0, 0, 0)), (39, .iconst 5, 1, (0, 0, 0))] (by decide +kernel) (show jrun _ (37, [(15, x0), (0, x1), (0, x2), (0, x3), (0, x4)], [], s) = some ([], (40, [(15, x0), (0, x1), (0, x2), (0, x3), (0, x4)], [(0, 5), (0, x4)], s)) from rfl) ?_
    refine AT.ite (x := (0, 0, 0)) (by decide +kernel) (show jbr (.if_icmp .ge 17) (40, [(15, x0), (0, x1), (0, x2), (0, x3), (0, x4)], [(0, 5), (0, x4)], s) = some ((w32 x4) < 5, (43, [(15, x0), (0, x1), (0, x2), (0, x3), (0, x4)], [], s), (57, [(15, x0), (0, x1), (0, x2), (0, x3), (0, x4)], [], s)) from rfl) H (fun H => ?_) (fun H => ?_)
    · refine AT.blk (g := (0 ≤ (w32 x4) ∧ (w32 x4) < 5)) [(43, .aload_n 0, 1, (0, 0, 0)), (44, .getfield 50, 3, (5215, 1128, 0)), (47, .iload 4, 2, (0, 0, 0)), (49, .iconst 0, 1, (0, 0, 0)), (50, .iastore, 1, (0, 0, 0)), (51, .iinc 4 1, 3, (0, 0, 0)), (54, .goto (-17), 3, (0, 0, 0))] (by decide +kernel) (show jrun _ (43, [(15, x0), (0, x1), (0, x2), (0, x3), (0, x4)], [], s) = some ([(0 ≤ (w32 x4) ∧ (w32 x4) < 5)], (37, [(15, x0), (0, x1), (0, x2), (0, x3), (0, (x4 + 1))], [], (jup s (x0 + 10) (w32 x4) 0))) from rfl) (fun h => h) H (fun H => ?_)
      exact ih _ _ _ _ _ _ H
    · refine AT.blk (g := (0 ≤ (w32 (59 + x1)) ∧ (w32 (59 + x1)) < 1905)) [(57, .aload_n 0, 1, (0, 0, 0)), (58, .iconst 0, 1, (0, 0, 0)), (59, .aload_n 0, 1, (0, 0, 0)), (60, .getfield 35, 3, (5207, 1120, 0)), (63, .bipush 59, 2, (0, 0, 0)), (65, .iload_n 1, 1, (0, 0, 0)), (66, .iadd, 1, (0, 0, 0)), (67, .iaload, 1, (0, 0, 0)), (68, .iconst 0, 1, (0, 0, 0)), (69, .iconst 0, 1, (0, 0, 0)), (70, .iload_n 2, 1, (0, 0, 0)), (71, .iload_n 3, 1, (0, 0, 0))] (by decide +kernel) (show jrun _ (57, [(15, x0), (0, x1), (0, x2), (0, x3), (0, x4)], [], s) = some ([(0 ≤ (w32 (59 + x1)) ∧ (w32 (59 + x1)) < 1905)], (72, [(15, x0), (0, x1), (0, x2), (0, x3), (0, x4)], [(0, x3), (0, x2), (0, 0), (0, 0), (0, (s (x0 + 5) (w32 (59 + x1)))), (0, 0), (15, x0)], s)) from rfl) (fun h => h) H (fun H => ?_)
      obtain ⟨v1, s1, h1, H⟩ := jb_some H
      refine AT.callV (As := [(0, 0), (0, (s (x0 + 5) (w32 (59 + x1)))), (0, 0), (0, 0), (0, x2), (0, x3)]) (cl := 11) (b := x0) (st := []) (i := 421) (pos := 8065) kMd_mixes (by decide +kernel) rfl (by decide +kernel) rfl rfl (by omega) (Md_mixes_ok 12 _ _ _ _ _ _ _ _ _ h1) ?_
      show AT sMd_laysMix 13 (75, [(15, x0), (0, x1), (0, x2), (0, x3), (0, x4)], [], s1) o
      exact AT.retvH (by decide +kernel) H
set_option maxRecDepth 100000 in
theorem Md_laysMix_13_ok {o : Int × jM} : ∀ (n : Nat) (x0 x1 x2 x3 x4 : Int) (s : jM), Md_laysMix_13  n x0 x1 x2 x3 x4 s = some o → AT sMd_laysMix 13 (13, [(15, x0), (0, x1), (0, x2), (0, x3), (0, x4)], [], s) o := by
  intro n
  induction n with
  | zero =>
    intro x0 x1 x2 x3 x4 s H
    have H : (none : Option (Int × jM)) = some o := H
    cases H
  | succ n ih =>
    intro x0 x1 x2 x3 x4 s H
    rw [Md_laysMix_13] at H
    refine AT.seq [(13, .iload 4, 2, (0, 0, 0)), (15, .bipush 82, 2, (0, 0, 0))] (by decide +kernel) (show jrun _ (13, [(15, x0), (0, x1), (0, x2), (0, x3), (0, x4)], [], s) = some ([], (17, [(15, x0), (0, x1), (0, x2), (0, x3), (0, x4)], [(0, 82), (0, x4)], s)) from rfl) ?_
    refine AT.ite (x := (0, 0, 0)) (by decide +kernel) (show jbr (.if_icmp .ge 17) (17, [(15, x0), (0, x1), (0, x2), (0, x3), (0, x4)], [(0, 82), (0, x4)], s) = some ((w32 x4) < 82, (20, [(15, x0), (0, x1), (0, x2), (0, x3), (0, x4)], [], s), (34, [(15, x0), (0, x1), (0, x2), (0, x3), (0, x4)], [], s)) from rfl) H (fun H => ?_) (fun H => ?_)
    · refine AT.blk (g := (0 ≤ (w32 x4) ∧ (w32 x4) < 82)) [(20, .aload_n 0, 1, (0, 0, 0)), (21, .getfield 56, 3, (5217, 1130, 0)), (24, .iload 4, 2, (0, 0, 0)), (26, .iconst 0, 1, (0, 0, 0)), (27, .iastore, 1, (0, 0, 0)), (28, .iinc 4 1, 3, (0, 0, 0)), (31, .goto (-18), 3, (0, 0, 0))] (by decide +kernel) (show jrun _ (20, [(15, x0), (0, x1), (0, x2), (0, x3), (0, x4)], [], s) = some ([(0 ≤ (w32 x4) ∧ (w32 x4) < 82)], (13, [(15, x0), (0, x1), (0, x2), (0, x3), (0, (x4 + 1))], [], (jup s (x0 + 12) (w32 x4) 0))) from rfl) (fun h => h) H (fun H => ?_)
      exact ih _ _ _ _ _ _ H
    · refine AT.seq [(34, .iconst 0, 1, (0, 0, 0)), (35, .istore 4, 2, (0, 0, 0))] (by decide +kernel) (show jrun _ (34, [(15, x0), (0, x1), (0, x2), (0, x3), (0, x4)], [], s) = some ([], (37, [(15, x0), (0, x1), (0, x2), (0, x3), (0, 0)], [], s)) from rfl) ?_
      exact Md_laysMix_37_ok  jFU _ _ _ _ _ _ H
set_option maxRecDepth 100000 in
theorem Md_laysMix_ok {a0 a1 a2 a3 : Int} {s : jM} {o : Int × jM} (H : Md_laysMix a0 a1 a2 a3 s = some o) : MK sMd_laysMix 13 [(15, a0), (0, a1), (0, a2), (0, a3)] s o := by
  refine MK.of kMd_laysMix rfl ?_
  show AT sMd_laysMix 13 (0, [(15, a0), (0, a1), (0, a2), (0, a3), (99, 0)], [], s) o
  unfold Md_laysMix at H
  refine AT.seq [(0, .aload_n 0, 1, (0, 0, 0)), (1, .iconst (-1), 1, (0, 0, 0)), (2, .putfield 418, 3, (5218, 1131, 0)), (5, .aload_n 0, 1, (0, 0, 0)), (6, .iconst (-1), 1, (0, 0, 0)), (7, .putfield 415, 3, (5219, 1132, 0)), (10, .iconst 0, 1, (0, 0, 0)), (11, .istore 4, 2, (0, 0, 0))] (by decide +kernel) (show jrun _ (0, [(15, a0), (0, a1), (0, a2), (0, a3), (99, 0)], [], s) = some ([], (13, [(15, a0), (0, a1), (0, a2), (0, a3), (0, 0)], [], (jup (jup s a0 31 (-1)) a0 32 (-1)))) from rfl) ?_
  exact Md_laysMix_13_ok  jFU _ _ _ _ _ _ H
def sMd_whyNoMix : jS := (⟨"JellyCathedralModel", "whyNoMix", "(II)I"⟩, prog_13_method_117_code, 3, 1, [15, 0, 0], 0)
theorem kMd_whyNoMix : jmk sMd_whyNoMix = true := jmk_of 8059 1012 8058 113 (by decide +kernel)
set_option maxRecDepth 100000 in
theorem Md_whyNoMix_ok {a0 a1 a2 : Int} {s : jM} {o : Int × jM} (H : Md_whyNoMix a0 a1 a2 s = some o) : MK sMd_whyNoMix 2 [(15, a0), (0, a1), (0, a2)] s o := by
  refine MK.of kMd_whyNoMix rfl ?_
  show AT sMd_whyNoMix 2 (0, [(15, a0), (0, a1), (0, a2)], [], s) o
  unfold Md_whyNoMix at H
  refine AT.seq [(0, .aload_n 0, 1, (0, 0, 0)), (1, .iload_n 1, 1, (0, 0, 0))] (by decide +kernel) (show jrun _ (0, [(15, a0), (0, a1), (0, a2)], [], s) = some ([], (2, [(15, a0), (0, a1), (0, a2)], [(0, a1), (15, a0)], s)) from rfl) ?_
  obtain ⟨v1, s1, h1, H⟩ := jb_some H
  refine AT.callV (As := [(0, a1)]) (cl := 11) (b := a0) (st := []) (i := 333) (pos := 7137) kMd_isMouldAt (by decide +kernel) rfl (by decide +kernel) rfl rfl (by omega) (Md_isMouldAt_ok h1) ?_
  show AT sMd_whyNoMix 2 (5, [(15, a0), (0, a1), (0, a2)], [(0, v1)], s1) o
  refine AT.ite (x := (0, 0, 0)) (by decide +kernel) (show jbr (.ifCond .ne 7) (5, [(15, a0), (0, a1), (0, a2)], [(0, v1)], s1) = some ((w32 v1) = 0, (8, [(15, a0), (0, a1), (0, a2)], [], s1), (12, [(15, a0), (0, a1), (0, a2)], [], s1)) from rfl) H (fun H => ?_) (fun H => ?_)
  · refine AT.seq [(8, .iconst 2, 1, (0, 0, 0)), (9, .goto 20, 3, (0, 0, 0))] (by decide +kernel) (show jrun _ (8, [(15, a0), (0, a1), (0, a2)], [], s1) = some ([], (29, [(15, a0), (0, a1), (0, a2)], [(0, 2)], s1)) from rfl) ?_
    exact AT.retiH (by decide +kernel) H
  · refine AT.seq [(12, .iload_n 2, 1, (0, 0, 0)), (13, .i2l, 1, (0, 0, 0)), (14, .lconst 0, 1, (0, 0, 0)), (15, .ldc2_w 425, 3, (8060, 0, 81))] (by decide +kernel) (show jrun _ (12, [(15, a0), (0, a1), (0, a2)], [], s1) = some ([], (18, [(15, a0), (0, a1), (0, a2)], [(1, 81), (1, 0), (1, (w32 a2))], s1)) from rfl) ?_
    obtain ⟨v2, s2, h2, H⟩ := jb_some H
    refine AT.callS (As := [(1, (w32 a2)), (1, 0), (1, 81)]) (st := []) (i := 107) (pos := 6204) kMd_isIn (by decide +kernel) rfl rfl rfl (by omega) (Md_isIn_ok h2) ?_
    show AT sMd_whyNoMix 2 (21, [(15, a0), (0, a1), (0, a2)], [(0, v2)], s2) o
    refine AT.ite (x := (0, 0, 0)) (by decide +kernel) (show jbr (.ifCond .eq 7) (21, [(15, a0), (0, a1), (0, a2)], [(0, v2)], s2) = some ((w32 v2) = 0, (28, [(15, a0), (0, a1), (0, a2)], [], s2), (24, [(15, a0), (0, a1), (0, a2)], [], s2)) from rfl) H (fun H => ?_) (fun H => ?_)
    · refine AT.seq [(28, .iconst 5, 1, (0, 0, 0))] (by decide +kernel) (show jrun _ (28, [(15, a0), (0, a1), (0, a2)], [], s2) = some ([], (29, [(15, a0), (0, a1), (0, a2)], [(0, 5)], s2)) from rfl) ?_
      exact AT.retiH (by decide +kernel) H
    · refine AT.seq [(24, .iconst 0, 1, (0, 0, 0)), (25, .goto 4, 3, (0, 0, 0))] (by decide +kernel) (show jrun _ (24, [(15, a0), (0, a1), (0, a2)], [], s2) = some ([], (29, [(15, a0), (0, a1), (0, a2)], [(0, 0)], s2)) from rfl) ?_
      exact AT.retiH (by decide +kernel) H
