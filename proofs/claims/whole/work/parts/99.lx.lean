/-! printed by wip/whole/gen_lx.py: the law walk -/
set_option maxHeartbeats 4000000 in
set_option maxRecDepth 100000 in
theorem Lx_law_1727_ok {o : Int × jM} {k18 : Int → Int → Int → Int → jM → Option (Int × jM)} (hk18 : ∀ (x0 x1 x2 x3 : Int) (s : jM), k18 x0 x1 x2 x3 s = some o → AT sLw_law 32 (18, [(3, x0), (4, x1), (15, x2), (0, x3)], [], s) o) {x0 x1 x2 x3 : Int} {s : jM} (H : Lx_law_1727 k18 x0 x1 x2 x3 s = some o) : AT sLw_law 32 (1727, [(3, x0), (4, x1), (15, x2), (0, x3)], [], s) o := by
  unfold Lx_law_1727 at H
  refine AT.seq [(1727, .iinc 3 6, 3, (0, 0, 0)), (1730, .goto (-1712), 3, (0, 0, 0))] (by decide +kernel) (show jrun _ (1727, [(3, x0), (4, x1), (15, x2), (0, x3)], [], s) = some ([], (18, [(3, x0), (4, x1), (15, x2), (0, (x3 + 6))], [], s)) from rfl) ?_
  exact hk18 _ _ _ _ _ H
set_option maxHeartbeats 4000000 in
set_option maxRecDepth 100000 in
theorem Lx_law_1714_ok {o : Int × jM} {k18 : Int → Int → Int → Int → jM → Option (Int × jM)} (hk18 : ∀ (x0 x1 x2 x3 : Int) (s : jM), k18 x0 x1 x2 x3 s = some o → AT sLw_law 32 (18, [(3, x0), (4, x1), (15, x2), (0, x3)], [], s) o) {x0 x1 x2 x3 : Int} {s : jM} (H : Lx_law_1714 k18 x0 x1 x2 x3 s = some o) : AT sLw_law 32 (1714, [(3, x0), (4, x1), (15, x2), (0, x3)], [], s) o := by
  unfold Lx_law_1714 at H
  refine AT.seq [(1714, .aload_n 1, 1, (0, 0, 0))] (by decide +kernel) (show jrun _ (1714, [(3, x0), (4, x1), (15, x2), (0, x3)], [], s) = some ([], (1715, [(3, x0), (4, x1), (15, x2), (0, x3)], [(4, x1)], s)) from rfl) ?_
  obtain ⟨v1, s1, h1, H⟩ := jb_some H
  refine AT.callW (As := []) (cl := 0) (b := x1) (st := []) (i := 216) (pos := 5173) kJc_back (by decide +kernel) rfl (by decide +kernel) rfl rfl (by omega) (Jc_back_ok h1) (fun hS => ?_)
  have H := jsm_y hS H
  show AT sLw_law 32 (1718, [(3, x0), (4, x1), (15, x2), (0, x3)], [(0, v1)], s1) o
  refine AT.seq [(1718, .aload_n 2, 1, (0, 0, 0))] (by decide +kernel) (show jrun _ (1718, [(3, x0), (4, x1), (15, x2), (0, x3)], [(0, v1)], s1) = some ([], (1719, [(3, x0), (4, x1), (15, x2), (0, x3)], [(15, x2), (0, v1)], s1)) from rfl) ?_
  obtain ⟨v2, s2, h2, H⟩ := jb_some H
  refine AT.callV (As := []) (cl := 11) (b := x2) (st := [(0, v1)]) (i := 219) (pos := 8221) kMd_back (by decide +kernel) rfl (by decide +kernel) rfl rfl (by omega) (Md_back_ok h2) ?_
  show AT sLw_law 32 (1722, [(3, x0), (4, x1), (15, x2), (0, x3)], [(0, v2), (0, v1)], s2) o
  refine AT.ite (x := (0, 0, 0)) (by decide +kernel) (show jbr (.if_icmp .eq 5) (1722, [(3, x0), (4, x1), (15, x2), (0, x3)], [(0, v2), (0, v1)], s2) = some ((w32 v1) = (w32 v2), (1727, [(3, x0), (4, x1), (15, x2), (0, x3)], [], s2), (1725, [(3, x0), (4, x1), (15, x2), (0, x3)], [], s2)) from rfl) H (fun H => ?_) (fun H => ?_)
  · exact Lx_law_1727_ok hk18 H
  · refine AT.seq [(1725, .iconst 0, 1, (0, 0, 0))] (by decide +kernel) (show jrun _ (1725, [(3, x0), (4, x1), (15, x2), (0, x3)], [], s2) = some ([], (1726, [(3, x0), (4, x1), (15, x2), (0, x3)], [(0, 0)], s2)) from rfl) ?_
    exact AT.retzC (by decide +kernel) (by decide) H
set_option maxHeartbeats 4000000 in
set_option maxRecDepth 100000 in
theorem Lx_law_1701_ok {o : Int × jM} {k18 : Int → Int → Int → Int → jM → Option (Int × jM)} (hk18 : ∀ (x0 x1 x2 x3 : Int) (s : jM), k18 x0 x1 x2 x3 s = some o → AT sLw_law 32 (18, [(3, x0), (4, x1), (15, x2), (0, x3)], [], s) o) {x0 x1 x2 x3 : Int} {s : jM} (H : Lx_law_1701 k18 x0 x1 x2 x3 s = some o) : AT sLw_law 32 (1701, [(3, x0), (4, x1), (15, x2), (0, x3)], [], s) o := by
  unfold Lx_law_1701 at H
  refine AT.seq [(1701, .aload_n 1, 1, (0, 0, 0))] (by decide +kernel) (show jrun _ (1701, [(3, x0), (4, x1), (15, x2), (0, x3)], [], s) = some ([], (1702, [(3, x0), (4, x1), (15, x2), (0, x3)], [(4, x1)], s)) from rfl) ?_
  obtain ⟨v3, s3, h3, H⟩ := jb_some H
  refine AT.callW (As := []) (cl := 0) (b := x1) (st := []) (i := 212) (pos := 5169) kJc_mark (by decide +kernel) rfl (by decide +kernel) rfl rfl (by omega) (Jc_mark_ok h3) (fun hS => ?_)
  have H := jsm_y hS H
  show AT sLw_law 32 (1705, [(3, x0), (4, x1), (15, x2), (0, x3)], [(0, v3)], s3) o
  refine AT.seq [(1705, .aload_n 2, 1, (0, 0, 0))] (by decide +kernel) (show jrun _ (1705, [(3, x0), (4, x1), (15, x2), (0, x3)], [(0, v3)], s3) = some ([], (1706, [(3, x0), (4, x1), (15, x2), (0, x3)], [(15, x2), (0, v3)], s3)) from rfl) ?_
  obtain ⟨v4, s4, h4, H⟩ := jb_some H
  refine AT.callV (As := []) (cl := 11) (b := x2) (st := [(0, v3)]) (i := 215) (pos := 8217) kMd_mark (by decide +kernel) rfl (by decide +kernel) rfl rfl (by omega) (Md_mark_ok h4) ?_
  show AT sLw_law 32 (1709, [(3, x0), (4, x1), (15, x2), (0, x3)], [(0, v4), (0, v3)], s4) o
  refine AT.ite (x := (0, 0, 0)) (by decide +kernel) (show jbr (.if_icmp .eq 18) (1709, [(3, x0), (4, x1), (15, x2), (0, x3)], [(0, v4), (0, v3)], s4) = some ((w32 v3) = (w32 v4), (1727, [(3, x0), (4, x1), (15, x2), (0, x3)], [], s4), (1712, [(3, x0), (4, x1), (15, x2), (0, x3)], [], s4)) from rfl) H (fun H => ?_) (fun H => ?_)
  · exact Lx_law_1727_ok hk18 H
  · refine AT.seq [(1712, .iconst 0, 1, (0, 0, 0))] (by decide +kernel) (show jrun _ (1712, [(3, x0), (4, x1), (15, x2), (0, x3)], [], s4) = some ([], (1713, [(3, x0), (4, x1), (15, x2), (0, x3)], [(0, 0)], s4)) from rfl) ?_
    exact AT.retzC (by decide +kernel) (by decide) H
set_option maxHeartbeats 4000000 in
set_option maxRecDepth 100000 in
theorem Lx_law_1668_ok {o : Int × jM} {k18 : Int → Int → Int → Int → jM → Option (Int × jM)} (hk18 : ∀ (x0 x1 x2 x3 : Int) (s : jM), k18 x0 x1 x2 x3 s = some o → AT sLw_law 32 (18, [(3, x0), (4, x1), (15, x2), (0, x3)], [], s) o) {x0 x1 x2 x3 : Int} {s : jM} (H : Lx_law_1668 k18 x0 x1 x2 x3 s = some o) : AT sLw_law 32 (1668, [(3, x0), (4, x1), (15, x2), (0, x3)], [], s) o := by
  unfold Lx_law_1668 at H
  refine AT.blk (g := (0 ≤ (w32 (x3 + 1)) ∧ (w32 (x3 + 1)) < s (-2) 0) ∧ (0 ≤ (w32 (x3 + 2)) ∧ (w32 (x3 + 2)) < s (-2) 0)) [(1668, .aload_n 1, 1, (0, 0, 0)), (1669, .aload_n 0, 1, (0, 0, 0)), (1670, .iload_n 3, 1, (0, 0, 0)), (1671, .iconst 1, 1, (0, 0, 0)), (1672, .iadd, 1, (0, 0, 0)), (1673, .iaload, 1, (0, 0, 0)), (1674, .aload_n 0, 1, (0, 0, 0)), (1675, .iload_n 3, 1, (0, 0, 0)), (1676, .iconst 2, 1, (0, 0, 0)), (1677, .iadd, 1, (0, 0, 0)), (1678, .iaload, 1, (0, 0, 0))] (by decide +kernel) (show jrun _ (1668, [(3, x0), (4, x1), (15, x2), (0, x3)], [], s) = some ([(0 ≤ (w32 (x3 + 1)) ∧ (w32 (x3 + 1)) < s (-2) 0), (0 ≤ (w32 (x3 + 2)) ∧ (w32 (x3 + 2)) < s (-2) 0)], (1679, [(3, x0), (4, x1), (15, x2), (0, x3)], [(0, (s (-1) (w32 (x3 + 2)))), (0, (s (-1) (w32 (x3 + 1)))), (4, x1)], s)) from rfl) (fun h => ⟨h.1, h.2⟩) H (fun H => ?_)
  obtain ⟨v5, s5, h5, H⟩ := jb_some H
  refine AT.callW (As := [(0, (s (-1) (w32 (x3 + 1)))), (0, (s (-1) (w32 (x3 + 2))))]) (cl := 0) (b := x1) (st := []) (i := 208) (pos := 5150) kJc_mean (by decide +kernel) rfl (by decide +kernel) rfl rfl (by omega) (Jc_mean_ok h5) (fun hS => ?_)
  have H := jsm_y hS H
  show AT sLw_law 32 (1682, [(3, x0), (4, x1), (15, x2), (0, x3)], [(0, v5)], s5) o
  refine AT.blk (g := (0 ≤ (w32 (x3 + 1)) ∧ (w32 (x3 + 1)) < s5 (-2) 0) ∧ (0 ≤ (w32 (x3 + 2)) ∧ (w32 (x3 + 2)) < s5 (-2) 0)) [(1682, .aload_n 2, 1, (0, 0, 0)), (1683, .aload_n 0, 1, (0, 0, 0)), (1684, .iload_n 3, 1, (0, 0, 0)), (1685, .iconst 1, 1, (0, 0, 0)), (1686, .iadd, 1, (0, 0, 0)), (1687, .iaload, 1, (0, 0, 0)), (1688, .aload_n 0, 1, (0, 0, 0)), (1689, .iload_n 3, 1, (0, 0, 0)), (1690, .iconst 2, 1, (0, 0, 0)), (1691, .iadd, 1, (0, 0, 0)), (1692, .iaload, 1, (0, 0, 0))] (by decide +kernel) (show jrun _ (1682, [(3, x0), (4, x1), (15, x2), (0, x3)], [(0, v5)], s5) = some ([(0 ≤ (w32 (x3 + 1)) ∧ (w32 (x3 + 1)) < s5 (-2) 0), (0 ≤ (w32 (x3 + 2)) ∧ (w32 (x3 + 2)) < s5 (-2) 0)], (1693, [(3, x0), (4, x1), (15, x2), (0, x3)], [(0, (s5 (-1) (w32 (x3 + 2)))), (0, (s5 (-1) (w32 (x3 + 1)))), (15, x2), (0, v5)], s5)) from rfl) (fun h => ⟨h.1, h.2⟩) H (fun H => ?_)
  obtain ⟨v6, s6, h6, H⟩ := jb_some H
  refine AT.callV (As := [(0, (s5 (-1) (w32 (x3 + 1)))), (0, (s5 (-1) (w32 (x3 + 2))))]) (cl := 11) (b := x2) (st := [(0, v5)]) (i := 211) (pos := 8209) kMd_mean (by decide +kernel) rfl (by decide +kernel) rfl rfl (by omega) (Md_mean_ok h6) ?_
  show AT sLw_law 32 (1696, [(3, x0), (4, x1), (15, x2), (0, x3)], [(0, v6), (0, v5)], s6) o
  refine AT.ite (x := (0, 0, 0)) (by decide +kernel) (show jbr (.if_icmp .eq 31) (1696, [(3, x0), (4, x1), (15, x2), (0, x3)], [(0, v6), (0, v5)], s6) = some ((w32 v5) = (w32 v6), (1727, [(3, x0), (4, x1), (15, x2), (0, x3)], [], s6), (1699, [(3, x0), (4, x1), (15, x2), (0, x3)], [], s6)) from rfl) H (fun H => ?_) (fun H => ?_)
  · exact Lx_law_1727_ok hk18 H
  · refine AT.seq [(1699, .iconst 0, 1, (0, 0, 0))] (by decide +kernel) (show jrun _ (1699, [(3, x0), (4, x1), (15, x2), (0, x3)], [], s6) = some ([], (1700, [(3, x0), (4, x1), (15, x2), (0, x3)], [(0, 0)], s6)) from rfl) ?_
    exact AT.retzC (by decide +kernel) (by decide) H
set_option maxHeartbeats 4000000 in
set_option maxRecDepth 100000 in
theorem Lx_law_1645_ok {o : Int × jM} {k18 : Int → Int → Int → Int → jM → Option (Int × jM)} (hk18 : ∀ (x0 x1 x2 x3 : Int) (s : jM), k18 x0 x1 x2 x3 s = some o → AT sLw_law 32 (18, [(3, x0), (4, x1), (15, x2), (0, x3)], [], s) o) {x0 x1 x2 x3 : Int} {s : jM} (H : Lx_law_1645 k18 x0 x1 x2 x3 s = some o) : AT sLw_law 32 (1645, [(3, x0), (4, x1), (15, x2), (0, x3)], [], s) o := by
  unfold Lx_law_1645 at H
  refine AT.blk (g := (0 ≤ (w32 (x3 + 1)) ∧ (w32 (x3 + 1)) < s (-2) 0)) [(1645, .aload_n 1, 1, (0, 0, 0)), (1646, .aload_n 0, 1, (0, 0, 0)), (1647, .iload_n 3, 1, (0, 0, 0)), (1648, .iconst 1, 1, (0, 0, 0)), (1649, .iadd, 1, (0, 0, 0)), (1650, .iaload, 1, (0, 0, 0))] (by decide +kernel) (show jrun _ (1645, [(3, x0), (4, x1), (15, x2), (0, x3)], [], s) = some ([(0 ≤ (w32 (x3 + 1)) ∧ (w32 (x3 + 1)) < s (-2) 0)], (1651, [(3, x0), (4, x1), (15, x2), (0, x3)], [(0, (s (-1) (w32 (x3 + 1)))), (4, x1)], s)) from rfl) (fun h => h) H (fun H => ?_)
  obtain ⟨v7, s7, h7, H⟩ := jb_some H
  refine AT.callW (As := [(0, (s (-1) (w32 (x3 + 1))))]) (cl := 0) (b := x1) (st := []) (i := 204) (pos := 5146) kJc_lived (by decide +kernel) rfl (by decide +kernel) rfl rfl (by omega) (Jc_lived_ok h7) (fun hS => ?_)
  have H := jsm_y hS H
  show AT sLw_law 32 (1654, [(3, x0), (4, x1), (15, x2), (0, x3)], [(0, v7)], s7) o
  refine AT.blk (g := (0 ≤ (w32 (x3 + 1)) ∧ (w32 (x3 + 1)) < s7 (-2) 0)) [(1654, .aload_n 2, 1, (0, 0, 0)), (1655, .aload_n 0, 1, (0, 0, 0)), (1656, .iload_n 3, 1, (0, 0, 0)), (1657, .iconst 1, 1, (0, 0, 0)), (1658, .iadd, 1, (0, 0, 0)), (1659, .iaload, 1, (0, 0, 0))] (by decide +kernel) (show jrun _ (1654, [(3, x0), (4, x1), (15, x2), (0, x3)], [(0, v7)], s7) = some ([(0 ≤ (w32 (x3 + 1)) ∧ (w32 (x3 + 1)) < s7 (-2) 0)], (1660, [(3, x0), (4, x1), (15, x2), (0, x3)], [(0, (s7 (-1) (w32 (x3 + 1)))), (15, x2), (0, v7)], s7)) from rfl) (fun h => h) H (fun H => ?_)
  obtain ⟨v8, s8, h8, H⟩ := jb_some H
  refine AT.callV (As := [(0, (s7 (-1) (w32 (x3 + 1))))]) (cl := 11) (b := x2) (st := [(0, v7)]) (i := 207) (pos := 8205) kMd_lived (by decide +kernel) rfl (by decide +kernel) rfl rfl (by omega) (Md_lived_ok h8) ?_
  show AT sLw_law 32 (1663, [(3, x0), (4, x1), (15, x2), (0, x3)], [(0, v8), (0, v7)], s8) o
  refine AT.ite (x := (0, 0, 0)) (by decide +kernel) (show jbr (.if_icmp .eq 64) (1663, [(3, x0), (4, x1), (15, x2), (0, x3)], [(0, v8), (0, v7)], s8) = some ((w32 v7) = (w32 v8), (1727, [(3, x0), (4, x1), (15, x2), (0, x3)], [], s8), (1666, [(3, x0), (4, x1), (15, x2), (0, x3)], [], s8)) from rfl) H (fun H => ?_) (fun H => ?_)
  · exact Lx_law_1727_ok hk18 H
  · refine AT.seq [(1666, .iconst 0, 1, (0, 0, 0))] (by decide +kernel) (show jrun _ (1666, [(3, x0), (4, x1), (15, x2), (0, x3)], [], s8) = some ([], (1667, [(3, x0), (4, x1), (15, x2), (0, x3)], [(0, 0)], s8)) from rfl) ?_
    exact AT.retzC (by decide +kernel) (by decide) H
set_option maxHeartbeats 4000000 in
set_option maxRecDepth 100000 in
theorem Lx_law_1622_ok {o : Int × jM} {k18 : Int → Int → Int → Int → jM → Option (Int × jM)} (hk18 : ∀ (x0 x1 x2 x3 : Int) (s : jM), k18 x0 x1 x2 x3 s = some o → AT sLw_law 32 (18, [(3, x0), (4, x1), (15, x2), (0, x3)], [], s) o) {x0 x1 x2 x3 : Int} {s : jM} (H : Lx_law_1622 k18 x0 x1 x2 x3 s = some o) : AT sLw_law 32 (1622, [(3, x0), (4, x1), (15, x2), (0, x3)], [], s) o := by
  unfold Lx_law_1622 at H
  refine AT.blk (g := (0 ≤ (w32 (x3 + 1)) ∧ (w32 (x3 + 1)) < s (-2) 0)) [(1622, .aload_n 1, 1, (0, 0, 0)), (1623, .aload_n 0, 1, (0, 0, 0)), (1624, .iload_n 3, 1, (0, 0, 0)), (1625, .iconst 1, 1, (0, 0, 0)), (1626, .iadd, 1, (0, 0, 0)), (1627, .iaload, 1, (0, 0, 0))] (by decide +kernel) (show jrun _ (1622, [(3, x0), (4, x1), (15, x2), (0, x3)], [], s) = some ([(0 ≤ (w32 (x3 + 1)) ∧ (w32 (x3 + 1)) < s (-2) 0)], (1628, [(3, x0), (4, x1), (15, x2), (0, x3)], [(0, (s (-1) (w32 (x3 + 1)))), (4, x1)], s)) from rfl) (fun h => h) H (fun H => ?_)
  obtain ⟨v9, s9, h9, H⟩ := jb_some H
  refine AT.callW (As := [(0, (s (-1) (w32 (x3 + 1))))]) (cl := 0) (b := x1) (st := []) (i := 200) (pos := 5105) kJc_live (by decide +kernel) rfl (by decide +kernel) rfl rfl (by omega) (Jc_live_ok h9) (fun hS => ?_)
  have H := jsm_y hS H
  show AT sLw_law 32 (1631, [(3, x0), (4, x1), (15, x2), (0, x3)], [(0, v9)], s9) o
  refine AT.blk (g := (0 ≤ (w32 (x3 + 1)) ∧ (w32 (x3 + 1)) < s9 (-2) 0)) [(1631, .aload_n 2, 1, (0, 0, 0)), (1632, .aload_n 0, 1, (0, 0, 0)), (1633, .iload_n 3, 1, (0, 0, 0)), (1634, .iconst 1, 1, (0, 0, 0)), (1635, .iadd, 1, (0, 0, 0)), (1636, .iaload, 1, (0, 0, 0))] (by decide +kernel) (show jrun _ (1631, [(3, x0), (4, x1), (15, x2), (0, x3)], [(0, v9)], s9) = some ([(0 ≤ (w32 (x3 + 1)) ∧ (w32 (x3 + 1)) < s9 (-2) 0)], (1637, [(3, x0), (4, x1), (15, x2), (0, x3)], [(0, (s9 (-1) (w32 (x3 + 1)))), (15, x2), (0, v9)], s9)) from rfl) (fun h => h) H (fun H => ?_)
  obtain ⟨v10, s10, h10, H⟩ := jb_some H
  refine AT.callV (As := [(0, (s9 (-1) (w32 (x3 + 1))))]) (cl := 11) (b := x2) (st := [(0, v9)]) (i := 203) (pos := 8167) kMd_live (by decide +kernel) rfl (by decide +kernel) rfl rfl (by omega) (Md_live_ok h10) ?_
  show AT sLw_law 32 (1640, [(3, x0), (4, x1), (15, x2), (0, x3)], [(0, v10), (0, v9)], s10) o
  refine AT.ite (x := (0, 0, 0)) (by decide +kernel) (show jbr (.if_icmp .eq 87) (1640, [(3, x0), (4, x1), (15, x2), (0, x3)], [(0, v10), (0, v9)], s10) = some ((w32 v9) = (w32 v10), (1727, [(3, x0), (4, x1), (15, x2), (0, x3)], [], s10), (1643, [(3, x0), (4, x1), (15, x2), (0, x3)], [], s10)) from rfl) H (fun H => ?_) (fun H => ?_)
  · exact Lx_law_1727_ok hk18 H
  · refine AT.seq [(1643, .iconst 0, 1, (0, 0, 0))] (by decide +kernel) (show jrun _ (1643, [(3, x0), (4, x1), (15, x2), (0, x3)], [], s10) = some ([], (1644, [(3, x0), (4, x1), (15, x2), (0, x3)], [(0, 0)], s10)) from rfl) ?_
    exact AT.retzC (by decide +kernel) (by decide) H
set_option maxHeartbeats 4000000 in
set_option maxRecDepth 100000 in
theorem Lx_law_1599_ok {o : Int × jM} {k18 : Int → Int → Int → Int → jM → Option (Int × jM)} (hk18 : ∀ (x0 x1 x2 x3 : Int) (s : jM), k18 x0 x1 x2 x3 s = some o → AT sLw_law 32 (18, [(3, x0), (4, x1), (15, x2), (0, x3)], [], s) o) {x0 x1 x2 x3 : Int} {s : jM} (H : Lx_law_1599 k18 x0 x1 x2 x3 s = some o) : AT sLw_law 32 (1599, [(3, x0), (4, x1), (15, x2), (0, x3)], [], s) o := by
  unfold Lx_law_1599 at H
  refine AT.blk (g := (0 ≤ (w32 (x3 + 1)) ∧ (w32 (x3 + 1)) < s (-2) 0)) [(1599, .aload_n 1, 1, (0, 0, 0)), (1600, .aload_n 0, 1, (0, 0, 0)), (1601, .iload_n 3, 1, (0, 0, 0)), (1602, .iconst 1, 1, (0, 0, 0)), (1603, .iadd, 1, (0, 0, 0)), (1604, .iaload, 1, (0, 0, 0))] (by decide +kernel) (show jrun _ (1599, [(3, x0), (4, x1), (15, x2), (0, x3)], [], s) = some ([(0 ≤ (w32 (x3 + 1)) ∧ (w32 (x3 + 1)) < s (-2) 0)], (1605, [(3, x0), (4, x1), (15, x2), (0, x3)], [(0, (s (-1) (w32 (x3 + 1)))), (4, x1)], s)) from rfl) (fun h => h) H (fun H => ?_)
  obtain ⟨v11, s11, h11, H⟩ := jb_some H
  refine AT.callW (As := [(0, (s (-1) (w32 (x3 + 1))))]) (cl := 0) (b := x1) (st := []) (i := 196) (pos := 5101) kJc_poise (by decide +kernel) rfl (by decide +kernel) rfl rfl (by omega) (Jc_poise_ok h11) (fun hS => ?_)
  have H := jsm_y hS H
  show AT sLw_law 32 (1608, [(3, x0), (4, x1), (15, x2), (0, x3)], [(0, v11)], s11) o
  refine AT.blk (g := (0 ≤ (w32 (x3 + 1)) ∧ (w32 (x3 + 1)) < s11 (-2) 0)) [(1608, .aload_n 2, 1, (0, 0, 0)), (1609, .aload_n 0, 1, (0, 0, 0)), (1610, .iload_n 3, 1, (0, 0, 0)), (1611, .iconst 1, 1, (0, 0, 0)), (1612, .iadd, 1, (0, 0, 0)), (1613, .iaload, 1, (0, 0, 0))] (by decide +kernel) (show jrun _ (1608, [(3, x0), (4, x1), (15, x2), (0, x3)], [(0, v11)], s11) = some ([(0 ≤ (w32 (x3 + 1)) ∧ (w32 (x3 + 1)) < s11 (-2) 0)], (1614, [(3, x0), (4, x1), (15, x2), (0, x3)], [(0, (s11 (-1) (w32 (x3 + 1)))), (15, x2), (0, v11)], s11)) from rfl) (fun h => h) H (fun H => ?_)
  obtain ⟨v12, s12, h12, H⟩ := jb_some H
  refine AT.callV (As := [(0, (s11 (-1) (w32 (x3 + 1))))]) (cl := 11) (b := x2) (st := [(0, v11)]) (i := 199) (pos := 8163) kMd_poise (by decide +kernel) rfl (by decide +kernel) rfl rfl (by omega) (Md_poise_ok h12) ?_
  show AT sLw_law 32 (1617, [(3, x0), (4, x1), (15, x2), (0, x3)], [(0, v12), (0, v11)], s12) o
  refine AT.ite (x := (0, 0, 0)) (by decide +kernel) (show jbr (.if_icmp .eq 110) (1617, [(3, x0), (4, x1), (15, x2), (0, x3)], [(0, v12), (0, v11)], s12) = some ((w32 v11) = (w32 v12), (1727, [(3, x0), (4, x1), (15, x2), (0, x3)], [], s12), (1620, [(3, x0), (4, x1), (15, x2), (0, x3)], [], s12)) from rfl) H (fun H => ?_) (fun H => ?_)
  · exact Lx_law_1727_ok hk18 H
  · refine AT.seq [(1620, .iconst 0, 1, (0, 0, 0))] (by decide +kernel) (show jrun _ (1620, [(3, x0), (4, x1), (15, x2), (0, x3)], [], s12) = some ([], (1621, [(3, x0), (4, x1), (15, x2), (0, x3)], [(0, 0)], s12)) from rfl) ?_
    exact AT.retzC (by decide +kernel) (by decide) H
set_option maxHeartbeats 4000000 in
set_option maxRecDepth 100000 in
theorem Lx_law_1566_ok {o : Int × jM} {k18 : Int → Int → Int → Int → jM → Option (Int × jM)} (hk18 : ∀ (x0 x1 x2 x3 : Int) (s : jM), k18 x0 x1 x2 x3 s = some o → AT sLw_law 32 (18, [(3, x0), (4, x1), (15, x2), (0, x3)], [], s) o) {x0 x1 x2 x3 : Int} {s : jM} (H : Lx_law_1566 k18 x0 x1 x2 x3 s = some o) : AT sLw_law 32 (1566, [(3, x0), (4, x1), (15, x2), (0, x3)], [], s) o := by
  unfold Lx_law_1566 at H
  refine AT.blk (g := (0 ≤ (w32 (x3 + 1)) ∧ (w32 (x3 + 1)) < s (-2) 0) ∧ (0 ≤ (w32 (x3 + 2)) ∧ (w32 (x3 + 2)) < s (-2) 0)) [(1566, .aload_n 1, 1, (0, 0, 0)), (1567, .aload_n 0, 1, (0, 0, 0)), (1568, .iload_n 3, 1, (0, 0, 0)), (1569, .iconst 1, 1, (0, 0, 0)), (1570, .iadd, 1, (0, 0, 0)), (1571, .iaload, 1, (0, 0, 0)), (1572, .aload_n 0, 1, (0, 0, 0)), (1573, .iload_n 3, 1, (0, 0, 0)), (1574, .iconst 2, 1, (0, 0, 0)), (1575, .iadd, 1, (0, 0, 0)), (1576, .iaload, 1, (0, 0, 0))] (by decide +kernel) (show jrun _ (1566, [(3, x0), (4, x1), (15, x2), (0, x3)], [], s) = some ([(0 ≤ (w32 (x3 + 1)) ∧ (w32 (x3 + 1)) < s (-2) 0), (0 ≤ (w32 (x3 + 2)) ∧ (w32 (x3 + 2)) < s (-2) 0)], (1577, [(3, x0), (4, x1), (15, x2), (0, x3)], [(0, (s (-1) (w32 (x3 + 2)))), (0, (s (-1) (w32 (x3 + 1)))), (4, x1)], s)) from rfl) (fun h => ⟨h.1, h.2⟩) H (fun H => ?_)
  obtain ⟨v13, s13, h13, H⟩ := jb_some H
  refine AT.callW (As := [(0, (s (-1) (w32 (x3 + 1)))), (0, (s (-1) (w32 (x3 + 2))))]) (cl := 0) (b := x1) (st := []) (i := 191) (pos := 5087) kJc_bubbles (by decide +kernel) rfl (by decide +kernel) rfl rfl (by omega) (Jc_bubbles_ok h13) (fun hS => ?_)
  have H := jsm_y hS H
  show AT sLw_law 32 (1580, [(3, x0), (4, x1), (15, x2), (0, x3)], [(0, v13)], s13) o
  refine AT.blk (g := (0 ≤ (w32 (x3 + 1)) ∧ (w32 (x3 + 1)) < s13 (-2) 0) ∧ (0 ≤ (w32 (x3 + 2)) ∧ (w32 (x3 + 2)) < s13 (-2) 0)) [(1580, .aload_n 2, 1, (0, 0, 0)), (1581, .aload_n 0, 1, (0, 0, 0)), (1582, .iload_n 3, 1, (0, 0, 0)), (1583, .iconst 1, 1, (0, 0, 0)), (1584, .iadd, 1, (0, 0, 0)), (1585, .iaload, 1, (0, 0, 0)), (1586, .aload_n 0, 1, (0, 0, 0)), (1587, .iload_n 3, 1, (0, 0, 0)), (1588, .iconst 2, 1, (0, 0, 0)), (1589, .iadd, 1, (0, 0, 0)), (1590, .iaload, 1, (0, 0, 0))] (by decide +kernel) (show jrun _ (1580, [(3, x0), (4, x1), (15, x2), (0, x3)], [(0, v13)], s13) = some ([(0 ≤ (w32 (x3 + 1)) ∧ (w32 (x3 + 1)) < s13 (-2) 0), (0 ≤ (w32 (x3 + 2)) ∧ (w32 (x3 + 2)) < s13 (-2) 0)], (1591, [(3, x0), (4, x1), (15, x2), (0, x3)], [(0, (s13 (-1) (w32 (x3 + 2)))), (0, (s13 (-1) (w32 (x3 + 1)))), (15, x2), (0, v13)], s13)) from rfl) (fun h => ⟨h.1, h.2⟩) H (fun H => ?_)
  obtain ⟨v14, s14, h14, H⟩ := jb_some H
  refine AT.callV (As := [(0, (s13 (-1) (w32 (x3 + 1)))), (0, (s13 (-1) (w32 (x3 + 2))))]) (cl := 11) (b := x2) (st := [(0, v13)]) (i := 195) (pos := 8151) kMd_bubbles (by decide +kernel) rfl (by decide +kernel) rfl rfl (by omega) (Md_bubbles_ok h14) ?_
  show AT sLw_law 32 (1594, [(3, x0), (4, x1), (15, x2), (0, x3)], [(0, v14), (0, v13)], s14) o
  refine AT.ite (x := (0, 0, 0)) (by decide +kernel) (show jbr (.if_icmp .eq 133) (1594, [(3, x0), (4, x1), (15, x2), (0, x3)], [(0, v14), (0, v13)], s14) = some ((w32 v13) = (w32 v14), (1727, [(3, x0), (4, x1), (15, x2), (0, x3)], [], s14), (1597, [(3, x0), (4, x1), (15, x2), (0, x3)], [], s14)) from rfl) H (fun H => ?_) (fun H => ?_)
  · exact Lx_law_1727_ok hk18 H
  · refine AT.seq [(1597, .iconst 0, 1, (0, 0, 0))] (by decide +kernel) (show jrun _ (1597, [(3, x0), (4, x1), (15, x2), (0, x3)], [], s14) = some ([], (1598, [(3, x0), (4, x1), (15, x2), (0, x3)], [(0, 0)], s14)) from rfl) ?_
    exact AT.retzC (by decide +kernel) (by decide) H
set_option maxHeartbeats 4000000 in
set_option maxRecDepth 100000 in
theorem Lx_law_1523_ok {o : Int × jM} {k18 : Int → Int → Int → Int → jM → Option (Int × jM)} (hk18 : ∀ (x0 x1 x2 x3 : Int) (s : jM), k18 x0 x1 x2 x3 s = some o → AT sLw_law 32 (18, [(3, x0), (4, x1), (15, x2), (0, x3)], [], s) o) {x0 x1 x2 x3 : Int} {s : jM} (H : Lx_law_1523 k18 x0 x1 x2 x3 s = some o) : AT sLw_law 32 (1523, [(3, x0), (4, x1), (15, x2), (0, x3)], [], s) o := by
  unfold Lx_law_1523 at H
  refine AT.blk (g := (0 ≤ (w32 (x3 + 1)) ∧ (w32 (x3 + 1)) < s (-2) 0) ∧ (0 ≤ (w32 (x3 + 2)) ∧ (w32 (x3 + 2)) < s (-2) 0) ∧ (0 ≤ (w32 (x3 + 3)) ∧ (w32 (x3 + 3)) < s (-2) 0)) [(1523, .aload_n 1, 1, (0, 0, 0)), (1524, .aload_n 0, 1, (0, 0, 0)), (1525, .iload_n 3, 1, (0, 0, 0)), (1526, .iconst 1, 1, (0, 0, 0)), (1527, .iadd, 1, (0, 0, 0)), (1528, .iaload, 1, (0, 0, 0)), (1529, .aload_n 0, 1, (0, 0, 0)), (1530, .iload_n 3, 1, (0, 0, 0)), (1531, .iconst 2, 1, (0, 0, 0)), (1532, .iadd, 1, (0, 0, 0)), (1533, .iaload, 1, (0, 0, 0)), (1534, .aload_n 0, 1, (0, 0, 0)), (1535, .iload_n 3, 1, (0, 0, 0)), (1536, .iconst 3, 1, (0, 0, 0)), (1537, .iadd, 1, (0, 0, 0)), (1538, .iaload, 1, (0, 0, 0))] (by decide +kernel) (show jrun _ (1523, [(3, x0), (4, x1), (15, x2), (0, x3)], [], s) = some ([(0 ≤ (w32 (x3 + 1)) ∧ (w32 (x3 + 1)) < s (-2) 0), (0 ≤ (w32 (x3 + 2)) ∧ (w32 (x3 + 2)) < s (-2) 0), (0 ≤ (w32 (x3 + 3)) ∧ (w32 (x3 + 3)) < s (-2) 0)], (1539, [(3, x0), (4, x1), (15, x2), (0, x3)], [(0, (s (-1) (w32 (x3 + 3)))), (0, (s (-1) (w32 (x3 + 2)))), (0, (s (-1) (w32 (x3 + 1)))), (4, x1)], s)) from rfl) (fun h => ⟨h.1, h.2.1, h.2.2⟩) H (fun H => ?_)
  obtain ⟨v15, s15, h15, H⟩ := jb_some H
  refine AT.callW (As := [(0, (s (-1) (w32 (x3 + 1)))), (0, (s (-1) (w32 (x3 + 2)))), (0, (s (-1) (w32 (x3 + 3))))]) (cl := 0) (b := x1) (st := []) (i := 187) (pos := 5083) kJc_moveOf (by decide +kernel) rfl (by decide +kernel) rfl rfl (by omega) (Jc_moveOf_ok h15) (fun hS => ?_)
  have H := jsm_y hS H
  show AT sLw_law 32 (1542, [(3, x0), (4, x1), (15, x2), (0, x3)], [(0, v15)], s15) o
  refine AT.blk (g := (0 ≤ (w32 (x3 + 1)) ∧ (w32 (x3 + 1)) < s15 (-2) 0) ∧ (0 ≤ (w32 (x3 + 2)) ∧ (w32 (x3 + 2)) < s15 (-2) 0) ∧ (0 ≤ (w32 (x3 + 3)) ∧ (w32 (x3 + 3)) < s15 (-2) 0)) [(1542, .aload_n 2, 1, (0, 0, 0)), (1543, .aload_n 0, 1, (0, 0, 0)), (1544, .iload_n 3, 1, (0, 0, 0)), (1545, .iconst 1, 1, (0, 0, 0)), (1546, .iadd, 1, (0, 0, 0)), (1547, .iaload, 1, (0, 0, 0)), (1548, .aload_n 0, 1, (0, 0, 0)), (1549, .iload_n 3, 1, (0, 0, 0)), (1550, .iconst 2, 1, (0, 0, 0)), (1551, .iadd, 1, (0, 0, 0)), (1552, .iaload, 1, (0, 0, 0)), (1553, .aload_n 0, 1, (0, 0, 0)), (1554, .iload_n 3, 1, (0, 0, 0)), (1555, .iconst 3, 1, (0, 0, 0)), (1556, .iadd, 1, (0, 0, 0)), (1557, .iaload, 1, (0, 0, 0))] (by decide +kernel) (show jrun _ (1542, [(3, x0), (4, x1), (15, x2), (0, x3)], [(0, v15)], s15) = some ([(0 ≤ (w32 (x3 + 1)) ∧ (w32 (x3 + 1)) < s15 (-2) 0), (0 ≤ (w32 (x3 + 2)) ∧ (w32 (x3 + 2)) < s15 (-2) 0), (0 ≤ (w32 (x3 + 3)) ∧ (w32 (x3 + 3)) < s15 (-2) 0)], (1558, [(3, x0), (4, x1), (15, x2), (0, x3)], [(0, (s15 (-1) (w32 (x3 + 3)))), (0, (s15 (-1) (w32 (x3 + 2)))), (0, (s15 (-1) (w32 (x3 + 1)))), (15, x2), (0, v15)], s15)) from rfl) (fun h => ⟨h.1, h.2.1, h.2.2⟩) H (fun H => ?_)
  obtain ⟨v16, s16, h16, H⟩ := jb_some H
  refine AT.callV (As := [(0, (s15 (-1) (w32 (x3 + 1)))), (0, (s15 (-1) (w32 (x3 + 2)))), (0, (s15 (-1) (w32 (x3 + 3))))]) (cl := 11) (b := x2) (st := [(0, v15)]) (i := 190) (pos := 8147) kMd_moveOf (by decide +kernel) rfl (by decide +kernel) rfl rfl (by omega) (Md_moveOf_ok h16) ?_
  show AT sLw_law 32 (1561, [(3, x0), (4, x1), (15, x2), (0, x3)], [(0, v16), (0, v15)], s16) o
  refine AT.ite (x := (0, 0, 0)) (by decide +kernel) (show jbr (.if_icmp .eq 166) (1561, [(3, x0), (4, x1), (15, x2), (0, x3)], [(0, v16), (0, v15)], s16) = some ((w32 v15) = (w32 v16), (1727, [(3, x0), (4, x1), (15, x2), (0, x3)], [], s16), (1564, [(3, x0), (4, x1), (15, x2), (0, x3)], [], s16)) from rfl) H (fun H => ?_) (fun H => ?_)
  · exact Lx_law_1727_ok hk18 H
  · refine AT.seq [(1564, .iconst 0, 1, (0, 0, 0))] (by decide +kernel) (show jrun _ (1564, [(3, x0), (4, x1), (15, x2), (0, x3)], [], s16) = some ([], (1565, [(3, x0), (4, x1), (15, x2), (0, x3)], [(0, 0)], s16)) from rfl) ?_
    exact AT.retzC (by decide +kernel) (by decide) H
set_option maxHeartbeats 4000000 in
set_option maxRecDepth 100000 in
theorem Lx_law_1480_ok {o : Int × jM} {k18 : Int → Int → Int → Int → jM → Option (Int × jM)} (hk18 : ∀ (x0 x1 x2 x3 : Int) (s : jM), k18 x0 x1 x2 x3 s = some o → AT sLw_law 32 (18, [(3, x0), (4, x1), (15, x2), (0, x3)], [], s) o) {x0 x1 x2 x3 : Int} {s : jM} (H : Lx_law_1480 k18 x0 x1 x2 x3 s = some o) : AT sLw_law 32 (1480, [(3, x0), (4, x1), (15, x2), (0, x3)], [], s) o := by
  unfold Lx_law_1480 at H
  refine AT.blk (g := (0 ≤ (w32 (x3 + 1)) ∧ (w32 (x3 + 1)) < s (-2) 0) ∧ (0 ≤ (w32 (x3 + 2)) ∧ (w32 (x3 + 2)) < s (-2) 0) ∧ (0 ≤ (w32 (x3 + 3)) ∧ (w32 (x3 + 3)) < s (-2) 0)) [(1480, .aload_n 1, 1, (0, 0, 0)), (1481, .aload_n 0, 1, (0, 0, 0)), (1482, .iload_n 3, 1, (0, 0, 0)), (1483, .iconst 1, 1, (0, 0, 0)), (1484, .iadd, 1, (0, 0, 0)), (1485, .iaload, 1, (0, 0, 0)), (1486, .aload_n 0, 1, (0, 0, 0)), (1487, .iload_n 3, 1, (0, 0, 0)), (1488, .iconst 2, 1, (0, 0, 0)), (1489, .iadd, 1, (0, 0, 0)), (1490, .iaload, 1, (0, 0, 0)), (1491, .aload_n 0, 1, (0, 0, 0)), (1492, .iload_n 3, 1, (0, 0, 0)), (1493, .iconst 3, 1, (0, 0, 0)), (1494, .iadd, 1, (0, 0, 0)), (1495, .iaload, 1, (0, 0, 0))] (by decide +kernel) (show jrun _ (1480, [(3, x0), (4, x1), (15, x2), (0, x3)], [], s) = some ([(0 ≤ (w32 (x3 + 1)) ∧ (w32 (x3 + 1)) < s (-2) 0), (0 ≤ (w32 (x3 + 2)) ∧ (w32 (x3 + 2)) < s (-2) 0), (0 ≤ (w32 (x3 + 3)) ∧ (w32 (x3 + 3)) < s (-2) 0)], (1496, [(3, x0), (4, x1), (15, x2), (0, x3)], [(0, (s (-1) (w32 (x3 + 3)))), (0, (s (-1) (w32 (x3 + 2)))), (0, (s (-1) (w32 (x3 + 1)))), (4, x1)], s)) from rfl) (fun h => ⟨h.1, h.2.1, h.2.2⟩) H (fun H => ?_)
  obtain ⟨v17, s17, h17, H⟩ := jb_some H
  refine AT.callW (As := [(0, (s (-1) (w32 (x3 + 1)))), (0, (s (-1) (w32 (x3 + 2)))), (0, (s (-1) (w32 (x3 + 3))))]) (cl := 0) (b := x1) (st := []) (i := 183) (pos := 5058) kJc_game (by decide +kernel) rfl (by decide +kernel) rfl rfl (by omega) (Jc_game_ok h17) (fun hS => ?_)
  have H := jsm_y hS H
  show AT sLw_law 32 (1499, [(3, x0), (4, x1), (15, x2), (0, x3)], [(0, v17)], s17) o
  refine AT.blk (g := (0 ≤ (w32 (x3 + 1)) ∧ (w32 (x3 + 1)) < s17 (-2) 0) ∧ (0 ≤ (w32 (x3 + 2)) ∧ (w32 (x3 + 2)) < s17 (-2) 0) ∧ (0 ≤ (w32 (x3 + 3)) ∧ (w32 (x3 + 3)) < s17 (-2) 0)) [(1499, .aload_n 2, 1, (0, 0, 0)), (1500, .aload_n 0, 1, (0, 0, 0)), (1501, .iload_n 3, 1, (0, 0, 0)), (1502, .iconst 1, 1, (0, 0, 0)), (1503, .iadd, 1, (0, 0, 0)), (1504, .iaload, 1, (0, 0, 0)), (1505, .aload_n 0, 1, (0, 0, 0)), (1506, .iload_n 3, 1, (0, 0, 0)), (1507, .iconst 2, 1, (0, 0, 0)), (1508, .iadd, 1, (0, 0, 0)), (1509, .iaload, 1, (0, 0, 0)), (1510, .aload_n 0, 1, (0, 0, 0)), (1511, .iload_n 3, 1, (0, 0, 0)), (1512, .iconst 3, 1, (0, 0, 0)), (1513, .iadd, 1, (0, 0, 0)), (1514, .iaload, 1, (0, 0, 0))] (by decide +kernel) (show jrun _ (1499, [(3, x0), (4, x1), (15, x2), (0, x3)], [(0, v17)], s17) = some ([(0 ≤ (w32 (x3 + 1)) ∧ (w32 (x3 + 1)) < s17 (-2) 0), (0 ≤ (w32 (x3 + 2)) ∧ (w32 (x3 + 2)) < s17 (-2) 0), (0 ≤ (w32 (x3 + 3)) ∧ (w32 (x3 + 3)) < s17 (-2) 0)], (1515, [(3, x0), (4, x1), (15, x2), (0, x3)], [(0, (s17 (-1) (w32 (x3 + 3)))), (0, (s17 (-1) (w32 (x3 + 2)))), (0, (s17 (-1) (w32 (x3 + 1)))), (15, x2), (0, v17)], s17)) from rfl) (fun h => ⟨h.1, h.2.1, h.2.2⟩) H (fun H => ?_)
  obtain ⟨v18, s18, h18, H⟩ := jb_some H
  refine AT.callV (As := [(0, (s17 (-1) (w32 (x3 + 1)))), (0, (s17 (-1) (w32 (x3 + 2)))), (0, (s17 (-1) (w32 (x3 + 3))))]) (cl := 11) (b := x2) (st := [(0, v17)]) (i := 186) (pos := 8130) kMd_game (by decide +kernel) rfl (by decide +kernel) rfl rfl (by omega) (Md_game_ok h18) ?_
  show AT sLw_law 32 (1518, [(3, x0), (4, x1), (15, x2), (0, x3)], [(0, v18), (0, v17)], s18) o
  refine AT.ite (x := (0, 0, 0)) (by decide +kernel) (show jbr (.if_icmp .eq 209) (1518, [(3, x0), (4, x1), (15, x2), (0, x3)], [(0, v18), (0, v17)], s18) = some ((w32 v17) = (w32 v18), (1727, [(3, x0), (4, x1), (15, x2), (0, x3)], [], s18), (1521, [(3, x0), (4, x1), (15, x2), (0, x3)], [], s18)) from rfl) H (fun H => ?_) (fun H => ?_)
  · exact Lx_law_1727_ok hk18 H
  · refine AT.seq [(1521, .iconst 0, 1, (0, 0, 0))] (by decide +kernel) (show jrun _ (1521, [(3, x0), (4, x1), (15, x2), (0, x3)], [], s18) = some ([], (1522, [(3, x0), (4, x1), (15, x2), (0, x3)], [(0, 0)], s18)) from rfl) ?_
    exact AT.retzC (by decide +kernel) (by decide) H
set_option maxHeartbeats 4000000 in
set_option maxRecDepth 100000 in
theorem Lx_law_1437_ok {o : Int × jM} {k18 : Int → Int → Int → Int → jM → Option (Int × jM)} (hk18 : ∀ (x0 x1 x2 x3 : Int) (s : jM), k18 x0 x1 x2 x3 s = some o → AT sLw_law 32 (18, [(3, x0), (4, x1), (15, x2), (0, x3)], [], s) o) {x0 x1 x2 x3 : Int} {s : jM} (H : Lx_law_1437 k18 x0 x1 x2 x3 s = some o) : AT sLw_law 32 (1437, [(3, x0), (4, x1), (15, x2), (0, x3)], [], s) o := by
  unfold Lx_law_1437 at H
  refine AT.blk (g := (0 ≤ (w32 (x3 + 1)) ∧ (w32 (x3 + 1)) < s (-2) 0) ∧ (0 ≤ (w32 (x3 + 2)) ∧ (w32 (x3 + 2)) < s (-2) 0) ∧ (0 ≤ (w32 (x3 + 3)) ∧ (w32 (x3 + 3)) < s (-2) 0)) [(1437, .aload_n 1, 1, (0, 0, 0)), (1438, .aload_n 0, 1, (0, 0, 0)), (1439, .iload_n 3, 1, (0, 0, 0)), (1440, .iconst 1, 1, (0, 0, 0)), (1441, .iadd, 1, (0, 0, 0)), (1442, .iaload, 1, (0, 0, 0)), (1443, .aload_n 0, 1, (0, 0, 0)), (1444, .iload_n 3, 1, (0, 0, 0)), (1445, .iconst 2, 1, (0, 0, 0)), (1446, .iadd, 1, (0, 0, 0)), (1447, .iaload, 1, (0, 0, 0)), (1448, .aload_n 0, 1, (0, 0, 0)), (1449, .iload_n 3, 1, (0, 0, 0)), (1450, .iconst 3, 1, (0, 0, 0)), (1451, .iadd, 1, (0, 0, 0)), (1452, .iaload, 1, (0, 0, 0))] (by decide +kernel) (show jrun _ (1437, [(3, x0), (4, x1), (15, x2), (0, x3)], [], s) = some ([(0 ≤ (w32 (x3 + 1)) ∧ (w32 (x3 + 1)) < s (-2) 0), (0 ≤ (w32 (x3 + 2)) ∧ (w32 (x3 + 2)) < s (-2) 0), (0 ≤ (w32 (x3 + 3)) ∧ (w32 (x3 + 3)) < s (-2) 0)], (1453, [(3, x0), (4, x1), (15, x2), (0, x3)], [(0, (s (-1) (w32 (x3 + 3)))), (0, (s (-1) (w32 (x3 + 2)))), (0, (s (-1) (w32 (x3 + 1)))), (4, x1)], s)) from rfl) (fun h => ⟨h.1, h.2.1, h.2.2⟩) H (fun H => ?_)
  obtain ⟨v19, s19, h19, H⟩ := jb_some H
  refine AT.callW (As := [(0, (s (-1) (w32 (x3 + 1)))), (0, (s (-1) (w32 (x3 + 2)))), (0, (s (-1) (w32 (x3 + 3))))]) (cl := 0) (b := x1) (st := []) (i := 179) (pos := 5045) kJc_ask (by decide +kernel) rfl (by decide +kernel) rfl rfl (by omega) (Jc_ask_ok h19) (fun hS => ?_)
  have H := jsm_y hS H
  show AT sLw_law 32 (1456, [(3, x0), (4, x1), (15, x2), (0, x3)], [(0, v19)], s19) o
  refine AT.blk (g := (0 ≤ (w32 (x3 + 1)) ∧ (w32 (x3 + 1)) < s19 (-2) 0) ∧ (0 ≤ (w32 (x3 + 2)) ∧ (w32 (x3 + 2)) < s19 (-2) 0) ∧ (0 ≤ (w32 (x3 + 3)) ∧ (w32 (x3 + 3)) < s19 (-2) 0)) [(1456, .aload_n 2, 1, (0, 0, 0)), (1457, .aload_n 0, 1, (0, 0, 0)), (1458, .iload_n 3, 1, (0, 0, 0)), (1459, .iconst 1, 1, (0, 0, 0)), (1460, .iadd, 1, (0, 0, 0)), (1461, .iaload, 1, (0, 0, 0)), (1462, .aload_n 0, 1, (0, 0, 0)), (1463, .iload_n 3, 1, (0, 0, 0)), (1464, .iconst 2, 1, (0, 0, 0)), (1465, .iadd, 1, (0, 0, 0)), (1466, .iaload, 1, (0, 0, 0)), (1467, .aload_n 0, 1, (0, 0, 0)), (1468, .iload_n 3, 1, (0, 0, 0)), (1469, .iconst 3, 1, (0, 0, 0)), (1470, .iadd, 1, (0, 0, 0)), (1471, .iaload, 1, (0, 0, 0))] (by decide +kernel) (show jrun _ (1456, [(3, x0), (4, x1), (15, x2), (0, x3)], [(0, v19)], s19) = some ([(0 ≤ (w32 (x3 + 1)) ∧ (w32 (x3 + 1)) < s19 (-2) 0), (0 ≤ (w32 (x3 + 2)) ∧ (w32 (x3 + 2)) < s19 (-2) 0), (0 ≤ (w32 (x3 + 3)) ∧ (w32 (x3 + 3)) < s19 (-2) 0)], (1472, [(3, x0), (4, x1), (15, x2), (0, x3)], [(0, (s19 (-1) (w32 (x3 + 3)))), (0, (s19 (-1) (w32 (x3 + 2)))), (0, (s19 (-1) (w32 (x3 + 1)))), (15, x2), (0, v19)], s19)) from rfl) (fun h => ⟨h.1, h.2.1, h.2.2⟩) H (fun H => ?_)
  obtain ⟨v20, s20, h20, H⟩ := jb_some H
  refine AT.callV (As := [(0, (s19 (-1) (w32 (x3 + 1)))), (0, (s19 (-1) (w32 (x3 + 2)))), (0, (s19 (-1) (w32 (x3 + 3))))]) (cl := 11) (b := x2) (st := [(0, v19)]) (i := 182) (pos := 8122) kMd_ask (by decide +kernel) rfl (by decide +kernel) rfl rfl (by omega) (Md_ask_ok h20) ?_
  show AT sLw_law 32 (1475, [(3, x0), (4, x1), (15, x2), (0, x3)], [(0, v20), (0, v19)], s20) o
  refine AT.ite (x := (0, 0, 0)) (by decide +kernel) (show jbr (.if_icmp .eq 252) (1475, [(3, x0), (4, x1), (15, x2), (0, x3)], [(0, v20), (0, v19)], s20) = some ((w32 v19) = (w32 v20), (1727, [(3, x0), (4, x1), (15, x2), (0, x3)], [], s20), (1478, [(3, x0), (4, x1), (15, x2), (0, x3)], [], s20)) from rfl) H (fun H => ?_) (fun H => ?_)
  · exact Lx_law_1727_ok hk18 H
  · refine AT.seq [(1478, .iconst 0, 1, (0, 0, 0))] (by decide +kernel) (show jrun _ (1478, [(3, x0), (4, x1), (15, x2), (0, x3)], [], s20) = some ([], (1479, [(3, x0), (4, x1), (15, x2), (0, x3)], [(0, 0)], s20)) from rfl) ?_
    exact AT.retzC (by decide +kernel) (by decide) H
set_option maxHeartbeats 4000000 in
set_option maxRecDepth 100000 in
theorem Lx_law_1384_ok {o : Int × jM} {k18 : Int → Int → Int → Int → jM → Option (Int × jM)} (hk18 : ∀ (x0 x1 x2 x3 : Int) (s : jM), k18 x0 x1 x2 x3 s = some o → AT sLw_law 32 (18, [(3, x0), (4, x1), (15, x2), (0, x3)], [], s) o) {x0 x1 x2 x3 : Int} {s : jM} (H : Lx_law_1384 k18 x0 x1 x2 x3 s = some o) : AT sLw_law 32 (1384, [(3, x0), (4, x1), (15, x2), (0, x3)], [], s) o := by
  unfold Lx_law_1384 at H
  refine AT.blk (g := (0 ≤ (w32 (x3 + 1)) ∧ (w32 (x3 + 1)) < s (-2) 0) ∧ (0 ≤ (w32 (x3 + 2)) ∧ (w32 (x3 + 2)) < s (-2) 0) ∧ (0 ≤ (w32 (x3 + 3)) ∧ (w32 (x3 + 3)) < s (-2) 0) ∧ (0 ≤ (w32 (x3 + 4)) ∧ (w32 (x3 + 4)) < s (-2) 0)) [(1384, .aload_n 1, 1, (0, 0, 0)), (1385, .aload_n 0, 1, (0, 0, 0)), (1386, .iload_n 3, 1, (0, 0, 0)), (1387, .iconst 1, 1, (0, 0, 0)), (1388, .iadd, 1, (0, 0, 0)), (1389, .iaload, 1, (0, 0, 0)), (1390, .aload_n 0, 1, (0, 0, 0)), (1391, .iload_n 3, 1, (0, 0, 0)), (1392, .iconst 2, 1, (0, 0, 0)), (1393, .iadd, 1, (0, 0, 0)), (1394, .iaload, 1, (0, 0, 0)), (1395, .aload_n 0, 1, (0, 0, 0)), (1396, .iload_n 3, 1, (0, 0, 0)), (1397, .iconst 3, 1, (0, 0, 0)), (1398, .iadd, 1, (0, 0, 0)), (1399, .iaload, 1, (0, 0, 0)), (1400, .aload_n 0, 1, (0, 0, 0)), (1401, .iload_n 3, 1, (0, 0, 0)), (1402, .iconst 4, 1, (0, 0, 0)), (1403, .iadd, 1, (0, 0, 0)), (1404, .iaload, 1, (0, 0, 0))] (by decide +kernel) (show jrun _ (1384, [(3, x0), (4, x1), (15, x2), (0, x3)], [], s) = some ([(0 ≤ (w32 (x3 + 1)) ∧ (w32 (x3 + 1)) < s (-2) 0), (0 ≤ (w32 (x3 + 2)) ∧ (w32 (x3 + 2)) < s (-2) 0), (0 ≤ (w32 (x3 + 3)) ∧ (w32 (x3 + 3)) < s (-2) 0), (0 ≤ (w32 (x3 + 4)) ∧ (w32 (x3 + 4)) < s (-2) 0)], (1405, [(3, x0), (4, x1), (15, x2), (0, x3)], [(0, (s (-1) (w32 (x3 + 4)))), (0, (s (-1) (w32 (x3 + 3)))), (0, (s (-1) (w32 (x3 + 2)))), (0, (s (-1) (w32 (x3 + 1)))), (4, x1)], s)) from rfl) (fun h => ⟨h.1, h.2.1, h.2.2.1, h.2.2.2⟩) H (fun H => ?_)
  obtain ⟨v21, s21, h21, H⟩ := jb_some H
  refine AT.callW (As := [(0, (s (-1) (w32 (x3 + 1)))), (0, (s (-1) (w32 (x3 + 2)))), (0, (s (-1) (w32 (x3 + 3)))), (0, (s (-1) (w32 (x3 + 4))))]) (cl := 0) (b := x1) (st := []) (i := 174) (pos := 5037) kJc_fitsBy (by decide +kernel) rfl (by decide +kernel) rfl rfl (by omega) (Jc_fitsBy_ok h21) (fun hS => ?_)
  have H := jsm_y hS H
  show AT sLw_law 32 (1408, [(3, x0), (4, x1), (15, x2), (0, x3)], [(0, v21)], s21) o
  refine AT.blk (g := (0 ≤ (w32 (x3 + 1)) ∧ (w32 (x3 + 1)) < s21 (-2) 0) ∧ (0 ≤ (w32 (x3 + 2)) ∧ (w32 (x3 + 2)) < s21 (-2) 0) ∧ (0 ≤ (w32 (x3 + 3)) ∧ (w32 (x3 + 3)) < s21 (-2) 0) ∧ (0 ≤ (w32 (x3 + 4)) ∧ (w32 (x3 + 4)) < s21 (-2) 0)) [(1408, .aload_n 2, 1, (0, 0, 0)), (1409, .aload_n 0, 1, (0, 0, 0)), (1410, .iload_n 3, 1, (0, 0, 0)), (1411, .iconst 1, 1, (0, 0, 0)), (1412, .iadd, 1, (0, 0, 0)), (1413, .iaload, 1, (0, 0, 0)), (1414, .aload_n 0, 1, (0, 0, 0)), (1415, .iload_n 3, 1, (0, 0, 0)), (1416, .iconst 2, 1, (0, 0, 0)), (1417, .iadd, 1, (0, 0, 0)), (1418, .iaload, 1, (0, 0, 0)), (1419, .aload_n 0, 1, (0, 0, 0)), (1420, .iload_n 3, 1, (0, 0, 0)), (1421, .iconst 3, 1, (0, 0, 0)), (1422, .iadd, 1, (0, 0, 0)), (1423, .iaload, 1, (0, 0, 0)), (1424, .aload_n 0, 1, (0, 0, 0)), (1425, .iload_n 3, 1, (0, 0, 0)), (1426, .iconst 4, 1, (0, 0, 0)), (1427, .iadd, 1, (0, 0, 0)), (1428, .iaload, 1, (0, 0, 0))] (by decide +kernel) (show jrun _ (1408, [(3, x0), (4, x1), (15, x2), (0, x3)], [(0, v21)], s21) = some ([(0 ≤ (w32 (x3 + 1)) ∧ (w32 (x3 + 1)) < s21 (-2) 0), (0 ≤ (w32 (x3 + 2)) ∧ (w32 (x3 + 2)) < s21 (-2) 0), (0 ≤ (w32 (x3 + 3)) ∧ (w32 (x3 + 3)) < s21 (-2) 0), (0 ≤ (w32 (x3 + 4)) ∧ (w32 (x3 + 4)) < s21 (-2) 0)], (1429, [(3, x0), (4, x1), (15, x2), (0, x3)], [(0, (s21 (-1) (w32 (x3 + 4)))), (0, (s21 (-1) (w32 (x3 + 3)))), (0, (s21 (-1) (w32 (x3 + 2)))), (0, (s21 (-1) (w32 (x3 + 1)))), (15, x2), (0, v21)], s21)) from rfl) (fun h => ⟨h.1, h.2.1, h.2.2.1, h.2.2.2⟩) H (fun H => ?_)
  obtain ⟨v22, s22, h22, H⟩ := jb_some H
  refine AT.callV (As := [(0, (s21 (-1) (w32 (x3 + 1)))), (0, (s21 (-1) (w32 (x3 + 2)))), (0, (s21 (-1) (w32 (x3 + 3)))), (0, (s21 (-1) (w32 (x3 + 4))))]) (cl := 11) (b := x2) (st := [(0, v21)]) (i := 178) (pos := 8118) kMd_fitsBy (by decide +kernel) rfl (by decide +kernel) rfl rfl (by omega) (Md_fitsBy_ok h22) ?_
  show AT sLw_law 32 (1432, [(3, x0), (4, x1), (15, x2), (0, x3)], [(0, v22), (0, v21)], s22) o
  refine AT.ite (x := (0, 0, 0)) (by decide +kernel) (show jbr (.if_icmp .eq 295) (1432, [(3, x0), (4, x1), (15, x2), (0, x3)], [(0, v22), (0, v21)], s22) = some ((w32 v21) = (w32 v22), (1727, [(3, x0), (4, x1), (15, x2), (0, x3)], [], s22), (1435, [(3, x0), (4, x1), (15, x2), (0, x3)], [], s22)) from rfl) H (fun H => ?_) (fun H => ?_)
  · exact Lx_law_1727_ok hk18 H
  · refine AT.seq [(1435, .iconst 0, 1, (0, 0, 0))] (by decide +kernel) (show jrun _ (1435, [(3, x0), (4, x1), (15, x2), (0, x3)], [], s22) = some ([], (1436, [(3, x0), (4, x1), (15, x2), (0, x3)], [(0, 0)], s22)) from rfl) ?_
    exact AT.retzC (by decide +kernel) (by decide) H
set_option maxHeartbeats 4000000 in
set_option maxRecDepth 100000 in
theorem Lx_law_1341_ok {o : Int × jM} {k18 : Int → Int → Int → Int → jM → Option (Int × jM)} (hk18 : ∀ (x0 x1 x2 x3 : Int) (s : jM), k18 x0 x1 x2 x3 s = some o → AT sLw_law 32 (18, [(3, x0), (4, x1), (15, x2), (0, x3)], [], s) o) {x0 x1 x2 x3 : Int} {s : jM} (H : Lx_law_1341 k18 x0 x1 x2 x3 s = some o) : AT sLw_law 32 (1341, [(3, x0), (4, x1), (15, x2), (0, x3)], [], s) o := by
  unfold Lx_law_1341 at H
  refine AT.blk (g := (0 ≤ (w32 (x3 + 1)) ∧ (w32 (x3 + 1)) < s (-2) 0) ∧ (0 ≤ (w32 (x3 + 2)) ∧ (w32 (x3 + 2)) < s (-2) 0) ∧ (0 ≤ (w32 (x3 + 3)) ∧ (w32 (x3 + 3)) < s (-2) 0)) [(1341, .aload_n 1, 1, (0, 0, 0)), (1342, .aload_n 0, 1, (0, 0, 0)), (1343, .iload_n 3, 1, (0, 0, 0)), (1344, .iconst 1, 1, (0, 0, 0)), (1345, .iadd, 1, (0, 0, 0)), (1346, .iaload, 1, (0, 0, 0)), (1347, .aload_n 0, 1, (0, 0, 0)), (1348, .iload_n 3, 1, (0, 0, 0)), (1349, .iconst 2, 1, (0, 0, 0)), (1350, .iadd, 1, (0, 0, 0)), (1351, .iaload, 1, (0, 0, 0)), (1352, .aload_n 0, 1, (0, 0, 0)), (1353, .iload_n 3, 1, (0, 0, 0)), (1354, .iconst 3, 1, (0, 0, 0)), (1355, .iadd, 1, (0, 0, 0)), (1356, .iaload, 1, (0, 0, 0))] (by decide +kernel) (show jrun _ (1341, [(3, x0), (4, x1), (15, x2), (0, x3)], [], s) = some ([(0 ≤ (w32 (x3 + 1)) ∧ (w32 (x3 + 1)) < s (-2) 0), (0 ≤ (w32 (x3 + 2)) ∧ (w32 (x3 + 2)) < s (-2) 0), (0 ≤ (w32 (x3 + 3)) ∧ (w32 (x3 + 3)) < s (-2) 0)], (1357, [(3, x0), (4, x1), (15, x2), (0, x3)], [(0, (s (-1) (w32 (x3 + 3)))), (0, (s (-1) (w32 (x3 + 2)))), (0, (s (-1) (w32 (x3 + 1)))), (4, x1)], s)) from rfl) (fun h => ⟨h.1, h.2.1, h.2.2⟩) H (fun H => ?_)
  obtain ⟨v23, s23, h23, H⟩ := jb_some H
  refine AT.callW (As := [(0, (s (-1) (w32 (x3 + 1)))), (0, (s (-1) (w32 (x3 + 2)))), (0, (s (-1) (w32 (x3 + 3))))]) (cl := 0) (b := x1) (st := []) (i := 170) (pos := 5018) kJc_fits (by decide +kernel) rfl (by decide +kernel) rfl rfl (by omega) (Jc_fits_ok h23) (fun hS => ?_)
  have H := jsm_y hS H
  show AT sLw_law 32 (1360, [(3, x0), (4, x1), (15, x2), (0, x3)], [(0, v23)], s23) o
  refine AT.blk (g := (0 ≤ (w32 (x3 + 1)) ∧ (w32 (x3 + 1)) < s23 (-2) 0) ∧ (0 ≤ (w32 (x3 + 2)) ∧ (w32 (x3 + 2)) < s23 (-2) 0) ∧ (0 ≤ (w32 (x3 + 3)) ∧ (w32 (x3 + 3)) < s23 (-2) 0)) [(1360, .aload_n 2, 1, (0, 0, 0)), (1361, .aload_n 0, 1, (0, 0, 0)), (1362, .iload_n 3, 1, (0, 0, 0)), (1363, .iconst 1, 1, (0, 0, 0)), (1364, .iadd, 1, (0, 0, 0)), (1365, .iaload, 1, (0, 0, 0)), (1366, .aload_n 0, 1, (0, 0, 0)), (1367, .iload_n 3, 1, (0, 0, 0)), (1368, .iconst 2, 1, (0, 0, 0)), (1369, .iadd, 1, (0, 0, 0)), (1370, .iaload, 1, (0, 0, 0)), (1371, .aload_n 0, 1, (0, 0, 0)), (1372, .iload_n 3, 1, (0, 0, 0)), (1373, .iconst 3, 1, (0, 0, 0)), (1374, .iadd, 1, (0, 0, 0)), (1375, .iaload, 1, (0, 0, 0))] (by decide +kernel) (show jrun _ (1360, [(3, x0), (4, x1), (15, x2), (0, x3)], [(0, v23)], s23) = some ([(0 ≤ (w32 (x3 + 1)) ∧ (w32 (x3 + 1)) < s23 (-2) 0), (0 ≤ (w32 (x3 + 2)) ∧ (w32 (x3 + 2)) < s23 (-2) 0), (0 ≤ (w32 (x3 + 3)) ∧ (w32 (x3 + 3)) < s23 (-2) 0)], (1376, [(3, x0), (4, x1), (15, x2), (0, x3)], [(0, (s23 (-1) (w32 (x3 + 3)))), (0, (s23 (-1) (w32 (x3 + 2)))), (0, (s23 (-1) (w32 (x3 + 1)))), (15, x2), (0, v23)], s23)) from rfl) (fun h => ⟨h.1, h.2.1, h.2.2⟩) H (fun H => ?_)
  obtain ⟨v24, s24, h24, H⟩ := jb_some H
  refine AT.callV (As := [(0, (s23 (-1) (w32 (x3 + 1)))), (0, (s23 (-1) (w32 (x3 + 2)))), (0, (s23 (-1) (w32 (x3 + 3))))]) (cl := 11) (b := x2) (st := [(0, v23)]) (i := 173) (pos := 8101) kMd_fits (by decide +kernel) rfl (by decide +kernel) rfl rfl (by omega) (Md_fits_ok h24) ?_
  show AT sLw_law 32 (1379, [(3, x0), (4, x1), (15, x2), (0, x3)], [(0, v24), (0, v23)], s24) o
  refine AT.ite (x := (0, 0, 0)) (by decide +kernel) (show jbr (.if_icmp .eq 348) (1379, [(3, x0), (4, x1), (15, x2), (0, x3)], [(0, v24), (0, v23)], s24) = some ((w32 v23) = (w32 v24), (1727, [(3, x0), (4, x1), (15, x2), (0, x3)], [], s24), (1382, [(3, x0), (4, x1), (15, x2), (0, x3)], [], s24)) from rfl) H (fun H => ?_) (fun H => ?_)
  · exact Lx_law_1727_ok hk18 H
  · refine AT.seq [(1382, .iconst 0, 1, (0, 0, 0))] (by decide +kernel) (show jrun _ (1382, [(3, x0), (4, x1), (15, x2), (0, x3)], [], s24) = some ([], (1383, [(3, x0), (4, x1), (15, x2), (0, x3)], [(0, 0)], s24)) from rfl) ?_
    exact AT.retzC (by decide +kernel) (by decide) H
set_option maxHeartbeats 4000000 in
set_option maxRecDepth 100000 in
theorem Lx_law_1318_ok {o : Int × jM} {k18 : Int → Int → Int → Int → jM → Option (Int × jM)} (hk18 : ∀ (x0 x1 x2 x3 : Int) (s : jM), k18 x0 x1 x2 x3 s = some o → AT sLw_law 32 (18, [(3, x0), (4, x1), (15, x2), (0, x3)], [], s) o) {x0 x1 x2 x3 : Int} {s : jM} (H : Lx_law_1318 k18 x0 x1 x2 x3 s = some o) : AT sLw_law 32 (1318, [(3, x0), (4, x1), (15, x2), (0, x3)], [], s) o := by
  unfold Lx_law_1318 at H
  refine AT.blk (g := (0 ≤ (w32 (x3 + 1)) ∧ (w32 (x3 + 1)) < s (-2) 0)) [(1318, .aload_n 1, 1, (0, 0, 0)), (1319, .aload_n 0, 1, (0, 0, 0)), (1320, .iload_n 3, 1, (0, 0, 0)), (1321, .iconst 1, 1, (0, 0, 0)), (1322, .iadd, 1, (0, 0, 0)), (1323, .iaload, 1, (0, 0, 0))] (by decide +kernel) (show jrun _ (1318, [(3, x0), (4, x1), (15, x2), (0, x3)], [], s) = some ([(0 ≤ (w32 (x3 + 1)) ∧ (w32 (x3 + 1)) < s (-2) 0)], (1324, [(3, x0), (4, x1), (15, x2), (0, x3)], [(0, (s (-1) (w32 (x3 + 1)))), (4, x1)], s)) from rfl) (fun h => h) H (fun H => ?_)
  obtain ⟨v25, s25, h25, H⟩ := jb_some H
  refine AT.callW (As := [(0, (s (-1) (w32 (x3 + 1))))]) (cl := 0) (b := x1) (st := []) (i := 166) (pos := 5014) kJc_reach (by decide +kernel) rfl (by decide +kernel) rfl rfl (by omega) (Jc_reach_ok h25) (fun hS => ?_)
  have H := jsm_y hS H
  show AT sLw_law 32 (1327, [(3, x0), (4, x1), (15, x2), (0, x3)], [(0, v25)], s25) o
  refine AT.blk (g := (0 ≤ (w32 (x3 + 1)) ∧ (w32 (x3 + 1)) < s25 (-2) 0)) [(1327, .aload_n 2, 1, (0, 0, 0)), (1328, .aload_n 0, 1, (0, 0, 0)), (1329, .iload_n 3, 1, (0, 0, 0)), (1330, .iconst 1, 1, (0, 0, 0)), (1331, .iadd, 1, (0, 0, 0)), (1332, .iaload, 1, (0, 0, 0))] (by decide +kernel) (show jrun _ (1327, [(3, x0), (4, x1), (15, x2), (0, x3)], [(0, v25)], s25) = some ([(0 ≤ (w32 (x3 + 1)) ∧ (w32 (x3 + 1)) < s25 (-2) 0)], (1333, [(3, x0), (4, x1), (15, x2), (0, x3)], [(0, (s25 (-1) (w32 (x3 + 1)))), (15, x2), (0, v25)], s25)) from rfl) (fun h => h) H (fun H => ?_)
  obtain ⟨v26, s26, h26, H⟩ := jb_some H
  refine AT.callV (As := [(0, (s25 (-1) (w32 (x3 + 1))))]) (cl := 11) (b := x2) (st := [(0, v25)]) (i := 169) (pos := 8097) kMd_reach (by decide +kernel) rfl (by decide +kernel) rfl rfl (by omega) (Md_reach_ok h26) ?_
  show AT sLw_law 32 (1336, [(3, x0), (4, x1), (15, x2), (0, x3)], [(0, v26), (0, v25)], s26) o
  refine AT.ite (x := (0, 0, 0)) (by decide +kernel) (show jbr (.if_icmp .eq 391) (1336, [(3, x0), (4, x1), (15, x2), (0, x3)], [(0, v26), (0, v25)], s26) = some ((w32 v25) = (w32 v26), (1727, [(3, x0), (4, x1), (15, x2), (0, x3)], [], s26), (1339, [(3, x0), (4, x1), (15, x2), (0, x3)], [], s26)) from rfl) H (fun H => ?_) (fun H => ?_)
  · exact Lx_law_1727_ok hk18 H
  · refine AT.seq [(1339, .iconst 0, 1, (0, 0, 0))] (by decide +kernel) (show jrun _ (1339, [(3, x0), (4, x1), (15, x2), (0, x3)], [], s26) = some ([], (1340, [(3, x0), (4, x1), (15, x2), (0, x3)], [(0, 0)], s26)) from rfl) ?_
    exact AT.retzC (by decide +kernel) (by decide) H
set_option maxHeartbeats 4000000 in
set_option maxRecDepth 100000 in
theorem Lx_law_1275_ok {o : Int × jM} {k18 : Int → Int → Int → Int → jM → Option (Int × jM)} (hk18 : ∀ (x0 x1 x2 x3 : Int) (s : jM), k18 x0 x1 x2 x3 s = some o → AT sLw_law 32 (18, [(3, x0), (4, x1), (15, x2), (0, x3)], [], s) o) {x0 x1 x2 x3 : Int} {s : jM} (H : Lx_law_1275 k18 x0 x1 x2 x3 s = some o) : AT sLw_law 32 (1275, [(3, x0), (4, x1), (15, x2), (0, x3)], [], s) o := by
  unfold Lx_law_1275 at H
  refine AT.blk (g := (0 ≤ (w32 (x3 + 1)) ∧ (w32 (x3 + 1)) < s (-2) 0) ∧ (0 ≤ (w32 (x3 + 2)) ∧ (w32 (x3 + 2)) < s (-2) 0) ∧ (0 ≤ (w32 (x3 + 3)) ∧ (w32 (x3 + 3)) < s (-2) 0)) [(1275, .aload_n 1, 1, (0, 0, 0)), (1276, .aload_n 0, 1, (0, 0, 0)), (1277, .iload_n 3, 1, (0, 0, 0)), (1278, .iconst 1, 1, (0, 0, 0)), (1279, .iadd, 1, (0, 0, 0)), (1280, .iaload, 1, (0, 0, 0)), (1281, .aload_n 0, 1, (0, 0, 0)), (1282, .iload_n 3, 1, (0, 0, 0)), (1283, .iconst 2, 1, (0, 0, 0)), (1284, .iadd, 1, (0, 0, 0)), (1285, .iaload, 1, (0, 0, 0)), (1286, .aload_n 0, 1, (0, 0, 0)), (1287, .iload_n 3, 1, (0, 0, 0)), (1288, .iconst 3, 1, (0, 0, 0)), (1289, .iadd, 1, (0, 0, 0)), (1290, .iaload, 1, (0, 0, 0))] (by decide +kernel) (show jrun _ (1275, [(3, x0), (4, x1), (15, x2), (0, x3)], [], s) = some ([(0 ≤ (w32 (x3 + 1)) ∧ (w32 (x3 + 1)) < s (-2) 0), (0 ≤ (w32 (x3 + 2)) ∧ (w32 (x3 + 2)) < s (-2) 0), (0 ≤ (w32 (x3 + 3)) ∧ (w32 (x3 + 3)) < s (-2) 0)], (1291, [(3, x0), (4, x1), (15, x2), (0, x3)], [(0, (s (-1) (w32 (x3 + 3)))), (0, (s (-1) (w32 (x3 + 2)))), (0, (s (-1) (w32 (x3 + 1)))), (4, x1)], s)) from rfl) (fun h => ⟨h.1, h.2.1, h.2.2⟩) H (fun H => ?_)
  obtain ⟨v27, s27, h27, H⟩ := jb_some H
  refine AT.callW (As := [(0, (s (-1) (w32 (x3 + 1)))), (0, (s (-1) (w32 (x3 + 2)))), (0, (s (-1) (w32 (x3 + 3))))]) (cl := 0) (b := x1) (st := []) (i := 162) (pos := 5002) kJc_way (by decide +kernel) rfl (by decide +kernel) rfl rfl (by omega) (Jc_way_ok h27) (fun hS => ?_)
  have H := jsm_y hS H
  show AT sLw_law 32 (1294, [(3, x0), (4, x1), (15, x2), (0, x3)], [(0, v27)], s27) o
  refine AT.blk (g := (0 ≤ (w32 (x3 + 1)) ∧ (w32 (x3 + 1)) < s27 (-2) 0) ∧ (0 ≤ (w32 (x3 + 2)) ∧ (w32 (x3 + 2)) < s27 (-2) 0) ∧ (0 ≤ (w32 (x3 + 3)) ∧ (w32 (x3 + 3)) < s27 (-2) 0)) [(1294, .aload_n 2, 1, (0, 0, 0)), (1295, .aload_n 0, 1, (0, 0, 0)), (1296, .iload_n 3, 1, (0, 0, 0)), (1297, .iconst 1, 1, (0, 0, 0)), (1298, .iadd, 1, (0, 0, 0)), (1299, .iaload, 1, (0, 0, 0)), (1300, .aload_n 0, 1, (0, 0, 0)), (1301, .iload_n 3, 1, (0, 0, 0)), (1302, .iconst 2, 1, (0, 0, 0)), (1303, .iadd, 1, (0, 0, 0)), (1304, .iaload, 1, (0, 0, 0)), (1305, .aload_n 0, 1, (0, 0, 0)), (1306, .iload_n 3, 1, (0, 0, 0)), (1307, .iconst 3, 1, (0, 0, 0)), (1308, .iadd, 1, (0, 0, 0)), (1309, .iaload, 1, (0, 0, 0))] (by decide +kernel) (show jrun _ (1294, [(3, x0), (4, x1), (15, x2), (0, x3)], [(0, v27)], s27) = some ([(0 ≤ (w32 (x3 + 1)) ∧ (w32 (x3 + 1)) < s27 (-2) 0), (0 ≤ (w32 (x3 + 2)) ∧ (w32 (x3 + 2)) < s27 (-2) 0), (0 ≤ (w32 (x3 + 3)) ∧ (w32 (x3 + 3)) < s27 (-2) 0)], (1310, [(3, x0), (4, x1), (15, x2), (0, x3)], [(0, (s27 (-1) (w32 (x3 + 3)))), (0, (s27 (-1) (w32 (x3 + 2)))), (0, (s27 (-1) (w32 (x3 + 1)))), (15, x2), (0, v27)], s27)) from rfl) (fun h => ⟨h.1, h.2.1, h.2.2⟩) H (fun H => ?_)
  obtain ⟨v28, s28, h28, H⟩ := jb_some H
  refine AT.callV (As := [(0, (s27 (-1) (w32 (x3 + 1)))), (0, (s27 (-1) (w32 (x3 + 2)))), (0, (s27 (-1) (w32 (x3 + 3))))]) (cl := 11) (b := x2) (st := [(0, v27)]) (i := 165) (pos := 8085) kMd_way (by decide +kernel) rfl (by decide +kernel) rfl rfl (by omega) (Md_way_ok h28) ?_
  show AT sLw_law 32 (1313, [(3, x0), (4, x1), (15, x2), (0, x3)], [(0, v28), (0, v27)], s28) o
  refine AT.ite (x := (0, 0, 0)) (by decide +kernel) (show jbr (.if_icmp .eq 414) (1313, [(3, x0), (4, x1), (15, x2), (0, x3)], [(0, v28), (0, v27)], s28) = some ((w32 v27) = (w32 v28), (1727, [(3, x0), (4, x1), (15, x2), (0, x3)], [], s28), (1316, [(3, x0), (4, x1), (15, x2), (0, x3)], [], s28)) from rfl) H (fun H => ?_) (fun H => ?_)
  · exact Lx_law_1727_ok hk18 H
  · refine AT.seq [(1316, .iconst 0, 1, (0, 0, 0))] (by decide +kernel) (show jrun _ (1316, [(3, x0), (4, x1), (15, x2), (0, x3)], [], s28) = some ([], (1317, [(3, x0), (4, x1), (15, x2), (0, x3)], [(0, 0)], s28)) from rfl) ?_
    exact AT.retzC (by decide +kernel) (by decide) H
set_option maxHeartbeats 4000000 in
set_option maxRecDepth 100000 in
theorem Lx_law_1242_ok {o : Int × jM} {k18 : Int → Int → Int → Int → jM → Option (Int × jM)} (hk18 : ∀ (x0 x1 x2 x3 : Int) (s : jM), k18 x0 x1 x2 x3 s = some o → AT sLw_law 32 (18, [(3, x0), (4, x1), (15, x2), (0, x3)], [], s) o) {x0 x1 x2 x3 : Int} {s : jM} (H : Lx_law_1242 k18 x0 x1 x2 x3 s = some o) : AT sLw_law 32 (1242, [(3, x0), (4, x1), (15, x2), (0, x3)], [], s) o := by
  unfold Lx_law_1242 at H
  refine AT.blk (g := (0 ≤ (w32 (x3 + 1)) ∧ (w32 (x3 + 1)) < s (-2) 0) ∧ (0 ≤ (w32 (x3 + 2)) ∧ (w32 (x3 + 2)) < s (-2) 0)) [(1242, .aload_n 1, 1, (0, 0, 0)), (1243, .aload_n 0, 1, (0, 0, 0)), (1244, .iload_n 3, 1, (0, 0, 0)), (1245, .iconst 1, 1, (0, 0, 0)), (1246, .iadd, 1, (0, 0, 0)), (1247, .iaload, 1, (0, 0, 0)), (1248, .aload_n 0, 1, (0, 0, 0)), (1249, .iload_n 3, 1, (0, 0, 0)), (1250, .iconst 2, 1, (0, 0, 0)), (1251, .iadd, 1, (0, 0, 0)), (1252, .iaload, 1, (0, 0, 0))] (by decide +kernel) (show jrun _ (1242, [(3, x0), (4, x1), (15, x2), (0, x3)], [], s) = some ([(0 ≤ (w32 (x3 + 1)) ∧ (w32 (x3 + 1)) < s (-2) 0), (0 ≤ (w32 (x3 + 2)) ∧ (w32 (x3 + 2)) < s (-2) 0)], (1253, [(3, x0), (4, x1), (15, x2), (0, x3)], [(0, (s (-1) (w32 (x3 + 2)))), (0, (s (-1) (w32 (x3 + 1)))), (4, x1)], s)) from rfl) (fun h => ⟨h.1, h.2⟩) H (fun H => ?_)
  obtain ⟨v29, s29, h29, H⟩ := jb_some H
  refine AT.callW (As := [(0, (s (-1) (w32 (x3 + 1)))), (0, (s (-1) (w32 (x3 + 2))))]) (cl := 0) (b := x1) (st := []) (i := 158) (pos := 4238) kJc_shaken (by decide +kernel) rfl (by decide +kernel) rfl rfl (by omega) (Jc_shaken_ok h29) (fun hS => ?_)
  have H := jsm_y hS H
  show AT sLw_law 32 (1256, [(3, x0), (4, x1), (15, x2), (0, x3)], [(0, v29)], s29) o
  refine AT.blk (g := (0 ≤ (w32 (x3 + 1)) ∧ (w32 (x3 + 1)) < s29 (-2) 0) ∧ (0 ≤ (w32 (x3 + 2)) ∧ (w32 (x3 + 2)) < s29 (-2) 0)) [(1256, .aload_n 2, 1, (0, 0, 0)), (1257, .aload_n 0, 1, (0, 0, 0)), (1258, .iload_n 3, 1, (0, 0, 0)), (1259, .iconst 1, 1, (0, 0, 0)), (1260, .iadd, 1, (0, 0, 0)), (1261, .iaload, 1, (0, 0, 0)), (1262, .aload_n 0, 1, (0, 0, 0)), (1263, .iload_n 3, 1, (0, 0, 0)), (1264, .iconst 2, 1, (0, 0, 0)), (1265, .iadd, 1, (0, 0, 0)), (1266, .iaload, 1, (0, 0, 0))] (by decide +kernel) (show jrun _ (1256, [(3, x0), (4, x1), (15, x2), (0, x3)], [(0, v29)], s29) = some ([(0 ≤ (w32 (x3 + 1)) ∧ (w32 (x3 + 1)) < s29 (-2) 0), (0 ≤ (w32 (x3 + 2)) ∧ (w32 (x3 + 2)) < s29 (-2) 0)], (1267, [(3, x0), (4, x1), (15, x2), (0, x3)], [(0, (s29 (-1) (w32 (x3 + 2)))), (0, (s29 (-1) (w32 (x3 + 1)))), (15, x2), (0, v29)], s29)) from rfl) (fun h => ⟨h.1, h.2⟩) H (fun H => ?_)
  obtain ⟨v30, s30, h30, H⟩ := jb_some H
  refine AT.callV (As := [(0, (s29 (-1) (w32 (x3 + 1)))), (0, (s29 (-1) (w32 (x3 + 2))))]) (cl := 11) (b := x2) (st := [(0, v29)]) (i := 161) (pos := 8081) kMd_shaken (by decide +kernel) rfl (by decide +kernel) rfl rfl (by omega) (Md_shaken_ok h30) ?_
  show AT sLw_law 32 (1270, [(3, x0), (4, x1), (15, x2), (0, x3)], [(0, v30), (0, v29)], s30) o
  refine AT.ite (x := (0, 0, 0)) (by decide +kernel) (show jbr (.if_icmp .eq 457) (1270, [(3, x0), (4, x1), (15, x2), (0, x3)], [(0, v30), (0, v29)], s30) = some ((w32 v29) = (w32 v30), (1727, [(3, x0), (4, x1), (15, x2), (0, x3)], [], s30), (1273, [(3, x0), (4, x1), (15, x2), (0, x3)], [], s30)) from rfl) H (fun H => ?_) (fun H => ?_)
  · exact Lx_law_1727_ok hk18 H
  · refine AT.seq [(1273, .iconst 0, 1, (0, 0, 0))] (by decide +kernel) (show jrun _ (1273, [(3, x0), (4, x1), (15, x2), (0, x3)], [], s30) = some ([], (1274, [(3, x0), (4, x1), (15, x2), (0, x3)], [(0, 0)], s30)) from rfl) ?_
    exact AT.retzC (by decide +kernel) (by decide) H
set_option maxHeartbeats 4000000 in
set_option maxRecDepth 100000 in
theorem Lx_law_1219_ok {o : Int × jM} {k18 : Int → Int → Int → Int → jM → Option (Int × jM)} (hk18 : ∀ (x0 x1 x2 x3 : Int) (s : jM), k18 x0 x1 x2 x3 s = some o → AT sLw_law 32 (18, [(3, x0), (4, x1), (15, x2), (0, x3)], [], s) o) {x0 x1 x2 x3 : Int} {s : jM} (H : Lx_law_1219 k18 x0 x1 x2 x3 s = some o) : AT sLw_law 32 (1219, [(3, x0), (4, x1), (15, x2), (0, x3)], [], s) o := by
  unfold Lx_law_1219 at H
  refine AT.blk (g := (0 ≤ (w32 (x3 + 1)) ∧ (w32 (x3 + 1)) < s (-2) 0)) [(1219, .aload_n 1, 1, (0, 0, 0)), (1220, .aload_n 0, 1, (0, 0, 0)), (1221, .iload_n 3, 1, (0, 0, 0)), (1222, .iconst 1, 1, (0, 0, 0)), (1223, .iadd, 1, (0, 0, 0)), (1224, .iaload, 1, (0, 0, 0))] (by decide +kernel) (show jrun _ (1219, [(3, x0), (4, x1), (15, x2), (0, x3)], [], s) = some ([(0 ≤ (w32 (x3 + 1)) ∧ (w32 (x3 + 1)) < s (-2) 0)], (1225, [(3, x0), (4, x1), (15, x2), (0, x3)], [(0, (s (-1) (w32 (x3 + 1)))), (4, x1)], s)) from rfl) (fun h => h) H (fun H => ?_)
  obtain ⟨v31, s31, h31, H⟩ := jb_some H
  refine AT.callW (As := [(0, (s (-1) (w32 (x3 + 1))))]) (cl := 0) (b := x1) (st := []) (i := 154) (pos := 4230) kJc_fillings (by decide +kernel) rfl (by decide +kernel) rfl rfl (by omega) (Jc_fillings_ok h31) (fun hS => ?_)
  have H := jsm_y hS H
  show AT sLw_law 32 (1228, [(3, x0), (4, x1), (15, x2), (0, x3)], [(0, v31)], s31) o
  refine AT.blk (g := (0 ≤ (w32 (x3 + 1)) ∧ (w32 (x3 + 1)) < s31 (-2) 0)) [(1228, .aload_n 2, 1, (0, 0, 0)), (1229, .aload_n 0, 1, (0, 0, 0)), (1230, .iload_n 3, 1, (0, 0, 0)), (1231, .iconst 1, 1, (0, 0, 0)), (1232, .iadd, 1, (0, 0, 0)), (1233, .iaload, 1, (0, 0, 0))] (by decide +kernel) (show jrun _ (1228, [(3, x0), (4, x1), (15, x2), (0, x3)], [(0, v31)], s31) = some ([(0 ≤ (w32 (x3 + 1)) ∧ (w32 (x3 + 1)) < s31 (-2) 0)], (1234, [(3, x0), (4, x1), (15, x2), (0, x3)], [(0, (s31 (-1) (w32 (x3 + 1)))), (15, x2), (0, v31)], s31)) from rfl) (fun h => h) H (fun H => ?_)
  obtain ⟨v32, s32, h32, H⟩ := jb_some H
  refine AT.callV (As := [(0, (s31 (-1) (w32 (x3 + 1))))]) (cl := 11) (b := x2) (st := [(0, v31)]) (i := 157) (pos := 8077) kMd_fillings (by decide +kernel) rfl (by decide +kernel) rfl rfl (by omega) (Md_fillings_ok h32) ?_
  show AT sLw_law 32 (1237, [(3, x0), (4, x1), (15, x2), (0, x3)], [(0, v32), (0, v31)], s32) o
  refine AT.ite (x := (0, 0, 0)) (by decide +kernel) (show jbr (.if_icmp .eq 490) (1237, [(3, x0), (4, x1), (15, x2), (0, x3)], [(0, v32), (0, v31)], s32) = some ((w32 v31) = (w32 v32), (1727, [(3, x0), (4, x1), (15, x2), (0, x3)], [], s32), (1240, [(3, x0), (4, x1), (15, x2), (0, x3)], [], s32)) from rfl) H (fun H => ?_) (fun H => ?_)
  · exact Lx_law_1727_ok hk18 H
  · refine AT.seq [(1240, .iconst 0, 1, (0, 0, 0))] (by decide +kernel) (show jrun _ (1240, [(3, x0), (4, x1), (15, x2), (0, x3)], [], s32) = some ([], (1241, [(3, x0), (4, x1), (15, x2), (0, x3)], [(0, 0)], s32)) from rfl) ?_
    exact AT.retzC (by decide +kernel) (by decide) H
set_option maxHeartbeats 4000000 in
set_option maxRecDepth 100000 in
theorem Lx_law_1196_ok {o : Int × jM} {k18 : Int → Int → Int → Int → jM → Option (Int × jM)} (hk18 : ∀ (x0 x1 x2 x3 : Int) (s : jM), k18 x0 x1 x2 x3 s = some o → AT sLw_law 32 (18, [(3, x0), (4, x1), (15, x2), (0, x3)], [], s) o) {x0 x1 x2 x3 : Int} {s : jM} (H : Lx_law_1196 k18 x0 x1 x2 x3 s = some o) : AT sLw_law 32 (1196, [(3, x0), (4, x1), (15, x2), (0, x3)], [], s) o := by
  unfold Lx_law_1196 at H
  refine AT.blk (g := (0 ≤ (w32 (x3 + 1)) ∧ (w32 (x3 + 1)) < s (-2) 0)) [(1196, .aload_n 1, 1, (0, 0, 0)), (1197, .aload_n 0, 1, (0, 0, 0)), (1198, .iload_n 3, 1, (0, 0, 0)), (1199, .iconst 1, 1, (0, 0, 0)), (1200, .iadd, 1, (0, 0, 0)), (1201, .iaload, 1, (0, 0, 0))] (by decide +kernel) (show jrun _ (1196, [(3, x0), (4, x1), (15, x2), (0, x3)], [], s) = some ([(0 ≤ (w32 (x3 + 1)) ∧ (w32 (x3 + 1)) < s (-2) 0)], (1202, [(3, x0), (4, x1), (15, x2), (0, x3)], [(0, (s (-1) (w32 (x3 + 1)))), (4, x1)], s)) from rfl) (fun h => h) H (fun H => ?_)
  obtain ⟨v33, s33, h33, H⟩ := jb_some H
  refine AT.callW (As := [(0, (s (-1) (w32 (x3 + 1))))]) (cl := 0) (b := x1) (st := []) (i := 150) (pos := 4218) kJc_strongest (by decide +kernel) rfl (by decide +kernel) rfl rfl (by omega) (Jc_strongest_ok h33) (fun hS => ?_)
  have H := jsm_y hS H
  show AT sLw_law 32 (1205, [(3, x0), (4, x1), (15, x2), (0, x3)], [(0, v33)], s33) o
  refine AT.blk (g := (0 ≤ (w32 (x3 + 1)) ∧ (w32 (x3 + 1)) < s33 (-2) 0)) [(1205, .aload_n 2, 1, (0, 0, 0)), (1206, .aload_n 0, 1, (0, 0, 0)), (1207, .iload_n 3, 1, (0, 0, 0)), (1208, .iconst 1, 1, (0, 0, 0)), (1209, .iadd, 1, (0, 0, 0)), (1210, .iaload, 1, (0, 0, 0))] (by decide +kernel) (show jrun _ (1205, [(3, x0), (4, x1), (15, x2), (0, x3)], [(0, v33)], s33) = some ([(0 ≤ (w32 (x3 + 1)) ∧ (w32 (x3 + 1)) < s33 (-2) 0)], (1211, [(3, x0), (4, x1), (15, x2), (0, x3)], [(0, (s33 (-1) (w32 (x3 + 1)))), (15, x2), (0, v33)], s33)) from rfl) (fun h => h) H (fun H => ?_)
  obtain ⟨v34, s34, h34, H⟩ := jb_some H
  refine AT.callV (As := [(0, (s33 (-1) (w32 (x3 + 1))))]) (cl := 11) (b := x2) (st := [(0, v33)]) (i := 153) (pos := 8073) kMd_strongest (by decide +kernel) rfl (by decide +kernel) rfl rfl (by omega) (Md_strongest_ok h34) ?_
  show AT sLw_law 32 (1214, [(3, x0), (4, x1), (15, x2), (0, x3)], [(0, v34), (0, v33)], s34) o
  refine AT.ite (x := (0, 0, 0)) (by decide +kernel) (show jbr (.if_icmp .eq 513) (1214, [(3, x0), (4, x1), (15, x2), (0, x3)], [(0, v34), (0, v33)], s34) = some ((w32 v33) = (w32 v34), (1727, [(3, x0), (4, x1), (15, x2), (0, x3)], [], s34), (1217, [(3, x0), (4, x1), (15, x2), (0, x3)], [], s34)) from rfl) H (fun H => ?_) (fun H => ?_)
  · exact Lx_law_1727_ok hk18 H
  · refine AT.seq [(1217, .iconst 0, 1, (0, 0, 0))] (by decide +kernel) (show jrun _ (1217, [(3, x0), (4, x1), (15, x2), (0, x3)], [], s34) = some ([], (1218, [(3, x0), (4, x1), (15, x2), (0, x3)], [(0, 0)], s34)) from rfl) ?_
    exact AT.retzC (by decide +kernel) (by decide) H
set_option maxHeartbeats 4000000 in
set_option maxRecDepth 100000 in
theorem Lx_law_1153_ok {o : Int × jM} {k18 : Int → Int → Int → Int → jM → Option (Int × jM)} (hk18 : ∀ (x0 x1 x2 x3 : Int) (s : jM), k18 x0 x1 x2 x3 s = some o → AT sLw_law 32 (18, [(3, x0), (4, x1), (15, x2), (0, x3)], [], s) o) {x0 x1 x2 x3 : Int} {s : jM} (H : Lx_law_1153 k18 x0 x1 x2 x3 s = some o) : AT sLw_law 32 (1153, [(3, x0), (4, x1), (15, x2), (0, x3)], [], s) o := by
  unfold Lx_law_1153 at H
  refine AT.blk (g := (0 ≤ (w32 (x3 + 1)) ∧ (w32 (x3 + 1)) < s (-2) 0) ∧ (0 ≤ (w32 (x3 + 2)) ∧ (w32 (x3 + 2)) < s (-2) 0) ∧ (0 ≤ (w32 (x3 + 3)) ∧ (w32 (x3 + 3)) < s (-2) 0)) [(1153, .aload_n 1, 1, (0, 0, 0)), (1154, .aload_n 0, 1, (0, 0, 0)), (1155, .iload_n 3, 1, (0, 0, 0)), (1156, .iconst 1, 1, (0, 0, 0)), (1157, .iadd, 1, (0, 0, 0)), (1158, .iaload, 1, (0, 0, 0)), (1159, .aload_n 0, 1, (0, 0, 0)), (1160, .iload_n 3, 1, (0, 0, 0)), (1161, .iconst 2, 1, (0, 0, 0)), (1162, .iadd, 1, (0, 0, 0)), (1163, .iaload, 1, (0, 0, 0)), (1164, .aload_n 0, 1, (0, 0, 0)), (1165, .iload_n 3, 1, (0, 0, 0)), (1166, .iconst 3, 1, (0, 0, 0)), (1167, .iadd, 1, (0, 0, 0)), (1168, .iaload, 1, (0, 0, 0))] (by decide +kernel) (show jrun _ (1153, [(3, x0), (4, x1), (15, x2), (0, x3)], [], s) = some ([(0 ≤ (w32 (x3 + 1)) ∧ (w32 (x3 + 1)) < s (-2) 0), (0 ≤ (w32 (x3 + 2)) ∧ (w32 (x3 + 2)) < s (-2) 0), (0 ≤ (w32 (x3 + 3)) ∧ (w32 (x3 + 3)) < s (-2) 0)], (1169, [(3, x0), (4, x1), (15, x2), (0, x3)], [(0, (s (-1) (w32 (x3 + 3)))), (0, (s (-1) (w32 (x3 + 2)))), (0, (s (-1) (w32 (x3 + 1)))), (4, x1)], s)) from rfl) (fun h => ⟨h.1, h.2.1, h.2.2⟩) H (fun H => ?_)
  obtain ⟨v35, s35, h35, H⟩ := jb_some H
  refine AT.callW (As := [(0, (s (-1) (w32 (x3 + 1)))), (0, (s (-1) (w32 (x3 + 2)))), (0, (s (-1) (w32 (x3 + 3))))]) (cl := 0) (b := x1) (st := []) (i := 146) (pos := 4214) kJc_mixPart (by decide +kernel) rfl (by decide +kernel) rfl rfl (by omega) (Jc_mixPart_ok h35) (fun hS => ?_)
  have H := jsm_y hS H
  show AT sLw_law 32 (1172, [(3, x0), (4, x1), (15, x2), (0, x3)], [(0, v35)], s35) o
  refine AT.blk (g := (0 ≤ (w32 (x3 + 1)) ∧ (w32 (x3 + 1)) < s35 (-2) 0) ∧ (0 ≤ (w32 (x3 + 2)) ∧ (w32 (x3 + 2)) < s35 (-2) 0) ∧ (0 ≤ (w32 (x3 + 3)) ∧ (w32 (x3 + 3)) < s35 (-2) 0)) [(1172, .aload_n 2, 1, (0, 0, 0)), (1173, .aload_n 0, 1, (0, 0, 0)), (1174, .iload_n 3, 1, (0, 0, 0)), (1175, .iconst 1, 1, (0, 0, 0)), (1176, .iadd, 1, (0, 0, 0)), (1177, .iaload, 1, (0, 0, 0)), (1178, .aload_n 0, 1, (0, 0, 0)), (1179, .iload_n 3, 1, (0, 0, 0)), (1180, .iconst 2, 1, (0, 0, 0)), (1181, .iadd, 1, (0, 0, 0)), (1182, .iaload, 1, (0, 0, 0)), (1183, .aload_n 0, 1, (0, 0, 0)), (1184, .iload_n 3, 1, (0, 0, 0)), (1185, .iconst 3, 1, (0, 0, 0)), (1186, .iadd, 1, (0, 0, 0)), (1187, .iaload, 1, (0, 0, 0))] (by decide +kernel) (show jrun _ (1172, [(3, x0), (4, x1), (15, x2), (0, x3)], [(0, v35)], s35) = some ([(0 ≤ (w32 (x3 + 1)) ∧ (w32 (x3 + 1)) < s35 (-2) 0), (0 ≤ (w32 (x3 + 2)) ∧ (w32 (x3 + 2)) < s35 (-2) 0), (0 ≤ (w32 (x3 + 3)) ∧ (w32 (x3 + 3)) < s35 (-2) 0)], (1188, [(3, x0), (4, x1), (15, x2), (0, x3)], [(0, (s35 (-1) (w32 (x3 + 3)))), (0, (s35 (-1) (w32 (x3 + 2)))), (0, (s35 (-1) (w32 (x3 + 1)))), (15, x2), (0, v35)], s35)) from rfl) (fun h => ⟨h.1, h.2.1, h.2.2⟩) H (fun H => ?_)
  obtain ⟨v36, s36, h36, H⟩ := jb_some H
  refine AT.callV (As := [(0, (s35 (-1) (w32 (x3 + 1)))), (0, (s35 (-1) (w32 (x3 + 2)))), (0, (s35 (-1) (w32 (x3 + 3))))]) (cl := 11) (b := x2) (st := [(0, v35)]) (i := 149) (pos := 8069) kMd_mixPart (by decide +kernel) rfl (by decide +kernel) rfl rfl (by omega) (Md_mixPart_ok h36) ?_
  show AT sLw_law 32 (1191, [(3, x0), (4, x1), (15, x2), (0, x3)], [(0, v36), (0, v35)], s36) o
  refine AT.ite (x := (0, 0, 0)) (by decide +kernel) (show jbr (.if_icmp .eq 536) (1191, [(3, x0), (4, x1), (15, x2), (0, x3)], [(0, v36), (0, v35)], s36) = some ((w32 v35) = (w32 v36), (1727, [(3, x0), (4, x1), (15, x2), (0, x3)], [], s36), (1194, [(3, x0), (4, x1), (15, x2), (0, x3)], [], s36)) from rfl) H (fun H => ?_) (fun H => ?_)
  · exact Lx_law_1727_ok hk18 H
  · refine AT.seq [(1194, .iconst 0, 1, (0, 0, 0))] (by decide +kernel) (show jrun _ (1194, [(3, x0), (4, x1), (15, x2), (0, x3)], [], s36) = some ([], (1195, [(3, x0), (4, x1), (15, x2), (0, x3)], [(0, 0)], s36)) from rfl) ?_
    exact AT.retzC (by decide +kernel) (by decide) H
set_option maxHeartbeats 4000000 in
set_option maxRecDepth 100000 in
theorem Lx_law_1120_ok {o : Int × jM} {k18 : Int → Int → Int → Int → jM → Option (Int × jM)} (hk18 : ∀ (x0 x1 x2 x3 : Int) (s : jM), k18 x0 x1 x2 x3 s = some o → AT sLw_law 32 (18, [(3, x0), (4, x1), (15, x2), (0, x3)], [], s) o) {x0 x1 x2 x3 : Int} {s : jM} (H : Lx_law_1120 k18 x0 x1 x2 x3 s = some o) : AT sLw_law 32 (1120, [(3, x0), (4, x1), (15, x2), (0, x3)], [], s) o := by
  unfold Lx_law_1120 at H
  refine AT.blk (g := (0 ≤ (w32 (x3 + 1)) ∧ (w32 (x3 + 1)) < s (-2) 0) ∧ (0 ≤ (w32 (x3 + 2)) ∧ (w32 (x3 + 2)) < s (-2) 0)) [(1120, .aload_n 1, 1, (0, 0, 0)), (1121, .aload_n 0, 1, (0, 0, 0)), (1122, .iload_n 3, 1, (0, 0, 0)), (1123, .iconst 1, 1, (0, 0, 0)), (1124, .iadd, 1, (0, 0, 0)), (1125, .iaload, 1, (0, 0, 0)), (1126, .aload_n 0, 1, (0, 0, 0)), (1127, .iload_n 3, 1, (0, 0, 0)), (1128, .iconst 2, 1, (0, 0, 0)), (1129, .iadd, 1, (0, 0, 0)), (1130, .iaload, 1, (0, 0, 0))] (by decide +kernel) (show jrun _ (1120, [(3, x0), (4, x1), (15, x2), (0, x3)], [], s) = some ([(0 ≤ (w32 (x3 + 1)) ∧ (w32 (x3 + 1)) < s (-2) 0), (0 ≤ (w32 (x3 + 2)) ∧ (w32 (x3 + 2)) < s (-2) 0)], (1131, [(3, x0), (4, x1), (15, x2), (0, x3)], [(0, (s (-1) (w32 (x3 + 2)))), (0, (s (-1) (w32 (x3 + 1)))), (4, x1)], s)) from rfl) (fun h => ⟨h.1, h.2⟩) H (fun H => ?_)
  obtain ⟨v37, s37, h37, H⟩ := jb_some H
  refine AT.callW (As := [(0, (s (-1) (w32 (x3 + 1)))), (0, (s (-1) (w32 (x3 + 2))))]) (cl := 0) (b := x1) (st := []) (i := 142) (pos := 4184) kJc_mix (by decide +kernel) rfl (by decide +kernel) rfl rfl (by omega) (Jc_mix_ok h37) (fun hS => ?_)
  have H := jsm_y hS H
  show AT sLw_law 32 (1134, [(3, x0), (4, x1), (15, x2), (0, x3)], [(0, v37)], s37) o
  refine AT.blk (g := (0 ≤ (w32 (x3 + 1)) ∧ (w32 (x3 + 1)) < s37 (-2) 0) ∧ (0 ≤ (w32 (x3 + 2)) ∧ (w32 (x3 + 2)) < s37 (-2) 0)) [(1134, .aload_n 2, 1, (0, 0, 0)), (1135, .aload_n 0, 1, (0, 0, 0)), (1136, .iload_n 3, 1, (0, 0, 0)), (1137, .iconst 1, 1, (0, 0, 0)), (1138, .iadd, 1, (0, 0, 0)), (1139, .iaload, 1, (0, 0, 0)), (1140, .aload_n 0, 1, (0, 0, 0)), (1141, .iload_n 3, 1, (0, 0, 0)), (1142, .iconst 2, 1, (0, 0, 0)), (1143, .iadd, 1, (0, 0, 0)), (1144, .iaload, 1, (0, 0, 0))] (by decide +kernel) (show jrun _ (1134, [(3, x0), (4, x1), (15, x2), (0, x3)], [(0, v37)], s37) = some ([(0 ≤ (w32 (x3 + 1)) ∧ (w32 (x3 + 1)) < s37 (-2) 0), (0 ≤ (w32 (x3 + 2)) ∧ (w32 (x3 + 2)) < s37 (-2) 0)], (1145, [(3, x0), (4, x1), (15, x2), (0, x3)], [(0, (s37 (-1) (w32 (x3 + 2)))), (0, (s37 (-1) (w32 (x3 + 1)))), (15, x2), (0, v37)], s37)) from rfl) (fun h => ⟨h.1, h.2⟩) H (fun H => ?_)
  obtain ⟨v38, s38, h38, H⟩ := jb_some H
  refine AT.callV (As := [(0, (s37 (-1) (w32 (x3 + 1)))), (0, (s37 (-1) (w32 (x3 + 2))))]) (cl := 11) (b := x2) (st := [(0, v37)]) (i := 145) (pos := 8052) kMd_mix (by decide +kernel) rfl (by decide +kernel) rfl rfl (by omega) (Md_mix_ok h38) ?_
  show AT sLw_law 32 (1148, [(3, x0), (4, x1), (15, x2), (0, x3)], [(0, v38), (0, v37)], s38) o
  refine AT.ite (x := (0, 0, 0)) (by decide +kernel) (show jbr (.if_icmp .eq 579) (1148, [(3, x0), (4, x1), (15, x2), (0, x3)], [(0, v38), (0, v37)], s38) = some ((w32 v37) = (w32 v38), (1727, [(3, x0), (4, x1), (15, x2), (0, x3)], [], s38), (1151, [(3, x0), (4, x1), (15, x2), (0, x3)], [], s38)) from rfl) H (fun H => ?_) (fun H => ?_)
  · exact Lx_law_1727_ok hk18 H
  · refine AT.seq [(1151, .iconst 0, 1, (0, 0, 0))] (by decide +kernel) (show jrun _ (1151, [(3, x0), (4, x1), (15, x2), (0, x3)], [], s38) = some ([], (1152, [(3, x0), (4, x1), (15, x2), (0, x3)], [(0, 0)], s38)) from rfl) ?_
    exact AT.retzC (by decide +kernel) (by decide) H
set_option maxHeartbeats 4000000 in
set_option maxRecDepth 100000 in
theorem Lx_law_1107_ok {o : Int × jM} {k18 : Int → Int → Int → Int → jM → Option (Int × jM)} (hk18 : ∀ (x0 x1 x2 x3 : Int) (s : jM), k18 x0 x1 x2 x3 s = some o → AT sLw_law 32 (18, [(3, x0), (4, x1), (15, x2), (0, x3)], [], s) o) {x0 x1 x2 x3 : Int} {s : jM} (H : Lx_law_1107 k18 x0 x1 x2 x3 s = some o) : AT sLw_law 32 (1107, [(3, x0), (4, x1), (15, x2), (0, x3)], [], s) o := by
  unfold Lx_law_1107 at H
  refine AT.seq [(1107, .aload_n 1, 1, (0, 0, 0))] (by decide +kernel) (show jrun _ (1107, [(3, x0), (4, x1), (15, x2), (0, x3)], [], s) = some ([], (1108, [(3, x0), (4, x1), (15, x2), (0, x3)], [(4, x1)], s)) from rfl) ?_
  obtain ⟨v39, s39, h39, H⟩ := jb_some H
  refine AT.callW (As := []) (cl := 0) (b := x1) (st := []) (i := 138) (pos := 4177) kJc_fallIn (by decide +kernel) rfl (by decide +kernel) rfl rfl (by omega) (Jc_fallIn_ok h39) (fun hS => ?_)
  have H := jsm_y hS H
  show AT sLw_law 32 (1111, [(3, x0), (4, x1), (15, x2), (0, x3)], [(0, v39)], s39) o
  refine AT.seq [(1111, .aload_n 2, 1, (0, 0, 0))] (by decide +kernel) (show jrun _ (1111, [(3, x0), (4, x1), (15, x2), (0, x3)], [(0, v39)], s39) = some ([], (1112, [(3, x0), (4, x1), (15, x2), (0, x3)], [(15, x2), (0, v39)], s39)) from rfl) ?_
  obtain ⟨v40, s40, h40, H⟩ := jb_some H
  refine AT.callV (As := []) (cl := 11) (b := x2) (st := [(0, v39)]) (i := 141) (pos := 8037) kMd_fallIn (by decide +kernel) rfl (by decide +kernel) rfl rfl (by omega) (Md_fallIn_ok h40) ?_
  show AT sLw_law 32 (1115, [(3, x0), (4, x1), (15, x2), (0, x3)], [(0, v40), (0, v39)], s40) o
  refine AT.ite (x := (0, 0, 0)) (by decide +kernel) (show jbr (.if_icmp .eq 612) (1115, [(3, x0), (4, x1), (15, x2), (0, x3)], [(0, v40), (0, v39)], s40) = some ((w32 v39) = (w32 v40), (1727, [(3, x0), (4, x1), (15, x2), (0, x3)], [], s40), (1118, [(3, x0), (4, x1), (15, x2), (0, x3)], [], s40)) from rfl) H (fun H => ?_) (fun H => ?_)
  · exact Lx_law_1727_ok hk18 H
  · refine AT.seq [(1118, .iconst 0, 1, (0, 0, 0))] (by decide +kernel) (show jrun _ (1118, [(3, x0), (4, x1), (15, x2), (0, x3)], [], s40) = some ([], (1119, [(3, x0), (4, x1), (15, x2), (0, x3)], [(0, 0)], s40)) from rfl) ?_
    exact AT.retzC (by decide +kernel) (by decide) H
set_option maxHeartbeats 4000000 in
set_option maxRecDepth 100000 in
theorem Lx_law_1074_ok {o : Int × jM} {k18 : Int → Int → Int → Int → jM → Option (Int × jM)} (hk18 : ∀ (x0 x1 x2 x3 : Int) (s : jM), k18 x0 x1 x2 x3 s = some o → AT sLw_law 32 (18, [(3, x0), (4, x1), (15, x2), (0, x3)], [], s) o) {x0 x1 x2 x3 : Int} {s : jM} (H : Lx_law_1074 k18 x0 x1 x2 x3 s = some o) : AT sLw_law 32 (1074, [(3, x0), (4, x1), (15, x2), (0, x3)], [], s) o := by
  unfold Lx_law_1074 at H
  refine AT.blk (g := (0 ≤ (w32 (x3 + 1)) ∧ (w32 (x3 + 1)) < s (-2) 0) ∧ (0 ≤ (w32 (x3 + 2)) ∧ (w32 (x3 + 2)) < s (-2) 0)) [(1074, .aload_n 1, 1, (0, 0, 0)), (1075, .aload_n 0, 1, (0, 0, 0)), (1076, .iload_n 3, 1, (0, 0, 0)), (1077, .iconst 1, 1, (0, 0, 0)), (1078, .iadd, 1, (0, 0, 0)), (1079, .iaload, 1, (0, 0, 0)), (1080, .aload_n 0, 1, (0, 0, 0)), (1081, .iload_n 3, 1, (0, 0, 0)), (1082, .iconst 2, 1, (0, 0, 0)), (1083, .iadd, 1, (0, 0, 0)), (1084, .iaload, 1, (0, 0, 0))] (by decide +kernel) (show jrun _ (1074, [(3, x0), (4, x1), (15, x2), (0, x3)], [], s) = some ([(0 ≤ (w32 (x3 + 1)) ∧ (w32 (x3 + 1)) < s (-2) 0), (0 ≤ (w32 (x3 + 2)) ∧ (w32 (x3 + 2)) < s (-2) 0)], (1085, [(3, x0), (4, x1), (15, x2), (0, x3)], [(0, (s (-1) (w32 (x3 + 2)))), (0, (s (-1) (w32 (x3 + 1)))), (4, x1)], s)) from rfl) (fun h => ⟨h.1, h.2⟩) H (fun H => ?_)
  obtain ⟨v41, s41, h41, H⟩ := jb_some H
  refine AT.callW (As := [(0, (s (-1) (w32 (x3 + 1)))), (0, (s (-1) (w32 (x3 + 2))))]) (cl := 0) (b := x1) (st := []) (i := 134) (pos := 4173) kJc_waits (by decide +kernel) rfl (by decide +kernel) rfl rfl (by omega) (Jc_waits_ok h41) (fun hS => ?_)
  have H := jsm_y hS H
  show AT sLw_law 32 (1088, [(3, x0), (4, x1), (15, x2), (0, x3)], [(0, v41)], s41) o
  refine AT.blk (g := (0 ≤ (w32 (x3 + 1)) ∧ (w32 (x3 + 1)) < s41 (-2) 0) ∧ (0 ≤ (w32 (x3 + 2)) ∧ (w32 (x3 + 2)) < s41 (-2) 0)) [(1088, .aload_n 2, 1, (0, 0, 0)), (1089, .aload_n 0, 1, (0, 0, 0)), (1090, .iload_n 3, 1, (0, 0, 0)), (1091, .iconst 1, 1, (0, 0, 0)), (1092, .iadd, 1, (0, 0, 0)), (1093, .iaload, 1, (0, 0, 0)), (1094, .aload_n 0, 1, (0, 0, 0)), (1095, .iload_n 3, 1, (0, 0, 0)), (1096, .iconst 2, 1, (0, 0, 0)), (1097, .iadd, 1, (0, 0, 0)), (1098, .iaload, 1, (0, 0, 0))] (by decide +kernel) (show jrun _ (1088, [(3, x0), (4, x1), (15, x2), (0, x3)], [(0, v41)], s41) = some ([(0 ≤ (w32 (x3 + 1)) ∧ (w32 (x3 + 1)) < s41 (-2) 0), (0 ≤ (w32 (x3 + 2)) ∧ (w32 (x3 + 2)) < s41 (-2) 0)], (1099, [(3, x0), (4, x1), (15, x2), (0, x3)], [(0, (s41 (-1) (w32 (x3 + 2)))), (0, (s41 (-1) (w32 (x3 + 1)))), (15, x2), (0, v41)], s41)) from rfl) (fun h => ⟨h.1, h.2⟩) H (fun H => ?_)
  obtain ⟨v42, s42, h42, H⟩ := jb_some H
  refine AT.callV (As := [(0, (s41 (-1) (w32 (x3 + 1)))), (0, (s41 (-1) (w32 (x3 + 2))))]) (cl := 11) (b := x2) (st := [(0, v41)]) (i := 137) (pos := 8048) kMd_waits (by decide +kernel) rfl (by decide +kernel) rfl rfl (by omega) (Md_waits_ok h42) ?_
  show AT sLw_law 32 (1102, [(3, x0), (4, x1), (15, x2), (0, x3)], [(0, v42), (0, v41)], s42) o
  refine AT.ite (x := (0, 0, 0)) (by decide +kernel) (show jbr (.if_icmp .eq 625) (1102, [(3, x0), (4, x1), (15, x2), (0, x3)], [(0, v42), (0, v41)], s42) = some ((w32 v41) = (w32 v42), (1727, [(3, x0), (4, x1), (15, x2), (0, x3)], [], s42), (1105, [(3, x0), (4, x1), (15, x2), (0, x3)], [], s42)) from rfl) H (fun H => ?_) (fun H => ?_)
  · exact Lx_law_1727_ok hk18 H
  · refine AT.seq [(1105, .iconst 0, 1, (0, 0, 0))] (by decide +kernel) (show jrun _ (1105, [(3, x0), (4, x1), (15, x2), (0, x3)], [], s42) = some ([], (1106, [(3, x0), (4, x1), (15, x2), (0, x3)], [(0, 0)], s42)) from rfl) ?_
    exact AT.retzC (by decide +kernel) (by decide) H
set_option maxHeartbeats 4000000 in
set_option maxRecDepth 100000 in
theorem Lx_law_1051_ok {o : Int × jM} {k18 : Int → Int → Int → Int → jM → Option (Int × jM)} (hk18 : ∀ (x0 x1 x2 x3 : Int) (s : jM), k18 x0 x1 x2 x3 s = some o → AT sLw_law 32 (18, [(3, x0), (4, x1), (15, x2), (0, x3)], [], s) o) {x0 x1 x2 x3 : Int} {s : jM} (H : Lx_law_1051 k18 x0 x1 x2 x3 s = some o) : AT sLw_law 32 (1051, [(3, x0), (4, x1), (15, x2), (0, x3)], [], s) o := by
  unfold Lx_law_1051 at H
  refine AT.blk (g := (0 ≤ (w32 (x3 + 1)) ∧ (w32 (x3 + 1)) < s (-2) 0)) [(1051, .aload_n 1, 1, (0, 0, 0)), (1052, .aload_n 0, 1, (0, 0, 0)), (1053, .iload_n 3, 1, (0, 0, 0)), (1054, .iconst 1, 1, (0, 0, 0)), (1055, .iadd, 1, (0, 0, 0)), (1056, .iaload, 1, (0, 0, 0))] (by decide +kernel) (show jrun _ (1051, [(3, x0), (4, x1), (15, x2), (0, x3)], [], s) = some ([(0 ≤ (w32 (x3 + 1)) ∧ (w32 (x3 + 1)) < s (-2) 0)], (1057, [(3, x0), (4, x1), (15, x2), (0, x3)], [(0, (s (-1) (w32 (x3 + 1)))), (4, x1)], s)) from rfl) (fun h => h) H (fun H => ?_)
  obtain ⟨v43, s43, h43, H⟩ := jb_some H
  refine AT.callW (As := [(0, (s (-1) (w32 (x3 + 1))))]) (cl := 0) (b := x1) (st := []) (i := 130) (pos := 4164) kJc_lasts (by decide +kernel) rfl (by decide +kernel) rfl rfl (by omega) (Jc_lasts_ok h43) (fun hS => ?_)
  have H := jsm_y hS H
  show AT sLw_law 32 (1060, [(3, x0), (4, x1), (15, x2), (0, x3)], [(0, v43)], s43) o
  refine AT.blk (g := (0 ≤ (w32 (x3 + 1)) ∧ (w32 (x3 + 1)) < s43 (-2) 0)) [(1060, .aload_n 2, 1, (0, 0, 0)), (1061, .aload_n 0, 1, (0, 0, 0)), (1062, .iload_n 3, 1, (0, 0, 0)), (1063, .iconst 1, 1, (0, 0, 0)), (1064, .iadd, 1, (0, 0, 0)), (1065, .iaload, 1, (0, 0, 0))] (by decide +kernel) (show jrun _ (1060, [(3, x0), (4, x1), (15, x2), (0, x3)], [(0, v43)], s43) = some ([(0 ≤ (w32 (x3 + 1)) ∧ (w32 (x3 + 1)) < s43 (-2) 0)], (1066, [(3, x0), (4, x1), (15, x2), (0, x3)], [(0, (s43 (-1) (w32 (x3 + 1)))), (15, x2), (0, v43)], s43)) from rfl) (fun h => h) H (fun H => ?_)
  obtain ⟨v44, s44, h44, H⟩ := jb_some H
  refine AT.callV (As := [(0, (s43 (-1) (w32 (x3 + 1))))]) (cl := 11) (b := x2) (st := [(0, v43)]) (i := 133) (pos := 8041) kMd_lasts (by decide +kernel) rfl (by decide +kernel) rfl rfl (by omega) (Md_lasts_ok h44) ?_
  show AT sLw_law 32 (1069, [(3, x0), (4, x1), (15, x2), (0, x3)], [(0, v44), (0, v43)], s44) o
  refine AT.ite (x := (0, 0, 0)) (by decide +kernel) (show jbr (.if_icmp .eq 658) (1069, [(3, x0), (4, x1), (15, x2), (0, x3)], [(0, v44), (0, v43)], s44) = some ((w32 v43) = (w32 v44), (1727, [(3, x0), (4, x1), (15, x2), (0, x3)], [], s44), (1072, [(3, x0), (4, x1), (15, x2), (0, x3)], [], s44)) from rfl) H (fun H => ?_) (fun H => ?_)
  · exact Lx_law_1727_ok hk18 H
  · refine AT.seq [(1072, .iconst 0, 1, (0, 0, 0))] (by decide +kernel) (show jrun _ (1072, [(3, x0), (4, x1), (15, x2), (0, x3)], [], s44) = some ([], (1073, [(3, x0), (4, x1), (15, x2), (0, x3)], [(0, 0)], s44)) from rfl) ?_
    exact AT.retzC (by decide +kernel) (by decide) H
set_option maxHeartbeats 4000000 in
set_option maxRecDepth 100000 in
theorem Lx_law_1018_ok {o : Int × jM} {k18 : Int → Int → Int → Int → jM → Option (Int × jM)} (hk18 : ∀ (x0 x1 x2 x3 : Int) (s : jM), k18 x0 x1 x2 x3 s = some o → AT sLw_law 32 (18, [(3, x0), (4, x1), (15, x2), (0, x3)], [], s) o) {x0 x1 x2 x3 : Int} {s : jM} (H : Lx_law_1018 k18 x0 x1 x2 x3 s = some o) : AT sLw_law 32 (1018, [(3, x0), (4, x1), (15, x2), (0, x3)], [], s) o := by
  unfold Lx_law_1018 at H
  refine AT.blk (g := (0 ≤ (w32 (x3 + 1)) ∧ (w32 (x3 + 1)) < s (-2) 0) ∧ (0 ≤ (w32 (x3 + 2)) ∧ (w32 (x3 + 2)) < s (-2) 0)) [(1018, .aload_n 1, 1, (0, 0, 0)), (1019, .aload_n 0, 1, (0, 0, 0)), (1020, .iload_n 3, 1, (0, 0, 0)), (1021, .iconst 1, 1, (0, 0, 0)), (1022, .iadd, 1, (0, 0, 0)), (1023, .iaload, 1, (0, 0, 0)), (1024, .aload_n 0, 1, (0, 0, 0)), (1025, .iload_n 3, 1, (0, 0, 0)), (1026, .iconst 2, 1, (0, 0, 0)), (1027, .iadd, 1, (0, 0, 0)), (1028, .iaload, 1, (0, 0, 0))] (by decide +kernel) (show jrun _ (1018, [(3, x0), (4, x1), (15, x2), (0, x3)], [], s) = some ([(0 ≤ (w32 (x3 + 1)) ∧ (w32 (x3 + 1)) < s (-2) 0), (0 ≤ (w32 (x3 + 2)) ∧ (w32 (x3 + 2)) < s (-2) 0)], (1029, [(3, x0), (4, x1), (15, x2), (0, x3)], [(0, (s (-1) (w32 (x3 + 2)))), (0, (s (-1) (w32 (x3 + 1)))), (4, x1)], s)) from rfl) (fun h => ⟨h.1, h.2⟩) H (fun H => ?_)
  obtain ⟨v45, s45, h45, H⟩ := jb_some H
  refine AT.callW (As := [(0, (s (-1) (w32 (x3 + 1)))), (0, (s (-1) (w32 (x3 + 2))))]) (cl := 0) (b := x1) (st := []) (i := 126) (pos := 4159) kJc_firmIn (by decide +kernel) rfl (by decide +kernel) rfl rfl (by omega) (Jc_firmIn_ok h45) (fun hS => ?_)
  have H := jsm_y hS H
  show AT sLw_law 32 (1032, [(3, x0), (4, x1), (15, x2), (0, x3)], [(0, v45)], s45) o
  refine AT.blk (g := (0 ≤ (w32 (x3 + 1)) ∧ (w32 (x3 + 1)) < s45 (-2) 0) ∧ (0 ≤ (w32 (x3 + 2)) ∧ (w32 (x3 + 2)) < s45 (-2) 0)) [(1032, .aload_n 2, 1, (0, 0, 0)), (1033, .aload_n 0, 1, (0, 0, 0)), (1034, .iload_n 3, 1, (0, 0, 0)), (1035, .iconst 1, 1, (0, 0, 0)), (1036, .iadd, 1, (0, 0, 0)), (1037, .iaload, 1, (0, 0, 0)), (1038, .aload_n 0, 1, (0, 0, 0)), (1039, .iload_n 3, 1, (0, 0, 0)), (1040, .iconst 2, 1, (0, 0, 0)), (1041, .iadd, 1, (0, 0, 0)), (1042, .iaload, 1, (0, 0, 0))] (by decide +kernel) (show jrun _ (1032, [(3, x0), (4, x1), (15, x2), (0, x3)], [(0, v45)], s45) = some ([(0 ≤ (w32 (x3 + 1)) ∧ (w32 (x3 + 1)) < s45 (-2) 0), (0 ≤ (w32 (x3 + 2)) ∧ (w32 (x3 + 2)) < s45 (-2) 0)], (1043, [(3, x0), (4, x1), (15, x2), (0, x3)], [(0, (s45 (-1) (w32 (x3 + 2)))), (0, (s45 (-1) (w32 (x3 + 1)))), (15, x2), (0, v45)], s45)) from rfl) (fun h => ⟨h.1, h.2⟩) H (fun H => ?_)
  obtain ⟨v46, s46, h46, H⟩ := jb_some H
  refine AT.callV (As := [(0, (s45 (-1) (w32 (x3 + 1)))), (0, (s45 (-1) (w32 (x3 + 2))))]) (cl := 11) (b := x2) (st := [(0, v45)]) (i := 129) (pos := 8024) kMd_firmIn (by decide +kernel) rfl (by decide +kernel) rfl rfl (by omega) (Md_firmIn_ok h46) ?_
  show AT sLw_law 32 (1046, [(3, x0), (4, x1), (15, x2), (0, x3)], [(0, v46), (0, v45)], s46) o
  refine AT.ite (x := (0, 0, 0)) (by decide +kernel) (show jbr (.if_icmp .eq 681) (1046, [(3, x0), (4, x1), (15, x2), (0, x3)], [(0, v46), (0, v45)], s46) = some ((w32 v45) = (w32 v46), (1727, [(3, x0), (4, x1), (15, x2), (0, x3)], [], s46), (1049, [(3, x0), (4, x1), (15, x2), (0, x3)], [], s46)) from rfl) H (fun H => ?_) (fun H => ?_)
  · exact Lx_law_1727_ok hk18 H
  · refine AT.seq [(1049, .iconst 0, 1, (0, 0, 0))] (by decide +kernel) (show jrun _ (1049, [(3, x0), (4, x1), (15, x2), (0, x3)], [], s46) = some ([], (1050, [(3, x0), (4, x1), (15, x2), (0, x3)], [(0, 0)], s46)) from rfl) ?_
    exact AT.retzC (by decide +kernel) (by decide) H
set_option maxHeartbeats 4000000 in
set_option maxRecDepth 100000 in
theorem Lx_law_995_ok {o : Int × jM} {k18 : Int → Int → Int → Int → jM → Option (Int × jM)} (hk18 : ∀ (x0 x1 x2 x3 : Int) (s : jM), k18 x0 x1 x2 x3 s = some o → AT sLw_law 32 (18, [(3, x0), (4, x1), (15, x2), (0, x3)], [], s) o) {x0 x1 x2 x3 : Int} {s : jM} (H : Lx_law_995 k18 x0 x1 x2 x3 s = some o) : AT sLw_law 32 (995, [(3, x0), (4, x1), (15, x2), (0, x3)], [], s) o := by
  unfold Lx_law_995 at H
  refine AT.blk (g := (0 ≤ (w32 (x3 + 1)) ∧ (w32 (x3 + 1)) < s (-2) 0)) [(995, .aload_n 1, 1, (0, 0, 0)), (996, .aload_n 0, 1, (0, 0, 0)), (997, .iload_n 3, 1, (0, 0, 0)), (998, .iconst 1, 1, (0, 0, 0)), (999, .iadd, 1, (0, 0, 0)), (1000, .iaload, 1, (0, 0, 0))] (by decide +kernel) (show jrun _ (995, [(3, x0), (4, x1), (15, x2), (0, x3)], [], s) = some ([(0 ≤ (w32 (x3 + 1)) ∧ (w32 (x3 + 1)) < s (-2) 0)], (1001, [(3, x0), (4, x1), (15, x2), (0, x3)], [(0, (s (-1) (w32 (x3 + 1)))), (4, x1)], s)) from rfl) (fun h => h) H (fun H => ?_)
  obtain ⟨v47, s47, h47, H⟩ := jb_some H
  refine AT.callW (As := [(0, (s (-1) (w32 (x3 + 1))))]) (cl := 0) (b := x1) (st := []) (i := 121) (pos := 4155) kJc_rule (by decide +kernel) rfl (by decide +kernel) rfl rfl (by omega) (Jc_rule_ok h47) (fun hS => ?_)
  have H := jsm_y hS H
  show AT sLw_law 32 (1004, [(3, x0), (4, x1), (15, x2), (0, x3)], [(0, v47)], s47) o
  refine AT.blk (g := (0 ≤ (w32 (x3 + 1)) ∧ (w32 (x3 + 1)) < s47 (-2) 0)) [(1004, .aload_n 2, 1, (0, 0, 0)), (1005, .aload_n 0, 1, (0, 0, 0)), (1006, .iload_n 3, 1, (0, 0, 0)), (1007, .iconst 1, 1, (0, 0, 0)), (1008, .iadd, 1, (0, 0, 0)), (1009, .iaload, 1, (0, 0, 0))] (by decide +kernel) (show jrun _ (1004, [(3, x0), (4, x1), (15, x2), (0, x3)], [(0, v47)], s47) = some ([(0 ≤ (w32 (x3 + 1)) ∧ (w32 (x3 + 1)) < s47 (-2) 0)], (1010, [(3, x0), (4, x1), (15, x2), (0, x3)], [(0, (s47 (-1) (w32 (x3 + 1)))), (15, x2), (0, v47)], s47)) from rfl) (fun h => h) H (fun H => ?_)
  obtain ⟨v48, s48, h48, H⟩ := jb_some H
  refine AT.callV (As := [(0, (s47 (-1) (w32 (x3 + 1))))]) (cl := 11) (b := x2) (st := [(0, v47)]) (i := 125) (pos := 8019) kMd_rule (by decide +kernel) rfl (by decide +kernel) rfl rfl (by omega) (Md_rule_ok h48) ?_
  show AT sLw_law 32 (1013, [(3, x0), (4, x1), (15, x2), (0, x3)], [(0, v48), (0, v47)], s48) o
  refine AT.ite (x := (0, 0, 0)) (by decide +kernel) (show jbr (.if_icmp .eq 714) (1013, [(3, x0), (4, x1), (15, x2), (0, x3)], [(0, v48), (0, v47)], s48) = some ((w32 v47) = (w32 v48), (1727, [(3, x0), (4, x1), (15, x2), (0, x3)], [], s48), (1016, [(3, x0), (4, x1), (15, x2), (0, x3)], [], s48)) from rfl) H (fun H => ?_) (fun H => ?_)
  · exact Lx_law_1727_ok hk18 H
  · refine AT.seq [(1016, .iconst 0, 1, (0, 0, 0))] (by decide +kernel) (show jrun _ (1016, [(3, x0), (4, x1), (15, x2), (0, x3)], [], s48) = some ([], (1017, [(3, x0), (4, x1), (15, x2), (0, x3)], [(0, 0)], s48)) from rfl) ?_
    exact AT.retzC (by decide +kernel) (by decide) H
set_option maxHeartbeats 4000000 in
set_option maxRecDepth 100000 in
theorem Lx_law_962_ok {o : Int × jM} {k18 : Int → Int → Int → Int → jM → Option (Int × jM)} (hk18 : ∀ (x0 x1 x2 x3 : Int) (s : jM), k18 x0 x1 x2 x3 s = some o → AT sLw_law 32 (18, [(3, x0), (4, x1), (15, x2), (0, x3)], [], s) o) {x0 x1 x2 x3 : Int} {s : jM} (H : Lx_law_962 k18 x0 x1 x2 x3 s = some o) : AT sLw_law 32 (962, [(3, x0), (4, x1), (15, x2), (0, x3)], [], s) o := by
  unfold Lx_law_962 at H
  refine AT.blk (g := (0 ≤ (w32 (x3 + 1)) ∧ (w32 (x3 + 1)) < s (-2) 0) ∧ (0 ≤ (w32 (x3 + 2)) ∧ (w32 (x3 + 2)) < s (-2) 0)) [(962, .aload_n 1, 1, (0, 0, 0)), (963, .aload_n 0, 1, (0, 0, 0)), (964, .iload_n 3, 1, (0, 0, 0)), (965, .iconst 1, 1, (0, 0, 0)), (966, .iadd, 1, (0, 0, 0)), (967, .iaload, 1, (0, 0, 0)), (968, .aload_n 0, 1, (0, 0, 0)), (969, .iload_n 3, 1, (0, 0, 0)), (970, .iconst 2, 1, (0, 0, 0)), (971, .iadd, 1, (0, 0, 0)), (972, .iaload, 1, (0, 0, 0))] (by decide +kernel) (show jrun _ (962, [(3, x0), (4, x1), (15, x2), (0, x3)], [], s) = some ([(0 ≤ (w32 (x3 + 1)) ∧ (w32 (x3 + 1)) < s (-2) 0), (0 ≤ (w32 (x3 + 2)) ∧ (w32 (x3 + 2)) < s (-2) 0)], (973, [(3, x0), (4, x1), (15, x2), (0, x3)], [(0, (s (-1) (w32 (x3 + 2)))), (0, (s (-1) (w32 (x3 + 1)))), (4, x1)], s)) from rfl) (fun h => ⟨h.1, h.2⟩) H (fun H => ?_)
  obtain ⟨v49, s49, h49, H⟩ := jb_some H
  refine AT.callW (As := [(0, (s (-1) (w32 (x3 + 1)))), (0, (s (-1) (w32 (x3 + 2))))]) (cl := 0) (b := x1) (st := []) (i := 117) (pos := 4151) kJc_buy (by decide +kernel) rfl (by decide +kernel) rfl rfl (by omega) (Jc_buy_ok h49) (fun hS => ?_)
  have H := jsm_y hS H
  show AT sLw_law 32 (976, [(3, x0), (4, x1), (15, x2), (0, x3)], [(0, v49)], s49) o
  refine AT.blk (g := (0 ≤ (w32 (x3 + 1)) ∧ (w32 (x3 + 1)) < s49 (-2) 0) ∧ (0 ≤ (w32 (x3 + 2)) ∧ (w32 (x3 + 2)) < s49 (-2) 0)) [(976, .aload_n 2, 1, (0, 0, 0)), (977, .aload_n 0, 1, (0, 0, 0)), (978, .iload_n 3, 1, (0, 0, 0)), (979, .iconst 1, 1, (0, 0, 0)), (980, .iadd, 1, (0, 0, 0)), (981, .iaload, 1, (0, 0, 0)), (982, .aload_n 0, 1, (0, 0, 0)), (983, .iload_n 3, 1, (0, 0, 0)), (984, .iconst 2, 1, (0, 0, 0)), (985, .iadd, 1, (0, 0, 0)), (986, .iaload, 1, (0, 0, 0))] (by decide +kernel) (show jrun _ (976, [(3, x0), (4, x1), (15, x2), (0, x3)], [(0, v49)], s49) = some ([(0 ≤ (w32 (x3 + 1)) ∧ (w32 (x3 + 1)) < s49 (-2) 0), (0 ≤ (w32 (x3 + 2)) ∧ (w32 (x3 + 2)) < s49 (-2) 0)], (987, [(3, x0), (4, x1), (15, x2), (0, x3)], [(0, (s49 (-1) (w32 (x3 + 2)))), (0, (s49 (-1) (w32 (x3 + 1)))), (15, x2), (0, v49)], s49)) from rfl) (fun h => ⟨h.1, h.2⟩) H (fun H => ?_)
  obtain ⟨v50, s50, h50, H⟩ := jb_some H
  refine AT.callV (As := [(0, (s49 (-1) (w32 (x3 + 1)))), (0, (s49 (-1) (w32 (x3 + 2))))]) (cl := 11) (b := x2) (st := [(0, v49)]) (i := 120) (pos := 8015) kMd_buy (by decide +kernel) rfl (by decide +kernel) rfl rfl (by omega) (Md_buy_ok h50) ?_
  show AT sLw_law 32 (990, [(3, x0), (4, x1), (15, x2), (0, x3)], [(0, v50), (0, v49)], s50) o
  refine AT.ite (x := (0, 0, 0)) (by decide +kernel) (show jbr (.if_icmp .eq 737) (990, [(3, x0), (4, x1), (15, x2), (0, x3)], [(0, v50), (0, v49)], s50) = some ((w32 v49) = (w32 v50), (1727, [(3, x0), (4, x1), (15, x2), (0, x3)], [], s50), (993, [(3, x0), (4, x1), (15, x2), (0, x3)], [], s50)) from rfl) H (fun H => ?_) (fun H => ?_)
  · exact Lx_law_1727_ok hk18 H
  · refine AT.seq [(993, .iconst 0, 1, (0, 0, 0))] (by decide +kernel) (show jrun _ (993, [(3, x0), (4, x1), (15, x2), (0, x3)], [], s50) = some ([], (994, [(3, x0), (4, x1), (15, x2), (0, x3)], [(0, 0)], s50)) from rfl) ?_
    exact AT.retzC (by decide +kernel) (by decide) H
set_option maxHeartbeats 4000000 in
set_option maxRecDepth 100000 in
theorem Lx_law_939_ok {o : Int × jM} {k18 : Int → Int → Int → Int → jM → Option (Int × jM)} (hk18 : ∀ (x0 x1 x2 x3 : Int) (s : jM), k18 x0 x1 x2 x3 s = some o → AT sLw_law 32 (18, [(3, x0), (4, x1), (15, x2), (0, x3)], [], s) o) {x0 x1 x2 x3 : Int} {s : jM} (H : Lx_law_939 k18 x0 x1 x2 x3 s = some o) : AT sLw_law 32 (939, [(3, x0), (4, x1), (15, x2), (0, x3)], [], s) o := by
  unfold Lx_law_939 at H
  refine AT.blk (g := (0 ≤ (w32 (x3 + 1)) ∧ (w32 (x3 + 1)) < s (-2) 0)) [(939, .aload_n 1, 1, (0, 0, 0)), (940, .aload_n 0, 1, (0, 0, 0)), (941, .iload_n 3, 1, (0, 0, 0)), (942, .iconst 1, 1, (0, 0, 0)), (943, .iadd, 1, (0, 0, 0)), (944, .iaload, 1, (0, 0, 0))] (by decide +kernel) (show jrun _ (939, [(3, x0), (4, x1), (15, x2), (0, x3)], [], s) = some ([(0 ≤ (w32 (x3 + 1)) ∧ (w32 (x3 + 1)) < s (-2) 0)], (945, [(3, x0), (4, x1), (15, x2), (0, x3)], [(0, (s (-1) (w32 (x3 + 1)))), (4, x1)], s)) from rfl) (fun h => h) H (fun H => ?_)
  obtain ⟨v51, s51, h51, H⟩ := jb_some H
  refine AT.callW (As := [(0, (s (-1) (w32 (x3 + 1))))]) (cl := 0) (b := x1) (st := []) (i := 113) (pos := 4143) kJc_warm (by decide +kernel) rfl (by decide +kernel) rfl rfl (by omega) (Jc_warm_ok h51) (fun hS => ?_)
  have H := jsm_y hS H
  show AT sLw_law 32 (948, [(3, x0), (4, x1), (15, x2), (0, x3)], [(0, v51)], s51) o
  refine AT.blk (g := (0 ≤ (w32 (x3 + 1)) ∧ (w32 (x3 + 1)) < s51 (-2) 0)) [(948, .aload_n 2, 1, (0, 0, 0)), (949, .aload_n 0, 1, (0, 0, 0)), (950, .iload_n 3, 1, (0, 0, 0)), (951, .iconst 1, 1, (0, 0, 0)), (952, .iadd, 1, (0, 0, 0)), (953, .iaload, 1, (0, 0, 0))] (by decide +kernel) (show jrun _ (948, [(3, x0), (4, x1), (15, x2), (0, x3)], [(0, v51)], s51) = some ([(0 ≤ (w32 (x3 + 1)) ∧ (w32 (x3 + 1)) < s51 (-2) 0)], (954, [(3, x0), (4, x1), (15, x2), (0, x3)], [(0, (s51 (-1) (w32 (x3 + 1)))), (15, x2), (0, v51)], s51)) from rfl) (fun h => h) H (fun H => ?_)
  obtain ⟨v52, s52, h52, H⟩ := jb_some H
  refine AT.callV (As := [(0, (s51 (-1) (w32 (x3 + 1))))]) (cl := 11) (b := x2) (st := [(0, v51)]) (i := 116) (pos := 8007) kMd_warm (by decide +kernel) rfl (by decide +kernel) rfl rfl (by omega) (Md_warm_ok h52) ?_
  show AT sLw_law 32 (957, [(3, x0), (4, x1), (15, x2), (0, x3)], [(0, v52), (0, v51)], s52) o
  refine AT.ite (x := (0, 0, 0)) (by decide +kernel) (show jbr (.if_icmp .eq 770) (957, [(3, x0), (4, x1), (15, x2), (0, x3)], [(0, v52), (0, v51)], s52) = some ((w32 v51) = (w32 v52), (1727, [(3, x0), (4, x1), (15, x2), (0, x3)], [], s52), (960, [(3, x0), (4, x1), (15, x2), (0, x3)], [], s52)) from rfl) H (fun H => ?_) (fun H => ?_)
  · exact Lx_law_1727_ok hk18 H
  · refine AT.seq [(960, .iconst 0, 1, (0, 0, 0))] (by decide +kernel) (show jrun _ (960, [(3, x0), (4, x1), (15, x2), (0, x3)], [], s52) = some ([], (961, [(3, x0), (4, x1), (15, x2), (0, x3)], [(0, 0)], s52)) from rfl) ?_
    exact AT.retzC (by decide +kernel) (by decide) H
set_option maxHeartbeats 4000000 in
set_option maxRecDepth 100000 in
theorem Lx_law_916_ok {o : Int × jM} {k18 : Int → Int → Int → Int → jM → Option (Int × jM)} (hk18 : ∀ (x0 x1 x2 x3 : Int) (s : jM), k18 x0 x1 x2 x3 s = some o → AT sLw_law 32 (18, [(3, x0), (4, x1), (15, x2), (0, x3)], [], s) o) {x0 x1 x2 x3 : Int} {s : jM} (H : Lx_law_916 k18 x0 x1 x2 x3 s = some o) : AT sLw_law 32 (916, [(3, x0), (4, x1), (15, x2), (0, x3)], [], s) o := by
  unfold Lx_law_916 at H
  refine AT.blk (g := (0 ≤ (w32 (x3 + 1)) ∧ (w32 (x3 + 1)) < s (-2) 0)) [(916, .aload_n 1, 1, (0, 0, 0)), (917, .aload_n 0, 1, (0, 0, 0)), (918, .iload_n 3, 1, (0, 0, 0)), (919, .iconst 1, 1, (0, 0, 0)), (920, .iadd, 1, (0, 0, 0)), (921, .iaload, 1, (0, 0, 0))] (by decide +kernel) (show jrun _ (916, [(3, x0), (4, x1), (15, x2), (0, x3)], [], s) = some ([(0 ≤ (w32 (x3 + 1)) ∧ (w32 (x3 + 1)) < s (-2) 0)], (922, [(3, x0), (4, x1), (15, x2), (0, x3)], [(0, (s (-1) (w32 (x3 + 1)))), (4, x1)], s)) from rfl) (fun h => h) H (fun H => ?_)
  obtain ⟨v53, s53, h53, H⟩ := jb_some H
  refine AT.callW (As := [(0, (s (-1) (w32 (x3 + 1))))]) (cl := 0) (b := x1) (st := []) (i := 109) (pos := 4125) kJc_minute (by decide +kernel) rfl (by decide +kernel) rfl rfl (by omega) (Jc_minute_ok h53) (fun hS => ?_)
  have H := jsm_y hS H
  show AT sLw_law 32 (925, [(3, x0), (4, x1), (15, x2), (0, x3)], [(0, v53)], s53) o
  refine AT.blk (g := (0 ≤ (w32 (x3 + 1)) ∧ (w32 (x3 + 1)) < s53 (-2) 0)) [(925, .aload_n 2, 1, (0, 0, 0)), (926, .aload_n 0, 1, (0, 0, 0)), (927, .iload_n 3, 1, (0, 0, 0)), (928, .iconst 1, 1, (0, 0, 0)), (929, .iadd, 1, (0, 0, 0)), (930, .iaload, 1, (0, 0, 0))] (by decide +kernel) (show jrun _ (925, [(3, x0), (4, x1), (15, x2), (0, x3)], [(0, v53)], s53) = some ([(0 ≤ (w32 (x3 + 1)) ∧ (w32 (x3 + 1)) < s53 (-2) 0)], (931, [(3, x0), (4, x1), (15, x2), (0, x3)], [(0, (s53 (-1) (w32 (x3 + 1)))), (15, x2), (0, v53)], s53)) from rfl) (fun h => h) H (fun H => ?_)
  obtain ⟨v54, s54, h54, H⟩ := jb_some H
  refine AT.callV (As := [(0, (s53 (-1) (w32 (x3 + 1))))]) (cl := 11) (b := x2) (st := [(0, v53)]) (i := 112) (pos := 7238) kMd_minute (by decide +kernel) rfl (by decide +kernel) rfl rfl (by omega) (Md_minute_ok h54) ?_
  show AT sLw_law 32 (934, [(3, x0), (4, x1), (15, x2), (0, x3)], [(0, v54), (0, v53)], s54) o
  refine AT.ite (x := (0, 0, 0)) (by decide +kernel) (show jbr (.if_icmp .eq 793) (934, [(3, x0), (4, x1), (15, x2), (0, x3)], [(0, v54), (0, v53)], s54) = some ((w32 v53) = (w32 v54), (1727, [(3, x0), (4, x1), (15, x2), (0, x3)], [], s54), (937, [(3, x0), (4, x1), (15, x2), (0, x3)], [], s54)) from rfl) H (fun H => ?_) (fun H => ?_)
  · exact Lx_law_1727_ok hk18 H
  · refine AT.seq [(937, .iconst 0, 1, (0, 0, 0))] (by decide +kernel) (show jrun _ (937, [(3, x0), (4, x1), (15, x2), (0, x3)], [], s54) = some ([], (938, [(3, x0), (4, x1), (15, x2), (0, x3)], [(0, 0)], s54)) from rfl) ?_
    exact AT.retzC (by decide +kernel) (by decide) H
set_option maxHeartbeats 4000000 in
set_option maxRecDepth 100000 in
theorem Lx_law_883_ok {o : Int × jM} {k18 : Int → Int → Int → Int → jM → Option (Int × jM)} (hk18 : ∀ (x0 x1 x2 x3 : Int) (s : jM), k18 x0 x1 x2 x3 s = some o → AT sLw_law 32 (18, [(3, x0), (4, x1), (15, x2), (0, x3)], [], s) o) {x0 x1 x2 x3 : Int} {s : jM} (H : Lx_law_883 k18 x0 x1 x2 x3 s = some o) : AT sLw_law 32 (883, [(3, x0), (4, x1), (15, x2), (0, x3)], [], s) o := by
  unfold Lx_law_883 at H
  refine AT.blk (g := (0 ≤ (w32 (x3 + 1)) ∧ (w32 (x3 + 1)) < s (-2) 0) ∧ (0 ≤ (w32 (x3 + 2)) ∧ (w32 (x3 + 2)) < s (-2) 0)) [(883, .aload_n 1, 1, (0, 0, 0)), (884, .aload_n 0, 1, (0, 0, 0)), (885, .iload_n 3, 1, (0, 0, 0)), (886, .iconst 1, 1, (0, 0, 0)), (887, .iadd, 1, (0, 0, 0)), (888, .iaload, 1, (0, 0, 0)), (889, .aload_n 0, 1, (0, 0, 0)), (890, .iload_n 3, 1, (0, 0, 0)), (891, .iconst 2, 1, (0, 0, 0)), (892, .iadd, 1, (0, 0, 0)), (893, .iaload, 1, (0, 0, 0))] (by decide +kernel) (show jrun _ (883, [(3, x0), (4, x1), (15, x2), (0, x3)], [], s) = some ([(0 ≤ (w32 (x3 + 1)) ∧ (w32 (x3 + 1)) < s (-2) 0), (0 ≤ (w32 (x3 + 2)) ∧ (w32 (x3 + 2)) < s (-2) 0)], (894, [(3, x0), (4, x1), (15, x2), (0, x3)], [(0, (s (-1) (w32 (x3 + 2)))), (0, (s (-1) (w32 (x3 + 1)))), (4, x1)], s)) from rfl) (fun h => ⟨h.1, h.2⟩) H (fun H => ?_)
  obtain ⟨v55, s55, h55, H⟩ := jb_some H
  refine AT.callW (As := [(0, (s (-1) (w32 (x3 + 1)))), (0, (s (-1) (w32 (x3 + 2))))]) (cl := 0) (b := x1) (st := []) (i := 105) (pos := 4108) kJc_carry (by decide +kernel) rfl (by decide +kernel) rfl rfl (by omega) (Jc_carry_ok h55) (fun hS => ?_)
  have H := jsm_y hS H
  show AT sLw_law 32 (897, [(3, x0), (4, x1), (15, x2), (0, x3)], [(0, v55)], s55) o
  refine AT.blk (g := (0 ≤ (w32 (x3 + 1)) ∧ (w32 (x3 + 1)) < s55 (-2) 0) ∧ (0 ≤ (w32 (x3 + 2)) ∧ (w32 (x3 + 2)) < s55 (-2) 0)) [(897, .aload_n 2, 1, (0, 0, 0)), (898, .aload_n 0, 1, (0, 0, 0)), (899, .iload_n 3, 1, (0, 0, 0)), (900, .iconst 1, 1, (0, 0, 0)), (901, .iadd, 1, (0, 0, 0)), (902, .iaload, 1, (0, 0, 0)), (903, .aload_n 0, 1, (0, 0, 0)), (904, .iload_n 3, 1, (0, 0, 0)), (905, .iconst 2, 1, (0, 0, 0)), (906, .iadd, 1, (0, 0, 0)), (907, .iaload, 1, (0, 0, 0))] (by decide +kernel) (show jrun _ (897, [(3, x0), (4, x1), (15, x2), (0, x3)], [(0, v55)], s55) = some ([(0 ≤ (w32 (x3 + 1)) ∧ (w32 (x3 + 1)) < s55 (-2) 0), (0 ≤ (w32 (x3 + 2)) ∧ (w32 (x3 + 2)) < s55 (-2) 0)], (908, [(3, x0), (4, x1), (15, x2), (0, x3)], [(0, (s55 (-1) (w32 (x3 + 2)))), (0, (s55 (-1) (w32 (x3 + 1)))), (15, x2), (0, v55)], s55)) from rfl) (fun h => ⟨h.1, h.2⟩) H (fun H => ?_)
  obtain ⟨v56, s56, h56, H⟩ := jb_some H
  refine AT.callV (As := [(0, (s55 (-1) (w32 (x3 + 1)))), (0, (s55 (-1) (w32 (x3 + 2))))]) (cl := 11) (b := x2) (st := [(0, v55)]) (i := 108) (pos := 7213) kMd_carry (by decide +kernel) rfl (by decide +kernel) rfl rfl (by omega) (Md_carry_ok h56) ?_
  show AT sLw_law 32 (911, [(3, x0), (4, x1), (15, x2), (0, x3)], [(0, v56), (0, v55)], s56) o
  refine AT.ite (x := (0, 0, 0)) (by decide +kernel) (show jbr (.if_icmp .eq 816) (911, [(3, x0), (4, x1), (15, x2), (0, x3)], [(0, v56), (0, v55)], s56) = some ((w32 v55) = (w32 v56), (1727, [(3, x0), (4, x1), (15, x2), (0, x3)], [], s56), (914, [(3, x0), (4, x1), (15, x2), (0, x3)], [], s56)) from rfl) H (fun H => ?_) (fun H => ?_)
  · exact Lx_law_1727_ok hk18 H
  · refine AT.seq [(914, .iconst 0, 1, (0, 0, 0))] (by decide +kernel) (show jrun _ (914, [(3, x0), (4, x1), (15, x2), (0, x3)], [], s56) = some ([], (915, [(3, x0), (4, x1), (15, x2), (0, x3)], [(0, 0)], s56)) from rfl) ?_
    exact AT.retzC (by decide +kernel) (by decide) H
set_option maxHeartbeats 4000000 in
set_option maxRecDepth 100000 in
theorem Lx_law_860_ok {o : Int × jM} {k18 : Int → Int → Int → Int → jM → Option (Int × jM)} (hk18 : ∀ (x0 x1 x2 x3 : Int) (s : jM), k18 x0 x1 x2 x3 s = some o → AT sLw_law 32 (18, [(3, x0), (4, x1), (15, x2), (0, x3)], [], s) o) {x0 x1 x2 x3 : Int} {s : jM} (H : Lx_law_860 k18 x0 x1 x2 x3 s = some o) : AT sLw_law 32 (860, [(3, x0), (4, x1), (15, x2), (0, x3)], [], s) o := by
  unfold Lx_law_860 at H
  refine AT.blk (g := (0 ≤ (w32 (x3 + 1)) ∧ (w32 (x3 + 1)) < s (-2) 0)) [(860, .aload_n 1, 1, (0, 0, 0)), (861, .aload_n 0, 1, (0, 0, 0)), (862, .iload_n 3, 1, (0, 0, 0)), (863, .iconst 1, 1, (0, 0, 0)), (864, .iadd, 1, (0, 0, 0)), (865, .iaload, 1, (0, 0, 0))] (by decide +kernel) (show jrun _ (860, [(3, x0), (4, x1), (15, x2), (0, x3)], [], s) = some ([(0 ≤ (w32 (x3 + 1)) ∧ (w32 (x3 + 1)) < s (-2) 0)], (866, [(3, x0), (4, x1), (15, x2), (0, x3)], [(0, (s (-1) (w32 (x3 + 1)))), (4, x1)], s)) from rfl) (fun h => h) H (fun H => ?_)
  obtain ⟨v57, s57, h57, H⟩ := jb_some H
  refine AT.callW (As := [(0, (s (-1) (w32 (x3 + 1))))]) (cl := 0) (b := x1) (st := []) (i := 101) (pos := 4100) kJc_touch (by decide +kernel) rfl (by decide +kernel) rfl rfl (by omega) (Jc_touch_ok h57) (fun hS => ?_)
  have H := jsm_y hS H
  show AT sLw_law 32 (869, [(3, x0), (4, x1), (15, x2), (0, x3)], [(0, v57)], s57) o
  refine AT.blk (g := (0 ≤ (w32 (x3 + 1)) ∧ (w32 (x3 + 1)) < s57 (-2) 0)) [(869, .aload_n 2, 1, (0, 0, 0)), (870, .aload_n 0, 1, (0, 0, 0)), (871, .iload_n 3, 1, (0, 0, 0)), (872, .iconst 1, 1, (0, 0, 0)), (873, .iadd, 1, (0, 0, 0)), (874, .iaload, 1, (0, 0, 0))] (by decide +kernel) (show jrun _ (869, [(3, x0), (4, x1), (15, x2), (0, x3)], [(0, v57)], s57) = some ([(0 ≤ (w32 (x3 + 1)) ∧ (w32 (x3 + 1)) < s57 (-2) 0)], (875, [(3, x0), (4, x1), (15, x2), (0, x3)], [(0, (s57 (-1) (w32 (x3 + 1)))), (15, x2), (0, v57)], s57)) from rfl) (fun h => h) H (fun H => ?_)
  obtain ⟨v58, s58, h58, H⟩ := jb_some H
  refine AT.callV (As := [(0, (s57 (-1) (w32 (x3 + 1))))]) (cl := 11) (b := x2) (st := [(0, v57)]) (i := 104) (pos := 7205) kMd_touch (by decide +kernel) rfl (by decide +kernel) rfl rfl (by omega) (Md_touch_ok h58) ?_
  show AT sLw_law 32 (878, [(3, x0), (4, x1), (15, x2), (0, x3)], [(0, v58), (0, v57)], s58) o
  refine AT.ite (x := (0, 0, 0)) (by decide +kernel) (show jbr (.if_icmp .eq 849) (878, [(3, x0), (4, x1), (15, x2), (0, x3)], [(0, v58), (0, v57)], s58) = some ((w32 v57) = (w32 v58), (1727, [(3, x0), (4, x1), (15, x2), (0, x3)], [], s58), (881, [(3, x0), (4, x1), (15, x2), (0, x3)], [], s58)) from rfl) H (fun H => ?_) (fun H => ?_)
  · exact Lx_law_1727_ok hk18 H
  · refine AT.seq [(881, .iconst 0, 1, (0, 0, 0))] (by decide +kernel) (show jrun _ (881, [(3, x0), (4, x1), (15, x2), (0, x3)], [], s58) = some ([], (882, [(3, x0), (4, x1), (15, x2), (0, x3)], [(0, 0)], s58)) from rfl) ?_
    exact AT.retzC (by decide +kernel) (by decide) H
set_option maxHeartbeats 4000000 in
set_option maxRecDepth 100000 in
theorem Lx_law_837_ok {o : Int × jM} {k18 : Int → Int → Int → Int → jM → Option (Int × jM)} (hk18 : ∀ (x0 x1 x2 x3 : Int) (s : jM), k18 x0 x1 x2 x3 s = some o → AT sLw_law 32 (18, [(3, x0), (4, x1), (15, x2), (0, x3)], [], s) o) {x0 x1 x2 x3 : Int} {s : jM} (H : Lx_law_837 k18 x0 x1 x2 x3 s = some o) : AT sLw_law 32 (837, [(3, x0), (4, x1), (15, x2), (0, x3)], [], s) o := by
  unfold Lx_law_837 at H
  refine AT.blk (g := (0 ≤ (w32 (x3 + 1)) ∧ (w32 (x3 + 1)) < s (-2) 0)) [(837, .aload_n 1, 1, (0, 0, 0)), (838, .aload_n 0, 1, (0, 0, 0)), (839, .iload_n 3, 1, (0, 0, 0)), (840, .iconst 1, 1, (0, 0, 0)), (841, .iadd, 1, (0, 0, 0)), (842, .iaload, 1, (0, 0, 0))] (by decide +kernel) (show jrun _ (837, [(3, x0), (4, x1), (15, x2), (0, x3)], [], s) = some ([(0 ≤ (w32 (x3 + 1)) ∧ (w32 (x3 + 1)) < s (-2) 0)], (843, [(3, x0), (4, x1), (15, x2), (0, x3)], [(0, (s (-1) (w32 (x3 + 1)))), (4, x1)], s)) from rfl) (fun h => h) H (fun H => ?_)
  obtain ⟨v59, s59, h59, H⟩ := jb_some H
  refine AT.callW (As := [(0, (s (-1) (w32 (x3 + 1))))]) (cl := 0) (b := x1) (st := []) (i := 97) (pos := 4083) kJc_knock (by decide +kernel) rfl (by decide +kernel) rfl rfl (by omega) (Jc_knock_ok h59) (fun hS => ?_)
  have H := jsm_y hS H
  show AT sLw_law 32 (846, [(3, x0), (4, x1), (15, x2), (0, x3)], [(0, v59)], s59) o
  refine AT.blk (g := (0 ≤ (w32 (x3 + 1)) ∧ (w32 (x3 + 1)) < s59 (-2) 0)) [(846, .aload_n 2, 1, (0, 0, 0)), (847, .aload_n 0, 1, (0, 0, 0)), (848, .iload_n 3, 1, (0, 0, 0)), (849, .iconst 1, 1, (0, 0, 0)), (850, .iadd, 1, (0, 0, 0)), (851, .iaload, 1, (0, 0, 0))] (by decide +kernel) (show jrun _ (846, [(3, x0), (4, x1), (15, x2), (0, x3)], [(0, v59)], s59) = some ([(0 ≤ (w32 (x3 + 1)) ∧ (w32 (x3 + 1)) < s59 (-2) 0)], (852, [(3, x0), (4, x1), (15, x2), (0, x3)], [(0, (s59 (-1) (w32 (x3 + 1)))), (15, x2), (0, v59)], s59)) from rfl) (fun h => h) H (fun H => ?_)
  obtain ⟨v60, s60, h60, H⟩ := jb_some H
  refine AT.callV (As := [(0, (s59 (-1) (w32 (x3 + 1))))]) (cl := 11) (b := x2) (st := [(0, v59)]) (i := 100) (pos := 7189) kMd_knock (by decide +kernel) rfl (by decide +kernel) rfl rfl (by omega) (Md_knock_ok h60) ?_
  show AT sLw_law 32 (855, [(3, x0), (4, x1), (15, x2), (0, x3)], [(0, v60), (0, v59)], s60) o
  refine AT.ite (x := (0, 0, 0)) (by decide +kernel) (show jbr (.if_icmp .eq 872) (855, [(3, x0), (4, x1), (15, x2), (0, x3)], [(0, v60), (0, v59)], s60) = some ((w32 v59) = (w32 v60), (1727, [(3, x0), (4, x1), (15, x2), (0, x3)], [], s60), (858, [(3, x0), (4, x1), (15, x2), (0, x3)], [], s60)) from rfl) H (fun H => ?_) (fun H => ?_)
  · exact Lx_law_1727_ok hk18 H
  · refine AT.seq [(858, .iconst 0, 1, (0, 0, 0))] (by decide +kernel) (show jrun _ (858, [(3, x0), (4, x1), (15, x2), (0, x3)], [], s60) = some ([], (859, [(3, x0), (4, x1), (15, x2), (0, x3)], [(0, 0)], s60)) from rfl) ?_
    exact AT.retzC (by decide +kernel) (by decide) H
set_option maxHeartbeats 4000000 in
set_option maxRecDepth 100000 in
theorem Lx_law_814_ok {o : Int × jM} {k18 : Int → Int → Int → Int → jM → Option (Int × jM)} (hk18 : ∀ (x0 x1 x2 x3 : Int) (s : jM), k18 x0 x1 x2 x3 s = some o → AT sLw_law 32 (18, [(3, x0), (4, x1), (15, x2), (0, x3)], [], s) o) {x0 x1 x2 x3 : Int} {s : jM} (H : Lx_law_814 k18 x0 x1 x2 x3 s = some o) : AT sLw_law 32 (814, [(3, x0), (4, x1), (15, x2), (0, x3)], [], s) o := by
  unfold Lx_law_814 at H
  refine AT.blk (g := (0 ≤ (w32 (x3 + 1)) ∧ (w32 (x3 + 1)) < s (-2) 0)) [(814, .aload_n 1, 1, (0, 0, 0)), (815, .aload_n 0, 1, (0, 0, 0)), (816, .iload_n 3, 1, (0, 0, 0)), (817, .iconst 1, 1, (0, 0, 0)), (818, .iadd, 1, (0, 0, 0)), (819, .iaload, 1, (0, 0, 0))] (by decide +kernel) (show jrun _ (814, [(3, x0), (4, x1), (15, x2), (0, x3)], [], s) = some ([(0 ≤ (w32 (x3 + 1)) ∧ (w32 (x3 + 1)) < s (-2) 0)], (820, [(3, x0), (4, x1), (15, x2), (0, x3)], [(0, (s (-1) (w32 (x3 + 1)))), (4, x1)], s)) from rfl) (fun h => h) H (fun H => ?_)
  obtain ⟨v61, s61, h61, H⟩ := jb_some H
  refine AT.callW (As := [(0, (s (-1) (w32 (x3 + 1))))]) (cl := 0) (b := x1) (st := []) (i := 93) (pos := 4074) kJc_empty (by decide +kernel) rfl (by decide +kernel) rfl rfl (by omega) (Jc_empty_ok h61) (fun hS => ?_)
  have H := jsm_y hS H
  show AT sLw_law 32 (823, [(3, x0), (4, x1), (15, x2), (0, x3)], [(0, v61)], s61) o
  refine AT.blk (g := (0 ≤ (w32 (x3 + 1)) ∧ (w32 (x3 + 1)) < s61 (-2) 0)) [(823, .aload_n 2, 1, (0, 0, 0)), (824, .aload_n 0, 1, (0, 0, 0)), (825, .iload_n 3, 1, (0, 0, 0)), (826, .iconst 1, 1, (0, 0, 0)), (827, .iadd, 1, (0, 0, 0)), (828, .iaload, 1, (0, 0, 0))] (by decide +kernel) (show jrun _ (823, [(3, x0), (4, x1), (15, x2), (0, x3)], [(0, v61)], s61) = some ([(0 ≤ (w32 (x3 + 1)) ∧ (w32 (x3 + 1)) < s61 (-2) 0)], (829, [(3, x0), (4, x1), (15, x2), (0, x3)], [(0, (s61 (-1) (w32 (x3 + 1)))), (15, x2), (0, v61)], s61)) from rfl) (fun h => h) H (fun H => ?_)
  obtain ⟨v62, s62, h62, H⟩ := jb_some H
  refine AT.callV (As := [(0, (s61 (-1) (w32 (x3 + 1))))]) (cl := 11) (b := x2) (st := [(0, v61)]) (i := 96) (pos := 7177) kMd_empty (by decide +kernel) rfl (by decide +kernel) rfl rfl (by omega) (Md_empty_ok h62) ?_
  show AT sLw_law 32 (832, [(3, x0), (4, x1), (15, x2), (0, x3)], [(0, v62), (0, v61)], s62) o
  refine AT.ite (x := (0, 0, 0)) (by decide +kernel) (show jbr (.if_icmp .eq 895) (832, [(3, x0), (4, x1), (15, x2), (0, x3)], [(0, v62), (0, v61)], s62) = some ((w32 v61) = (w32 v62), (1727, [(3, x0), (4, x1), (15, x2), (0, x3)], [], s62), (835, [(3, x0), (4, x1), (15, x2), (0, x3)], [], s62)) from rfl) H (fun H => ?_) (fun H => ?_)
  · exact Lx_law_1727_ok hk18 H
  · refine AT.seq [(835, .iconst 0, 1, (0, 0, 0))] (by decide +kernel) (show jrun _ (835, [(3, x0), (4, x1), (15, x2), (0, x3)], [], s62) = some ([], (836, [(3, x0), (4, x1), (15, x2), (0, x3)], [(0, 0)], s62)) from rfl) ?_
    exact AT.retzC (by decide +kernel) (by decide) H
set_option maxHeartbeats 4000000 in
set_option maxRecDepth 100000 in
theorem Lx_law_771_ok {o : Int × jM} {k18 : Int → Int → Int → Int → jM → Option (Int × jM)} (hk18 : ∀ (x0 x1 x2 x3 : Int) (s : jM), k18 x0 x1 x2 x3 s = some o → AT sLw_law 32 (18, [(3, x0), (4, x1), (15, x2), (0, x3)], [], s) o) {x0 x1 x2 x3 : Int} {s : jM} (H : Lx_law_771 k18 x0 x1 x2 x3 s = some o) : AT sLw_law 32 (771, [(3, x0), (4, x1), (15, x2), (0, x3)], [], s) o := by
  unfold Lx_law_771 at H
  refine AT.blk (g := (0 ≤ (w32 (x3 + 1)) ∧ (w32 (x3 + 1)) < s (-2) 0) ∧ (0 ≤ (w32 (x3 + 2)) ∧ (w32 (x3 + 2)) < s (-2) 0) ∧ (0 ≤ (w32 (x3 + 3)) ∧ (w32 (x3 + 3)) < s (-2) 0)) [(771, .aload_n 1, 1, (0, 0, 0)), (772, .aload_n 0, 1, (0, 0, 0)), (773, .iload_n 3, 1, (0, 0, 0)), (774, .iconst 1, 1, (0, 0, 0)), (775, .iadd, 1, (0, 0, 0)), (776, .iaload, 1, (0, 0, 0)), (777, .aload_n 0, 1, (0, 0, 0)), (778, .iload_n 3, 1, (0, 0, 0)), (779, .iconst 2, 1, (0, 0, 0)), (780, .iadd, 1, (0, 0, 0)), (781, .iaload, 1, (0, 0, 0)), (782, .aload_n 0, 1, (0, 0, 0)), (783, .iload_n 3, 1, (0, 0, 0)), (784, .iconst 3, 1, (0, 0, 0)), (785, .iadd, 1, (0, 0, 0)), (786, .iaload, 1, (0, 0, 0))] (by decide +kernel) (show jrun _ (771, [(3, x0), (4, x1), (15, x2), (0, x3)], [], s) = some ([(0 ≤ (w32 (x3 + 1)) ∧ (w32 (x3 + 1)) < s (-2) 0), (0 ≤ (w32 (x3 + 2)) ∧ (w32 (x3 + 2)) < s (-2) 0), (0 ≤ (w32 (x3 + 3)) ∧ (w32 (x3 + 3)) < s (-2) 0)], (787, [(3, x0), (4, x1), (15, x2), (0, x3)], [(0, (s (-1) (w32 (x3 + 3)))), (0, (s (-1) (w32 (x3 + 2)))), (0, (s (-1) (w32 (x3 + 1)))), (4, x1)], s)) from rfl) (fun h => ⟨h.1, h.2.1, h.2.2⟩) H (fun H => ?_)
  obtain ⟨v63, s63, h63, H⟩ := jb_some H
  refine AT.callW (As := [(0, (s (-1) (w32 (x3 + 1)))), (0, (s (-1) (w32 (x3 + 2)))), (0, (s (-1) (w32 (x3 + 3))))]) (cl := 0) (b := x1) (st := []) (i := 88) (pos := 4062) kJc_pour (by decide +kernel) rfl (by decide +kernel) rfl rfl (by omega) (Jc_pour_ok h63) (fun hS => ?_)
  have H := jsm_y hS H
  show AT sLw_law 32 (790, [(3, x0), (4, x1), (15, x2), (0, x3)], [(0, v63)], s63) o
  refine AT.blk (g := (0 ≤ (w32 (x3 + 1)) ∧ (w32 (x3 + 1)) < s63 (-2) 0) ∧ (0 ≤ (w32 (x3 + 2)) ∧ (w32 (x3 + 2)) < s63 (-2) 0) ∧ (0 ≤ (w32 (x3 + 3)) ∧ (w32 (x3 + 3)) < s63 (-2) 0)) [(790, .aload_n 2, 1, (0, 0, 0)), (791, .aload_n 0, 1, (0, 0, 0)), (792, .iload_n 3, 1, (0, 0, 0)), (793, .iconst 1, 1, (0, 0, 0)), (794, .iadd, 1, (0, 0, 0)), (795, .iaload, 1, (0, 0, 0)), (796, .aload_n 0, 1, (0, 0, 0)), (797, .iload_n 3, 1, (0, 0, 0)), (798, .iconst 2, 1, (0, 0, 0)), (799, .iadd, 1, (0, 0, 0)), (800, .iaload, 1, (0, 0, 0)), (801, .aload_n 0, 1, (0, 0, 0)), (802, .iload_n 3, 1, (0, 0, 0)), (803, .iconst 3, 1, (0, 0, 0)), (804, .iadd, 1, (0, 0, 0)), (805, .iaload, 1, (0, 0, 0))] (by decide +kernel) (show jrun _ (790, [(3, x0), (4, x1), (15, x2), (0, x3)], [(0, v63)], s63) = some ([(0 ≤ (w32 (x3 + 1)) ∧ (w32 (x3 + 1)) < s63 (-2) 0), (0 ≤ (w32 (x3 + 2)) ∧ (w32 (x3 + 2)) < s63 (-2) 0), (0 ≤ (w32 (x3 + 3)) ∧ (w32 (x3 + 3)) < s63 (-2) 0)], (806, [(3, x0), (4, x1), (15, x2), (0, x3)], [(0, (s63 (-1) (w32 (x3 + 3)))), (0, (s63 (-1) (w32 (x3 + 2)))), (0, (s63 (-1) (w32 (x3 + 1)))), (15, x2), (0, v63)], s63)) from rfl) (fun h => ⟨h.1, h.2.1, h.2.2⟩) H (fun H => ?_)
  obtain ⟨v64, s64, h64, H⟩ := jb_some H
  refine AT.callV (As := [(0, (s63 (-1) (w32 (x3 + 1)))), (0, (s63 (-1) (w32 (x3 + 2)))), (0, (s63 (-1) (w32 (x3 + 3))))]) (cl := 11) (b := x2) (st := [(0, v63)]) (i := 92) (pos := 7168) kMd_pour (by decide +kernel) rfl (by decide +kernel) rfl rfl (by omega) (Md_pour_ok h64) ?_
  show AT sLw_law 32 (809, [(3, x0), (4, x1), (15, x2), (0, x3)], [(0, v64), (0, v63)], s64) o
  refine AT.ite (x := (0, 0, 0)) (by decide +kernel) (show jbr (.if_icmp .eq 918) (809, [(3, x0), (4, x1), (15, x2), (0, x3)], [(0, v64), (0, v63)], s64) = some ((w32 v63) = (w32 v64), (1727, [(3, x0), (4, x1), (15, x2), (0, x3)], [], s64), (812, [(3, x0), (4, x1), (15, x2), (0, x3)], [], s64)) from rfl) H (fun H => ?_) (fun H => ?_)
  · exact Lx_law_1727_ok hk18 H
  · refine AT.seq [(812, .iconst 0, 1, (0, 0, 0))] (by decide +kernel) (show jrun _ (812, [(3, x0), (4, x1), (15, x2), (0, x3)], [], s64) = some ([], (813, [(3, x0), (4, x1), (15, x2), (0, x3)], [(0, 0)], s64)) from rfl) ?_
    exact AT.retzC (by decide +kernel) (by decide) H
set_option maxHeartbeats 4000000 in
set_option maxRecDepth 100000 in
theorem Lx_law_748_ok {o : Int × jM} {k18 : Int → Int → Int → Int → jM → Option (Int × jM)} (hk18 : ∀ (x0 x1 x2 x3 : Int) (s : jM), k18 x0 x1 x2 x3 s = some o → AT sLw_law 32 (18, [(3, x0), (4, x1), (15, x2), (0, x3)], [], s) o) {x0 x1 x2 x3 : Int} {s : jM} (H : Lx_law_748 k18 x0 x1 x2 x3 s = some o) : AT sLw_law 32 (748, [(3, x0), (4, x1), (15, x2), (0, x3)], [], s) o := by
  unfold Lx_law_748 at H
  refine AT.blk (g := (0 ≤ (w32 (x3 + 1)) ∧ (w32 (x3 + 1)) < s (-2) 0)) [(748, .aload_n 1, 1, (0, 0, 0)), (749, .aload_n 0, 1, (0, 0, 0)), (750, .iload_n 3, 1, (0, 0, 0)), (751, .iconst 1, 1, (0, 0, 0)), (752, .iadd, 1, (0, 0, 0)), (753, .iaload, 1, (0, 0, 0))] (by decide +kernel) (show jrun _ (748, [(3, x0), (4, x1), (15, x2), (0, x3)], [], s) = some ([(0 ≤ (w32 (x3 + 1)) ∧ (w32 (x3 + 1)) < s (-2) 0)], (754, [(3, x0), (4, x1), (15, x2), (0, x3)], [(0, (s (-1) (w32 (x3 + 1)))), (4, x1)], s)) from rfl) (fun h => h) H (fun H => ?_)
  obtain ⟨v65, s65, h65, H⟩ := jb_some H
  refine AT.callW (As := [(0, (s (-1) (w32 (x3 + 1))))]) (cl := 0) (b := x1) (st := []) (i := 84) (pos := 4058) kJc_copyFirm (by decide +kernel) rfl (by decide +kernel) rfl rfl (by omega) (Jc_copyFirm_ok h65) (fun hS => ?_)
  have H := jsm_y hS H
  show AT sLw_law 32 (757, [(3, x0), (4, x1), (15, x2), (0, x3)], [(0, v65)], s65) o
  refine AT.blk (g := (0 ≤ (w32 (x3 + 1)) ∧ (w32 (x3 + 1)) < s65 (-2) 0)) [(757, .aload_n 2, 1, (0, 0, 0)), (758, .aload_n 0, 1, (0, 0, 0)), (759, .iload_n 3, 1, (0, 0, 0)), (760, .iconst 1, 1, (0, 0, 0)), (761, .iadd, 1, (0, 0, 0)), (762, .iaload, 1, (0, 0, 0))] (by decide +kernel) (show jrun _ (757, [(3, x0), (4, x1), (15, x2), (0, x3)], [(0, v65)], s65) = some ([(0 ≤ (w32 (x3 + 1)) ∧ (w32 (x3 + 1)) < s65 (-2) 0)], (763, [(3, x0), (4, x1), (15, x2), (0, x3)], [(0, (s65 (-1) (w32 (x3 + 1)))), (15, x2), (0, v65)], s65)) from rfl) (fun h => h) H (fun H => ?_)
  obtain ⟨v66, s66, h66, H⟩ := jb_some H
  refine AT.callV (As := [(0, (s65 (-1) (w32 (x3 + 1))))]) (cl := 11) (b := x2) (st := [(0, v65)]) (i := 87) (pos := 7158) kMd_copyFirm (by decide +kernel) rfl (by decide +kernel) rfl rfl (by omega) (Md_copyFirm_ok h66) ?_
  show AT sLw_law 32 (766, [(3, x0), (4, x1), (15, x2), (0, x3)], [(0, v66), (0, v65)], s66) o
  refine AT.ite (x := (0, 0, 0)) (by decide +kernel) (show jbr (.if_icmp .eq 961) (766, [(3, x0), (4, x1), (15, x2), (0, x3)], [(0, v66), (0, v65)], s66) = some ((w32 v65) = (w32 v66), (1727, [(3, x0), (4, x1), (15, x2), (0, x3)], [], s66), (769, [(3, x0), (4, x1), (15, x2), (0, x3)], [], s66)) from rfl) H (fun H => ?_) (fun H => ?_)
  · exact Lx_law_1727_ok hk18 H
  · refine AT.seq [(769, .iconst 0, 1, (0, 0, 0))] (by decide +kernel) (show jrun _ (769, [(3, x0), (4, x1), (15, x2), (0, x3)], [], s66) = some ([], (770, [(3, x0), (4, x1), (15, x2), (0, x3)], [(0, 0)], s66)) from rfl) ?_
    exact AT.retzC (by decide +kernel) (by decide) H
set_option maxHeartbeats 4000000 in
set_option maxRecDepth 100000 in
theorem Lx_law_715_ok {o : Int × jM} {k18 : Int → Int → Int → Int → jM → Option (Int × jM)} (hk18 : ∀ (x0 x1 x2 x3 : Int) (s : jM), k18 x0 x1 x2 x3 s = some o → AT sLw_law 32 (18, [(3, x0), (4, x1), (15, x2), (0, x3)], [], s) o) {x0 x1 x2 x3 : Int} {s : jM} (H : Lx_law_715 k18 x0 x1 x2 x3 s = some o) : AT sLw_law 32 (715, [(3, x0), (4, x1), (15, x2), (0, x3)], [], s) o := by
  unfold Lx_law_715 at H
  refine AT.blk (g := (0 ≤ (w32 (x3 + 1)) ∧ (w32 (x3 + 1)) < s (-2) 0) ∧ (0 ≤ (w32 (x3 + 2)) ∧ (w32 (x3 + 2)) < s (-2) 0)) [(715, .aload_n 1, 1, (0, 0, 0)), (716, .aload_n 0, 1, (0, 0, 0)), (717, .iload_n 3, 1, (0, 0, 0)), (718, .iconst 1, 1, (0, 0, 0)), (719, .iadd, 1, (0, 0, 0)), (720, .iaload, 1, (0, 0, 0)), (721, .aload_n 0, 1, (0, 0, 0)), (722, .iload_n 3, 1, (0, 0, 0)), (723, .iconst 2, 1, (0, 0, 0)), (724, .iadd, 1, (0, 0, 0)), (725, .iaload, 1, (0, 0, 0))] (by decide +kernel) (show jrun _ (715, [(3, x0), (4, x1), (15, x2), (0, x3)], [], s) = some ([(0 ≤ (w32 (x3 + 1)) ∧ (w32 (x3 + 1)) < s (-2) 0), (0 ≤ (w32 (x3 + 2)) ∧ (w32 (x3 + 2)) < s (-2) 0)], (726, [(3, x0), (4, x1), (15, x2), (0, x3)], [(0, (s (-1) (w32 (x3 + 2)))), (0, (s (-1) (w32 (x3 + 1)))), (4, x1)], s)) from rfl) (fun h => ⟨h.1, h.2⟩) H (fun H => ?_)
  obtain ⟨v67, s67, h67, H⟩ := jb_some H
  refine AT.callW (As := [(0, (s (-1) (w32 (x3 + 1)))), (0, (s (-1) (w32 (x3 + 2))))]) (cl := 0) (b := x1) (st := []) (i := 80) (pos := 4054) kJc_part (by decide +kernel) rfl (by decide +kernel) rfl rfl (by omega) (Jc_part_ok h67) (fun hS => ?_)
  have H := jsm_y hS H
  show AT sLw_law 32 (729, [(3, x0), (4, x1), (15, x2), (0, x3)], [(0, v67)], s67) o
  refine AT.blk (g := (0 ≤ (w32 (x3 + 1)) ∧ (w32 (x3 + 1)) < s67 (-2) 0) ∧ (0 ≤ (w32 (x3 + 2)) ∧ (w32 (x3 + 2)) < s67 (-2) 0)) [(729, .aload_n 2, 1, (0, 0, 0)), (730, .aload_n 0, 1, (0, 0, 0)), (731, .iload_n 3, 1, (0, 0, 0)), (732, .iconst 1, 1, (0, 0, 0)), (733, .iadd, 1, (0, 0, 0)), (734, .iaload, 1, (0, 0, 0)), (735, .aload_n 0, 1, (0, 0, 0)), (736, .iload_n 3, 1, (0, 0, 0)), (737, .iconst 2, 1, (0, 0, 0)), (738, .iadd, 1, (0, 0, 0)), (739, .iaload, 1, (0, 0, 0))] (by decide +kernel) (show jrun _ (729, [(3, x0), (4, x1), (15, x2), (0, x3)], [(0, v67)], s67) = some ([(0 ≤ (w32 (x3 + 1)) ∧ (w32 (x3 + 1)) < s67 (-2) 0), (0 ≤ (w32 (x3 + 2)) ∧ (w32 (x3 + 2)) < s67 (-2) 0)], (740, [(3, x0), (4, x1), (15, x2), (0, x3)], [(0, (s67 (-1) (w32 (x3 + 2)))), (0, (s67 (-1) (w32 (x3 + 1)))), (15, x2), (0, v67)], s67)) from rfl) (fun h => ⟨h.1, h.2⟩) H (fun H => ?_)
  obtain ⟨v68, s68, h68, H⟩ := jb_some H
  refine AT.callV (As := [(0, (s67 (-1) (w32 (x3 + 1)))), (0, (s67 (-1) (w32 (x3 + 2))))]) (cl := 11) (b := x2) (st := [(0, v67)]) (i := 83) (pos := 7154) kMd_part (by decide +kernel) rfl (by decide +kernel) rfl rfl (by omega) (Md_part_ok h68) ?_
  show AT sLw_law 32 (743, [(3, x0), (4, x1), (15, x2), (0, x3)], [(0, v68), (0, v67)], s68) o
  refine AT.ite (x := (0, 0, 0)) (by decide +kernel) (show jbr (.if_icmp .eq 984) (743, [(3, x0), (4, x1), (15, x2), (0, x3)], [(0, v68), (0, v67)], s68) = some ((w32 v67) = (w32 v68), (1727, [(3, x0), (4, x1), (15, x2), (0, x3)], [], s68), (746, [(3, x0), (4, x1), (15, x2), (0, x3)], [], s68)) from rfl) H (fun H => ?_) (fun H => ?_)
  · exact Lx_law_1727_ok hk18 H
  · refine AT.seq [(746, .iconst 0, 1, (0, 0, 0))] (by decide +kernel) (show jrun _ (746, [(3, x0), (4, x1), (15, x2), (0, x3)], [], s68) = some ([], (747, [(3, x0), (4, x1), (15, x2), (0, x3)], [(0, 0)], s68)) from rfl) ?_
    exact AT.retzC (by decide +kernel) (by decide) H
set_option maxHeartbeats 4000000 in
set_option maxRecDepth 100000 in
theorem Lx_law_682_ok {o : Int × jM} {k18 : Int → Int → Int → Int → jM → Option (Int × jM)} (hk18 : ∀ (x0 x1 x2 x3 : Int) (s : jM), k18 x0 x1 x2 x3 s = some o → AT sLw_law 32 (18, [(3, x0), (4, x1), (15, x2), (0, x3)], [], s) o) {x0 x1 x2 x3 : Int} {s : jM} (H : Lx_law_682 k18 x0 x1 x2 x3 s = some o) : AT sLw_law 32 (682, [(3, x0), (4, x1), (15, x2), (0, x3)], [], s) o := by
  unfold Lx_law_682 at H
  refine AT.blk (g := (0 ≤ (w32 (x3 + 1)) ∧ (w32 (x3 + 1)) < s (-2) 0) ∧ (0 ≤ (w32 (x3 + 2)) ∧ (w32 (x3 + 2)) < s (-2) 0)) [(682, .aload_n 1, 1, (0, 0, 0)), (683, .aload_n 0, 1, (0, 0, 0)), (684, .iload_n 3, 1, (0, 0, 0)), (685, .iconst 1, 1, (0, 0, 0)), (686, .iadd, 1, (0, 0, 0)), (687, .iaload, 1, (0, 0, 0)), (688, .aload_n 0, 1, (0, 0, 0)), (689, .iload_n 3, 1, (0, 0, 0)), (690, .iconst 2, 1, (0, 0, 0)), (691, .iadd, 1, (0, 0, 0)), (692, .iaload, 1, (0, 0, 0))] (by decide +kernel) (show jrun _ (682, [(3, x0), (4, x1), (15, x2), (0, x3)], [], s) = some ([(0 ≤ (w32 (x3 + 1)) ∧ (w32 (x3 + 1)) < s (-2) 0), (0 ≤ (w32 (x3 + 2)) ∧ (w32 (x3 + 2)) < s (-2) 0)], (693, [(3, x0), (4, x1), (15, x2), (0, x3)], [(0, (s (-1) (w32 (x3 + 2)))), (0, (s (-1) (w32 (x3 + 1)))), (4, x1)], s)) from rfl) (fun h => ⟨h.1, h.2⟩) H (fun H => ?_)
  obtain ⟨v69, s69, h69, H⟩ := jb_some H
  refine AT.callW (As := [(0, (s (-1) (w32 (x3 + 1)))), (0, (s (-1) (w32 (x3 + 2))))]) (cl := 0) (b := x1) (st := []) (i := 76) (pos := 4046) kJc_mould (by decide +kernel) rfl (by decide +kernel) rfl rfl (by omega) (Jc_mould_ok h69) (fun hS => ?_)
  have H := jsm_y hS H
  show AT sLw_law 32 (696, [(3, x0), (4, x1), (15, x2), (0, x3)], [(0, v69)], s69) o
  refine AT.blk (g := (0 ≤ (w32 (x3 + 1)) ∧ (w32 (x3 + 1)) < s69 (-2) 0) ∧ (0 ≤ (w32 (x3 + 2)) ∧ (w32 (x3 + 2)) < s69 (-2) 0)) [(696, .aload_n 2, 1, (0, 0, 0)), (697, .aload_n 0, 1, (0, 0, 0)), (698, .iload_n 3, 1, (0, 0, 0)), (699, .iconst 1, 1, (0, 0, 0)), (700, .iadd, 1, (0, 0, 0)), (701, .iaload, 1, (0, 0, 0)), (702, .aload_n 0, 1, (0, 0, 0)), (703, .iload_n 3, 1, (0, 0, 0)), (704, .iconst 2, 1, (0, 0, 0)), (705, .iadd, 1, (0, 0, 0)), (706, .iaload, 1, (0, 0, 0))] (by decide +kernel) (show jrun _ (696, [(3, x0), (4, x1), (15, x2), (0, x3)], [(0, v69)], s69) = some ([(0 ≤ (w32 (x3 + 1)) ∧ (w32 (x3 + 1)) < s69 (-2) 0), (0 ≤ (w32 (x3 + 2)) ∧ (w32 (x3 + 2)) < s69 (-2) 0)], (707, [(3, x0), (4, x1), (15, x2), (0, x3)], [(0, (s69 (-1) (w32 (x3 + 2)))), (0, (s69 (-1) (w32 (x3 + 1)))), (15, x2), (0, v69)], s69)) from rfl) (fun h => ⟨h.1, h.2⟩) H (fun H => ?_)
  obtain ⟨v70, s70, h70, H⟩ := jb_some H
  refine AT.callV (As := [(0, (s69 (-1) (w32 (x3 + 1)))), (0, (s69 (-1) (w32 (x3 + 2))))]) (cl := 11) (b := x2) (st := [(0, v69)]) (i := 79) (pos := 7133) kMd_mould (by decide +kernel) rfl (by decide +kernel) rfl rfl (by omega) (Md_mould_ok h70) ?_
  show AT sLw_law 32 (710, [(3, x0), (4, x1), (15, x2), (0, x3)], [(0, v70), (0, v69)], s70) o
  refine AT.ite (x := (0, 0, 0)) (by decide +kernel) (show jbr (.if_icmp .eq 1017) (710, [(3, x0), (4, x1), (15, x2), (0, x3)], [(0, v70), (0, v69)], s70) = some ((w32 v69) = (w32 v70), (1727, [(3, x0), (4, x1), (15, x2), (0, x3)], [], s70), (713, [(3, x0), (4, x1), (15, x2), (0, x3)], [], s70)) from rfl) H (fun H => ?_) (fun H => ?_)
  · exact Lx_law_1727_ok hk18 H
  · refine AT.seq [(713, .iconst 0, 1, (0, 0, 0))] (by decide +kernel) (show jrun _ (713, [(3, x0), (4, x1), (15, x2), (0, x3)], [], s70) = some ([], (714, [(3, x0), (4, x1), (15, x2), (0, x3)], [(0, 0)], s70)) from rfl) ?_
    exact AT.retzC (by decide +kernel) (by decide) H
set_option maxHeartbeats 4000000 in
set_option maxRecDepth 100000 in
theorem Lx_law_649_ok {o : Int × jM} {k18 : Int → Int → Int → Int → jM → Option (Int × jM)} (hk18 : ∀ (x0 x1 x2 x3 : Int) (s : jM), k18 x0 x1 x2 x3 s = some o → AT sLw_law 32 (18, [(3, x0), (4, x1), (15, x2), (0, x3)], [], s) o) {x0 x1 x2 x3 : Int} {s : jM} (H : Lx_law_649 k18 x0 x1 x2 x3 s = some o) : AT sLw_law 32 (649, [(3, x0), (4, x1), (15, x2), (0, x3)], [], s) o := by
  unfold Lx_law_649 at H
  refine AT.blk (g := (0 ≤ (w32 (x3 + 1)) ∧ (w32 (x3 + 1)) < s (-2) 0) ∧ (0 ≤ (w32 (x3 + 2)) ∧ (w32 (x3 + 2)) < s (-2) 0)) [(649, .aload_n 1, 1, (0, 0, 0)), (650, .aload_n 0, 1, (0, 0, 0)), (651, .iload_n 3, 1, (0, 0, 0)), (652, .iconst 1, 1, (0, 0, 0)), (653, .iadd, 1, (0, 0, 0)), (654, .iaload, 1, (0, 0, 0)), (655, .aload_n 0, 1, (0, 0, 0)), (656, .iload_n 3, 1, (0, 0, 0)), (657, .iconst 2, 1, (0, 0, 0)), (658, .iadd, 1, (0, 0, 0)), (659, .iaload, 1, (0, 0, 0))] (by decide +kernel) (show jrun _ (649, [(3, x0), (4, x1), (15, x2), (0, x3)], [], s) = some ([(0 ≤ (w32 (x3 + 1)) ∧ (w32 (x3 + 1)) < s (-2) 0), (0 ≤ (w32 (x3 + 2)) ∧ (w32 (x3 + 2)) < s (-2) 0)], (660, [(3, x0), (4, x1), (15, x2), (0, x3)], [(0, (s (-1) (w32 (x3 + 2)))), (0, (s (-1) (w32 (x3 + 1)))), (4, x1)], s)) from rfl) (fun h => ⟨h.1, h.2⟩) H (fun H => ?_)
  obtain ⟨v71, s71, h71, H⟩ := jb_some H
  refine AT.callW (As := [(0, (s (-1) (w32 (x3 + 1)))), (0, (s (-1) (w32 (x3 + 2))))]) (cl := 0) (b := x1) (st := []) (i := 71) (pos := 4038) kJc_stuff (by decide +kernel) rfl (by decide +kernel) rfl rfl (by omega) (Jc_stuff_ok h71) (fun hS => ?_)
  have H := jsm_y hS H
  show AT sLw_law 32 (663, [(3, x0), (4, x1), (15, x2), (0, x3)], [(0, v71)], s71) o
  refine AT.blk (g := (0 ≤ (w32 (x3 + 1)) ∧ (w32 (x3 + 1)) < s71 (-2) 0) ∧ (0 ≤ (w32 (x3 + 2)) ∧ (w32 (x3 + 2)) < s71 (-2) 0)) [(663, .aload_n 2, 1, (0, 0, 0)), (664, .aload_n 0, 1, (0, 0, 0)), (665, .iload_n 3, 1, (0, 0, 0)), (666, .iconst 1, 1, (0, 0, 0)), (667, .iadd, 1, (0, 0, 0)), (668, .iaload, 1, (0, 0, 0)), (669, .aload_n 0, 1, (0, 0, 0)), (670, .iload_n 3, 1, (0, 0, 0)), (671, .iconst 2, 1, (0, 0, 0)), (672, .iadd, 1, (0, 0, 0)), (673, .iaload, 1, (0, 0, 0))] (by decide +kernel) (show jrun _ (663, [(3, x0), (4, x1), (15, x2), (0, x3)], [(0, v71)], s71) = some ([(0 ≤ (w32 (x3 + 1)) ∧ (w32 (x3 + 1)) < s71 (-2) 0), (0 ≤ (w32 (x3 + 2)) ∧ (w32 (x3 + 2)) < s71 (-2) 0)], (674, [(3, x0), (4, x1), (15, x2), (0, x3)], [(0, (s71 (-1) (w32 (x3 + 2)))), (0, (s71 (-1) (w32 (x3 + 1)))), (15, x2), (0, v71)], s71)) from rfl) (fun h => ⟨h.1, h.2⟩) H (fun H => ?_)
  obtain ⟨v72, s72, h72, H⟩ := jb_some H
  refine AT.callV (As := [(0, (s71 (-1) (w32 (x3 + 1)))), (0, (s71 (-1) (w32 (x3 + 2))))]) (cl := 11) (b := x2) (st := [(0, v71)]) (i := 75) (pos := 7124) kMd_stuff (by decide +kernel) rfl (by decide +kernel) rfl rfl (by omega) (Md_stuff_ok h72) ?_
  show AT sLw_law 32 (677, [(3, x0), (4, x1), (15, x2), (0, x3)], [(0, v72), (0, v71)], s72) o
  refine AT.ite (x := (0, 0, 0)) (by decide +kernel) (show jbr (.if_icmp .eq 1050) (677, [(3, x0), (4, x1), (15, x2), (0, x3)], [(0, v72), (0, v71)], s72) = some ((w32 v71) = (w32 v72), (1727, [(3, x0), (4, x1), (15, x2), (0, x3)], [], s72), (680, [(3, x0), (4, x1), (15, x2), (0, x3)], [], s72)) from rfl) H (fun H => ?_) (fun H => ?_)
  · exact Lx_law_1727_ok hk18 H
  · refine AT.seq [(680, .iconst 0, 1, (0, 0, 0))] (by decide +kernel) (show jrun _ (680, [(3, x0), (4, x1), (15, x2), (0, x3)], [], s72) = some ([], (681, [(3, x0), (4, x1), (15, x2), (0, x3)], [(0, 0)], s72)) from rfl) ?_
    exact AT.retzC (by decide +kernel) (by decide) H
set_option maxHeartbeats 4000000 in
set_option maxRecDepth 100000 in
theorem Lx_law_626_ok {o : Int × jM} {k18 : Int → Int → Int → Int → jM → Option (Int × jM)} (hk18 : ∀ (x0 x1 x2 x3 : Int) (s : jM), k18 x0 x1 x2 x3 s = some o → AT sLw_law 32 (18, [(3, x0), (4, x1), (15, x2), (0, x3)], [], s) o) {x0 x1 x2 x3 : Int} {s : jM} (H : Lx_law_626 k18 x0 x1 x2 x3 s = some o) : AT sLw_law 32 (626, [(3, x0), (4, x1), (15, x2), (0, x3)], [], s) o := by
  unfold Lx_law_626 at H
  refine AT.blk (g := (0 ≤ (w32 (x3 + 1)) ∧ (w32 (x3 + 1)) < s (-2) 0)) [(626, .aload_n 1, 1, (0, 0, 0)), (627, .aload_n 0, 1, (0, 0, 0)), (628, .iload_n 3, 1, (0, 0, 0)), (629, .iconst 1, 1, (0, 0, 0)), (630, .iadd, 1, (0, 0, 0)), (631, .iaload, 1, (0, 0, 0))] (by decide +kernel) (show jrun _ (626, [(3, x0), (4, x1), (15, x2), (0, x3)], [], s) = some ([(0 ≤ (w32 (x3 + 1)) ∧ (w32 (x3 + 1)) < s (-2) 0)], (632, [(3, x0), (4, x1), (15, x2), (0, x3)], [(0, (s (-1) (w32 (x3 + 1)))), (4, x1)], s)) from rfl) (fun h => h) H (fun H => ?_)
  obtain ⟨v73, s73, h73, H⟩ := jb_some H
  refine AT.callW (As := [(0, (s (-1) (w32 (x3 + 1))))]) (cl := 0) (b := x1) (st := []) (i := 67) (pos := 4026) kJc_many (by decide +kernel) rfl (by decide +kernel) rfl rfl (by omega) (Jc_many_ok h73) (fun hS => ?_)
  have H := jsm_y hS H
  show AT sLw_law 32 (635, [(3, x0), (4, x1), (15, x2), (0, x3)], [(0, v73)], s73) o
  refine AT.blk (g := (0 ≤ (w32 (x3 + 1)) ∧ (w32 (x3 + 1)) < s73 (-2) 0)) [(635, .aload_n 2, 1, (0, 0, 0)), (636, .aload_n 0, 1, (0, 0, 0)), (637, .iload_n 3, 1, (0, 0, 0)), (638, .iconst 1, 1, (0, 0, 0)), (639, .iadd, 1, (0, 0, 0)), (640, .iaload, 1, (0, 0, 0))] (by decide +kernel) (show jrun _ (635, [(3, x0), (4, x1), (15, x2), (0, x3)], [(0, v73)], s73) = some ([(0 ≤ (w32 (x3 + 1)) ∧ (w32 (x3 + 1)) < s73 (-2) 0)], (641, [(3, x0), (4, x1), (15, x2), (0, x3)], [(0, (s73 (-1) (w32 (x3 + 1)))), (15, x2), (0, v73)], s73)) from rfl) (fun h => h) H (fun H => ?_)
  obtain ⟨v74, s74, h74, H⟩ := jb_some H
  refine AT.callV (As := [(0, (s73 (-1) (w32 (x3 + 1))))]) (cl := 11) (b := x2) (st := [(0, v73)]) (i := 70) (pos := 7111) kMd_many (by decide +kernel) rfl (by decide +kernel) rfl rfl (by omega) (Md_many_ok h74) ?_
  show AT sLw_law 32 (644, [(3, x0), (4, x1), (15, x2), (0, x3)], [(0, v74), (0, v73)], s74) o
  refine AT.ite (x := (0, 0, 0)) (by decide +kernel) (show jbr (.if_icmp .eq 1083) (644, [(3, x0), (4, x1), (15, x2), (0, x3)], [(0, v74), (0, v73)], s74) = some ((w32 v73) = (w32 v74), (1727, [(3, x0), (4, x1), (15, x2), (0, x3)], [], s74), (647, [(3, x0), (4, x1), (15, x2), (0, x3)], [], s74)) from rfl) H (fun H => ?_) (fun H => ?_)
  · exact Lx_law_1727_ok hk18 H
  · refine AT.seq [(647, .iconst 0, 1, (0, 0, 0))] (by decide +kernel) (show jrun _ (647, [(3, x0), (4, x1), (15, x2), (0, x3)], [], s74) = some ([], (648, [(3, x0), (4, x1), (15, x2), (0, x3)], [(0, 0)], s74)) from rfl) ?_
    exact AT.retzC (by decide +kernel) (by decide) H
set_option maxHeartbeats 4000000 in
set_option maxRecDepth 100000 in
theorem Lx_law_603_ok {o : Int × jM} {k18 : Int → Int → Int → Int → jM → Option (Int × jM)} (hk18 : ∀ (x0 x1 x2 x3 : Int) (s : jM), k18 x0 x1 x2 x3 s = some o → AT sLw_law 32 (18, [(3, x0), (4, x1), (15, x2), (0, x3)], [], s) o) {x0 x1 x2 x3 : Int} {s : jM} (H : Lx_law_603 k18 x0 x1 x2 x3 s = some o) : AT sLw_law 32 (603, [(3, x0), (4, x1), (15, x2), (0, x3)], [], s) o := by
  unfold Lx_law_603 at H
  refine AT.blk (g := (0 ≤ (w32 (x3 + 1)) ∧ (w32 (x3 + 1)) < s (-2) 0)) [(603, .aload_n 1, 1, (0, 0, 0)), (604, .aload_n 0, 1, (0, 0, 0)), (605, .iload_n 3, 1, (0, 0, 0)), (606, .iconst 1, 1, (0, 0, 0)), (607, .iadd, 1, (0, 0, 0)), (608, .iaload, 1, (0, 0, 0))] (by decide +kernel) (show jrun _ (603, [(3, x0), (4, x1), (15, x2), (0, x3)], [], s) = some ([(0 ≤ (w32 (x3 + 1)) ∧ (w32 (x3 + 1)) < s (-2) 0)], (609, [(3, x0), (4, x1), (15, x2), (0, x3)], [(0, (s (-1) (w32 (x3 + 1)))), (4, x1)], s)) from rfl) (fun h => h) H (fun H => ?_)
  obtain ⟨v75, s75, h75, H⟩ := jb_some H
  refine AT.callW (As := [(0, (s (-1) (w32 (x3 + 1))))]) (cl := 0) (b := x1) (st := []) (i := 63) (pos := 4022) kJc_fault (by decide +kernel) rfl (by decide +kernel) rfl rfl (by omega) (Jc_fault_ok h75) (fun hS => ?_)
  have H := jsm_y hS H
  show AT sLw_law 32 (612, [(3, x0), (4, x1), (15, x2), (0, x3)], [(0, v75)], s75) o
  refine AT.blk (g := (0 ≤ (w32 (x3 + 1)) ∧ (w32 (x3 + 1)) < s75 (-2) 0)) [(612, .aload_n 2, 1, (0, 0, 0)), (613, .aload_n 0, 1, (0, 0, 0)), (614, .iload_n 3, 1, (0, 0, 0)), (615, .iconst 1, 1, (0, 0, 0)), (616, .iadd, 1, (0, 0, 0)), (617, .iaload, 1, (0, 0, 0))] (by decide +kernel) (show jrun _ (612, [(3, x0), (4, x1), (15, x2), (0, x3)], [(0, v75)], s75) = some ([(0 ≤ (w32 (x3 + 1)) ∧ (w32 (x3 + 1)) < s75 (-2) 0)], (618, [(3, x0), (4, x1), (15, x2), (0, x3)], [(0, (s75 (-1) (w32 (x3 + 1)))), (15, x2), (0, v75)], s75)) from rfl) (fun h => h) H (fun H => ?_)
  obtain ⟨v76, s76, h76, H⟩ := jb_some H
  refine AT.callV (As := [(0, (s75 (-1) (w32 (x3 + 1))))]) (cl := 11) (b := x2) (st := [(0, v75)]) (i := 66) (pos := 6138) kMd_fault (by decide +kernel) rfl (by decide +kernel) rfl rfl (by omega) (Md_fault_ok h76) ?_
  show AT sLw_law 32 (621, [(3, x0), (4, x1), (15, x2), (0, x3)], [(0, v76), (0, v75)], s76) o
  refine AT.ite (x := (0, 0, 0)) (by decide +kernel) (show jbr (.if_icmp .eq 1106) (621, [(3, x0), (4, x1), (15, x2), (0, x3)], [(0, v76), (0, v75)], s76) = some ((w32 v75) = (w32 v76), (1727, [(3, x0), (4, x1), (15, x2), (0, x3)], [], s76), (624, [(3, x0), (4, x1), (15, x2), (0, x3)], [], s76)) from rfl) H (fun H => ?_) (fun H => ?_)
  · exact Lx_law_1727_ok hk18 H
  · refine AT.seq [(624, .iconst 0, 1, (0, 0, 0))] (by decide +kernel) (show jrun _ (624, [(3, x0), (4, x1), (15, x2), (0, x3)], [], s76) = some ([], (625, [(3, x0), (4, x1), (15, x2), (0, x3)], [(0, 0)], s76)) from rfl) ?_
    exact AT.retzC (by decide +kernel) (by decide) H
set_option maxHeartbeats 4000000 in
set_option maxRecDepth 100000 in
theorem Lx_law_580_ok {o : Int × jM} {k18 : Int → Int → Int → Int → jM → Option (Int × jM)} (hk18 : ∀ (x0 x1 x2 x3 : Int) (s : jM), k18 x0 x1 x2 x3 s = some o → AT sLw_law 32 (18, [(3, x0), (4, x1), (15, x2), (0, x3)], [], s) o) {x0 x1 x2 x3 : Int} {s : jM} (H : Lx_law_580 k18 x0 x1 x2 x3 s = some o) : AT sLw_law 32 (580, [(3, x0), (4, x1), (15, x2), (0, x3)], [], s) o := by
  unfold Lx_law_580 at H
  refine AT.blk (g := (0 ≤ (w32 (x3 + 1)) ∧ (w32 (x3 + 1)) < s (-2) 0)) [(580, .aload_n 1, 1, (0, 0, 0)), (581, .aload_n 0, 1, (0, 0, 0)), (582, .iload_n 3, 1, (0, 0, 0)), (583, .iconst 1, 1, (0, 0, 0)), (584, .iadd, 1, (0, 0, 0)), (585, .iaload, 1, (0, 0, 0))] (by decide +kernel) (show jrun _ (580, [(3, x0), (4, x1), (15, x2), (0, x3)], [], s) = some ([(0 ≤ (w32 (x3 + 1)) ∧ (w32 (x3 + 1)) < s (-2) 0)], (586, [(3, x0), (4, x1), (15, x2), (0, x3)], [(0, (s (-1) (w32 (x3 + 1)))), (4, x1)], s)) from rfl) (fun h => h) H (fun H => ?_)
  obtain ⟨v77, s77, h77, H⟩ := jb_some H
  refine AT.callW (As := [(0, (s (-1) (w32 (x3 + 1))))]) (cl := 0) (b := x1) (st := []) (i := 59) (pos := 3219) kJc_feasts (by decide +kernel) rfl (by decide +kernel) rfl rfl (by omega) (Jc_feasts_ok h77) (fun hS => ?_)
  have H := jsm_y hS H
  show AT sLw_law 32 (589, [(3, x0), (4, x1), (15, x2), (0, x3)], [(0, v77)], s77) o
  refine AT.blk (g := (0 ≤ (w32 (x3 + 1)) ∧ (w32 (x3 + 1)) < s77 (-2) 0)) [(589, .aload_n 2, 1, (0, 0, 0)), (590, .aload_n 0, 1, (0, 0, 0)), (591, .iload_n 3, 1, (0, 0, 0)), (592, .iconst 1, 1, (0, 0, 0)), (593, .iadd, 1, (0, 0, 0)), (594, .iaload, 1, (0, 0, 0))] (by decide +kernel) (show jrun _ (589, [(3, x0), (4, x1), (15, x2), (0, x3)], [(0, v77)], s77) = some ([(0 ≤ (w32 (x3 + 1)) ∧ (w32 (x3 + 1)) < s77 (-2) 0)], (595, [(3, x0), (4, x1), (15, x2), (0, x3)], [(0, (s77 (-1) (w32 (x3 + 1)))), (15, x2), (0, v77)], s77)) from rfl) (fun h => h) H (fun H => ?_)
  obtain ⟨v78, s78, h78, H⟩ := jb_some H
  refine AT.callV (As := [(0, (s77 (-1) (w32 (x3 + 1))))]) (cl := 11) (b := x2) (st := [(0, v77)]) (i := 62) (pos := 7095) kMd_feasts (by decide +kernel) rfl (by decide +kernel) rfl rfl (by omega) (Md_feasts_ok h78) ?_
  show AT sLw_law 32 (598, [(3, x0), (4, x1), (15, x2), (0, x3)], [(0, v78), (0, v77)], s78) o
  refine AT.ite (x := (0, 0, 0)) (by decide +kernel) (show jbr (.if_icmp .eq 1129) (598, [(3, x0), (4, x1), (15, x2), (0, x3)], [(0, v78), (0, v77)], s78) = some ((w32 v77) = (w32 v78), (1727, [(3, x0), (4, x1), (15, x2), (0, x3)], [], s78), (601, [(3, x0), (4, x1), (15, x2), (0, x3)], [], s78)) from rfl) H (fun H => ?_) (fun H => ?_)
  · exact Lx_law_1727_ok hk18 H
  · refine AT.seq [(601, .iconst 0, 1, (0, 0, 0))] (by decide +kernel) (show jrun _ (601, [(3, x0), (4, x1), (15, x2), (0, x3)], [], s78) = some ([], (602, [(3, x0), (4, x1), (15, x2), (0, x3)], [(0, 0)], s78)) from rfl) ?_
    exact AT.retzC (by decide +kernel) (by decide) H
set_option maxHeartbeats 4000000 in
set_option maxRecDepth 100000 in
theorem Lx_law_557_ok {o : Int × jM} {k18 : Int → Int → Int → Int → jM → Option (Int × jM)} (hk18 : ∀ (x0 x1 x2 x3 : Int) (s : jM), k18 x0 x1 x2 x3 s = some o → AT sLw_law 32 (18, [(3, x0), (4, x1), (15, x2), (0, x3)], [], s) o) {x0 x1 x2 x3 : Int} {s : jM} (H : Lx_law_557 k18 x0 x1 x2 x3 s = some o) : AT sLw_law 32 (557, [(3, x0), (4, x1), (15, x2), (0, x3)], [], s) o := by
  unfold Lx_law_557 at H
  refine AT.blk (g := (0 ≤ (w32 (x3 + 1)) ∧ (w32 (x3 + 1)) < s (-2) 0)) [(557, .aload_n 1, 1, (0, 0, 0)), (558, .aload_n 0, 1, (0, 0, 0)), (559, .iload_n 3, 1, (0, 0, 0)), (560, .iconst 1, 1, (0, 0, 0)), (561, .iadd, 1, (0, 0, 0)), (562, .iaload, 1, (0, 0, 0))] (by decide +kernel) (show jrun _ (557, [(3, x0), (4, x1), (15, x2), (0, x3)], [], s) = some ([(0 ≤ (w32 (x3 + 1)) ∧ (w32 (x3 + 1)) < s (-2) 0)], (563, [(3, x0), (4, x1), (15, x2), (0, x3)], [(0, (s (-1) (w32 (x3 + 1)))), (4, x1)], s)) from rfl) (fun h => h) H (fun H => ?_)
  obtain ⟨v79, s79, h79, H⟩ := jb_some H
  refine AT.callW (As := [(0, (s (-1) (w32 (x3 + 1))))]) (cl := 0) (b := x1) (st := []) (i := 54) (pos := 3089) kJc_see (by decide +kernel) rfl (by decide +kernel) rfl rfl (by omega) (Jc_see_ok h79) (fun hS => ?_)
  have H := jsm_y hS H
  show AT sLw_law 32 (566, [(3, x0), (4, x1), (15, x2), (0, x3)], [(0, v79)], s79) o
  refine AT.blk (g := (0 ≤ (w32 (x3 + 1)) ∧ (w32 (x3 + 1)) < s79 (-2) 0)) [(566, .aload_n 2, 1, (0, 0, 0)), (567, .aload_n 0, 1, (0, 0, 0)), (568, .iload_n 3, 1, (0, 0, 0)), (569, .iconst 1, 1, (0, 0, 0)), (570, .iadd, 1, (0, 0, 0)), (571, .iaload, 1, (0, 0, 0))] (by decide +kernel) (show jrun _ (566, [(3, x0), (4, x1), (15, x2), (0, x3)], [(0, v79)], s79) = some ([(0 ≤ (w32 (x3 + 1)) ∧ (w32 (x3 + 1)) < s79 (-2) 0)], (572, [(3, x0), (4, x1), (15, x2), (0, x3)], [(0, (s79 (-1) (w32 (x3 + 1)))), (15, x2), (0, v79)], s79)) from rfl) (fun h => h) H (fun H => ?_)
  obtain ⟨v80, s80, h80, H⟩ := jb_some H
  refine AT.callV (As := [(0, (s79 (-1) (w32 (x3 + 1))))]) (cl := 11) (b := x2) (st := [(0, v79)]) (i := 58) (pos := 6142) kMd_see (by decide +kernel) rfl (by decide +kernel) rfl rfl (by omega) (Md_see_ok h80) ?_
  show AT sLw_law 32 (575, [(3, x0), (4, x1), (15, x2), (0, x3)], [(0, v80), (0, v79)], s80) o
  refine AT.ite (x := (0, 0, 0)) (by decide +kernel) (show jbr (.if_icmp .eq 1152) (575, [(3, x0), (4, x1), (15, x2), (0, x3)], [(0, v80), (0, v79)], s80) = some ((w32 v79) = (w32 v80), (1727, [(3, x0), (4, x1), (15, x2), (0, x3)], [], s80), (578, [(3, x0), (4, x1), (15, x2), (0, x3)], [], s80)) from rfl) H (fun H => ?_) (fun H => ?_)
  · exact Lx_law_1727_ok hk18 H
  · refine AT.seq [(578, .iconst 0, 1, (0, 0, 0))] (by decide +kernel) (show jrun _ (578, [(3, x0), (4, x1), (15, x2), (0, x3)], [], s80) = some ([], (579, [(3, x0), (4, x1), (15, x2), (0, x3)], [(0, 0)], s80)) from rfl) ?_
    exact AT.retzC (by decide +kernel) (by decide) H
set_option maxHeartbeats 4000000 in
set_option maxRecDepth 100000 in
theorem Lx_law_494_ok {o : Int × jM} {k18 : Int → Int → Int → Int → jM → Option (Int × jM)} (hk18 : ∀ (x0 x1 x2 x3 : Int) (s : jM), k18 x0 x1 x2 x3 s = some o → AT sLw_law 32 (18, [(3, x0), (4, x1), (15, x2), (0, x3)], [], s) o) {x0 x1 x2 x3 : Int} {s : jM} (H : Lx_law_494 k18 x0 x1 x2 x3 s = some o) : AT sLw_law 32 (494, [(3, x0), (4, x1), (15, x2), (0, x3)], [], s) o := by
  unfold Lx_law_494 at H
  refine AT.blk (g := (0 ≤ (w32 (x3 + 1)) ∧ (w32 (x3 + 1)) < s (-2) 0) ∧ (0 ≤ (w32 (x3 + 2)) ∧ (w32 (x3 + 2)) < s (-2) 0) ∧ (0 ≤ (w32 (x3 + 3)) ∧ (w32 (x3 + 3)) < s (-2) 0) ∧ (0 ≤ (w32 (x3 + 4)) ∧ (w32 (x3 + 4)) < s (-2) 0) ∧ (0 ≤ (w32 (x3 + 5)) ∧ (w32 (x3 + 5)) < s (-2) 0)) [(494, .aload_n 1, 1, (0, 0, 0)), (495, .aload_n 0, 1, (0, 0, 0)), (496, .iload_n 3, 1, (0, 0, 0)), (497, .iconst 1, 1, (0, 0, 0)), (498, .iadd, 1, (0, 0, 0)), (499, .iaload, 1, (0, 0, 0)), (500, .aload_n 0, 1, (0, 0, 0)), (501, .iload_n 3, 1, (0, 0, 0)), (502, .iconst 2, 1, (0, 0, 0)), (503, .iadd, 1, (0, 0, 0)), (504, .iaload, 1, (0, 0, 0)), (505, .aload_n 0, 1, (0, 0, 0)), (506, .iload_n 3, 1, (0, 0, 0)), (507, .iconst 3, 1, (0, 0, 0)), (508, .iadd, 1, (0, 0, 0)), (509, .iaload, 1, (0, 0, 0)), (510, .aload_n 0, 1, (0, 0, 0)), (511, .iload_n 3, 1, (0, 0, 0)), (512, .iconst 4, 1, (0, 0, 0)), (513, .iadd, 1, (0, 0, 0)), (514, .iaload, 1, (0, 0, 0)), (515, .aload_n 0, 1, (0, 0, 0)), (516, .iload_n 3, 1, (0, 0, 0)), (517, .iconst 5, 1, (0, 0, 0)), (518, .iadd, 1, (0, 0, 0)), (519, .iaload, 1, (0, 0, 0))] (by decide +kernel) (show jrun _ (494, [(3, x0), (4, x1), (15, x2), (0, x3)], [], s) = some ([(0 ≤ (w32 (x3 + 1)) ∧ (w32 (x3 + 1)) < s (-2) 0), (0 ≤ (w32 (x3 + 2)) ∧ (w32 (x3 + 2)) < s (-2) 0), (0 ≤ (w32 (x3 + 3)) ∧ (w32 (x3 + 3)) < s (-2) 0), (0 ≤ (w32 (x3 + 4)) ∧ (w32 (x3 + 4)) < s (-2) 0), (0 ≤ (w32 (x3 + 5)) ∧ (w32 (x3 + 5)) < s (-2) 0)], (520, [(3, x0), (4, x1), (15, x2), (0, x3)], [(0, (s (-1) (w32 (x3 + 5)))), (0, (s (-1) (w32 (x3 + 4)))), (0, (s (-1) (w32 (x3 + 3)))), (0, (s (-1) (w32 (x3 + 2)))), (0, (s (-1) (w32 (x3 + 1)))), (4, x1)], s)) from rfl) (fun h => ⟨h.1, h.2.1, h.2.2.1, h.2.2.2.1, h.2.2.2.2⟩) H (fun H => ?_)
  obtain ⟨v81, s81, h81, H⟩ := jb_some H
  refine AT.callW (As := [(0, (s (-1) (w32 (x3 + 1)))), (0, (s (-1) (w32 (x3 + 2)))), (0, (s (-1) (w32 (x3 + 3)))), (0, (s (-1) (w32 (x3 + 4)))), (0, (s (-1) (w32 (x3 + 5))))]) (cl := 0) (b := x1) (st := []) (i := 49) (pos := 3077) kJc_feed (by decide +kernel) rfl (by decide +kernel) rfl rfl (by omega) (Jc_feed_ok h81) (fun hS => ?_)
  have H := jsm_y hS H
  show AT sLw_law 32 (523, [(3, x0), (4, x1), (15, x2), (0, x3)], [(0, v81)], s81) o
  refine AT.blk (g := (0 ≤ (w32 (x3 + 1)) ∧ (w32 (x3 + 1)) < s81 (-2) 0) ∧ (0 ≤ (w32 (x3 + 2)) ∧ (w32 (x3 + 2)) < s81 (-2) 0) ∧ (0 ≤ (w32 (x3 + 3)) ∧ (w32 (x3 + 3)) < s81 (-2) 0) ∧ (0 ≤ (w32 (x3 + 4)) ∧ (w32 (x3 + 4)) < s81 (-2) 0) ∧ (0 ≤ (w32 (x3 + 5)) ∧ (w32 (x3 + 5)) < s81 (-2) 0)) [(523, .aload_n 2, 1, (0, 0, 0)), (524, .aload_n 0, 1, (0, 0, 0)), (525, .iload_n 3, 1, (0, 0, 0)), (526, .iconst 1, 1, (0, 0, 0)), (527, .iadd, 1, (0, 0, 0)), (528, .iaload, 1, (0, 0, 0)), (529, .aload_n 0, 1, (0, 0, 0)), (530, .iload_n 3, 1, (0, 0, 0)), (531, .iconst 2, 1, (0, 0, 0)), (532, .iadd, 1, (0, 0, 0)), (533, .iaload, 1, (0, 0, 0)), (534, .aload_n 0, 1, (0, 0, 0)), (535, .iload_n 3, 1, (0, 0, 0)), (536, .iconst 3, 1, (0, 0, 0)), (537, .iadd, 1, (0, 0, 0)), (538, .iaload, 1, (0, 0, 0)), (539, .aload_n 0, 1, (0, 0, 0)), (540, .iload_n 3, 1, (0, 0, 0)), (541, .iconst 4, 1, (0, 0, 0)), (542, .iadd, 1, (0, 0, 0)), (543, .iaload, 1, (0, 0, 0)), (544, .aload_n 0, 1, (0, 0, 0)), (545, .iload_n 3, 1, (0, 0, 0)), (546, .iconst 5, 1, (0, 0, 0)), (547, .iadd, 1, (0, 0, 0)), (548, .iaload, 1, (0, 0, 0))] (by decide +kernel) (show jrun _ (523, [(3, x0), (4, x1), (15, x2), (0, x3)], [(0, v81)], s81) = some ([(0 ≤ (w32 (x3 + 1)) ∧ (w32 (x3 + 1)) < s81 (-2) 0), (0 ≤ (w32 (x3 + 2)) ∧ (w32 (x3 + 2)) < s81 (-2) 0), (0 ≤ (w32 (x3 + 3)) ∧ (w32 (x3 + 3)) < s81 (-2) 0), (0 ≤ (w32 (x3 + 4)) ∧ (w32 (x3 + 4)) < s81 (-2) 0), (0 ≤ (w32 (x3 + 5)) ∧ (w32 (x3 + 5)) < s81 (-2) 0)], (549, [(3, x0), (4, x1), (15, x2), (0, x3)], [(0, (s81 (-1) (w32 (x3 + 5)))), (0, (s81 (-1) (w32 (x3 + 4)))), (0, (s81 (-1) (w32 (x3 + 3)))), (0, (s81 (-1) (w32 (x3 + 2)))), (0, (s81 (-1) (w32 (x3 + 1)))), (15, x2), (0, v81)], s81)) from rfl) (fun h => ⟨h.1, h.2.1, h.2.2.1, h.2.2.2.1, h.2.2.2.2⟩) H (fun H => ?_)
  obtain ⟨v82, s82, h82, H⟩ := jb_some H
  refine AT.callV (As := [(0, (s81 (-1) (w32 (x3 + 1)))), (0, (s81 (-1) (w32 (x3 + 2)))), (0, (s81 (-1) (w32 (x3 + 3)))), (0, (s81 (-1) (w32 (x3 + 4)))), (0, (s81 (-1) (w32 (x3 + 5))))]) (cl := 11) (b := x2) (st := [(0, v81)]) (i := 53) (pos := 6130) kMd_feed (by decide +kernel) rfl (by decide +kernel) rfl rfl (by omega) (Md_feed_ok h82) ?_
  show AT sLw_law 32 (552, [(3, x0), (4, x1), (15, x2), (0, x3)], [(0, v82), (0, v81)], s82) o
  refine AT.ite (x := (0, 0, 0)) (by decide +kernel) (show jbr (.if_icmp .eq 1175) (552, [(3, x0), (4, x1), (15, x2), (0, x3)], [(0, v82), (0, v81)], s82) = some ((w32 v81) = (w32 v82), (1727, [(3, x0), (4, x1), (15, x2), (0, x3)], [], s82), (555, [(3, x0), (4, x1), (15, x2), (0, x3)], [], s82)) from rfl) H (fun H => ?_) (fun H => ?_)
  · exact Lx_law_1727_ok hk18 H
  · refine AT.seq [(555, .iconst 0, 1, (0, 0, 0))] (by decide +kernel) (show jrun _ (555, [(3, x0), (4, x1), (15, x2), (0, x3)], [], s82) = some ([], (556, [(3, x0), (4, x1), (15, x2), (0, x3)], [(0, 0)], s82)) from rfl) ?_
    exact AT.retzC (by decide +kernel) (by decide) H
set_option maxHeartbeats 4000000 in
set_option maxRecDepth 100000 in
theorem Lx_law_431_ok {o : Int × jM} {k18 : Int → Int → Int → Int → jM → Option (Int × jM)} (hk18 : ∀ (x0 x1 x2 x3 : Int) (s : jM), k18 x0 x1 x2 x3 s = some o → AT sLw_law 32 (18, [(3, x0), (4, x1), (15, x2), (0, x3)], [], s) o) {x0 x1 x2 x3 : Int} {s : jM} (H : Lx_law_431 k18 x0 x1 x2 x3 s = some o) : AT sLw_law 32 (431, [(3, x0), (4, x1), (15, x2), (0, x3)], [], s) o := by
  unfold Lx_law_431 at H
  refine AT.blk (g := (0 ≤ (w32 (x3 + 1)) ∧ (w32 (x3 + 1)) < s (-2) 0) ∧ (0 ≤ (w32 (x3 + 2)) ∧ (w32 (x3 + 2)) < s (-2) 0) ∧ (0 ≤ (w32 (x3 + 3)) ∧ (w32 (x3 + 3)) < s (-2) 0) ∧ (0 ≤ (w32 (x3 + 4)) ∧ (w32 (x3 + 4)) < s (-2) 0) ∧ (0 ≤ (w32 (x3 + 5)) ∧ (w32 (x3 + 5)) < s (-2) 0)) [(431, .aload_n 1, 1, (0, 0, 0)), (432, .aload_n 0, 1, (0, 0, 0)), (433, .iload_n 3, 1, (0, 0, 0)), (434, .iconst 1, 1, (0, 0, 0)), (435, .iadd, 1, (0, 0, 0)), (436, .iaload, 1, (0, 0, 0)), (437, .aload_n 0, 1, (0, 0, 0)), (438, .iload_n 3, 1, (0, 0, 0)), (439, .iconst 2, 1, (0, 0, 0)), (440, .iadd, 1, (0, 0, 0)), (441, .iaload, 1, (0, 0, 0)), (442, .aload_n 0, 1, (0, 0, 0)), (443, .iload_n 3, 1, (0, 0, 0)), (444, .iconst 3, 1, (0, 0, 0)), (445, .iadd, 1, (0, 0, 0)), (446, .iaload, 1, (0, 0, 0)), (447, .aload_n 0, 1, (0, 0, 0)), (448, .iload_n 3, 1, (0, 0, 0)), (449, .iconst 4, 1, (0, 0, 0)), (450, .iadd, 1, (0, 0, 0)), (451, .iaload, 1, (0, 0, 0)), (452, .aload_n 0, 1, (0, 0, 0)), (453, .iload_n 3, 1, (0, 0, 0)), (454, .iconst 5, 1, (0, 0, 0)), (455, .iadd, 1, (0, 0, 0)), (456, .iaload, 1, (0, 0, 0))] (by decide +kernel) (show jrun _ (431, [(3, x0), (4, x1), (15, x2), (0, x3)], [], s) = some ([(0 ≤ (w32 (x3 + 1)) ∧ (w32 (x3 + 1)) < s (-2) 0), (0 ≤ (w32 (x3 + 2)) ∧ (w32 (x3 + 2)) < s (-2) 0), (0 ≤ (w32 (x3 + 3)) ∧ (w32 (x3 + 3)) < s (-2) 0), (0 ≤ (w32 (x3 + 4)) ∧ (w32 (x3 + 4)) < s (-2) 0), (0 ≤ (w32 (x3 + 5)) ∧ (w32 (x3 + 5)) < s (-2) 0)], (457, [(3, x0), (4, x1), (15, x2), (0, x3)], [(0, (s (-1) (w32 (x3 + 5)))), (0, (s (-1) (w32 (x3 + 4)))), (0, (s (-1) (w32 (x3 + 3)))), (0, (s (-1) (w32 (x3 + 2)))), (0, (s (-1) (w32 (x3 + 1)))), (4, x1)], s)) from rfl) (fun h => ⟨h.1, h.2.1, h.2.2.1, h.2.2.2.1, h.2.2.2.2⟩) H (fun H => ?_)
  obtain ⟨v83, s83, h83, H⟩ := jb_some H
  refine AT.callW (As := [(0, (s (-1) (w32 (x3 + 1)))), (0, (s (-1) (w32 (x3 + 2)))), (0, (s (-1) (w32 (x3 + 3)))), (0, (s (-1) (w32 (x3 + 4)))), (0, (s (-1) (w32 (x3 + 5))))]) (cl := 0) (b := x1) (st := []) (i := 44) (pos := 3070) kJc_decant (by decide +kernel) rfl (by decide +kernel) rfl rfl (by omega) (Jc_decant_ok h83) (fun hS => ?_)
  have H := jsm_y hS H
  show AT sLw_law 32 (460, [(3, x0), (4, x1), (15, x2), (0, x3)], [(0, v83)], s83) o
  refine AT.blk (g := (0 ≤ (w32 (x3 + 1)) ∧ (w32 (x3 + 1)) < s83 (-2) 0) ∧ (0 ≤ (w32 (x3 + 2)) ∧ (w32 (x3 + 2)) < s83 (-2) 0) ∧ (0 ≤ (w32 (x3 + 3)) ∧ (w32 (x3 + 3)) < s83 (-2) 0) ∧ (0 ≤ (w32 (x3 + 4)) ∧ (w32 (x3 + 4)) < s83 (-2) 0) ∧ (0 ≤ (w32 (x3 + 5)) ∧ (w32 (x3 + 5)) < s83 (-2) 0)) [(460, .aload_n 2, 1, (0, 0, 0)), (461, .aload_n 0, 1, (0, 0, 0)), (462, .iload_n 3, 1, (0, 0, 0)), (463, .iconst 1, 1, (0, 0, 0)), (464, .iadd, 1, (0, 0, 0)), (465, .iaload, 1, (0, 0, 0)), (466, .aload_n 0, 1, (0, 0, 0)), (467, .iload_n 3, 1, (0, 0, 0)), (468, .iconst 2, 1, (0, 0, 0)), (469, .iadd, 1, (0, 0, 0)), (470, .iaload, 1, (0, 0, 0)), (471, .aload_n 0, 1, (0, 0, 0)), (472, .iload_n 3, 1, (0, 0, 0)), (473, .iconst 3, 1, (0, 0, 0)), (474, .iadd, 1, (0, 0, 0)), (475, .iaload, 1, (0, 0, 0)), (476, .aload_n 0, 1, (0, 0, 0)), (477, .iload_n 3, 1, (0, 0, 0)), (478, .iconst 4, 1, (0, 0, 0)), (479, .iadd, 1, (0, 0, 0)), (480, .iaload, 1, (0, 0, 0)), (481, .aload_n 0, 1, (0, 0, 0)), (482, .iload_n 3, 1, (0, 0, 0)), (483, .iconst 5, 1, (0, 0, 0)), (484, .iadd, 1, (0, 0, 0)), (485, .iaload, 1, (0, 0, 0))] (by decide +kernel) (show jrun _ (460, [(3, x0), (4, x1), (15, x2), (0, x3)], [(0, v83)], s83) = some ([(0 ≤ (w32 (x3 + 1)) ∧ (w32 (x3 + 1)) < s83 (-2) 0), (0 ≤ (w32 (x3 + 2)) ∧ (w32 (x3 + 2)) < s83 (-2) 0), (0 ≤ (w32 (x3 + 3)) ∧ (w32 (x3 + 3)) < s83 (-2) 0), (0 ≤ (w32 (x3 + 4)) ∧ (w32 (x3 + 4)) < s83 (-2) 0), (0 ≤ (w32 (x3 + 5)) ∧ (w32 (x3 + 5)) < s83 (-2) 0)], (486, [(3, x0), (4, x1), (15, x2), (0, x3)], [(0, (s83 (-1) (w32 (x3 + 5)))), (0, (s83 (-1) (w32 (x3 + 4)))), (0, (s83 (-1) (w32 (x3 + 3)))), (0, (s83 (-1) (w32 (x3 + 2)))), (0, (s83 (-1) (w32 (x3 + 1)))), (15, x2), (0, v83)], s83)) from rfl) (fun h => ⟨h.1, h.2.1, h.2.2.1, h.2.2.2.1, h.2.2.2.2⟩) H (fun H => ?_)
  obtain ⟨v84, s84, h84, H⟩ := jb_some H
  refine AT.callV (As := [(0, (s83 (-1) (w32 (x3 + 1)))), (0, (s83 (-1) (w32 (x3 + 2)))), (0, (s83 (-1) (w32 (x3 + 3)))), (0, (s83 (-1) (w32 (x3 + 4)))), (0, (s83 (-1) (w32 (x3 + 5))))]) (cl := 11) (b := x2) (st := [(0, v83)]) (i := 48) (pos := 6126) kMd_decant (by decide +kernel) rfl (by decide +kernel) rfl rfl (by omega) (Md_decant_ok h84) ?_
  show AT sLw_law 32 (489, [(3, x0), (4, x1), (15, x2), (0, x3)], [(0, v84), (0, v83)], s84) o
  refine AT.ite (x := (0, 0, 0)) (by decide +kernel) (show jbr (.if_icmp .eq 1238) (489, [(3, x0), (4, x1), (15, x2), (0, x3)], [(0, v84), (0, v83)], s84) = some ((w32 v83) = (w32 v84), (1727, [(3, x0), (4, x1), (15, x2), (0, x3)], [], s84), (492, [(3, x0), (4, x1), (15, x2), (0, x3)], [], s84)) from rfl) H (fun H => ?_) (fun H => ?_)
  · exact Lx_law_1727_ok hk18 H
  · refine AT.seq [(492, .iconst 0, 1, (0, 0, 0))] (by decide +kernel) (show jrun _ (492, [(3, x0), (4, x1), (15, x2), (0, x3)], [], s84) = some ([], (493, [(3, x0), (4, x1), (15, x2), (0, x3)], [(0, 0)], s84)) from rfl) ?_
    exact AT.retzC (by decide +kernel) (by decide) H
set_option maxHeartbeats 4000000 in
set_option maxRecDepth 100000 in
theorem Lx_law_397_ok {o : Int × jM} {k18 : Int → Int → Int → Int → jM → Option (Int × jM)} (hk18 : ∀ (x0 x1 x2 x3 : Int) (s : jM), k18 x0 x1 x2 x3 s = some o → AT sLw_law 32 (18, [(3, x0), (4, x1), (15, x2), (0, x3)], [], s) o) {x0 x1 x2 x3 : Int} {s : jM} (H : Lx_law_397 k18 x0 x1 x2 x3 s = some o) : AT sLw_law 32 (397, [(3, x0), (4, x1), (15, x2), (0, x3)], [], s) o := by
  unfold Lx_law_397 at H
  refine AT.blk (g := (0 ≤ (w32 (x3 + 1)) ∧ (w32 (x3 + 1)) < s (-2) 0) ∧ (0 ≤ (w32 (x3 + 2)) ∧ (w32 (x3 + 2)) < s (-2) 0)) [(397, .aload_n 1, 1, (0, 0, 0)), (398, .aload_n 0, 1, (0, 0, 0)), (399, .iload_n 3, 1, (0, 0, 0)), (400, .iconst 1, 1, (0, 0, 0)), (401, .iadd, 1, (0, 0, 0)), (402, .iaload, 1, (0, 0, 0)), (403, .aload_n 0, 1, (0, 0, 0)), (404, .iload_n 3, 1, (0, 0, 0)), (405, .iconst 2, 1, (0, 0, 0)), (406, .iadd, 1, (0, 0, 0)), (407, .iaload, 1, (0, 0, 0))] (by decide +kernel) (show jrun _ (397, [(3, x0), (4, x1), (15, x2), (0, x3)], [], s) = some ([(0 ≤ (w32 (x3 + 1)) ∧ (w32 (x3 + 1)) < s (-2) 0), (0 ≤ (w32 (x3 + 2)) ∧ (w32 (x3 + 2)) < s (-2) 0)], (408, [(3, x0), (4, x1), (15, x2), (0, x3)], [(0, (s (-1) (w32 (x3 + 2)))), (0, (s (-1) (w32 (x3 + 1)))), (4, x1)], s)) from rfl) (fun h => ⟨h.1, h.2⟩) H (fun H => ?_)
  obtain ⟨v85, s85, h85, H⟩ := jb_some H
  refine AT.callW (As := [(0, (s (-1) (w32 (x3 + 1)))), (0, (s (-1) (w32 (x3 + 2))))]) (cl := 0) (b := x1) (st := []) (i := 39) (pos := 3062) kJc_read (by decide +kernel) rfl (by decide +kernel) rfl rfl (by omega) (Jc_read_ok h85) (fun hS => ?_)
  have H := jsm_y hS H
  show AT sLw_law 32 (411, [(3, x0), (4, x1), (15, x2), (0, x3)], [(1, v85)], s85) o
  refine AT.blk (g := (0 ≤ (w32 (x3 + 1)) ∧ (w32 (x3 + 1)) < s85 (-2) 0) ∧ (0 ≤ (w32 (x3 + 2)) ∧ (w32 (x3 + 2)) < s85 (-2) 0)) [(411, .aload_n 2, 1, (0, 0, 0)), (412, .aload_n 0, 1, (0, 0, 0)), (413, .iload_n 3, 1, (0, 0, 0)), (414, .iconst 1, 1, (0, 0, 0)), (415, .iadd, 1, (0, 0, 0)), (416, .iaload, 1, (0, 0, 0)), (417, .aload_n 0, 1, (0, 0, 0)), (418, .iload_n 3, 1, (0, 0, 0)), (419, .iconst 2, 1, (0, 0, 0)), (420, .iadd, 1, (0, 0, 0)), (421, .iaload, 1, (0, 0, 0))] (by decide +kernel) (show jrun _ (411, [(3, x0), (4, x1), (15, x2), (0, x3)], [(1, v85)], s85) = some ([(0 ≤ (w32 (x3 + 1)) ∧ (w32 (x3 + 1)) < s85 (-2) 0), (0 ≤ (w32 (x3 + 2)) ∧ (w32 (x3 + 2)) < s85 (-2) 0)], (422, [(3, x0), (4, x1), (15, x2), (0, x3)], [(0, (s85 (-1) (w32 (x3 + 2)))), (0, (s85 (-1) (w32 (x3 + 1)))), (15, x2), (1, v85)], s85)) from rfl) (fun h => ⟨h.1, h.2⟩) H (fun H => ?_)
  obtain ⟨v86, s86, h86, H⟩ := jb_some H
  refine AT.callV (As := [(0, (s85 (-1) (w32 (x3 + 1)))), (0, (s85 (-1) (w32 (x3 + 2))))]) (cl := 11) (b := x2) (st := [(1, v85)]) (i := 43) (pos := 6121) kMd_read (by decide +kernel) rfl (by decide +kernel) rfl rfl (by omega) (Md_read_ok h86) ?_
  show AT sLw_law 32 (425, [(3, x0), (4, x1), (15, x2), (0, x3)], [(1, v86), (1, v85)], s86) o
  refine AT.seq [(425, .lcmp, 1, (0, 0, 0))] (by decide +kernel) (show jrun _ (425, [(3, x0), (4, x1), (15, x2), (0, x3)], [(1, v86), (1, v85)], s86) = some ([], (426, [(3, x0), (4, x1), (15, x2), (0, x3)], [(0, (jlcmp v85 v86))], s86)) from rfl) ?_
  refine AT.ite (x := (0, 0, 0)) (by decide +kernel) (show jbr (.ifCond .eq 1301) (426, [(3, x0), (4, x1), (15, x2), (0, x3)], [(0, (jlcmp v85 v86))], s86) = some ((w32 (jlcmp v85 v86)) = 0, (1727, [(3, x0), (4, x1), (15, x2), (0, x3)], [], s86), (429, [(3, x0), (4, x1), (15, x2), (0, x3)], [], s86)) from rfl) H (fun H => ?_) (fun H => ?_)
  · exact Lx_law_1727_ok hk18 H
  · refine AT.seq [(429, .iconst 0, 1, (0, 0, 0))] (by decide +kernel) (show jrun _ (429, [(3, x0), (4, x1), (15, x2), (0, x3)], [], s86) = some ([], (430, [(3, x0), (4, x1), (15, x2), (0, x3)], [(0, 0)], s86)) from rfl) ?_
    exact AT.retzC (by decide +kernel) (by decide) H
set_option maxHeartbeats 4000000 in
set_option maxRecDepth 100000 in
theorem Lx_law_324_ok {o : Int × jM} {k18 : Int → Int → Int → Int → jM → Option (Int × jM)} (hk18 : ∀ (x0 x1 x2 x3 : Int) (s : jM), k18 x0 x1 x2 x3 s = some o → AT sLw_law 32 (18, [(3, x0), (4, x1), (15, x2), (0, x3)], [], s) o) {x0 x1 x2 x3 : Int} {s : jM} (H : Lx_law_324 k18 x0 x1 x2 x3 s = some o) : AT sLw_law 32 (324, [(3, x0), (4, x1), (15, x2), (0, x3)], [], s) o := by
  unfold Lx_law_324 at H
  refine AT.blk (g := (0 ≤ (w32 (x3 + 1)) ∧ (w32 (x3 + 1)) < s (-2) 0) ∧ (0 ≤ (w32 (x3 + 2)) ∧ (w32 (x3 + 2)) < s (-2) 0) ∧ (0 ≤ (w32 (x3 + 3)) ∧ (w32 (x3 + 3)) < s (-2) 0)) [(324, .aload_n 1, 1, (0, 0, 0)), (325, .aload_n 0, 1, (0, 0, 0)), (326, .iload_n 3, 1, (0, 0, 0)), (327, .iconst 1, 1, (0, 0, 0)), (328, .iadd, 1, (0, 0, 0)), (329, .iaload, 1, (0, 0, 0)), (330, .aload_n 0, 1, (0, 0, 0)), (331, .iload_n 3, 1, (0, 0, 0)), (332, .iconst 2, 1, (0, 0, 0)), (333, .iadd, 1, (0, 0, 0)), (334, .iaload, 1, (0, 0, 0)), (335, .aload_n 0, 1, (0, 0, 0)), (336, .iload_n 3, 1, (0, 0, 0)), (337, .iconst 3, 1, (0, 0, 0)), (338, .iadd, 1, (0, 0, 0)), (339, .iaload, 1, (0, 0, 0)), (340, .i2l, 1, (0, 0, 0)), (341, .bipush 32, 2, (0, 0, 0))] (by decide +kernel) (show jrun _ (324, [(3, x0), (4, x1), (15, x2), (0, x3)], [], s) = some ([(0 ≤ (w32 (x3 + 1)) ∧ (w32 (x3 + 1)) < s (-2) 0), (0 ≤ (w32 (x3 + 2)) ∧ (w32 (x3 + 2)) < s (-2) 0), (0 ≤ (w32 (x3 + 3)) ∧ (w32 (x3 + 3)) < s (-2) 0)], (343, [(3, x0), (4, x1), (15, x2), (0, x3)], [(0, 32), (1, (w32 (s (-1) (w32 (x3 + 3))))), (0, (s (-1) (w32 (x3 + 2)))), (0, (s (-1) (w32 (x3 + 1)))), (4, x1)], s)) from rfl) (fun h => ⟨h.1, h.2.1, h.2.2⟩) H (fun H => ?_)
  refine AT.lshlK (x := (0, 0, 0)) (by decide +kernel) ?_
  show AT sLw_law 32 (344, [(3, x0), (4, x1), (15, x2), (0, x3)], [(1, (jlshl (w32 (s (-1) (w32 (x3 + 3)))) 32)), (0, (s (-1) (w32 (x3 + 2)))), (0, (s (-1) (w32 (x3 + 1)))), (4, x1)], s) o
  refine AT.blk (g := (0 ≤ (w32 (x3 + 4)) ∧ (w32 (x3 + 4)) < s (-2) 0)) [(344, .aload_n 0, 1, (0, 0, 0)), (345, .iload_n 3, 1, (0, 0, 0)), (346, .iconst 4, 1, (0, 0, 0)), (347, .iadd, 1, (0, 0, 0)), (348, .iaload, 1, (0, 0, 0)), (349, .i2l, 1, (0, 0, 0)), (350, .ldc2_w 32, 3, (8225, 0, 4294967295))] (by decide +kernel) (show jrun _ (344, [(3, x0), (4, x1), (15, x2), (0, x3)], [(1, (jlshl (w32 (s (-1) (w32 (x3 + 3)))) 32)), (0, (s (-1) (w32 (x3 + 2)))), (0, (s (-1) (w32 (x3 + 1)))), (4, x1)], s) = some ([(0 ≤ (w32 (x3 + 4)) ∧ (w32 (x3 + 4)) < s (-2) 0)], (353, [(3, x0), (4, x1), (15, x2), (0, x3)], [(1, 4294967295), (1, (w32 (s (-1) (w32 (x3 + 4))))), (1, (jlshl (w32 (s (-1) (w32 (x3 + 3)))) 32)), (0, (s (-1) (w32 (x3 + 2)))), (0, (s (-1) (w32 (x3 + 1)))), (4, x1)], s)) from rfl) (fun h => h) H (fun H => ?_)
  refine AT.landK (x := (0, 0, 0)) (by decide +kernel) ?_
  show AT sLw_law 32 (354, [(3, x0), (4, x1), (15, x2), (0, x3)], [(1, (jland (w32 (s (-1) (w32 (x3 + 4)))) 4294967295)), (1, (jlshl (w32 (s (-1) (w32 (x3 + 3)))) 32)), (0, (s (-1) (w32 (x3 + 2)))), (0, (s (-1) (w32 (x3 + 1)))), (4, x1)], s) o
  refine AT.lorK (x := (0, 0, 0)) (by decide +kernel) ?_
  show AT sLw_law 32 (355, [(3, x0), (4, x1), (15, x2), (0, x3)], [(1, (jlor (jlshl (w32 (s (-1) (w32 (x3 + 3)))) 32) (jland (w32 (s (-1) (w32 (x3 + 4)))) 4294967295))), (0, (s (-1) (w32 (x3 + 2)))), (0, (s (-1) (w32 (x3 + 1)))), (4, x1)], s) o
  obtain ⟨v87, s87, h87, H⟩ := jb_some H
  refine AT.callW (As := [(0, (s (-1) (w32 (x3 + 1)))), (0, (s (-1) (w32 (x3 + 2)))), (1, (jlor (jlshl (w32 (s (-1) (w32 (x3 + 3)))) 32) (jland (w32 (s (-1) (w32 (x3 + 4)))) 4294967295)))]) (cl := 0) (b := x1) (st := []) (i := 34) (pos := 3046) kJc_write (by decide +kernel) rfl (by decide +kernel) rfl rfl (by omega) (Jc_write_ok h87) (fun hS => ?_)
  have H := jsm_y hS H
  show AT sLw_law 32 (358, [(3, x0), (4, x1), (15, x2), (0, x3)], [(0, v87)], s87) o
  refine AT.blk (g := (0 ≤ (w32 (x3 + 1)) ∧ (w32 (x3 + 1)) < s87 (-2) 0) ∧ (0 ≤ (w32 (x3 + 2)) ∧ (w32 (x3 + 2)) < s87 (-2) 0) ∧ (0 ≤ (w32 (x3 + 3)) ∧ (w32 (x3 + 3)) < s87 (-2) 0)) [(358, .aload_n 2, 1, (0, 0, 0)), (359, .aload_n 0, 1, (0, 0, 0)), (360, .iload_n 3, 1, (0, 0, 0)), (361, .iconst 1, 1, (0, 0, 0)), (362, .iadd, 1, (0, 0, 0)), (363, .iaload, 1, (0, 0, 0)), (364, .aload_n 0, 1, (0, 0, 0)), (365, .iload_n 3, 1, (0, 0, 0)), (366, .iconst 2, 1, (0, 0, 0)), (367, .iadd, 1, (0, 0, 0)), (368, .iaload, 1, (0, 0, 0)), (369, .aload_n 0, 1, (0, 0, 0)), (370, .iload_n 3, 1, (0, 0, 0)), (371, .iconst 3, 1, (0, 0, 0)), (372, .iadd, 1, (0, 0, 0)), (373, .iaload, 1, (0, 0, 0)), (374, .i2l, 1, (0, 0, 0)), (375, .bipush 32, 2, (0, 0, 0))] (by decide +kernel) (show jrun _ (358, [(3, x0), (4, x1), (15, x2), (0, x3)], [(0, v87)], s87) = some ([(0 ≤ (w32 (x3 + 1)) ∧ (w32 (x3 + 1)) < s87 (-2) 0), (0 ≤ (w32 (x3 + 2)) ∧ (w32 (x3 + 2)) < s87 (-2) 0), (0 ≤ (w32 (x3 + 3)) ∧ (w32 (x3 + 3)) < s87 (-2) 0)], (377, [(3, x0), (4, x1), (15, x2), (0, x3)], [(0, 32), (1, (w32 (s87 (-1) (w32 (x3 + 3))))), (0, (s87 (-1) (w32 (x3 + 2)))), (0, (s87 (-1) (w32 (x3 + 1)))), (15, x2), (0, v87)], s87)) from rfl) (fun h => ⟨h.1, h.2.1, h.2.2⟩) H (fun H => ?_)
  refine AT.lshlK (x := (0, 0, 0)) (by decide +kernel) ?_
  show AT sLw_law 32 (378, [(3, x0), (4, x1), (15, x2), (0, x3)], [(1, (jlshl (w32 (s87 (-1) (w32 (x3 + 3)))) 32)), (0, (s87 (-1) (w32 (x3 + 2)))), (0, (s87 (-1) (w32 (x3 + 1)))), (15, x2), (0, v87)], s87) o
  refine AT.blk (g := (0 ≤ (w32 (x3 + 4)) ∧ (w32 (x3 + 4)) < s87 (-2) 0)) [(378, .aload_n 0, 1, (0, 0, 0)), (379, .iload_n 3, 1, (0, 0, 0)), (380, .iconst 4, 1, (0, 0, 0)), (381, .iadd, 1, (0, 0, 0)), (382, .iaload, 1, (0, 0, 0)), (383, .i2l, 1, (0, 0, 0)), (384, .ldc2_w 32, 3, (8225, 0, 4294967295))] (by decide +kernel) (show jrun _ (378, [(3, x0), (4, x1), (15, x2), (0, x3)], [(1, (jlshl (w32 (s87 (-1) (w32 (x3 + 3)))) 32)), (0, (s87 (-1) (w32 (x3 + 2)))), (0, (s87 (-1) (w32 (x3 + 1)))), (15, x2), (0, v87)], s87) = some ([(0 ≤ (w32 (x3 + 4)) ∧ (w32 (x3 + 4)) < s87 (-2) 0)], (387, [(3, x0), (4, x1), (15, x2), (0, x3)], [(1, 4294967295), (1, (w32 (s87 (-1) (w32 (x3 + 4))))), (1, (jlshl (w32 (s87 (-1) (w32 (x3 + 3)))) 32)), (0, (s87 (-1) (w32 (x3 + 2)))), (0, (s87 (-1) (w32 (x3 + 1)))), (15, x2), (0, v87)], s87)) from rfl) (fun h => h) H (fun H => ?_)
  refine AT.landK (x := (0, 0, 0)) (by decide +kernel) ?_
  show AT sLw_law 32 (388, [(3, x0), (4, x1), (15, x2), (0, x3)], [(1, (jland (w32 (s87 (-1) (w32 (x3 + 4)))) 4294967295)), (1, (jlshl (w32 (s87 (-1) (w32 (x3 + 3)))) 32)), (0, (s87 (-1) (w32 (x3 + 2)))), (0, (s87 (-1) (w32 (x3 + 1)))), (15, x2), (0, v87)], s87) o
  refine AT.lorK (x := (0, 0, 0)) (by decide +kernel) ?_
  show AT sLw_law 32 (389, [(3, x0), (4, x1), (15, x2), (0, x3)], [(1, (jlor (jlshl (w32 (s87 (-1) (w32 (x3 + 3)))) 32) (jland (w32 (s87 (-1) (w32 (x3 + 4)))) 4294967295))), (0, (s87 (-1) (w32 (x3 + 2)))), (0, (s87 (-1) (w32 (x3 + 1)))), (15, x2), (0, v87)], s87) o
  obtain ⟨v88, s88, h88, H⟩ := jb_some H
  refine AT.callV (As := [(0, (s87 (-1) (w32 (x3 + 1)))), (0, (s87 (-1) (w32 (x3 + 2)))), (1, (jlor (jlshl (w32 (s87 (-1) (w32 (x3 + 3)))) 32) (jland (w32 (s87 (-1) (w32 (x3 + 4)))) 4294967295)))]) (cl := 11) (b := x2) (st := [(0, v87)]) (i := 38) (pos := 6106) kMd_write (by decide +kernel) rfl (by decide +kernel) rfl rfl (by omega) (Md_write_ok h88) ?_
  show AT sLw_law 32 (392, [(3, x0), (4, x1), (15, x2), (0, x3)], [(0, v88), (0, v87)], s88) o
  refine AT.ite (x := (0, 0, 0)) (by decide +kernel) (show jbr (.if_icmp .eq 1335) (392, [(3, x0), (4, x1), (15, x2), (0, x3)], [(0, v88), (0, v87)], s88) = some ((w32 v87) = (w32 v88), (1727, [(3, x0), (4, x1), (15, x2), (0, x3)], [], s88), (395, [(3, x0), (4, x1), (15, x2), (0, x3)], [], s88)) from rfl) H (fun H => ?_) (fun H => ?_)
  · exact Lx_law_1727_ok hk18 H
  · refine AT.seq [(395, .iconst 0, 1, (0, 0, 0))] (by decide +kernel) (show jrun _ (395, [(3, x0), (4, x1), (15, x2), (0, x3)], [], s88) = some ([], (396, [(3, x0), (4, x1), (15, x2), (0, x3)], [(0, 0)], s88)) from rfl) ?_
    exact AT.retzC (by decide +kernel) (by decide) H
set_option maxHeartbeats 4000000 in
set_option maxRecDepth 100000 in
theorem Lx_law_281_ok {o : Int × jM} {k18 : Int → Int → Int → Int → jM → Option (Int × jM)} (hk18 : ∀ (x0 x1 x2 x3 : Int) (s : jM), k18 x0 x1 x2 x3 s = some o → AT sLw_law 32 (18, [(3, x0), (4, x1), (15, x2), (0, x3)], [], s) o) {x0 x1 x2 x3 : Int} {s : jM} (H : Lx_law_281 k18 x0 x1 x2 x3 s = some o) : AT sLw_law 32 (281, [(3, x0), (4, x1), (15, x2), (0, x3)], [], s) o := by
  unfold Lx_law_281 at H
  refine AT.blk (g := (0 ≤ (w32 (x3 + 1)) ∧ (w32 (x3 + 1)) < s (-2) 0) ∧ (0 ≤ (w32 (x3 + 2)) ∧ (w32 (x3 + 2)) < s (-2) 0) ∧ (0 ≤ (w32 (x3 + 3)) ∧ (w32 (x3 + 3)) < s (-2) 0)) [(281, .aload_n 1, 1, (0, 0, 0)), (282, .aload_n 0, 1, (0, 0, 0)), (283, .iload_n 3, 1, (0, 0, 0)), (284, .iconst 1, 1, (0, 0, 0)), (285, .iadd, 1, (0, 0, 0)), (286, .iaload, 1, (0, 0, 0)), (287, .aload_n 0, 1, (0, 0, 0)), (288, .iload_n 3, 1, (0, 0, 0)), (289, .iconst 2, 1, (0, 0, 0)), (290, .iadd, 1, (0, 0, 0)), (291, .iaload, 1, (0, 0, 0)), (292, .aload_n 0, 1, (0, 0, 0)), (293, .iload_n 3, 1, (0, 0, 0)), (294, .iconst 3, 1, (0, 0, 0)), (295, .iadd, 1, (0, 0, 0)), (296, .iaload, 1, (0, 0, 0))] (by decide +kernel) (show jrun _ (281, [(3, x0), (4, x1), (15, x2), (0, x3)], [], s) = some ([(0 ≤ (w32 (x3 + 1)) ∧ (w32 (x3 + 1)) < s (-2) 0), (0 ≤ (w32 (x3 + 2)) ∧ (w32 (x3 + 2)) < s (-2) 0), (0 ≤ (w32 (x3 + 3)) ∧ (w32 (x3 + 3)) < s (-2) 0)], (297, [(3, x0), (4, x1), (15, x2), (0, x3)], [(0, (s (-1) (w32 (x3 + 3)))), (0, (s (-1) (w32 (x3 + 2)))), (0, (s (-1) (w32 (x3 + 1)))), (4, x1)], s)) from rfl) (fun h => ⟨h.1, h.2.1, h.2.2⟩) H (fun H => ?_)
  obtain ⟨v89, s89, h89, H⟩ := jb_some H
  refine AT.callW (As := [(0, (s (-1) (w32 (x3 + 1)))), (0, (s (-1) (w32 (x3 + 2)))), (0, (s (-1) (w32 (x3 + 3))))]) (cl := 0) (b := x1) (st := []) (i := 27) (pos := 3027) kJc_tray (by decide +kernel) rfl (by decide +kernel) rfl rfl (by omega) (Jc_tray_ok h89) (fun hS => ?_)
  have H := jsm_y hS H
  show AT sLw_law 32 (300, [(3, x0), (4, x1), (15, x2), (0, x3)], [(0, v89)], s89) o
  refine AT.blk (g := (0 ≤ (w32 (x3 + 1)) ∧ (w32 (x3 + 1)) < s89 (-2) 0) ∧ (0 ≤ (w32 (x3 + 2)) ∧ (w32 (x3 + 2)) < s89 (-2) 0) ∧ (0 ≤ (w32 (x3 + 3)) ∧ (w32 (x3 + 3)) < s89 (-2) 0)) [(300, .aload_n 2, 1, (0, 0, 0)), (301, .aload_n 0, 1, (0, 0, 0)), (302, .iload_n 3, 1, (0, 0, 0)), (303, .iconst 1, 1, (0, 0, 0)), (304, .iadd, 1, (0, 0, 0)), (305, .iaload, 1, (0, 0, 0)), (306, .aload_n 0, 1, (0, 0, 0)), (307, .iload_n 3, 1, (0, 0, 0)), (308, .iconst 2, 1, (0, 0, 0)), (309, .iadd, 1, (0, 0, 0)), (310, .iaload, 1, (0, 0, 0)), (311, .aload_n 0, 1, (0, 0, 0)), (312, .iload_n 3, 1, (0, 0, 0)), (313, .iconst 3, 1, (0, 0, 0)), (314, .iadd, 1, (0, 0, 0)), (315, .iaload, 1, (0, 0, 0))] (by decide +kernel) (show jrun _ (300, [(3, x0), (4, x1), (15, x2), (0, x3)], [(0, v89)], s89) = some ([(0 ≤ (w32 (x3 + 1)) ∧ (w32 (x3 + 1)) < s89 (-2) 0), (0 ≤ (w32 (x3 + 2)) ∧ (w32 (x3 + 2)) < s89 (-2) 0), (0 ≤ (w32 (x3 + 3)) ∧ (w32 (x3 + 3)) < s89 (-2) 0)], (316, [(3, x0), (4, x1), (15, x2), (0, x3)], [(0, (s89 (-1) (w32 (x3 + 3)))), (0, (s89 (-1) (w32 (x3 + 2)))), (0, (s89 (-1) (w32 (x3 + 1)))), (15, x2), (0, v89)], s89)) from rfl) (fun h => ⟨h.1, h.2.1, h.2.2⟩) H (fun H => ?_)
  obtain ⟨v90, s90, h90, H⟩ := jb_some H
  refine AT.callV (As := [(0, (s89 (-1) (w32 (x3 + 1)))), (0, (s89 (-1) (w32 (x3 + 2)))), (0, (s89 (-1) (w32 (x3 + 3))))]) (cl := 11) (b := x2) (st := [(0, v89)]) (i := 31) (pos := 6098) kMd_tray (by decide +kernel) rfl (by decide +kernel) rfl rfl (by omega) (Md_tray_ok h90) ?_
  show AT sLw_law 32 (319, [(3, x0), (4, x1), (15, x2), (0, x3)], [(0, v90), (0, v89)], s90) o
  refine AT.ite (x := (0, 0, 0)) (by decide +kernel) (show jbr (.if_icmp .eq 1408) (319, [(3, x0), (4, x1), (15, x2), (0, x3)], [(0, v90), (0, v89)], s90) = some ((w32 v89) = (w32 v90), (1727, [(3, x0), (4, x1), (15, x2), (0, x3)], [], s90), (322, [(3, x0), (4, x1), (15, x2), (0, x3)], [], s90)) from rfl) H (fun H => ?_) (fun H => ?_)
  · exact Lx_law_1727_ok hk18 H
  · refine AT.seq [(322, .iconst 0, 1, (0, 0, 0))] (by decide +kernel) (show jrun _ (322, [(3, x0), (4, x1), (15, x2), (0, x3)], [], s90) = some ([], (323, [(3, x0), (4, x1), (15, x2), (0, x3)], [(0, 0)], s90)) from rfl) ?_
    exact AT.retzC (by decide +kernel) (by decide) H
set_option maxHeartbeats 4000000 in
set_option maxRecDepth 100000 in
theorem Lx_law_267_ok {o : Int × jM} {k18 : Int → Int → Int → Int → jM → Option (Int × jM)} (hk18 : ∀ (x0 x1 x2 x3 : Int) (s : jM), k18 x0 x1 x2 x3 s = some o → AT sLw_law 32 (18, [(3, x0), (4, x1), (15, x2), (0, x3)], [], s) o) {x0 x1 x2 x3 : Int} {s : jM} (H : Lx_law_267 k18 x0 x1 x2 x3 s = some o) : AT sLw_law 32 (267, [(3, x0), (4, x1), (15, x2), (0, x3)], [], s) o := by
  unfold Lx_law_267 at H
  refine AT.seq [(267, .aload_n 1, 1, (0, 0, 0))] (by decide +kernel) (show jrun _ (267, [(3, x0), (4, x1), (15, x2), (0, x3)], [], s) = some ([], (268, [(3, x0), (4, x1), (15, x2), (0, x3)], [(4, x1)], s)) from rfl) ?_
  obtain ⟨v91, s91, h91, H⟩ := jb_some H
  refine AT.callW (As := []) (cl := 0) (b := x1) (st := []) (i := 23) (pos := 3023) kJc_bottom (by decide +kernel) rfl (by decide +kernel) rfl rfl (by omega) (Jc_bottom_ok h91) (fun hS => ?_)
  have H := jsm_y hS H
  show AT sLw_law 32 (271, [(3, x0), (4, x1), (15, x2), (0, x3)], [(1, v91)], s91) o
  refine AT.seq [(271, .aload_n 2, 1, (0, 0, 0))] (by decide +kernel) (show jrun _ (271, [(3, x0), (4, x1), (15, x2), (0, x3)], [(1, v91)], s91) = some ([], (272, [(3, x0), (4, x1), (15, x2), (0, x3)], [(15, x2), (1, v91)], s91)) from rfl) ?_
  obtain ⟨v92, s92, h92, H⟩ := jb_some H
  refine AT.callV (As := []) (cl := 11) (b := x2) (st := [(1, v91)]) (i := 26) (pos := 6094) kMd_bottom (by decide +kernel) rfl (by decide +kernel) rfl rfl (by omega) (Md_bottom_ok h92) ?_
  show AT sLw_law 32 (275, [(3, x0), (4, x1), (15, x2), (0, x3)], [(1, v92), (1, v91)], s92) o
  refine AT.seq [(275, .lcmp, 1, (0, 0, 0))] (by decide +kernel) (show jrun _ (275, [(3, x0), (4, x1), (15, x2), (0, x3)], [(1, v92), (1, v91)], s92) = some ([], (276, [(3, x0), (4, x1), (15, x2), (0, x3)], [(0, (jlcmp v91 v92))], s92)) from rfl) ?_
  refine AT.ite (x := (0, 0, 0)) (by decide +kernel) (show jbr (.ifCond .eq 1451) (276, [(3, x0), (4, x1), (15, x2), (0, x3)], [(0, (jlcmp v91 v92))], s92) = some ((w32 (jlcmp v91 v92)) = 0, (1727, [(3, x0), (4, x1), (15, x2), (0, x3)], [], s92), (279, [(3, x0), (4, x1), (15, x2), (0, x3)], [], s92)) from rfl) H (fun H => ?_) (fun H => ?_)
  · exact Lx_law_1727_ok hk18 H
  · refine AT.seq [(279, .iconst 0, 1, (0, 0, 0))] (by decide +kernel) (show jrun _ (279, [(3, x0), (4, x1), (15, x2), (0, x3)], [], s92) = some ([], (280, [(3, x0), (4, x1), (15, x2), (0, x3)], [(0, 0)], s92)) from rfl) ?_
    exact AT.retzC (by decide +kernel) (by decide) H
set_option maxHeartbeats 4000000 in
set_option maxRecDepth 100000 in
theorem Lx_law_253_ok {o : Int × jM} {k18 : Int → Int → Int → Int → jM → Option (Int × jM)} (hk18 : ∀ (x0 x1 x2 x3 : Int) (s : jM), k18 x0 x1 x2 x3 s = some o → AT sLw_law 32 (18, [(3, x0), (4, x1), (15, x2), (0, x3)], [], s) o) {x0 x1 x2 x3 : Int} {s : jM} (H : Lx_law_253 k18 x0 x1 x2 x3 s = some o) : AT sLw_law 32 (253, [(3, x0), (4, x1), (15, x2), (0, x3)], [], s) o := by
  unfold Lx_law_253 at H
  refine AT.seq [(253, .aload_n 1, 1, (0, 0, 0))] (by decide +kernel) (show jrun _ (253, [(3, x0), (4, x1), (15, x2), (0, x3)], [], s) = some ([], (254, [(3, x0), (4, x1), (15, x2), (0, x3)], [(4, x1)], s)) from rfl) ?_
  obtain ⟨v93, s93, h93, H⟩ := jb_some H
  refine AT.callW (As := []) (cl := 0) (b := x1) (st := []) (i := 18) (pos := 3019) kJc_top (by decide +kernel) rfl (by decide +kernel) rfl rfl (by omega) (Jc_top_ok h93) (fun hS => ?_)
  have H := jsm_y hS H
  show AT sLw_law 32 (257, [(3, x0), (4, x1), (15, x2), (0, x3)], [(1, v93)], s93) o
  refine AT.seq [(257, .aload_n 2, 1, (0, 0, 0))] (by decide +kernel) (show jrun _ (257, [(3, x0), (4, x1), (15, x2), (0, x3)], [(1, v93)], s93) = some ([], (258, [(3, x0), (4, x1), (15, x2), (0, x3)], [(15, x2), (1, v93)], s93)) from rfl) ?_
  obtain ⟨v94, s94, h94, H⟩ := jb_some H
  refine AT.callV (As := []) (cl := 11) (b := x2) (st := [(1, v93)]) (i := 22) (pos := 6090) kMd_top (by decide +kernel) rfl (by decide +kernel) rfl rfl (by omega) (Md_top_ok h94) ?_
  show AT sLw_law 32 (261, [(3, x0), (4, x1), (15, x2), (0, x3)], [(1, v94), (1, v93)], s94) o
  refine AT.seq [(261, .lcmp, 1, (0, 0, 0))] (by decide +kernel) (show jrun _ (261, [(3, x0), (4, x1), (15, x2), (0, x3)], [(1, v94), (1, v93)], s94) = some ([], (262, [(3, x0), (4, x1), (15, x2), (0, x3)], [(0, (jlcmp v93 v94))], s94)) from rfl) ?_
  refine AT.ite (x := (0, 0, 0)) (by decide +kernel) (show jbr (.ifCond .eq 1465) (262, [(3, x0), (4, x1), (15, x2), (0, x3)], [(0, (jlcmp v93 v94))], s94) = some ((w32 (jlcmp v93 v94)) = 0, (1727, [(3, x0), (4, x1), (15, x2), (0, x3)], [], s94), (265, [(3, x0), (4, x1), (15, x2), (0, x3)], [], s94)) from rfl) H (fun H => ?_) (fun H => ?_)
  · exact Lx_law_1727_ok hk18 H
  · refine AT.seq [(265, .iconst 0, 1, (0, 0, 0))] (by decide +kernel) (show jrun _ (265, [(3, x0), (4, x1), (15, x2), (0, x3)], [], s94) = some ([], (266, [(3, x0), (4, x1), (15, x2), (0, x3)], [(0, 0)], s94)) from rfl) ?_
    exact AT.retzC (by decide +kernel) (by decide) H
set_option maxHeartbeats 4000000 in
set_option maxRecDepth 100000 in
theorem Lx_law_240_ok {o : Int × jM} {k18 : Int → Int → Int → Int → jM → Option (Int × jM)} (hk18 : ∀ (x0 x1 x2 x3 : Int) (s : jM), k18 x0 x1 x2 x3 s = some o → AT sLw_law 32 (18, [(3, x0), (4, x1), (15, x2), (0, x3)], [], s) o) {x0 x1 x2 x3 : Int} {s : jM} (H : Lx_law_240 k18 x0 x1 x2 x3 s = some o) : AT sLw_law 32 (240, [(3, x0), (4, x1), (15, x2), (0, x3)], [], s) o := by
  unfold Lx_law_240 at H
  refine AT.seq [(240, .aload_n 1, 1, (0, 0, 0))] (by decide +kernel) (show jrun _ (240, [(3, x0), (4, x1), (15, x2), (0, x3)], [], s) = some ([], (241, [(3, x0), (4, x1), (15, x2), (0, x3)], [(4, x1)], s)) from rfl) ?_
  obtain ⟨v95, s95, h95, H⟩ := jb_some H
  refine AT.callW (As := []) (cl := 0) (b := x1) (st := []) (i := 13) (pos := 3015) kJc_status (by decide +kernel) rfl (by decide +kernel) rfl rfl (by omega) (Jc_status_ok h95) (fun hS => ?_)
  have H := jsm_y hS H
  show AT sLw_law 32 (244, [(3, x0), (4, x1), (15, x2), (0, x3)], [(0, v95)], s95) o
  refine AT.seq [(244, .aload_n 2, 1, (0, 0, 0))] (by decide +kernel) (show jrun _ (244, [(3, x0), (4, x1), (15, x2), (0, x3)], [(0, v95)], s95) = some ([], (245, [(3, x0), (4, x1), (15, x2), (0, x3)], [(15, x2), (0, v95)], s95)) from rfl) ?_
  obtain ⟨v96, s96, h96, H⟩ := jb_some H
  refine AT.callV (As := []) (cl := 11) (b := x2) (st := [(0, v95)]) (i := 17) (pos := 6086) kMd_status (by decide +kernel) rfl (by decide +kernel) rfl rfl (by omega) (Md_status_ok h96) ?_
  show AT sLw_law 32 (248, [(3, x0), (4, x1), (15, x2), (0, x3)], [(0, v96), (0, v95)], s96) o
  refine AT.ite (x := (0, 0, 0)) (by decide +kernel) (show jbr (.if_icmp .eq 1479) (248, [(3, x0), (4, x1), (15, x2), (0, x3)], [(0, v96), (0, v95)], s96) = some ((w32 v95) = (w32 v96), (1727, [(3, x0), (4, x1), (15, x2), (0, x3)], [], s96), (251, [(3, x0), (4, x1), (15, x2), (0, x3)], [], s96)) from rfl) H (fun H => ?_) (fun H => ?_)
  · exact Lx_law_1727_ok hk18 H
  · refine AT.seq [(251, .iconst 0, 1, (0, 0, 0))] (by decide +kernel) (show jrun _ (251, [(3, x0), (4, x1), (15, x2), (0, x3)], [], s96) = some ([], (252, [(3, x0), (4, x1), (15, x2), (0, x3)], [(0, 0)], s96)) from rfl) ?_
    exact AT.retzC (by decide +kernel) (by decide) H
set_option maxHeartbeats 4000000 in
set_option maxRecDepth 100000 in
theorem Lx_law_18_ok {o : Int × jM} : ∀ (n : Nat) (x0 x1 x2 x3 : Int) (s : jM), Lx_law_18  n x0 x1 x2 x3 s = some o → AT sLw_law 32 (18, [(3, x0), (4, x1), (15, x2), (0, x3)], [], s) o := by
  intro n
  induction n with
  | zero =>
    intro x0 x1 x2 x3 s H
    have H : (none : Option (Int × jM)) = some o := H
    cases H
  | succ n ih =>
    intro x0 x1 x2 x3 s H
    rw [Lx_law_18] at H
    refine AT.seq [(18, .iload_n 3, 1, (0, 0, 0)), (19, .aload_n 0, 1, (0, 0, 0)), (20, .arraylength, 1, (0, 0, 0)), (21, .bipush 6, 2, (0, 0, 0)), (23, .isub, 1, (0, 0, 0))] (by decide +kernel) (show jrun _ (18, [(3, x0), (4, x1), (15, x2), (0, x3)], [], s) = some ([], (24, [(3, x0), (4, x1), (15, x2), (0, x3)], [(0, ((s (-2) 0) - 6)), (0, x3)], s)) from rfl) ?_
    refine AT.ite (x := (0, 0, 0)) (by decide +kernel) (show jbr (.if_icmp .gt 1709) (24, [(3, x0), (4, x1), (15, x2), (0, x3)], [(0, ((s (-2) 0) - 6)), (0, x3)], s) = some ((w32 ((s (-2) 0) - 6)) < (w32 x3), (1733, [(3, x0), (4, x1), (15, x2), (0, x3)], [], s), (27, [(3, x0), (4, x1), (15, x2), (0, x3)], [], s)) from rfl) H (fun H => ?_) (fun H => ?_)
    · refine AT.seq [(1733, .iconst 1, 1, (0, 0, 0))] (by decide +kernel) (show jrun _ (1733, [(3, x0), (4, x1), (15, x2), (0, x3)], [], s) = some ([], (1734, [(3, x0), (4, x1), (15, x2), (0, x3)], [(0, 1)], s)) from rfl) ?_
      exact AT.retzC (by decide +kernel) (by decide) H
    · refine AT.blk (g := (0 ≤ (w32 x3) ∧ (w32 x3) < s (-2) 0)) [(27, .aload_n 0, 1, (0, 0, 0)), (28, .iload_n 3, 1, (0, 0, 0)), (29, .iaload, 1, (0, 0, 0)), (30, .bipush 63, 2, (0, 0, 0)), (32, .iand, 1, (0, 0, 0))] (by decide +kernel) (show jrun _ (27, [(3, x0), (4, x1), (15, x2), (0, x3)], [], s) = some ([(0 ≤ (w32 x3) ∧ (w32 x3) < s (-2) 0)], (33, [(3, x0), (4, x1), (15, x2), (0, x3)], [(0, (jiand (s (-1) (w32 x3)) 63))], s)) from rfl) (fun h => h) H (fun H => ?_)
      by_cases h97 : (w32 (jiand (s (-1) (w32 x3)) 63)) = 0
      · rw [if_pos h97] at H
        refine AT.sw (ins := .tableswitch 1694 0 47 #[207, 220, 234, 248, 291, 364, 398, 461, 524, 547, 570, 593, 616, 649, 682, 715, 738, 781, 804, 827, 850, 883, 906, 929, 962, 985, 1018, 1041, 1074, 1087, 1120, 1163, 1186, 1209, 1242, 1285, 1308, 1351, 1404, 1447, 1490, 1533, 1566, 1589, 1612, 1635, 1668, 1681]) (n := 207) (v := 0) (t := 240) (by decide +kernel) h97 ?_
        exact Lx_law_240_ok ih H
      rw [if_neg h97] at H
      by_cases h98 : (w32 (jiand (s (-1) (w32 x3)) 63)) = 1
      · rw [if_pos h98] at H
        refine AT.sw (ins := .tableswitch 1694 0 47 #[207, 220, 234, 248, 291, 364, 398, 461, 524, 547, 570, 593, 616, 649, 682, 715, 738, 781, 804, 827, 850, 883, 906, 929, 962, 985, 1018, 1041, 1074, 1087, 1120, 1163, 1186, 1209, 1242, 1285, 1308, 1351, 1404, 1447, 1490, 1533, 1566, 1589, 1612, 1635, 1668, 1681]) (n := 207) (v := 1) (t := 253) (by decide +kernel) h98 ?_
        exact Lx_law_253_ok ih H
      rw [if_neg h98] at H
      by_cases h99 : (w32 (jiand (s (-1) (w32 x3)) 63)) = 2
      · rw [if_pos h99] at H
        refine AT.sw (ins := .tableswitch 1694 0 47 #[207, 220, 234, 248, 291, 364, 398, 461, 524, 547, 570, 593, 616, 649, 682, 715, 738, 781, 804, 827, 850, 883, 906, 929, 962, 985, 1018, 1041, 1074, 1087, 1120, 1163, 1186, 1209, 1242, 1285, 1308, 1351, 1404, 1447, 1490, 1533, 1566, 1589, 1612, 1635, 1668, 1681]) (n := 207) (v := 2) (t := 267) (by decide +kernel) h99 ?_
        exact Lx_law_267_ok ih H
      rw [if_neg h99] at H
      by_cases h100 : (w32 (jiand (s (-1) (w32 x3)) 63)) = 3
      · rw [if_pos h100] at H
        refine AT.sw (ins := .tableswitch 1694 0 47 #[207, 220, 234, 248, 291, 364, 398, 461, 524, 547, 570, 593, 616, 649, 682, 715, 738, 781, 804, 827, 850, 883, 906, 929, 962, 985, 1018, 1041, 1074, 1087, 1120, 1163, 1186, 1209, 1242, 1285, 1308, 1351, 1404, 1447, 1490, 1533, 1566, 1589, 1612, 1635, 1668, 1681]) (n := 207) (v := 3) (t := 281) (by decide +kernel) h100 ?_
        exact Lx_law_281_ok ih H
      rw [if_neg h100] at H
      by_cases h101 : (w32 (jiand (s (-1) (w32 x3)) 63)) = 4
      · rw [if_pos h101] at H
        refine AT.sw (ins := .tableswitch 1694 0 47 #[207, 220, 234, 248, 291, 364, 398, 461, 524, 547, 570, 593, 616, 649, 682, 715, 738, 781, 804, 827, 850, 883, 906, 929, 962, 985, 1018, 1041, 1074, 1087, 1120, 1163, 1186, 1209, 1242, 1285, 1308, 1351, 1404, 1447, 1490, 1533, 1566, 1589, 1612, 1635, 1668, 1681]) (n := 207) (v := 4) (t := 324) (by decide +kernel) h101 ?_
        exact Lx_law_324_ok ih H
      rw [if_neg h101] at H
      by_cases h102 : (w32 (jiand (s (-1) (w32 x3)) 63)) = 5
      · rw [if_pos h102] at H
        refine AT.sw (ins := .tableswitch 1694 0 47 #[207, 220, 234, 248, 291, 364, 398, 461, 524, 547, 570, 593, 616, 649, 682, 715, 738, 781, 804, 827, 850, 883, 906, 929, 962, 985, 1018, 1041, 1074, 1087, 1120, 1163, 1186, 1209, 1242, 1285, 1308, 1351, 1404, 1447, 1490, 1533, 1566, 1589, 1612, 1635, 1668, 1681]) (n := 207) (v := 5) (t := 397) (by decide +kernel) h102 ?_
        exact Lx_law_397_ok ih H
      rw [if_neg h102] at H
      by_cases h103 : (w32 (jiand (s (-1) (w32 x3)) 63)) = 6
      · rw [if_pos h103] at H
        refine AT.sw (ins := .tableswitch 1694 0 47 #[207, 220, 234, 248, 291, 364, 398, 461, 524, 547, 570, 593, 616, 649, 682, 715, 738, 781, 804, 827, 850, 883, 906, 929, 962, 985, 1018, 1041, 1074, 1087, 1120, 1163, 1186, 1209, 1242, 1285, 1308, 1351, 1404, 1447, 1490, 1533, 1566, 1589, 1612, 1635, 1668, 1681]) (n := 207) (v := 6) (t := 431) (by decide +kernel) h103 ?_
        exact Lx_law_431_ok ih H
      rw [if_neg h103] at H
      by_cases h104 : (w32 (jiand (s (-1) (w32 x3)) 63)) = 7
      · rw [if_pos h104] at H
        refine AT.sw (ins := .tableswitch 1694 0 47 #[207, 220, 234, 248, 291, 364, 398, 461, 524, 547, 570, 593, 616, 649, 682, 715, 738, 781, 804, 827, 850, 883, 906, 929, 962, 985, 1018, 1041, 1074, 1087, 1120, 1163, 1186, 1209, 1242, 1285, 1308, 1351, 1404, 1447, 1490, 1533, 1566, 1589, 1612, 1635, 1668, 1681]) (n := 207) (v := 7) (t := 494) (by decide +kernel) h104 ?_
        exact Lx_law_494_ok ih H
      rw [if_neg h104] at H
      by_cases h105 : (w32 (jiand (s (-1) (w32 x3)) 63)) = 8
      · rw [if_pos h105] at H
        refine AT.sw (ins := .tableswitch 1694 0 47 #[207, 220, 234, 248, 291, 364, 398, 461, 524, 547, 570, 593, 616, 649, 682, 715, 738, 781, 804, 827, 850, 883, 906, 929, 962, 985, 1018, 1041, 1074, 1087, 1120, 1163, 1186, 1209, 1242, 1285, 1308, 1351, 1404, 1447, 1490, 1533, 1566, 1589, 1612, 1635, 1668, 1681]) (n := 207) (v := 8) (t := 557) (by decide +kernel) h105 ?_
        exact Lx_law_557_ok ih H
      rw [if_neg h105] at H
      by_cases h106 : (w32 (jiand (s (-1) (w32 x3)) 63)) = 9
      · rw [if_pos h106] at H
        refine AT.sw (ins := .tableswitch 1694 0 47 #[207, 220, 234, 248, 291, 364, 398, 461, 524, 547, 570, 593, 616, 649, 682, 715, 738, 781, 804, 827, 850, 883, 906, 929, 962, 985, 1018, 1041, 1074, 1087, 1120, 1163, 1186, 1209, 1242, 1285, 1308, 1351, 1404, 1447, 1490, 1533, 1566, 1589, 1612, 1635, 1668, 1681]) (n := 207) (v := 9) (t := 580) (by decide +kernel) h106 ?_
        exact Lx_law_580_ok ih H
      rw [if_neg h106] at H
      by_cases h107 : (w32 (jiand (s (-1) (w32 x3)) 63)) = 10
      · rw [if_pos h107] at H
        refine AT.sw (ins := .tableswitch 1694 0 47 #[207, 220, 234, 248, 291, 364, 398, 461, 524, 547, 570, 593, 616, 649, 682, 715, 738, 781, 804, 827, 850, 883, 906, 929, 962, 985, 1018, 1041, 1074, 1087, 1120, 1163, 1186, 1209, 1242, 1285, 1308, 1351, 1404, 1447, 1490, 1533, 1566, 1589, 1612, 1635, 1668, 1681]) (n := 207) (v := 10) (t := 603) (by decide +kernel) h107 ?_
        exact Lx_law_603_ok ih H
      rw [if_neg h107] at H
      by_cases h108 : (w32 (jiand (s (-1) (w32 x3)) 63)) = 11
      · rw [if_pos h108] at H
        refine AT.sw (ins := .tableswitch 1694 0 47 #[207, 220, 234, 248, 291, 364, 398, 461, 524, 547, 570, 593, 616, 649, 682, 715, 738, 781, 804, 827, 850, 883, 906, 929, 962, 985, 1018, 1041, 1074, 1087, 1120, 1163, 1186, 1209, 1242, 1285, 1308, 1351, 1404, 1447, 1490, 1533, 1566, 1589, 1612, 1635, 1668, 1681]) (n := 207) (v := 11) (t := 626) (by decide +kernel) h108 ?_
        exact Lx_law_626_ok ih H
      rw [if_neg h108] at H
      by_cases h109 : (w32 (jiand (s (-1) (w32 x3)) 63)) = 12
      · rw [if_pos h109] at H
        refine AT.sw (ins := .tableswitch 1694 0 47 #[207, 220, 234, 248, 291, 364, 398, 461, 524, 547, 570, 593, 616, 649, 682, 715, 738, 781, 804, 827, 850, 883, 906, 929, 962, 985, 1018, 1041, 1074, 1087, 1120, 1163, 1186, 1209, 1242, 1285, 1308, 1351, 1404, 1447, 1490, 1533, 1566, 1589, 1612, 1635, 1668, 1681]) (n := 207) (v := 12) (t := 649) (by decide +kernel) h109 ?_
        exact Lx_law_649_ok ih H
      rw [if_neg h109] at H
      by_cases h110 : (w32 (jiand (s (-1) (w32 x3)) 63)) = 13
      · rw [if_pos h110] at H
        refine AT.sw (ins := .tableswitch 1694 0 47 #[207, 220, 234, 248, 291, 364, 398, 461, 524, 547, 570, 593, 616, 649, 682, 715, 738, 781, 804, 827, 850, 883, 906, 929, 962, 985, 1018, 1041, 1074, 1087, 1120, 1163, 1186, 1209, 1242, 1285, 1308, 1351, 1404, 1447, 1490, 1533, 1566, 1589, 1612, 1635, 1668, 1681]) (n := 207) (v := 13) (t := 682) (by decide +kernel) h110 ?_
        exact Lx_law_682_ok ih H
      rw [if_neg h110] at H
      by_cases h111 : (w32 (jiand (s (-1) (w32 x3)) 63)) = 14
      · rw [if_pos h111] at H
        refine AT.sw (ins := .tableswitch 1694 0 47 #[207, 220, 234, 248, 291, 364, 398, 461, 524, 547, 570, 593, 616, 649, 682, 715, 738, 781, 804, 827, 850, 883, 906, 929, 962, 985, 1018, 1041, 1074, 1087, 1120, 1163, 1186, 1209, 1242, 1285, 1308, 1351, 1404, 1447, 1490, 1533, 1566, 1589, 1612, 1635, 1668, 1681]) (n := 207) (v := 14) (t := 715) (by decide +kernel) h111 ?_
        exact Lx_law_715_ok ih H
      rw [if_neg h111] at H
      by_cases h112 : (w32 (jiand (s (-1) (w32 x3)) 63)) = 15
      · rw [if_pos h112] at H
        refine AT.sw (ins := .tableswitch 1694 0 47 #[207, 220, 234, 248, 291, 364, 398, 461, 524, 547, 570, 593, 616, 649, 682, 715, 738, 781, 804, 827, 850, 883, 906, 929, 962, 985, 1018, 1041, 1074, 1087, 1120, 1163, 1186, 1209, 1242, 1285, 1308, 1351, 1404, 1447, 1490, 1533, 1566, 1589, 1612, 1635, 1668, 1681]) (n := 207) (v := 15) (t := 748) (by decide +kernel) h112 ?_
        exact Lx_law_748_ok ih H
      rw [if_neg h112] at H
      by_cases h113 : (w32 (jiand (s (-1) (w32 x3)) 63)) = 16
      · rw [if_pos h113] at H
        refine AT.sw (ins := .tableswitch 1694 0 47 #[207, 220, 234, 248, 291, 364, 398, 461, 524, 547, 570, 593, 616, 649, 682, 715, 738, 781, 804, 827, 850, 883, 906, 929, 962, 985, 1018, 1041, 1074, 1087, 1120, 1163, 1186, 1209, 1242, 1285, 1308, 1351, 1404, 1447, 1490, 1533, 1566, 1589, 1612, 1635, 1668, 1681]) (n := 207) (v := 16) (t := 771) (by decide +kernel) h113 ?_
        exact Lx_law_771_ok ih H
      rw [if_neg h113] at H
      by_cases h114 : (w32 (jiand (s (-1) (w32 x3)) 63)) = 17
      · rw [if_pos h114] at H
        refine AT.sw (ins := .tableswitch 1694 0 47 #[207, 220, 234, 248, 291, 364, 398, 461, 524, 547, 570, 593, 616, 649, 682, 715, 738, 781, 804, 827, 850, 883, 906, 929, 962, 985, 1018, 1041, 1074, 1087, 1120, 1163, 1186, 1209, 1242, 1285, 1308, 1351, 1404, 1447, 1490, 1533, 1566, 1589, 1612, 1635, 1668, 1681]) (n := 207) (v := 17) (t := 814) (by decide +kernel) h114 ?_
        exact Lx_law_814_ok ih H
      rw [if_neg h114] at H
      by_cases h115 : (w32 (jiand (s (-1) (w32 x3)) 63)) = 18
      · rw [if_pos h115] at H
        refine AT.sw (ins := .tableswitch 1694 0 47 #[207, 220, 234, 248, 291, 364, 398, 461, 524, 547, 570, 593, 616, 649, 682, 715, 738, 781, 804, 827, 850, 883, 906, 929, 962, 985, 1018, 1041, 1074, 1087, 1120, 1163, 1186, 1209, 1242, 1285, 1308, 1351, 1404, 1447, 1490, 1533, 1566, 1589, 1612, 1635, 1668, 1681]) (n := 207) (v := 18) (t := 837) (by decide +kernel) h115 ?_
        exact Lx_law_837_ok ih H
      rw [if_neg h115] at H
      by_cases h116 : (w32 (jiand (s (-1) (w32 x3)) 63)) = 19
      · rw [if_pos h116] at H
        refine AT.sw (ins := .tableswitch 1694 0 47 #[207, 220, 234, 248, 291, 364, 398, 461, 524, 547, 570, 593, 616, 649, 682, 715, 738, 781, 804, 827, 850, 883, 906, 929, 962, 985, 1018, 1041, 1074, 1087, 1120, 1163, 1186, 1209, 1242, 1285, 1308, 1351, 1404, 1447, 1490, 1533, 1566, 1589, 1612, 1635, 1668, 1681]) (n := 207) (v := 19) (t := 860) (by decide +kernel) h116 ?_
        exact Lx_law_860_ok ih H
      rw [if_neg h116] at H
      by_cases h117 : (w32 (jiand (s (-1) (w32 x3)) 63)) = 20
      · rw [if_pos h117] at H
        refine AT.sw (ins := .tableswitch 1694 0 47 #[207, 220, 234, 248, 291, 364, 398, 461, 524, 547, 570, 593, 616, 649, 682, 715, 738, 781, 804, 827, 850, 883, 906, 929, 962, 985, 1018, 1041, 1074, 1087, 1120, 1163, 1186, 1209, 1242, 1285, 1308, 1351, 1404, 1447, 1490, 1533, 1566, 1589, 1612, 1635, 1668, 1681]) (n := 207) (v := 20) (t := 883) (by decide +kernel) h117 ?_
        exact Lx_law_883_ok ih H
      rw [if_neg h117] at H
      by_cases h118 : (w32 (jiand (s (-1) (w32 x3)) 63)) = 21
      · rw [if_pos h118] at H
        refine AT.sw (ins := .tableswitch 1694 0 47 #[207, 220, 234, 248, 291, 364, 398, 461, 524, 547, 570, 593, 616, 649, 682, 715, 738, 781, 804, 827, 850, 883, 906, 929, 962, 985, 1018, 1041, 1074, 1087, 1120, 1163, 1186, 1209, 1242, 1285, 1308, 1351, 1404, 1447, 1490, 1533, 1566, 1589, 1612, 1635, 1668, 1681]) (n := 207) (v := 21) (t := 916) (by decide +kernel) h118 ?_
        exact Lx_law_916_ok ih H
      rw [if_neg h118] at H
      by_cases h119 : (w32 (jiand (s (-1) (w32 x3)) 63)) = 22
      · rw [if_pos h119] at H
        refine AT.sw (ins := .tableswitch 1694 0 47 #[207, 220, 234, 248, 291, 364, 398, 461, 524, 547, 570, 593, 616, 649, 682, 715, 738, 781, 804, 827, 850, 883, 906, 929, 962, 985, 1018, 1041, 1074, 1087, 1120, 1163, 1186, 1209, 1242, 1285, 1308, 1351, 1404, 1447, 1490, 1533, 1566, 1589, 1612, 1635, 1668, 1681]) (n := 207) (v := 22) (t := 939) (by decide +kernel) h119 ?_
        exact Lx_law_939_ok ih H
      rw [if_neg h119] at H
      by_cases h120 : (w32 (jiand (s (-1) (w32 x3)) 63)) = 23
      · rw [if_pos h120] at H
        refine AT.sw (ins := .tableswitch 1694 0 47 #[207, 220, 234, 248, 291, 364, 398, 461, 524, 547, 570, 593, 616, 649, 682, 715, 738, 781, 804, 827, 850, 883, 906, 929, 962, 985, 1018, 1041, 1074, 1087, 1120, 1163, 1186, 1209, 1242, 1285, 1308, 1351, 1404, 1447, 1490, 1533, 1566, 1589, 1612, 1635, 1668, 1681]) (n := 207) (v := 23) (t := 962) (by decide +kernel) h120 ?_
        exact Lx_law_962_ok ih H
      rw [if_neg h120] at H
      by_cases h121 : (w32 (jiand (s (-1) (w32 x3)) 63)) = 24
      · rw [if_pos h121] at H
        refine AT.sw (ins := .tableswitch 1694 0 47 #[207, 220, 234, 248, 291, 364, 398, 461, 524, 547, 570, 593, 616, 649, 682, 715, 738, 781, 804, 827, 850, 883, 906, 929, 962, 985, 1018, 1041, 1074, 1087, 1120, 1163, 1186, 1209, 1242, 1285, 1308, 1351, 1404, 1447, 1490, 1533, 1566, 1589, 1612, 1635, 1668, 1681]) (n := 207) (v := 24) (t := 995) (by decide +kernel) h121 ?_
        exact Lx_law_995_ok ih H
      rw [if_neg h121] at H
      by_cases h122 : (w32 (jiand (s (-1) (w32 x3)) 63)) = 25
      · rw [if_pos h122] at H
        refine AT.sw (ins := .tableswitch 1694 0 47 #[207, 220, 234, 248, 291, 364, 398, 461, 524, 547, 570, 593, 616, 649, 682, 715, 738, 781, 804, 827, 850, 883, 906, 929, 962, 985, 1018, 1041, 1074, 1087, 1120, 1163, 1186, 1209, 1242, 1285, 1308, 1351, 1404, 1447, 1490, 1533, 1566, 1589, 1612, 1635, 1668, 1681]) (n := 207) (v := 25) (t := 1018) (by decide +kernel) h122 ?_
        exact Lx_law_1018_ok ih H
      rw [if_neg h122] at H
      by_cases h123 : (w32 (jiand (s (-1) (w32 x3)) 63)) = 26
      · rw [if_pos h123] at H
        refine AT.sw (ins := .tableswitch 1694 0 47 #[207, 220, 234, 248, 291, 364, 398, 461, 524, 547, 570, 593, 616, 649, 682, 715, 738, 781, 804, 827, 850, 883, 906, 929, 962, 985, 1018, 1041, 1074, 1087, 1120, 1163, 1186, 1209, 1242, 1285, 1308, 1351, 1404, 1447, 1490, 1533, 1566, 1589, 1612, 1635, 1668, 1681]) (n := 207) (v := 26) (t := 1051) (by decide +kernel) h123 ?_
        exact Lx_law_1051_ok ih H
      rw [if_neg h123] at H
      by_cases h124 : (w32 (jiand (s (-1) (w32 x3)) 63)) = 27
      · rw [if_pos h124] at H
        refine AT.sw (ins := .tableswitch 1694 0 47 #[207, 220, 234, 248, 291, 364, 398, 461, 524, 547, 570, 593, 616, 649, 682, 715, 738, 781, 804, 827, 850, 883, 906, 929, 962, 985, 1018, 1041, 1074, 1087, 1120, 1163, 1186, 1209, 1242, 1285, 1308, 1351, 1404, 1447, 1490, 1533, 1566, 1589, 1612, 1635, 1668, 1681]) (n := 207) (v := 27) (t := 1074) (by decide +kernel) h124 ?_
        exact Lx_law_1074_ok ih H
      rw [if_neg h124] at H
      by_cases h125 : (w32 (jiand (s (-1) (w32 x3)) 63)) = 28
      · rw [if_pos h125] at H
        refine AT.sw (ins := .tableswitch 1694 0 47 #[207, 220, 234, 248, 291, 364, 398, 461, 524, 547, 570, 593, 616, 649, 682, 715, 738, 781, 804, 827, 850, 883, 906, 929, 962, 985, 1018, 1041, 1074, 1087, 1120, 1163, 1186, 1209, 1242, 1285, 1308, 1351, 1404, 1447, 1490, 1533, 1566, 1589, 1612, 1635, 1668, 1681]) (n := 207) (v := 28) (t := 1107) (by decide +kernel) h125 ?_
        exact Lx_law_1107_ok ih H
      rw [if_neg h125] at H
      by_cases h126 : (w32 (jiand (s (-1) (w32 x3)) 63)) = 29
      · rw [if_pos h126] at H
        refine AT.sw (ins := .tableswitch 1694 0 47 #[207, 220, 234, 248, 291, 364, 398, 461, 524, 547, 570, 593, 616, 649, 682, 715, 738, 781, 804, 827, 850, 883, 906, 929, 962, 985, 1018, 1041, 1074, 1087, 1120, 1163, 1186, 1209, 1242, 1285, 1308, 1351, 1404, 1447, 1490, 1533, 1566, 1589, 1612, 1635, 1668, 1681]) (n := 207) (v := 29) (t := 1120) (by decide +kernel) h126 ?_
        exact Lx_law_1120_ok ih H
      rw [if_neg h126] at H
      by_cases h127 : (w32 (jiand (s (-1) (w32 x3)) 63)) = 30
      · rw [if_pos h127] at H
        refine AT.sw (ins := .tableswitch 1694 0 47 #[207, 220, 234, 248, 291, 364, 398, 461, 524, 547, 570, 593, 616, 649, 682, 715, 738, 781, 804, 827, 850, 883, 906, 929, 962, 985, 1018, 1041, 1074, 1087, 1120, 1163, 1186, 1209, 1242, 1285, 1308, 1351, 1404, 1447, 1490, 1533, 1566, 1589, 1612, 1635, 1668, 1681]) (n := 207) (v := 30) (t := 1153) (by decide +kernel) h127 ?_
        exact Lx_law_1153_ok ih H
      rw [if_neg h127] at H
      by_cases h128 : (w32 (jiand (s (-1) (w32 x3)) 63)) = 31
      · rw [if_pos h128] at H
        refine AT.sw (ins := .tableswitch 1694 0 47 #[207, 220, 234, 248, 291, 364, 398, 461, 524, 547, 570, 593, 616, 649, 682, 715, 738, 781, 804, 827, 850, 883, 906, 929, 962, 985, 1018, 1041, 1074, 1087, 1120, 1163, 1186, 1209, 1242, 1285, 1308, 1351, 1404, 1447, 1490, 1533, 1566, 1589, 1612, 1635, 1668, 1681]) (n := 207) (v := 31) (t := 1196) (by decide +kernel) h128 ?_
        exact Lx_law_1196_ok ih H
      rw [if_neg h128] at H
      by_cases h129 : (w32 (jiand (s (-1) (w32 x3)) 63)) = 32
      · rw [if_pos h129] at H
        refine AT.sw (ins := .tableswitch 1694 0 47 #[207, 220, 234, 248, 291, 364, 398, 461, 524, 547, 570, 593, 616, 649, 682, 715, 738, 781, 804, 827, 850, 883, 906, 929, 962, 985, 1018, 1041, 1074, 1087, 1120, 1163, 1186, 1209, 1242, 1285, 1308, 1351, 1404, 1447, 1490, 1533, 1566, 1589, 1612, 1635, 1668, 1681]) (n := 207) (v := 32) (t := 1219) (by decide +kernel) h129 ?_
        exact Lx_law_1219_ok ih H
      rw [if_neg h129] at H
      by_cases h130 : (w32 (jiand (s (-1) (w32 x3)) 63)) = 33
      · rw [if_pos h130] at H
        refine AT.sw (ins := .tableswitch 1694 0 47 #[207, 220, 234, 248, 291, 364, 398, 461, 524, 547, 570, 593, 616, 649, 682, 715, 738, 781, 804, 827, 850, 883, 906, 929, 962, 985, 1018, 1041, 1074, 1087, 1120, 1163, 1186, 1209, 1242, 1285, 1308, 1351, 1404, 1447, 1490, 1533, 1566, 1589, 1612, 1635, 1668, 1681]) (n := 207) (v := 33) (t := 1242) (by decide +kernel) h130 ?_
        exact Lx_law_1242_ok ih H
      rw [if_neg h130] at H
      by_cases h131 : (w32 (jiand (s (-1) (w32 x3)) 63)) = 34
      · rw [if_pos h131] at H
        refine AT.sw (ins := .tableswitch 1694 0 47 #[207, 220, 234, 248, 291, 364, 398, 461, 524, 547, 570, 593, 616, 649, 682, 715, 738, 781, 804, 827, 850, 883, 906, 929, 962, 985, 1018, 1041, 1074, 1087, 1120, 1163, 1186, 1209, 1242, 1285, 1308, 1351, 1404, 1447, 1490, 1533, 1566, 1589, 1612, 1635, 1668, 1681]) (n := 207) (v := 34) (t := 1275) (by decide +kernel) h131 ?_
        exact Lx_law_1275_ok ih H
      rw [if_neg h131] at H
      by_cases h132 : (w32 (jiand (s (-1) (w32 x3)) 63)) = 35
      · rw [if_pos h132] at H
        refine AT.sw (ins := .tableswitch 1694 0 47 #[207, 220, 234, 248, 291, 364, 398, 461, 524, 547, 570, 593, 616, 649, 682, 715, 738, 781, 804, 827, 850, 883, 906, 929, 962, 985, 1018, 1041, 1074, 1087, 1120, 1163, 1186, 1209, 1242, 1285, 1308, 1351, 1404, 1447, 1490, 1533, 1566, 1589, 1612, 1635, 1668, 1681]) (n := 207) (v := 35) (t := 1318) (by decide +kernel) h132 ?_
        exact Lx_law_1318_ok ih H
      rw [if_neg h132] at H
      by_cases h133 : (w32 (jiand (s (-1) (w32 x3)) 63)) = 36
      · rw [if_pos h133] at H
        refine AT.sw (ins := .tableswitch 1694 0 47 #[207, 220, 234, 248, 291, 364, 398, 461, 524, 547, 570, 593, 616, 649, 682, 715, 738, 781, 804, 827, 850, 883, 906, 929, 962, 985, 1018, 1041, 1074, 1087, 1120, 1163, 1186, 1209, 1242, 1285, 1308, 1351, 1404, 1447, 1490, 1533, 1566, 1589, 1612, 1635, 1668, 1681]) (n := 207) (v := 36) (t := 1341) (by decide +kernel) h133 ?_
        exact Lx_law_1341_ok ih H
      rw [if_neg h133] at H
      by_cases h134 : (w32 (jiand (s (-1) (w32 x3)) 63)) = 37
      · rw [if_pos h134] at H
        refine AT.sw (ins := .tableswitch 1694 0 47 #[207, 220, 234, 248, 291, 364, 398, 461, 524, 547, 570, 593, 616, 649, 682, 715, 738, 781, 804, 827, 850, 883, 906, 929, 962, 985, 1018, 1041, 1074, 1087, 1120, 1163, 1186, 1209, 1242, 1285, 1308, 1351, 1404, 1447, 1490, 1533, 1566, 1589, 1612, 1635, 1668, 1681]) (n := 207) (v := 37) (t := 1384) (by decide +kernel) h134 ?_
        exact Lx_law_1384_ok ih H
      rw [if_neg h134] at H
      by_cases h135 : (w32 (jiand (s (-1) (w32 x3)) 63)) = 38
      · rw [if_pos h135] at H
        refine AT.sw (ins := .tableswitch 1694 0 47 #[207, 220, 234, 248, 291, 364, 398, 461, 524, 547, 570, 593, 616, 649, 682, 715, 738, 781, 804, 827, 850, 883, 906, 929, 962, 985, 1018, 1041, 1074, 1087, 1120, 1163, 1186, 1209, 1242, 1285, 1308, 1351, 1404, 1447, 1490, 1533, 1566, 1589, 1612, 1635, 1668, 1681]) (n := 207) (v := 38) (t := 1437) (by decide +kernel) h135 ?_
        exact Lx_law_1437_ok ih H
      rw [if_neg h135] at H
      by_cases h136 : (w32 (jiand (s (-1) (w32 x3)) 63)) = 39
      · rw [if_pos h136] at H
        refine AT.sw (ins := .tableswitch 1694 0 47 #[207, 220, 234, 248, 291, 364, 398, 461, 524, 547, 570, 593, 616, 649, 682, 715, 738, 781, 804, 827, 850, 883, 906, 929, 962, 985, 1018, 1041, 1074, 1087, 1120, 1163, 1186, 1209, 1242, 1285, 1308, 1351, 1404, 1447, 1490, 1533, 1566, 1589, 1612, 1635, 1668, 1681]) (n := 207) (v := 39) (t := 1480) (by decide +kernel) h136 ?_
        exact Lx_law_1480_ok ih H
      rw [if_neg h136] at H
      by_cases h137 : (w32 (jiand (s (-1) (w32 x3)) 63)) = 40
      · rw [if_pos h137] at H
        refine AT.sw (ins := .tableswitch 1694 0 47 #[207, 220, 234, 248, 291, 364, 398, 461, 524, 547, 570, 593, 616, 649, 682, 715, 738, 781, 804, 827, 850, 883, 906, 929, 962, 985, 1018, 1041, 1074, 1087, 1120, 1163, 1186, 1209, 1242, 1285, 1308, 1351, 1404, 1447, 1490, 1533, 1566, 1589, 1612, 1635, 1668, 1681]) (n := 207) (v := 40) (t := 1523) (by decide +kernel) h137 ?_
        exact Lx_law_1523_ok ih H
      rw [if_neg h137] at H
      by_cases h138 : (w32 (jiand (s (-1) (w32 x3)) 63)) = 41
      · rw [if_pos h138] at H
        refine AT.sw (ins := .tableswitch 1694 0 47 #[207, 220, 234, 248, 291, 364, 398, 461, 524, 547, 570, 593, 616, 649, 682, 715, 738, 781, 804, 827, 850, 883, 906, 929, 962, 985, 1018, 1041, 1074, 1087, 1120, 1163, 1186, 1209, 1242, 1285, 1308, 1351, 1404, 1447, 1490, 1533, 1566, 1589, 1612, 1635, 1668, 1681]) (n := 207) (v := 41) (t := 1566) (by decide +kernel) h138 ?_
        exact Lx_law_1566_ok ih H
      rw [if_neg h138] at H
      by_cases h139 : (w32 (jiand (s (-1) (w32 x3)) 63)) = 42
      · rw [if_pos h139] at H
        refine AT.sw (ins := .tableswitch 1694 0 47 #[207, 220, 234, 248, 291, 364, 398, 461, 524, 547, 570, 593, 616, 649, 682, 715, 738, 781, 804, 827, 850, 883, 906, 929, 962, 985, 1018, 1041, 1074, 1087, 1120, 1163, 1186, 1209, 1242, 1285, 1308, 1351, 1404, 1447, 1490, 1533, 1566, 1589, 1612, 1635, 1668, 1681]) (n := 207) (v := 42) (t := 1599) (by decide +kernel) h139 ?_
        exact Lx_law_1599_ok ih H
      rw [if_neg h139] at H
      by_cases h140 : (w32 (jiand (s (-1) (w32 x3)) 63)) = 43
      · rw [if_pos h140] at H
        refine AT.sw (ins := .tableswitch 1694 0 47 #[207, 220, 234, 248, 291, 364, 398, 461, 524, 547, 570, 593, 616, 649, 682, 715, 738, 781, 804, 827, 850, 883, 906, 929, 962, 985, 1018, 1041, 1074, 1087, 1120, 1163, 1186, 1209, 1242, 1285, 1308, 1351, 1404, 1447, 1490, 1533, 1566, 1589, 1612, 1635, 1668, 1681]) (n := 207) (v := 43) (t := 1622) (by decide +kernel) h140 ?_
        exact Lx_law_1622_ok ih H
      rw [if_neg h140] at H
      by_cases h141 : (w32 (jiand (s (-1) (w32 x3)) 63)) = 44
      · rw [if_pos h141] at H
        refine AT.sw (ins := .tableswitch 1694 0 47 #[207, 220, 234, 248, 291, 364, 398, 461, 524, 547, 570, 593, 616, 649, 682, 715, 738, 781, 804, 827, 850, 883, 906, 929, 962, 985, 1018, 1041, 1074, 1087, 1120, 1163, 1186, 1209, 1242, 1285, 1308, 1351, 1404, 1447, 1490, 1533, 1566, 1589, 1612, 1635, 1668, 1681]) (n := 207) (v := 44) (t := 1645) (by decide +kernel) h141 ?_
        exact Lx_law_1645_ok ih H
      rw [if_neg h141] at H
      by_cases h142 : (w32 (jiand (s (-1) (w32 x3)) 63)) = 45
      · rw [if_pos h142] at H
        refine AT.sw (ins := .tableswitch 1694 0 47 #[207, 220, 234, 248, 291, 364, 398, 461, 524, 547, 570, 593, 616, 649, 682, 715, 738, 781, 804, 827, 850, 883, 906, 929, 962, 985, 1018, 1041, 1074, 1087, 1120, 1163, 1186, 1209, 1242, 1285, 1308, 1351, 1404, 1447, 1490, 1533, 1566, 1589, 1612, 1635, 1668, 1681]) (n := 207) (v := 45) (t := 1668) (by decide +kernel) h142 ?_
        exact Lx_law_1668_ok ih H
      rw [if_neg h142] at H
      by_cases h143 : (w32 (jiand (s (-1) (w32 x3)) 63)) = 46
      · rw [if_pos h143] at H
        refine AT.sw (ins := .tableswitch 1694 0 47 #[207, 220, 234, 248, 291, 364, 398, 461, 524, 547, 570, 593, 616, 649, 682, 715, 738, 781, 804, 827, 850, 883, 906, 929, 962, 985, 1018, 1041, 1074, 1087, 1120, 1163, 1186, 1209, 1242, 1285, 1308, 1351, 1404, 1447, 1490, 1533, 1566, 1589, 1612, 1635, 1668, 1681]) (n := 207) (v := 46) (t := 1701) (by decide +kernel) h143 ?_
        exact Lx_law_1701_ok ih H
      rw [if_neg h143] at H
      by_cases h144 : (w32 (jiand (s (-1) (w32 x3)) 63)) = 47
      · rw [if_pos h144] at H
        refine AT.sw (ins := .tableswitch 1694 0 47 #[207, 220, 234, 248, 291, 364, 398, 461, 524, 547, 570, 593, 616, 649, 682, 715, 738, 781, 804, 827, 850, 883, 906, 929, 962, 985, 1018, 1041, 1074, 1087, 1120, 1163, 1186, 1209, 1242, 1285, 1308, 1351, 1404, 1447, 1490, 1533, 1566, 1589, 1612, 1635, 1668, 1681]) (n := 207) (v := 47) (t := 1714) (by decide +kernel) h144 ?_
        exact Lx_law_1714_ok ih H
      rw [if_neg h144] at H
      refine AT.swd (df := 1694) (lo := 0) (hi := 47) (offs := #[207, 220, 234, 248, 291, 364, 398, 461, 524, 547, 570, 593, 616, 649, 682, 715, 738, 781, 804, 827, 850, 883, 906, 929, 962, 985, 1018, 1041, 1074, 1087, 1120, 1163, 1186, 1209, 1242, 1285, 1308, 1351, 1404, 1447, 1490, 1533, 1566, 1589, 1612, 1635, 1668, 1681]) (n := 207) (t := 1727) (by decide +kernel) (by omega) ?_
      exact Lx_law_1727_ok ih H
theorem Lx_law_ok {x1 x2 : Int} {s : jM} {o : Int × jM} (H : Lx_law x1 x2 s = some o) : AT sLw_law 32 (16, [(3, 0), (4, x1), (15, x2), (99, 0)], [], s) o := by
  unfold Lx_law at H
  refine AT.seq [(16, .iconst 0, 1, (0, 0, 0)), (17, .istore_n 3, 1, (0, 0, 0))] (by decide +kernel) (show jrun _ (16, [(3, 0), (4, x1), (15, x2), (99, 0)], [], s) = some ([], (18, [(3, 0), (4, x1), (15, x2), (0, 0)], [], s)) from rfl) ?_
  exact Lx_law_18_ok  jFU _ _ _ _ _ H
