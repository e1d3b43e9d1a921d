set_option maxRecDepth 100000 in
set_option maxHeartbeats 200000 in
theorem LW_27 {X : CX} {R : Room} {Q : State → Prop} {kC sC Ls j n : Nat} {xs : Nat → Int32} {h h' : Hp} (hX : OkQ X cL_law_ 7 RL (some .boolean)) (hScr : ScrQ X Ls xs) (hL : Ls ≤ 3072) (hj : j + 6 ≤ Ls) (hR : 80 ≤ R.frames ∧ 80 * 80 ≤ R.locals ∧ kC + 1 ≤ R.cells ∧ sC + 6 ≤ R.slots) (hst : St_27 (fun i => xs (j + i)) h h' n) (kk : JQ X R Q (kC + n) (sC + 6 * n) 2799 [(0, .ref 0), (1, .ref 1), (2, .ref 30), (3, .ref 50), (4, .int (nI j))] [] h') : JQ X R Q kC sC 1733 [(0, .ref 0), (1, .ref 1), (2, .ref 30), (3, .ref 50), (4, .int (nI j))] [] h := by
  have hr1 := hR.2.2.1
  have hr2 := hR.2.2.2
  unfold St_27 at hst
  try dsimp only at hst
  obtain ⟨v, h1, e1, e2, rfl⟩ := hst
  refine Q_aload_n hX 1 dL_law__1733 rfl rfl ?_
  refine Q_V1 hX [] dL_law__1734 lv_235 ob_1 rfl (C_X11_eases (okGQ hX) e1) (Nat.le_trans (by decide) hR.1) (Nat.le_trans (by decide) hR.2.1) rfl rfl rfl rfl ⟨by omega, by omega⟩ ?_
  refine Q_aload_n hX 2 dL_law__1737 rfl rfl ?_
  refine Q_V1 hX [] dL_law__1738 lv_238 ob_30 rfl (C_X12_eases (okGQ hX) e2) (Nat.le_trans (by decide) hR.1) (Nat.le_trans (by decide) hR.2.1) rfl rfl rfl rfl ⟨by omega, by omega⟩ ?_
  refine Q_icmp_eqT hX 2799 dL_law__1741 rfl rfl ?_
  exact kk
set_option maxRecDepth 100000 in
set_option maxHeartbeats 200000 in
theorem LW_28 {X : CX} {R : Room} {Q : State → Prop} {kC sC Ls j n : Nat} {xs : Nat → Int32} {h h' : Hp} (hX : OkQ X cL_law_ 7 RL (some .boolean)) (hScr : ScrQ X Ls xs) (hL : Ls ≤ 3072) (hj : j + 6 ≤ Ls) (hR : 80 ≤ R.frames ∧ 80 * 80 ≤ R.locals ∧ kC + 1 ≤ R.cells ∧ sC + 6 ≤ R.slots) (hst : St_28 (fun i => xs (j + i)) h h' n) (kk : JQ X R Q (kC + n) (sC + 6 * n) 2799 [(0, .ref 0), (1, .ref 1), (2, .ref 30), (3, .ref 50), (4, .int (nI j))] [] h') : JQ X R Q kC sC 1746 [(0, .ref 0), (1, .ref 1), (2, .ref 30), (3, .ref 50), (4, .int (nI j))] [] h := by
  have hr1 := hR.2.2.1
  have hr2 := hR.2.2.2
  unfold St_28 at hst
  try dsimp only at hst
  obtain ⟨v, h1, e1, e2, rfl⟩ := hst
  refine Q_aload_n hX 1 dL_law__1746 rfl rfl ?_
  refine Q_V1 hX [] dL_law__1747 lv_239 ob_1 rfl (C_X11_sagging (okGQ hX) e1) (Nat.le_trans (by decide) hR.1) (Nat.le_trans (by decide) hR.2.1) rfl rfl rfl rfl ⟨by omega, by omega⟩ ?_
  refine Q_aload_n hX 2 dL_law__1750 rfl rfl ?_
  refine Q_V1 hX [] dL_law__1751 lv_242 ob_30 rfl (C_X12_sagging (okGQ hX) e2) (Nat.le_trans (by decide) hR.1) (Nat.le_trans (by decide) hR.2.1) rfl rfl rfl rfl ⟨by omega, by omega⟩ ?_
  refine Q_icmp_eqT hX 2799 dL_law__1754 rfl rfl ?_
  exact kk
set_option maxRecDepth 100000 in
set_option maxHeartbeats 200000 in
theorem LW_29 {X : CX} {R : Room} {Q : State → Prop} {kC sC Ls j n : Nat} {xs : Nat → Int32} {h h' : Hp} (hX : OkQ X cL_law_ 7 RL (some .boolean)) (hScr : ScrQ X Ls xs) (hL : Ls ≤ 3072) (hj : j + 6 ≤ Ls) (hR : 80 ≤ R.frames ∧ 80 * 80 ≤ R.locals ∧ kC + 1 ≤ R.cells ∧ sC + 6 ≤ R.slots) (hst : St_29 (fun i => xs (j + i)) h h' n) (kk : JQ X R Q (kC + n) (sC + 6 * n) 2799 [(0, .ref 0), (1, .ref 1), (2, .ref 30), (3, .ref 50), (4, .int (nI j))] [] h') : JQ X R Q kC sC 1759 [(0, .ref 0), (1, .ref 1), (2, .ref 30), (3, .ref 50), (4, .int (nI j))] [] h := by
  have hr1 := hR.2.2.1
  have hr2 := hR.2.2.2
  unfold St_29 at hst
  try dsimp only at hst
  rcases hst with ⟨v, h1, b, e1, e2, e3, e4, rfl⟩ | ⟨h1, b, e1, e2, e3, rfl⟩
  · refine Q_aload_n hX 1 dL_law__1759 rfl rfl ?_
    refine Q_aload_n hX 0 dL_law__1760 rfl rfl ?_
    refine Q_iload hX 4 dL_law__1761 rfl ?_
    refine Q_iconst hX 1 dL_law__1763 rfl ?_
    refine Q_iadd hX dL_law__1764 ?_
    refine Q_arg hX hScr hL hj 1 rfl (by decide) dL_law__1765 ?_
    refine Q_aload_n hX 3 dL_law__1766 rfl rfl ?_
    refine Q_W1 hX [.ref 1, .int (xs (j + 1)), .ref 50] dL_law__1767 lw_243 (CW_ring_ok (okGQ hX) e1) (Nat.le_trans (by decide) hR.1) (Nat.le_trans (by decide) hR.2.1) rfl rfl rfl rfl ⟨by omega, by omega⟩ ?_
    refine Q_istore hX [(5, .int 0), (0, .ref 0), (1, .ref 1), (2, .ref 30), (3, .ref 50), (4, .int (nI j))] dL_law__1770 rfl rfl ?_
    refine Q_aload_n hX 3 dL_law__1772 rfl rfl ?_
    refine Q_aload_n hX 1 dL_law__1773 rfl rfl ?_
    refine Q_iload hX 5 dL_law__1774 rfl ?_
    refine Q_iconst hX 1 dL_law__1776 rfl ?_
    refine Q_iadd hX dL_law__1777 ?_
    refine Q_arg hX hScr hL hj 1 rfl (by decide) dL_law__1778 ?_
    refine Q_V1 hX [.int (xs (j + 1))] dL_law__1779 lv_245 ob_30 rfl (C_X12_ring (okGQ hX) e2) (Nat.le_trans (by decide) hR.1) (Nat.le_trans (by decide) hR.2.1) rfl rfl rfl rfl ⟨by omega, by omega⟩ ?_
    refine Q_istore hX [(6, .int (b2i b)), (5, .int 0), (0, .ref 0), (1, .ref 1), (2, .ref 30), (3, .ref 50), (4, .int (nI j))] dL_law__1782 rfl rfl ?_
    refine Q_aload_n hX 4 dL_law__1784 rfl rfl ?_
    refine Q_V1 hX [] dL_law__1785 lv_150 ob_30 rfl (C_X12_thrown (okGQ hX) rfl) (Nat.le_trans (by decide) hR.1) (Nat.le_trans (by decide) hR.2.1) rfl rfl rfl rfl ⟨by omega, by omega⟩ ?_
    refine Q_nm e3 ?_
    refine Q_iload hX 1 dL_law__1788 rfl ?_
    refine Q_icmp_eqT hX 1795 dL_law__1790 rfl rfl ?_
    refine Q_iload hX 1 dL_law__1795 rfl ?_
    refine Q_if_neF hX 1819 dL_law__1797 rfl rfl ?_
    refine Q_aload_n hX 5 dL_law__1800 rfl rfl ?_
    refine Q_iconst hX 0 dL_law__1801 rfl ?_
    refine Q_lald hX dL_law__1802 ar_50 (by decide) ?_
    refine Q_nmL (congrArg Int32.toInt64 e4) ?_
    refine Q_iload hX 0 dL_law__1803 rfl ?_
    cases b
    · refine Q_if_eqT hX 1812 dL_law__1805 rfl rfl ?_
      refine Q_lconst hX 0 dL_law__1812 rfl ?_
      refine Q_nmL (show (0 : Int64) = (b2i false).toInt64 by decide) ?_
      refine Q_lcmp hX dL_law__1813 ?_
      refine Q_if_eqT hX 1819 dL_law__1814 rfl (lg_cmp_self _) ?_
      refine Q_goto hX 2799 dL_law__1819 rfl ?_
      refine Q_sub [2, 3, 4, 5, 6] [(0, .ref 0), (1, .ref 1), (2, .ref 30), (3, .ref 50), (4, .int (nI j))] rfl ?_
      exact kk
    · refine Q_if_eqF hX 1812 dL_law__1805 rfl (by decide) ?_
      refine Q_lconst hX 1 dL_law__1808 rfl ?_
      refine Q_nmL (show (1 : Int64) = (b2i true).toInt64 by decide) ?_
      refine Q_goto hX 1813 dL_law__1809 rfl ?_
      refine Q_lcmp hX dL_law__1813 ?_
      refine Q_if_eqT hX 1819 dL_law__1814 rfl (lg_cmp_self _) ?_
      refine Q_goto hX 2799 dL_law__1819 rfl ?_
      refine Q_sub [2, 3, 4, 5, 6] [(0, .ref 0), (1, .ref 1), (2, .ref 30), (3, .ref 50), (4, .int (nI j))] rfl ?_
      exact kk
  · refine Q_aload_n hX 1 dL_law__1759 rfl rfl ?_
    refine Q_aload_n hX 0 dL_law__1760 rfl rfl ?_
    refine Q_iload hX 4 dL_law__1761 rfl ?_
    refine Q_iconst hX 1 dL_law__1763 rfl ?_
    refine Q_iadd hX dL_law__1764 ?_
    refine Q_arg hX hScr hL hj 1 rfl (by decide) dL_law__1765 ?_
    refine Q_aload_n hX 3 dL_law__1766 rfl rfl ?_
    refine Q_W1 hX [.ref 1, .int (xs (j + 1)), .ref 50] dL_law__1767 lw_243 (CW_ring_e1 (okGQ hX) e1) (Nat.le_trans (by decide) hR.1) (Nat.le_trans (by decide) hR.2.1) rfl rfl rfl rfl ⟨by omega, by omega⟩ ?_
    refine Q_istore hX [(5, .int 1), (0, .ref 0), (1, .ref 1), (2, .ref 30), (3, .ref 50), (4, .int (nI j))] dL_law__1770 rfl rfl ?_
    refine Q_aload_n hX 3 dL_law__1772 rfl rfl ?_
    refine Q_aload_n hX 1 dL_law__1773 rfl rfl ?_
    refine Q_iload hX 5 dL_law__1774 rfl ?_
    refine Q_iconst hX 1 dL_law__1776 rfl ?_
    refine Q_iadd hX dL_law__1777 ?_
    refine Q_arg hX hScr hL hj 1 rfl (by decide) dL_law__1778 ?_
    refine Q_V1 hX [.int (xs (j + 1))] dL_law__1779 lv_245 ob_30 rfl (C_X12_ring (okGQ hX) e2) (Nat.le_trans (by decide) hR.1) (Nat.le_trans (by decide) hR.2.1) rfl rfl rfl rfl ⟨by omega, by omega⟩ ?_
    refine Q_istore hX [(6, .int (b2i b)), (5, .int 1), (0, .ref 0), (1, .ref 1), (2, .ref 30), (3, .ref 50), (4, .int (nI j))] dL_law__1782 rfl rfl ?_
    refine Q_aload_n hX 4 dL_law__1784 rfl rfl ?_
    refine Q_V1 hX [] dL_law__1785 lv_150 ob_30 rfl (C_X12_thrown (okGQ hX) rfl) (Nat.le_trans (by decide) hR.1) (Nat.le_trans (by decide) hR.2.1) rfl rfl rfl rfl ⟨by omega, by omega⟩ ?_
    refine Q_nm e3 ?_
    refine Q_iload hX 1 dL_law__1788 rfl ?_
    refine Q_icmp_eqT hX 1795 dL_law__1790 rfl rfl ?_
    refine Q_iload hX 1 dL_law__1795 rfl ?_
    refine Q_if_neT hX 1819 dL_law__1797 rfl (by decide) ?_
    refine Q_goto hX 2799 dL_law__1819 rfl ?_
    refine Q_sub [2, 3, 4, 5, 6] [(0, .ref 0), (1, .ref 1), (2, .ref 30), (3, .ref 50), (4, .int (nI j))] rfl ?_
    exact kk
set_option maxRecDepth 100000 in
set_option maxHeartbeats 200000 in
theorem LW_30 {X : CX} {R : Room} {Q : State → Prop} {kC sC Ls j n : Nat} {xs : Nat → Int32} {h h' : Hp} (hX : OkQ X cL_law_ 7 RL (some .boolean)) (hScr : ScrQ X Ls xs) (hL : Ls ≤ 3072) (hj : j + 6 ≤ Ls) (hR : 80 ≤ R.frames ∧ 80 * 80 ≤ R.locals ∧ kC + 1 ≤ R.cells ∧ sC + 6 ≤ R.slots) (hst : St_30 (fun i => xs (j + i)) h h' n) (kk : JQ X R Q (kC + n) (sC + 6 * n) 2799 [(0, .ref 0), (1, .ref 1), (2, .ref 30), (3, .ref 50), (4, .int (nI j))] [] h') : JQ X R Q kC sC 1822 [(0, .ref 0), (1, .ref 1), (2, .ref 30), (3, .ref 50), (4, .int (nI j))] [] h := by
  have hr1 := hR.2.2.1
  have hr2 := hR.2.2.2
  unfold St_30 at hst
  try dsimp only at hst
  rcases hst with ⟨v, h1, b, e1, e2, e3, e4, rfl⟩ | ⟨h1, b, e1, e2, e3, rfl⟩
  · refine Q_aload_n hX 1 dL_law__1822 rfl rfl ?_
    refine Q_aload_n hX 0 dL_law__1823 rfl rfl ?_
    refine Q_iload hX 4 dL_law__1824 rfl ?_
    refine Q_iconst hX 1 dL_law__1826 rfl ?_
    refine Q_iadd hX dL_law__1827 ?_
    refine Q_arg hX hScr hL hj 1 rfl (by decide) dL_law__1828 ?_
    refine Q_aload_n hX 3 dL_law__1829 rfl rfl ?_
    refine Q_W1 hX [.ref 1, .int (xs (j + 1)), .ref 50] dL_law__1830 lw_246 (CW_held_ok (okGQ hX) e1) (Nat.le_trans (by decide) hR.1) (Nat.le_trans (by decide) hR.2.1) rfl rfl rfl rfl ⟨by omega, by omega⟩ ?_
    refine Q_istore hX [(5, .int 0), (0, .ref 0), (1, .ref 1), (2, .ref 30), (3, .ref 50), (4, .int (nI j))] dL_law__1833 rfl rfl ?_
    refine Q_aload_n hX 3 dL_law__1835 rfl rfl ?_
    refine Q_aload_n hX 1 dL_law__1836 rfl rfl ?_
    refine Q_iload hX 5 dL_law__1837 rfl ?_
    refine Q_iconst hX 1 dL_law__1839 rfl ?_
    refine Q_iadd hX dL_law__1840 ?_
    refine Q_arg hX hScr hL hj 1 rfl (by decide) dL_law__1841 ?_
    refine Q_V1 hX [.int (xs (j + 1))] dL_law__1842 lv_248 ob_30 rfl (C_X12_held (okGQ hX) e2) (Nat.le_trans (by decide) hR.1) (Nat.le_trans (by decide) hR.2.1) rfl rfl rfl rfl ⟨by omega, by omega⟩ ?_
    refine Q_istore hX [(6, .int b), (5, .int 0), (0, .ref 0), (1, .ref 1), (2, .ref 30), (3, .ref 50), (4, .int (nI j))] dL_law__1845 rfl rfl ?_
    refine Q_aload_n hX 4 dL_law__1847 rfl rfl ?_
    refine Q_V1 hX [] dL_law__1848 lv_150 ob_30 rfl (C_X12_thrown (okGQ hX) rfl) (Nat.le_trans (by decide) hR.1) (Nat.le_trans (by decide) hR.2.1) rfl rfl rfl rfl ⟨by omega, by omega⟩ ?_
    refine Q_nm e3 ?_
    refine Q_iload hX 1 dL_law__1851 rfl ?_
    refine Q_icmp_eqT hX 1858 dL_law__1853 rfl rfl ?_
    refine Q_iload hX 1 dL_law__1858 rfl ?_
    refine Q_if_neF hX 1875 dL_law__1860 rfl rfl ?_
    refine Q_aload_n hX 5 dL_law__1863 rfl rfl ?_
    refine Q_iconst hX 0 dL_law__1864 rfl ?_
    refine Q_lald hX dL_law__1865 ar_50 (by decide) ?_
    refine Q_nmL (congrArg Int32.toInt64 e4) ?_
    refine Q_iload hX 0 dL_law__1866 rfl ?_
    refine Q_i2l hX dL_law__1868 ?_
    refine Q_lcmp hX dL_law__1869 ?_
    refine Q_if_eqT hX 1875 dL_law__1870 rfl (lg_cmp_self _) ?_
    refine Q_goto hX 2799 dL_law__1875 rfl ?_
    refine Q_sub [2, 3, 4, 5, 6] [(0, .ref 0), (1, .ref 1), (2, .ref 30), (3, .ref 50), (4, .int (nI j))] rfl ?_
    exact kk
  · refine Q_aload_n hX 1 dL_law__1822 rfl rfl ?_
    refine Q_aload_n hX 0 dL_law__1823 rfl rfl ?_
    refine Q_iload hX 4 dL_law__1824 rfl ?_
    refine Q_iconst hX 1 dL_law__1826 rfl ?_
    refine Q_iadd hX dL_law__1827 ?_
    refine Q_arg hX hScr hL hj 1 rfl (by decide) dL_law__1828 ?_
    refine Q_aload_n hX 3 dL_law__1829 rfl rfl ?_
    refine Q_W1 hX [.ref 1, .int (xs (j + 1)), .ref 50] dL_law__1830 lw_246 (CW_held_e1 (okGQ hX) e1) (Nat.le_trans (by decide) hR.1) (Nat.le_trans (by decide) hR.2.1) rfl rfl rfl rfl ⟨by omega, by omega⟩ ?_
    refine Q_istore hX [(5, .int 1), (0, .ref 0), (1, .ref 1), (2, .ref 30), (3, .ref 50), (4, .int (nI j))] dL_law__1833 rfl rfl ?_
    refine Q_aload_n hX 3 dL_law__1835 rfl rfl ?_
    refine Q_aload_n hX 1 dL_law__1836 rfl rfl ?_
    refine Q_iload hX 5 dL_law__1837 rfl ?_
    refine Q_iconst hX 1 dL_law__1839 rfl ?_
    refine Q_iadd hX dL_law__1840 ?_
    refine Q_arg hX hScr hL hj 1 rfl (by decide) dL_law__1841 ?_
    refine Q_V1 hX [.int (xs (j + 1))] dL_law__1842 lv_248 ob_30 rfl (C_X12_held (okGQ hX) e2) (Nat.le_trans (by decide) hR.1) (Nat.le_trans (by decide) hR.2.1) rfl rfl rfl rfl ⟨by omega, by omega⟩ ?_
    refine Q_istore hX [(6, .int b), (5, .int 1), (0, .ref 0), (1, .ref 1), (2, .ref 30), (3, .ref 50), (4, .int (nI j))] dL_law__1845 rfl rfl ?_
    refine Q_aload_n hX 4 dL_law__1847 rfl rfl ?_
    refine Q_V1 hX [] dL_law__1848 lv_150 ob_30 rfl (C_X12_thrown (okGQ hX) rfl) (Nat.le_trans (by decide) hR.1) (Nat.le_trans (by decide) hR.2.1) rfl rfl rfl rfl ⟨by omega, by omega⟩ ?_
    refine Q_nm e3 ?_
    refine Q_iload hX 1 dL_law__1851 rfl ?_
    refine Q_icmp_eqT hX 1858 dL_law__1853 rfl rfl ?_
    refine Q_iload hX 1 dL_law__1858 rfl ?_
    refine Q_if_neT hX 1875 dL_law__1860 rfl (by decide) ?_
    refine Q_goto hX 2799 dL_law__1875 rfl ?_
    refine Q_sub [2, 3, 4, 5, 6] [(0, .ref 0), (1, .ref 1), (2, .ref 30), (3, .ref 50), (4, .int (nI j))] rfl ?_
    exact kk
set_option maxRecDepth 100000 in
set_option maxHeartbeats 200000 in
theorem LW_31 {X : CX} {R : Room} {Q : State → Prop} {kC sC Ls j n : Nat} {xs : Nat → Int32} {h h' : Hp} (hX : OkQ X cL_law_ 7 RL (some .boolean)) (hScr : ScrQ X Ls xs) (hL : Ls ≤ 3072) (hj : j + 6 ≤ Ls) (hR : 80 ≤ R.frames ∧ 80 * 80 ≤ R.locals ∧ kC + 1 ≤ R.cells ∧ sC + 6 ≤ R.slots) (hst : St_31 (fun i => xs (j + i)) h h' n) (kk : JQ X R Q (kC + n) (sC + 6 * n) 2799 [(0, .ref 0), (1, .ref 1), (2, .ref 30), (3, .ref 50), (4, .int (nI j))] [] h') : JQ X R Q kC sC 1878 [(0, .ref 0), (1, .ref 1), (2, .ref 30), (3, .ref 50), (4, .int (nI j))] [] h := by
  have hr1 := hR.2.2.1
  have hr2 := hR.2.2.2
  unfold St_31 at hst
  try dsimp only at hst
  obtain ⟨v, e1, e2, rfl⟩ := hst
  refine Q_aload_n hX 1 dL_law__1878 rfl rfl ?_
  refine Q_V1 hX [] dL_law__1879 lv_249 ob_1 rfl (C_X11_ends (okGQ hX) e1) (Nat.le_trans (by decide) hR.1) (Nat.le_trans (by decide) hR.2.1) rfl rfl rfl rfl ⟨by omega, by omega⟩ ?_
  refine Q_aload_n hX 2 dL_law__1882 rfl rfl ?_
  refine Q_V1 hX [] dL_law__1883 lv_252 ob_30 rfl (C_X12_ends (okGQ hX) e2) (Nat.le_trans (by decide) hR.1) (Nat.le_trans (by decide) hR.2.1) rfl rfl rfl rfl ⟨by omega, by omega⟩ ?_
  refine Q_icmp_eqT hX 2799 dL_law__1886 rfl rfl ?_
  exact kk
set_option maxRecDepth 100000 in
set_option maxHeartbeats 200000 in
theorem LW_32 {X : CX} {R : Room} {Q : State → Prop} {kC sC Ls j n : Nat} {xs : Nat → Int32} {h h' : Hp} (hX : OkQ X cL_law_ 7 RL (some .boolean)) (hScr : ScrQ X Ls xs) (hL : Ls ≤ 3072) (hj : j + 6 ≤ Ls) (hR : 80 ≤ R.frames ∧ 80 * 80 ≤ R.locals ∧ kC + 1 ≤ R.cells ∧ sC + 6 ≤ R.slots) (hst : St_32 (fun i => xs (j + i)) h h' n) (kk : JQ X R Q (kC + n) (sC + 6 * n) 2799 [(0, .ref 0), (1, .ref 1), (2, .ref 30), (3, .ref 50), (4, .int (nI j))] [] h') : JQ X R Q kC sC 1891 [(0, .ref 0), (1, .ref 1), (2, .ref 30), (3, .ref 50), (4, .int (nI j))] [] h := by
  have hr1 := hR.2.2.1
  have hr2 := hR.2.2.2
  unfold St_32 at hst
  try dsimp only at hst
  rcases hst with ⟨v, h1, b, e1, e2, e3, e4, rfl⟩ | ⟨h1, b, e1, e2, e3, rfl⟩
  · refine Q_aload_n hX 1 dL_law__1891 rfl rfl ?_
    refine Q_aload_n hX 0 dL_law__1892 rfl rfl ?_
    refine Q_iload hX 4 dL_law__1893 rfl ?_
    refine Q_iconst hX 1 dL_law__1895 rfl ?_
    refine Q_iadd hX dL_law__1896 ?_
    refine Q_arg hX hScr hL hj 1 rfl (by decide) dL_law__1897 ?_
    refine Q_aload_n hX 3 dL_law__1898 rfl rfl ?_
    refine Q_W1 hX [.ref 1, .int (xs (j + 1)), .ref 50] dL_law__1899 lw_253 (CW_apart_ok (okGQ hX) e1) (Nat.le_trans (by decide) hR.1) (Nat.le_trans (by decide) hR.2.1) rfl rfl rfl rfl ⟨by omega, by omega⟩ ?_
    refine Q_istore hX [(5, .int 0), (0, .ref 0), (1, .ref 1), (2, .ref 30), (3, .ref 50), (4, .int (nI j))] dL_law__1902 rfl rfl ?_
    refine Q_aload_n hX 3 dL_law__1904 rfl rfl ?_
    refine Q_aload_n hX 1 dL_law__1905 rfl rfl ?_
    refine Q_iload hX 5 dL_law__1906 rfl ?_
    refine Q_iconst hX 1 dL_law__1908 rfl ?_
    refine Q_iadd hX dL_law__1909 ?_
    refine Q_arg hX hScr hL hj 1 rfl (by decide) dL_law__1910 ?_
    refine Q_V1 hX [.int (xs (j + 1))] dL_law__1911 lv_255 ob_30 rfl (C_X12_apart (okGQ hX) e2) (Nat.le_trans (by decide) hR.1) (Nat.le_trans (by decide) hR.2.1) rfl rfl rfl rfl ⟨by omega, by omega⟩ ?_
    refine Q_istore hX [(6, .int b), (5, .int 0), (0, .ref 0), (1, .ref 1), (2, .ref 30), (3, .ref 50), (4, .int (nI j))] dL_law__1914 rfl rfl ?_
    refine Q_aload_n hX 4 dL_law__1916 rfl rfl ?_
    refine Q_V1 hX [] dL_law__1917 lv_150 ob_30 rfl (C_X12_thrown (okGQ hX) rfl) (Nat.le_trans (by decide) hR.1) (Nat.le_trans (by decide) hR.2.1) rfl rfl rfl rfl ⟨by omega, by omega⟩ ?_
    refine Q_nm e3 ?_
    refine Q_iload hX 1 dL_law__1920 rfl ?_
    refine Q_icmp_eqT hX 1927 dL_law__1922 rfl rfl ?_
    refine Q_iload hX 1 dL_law__1927 rfl ?_
    refine Q_if_neF hX 1944 dL_law__1929 rfl rfl ?_
    refine Q_aload_n hX 5 dL_law__1932 rfl rfl ?_
    refine Q_iconst hX 0 dL_law__1933 rfl ?_
    refine Q_lald hX dL_law__1934 ar_50 (by decide) ?_
    refine Q_nmL (congrArg Int32.toInt64 e4) ?_
    refine Q_iload hX 0 dL_law__1935 rfl ?_
    refine Q_i2l hX dL_law__1937 ?_
    refine Q_lcmp hX dL_law__1938 ?_
    refine Q_if_eqT hX 1944 dL_law__1939 rfl (lg_cmp_self _) ?_
    refine Q_goto hX 2799 dL_law__1944 rfl ?_
    refine Q_sub [2, 3, 4, 5, 6] [(0, .ref 0), (1, .ref 1), (2, .ref 30), (3, .ref 50), (4, .int (nI j))] rfl ?_
    exact kk
  · refine Q_aload_n hX 1 dL_law__1891 rfl rfl ?_
    refine Q_aload_n hX 0 dL_law__1892 rfl rfl ?_
    refine Q_iload hX 4 dL_law__1893 rfl ?_
    refine Q_iconst hX 1 dL_law__1895 rfl ?_
    refine Q_iadd hX dL_law__1896 ?_
    refine Q_arg hX hScr hL hj 1 rfl (by decide) dL_law__1897 ?_
    refine Q_aload_n hX 3 dL_law__1898 rfl rfl ?_
    refine Q_W1 hX [.ref 1, .int (xs (j + 1)), .ref 50] dL_law__1899 lw_253 (CW_apart_e1 (okGQ hX) e1) (Nat.le_trans (by decide) hR.1) (Nat.le_trans (by decide) hR.2.1) rfl rfl rfl rfl ⟨by omega, by omega⟩ ?_
    refine Q_istore hX [(5, .int 1), (0, .ref 0), (1, .ref 1), (2, .ref 30), (3, .ref 50), (4, .int (nI j))] dL_law__1902 rfl rfl ?_
    refine Q_aload_n hX 3 dL_law__1904 rfl rfl ?_
    refine Q_aload_n hX 1 dL_law__1905 rfl rfl ?_
    refine Q_iload hX 5 dL_law__1906 rfl ?_
    refine Q_iconst hX 1 dL_law__1908 rfl ?_
    refine Q_iadd hX dL_law__1909 ?_
    refine Q_arg hX hScr hL hj 1 rfl (by decide) dL_law__1910 ?_
    refine Q_V1 hX [.int (xs (j + 1))] dL_law__1911 lv_255 ob_30 rfl (C_X12_apart (okGQ hX) e2) (Nat.le_trans (by decide) hR.1) (Nat.le_trans (by decide) hR.2.1) rfl rfl rfl rfl ⟨by omega, by omega⟩ ?_
    refine Q_istore hX [(6, .int b), (5, .int 1), (0, .ref 0), (1, .ref 1), (2, .ref 30), (3, .ref 50), (4, .int (nI j))] dL_law__1914 rfl rfl ?_
    refine Q_aload_n hX 4 dL_law__1916 rfl rfl ?_
    refine Q_V1 hX [] dL_law__1917 lv_150 ob_30 rfl (C_X12_thrown (okGQ hX) rfl) (Nat.le_trans (by decide) hR.1) (Nat.le_trans (by decide) hR.2.1) rfl rfl rfl rfl ⟨by omega, by omega⟩ ?_
    refine Q_nm e3 ?_
    refine Q_iload hX 1 dL_law__1920 rfl ?_
    refine Q_icmp_eqT hX 1927 dL_law__1922 rfl rfl ?_
    refine Q_iload hX 1 dL_law__1927 rfl ?_
    refine Q_if_neT hX 1944 dL_law__1929 rfl (by decide) ?_
    refine Q_goto hX 2799 dL_law__1944 rfl ?_
    refine Q_sub [2, 3, 4, 5, 6] [(0, .ref 0), (1, .ref 1), (2, .ref 30), (3, .ref 50), (4, .int (nI j))] rfl ?_
    exact kk
set_option maxRecDepth 100000 in
set_option maxHeartbeats 200000 in
theorem LW_33 {X : CX} {R : Room} {Q : State → Prop} {kC sC Ls j n : Nat} {xs : Nat → Int32} {h h' : Hp} (hX : OkQ X cL_law_ 7 RL (some .boolean)) (hScr : ScrQ X Ls xs) (hL : Ls ≤ 3072) (hj : j + 6 ≤ Ls) (hR : 80 ≤ R.frames ∧ 80 * 80 ≤ R.locals ∧ kC + 1 ≤ R.cells ∧ sC + 6 ≤ R.slots) (hst : St_33 (fun i => xs (j + i)) h h' n) (kk : JQ X R Q (kC + n) (sC + 6 * n) 2799 [(0, .ref 0), (1, .ref 1), (2, .ref 30), (3, .ref 50), (4, .int (nI j))] [] h') : JQ X R Q kC sC 1947 [(0, .ref 0), (1, .ref 1), (2, .ref 30), (3, .ref 50), (4, .int (nI j))] [] h := by
  have hr1 := hR.2.2.1
  have hr2 := hR.2.2.2
  unfold St_33 at hst
  try dsimp only at hst
  obtain ⟨v, e1, e2, rfl⟩ := hst
  refine Q_aload_n hX 1 dL_law__1947 rfl rfl ?_
  refine Q_V1 hX [] dL_law__1948 lv_256 ob_1 rfl (C_X11_pieces (okGQ hX) e1) (Nat.le_trans (by decide) hR.1) (Nat.le_trans (by decide) hR.2.1) rfl rfl rfl rfl ⟨by omega, by omega⟩ ?_
  refine Q_aload_n hX 2 dL_law__1951 rfl rfl ?_
  refine Q_V1 hX [] dL_law__1952 lv_259 ob_30 rfl (C_X12_pieces (okGQ hX) e2) (Nat.le_trans (by decide) hR.1) (Nat.le_trans (by decide) hR.2.1) rfl rfl rfl rfl ⟨by omega, by omega⟩ ?_
  refine Q_icmp_eqT hX 2799 dL_law__1955 rfl rfl ?_
  exact kk
set_option maxRecDepth 100000 in
set_option maxHeartbeats 200000 in
theorem LW_34 {X : CX} {R : Room} {Q : State → Prop} {kC sC Ls j n : Nat} {xs : Nat → Int32} {h h' : Hp} (hX : OkQ X cL_law_ 7 RL (some .boolean)) (hScr : ScrQ X Ls xs) (hL : Ls ≤ 3072) (hj : j + 6 ≤ Ls) (hR : 80 ≤ R.frames ∧ 80 * 80 ≤ R.locals ∧ kC + 1 ≤ R.cells ∧ sC + 6 ≤ R.slots) (hst : St_34 (fun i => xs (j + i)) h h' n) (kk : JQ X R Q (kC + n) (sC + 6 * n) 2799 [(0, .ref 0), (1, .ref 1), (2, .ref 30), (3, .ref 50), (4, .int (nI j))] [] h') : JQ X R Q kC sC 1960 [(0, .ref 0), (1, .ref 1), (2, .ref 30), (3, .ref 50), (4, .int (nI j))] [] h := by
  have hr1 := hR.2.2.1
  have hr2 := hR.2.2.2
  unfold St_34 at hst
  try dsimp only at hst
  rcases hst with ⟨v, h1, b, e1, e2, e3, e4, rfl⟩ | ⟨h1, b, e1, e2, e3, rfl⟩
  · refine Q_aload_n hX 1 dL_law__1960 rfl rfl ?_
    refine Q_aload_n hX 0 dL_law__1961 rfl rfl ?_
    refine Q_iload hX 4 dL_law__1962 rfl ?_
    refine Q_iconst hX 1 dL_law__1964 rfl ?_
    refine Q_iadd hX dL_law__1965 ?_
    refine Q_arg hX hScr hL hj 1 rfl (by decide) dL_law__1966 ?_
    refine Q_aload_n hX 3 dL_law__1967 rfl rfl ?_
    refine Q_W1 hX [.ref 1, .int (xs (j + 1)), .ref 50] dL_law__1968 lw_260 (CW_gates_ok (okGQ hX) e1) (Nat.le_trans (by decide) hR.1) (Nat.le_trans (by decide) hR.2.1) rfl rfl rfl rfl ⟨by omega, by omega⟩ ?_
    refine Q_istore hX [(5, .int 0), (0, .ref 0), (1, .ref 1), (2, .ref 30), (3, .ref 50), (4, .int (nI j))] dL_law__1971 rfl rfl ?_
    refine Q_aload_n hX 3 dL_law__1973 rfl rfl ?_
    refine Q_aload_n hX 1 dL_law__1974 rfl rfl ?_
    refine Q_iload hX 5 dL_law__1975 rfl ?_
    refine Q_iconst hX 1 dL_law__1977 rfl ?_
    refine Q_iadd hX dL_law__1978 ?_
    refine Q_arg hX hScr hL hj 1 rfl (by decide) dL_law__1979 ?_
    refine Q_V1 hX [.int (xs (j + 1))] dL_law__1980 lv_262 ob_30 rfl (C_X12_gates (okGQ hX) e2) (Nat.le_trans (by decide) hR.1) (Nat.le_trans (by decide) hR.2.1) rfl rfl rfl rfl ⟨by omega, by omega⟩ ?_
    refine Q_istore hX [(6, .int b), (5, .int 0), (0, .ref 0), (1, .ref 1), (2, .ref 30), (3, .ref 50), (4, .int (nI j))] dL_law__1983 rfl rfl ?_
    refine Q_aload_n hX 4 dL_law__1985 rfl rfl ?_
    refine Q_V1 hX [] dL_law__1986 lv_150 ob_30 rfl (C_X12_thrown (okGQ hX) rfl) (Nat.le_trans (by decide) hR.1) (Nat.le_trans (by decide) hR.2.1) rfl rfl rfl rfl ⟨by omega, by omega⟩ ?_
    refine Q_nm e3 ?_
    refine Q_iload hX 1 dL_law__1989 rfl ?_
    refine Q_icmp_eqT hX 1996 dL_law__1991 rfl rfl ?_
    refine Q_iload hX 1 dL_law__1996 rfl ?_
    refine Q_if_neF hX 2013 dL_law__1998 rfl rfl ?_
    refine Q_aload_n hX 5 dL_law__2001 rfl rfl ?_
    refine Q_iconst hX 0 dL_law__2002 rfl ?_
    refine Q_lald hX dL_law__2003 ar_50 (by decide) ?_
    refine Q_nmL (congrArg Int32.toInt64 e4) ?_
    refine Q_iload hX 0 dL_law__2004 rfl ?_
    refine Q_i2l hX dL_law__2006 ?_
    refine Q_lcmp hX dL_law__2007 ?_
    refine Q_if_eqT hX 2013 dL_law__2008 rfl (lg_cmp_self _) ?_
    refine Q_goto hX 2799 dL_law__2013 rfl ?_
    refine Q_sub [2, 3, 4, 5, 6] [(0, .ref 0), (1, .ref 1), (2, .ref 30), (3, .ref 50), (4, .int (nI j))] rfl ?_
    exact kk
  · refine Q_aload_n hX 1 dL_law__1960 rfl rfl ?_
    refine Q_aload_n hX 0 dL_law__1961 rfl rfl ?_
    refine Q_iload hX 4 dL_law__1962 rfl ?_
    refine Q_iconst hX 1 dL_law__1964 rfl ?_
    refine Q_iadd hX dL_law__1965 ?_
    refine Q_arg hX hScr hL hj 1 rfl (by decide) dL_law__1966 ?_
    refine Q_aload_n hX 3 dL_law__1967 rfl rfl ?_
    refine Q_W1 hX [.ref 1, .int (xs (j + 1)), .ref 50] dL_law__1968 lw_260 (CW_gates_e1 (okGQ hX) e1) (Nat.le_trans (by decide) hR.1) (Nat.le_trans (by decide) hR.2.1) rfl rfl rfl rfl ⟨by omega, by omega⟩ ?_
    refine Q_istore hX [(5, .int 1), (0, .ref 0), (1, .ref 1), (2, .ref 30), (3, .ref 50), (4, .int (nI j))] dL_law__1971 rfl rfl ?_
    refine Q_aload_n hX 3 dL_law__1973 rfl rfl ?_
    refine Q_aload_n hX 1 dL_law__1974 rfl rfl ?_
    refine Q_iload hX 5 dL_law__1975 rfl ?_
    refine Q_iconst hX 1 dL_law__1977 rfl ?_
    refine Q_iadd hX dL_law__1978 ?_
    refine Q_arg hX hScr hL hj 1 rfl (by decide) dL_law__1979 ?_
    refine Q_V1 hX [.int (xs (j + 1))] dL_law__1980 lv_262 ob_30 rfl (C_X12_gates (okGQ hX) e2) (Nat.le_trans (by decide) hR.1) (Nat.le_trans (by decide) hR.2.1) rfl rfl rfl rfl ⟨by omega, by omega⟩ ?_
    refine Q_istore hX [(6, .int b), (5, .int 1), (0, .ref 0), (1, .ref 1), (2, .ref 30), (3, .ref 50), (4, .int (nI j))] dL_law__1983 rfl rfl ?_
    refine Q_aload_n hX 4 dL_law__1985 rfl rfl ?_
    refine Q_V1 hX [] dL_law__1986 lv_150 ob_30 rfl (C_X12_thrown (okGQ hX) rfl) (Nat.le_trans (by decide) hR.1) (Nat.le_trans (by decide) hR.2.1) rfl rfl rfl rfl ⟨by omega, by omega⟩ ?_
    refine Q_nm e3 ?_
    refine Q_iload hX 1 dL_law__1989 rfl ?_
    refine Q_icmp_eqT hX 1996 dL_law__1991 rfl rfl ?_
    refine Q_iload hX 1 dL_law__1996 rfl ?_
    refine Q_if_neT hX 2013 dL_law__1998 rfl (by decide) ?_
    refine Q_goto hX 2799 dL_law__2013 rfl ?_
    refine Q_sub [2, 3, 4, 5, 6] [(0, .ref 0), (1, .ref 1), (2, .ref 30), (3, .ref 50), (4, .int (nI j))] rfl ?_
    exact kk
set_option maxRecDepth 100000 in
set_option maxHeartbeats 200000 in
theorem LW_35 {X : CX} {R : Room} {Q : State → Prop} {kC sC Ls j n : Nat} {xs : Nat → Int32} {h h' : Hp} (hX : OkQ X cL_law_ 7 RL (some .boolean)) (hScr : ScrQ X Ls xs) (hL : Ls ≤ 3072) (hj : j + 6 ≤ Ls) (hR : 80 ≤ R.frames ∧ 80 * 80 ≤ R.locals ∧ kC + 1 ≤ R.cells ∧ sC + 6 ≤ R.slots) (hst : St_35 (fun i => xs (j + i)) h h' n) (kk : JQ X R Q (kC + n) (sC + 6 * n) 2799 [(0, .ref 0), (1, .ref 1), (2, .ref 30), (3, .ref 50), (4, .int (nI j))] [] h') : JQ X R Q kC sC 2016 [(0, .ref 0), (1, .ref 1), (2, .ref 30), (3, .ref 50), (4, .int (nI j))] [] h := by
  have hr1 := hR.2.2.1
  have hr2 := hR.2.2.2
  unfold St_35 at hst
  try dsimp only at hst
  rcases hst with ⟨v, h1, b, e1, e2, e3, e4, rfl⟩ | ⟨h1, b, e1, e2, e3, rfl⟩ | ⟨h1, b, e1, e2, e3, rfl⟩
  · refine Q_aload_n hX 1 dL_law__2016 rfl rfl ?_
    refine Q_aload_n hX 0 dL_law__2017 rfl rfl ?_
    refine Q_iload hX 4 dL_law__2018 rfl ?_
    refine Q_iconst hX 1 dL_law__2020 rfl ?_
    refine Q_iadd hX dL_law__2021 ?_
    refine Q_arg hX hScr hL hj 1 rfl (by decide) dL_law__2022 ?_
    refine Q_aload_n hX 0 dL_law__2023 rfl rfl ?_
    refine Q_iload hX 4 dL_law__2024 rfl ?_
    refine Q_iconst hX 2 dL_law__2026 rfl ?_
    refine Q_iadd hX dL_law__2027 ?_
    refine Q_arg hX hScr hL hj 2 rfl (by decide) dL_law__2028 ?_
    refine Q_aload_n hX 3 dL_law__2029 rfl rfl ?_
    refine Q_W1 hX [.ref 1, .int (xs (j + 1)), .int (xs (j + 2)), .ref 50] dL_law__2030 lw_263 (CW_swap_ok (okGQ hX) e1) (Nat.le_trans (by decide) hR.1) (Nat.le_trans (by decide) hR.2.1) rfl rfl rfl rfl ⟨by omega, by omega⟩ ?_
    refine Q_istore hX [(5, .int 0), (0, .ref 0), (1, .ref 1), (2, .ref 30), (3, .ref 50), (4, .int (nI j))] dL_law__2033 rfl rfl ?_
    refine Q_aload_n hX 3 dL_law__2035 rfl rfl ?_
    refine Q_aload_n hX 1 dL_law__2036 rfl rfl ?_
    refine Q_iload hX 5 dL_law__2037 rfl ?_
    refine Q_iconst hX 1 dL_law__2039 rfl ?_
    refine Q_iadd hX dL_law__2040 ?_
    refine Q_arg hX hScr hL hj 1 rfl (by decide) dL_law__2041 ?_
    refine Q_aload_n hX 1 dL_law__2042 rfl rfl ?_
    refine Q_iload hX 5 dL_law__2043 rfl ?_
    refine Q_iconst hX 2 dL_law__2045 rfl ?_
    refine Q_iadd hX dL_law__2046 ?_
    refine Q_arg hX hScr hL hj 2 rfl (by decide) dL_law__2047 ?_
    refine Q_V1 hX [.int (xs (j + 1)), .int (xs (j + 2))] dL_law__2048 lv_265 ob_30 rfl (C_X12_swap (okGQ hX) e2) (Nat.le_trans (by decide) hR.1) (Nat.le_trans (by decide) hR.2.1) rfl rfl rfl rfl ⟨by omega, by omega⟩ ?_
    refine Q_istore hX [(6, .int (b2i b)), (5, .int 0), (0, .ref 0), (1, .ref 1), (2, .ref 30), (3, .ref 50), (4, .int (nI j))] dL_law__2051 rfl rfl ?_
    refine Q_aload_n hX 4 dL_law__2053 rfl rfl ?_
    refine Q_V1 hX [] dL_law__2054 lv_150 ob_30 rfl (C_X12_thrown (okGQ hX) rfl) (Nat.le_trans (by decide) hR.1) (Nat.le_trans (by decide) hR.2.1) rfl rfl rfl rfl ⟨by omega, by omega⟩ ?_
    refine Q_nm e3 ?_
    refine Q_iload hX 1 dL_law__2057 rfl ?_
    refine Q_icmp_eqT hX 2064 dL_law__2059 rfl rfl ?_
    refine Q_iload hX 1 dL_law__2064 rfl ?_
    refine Q_if_neF hX 2088 dL_law__2066 rfl rfl ?_
    refine Q_aload_n hX 5 dL_law__2069 rfl rfl ?_
    refine Q_iconst hX 0 dL_law__2070 rfl ?_
    refine Q_lald hX dL_law__2071 ar_50 (by decide) ?_
    refine Q_nmL (congrArg Int32.toInt64 e4) ?_
    refine Q_iload hX 0 dL_law__2072 rfl ?_
    cases b
    · refine Q_if_eqT hX 2081 dL_law__2074 rfl rfl ?_
      refine Q_lconst hX 0 dL_law__2081 rfl ?_
      refine Q_nmL (show (0 : Int64) = (b2i false).toInt64 by decide) ?_
      refine Q_lcmp hX dL_law__2082 ?_
      refine Q_if_eqT hX 2088 dL_law__2083 rfl (lg_cmp_self _) ?_
      refine Q_goto hX 2799 dL_law__2088 rfl ?_
      refine Q_sub [2, 3, 4, 5, 6] [(0, .ref 0), (1, .ref 1), (2, .ref 30), (3, .ref 50), (4, .int (nI j))] rfl ?_
      exact kk
    · refine Q_if_eqF hX 2081 dL_law__2074 rfl (by decide) ?_
      refine Q_lconst hX 1 dL_law__2077 rfl ?_
      refine Q_nmL (show (1 : Int64) = (b2i true).toInt64 by decide) ?_
      refine Q_goto hX 2082 dL_law__2078 rfl ?_
      refine Q_lcmp hX dL_law__2082 ?_
      refine Q_if_eqT hX 2088 dL_law__2083 rfl (lg_cmp_self _) ?_
      refine Q_goto hX 2799 dL_law__2088 rfl ?_
      refine Q_sub [2, 3, 4, 5, 6] [(0, .ref 0), (1, .ref 1), (2, .ref 30), (3, .ref 50), (4, .int (nI j))] rfl ?_
      exact kk
  · refine Q_aload_n hX 1 dL_law__2016 rfl rfl ?_
    refine Q_aload_n hX 0 dL_law__2017 rfl rfl ?_
    refine Q_iload hX 4 dL_law__2018 rfl ?_
    refine Q_iconst hX 1 dL_law__2020 rfl ?_
    refine Q_iadd hX dL_law__2021 ?_
    refine Q_arg hX hScr hL hj 1 rfl (by decide) dL_law__2022 ?_
    refine Q_aload_n hX 0 dL_law__2023 rfl rfl ?_
    refine Q_iload hX 4 dL_law__2024 rfl ?_
    refine Q_iconst hX 2 dL_law__2026 rfl ?_
    refine Q_iadd hX dL_law__2027 ?_
    refine Q_arg hX hScr hL hj 2 rfl (by decide) dL_law__2028 ?_
    refine Q_aload_n hX 3 dL_law__2029 rfl rfl ?_
    refine Q_W1 hX [.ref 1, .int (xs (j + 1)), .int (xs (j + 2)), .ref 50] dL_law__2030 lw_263 (CW_swap_e1 (okGQ hX) e1) (Nat.le_trans (by decide) hR.1) (Nat.le_trans (by decide) hR.2.1) rfl rfl rfl rfl ⟨by omega, by omega⟩ ?_
    refine Q_istore hX [(5, .int 1), (0, .ref 0), (1, .ref 1), (2, .ref 30), (3, .ref 50), (4, .int (nI j))] dL_law__2033 rfl rfl ?_
    refine Q_aload_n hX 3 dL_law__2035 rfl rfl ?_
    refine Q_aload_n hX 1 dL_law__2036 rfl rfl ?_
    refine Q_iload hX 5 dL_law__2037 rfl ?_
    refine Q_iconst hX 1 dL_law__2039 rfl ?_
    refine Q_iadd hX dL_law__2040 ?_
    refine Q_arg hX hScr hL hj 1 rfl (by decide) dL_law__2041 ?_
    refine Q_aload_n hX 1 dL_law__2042 rfl rfl ?_
    refine Q_iload hX 5 dL_law__2043 rfl ?_
    refine Q_iconst hX 2 dL_law__2045 rfl ?_
    refine Q_iadd hX dL_law__2046 ?_
    refine Q_arg hX hScr hL hj 2 rfl (by decide) dL_law__2047 ?_
    refine Q_V1 hX [.int (xs (j + 1)), .int (xs (j + 2))] dL_law__2048 lv_265 ob_30 rfl (C_X12_swap (okGQ hX) e2) (Nat.le_trans (by decide) hR.1) (Nat.le_trans (by decide) hR.2.1) rfl rfl rfl rfl ⟨by omega, by omega⟩ ?_
    refine Q_istore hX [(6, .int (b2i b)), (5, .int 1), (0, .ref 0), (1, .ref 1), (2, .ref 30), (3, .ref 50), (4, .int (nI j))] dL_law__2051 rfl rfl ?_
    refine Q_aload_n hX 4 dL_law__2053 rfl rfl ?_
    refine Q_V1 hX [] dL_law__2054 lv_150 ob_30 rfl (C_X12_thrown (okGQ hX) rfl) (Nat.le_trans (by decide) hR.1) (Nat.le_trans (by decide) hR.2.1) rfl rfl rfl rfl ⟨by omega, by omega⟩ ?_
    refine Q_nm e3 ?_
    refine Q_iload hX 1 dL_law__2057 rfl ?_
    refine Q_icmp_eqT hX 2064 dL_law__2059 rfl rfl ?_
    refine Q_iload hX 1 dL_law__2064 rfl ?_
    refine Q_if_neT hX 2088 dL_law__2066 rfl (by decide) ?_
    refine Q_goto hX 2799 dL_law__2088 rfl ?_
    refine Q_sub [2, 3, 4, 5, 6] [(0, .ref 0), (1, .ref 1), (2, .ref 30), (3, .ref 50), (4, .int (nI j))] rfl ?_
    exact kk
  · refine Q_aload_n hX 1 dL_law__2016 rfl rfl ?_
    refine Q_aload_n hX 0 dL_law__2017 rfl rfl ?_
    refine Q_iload hX 4 dL_law__2018 rfl ?_
    refine Q_iconst hX 1 dL_law__2020 rfl ?_
    refine Q_iadd hX dL_law__2021 ?_
    refine Q_arg hX hScr hL hj 1 rfl (by decide) dL_law__2022 ?_
    refine Q_aload_n hX 0 dL_law__2023 rfl rfl ?_
    refine Q_iload hX 4 dL_law__2024 rfl ?_
    refine Q_iconst hX 2 dL_law__2026 rfl ?_
    refine Q_iadd hX dL_law__2027 ?_
    refine Q_arg hX hScr hL hj 2 rfl (by decide) dL_law__2028 ?_
    refine Q_aload_n hX 3 dL_law__2029 rfl rfl ?_
    refine Q_W1 hX [.ref 1, .int (xs (j + 1)), .int (xs (j + 2)), .ref 50] dL_law__2030 lw_263 (CW_swap_e2 (okGQ hX) e1) (Nat.le_trans (by decide) hR.1) (Nat.le_trans (by decide) hR.2.1) rfl rfl rfl rfl ⟨by omega, by omega⟩ ?_
    refine Q_istore hX [(5, .int 2), (0, .ref 0), (1, .ref 1), (2, .ref 30), (3, .ref 50), (4, .int (nI j))] dL_law__2033 rfl rfl ?_
    refine Q_aload_n hX 3 dL_law__2035 rfl rfl ?_
    refine Q_aload_n hX 1 dL_law__2036 rfl rfl ?_
    refine Q_iload hX 5 dL_law__2037 rfl ?_
    refine Q_iconst hX 1 dL_law__2039 rfl ?_
    refine Q_iadd hX dL_law__2040 ?_
    refine Q_arg hX hScr hL hj 1 rfl (by decide) dL_law__2041 ?_
    refine Q_aload_n hX 1 dL_law__2042 rfl rfl ?_
    refine Q_iload hX 5 dL_law__2043 rfl ?_
    refine Q_iconst hX 2 dL_law__2045 rfl ?_
    refine Q_iadd hX dL_law__2046 ?_
    refine Q_arg hX hScr hL hj 2 rfl (by decide) dL_law__2047 ?_
    refine Q_V1 hX [.int (xs (j + 1)), .int (xs (j + 2))] dL_law__2048 lv_265 ob_30 rfl (C_X12_swap (okGQ hX) e2) (Nat.le_trans (by decide) hR.1) (Nat.le_trans (by decide) hR.2.1) rfl rfl rfl rfl ⟨by omega, by omega⟩ ?_
    refine Q_istore hX [(6, .int (b2i b)), (5, .int 2), (0, .ref 0), (1, .ref 1), (2, .ref 30), (3, .ref 50), (4, .int (nI j))] dL_law__2051 rfl rfl ?_
    refine Q_aload_n hX 4 dL_law__2053 rfl rfl ?_
    refine Q_V1 hX [] dL_law__2054 lv_150 ob_30 rfl (C_X12_thrown (okGQ hX) rfl) (Nat.le_trans (by decide) hR.1) (Nat.le_trans (by decide) hR.2.1) rfl rfl rfl rfl ⟨by omega, by omega⟩ ?_
    refine Q_nm e3 ?_
    refine Q_iload hX 1 dL_law__2057 rfl ?_
    refine Q_icmp_eqT hX 2064 dL_law__2059 rfl rfl ?_
    refine Q_iload hX 1 dL_law__2064 rfl ?_
    refine Q_if_neT hX 2088 dL_law__2066 rfl (by decide) ?_
    refine Q_goto hX 2799 dL_law__2088 rfl ?_
    refine Q_sub [2, 3, 4, 5, 6] [(0, .ref 0), (1, .ref 1), (2, .ref 30), (3, .ref 50), (4, .int (nI j))] rfl ?_
    exact kk
set_option maxRecDepth 100000 in
set_option maxHeartbeats 200000 in
theorem LW_36 {X : CX} {R : Room} {Q : State → Prop} {kC sC Ls j n : Nat} {xs : Nat → Int32} {h h' : Hp} (hX : OkQ X cL_law_ 7 RL (some .boolean)) (hScr : ScrQ X Ls xs) (hL : Ls ≤ 3072) (hj : j + 6 ≤ Ls) (hR : 80 ≤ R.frames ∧ 80 * 80 ≤ R.locals ∧ kC + 1 ≤ R.cells ∧ sC + 6 ≤ R.slots) (hst : St_36 (fun i => xs (j + i)) h h' n) (kk : JQ X R Q (kC + n) (sC + 6 * n) 2799 [(0, .ref 0), (1, .ref 1), (2, .ref 30), (3, .ref 50), (4, .int (nI j))] [] h') : JQ X R Q kC sC 2091 [(0, .ref 0), (1, .ref 1), (2, .ref 30), (3, .ref 50), (4, .int (nI j))] [] h := by
  have hr1 := hR.2.2.1
  have hr2 := hR.2.2.2
  unfold St_36 at hst
  try dsimp only at hst
  rcases hst with ⟨v, h1, b, e1, e2, e3, e4, rfl⟩ | ⟨h1, b, e1, e2, e3, rfl⟩ | ⟨h1, b, e1, e2, e3, rfl⟩
  · refine Q_aload_n hX 1 dL_law__2091 rfl rfl ?_
    refine Q_aload_n hX 0 dL_law__2092 rfl rfl ?_
    refine Q_iload hX 4 dL_law__2093 rfl ?_
    refine Q_iconst hX 1 dL_law__2095 rfl ?_
    refine Q_iadd hX dL_law__2096 ?_
    refine Q_arg hX hScr hL hj 1 rfl (by decide) dL_law__2097 ?_
    refine Q_aload_n hX 0 dL_law__2098 rfl rfl ?_
    refine Q_iload hX 4 dL_law__2099 rfl ?_
    refine Q_iconst hX 2 dL_law__2101 rfl ?_
    refine Q_iadd hX dL_law__2102 ?_
    refine Q_arg hX hScr hL hj 2 rfl (by decide) dL_law__2103 ?_
    refine Q_aload_n hX 3 dL_law__2104 rfl rfl ?_
    refine Q_W1 hX [.ref 1, .int (xs (j + 1)), .int (xs (j + 2)), .ref 50] dL_law__2105 lw_266 (CW_rests_ok (okGQ hX) e1) (Nat.le_trans (by decide) hR.1) (Nat.le_trans (by decide) hR.2.1) rfl rfl rfl rfl ⟨by omega, by omega⟩ ?_
    refine Q_istore hX [(5, .int 0), (0, .ref 0), (1, .ref 1), (2, .ref 30), (3, .ref 50), (4, .int (nI j))] dL_law__2108 rfl rfl ?_
    refine Q_aload_n hX 3 dL_law__2110 rfl rfl ?_
    refine Q_aload_n hX 1 dL_law__2111 rfl rfl ?_
    refine Q_iload hX 5 dL_law__2112 rfl ?_
    refine Q_iconst hX 1 dL_law__2114 rfl ?_
    refine Q_iadd hX dL_law__2115 ?_
    refine Q_arg hX hScr hL hj 1 rfl (by decide) dL_law__2116 ?_
    refine Q_aload_n hX 1 dL_law__2117 rfl rfl ?_
    refine Q_iload hX 5 dL_law__2118 rfl ?_
    refine Q_iconst hX 2 dL_law__2120 rfl ?_
    refine Q_iadd hX dL_law__2121 ?_
    refine Q_arg hX hScr hL hj 2 rfl (by decide) dL_law__2122 ?_
    refine Q_V1 hX [.int (xs (j + 1)), .int (xs (j + 2))] dL_law__2123 lv_268 ob_30 rfl (C_X12_rests (okGQ hX) e2) (Nat.le_trans (by decide) hR.1) (Nat.le_trans (by decide) hR.2.1) rfl rfl rfl rfl ⟨by omega, by omega⟩ ?_
    refine Q_istore hX [(6, .int b), (5, .int 0), (0, .ref 0), (1, .ref 1), (2, .ref 30), (3, .ref 50), (4, .int (nI j))] dL_law__2126 rfl rfl ?_
    refine Q_aload_n hX 4 dL_law__2128 rfl rfl ?_
    refine Q_V1 hX [] dL_law__2129 lv_150 ob_30 rfl (C_X12_thrown (okGQ hX) rfl) (Nat.le_trans (by decide) hR.1) (Nat.le_trans (by decide) hR.2.1) rfl rfl rfl rfl ⟨by omega, by omega⟩ ?_
    refine Q_nm e3 ?_
    refine Q_iload hX 1 dL_law__2132 rfl ?_
    refine Q_icmp_eqT hX 2139 dL_law__2134 rfl rfl ?_
    refine Q_iload hX 1 dL_law__2139 rfl ?_
    refine Q_if_neF hX 2156 dL_law__2141 rfl rfl ?_
    refine Q_aload_n hX 5 dL_law__2144 rfl rfl ?_
    refine Q_iconst hX 0 dL_law__2145 rfl ?_
    refine Q_lald hX dL_law__2146 ar_50 (by decide) ?_
    refine Q_nmL (congrArg Int32.toInt64 e4) ?_
    refine Q_iload hX 0 dL_law__2147 rfl ?_
    refine Q_i2l hX dL_law__2149 ?_
    refine Q_lcmp hX dL_law__2150 ?_
    refine Q_if_eqT hX 2156 dL_law__2151 rfl (lg_cmp_self _) ?_
    refine Q_goto hX 2799 dL_law__2156 rfl ?_
    refine Q_sub [2, 3, 4, 5, 6] [(0, .ref 0), (1, .ref 1), (2, .ref 30), (3, .ref 50), (4, .int (nI j))] rfl ?_
    exact kk
  · refine Q_aload_n hX 1 dL_law__2091 rfl rfl ?_
    refine Q_aload_n hX 0 dL_law__2092 rfl rfl ?_
    refine Q_iload hX 4 dL_law__2093 rfl ?_
    refine Q_iconst hX 1 dL_law__2095 rfl ?_
    refine Q_iadd hX dL_law__2096 ?_
    refine Q_arg hX hScr hL hj 1 rfl (by decide) dL_law__2097 ?_
    refine Q_aload_n hX 0 dL_law__2098 rfl rfl ?_
    refine Q_iload hX 4 dL_law__2099 rfl ?_
    refine Q_iconst hX 2 dL_law__2101 rfl ?_
    refine Q_iadd hX dL_law__2102 ?_
    refine Q_arg hX hScr hL hj 2 rfl (by decide) dL_law__2103 ?_
    refine Q_aload_n hX 3 dL_law__2104 rfl rfl ?_
    refine Q_W1 hX [.ref 1, .int (xs (j + 1)), .int (xs (j + 2)), .ref 50] dL_law__2105 lw_266 (CW_rests_e1 (okGQ hX) e1) (Nat.le_trans (by decide) hR.1) (Nat.le_trans (by decide) hR.2.1) rfl rfl rfl rfl ⟨by omega, by omega⟩ ?_
    refine Q_istore hX [(5, .int 1), (0, .ref 0), (1, .ref 1), (2, .ref 30), (3, .ref 50), (4, .int (nI j))] dL_law__2108 rfl rfl ?_
    refine Q_aload_n hX 3 dL_law__2110 rfl rfl ?_
    refine Q_aload_n hX 1 dL_law__2111 rfl rfl ?_
    refine Q_iload hX 5 dL_law__2112 rfl ?_
    refine Q_iconst hX 1 dL_law__2114 rfl ?_
    refine Q_iadd hX dL_law__2115 ?_
    refine Q_arg hX hScr hL hj 1 rfl (by decide) dL_law__2116 ?_
    refine Q_aload_n hX 1 dL_law__2117 rfl rfl ?_
    refine Q_iload hX 5 dL_law__2118 rfl ?_
    refine Q_iconst hX 2 dL_law__2120 rfl ?_
    refine Q_iadd hX dL_law__2121 ?_
    refine Q_arg hX hScr hL hj 2 rfl (by decide) dL_law__2122 ?_
    refine Q_V1 hX [.int (xs (j + 1)), .int (xs (j + 2))] dL_law__2123 lv_268 ob_30 rfl (C_X12_rests (okGQ hX) e2) (Nat.le_trans (by decide) hR.1) (Nat.le_trans (by decide) hR.2.1) rfl rfl rfl rfl ⟨by omega, by omega⟩ ?_
    refine Q_istore hX [(6, .int b), (5, .int 1), (0, .ref 0), (1, .ref 1), (2, .ref 30), (3, .ref 50), (4, .int (nI j))] dL_law__2126 rfl rfl ?_
    refine Q_aload_n hX 4 dL_law__2128 rfl rfl ?_
    refine Q_V1 hX [] dL_law__2129 lv_150 ob_30 rfl (C_X12_thrown (okGQ hX) rfl) (Nat.le_trans (by decide) hR.1) (Nat.le_trans (by decide) hR.2.1) rfl rfl rfl rfl ⟨by omega, by omega⟩ ?_
    refine Q_nm e3 ?_
    refine Q_iload hX 1 dL_law__2132 rfl ?_
    refine Q_icmp_eqT hX 2139 dL_law__2134 rfl rfl ?_
    refine Q_iload hX 1 dL_law__2139 rfl ?_
    refine Q_if_neT hX 2156 dL_law__2141 rfl (by decide) ?_
    refine Q_goto hX 2799 dL_law__2156 rfl ?_
    refine Q_sub [2, 3, 4, 5, 6] [(0, .ref 0), (1, .ref 1), (2, .ref 30), (3, .ref 50), (4, .int (nI j))] rfl ?_
    exact kk
  · refine Q_aload_n hX 1 dL_law__2091 rfl rfl ?_
    refine Q_aload_n hX 0 dL_law__2092 rfl rfl ?_
    refine Q_iload hX 4 dL_law__2093 rfl ?_
    refine Q_iconst hX 1 dL_law__2095 rfl ?_
    refine Q_iadd hX dL_law__2096 ?_
    refine Q_arg hX hScr hL hj 1 rfl (by decide) dL_law__2097 ?_
    refine Q_aload_n hX 0 dL_law__2098 rfl rfl ?_
    refine Q_iload hX 4 dL_law__2099 rfl ?_
    refine Q_iconst hX 2 dL_law__2101 rfl ?_
    refine Q_iadd hX dL_law__2102 ?_
    refine Q_arg hX hScr hL hj 2 rfl (by decide) dL_law__2103 ?_
    refine Q_aload_n hX 3 dL_law__2104 rfl rfl ?_
    refine Q_W1 hX [.ref 1, .int (xs (j + 1)), .int (xs (j + 2)), .ref 50] dL_law__2105 lw_266 (CW_rests_e2 (okGQ hX) e1) (Nat.le_trans (by decide) hR.1) (Nat.le_trans (by decide) hR.2.1) rfl rfl rfl rfl ⟨by omega, by omega⟩ ?_
    refine Q_istore hX [(5, .int 2), (0, .ref 0), (1, .ref 1), (2, .ref 30), (3, .ref 50), (4, .int (nI j))] dL_law__2108 rfl rfl ?_
    refine Q_aload_n hX 3 dL_law__2110 rfl rfl ?_
    refine Q_aload_n hX 1 dL_law__2111 rfl rfl ?_
    refine Q_iload hX 5 dL_law__2112 rfl ?_
    refine Q_iconst hX 1 dL_law__2114 rfl ?_
    refine Q_iadd hX dL_law__2115 ?_
    refine Q_arg hX hScr hL hj 1 rfl (by decide) dL_law__2116 ?_
    refine Q_aload_n hX 1 dL_law__2117 rfl rfl ?_
    refine Q_iload hX 5 dL_law__2118 rfl ?_
    refine Q_iconst hX 2 dL_law__2120 rfl ?_
    refine Q_iadd hX dL_law__2121 ?_
    refine Q_arg hX hScr hL hj 2 rfl (by decide) dL_law__2122 ?_
    refine Q_V1 hX [.int (xs (j + 1)), .int (xs (j + 2))] dL_law__2123 lv_268 ob_30 rfl (C_X12_rests (okGQ hX) e2) (Nat.le_trans (by decide) hR.1) (Nat.le_trans (by decide) hR.2.1) rfl rfl rfl rfl ⟨by omega, by omega⟩ ?_
    refine Q_istore hX [(6, .int b), (5, .int 2), (0, .ref 0), (1, .ref 1), (2, .ref 30), (3, .ref 50), (4, .int (nI j))] dL_law__2126 rfl rfl ?_
    refine Q_aload_n hX 4 dL_law__2128 rfl rfl ?_
    refine Q_V1 hX [] dL_law__2129 lv_150 ob_30 rfl (C_X12_thrown (okGQ hX) rfl) (Nat.le_trans (by decide) hR.1) (Nat.le_trans (by decide) hR.2.1) rfl rfl rfl rfl ⟨by omega, by omega⟩ ?_
    refine Q_nm e3 ?_
    refine Q_iload hX 1 dL_law__2132 rfl ?_
    refine Q_icmp_eqT hX 2139 dL_law__2134 rfl rfl ?_
    refine Q_iload hX 1 dL_law__2139 rfl ?_
    refine Q_if_neT hX 2156 dL_law__2141 rfl (by decide) ?_
    refine Q_goto hX 2799 dL_law__2156 rfl ?_
    refine Q_sub [2, 3, 4, 5, 6] [(0, .ref 0), (1, .ref 1), (2, .ref 30), (3, .ref 50), (4, .int (nI j))] rfl ?_
    exact kk
set_option maxRecDepth 100000 in
set_option maxHeartbeats 200000 in
theorem LW_37 {X : CX} {R : Room} {Q : State → Prop} {kC sC Ls j n : Nat} {xs : Nat → Int32} {h h' : Hp} (hX : OkQ X cL_law_ 7 RL (some .boolean)) (hScr : ScrQ X Ls xs) (hL : Ls ≤ 3072) (hj : j + 6 ≤ Ls) (hR : 80 ≤ R.frames ∧ 80 * 80 ≤ R.locals ∧ kC + 1 ≤ R.cells ∧ sC + 6 ≤ R.slots) (hst : St_37 (fun i => xs (j + i)) h h' n) (kk : JQ X R Q (kC + n) (sC + 6 * n) 2799 [(0, .ref 0), (1, .ref 1), (2, .ref 30), (3, .ref 50), (4, .int (nI j))] [] h') : JQ X R Q kC sC 2159 [(0, .ref 0), (1, .ref 1), (2, .ref 30), (3, .ref 50), (4, .int (nI j))] [] h := by
  have hr1 := hR.2.2.1
  have hr2 := hR.2.2.2
  unfold St_37 at hst
  try dsimp only at hst
  rcases hst with ⟨v, h1, b, e1, e2, e3, e4, rfl⟩ | ⟨h1, b, e1, e2, e3, rfl⟩
  · refine Q_aload_n hX 1 dL_law__2159 rfl rfl ?_
    refine Q_aload_n hX 0 dL_law__2160 rfl rfl ?_
    refine Q_iload hX 4 dL_law__2161 rfl ?_
    refine Q_iconst hX 1 dL_law__2163 rfl ?_
    refine Q_iadd hX dL_law__2164 ?_
    refine Q_arg hX hScr hL hj 1 rfl (by decide) dL_law__2165 ?_
    refine Q_aload_n hX 3 dL_law__2166 rfl rfl ?_
    refine Q_W1 hX [.ref 1, .int (xs (j + 1)), .ref 50] dL_law__2167 lw_269 (CW_odds_ok (okGQ hX) e1) (Nat.le_trans (by decide) hR.1) (Nat.le_trans (by decide) hR.2.1) rfl rfl rfl rfl ⟨by omega, by omega⟩ ?_
    refine Q_istore hX [(5, .int 0), (0, .ref 0), (1, .ref 1), (2, .ref 30), (3, .ref 50), (4, .int (nI j))] dL_law__2170 rfl rfl ?_
    refine Q_aload_n hX 3 dL_law__2172 rfl rfl ?_
    refine Q_aload_n hX 1 dL_law__2173 rfl rfl ?_
    refine Q_iload hX 5 dL_law__2174 rfl ?_
    refine Q_iconst hX 1 dL_law__2176 rfl ?_
    refine Q_iadd hX dL_law__2177 ?_
    refine Q_arg hX hScr hL hj 1 rfl (by decide) dL_law__2178 ?_
    refine Q_V1 hX [.int (xs (j + 1))] dL_law__2179 lv_271 ob_30 rfl (C_X12_odds (okGQ hX) e2) (Nat.le_trans (by decide) hR.1) (Nat.le_trans (by decide) hR.2.1) rfl rfl rfl rfl ⟨by omega, by omega⟩ ?_
    refine Q_istore hX [(6, .int b), (5, .int 0), (0, .ref 0), (1, .ref 1), (2, .ref 30), (3, .ref 50), (4, .int (nI j))] dL_law__2182 rfl rfl ?_
    refine Q_aload_n hX 4 dL_law__2184 rfl rfl ?_
    refine Q_V1 hX [] dL_law__2185 lv_150 ob_30 rfl (C_X12_thrown (okGQ hX) rfl) (Nat.le_trans (by decide) hR.1) (Nat.le_trans (by decide) hR.2.1) rfl rfl rfl rfl ⟨by omega, by omega⟩ ?_
    refine Q_nm e3 ?_
    refine Q_iload hX 1 dL_law__2188 rfl ?_
    refine Q_icmp_eqT hX 2195 dL_law__2190 rfl rfl ?_
    refine Q_iload hX 1 dL_law__2195 rfl ?_
    refine Q_if_neF hX 2212 dL_law__2197 rfl rfl ?_
    refine Q_aload_n hX 5 dL_law__2200 rfl rfl ?_
    refine Q_iconst hX 0 dL_law__2201 rfl ?_
    refine Q_lald hX dL_law__2202 ar_50 (by decide) ?_
    refine Q_nmL (congrArg Int32.toInt64 e4) ?_
    refine Q_iload hX 0 dL_law__2203 rfl ?_
    refine Q_i2l hX dL_law__2205 ?_
    refine Q_lcmp hX dL_law__2206 ?_
    refine Q_if_eqT hX 2212 dL_law__2207 rfl (lg_cmp_self _) ?_
    refine Q_goto hX 2799 dL_law__2212 rfl ?_
    refine Q_sub [2, 3, 4, 5, 6] [(0, .ref 0), (1, .ref 1), (2, .ref 30), (3, .ref 50), (4, .int (nI j))] rfl ?_
    exact kk
  · refine Q_aload_n hX 1 dL_law__2159 rfl rfl ?_
    refine Q_aload_n hX 0 dL_law__2160 rfl rfl ?_
    refine Q_iload hX 4 dL_law__2161 rfl ?_
    refine Q_iconst hX 1 dL_law__2163 rfl ?_
    refine Q_iadd hX dL_law__2164 ?_
    refine Q_arg hX hScr hL hj 1 rfl (by decide) dL_law__2165 ?_
    refine Q_aload_n hX 3 dL_law__2166 rfl rfl ?_
    refine Q_W1 hX [.ref 1, .int (xs (j + 1)), .ref 50] dL_law__2167 lw_269 (CW_odds_e1 (okGQ hX) e1) (Nat.le_trans (by decide) hR.1) (Nat.le_trans (by decide) hR.2.1) rfl rfl rfl rfl ⟨by omega, by omega⟩ ?_
    refine Q_istore hX [(5, .int 1), (0, .ref 0), (1, .ref 1), (2, .ref 30), (3, .ref 50), (4, .int (nI j))] dL_law__2170 rfl rfl ?_
    refine Q_aload_n hX 3 dL_law__2172 rfl rfl ?_
    refine Q_aload_n hX 1 dL_law__2173 rfl rfl ?_
    refine Q_iload hX 5 dL_law__2174 rfl ?_
    refine Q_iconst hX 1 dL_law__2176 rfl ?_
    refine Q_iadd hX dL_law__2177 ?_
    refine Q_arg hX hScr hL hj 1 rfl (by decide) dL_law__2178 ?_
    refine Q_V1 hX [.int (xs (j + 1))] dL_law__2179 lv_271 ob_30 rfl (C_X12_odds (okGQ hX) e2) (Nat.le_trans (by decide) hR.1) (Nat.le_trans (by decide) hR.2.1) rfl rfl rfl rfl ⟨by omega, by omega⟩ ?_
    refine Q_istore hX [(6, .int b), (5, .int 1), (0, .ref 0), (1, .ref 1), (2, .ref 30), (3, .ref 50), (4, .int (nI j))] dL_law__2182 rfl rfl ?_
    refine Q_aload_n hX 4 dL_law__2184 rfl rfl ?_
    refine Q_V1 hX [] dL_law__2185 lv_150 ob_30 rfl (C_X12_thrown (okGQ hX) rfl) (Nat.le_trans (by decide) hR.1) (Nat.le_trans (by decide) hR.2.1) rfl rfl rfl rfl ⟨by omega, by omega⟩ ?_
    refine Q_nm e3 ?_
    refine Q_iload hX 1 dL_law__2188 rfl ?_
    refine Q_icmp_eqT hX 2195 dL_law__2190 rfl rfl ?_
    refine Q_iload hX 1 dL_law__2195 rfl ?_
    refine Q_if_neT hX 2212 dL_law__2197 rfl (by decide) ?_
    refine Q_goto hX 2799 dL_law__2212 rfl ?_
    refine Q_sub [2, 3, 4, 5, 6] [(0, .ref 0), (1, .ref 1), (2, .ref 30), (3, .ref 50), (4, .int (nI j))] rfl ?_
    exact kk
set_option maxRecDepth 100000 in
set_option maxHeartbeats 200000 in
theorem LW_38 {X : CX} {R : Room} {Q : State → Prop} {kC sC Ls j n : Nat} {xs : Nat → Int32} {h h' : Hp} (hX : OkQ X cL_law_ 7 RL (some .boolean)) (hScr : ScrQ X Ls xs) (hL : Ls ≤ 3072) (hj : j + 6 ≤ Ls) (hR : 80 ≤ R.frames ∧ 80 * 80 ≤ R.locals ∧ kC + 1 ≤ R.cells ∧ sC + 6 ≤ R.slots) (hst : St_38 (fun i => xs (j + i)) h h' n) (kk : JQ X R Q (kC + n) (sC + 6 * n) 2799 [(0, .ref 0), (1, .ref 1), (2, .ref 30), (3, .ref 50), (4, .int (nI j))] [] h') : JQ X R Q kC sC 2215 [(0, .ref 0), (1, .ref 1), (2, .ref 30), (3, .ref 50), (4, .int (nI j))] [] h := by
  have hr1 := hR.2.2.1
  have hr2 := hR.2.2.2
  unfold St_38 at hst
  try dsimp only at hst
  obtain ⟨v, e1, e2, rfl⟩ := hst
  refine Q_aload_n hX 1 dL_law__2215 rfl rfl ?_
  refine Q_V1 hX [] dL_law__2216 lv_272 ob_1 rfl (C_X11_oldest (okGQ hX) e1) (Nat.le_trans (by decide) hR.1) (Nat.le_trans (by decide) hR.2.1) rfl rfl rfl rfl ⟨by omega, by omega⟩ ?_
  refine Q_aload_n hX 2 dL_law__2219 rfl rfl ?_
  refine Q_V1 hX [] dL_law__2220 lv_275 ob_30 rfl (C_X12_oldest (okGQ hX) e2) (Nat.le_trans (by decide) hR.1) (Nat.le_trans (by decide) hR.2.1) rfl rfl rfl rfl ⟨by omega, by omega⟩ ?_
  refine Q_icmp_eqT hX 2799 dL_law__2223 rfl rfl ?_
  exact kk
set_option maxRecDepth 100000 in
set_option maxHeartbeats 200000 in
theorem LW_39 {X : CX} {R : Room} {Q : State → Prop} {kC sC Ls j n : Nat} {xs : Nat → Int32} {h h' : Hp} (hX : OkQ X cL_law_ 7 RL (some .boolean)) (hScr : ScrQ X Ls xs) (hL : Ls ≤ 3072) (hj : j + 6 ≤ Ls) (hR : 80 ≤ R.frames ∧ 80 * 80 ≤ R.locals ∧ kC + 1 ≤ R.cells ∧ sC + 6 ≤ R.slots) (hst : St_39 (fun i => xs (j + i)) h h' n) (kk : JQ X R Q (kC + n) (sC + 6 * n) 2799 [(0, .ref 0), (1, .ref 1), (2, .ref 30), (3, .ref 50), (4, .int (nI j))] [] h') : JQ X R Q kC sC 2228 [(0, .ref 0), (1, .ref 1), (2, .ref 30), (3, .ref 50), (4, .int (nI j))] [] h := by
  have hr1 := hR.2.2.1
  have hr2 := hR.2.2.2
  unfold St_39 at hst
  try dsimp only at hst
  obtain ⟨v, e1, e2, rfl⟩ := hst
  refine Q_aload_n hX 1 dL_law__2228 rfl rfl ?_
  refine Q_V1 hX [] dL_law__2229 lv_276 ob_1 rfl (C_X11_straight (okGQ hX) e1) (Nat.le_trans (by decide) hR.1) (Nat.le_trans (by decide) hR.2.1) rfl rfl rfl rfl ⟨by omega, by omega⟩ ?_
  refine Q_aload_n hX 2 dL_law__2232 rfl rfl ?_
  refine Q_V1 hX [] dL_law__2233 lv_279 ob_30 rfl (C_X12_straight (okGQ hX) e2) (Nat.le_trans (by decide) hR.1) (Nat.le_trans (by decide) hR.2.1) rfl rfl rfl rfl ⟨by omega, by omega⟩ ?_
  refine Q_icmp_eqT hX 2799 dL_law__2236 rfl rfl ?_
  exact kk
set_option maxRecDepth 100000 in
set_option maxHeartbeats 200000 in
theorem LW_40 {X : CX} {R : Room} {Q : State → Prop} {kC sC Ls j n : Nat} {xs : Nat → Int32} {h h' : Hp} (hX : OkQ X cL_law_ 7 RL (some .boolean)) (hScr : ScrQ X Ls xs) (hL : Ls ≤ 3072) (hj : j + 6 ≤ Ls) (hR : 80 ≤ R.frames ∧ 80 * 80 ≤ R.locals ∧ kC + 1 ≤ R.cells ∧ sC + 6 ≤ R.slots) (hst : St_40 (fun i => xs (j + i)) h h' n) (kk : JQ X R Q (kC + n) (sC + 6 * n) 2799 [(0, .ref 0), (1, .ref 1), (2, .ref 30), (3, .ref 50), (4, .int (nI j))] [] h') : JQ X R Q kC sC 2241 [(0, .ref 0), (1, .ref 1), (2, .ref 30), (3, .ref 50), (4, .int (nI j))] [] h := by
  have hr1 := hR.2.2.1
  have hr2 := hR.2.2.2
  unfold St_40 at hst
  try dsimp only at hst
  rcases hst with ⟨v, h1, b, e1, e2, e3, e4, rfl⟩ | ⟨h1, b, e1, e2, e3, rfl⟩
  · refine Q_aload_n hX 1 dL_law__2241 rfl rfl ?_
    refine Q_aload_n hX 0 dL_law__2242 rfl rfl ?_
    refine Q_iload hX 4 dL_law__2243 rfl ?_
    refine Q_iconst hX 1 dL_law__2245 rfl ?_
    refine Q_iadd hX dL_law__2246 ?_
    refine Q_arg hX hScr hL hj 1 rfl (by decide) dL_law__2247 ?_
    refine Q_aload_n hX 3 dL_law__2248 rfl rfl ?_
    refine Q_W1 hX [.ref 1, .int (xs (j + 1)), .ref 50] dL_law__2249 lw_280 (CW_there_ok (okGQ hX) e1) (Nat.le_trans (by decide) hR.1) (Nat.le_trans (by decide) hR.2.1) rfl rfl rfl rfl ⟨by omega, by omega⟩ ?_
    refine Q_istore hX [(5, .int 0), (0, .ref 0), (1, .ref 1), (2, .ref 30), (3, .ref 50), (4, .int (nI j))] dL_law__2252 rfl rfl ?_
    refine Q_aload_n hX 3 dL_law__2254 rfl rfl ?_
    refine Q_aload_n hX 1 dL_law__2255 rfl rfl ?_
    refine Q_iload hX 5 dL_law__2256 rfl ?_
    refine Q_iconst hX 1 dL_law__2258 rfl ?_
    refine Q_iadd hX dL_law__2259 ?_
    refine Q_arg hX hScr hL hj 1 rfl (by decide) dL_law__2260 ?_
    refine Q_V1 hX [.int (xs (j + 1))] dL_law__2261 lv_282 ob_30 rfl (C_X12_there (okGQ hX) e2) (Nat.le_trans (by decide) hR.1) (Nat.le_trans (by decide) hR.2.1) rfl rfl rfl rfl ⟨by omega, by omega⟩ ?_
    refine Q_istore hX [(6, .int b), (5, .int 0), (0, .ref 0), (1, .ref 1), (2, .ref 30), (3, .ref 50), (4, .int (nI j))] dL_law__2264 rfl rfl ?_
    refine Q_aload_n hX 4 dL_law__2266 rfl rfl ?_
    refine Q_V1 hX [] dL_law__2267 lv_150 ob_30 rfl (C_X12_thrown (okGQ hX) rfl) (Nat.le_trans (by decide) hR.1) (Nat.le_trans (by decide) hR.2.1) rfl rfl rfl rfl ⟨by omega, by omega⟩ ?_
    refine Q_nm e3 ?_
    refine Q_iload hX 1 dL_law__2270 rfl ?_
    refine Q_icmp_eqT hX 2277 dL_law__2272 rfl rfl ?_
    refine Q_iload hX 1 dL_law__2277 rfl ?_
    refine Q_if_neF hX 2294 dL_law__2279 rfl rfl ?_
    refine Q_aload_n hX 5 dL_law__2282 rfl rfl ?_
    refine Q_iconst hX 0 dL_law__2283 rfl ?_
    refine Q_lald hX dL_law__2284 ar_50 (by decide) ?_
    refine Q_nmL (congrArg Int32.toInt64 e4) ?_
    refine Q_iload hX 0 dL_law__2285 rfl ?_
    refine Q_i2l hX dL_law__2287 ?_
    refine Q_lcmp hX dL_law__2288 ?_
    refine Q_if_eqT hX 2294 dL_law__2289 rfl (lg_cmp_self _) ?_
    refine Q_goto hX 2799 dL_law__2294 rfl ?_
    refine Q_sub [2, 3, 4, 5, 6] [(0, .ref 0), (1, .ref 1), (2, .ref 30), (3, .ref 50), (4, .int (nI j))] rfl ?_
    exact kk
  · refine Q_aload_n hX 1 dL_law__2241 rfl rfl ?_
    refine Q_aload_n hX 0 dL_law__2242 rfl rfl ?_
    refine Q_iload hX 4 dL_law__2243 rfl ?_
    refine Q_iconst hX 1 dL_law__2245 rfl ?_
    refine Q_iadd hX dL_law__2246 ?_
    refine Q_arg hX hScr hL hj 1 rfl (by decide) dL_law__2247 ?_
    refine Q_aload_n hX 3 dL_law__2248 rfl rfl ?_
    refine Q_W1 hX [.ref 1, .int (xs (j + 1)), .ref 50] dL_law__2249 lw_280 (CW_there_e1 (okGQ hX) e1) (Nat.le_trans (by decide) hR.1) (Nat.le_trans (by decide) hR.2.1) rfl rfl rfl rfl ⟨by omega, by omega⟩ ?_
    refine Q_istore hX [(5, .int 1), (0, .ref 0), (1, .ref 1), (2, .ref 30), (3, .ref 50), (4, .int (nI j))] dL_law__2252 rfl rfl ?_
    refine Q_aload_n hX 3 dL_law__2254 rfl rfl ?_
    refine Q_aload_n hX 1 dL_law__2255 rfl rfl ?_
    refine Q_iload hX 5 dL_law__2256 rfl ?_
    refine Q_iconst hX 1 dL_law__2258 rfl ?_
    refine Q_iadd hX dL_law__2259 ?_
    refine Q_arg hX hScr hL hj 1 rfl (by decide) dL_law__2260 ?_
    refine Q_V1 hX [.int (xs (j + 1))] dL_law__2261 lv_282 ob_30 rfl (C_X12_there (okGQ hX) e2) (Nat.le_trans (by decide) hR.1) (Nat.le_trans (by decide) hR.2.1) rfl rfl rfl rfl ⟨by omega, by omega⟩ ?_
    refine Q_istore hX [(6, .int b), (5, .int 1), (0, .ref 0), (1, .ref 1), (2, .ref 30), (3, .ref 50), (4, .int (nI j))] dL_law__2264 rfl rfl ?_
    refine Q_aload_n hX 4 dL_law__2266 rfl rfl ?_
    refine Q_V1 hX [] dL_law__2267 lv_150 ob_30 rfl (C_X12_thrown (okGQ hX) rfl) (Nat.le_trans (by decide) hR.1) (Nat.le_trans (by decide) hR.2.1) rfl rfl rfl rfl ⟨by omega, by omega⟩ ?_
    refine Q_nm e3 ?_
    refine Q_iload hX 1 dL_law__2270 rfl ?_
    refine Q_icmp_eqT hX 2277 dL_law__2272 rfl rfl ?_
    refine Q_iload hX 1 dL_law__2277 rfl ?_
    refine Q_if_neT hX 2294 dL_law__2279 rfl (by decide) ?_
    refine Q_goto hX 2799 dL_law__2294 rfl ?_
    refine Q_sub [2, 3, 4, 5, 6] [(0, .ref 0), (1, .ref 1), (2, .ref 30), (3, .ref 50), (4, .int (nI j))] rfl ?_
    exact kk
set_option maxRecDepth 100000 in
set_option maxHeartbeats 200000 in
theorem LW_41 {X : CX} {R : Room} {Q : State → Prop} {kC sC Ls j n : Nat} {xs : Nat → Int32} {h h' : Hp} (hX : OkQ X cL_law_ 7 RL (some .boolean)) (hScr : ScrQ X Ls xs) (hL : Ls ≤ 3072) (hj : j + 6 ≤ Ls) (hR : 80 ≤ R.frames ∧ 80 * 80 ≤ R.locals ∧ kC + 1 ≤ R.cells ∧ sC + 6 ≤ R.slots) (hst : St_41 (fun i => xs (j + i)) h h' n) (kk : JQ X R Q (kC + n) (sC + 6 * n) 2799 [(0, .ref 0), (1, .ref 1), (2, .ref 30), (3, .ref 50), (4, .int (nI j))] [] h') : JQ X R Q kC sC 2297 [(0, .ref 0), (1, .ref 1), (2, .ref 30), (3, .ref 50), (4, .int (nI j))] [] h := by
  have hr1 := hR.2.2.1
  have hr2 := hR.2.2.2
  unfold St_41 at hst
  try dsimp only at hst
  obtain ⟨v, e1, e2, rfl⟩ := hst
  refine Q_aload_n hX 1 dL_law__2297 rfl rfl ?_
  refine Q_V1 hX [] dL_law__2298 lv_283 ob_1 rfl (C_X11_twins (okGQ hX) e1) (Nat.le_trans (by decide) hR.1) (Nat.le_trans (by decide) hR.2.1) rfl rfl rfl rfl ⟨by omega, by omega⟩ ?_
  refine Q_aload_n hX 2 dL_law__2301 rfl rfl ?_
  refine Q_V1 hX [] dL_law__2302 lv_286 ob_30 rfl (C_X12_twins (okGQ hX) e2) (Nat.le_trans (by decide) hR.1) (Nat.le_trans (by decide) hR.2.1) rfl rfl rfl rfl ⟨by omega, by omega⟩ ?_
  refine Q_icmp_eqT hX 2799 dL_law__2305 rfl rfl ?_
  exact kk
set_option maxRecDepth 100000 in
set_option maxHeartbeats 200000 in
theorem LW_42 {X : CX} {R : Room} {Q : State → Prop} {kC sC Ls j n : Nat} {xs : Nat → Int32} {h h' : Hp} (hX : OkQ X cL_law_ 7 RL (some .boolean)) (hScr : ScrQ X Ls xs) (hL : Ls ≤ 3072) (hj : j + 6 ≤ Ls) (hR : 80 ≤ R.frames ∧ 80 * 80 ≤ R.locals ∧ kC + 1 ≤ R.cells ∧ sC + 6 ≤ R.slots) (hst : St_42 (fun i => xs (j + i)) h h' n) (kk : JQ X R Q (kC + n) (sC + 6 * n) 2799 [(0, .ref 0), (1, .ref 1), (2, .ref 30), (3, .ref 50), (4, .int (nI j))] [] h') : JQ X R Q kC sC 2310 [(0, .ref 0), (1, .ref 1), (2, .ref 30), (3, .ref 50), (4, .int (nI j))] [] h := by
  have hr1 := hR.2.2.1
  have hr2 := hR.2.2.2
  unfold St_42 at hst
  try dsimp only at hst
  obtain ⟨v, e1, e2, rfl⟩ := hst
  refine Q_aload_n hX 1 dL_law__2310 rfl rfl ?_
  refine Q_V1 hX [] dL_law__2311 lv_287 ob_1 rfl (C_X11_leans (okGQ hX) e1) (Nat.le_trans (by decide) hR.1) (Nat.le_trans (by decide) hR.2.1) rfl rfl rfl rfl ⟨by omega, by omega⟩ ?_
  refine Q_aload_n hX 2 dL_law__2314 rfl rfl ?_
  refine Q_V1 hX [] dL_law__2315 lv_290 ob_30 rfl (C_X12_leans (okGQ hX) e2) (Nat.le_trans (by decide) hR.1) (Nat.le_trans (by decide) hR.2.1) rfl rfl rfl rfl ⟨by omega, by omega⟩ ?_
  refine Q_icmp_eqT hX 2799 dL_law__2318 rfl rfl ?_
  exact kk
set_option maxRecDepth 100000 in
set_option maxHeartbeats 200000 in
theorem LW_43 {X : CX} {R : Room} {Q : State → Prop} {kC sC Ls j n : Nat} {xs : Nat → Int32} {h h' : Hp} (hX : OkQ X cL_law_ 7 RL (some .boolean)) (hScr : ScrQ X Ls xs) (hL : Ls ≤ 3072) (hj : j + 6 ≤ Ls) (hR : 80 ≤ R.frames ∧ 80 * 80 ≤ R.locals ∧ kC + 1 ≤ R.cells ∧ sC + 6 ≤ R.slots) (hst : St_43 (fun i => xs (j + i)) h h' n) (kk : JQ X R Q (kC + n) (sC + 6 * n) 2799 [(0, .ref 0), (1, .ref 1), (2, .ref 30), (3, .ref 50), (4, .int (nI j))] [] h') : JQ X R Q kC sC 2323 [(0, .ref 0), (1, .ref 1), (2, .ref 30), (3, .ref 50), (4, .int (nI j))] [] h := by
  have hr1 := hR.2.2.1
  have hr2 := hR.2.2.2
  unfold St_43 at hst
  try dsimp only at hst
  obtain ⟨v, h1, e1, e2, rfl⟩ := hst
  refine Q_aload_n hX 1 dL_law__2323 rfl rfl ?_
  refine Q_V1 hX [] dL_law__2324 lv_291 ob_1 rfl (C_X11_down (okGQ hX) e1) (Nat.le_trans (by decide) hR.1) (Nat.le_trans (by decide) hR.2.1) rfl rfl rfl rfl ⟨by omega, by omega⟩ ?_
  refine Q_aload_n hX 2 dL_law__2327 rfl rfl ?_
  refine Q_V1 hX [] dL_law__2328 lv_294 ob_30 rfl (C_X12_down (okGQ hX) e2) (Nat.le_trans (by decide) hR.1) (Nat.le_trans (by decide) hR.2.1) rfl rfl rfl rfl ⟨by omega, by omega⟩ ?_
  refine Q_icmp_eqT hX 2799 dL_law__2331 rfl rfl ?_
  exact kk
set_option maxRecDepth 100000 in
set_option maxHeartbeats 200000 in
theorem LW_44 {X : CX} {R : Room} {Q : State → Prop} {kC sC Ls j n : Nat} {xs : Nat → Int32} {h h' : Hp} (hX : OkQ X cL_law_ 7 RL (some .boolean)) (hScr : ScrQ X Ls xs) (hL : Ls ≤ 3072) (hj : j + 6 ≤ Ls) (hR : 80 ≤ R.frames ∧ 80 * 80 ≤ R.locals ∧ kC + 1 ≤ R.cells ∧ sC + 6 ≤ R.slots) (hst : St_44 (fun i => xs (j + i)) h h' n) (kk : JQ X R Q (kC + n) (sC + 6 * n) 2799 [(0, .ref 0), (1, .ref 1), (2, .ref 30), (3, .ref 50), (4, .int (nI j))] [] h') : JQ X R Q kC sC 2336 [(0, .ref 0), (1, .ref 1), (2, .ref 30), (3, .ref 50), (4, .int (nI j))] [] h := by
  have hr1 := hR.2.2.1
  have hr2 := hR.2.2.2
  unfold St_44 at hst
  try dsimp only at hst
  rcases hst with ⟨v, h1, b, e1, e2, e3, e4, rfl⟩ | ⟨h1, b, e1, e2, e3, rfl⟩
  · refine Q_aload_n hX 1 dL_law__2336 rfl rfl ?_
    refine Q_aload_n hX 0 dL_law__2337 rfl rfl ?_
    refine Q_iload hX 4 dL_law__2338 rfl ?_
    refine Q_iconst hX 1 dL_law__2340 rfl ?_
    refine Q_iadd hX dL_law__2341 ?_
    refine Q_arg hX hScr hL hj 1 rfl (by decide) dL_law__2342 ?_
    refine Q_aload_n hX 3 dL_law__2343 rfl rfl ?_
    refine Q_W1 hX [.ref 1, .int (xs (j + 1)), .ref 50] dL_law__2344 lw_295 (CW_ahead_ok (okGQ hX) e1) (Nat.le_trans (by decide) hR.1) (Nat.le_trans (by decide) hR.2.1) rfl rfl rfl rfl ⟨by omega, by omega⟩ ?_
    refine Q_istore hX [(5, .int 0), (0, .ref 0), (1, .ref 1), (2, .ref 30), (3, .ref 50), (4, .int (nI j))] dL_law__2347 rfl rfl ?_
    refine Q_aload_n hX 3 dL_law__2349 rfl rfl ?_
    refine Q_aload_n hX 1 dL_law__2350 rfl rfl ?_
    refine Q_iload hX 5 dL_law__2351 rfl ?_
    refine Q_iconst hX 1 dL_law__2353 rfl ?_
    refine Q_iadd hX dL_law__2354 ?_
    refine Q_arg hX hScr hL hj 1 rfl (by decide) dL_law__2355 ?_
    refine Q_V1 hX [.int (xs (j + 1))] dL_law__2356 lv_297 ob_30 rfl (C_X12_ahead (okGQ hX) e2) (Nat.le_trans (by decide) hR.1) (Nat.le_trans (by decide) hR.2.1) rfl rfl rfl rfl ⟨by omega, by omega⟩ ?_
    refine Q_istore hX [(6, .int b), (5, .int 0), (0, .ref 0), (1, .ref 1), (2, .ref 30), (3, .ref 50), (4, .int (nI j))] dL_law__2359 rfl rfl ?_
    refine Q_aload_n hX 4 dL_law__2361 rfl rfl ?_
    refine Q_V1 hX [] dL_law__2362 lv_150 ob_30 rfl (C_X12_thrown (okGQ hX) rfl) (Nat.le_trans (by decide) hR.1) (Nat.le_trans (by decide) hR.2.1) rfl rfl rfl rfl ⟨by omega, by omega⟩ ?_
    refine Q_nm e3 ?_
    refine Q_iload hX 1 dL_law__2365 rfl ?_
    refine Q_icmp_eqT hX 2372 dL_law__2367 rfl rfl ?_
    refine Q_iload hX 1 dL_law__2372 rfl ?_
    refine Q_if_neF hX 2389 dL_law__2374 rfl rfl ?_
    refine Q_aload_n hX 5 dL_law__2377 rfl rfl ?_
    refine Q_iconst hX 0 dL_law__2378 rfl ?_
    refine Q_lald hX dL_law__2379 ar_50 (by decide) ?_
    refine Q_nmL (congrArg Int32.toInt64 e4) ?_
    refine Q_iload hX 0 dL_law__2380 rfl ?_
    refine Q_i2l hX dL_law__2382 ?_
    refine Q_lcmp hX dL_law__2383 ?_
    refine Q_if_eqT hX 2389 dL_law__2384 rfl (lg_cmp_self _) ?_
    refine Q_goto hX 2799 dL_law__2389 rfl ?_
    refine Q_sub [2, 3, 4, 5, 6] [(0, .ref 0), (1, .ref 1), (2, .ref 30), (3, .ref 50), (4, .int (nI j))] rfl ?_
    exact kk
  · refine Q_aload_n hX 1 dL_law__2336 rfl rfl ?_
    refine Q_aload_n hX 0 dL_law__2337 rfl rfl ?_
    refine Q_iload hX 4 dL_law__2338 rfl ?_
    refine Q_iconst hX 1 dL_law__2340 rfl ?_
    refine Q_iadd hX dL_law__2341 ?_
    refine Q_arg hX hScr hL hj 1 rfl (by decide) dL_law__2342 ?_
    refine Q_aload_n hX 3 dL_law__2343 rfl rfl ?_
    refine Q_W1 hX [.ref 1, .int (xs (j + 1)), .ref 50] dL_law__2344 lw_295 (CW_ahead_e1 (okGQ hX) e1) (Nat.le_trans (by decide) hR.1) (Nat.le_trans (by decide) hR.2.1) rfl rfl rfl rfl ⟨by omega, by omega⟩ ?_
    refine Q_istore hX [(5, .int 1), (0, .ref 0), (1, .ref 1), (2, .ref 30), (3, .ref 50), (4, .int (nI j))] dL_law__2347 rfl rfl ?_
    refine Q_aload_n hX 3 dL_law__2349 rfl rfl ?_
    refine Q_aload_n hX 1 dL_law__2350 rfl rfl ?_
    refine Q_iload hX 5 dL_law__2351 rfl ?_
    refine Q_iconst hX 1 dL_law__2353 rfl ?_
    refine Q_iadd hX dL_law__2354 ?_
    refine Q_arg hX hScr hL hj 1 rfl (by decide) dL_law__2355 ?_
    refine Q_V1 hX [.int (xs (j + 1))] dL_law__2356 lv_297 ob_30 rfl (C_X12_ahead (okGQ hX) e2) (Nat.le_trans (by decide) hR.1) (Nat.le_trans (by decide) hR.2.1) rfl rfl rfl rfl ⟨by omega, by omega⟩ ?_
    refine Q_istore hX [(6, .int b), (5, .int 1), (0, .ref 0), (1, .ref 1), (2, .ref 30), (3, .ref 50), (4, .int (nI j))] dL_law__2359 rfl rfl ?_
    refine Q_aload_n hX 4 dL_law__2361 rfl rfl ?_
    refine Q_V1 hX [] dL_law__2362 lv_150 ob_30 rfl (C_X12_thrown (okGQ hX) rfl) (Nat.le_trans (by decide) hR.1) (Nat.le_trans (by decide) hR.2.1) rfl rfl rfl rfl ⟨by omega, by omega⟩ ?_
    refine Q_nm e3 ?_
    refine Q_iload hX 1 dL_law__2365 rfl ?_
    refine Q_icmp_eqT hX 2372 dL_law__2367 rfl rfl ?_
    refine Q_iload hX 1 dL_law__2372 rfl ?_
    refine Q_if_neT hX 2389 dL_law__2374 rfl (by decide) ?_
    refine Q_goto hX 2799 dL_law__2389 rfl ?_
    refine Q_sub [2, 3, 4, 5, 6] [(0, .ref 0), (1, .ref 1), (2, .ref 30), (3, .ref 50), (4, .int (nI j))] rfl ?_
    exact kk
set_option maxRecDepth 100000 in
set_option maxHeartbeats 200000 in
theorem LW_45 {X : CX} {R : Room} {Q : State → Prop} {kC sC Ls j n : Nat} {xs : Nat → Int32} {h h' : Hp} (hX : OkQ X cL_law_ 7 RL (some .boolean)) (hScr : ScrQ X Ls xs) (hL : Ls ≤ 3072) (hj : j + 6 ≤ Ls) (hR : 80 ≤ R.frames ∧ 80 * 80 ≤ R.locals ∧ kC + 1 ≤ R.cells ∧ sC + 6 ≤ R.slots) (hst : St_45 (fun i => xs (j + i)) h h' n) (kk : JQ X R Q (kC + n) (sC + 6 * n) 2799 [(0, .ref 0), (1, .ref 1), (2, .ref 30), (3, .ref 50), (4, .int (nI j))] [] h') : JQ X R Q kC sC 2392 [(0, .ref 0), (1, .ref 1), (2, .ref 30), (3, .ref 50), (4, .int (nI j))] [] h := by
  have hr1 := hR.2.2.1
  have hr2 := hR.2.2.2
  unfold St_45 at hst
  try dsimp only at hst
  rcases Classical.em (xs (j + 2) = 0) with c0 | c0
  · rw [show nz (xs (j + 2)) = 0 from if_pos c0] at hst
    rcases hst with ⟨v, h1, b, e1, e2, e3, e4, rfl⟩ | ⟨h1, b, e1, e2, e3, rfl⟩
    · refine Q_aload_n hX 1 dL_law__2392 rfl rfl ?_
      refine Q_aload_n hX 0 dL_law__2393 rfl rfl ?_
      refine Q_iload hX 4 dL_law__2394 rfl ?_
      refine Q_iconst hX 1 dL_law__2396 rfl ?_
      refine Q_iadd hX dL_law__2397 ?_
      refine Q_arg hX hScr hL hj 1 rfl (by decide) dL_law__2398 ?_
      refine Q_aload_n hX 0 dL_law__2399 rfl rfl ?_
      refine Q_iload hX 4 dL_law__2400 rfl ?_
      refine Q_iconst hX 2 dL_law__2402 rfl ?_
      refine Q_iadd hX dL_law__2403 ?_
      refine Q_arg hX hScr hL hj 2 rfl (by decide) dL_law__2404 ?_
      refine Q_if_eqT hX 2412 dL_law__2405 rfl c0 ?_
      refine Q_iconst hX 0 dL_law__2412 rfl ?_
      refine Q_aload_n hX 3 dL_law__2413 rfl rfl ?_
      refine Q_W1 hX [.ref 1, .int (xs (j + 1)), .int 0, .ref 50] dL_law__2414 lw_298 (CW_trial_ok (okGQ hX) e1) (Nat.le_trans (by decide) hR.1) (Nat.le_trans (by decide) hR.2.1) rfl rfl rfl rfl ⟨by omega, by omega⟩ ?_
      refine Q_istore hX [(5, .int 0), (0, .ref 0), (1, .ref 1), (2, .ref 30), (3, .ref 50), (4, .int (nI j))] dL_law__2417 rfl rfl ?_
      refine Q_aload_n hX 3 dL_law__2419 rfl rfl ?_
      refine Q_aload_n hX 1 dL_law__2420 rfl rfl ?_
      refine Q_iload hX 5 dL_law__2421 rfl ?_
      refine Q_iconst hX 1 dL_law__2423 rfl ?_
      refine Q_iadd hX dL_law__2424 ?_
      refine Q_arg hX hScr hL hj 1 rfl (by decide) dL_law__2425 ?_
      refine Q_aload_n hX 1 dL_law__2426 rfl rfl ?_
      refine Q_iload hX 5 dL_law__2427 rfl ?_
      refine Q_iconst hX 2 dL_law__2429 rfl ?_
      refine Q_iadd hX dL_law__2430 ?_
      refine Q_arg hX hScr hL hj 2 rfl (by decide) dL_law__2431 ?_
      refine Q_if_eqT hX 2439 dL_law__2432 rfl c0 ?_
      refine Q_iconst hX 0 dL_law__2439 rfl ?_
      refine Q_V1 hX [.int (xs (j + 1)), .int 0] dL_law__2440 lv_301 ob_30 rfl (C_X12_trial (okGQ hX) e2) (Nat.le_trans (by decide) hR.1) (Nat.le_trans (by decide) hR.2.1) rfl rfl rfl rfl ⟨by omega, by omega⟩ ?_
      refine Q_istore hX [(6, .int b), (5, .int 0), (0, .ref 0), (1, .ref 1), (2, .ref 30), (3, .ref 50), (4, .int (nI j))] dL_law__2443 rfl rfl ?_
      refine Q_aload_n hX 4 dL_law__2445 rfl rfl ?_
      refine Q_V1 hX [] dL_law__2446 lv_150 ob_30 rfl (C_X12_thrown (okGQ hX) rfl) (Nat.le_trans (by decide) hR.1) (Nat.le_trans (by decide) hR.2.1) rfl rfl rfl rfl ⟨by omega, by omega⟩ ?_
      refine Q_nm e3 ?_
      refine Q_iload hX 1 dL_law__2449 rfl ?_
      refine Q_icmp_eqT hX 2456 dL_law__2451 rfl rfl ?_
      refine Q_iload hX 1 dL_law__2456 rfl ?_
      refine Q_if_neF hX 2473 dL_law__2458 rfl rfl ?_
      refine Q_aload_n hX 5 dL_law__2461 rfl rfl ?_
      refine Q_iconst hX 0 dL_law__2462 rfl ?_
      refine Q_lald hX dL_law__2463 ar_50 (by decide) ?_
      refine Q_nmL (congrArg Int32.toInt64 e4) ?_
      refine Q_iload hX 0 dL_law__2464 rfl ?_
      refine Q_i2l hX dL_law__2466 ?_
      refine Q_lcmp hX dL_law__2467 ?_
      refine Q_if_eqT hX 2473 dL_law__2468 rfl (lg_cmp_self _) ?_
      refine Q_goto hX 2799 dL_law__2473 rfl ?_
      refine Q_sub [2, 3, 4, 5, 6] [(0, .ref 0), (1, .ref 1), (2, .ref 30), (3, .ref 50), (4, .int (nI j))] rfl ?_
      exact kk
    · refine Q_aload_n hX 1 dL_law__2392 rfl rfl ?_
      refine Q_aload_n hX 0 dL_law__2393 rfl rfl ?_
      refine Q_iload hX 4 dL_law__2394 rfl ?_
      refine Q_iconst hX 1 dL_law__2396 rfl ?_
      refine Q_iadd hX dL_law__2397 ?_
      refine Q_arg hX hScr hL hj 1 rfl (by decide) dL_law__2398 ?_
      refine Q_aload_n hX 0 dL_law__2399 rfl rfl ?_
      refine Q_iload hX 4 dL_law__2400 rfl ?_
      refine Q_iconst hX 2 dL_law__2402 rfl ?_
      refine Q_iadd hX dL_law__2403 ?_
      refine Q_arg hX hScr hL hj 2 rfl (by decide) dL_law__2404 ?_
      refine Q_if_eqT hX 2412 dL_law__2405 rfl c0 ?_
      refine Q_iconst hX 0 dL_law__2412 rfl ?_
      refine Q_aload_n hX 3 dL_law__2413 rfl rfl ?_
      refine Q_W1 hX [.ref 1, .int (xs (j + 1)), .int 0, .ref 50] dL_law__2414 lw_298 (CW_trial_e1 (okGQ hX) e1) (Nat.le_trans (by decide) hR.1) (Nat.le_trans (by decide) hR.2.1) rfl rfl rfl rfl ⟨by omega, by omega⟩ ?_
      refine Q_istore hX [(5, .int 1), (0, .ref 0), (1, .ref 1), (2, .ref 30), (3, .ref 50), (4, .int (nI j))] dL_law__2417 rfl rfl ?_
      refine Q_aload_n hX 3 dL_law__2419 rfl rfl ?_
      refine Q_aload_n hX 1 dL_law__2420 rfl rfl ?_
      refine Q_iload hX 5 dL_law__2421 rfl ?_
      refine Q_iconst hX 1 dL_law__2423 rfl ?_
      refine Q_iadd hX dL_law__2424 ?_
      refine Q_arg hX hScr hL hj 1 rfl (by decide) dL_law__2425 ?_
      refine Q_aload_n hX 1 dL_law__2426 rfl rfl ?_
      refine Q_iload hX 5 dL_law__2427 rfl ?_
      refine Q_iconst hX 2 dL_law__2429 rfl ?_
      refine Q_iadd hX dL_law__2430 ?_
      refine Q_arg hX hScr hL hj 2 rfl (by decide) dL_law__2431 ?_
      refine Q_if_eqT hX 2439 dL_law__2432 rfl c0 ?_
      refine Q_iconst hX 0 dL_law__2439 rfl ?_
      refine Q_V1 hX [.int (xs (j + 1)), .int 0] dL_law__2440 lv_301 ob_30 rfl (C_X12_trial (okGQ hX) e2) (Nat.le_trans (by decide) hR.1) (Nat.le_trans (by decide) hR.2.1) rfl rfl rfl rfl ⟨by omega, by omega⟩ ?_
      refine Q_istore hX [(6, .int b), (5, .int 1), (0, .ref 0), (1, .ref 1), (2, .ref 30), (3, .ref 50), (4, .int (nI j))] dL_law__2443 rfl rfl ?_
      refine Q_aload_n hX 4 dL_law__2445 rfl rfl ?_
      refine Q_V1 hX [] dL_law__2446 lv_150 ob_30 rfl (C_X12_thrown (okGQ hX) rfl) (Nat.le_trans (by decide) hR.1) (Nat.le_trans (by decide) hR.2.1) rfl rfl rfl rfl ⟨by omega, by omega⟩ ?_
      refine Q_nm e3 ?_
      refine Q_iload hX 1 dL_law__2449 rfl ?_
      refine Q_icmp_eqT hX 2456 dL_law__2451 rfl rfl ?_
      refine Q_iload hX 1 dL_law__2456 rfl ?_
      refine Q_if_neT hX 2473 dL_law__2458 rfl (by decide) ?_
      refine Q_goto hX 2799 dL_law__2473 rfl ?_
      refine Q_sub [2, 3, 4, 5, 6] [(0, .ref 0), (1, .ref 1), (2, .ref 30), (3, .ref 50), (4, .int (nI j))] rfl ?_
      exact kk
  · rw [show nz (xs (j + 2)) = 1 from if_neg c0] at hst
    rcases hst with ⟨v, h1, b, e1, e2, e3, e4, rfl⟩ | ⟨h1, b, e1, e2, e3, rfl⟩
    · refine Q_aload_n hX 1 dL_law__2392 rfl rfl ?_
      refine Q_aload_n hX 0 dL_law__2393 rfl rfl ?_
      refine Q_iload hX 4 dL_law__2394 rfl ?_
      refine Q_iconst hX 1 dL_law__2396 rfl ?_
      refine Q_iadd hX dL_law__2397 ?_
      refine Q_arg hX hScr hL hj 1 rfl (by decide) dL_law__2398 ?_
      refine Q_aload_n hX 0 dL_law__2399 rfl rfl ?_
      refine Q_iload hX 4 dL_law__2400 rfl ?_
      refine Q_iconst hX 2 dL_law__2402 rfl ?_
      refine Q_iadd hX dL_law__2403 ?_
      refine Q_arg hX hScr hL hj 2 rfl (by decide) dL_law__2404 ?_
      refine Q_if_eqF hX 2412 dL_law__2405 rfl c0 ?_
      refine Q_iconst hX 1 dL_law__2408 rfl ?_
      refine Q_goto hX 2413 dL_law__2409 rfl ?_
      refine Q_aload_n hX 3 dL_law__2413 rfl rfl ?_
      refine Q_W1 hX [.ref 1, .int (xs (j + 1)), .int 1, .ref 50] dL_law__2414 lw_298 (CW_trial_ok (okGQ hX) e1) (Nat.le_trans (by decide) hR.1) (Nat.le_trans (by decide) hR.2.1) rfl rfl rfl rfl ⟨by omega, by omega⟩ ?_
      refine Q_istore hX [(5, .int 0), (0, .ref 0), (1, .ref 1), (2, .ref 30), (3, .ref 50), (4, .int (nI j))] dL_law__2417 rfl rfl ?_
      refine Q_aload_n hX 3 dL_law__2419 rfl rfl ?_
      refine Q_aload_n hX 1 dL_law__2420 rfl rfl ?_
      refine Q_iload hX 5 dL_law__2421 rfl ?_
      refine Q_iconst hX 1 dL_law__2423 rfl ?_
      refine Q_iadd hX dL_law__2424 ?_
      refine Q_arg hX hScr hL hj 1 rfl (by decide) dL_law__2425 ?_
      refine Q_aload_n hX 1 dL_law__2426 rfl rfl ?_
      refine Q_iload hX 5 dL_law__2427 rfl ?_
      refine Q_iconst hX 2 dL_law__2429 rfl ?_
      refine Q_iadd hX dL_law__2430 ?_
      refine Q_arg hX hScr hL hj 2 rfl (by decide) dL_law__2431 ?_
      refine Q_if_eqF hX 2439 dL_law__2432 rfl c0 ?_
      refine Q_iconst hX 1 dL_law__2435 rfl ?_
      refine Q_goto hX 2440 dL_law__2436 rfl ?_
      refine Q_V1 hX [.int (xs (j + 1)), .int 1] dL_law__2440 lv_301 ob_30 rfl (C_X12_trial (okGQ hX) e2) (Nat.le_trans (by decide) hR.1) (Nat.le_trans (by decide) hR.2.1) rfl rfl rfl rfl ⟨by omega, by omega⟩ ?_
      refine Q_istore hX [(6, .int b), (5, .int 0), (0, .ref 0), (1, .ref 1), (2, .ref 30), (3, .ref 50), (4, .int (nI j))] dL_law__2443 rfl rfl ?_
      refine Q_aload_n hX 4 dL_law__2445 rfl rfl ?_
      refine Q_V1 hX [] dL_law__2446 lv_150 ob_30 rfl (C_X12_thrown (okGQ hX) rfl) (Nat.le_trans (by decide) hR.1) (Nat.le_trans (by decide) hR.2.1) rfl rfl rfl rfl ⟨by omega, by omega⟩ ?_
      refine Q_nm e3 ?_
      refine Q_iload hX 1 dL_law__2449 rfl ?_
      refine Q_icmp_eqT hX 2456 dL_law__2451 rfl rfl ?_
      refine Q_iload hX 1 dL_law__2456 rfl ?_
      refine Q_if_neF hX 2473 dL_law__2458 rfl rfl ?_
      refine Q_aload_n hX 5 dL_law__2461 rfl rfl ?_
      refine Q_iconst hX 0 dL_law__2462 rfl ?_
      refine Q_lald hX dL_law__2463 ar_50 (by decide) ?_
      refine Q_nmL (congrArg Int32.toInt64 e4) ?_
      refine Q_iload hX 0 dL_law__2464 rfl ?_
      refine Q_i2l hX dL_law__2466 ?_
      refine Q_lcmp hX dL_law__2467 ?_
      refine Q_if_eqT hX 2473 dL_law__2468 rfl (lg_cmp_self _) ?_
      refine Q_goto hX 2799 dL_law__2473 rfl ?_
      refine Q_sub [2, 3, 4, 5, 6] [(0, .ref 0), (1, .ref 1), (2, .ref 30), (3, .ref 50), (4, .int (nI j))] rfl ?_
      exact kk
    · refine Q_aload_n hX 1 dL_law__2392 rfl rfl ?_
      refine Q_aload_n hX 0 dL_law__2393 rfl rfl ?_
      refine Q_iload hX 4 dL_law__2394 rfl ?_
      refine Q_iconst hX 1 dL_law__2396 rfl ?_
      refine Q_iadd hX dL_law__2397 ?_
      refine Q_arg hX hScr hL hj 1 rfl (by decide) dL_law__2398 ?_
      refine Q_aload_n hX 0 dL_law__2399 rfl rfl ?_
      refine Q_iload hX 4 dL_law__2400 rfl ?_
      refine Q_iconst hX 2 dL_law__2402 rfl ?_
      refine Q_iadd hX dL_law__2403 ?_
      refine Q_arg hX hScr hL hj 2 rfl (by decide) dL_law__2404 ?_
      refine Q_if_eqF hX 2412 dL_law__2405 rfl c0 ?_
      refine Q_iconst hX 1 dL_law__2408 rfl ?_
      refine Q_goto hX 2413 dL_law__2409 rfl ?_
      refine Q_aload_n hX 3 dL_law__2413 rfl rfl ?_
      refine Q_W1 hX [.ref 1, .int (xs (j + 1)), .int 1, .ref 50] dL_law__2414 lw_298 (CW_trial_e1 (okGQ hX) e1) (Nat.le_trans (by decide) hR.1) (Nat.le_trans (by decide) hR.2.1) rfl rfl rfl rfl ⟨by omega, by omega⟩ ?_
      refine Q_istore hX [(5, .int 1), (0, .ref 0), (1, .ref 1), (2, .ref 30), (3, .ref 50), (4, .int (nI j))] dL_law__2417 rfl rfl ?_
      refine Q_aload_n hX 3 dL_law__2419 rfl rfl ?_
      refine Q_aload_n hX 1 dL_law__2420 rfl rfl ?_
      refine Q_iload hX 5 dL_law__2421 rfl ?_
      refine Q_iconst hX 1 dL_law__2423 rfl ?_
      refine Q_iadd hX dL_law__2424 ?_
      refine Q_arg hX hScr hL hj 1 rfl (by decide) dL_law__2425 ?_
      refine Q_aload_n hX 1 dL_law__2426 rfl rfl ?_
      refine Q_iload hX 5 dL_law__2427 rfl ?_
      refine Q_iconst hX 2 dL_law__2429 rfl ?_
      refine Q_iadd hX dL_law__2430 ?_
      refine Q_arg hX hScr hL hj 2 rfl (by decide) dL_law__2431 ?_
      refine Q_if_eqF hX 2439 dL_law__2432 rfl c0 ?_
      refine Q_iconst hX 1 dL_law__2435 rfl ?_
      refine Q_goto hX 2440 dL_law__2436 rfl ?_
      refine Q_V1 hX [.int (xs (j + 1)), .int 1] dL_law__2440 lv_301 ob_30 rfl (C_X12_trial (okGQ hX) e2) (Nat.le_trans (by decide) hR.1) (Nat.le_trans (by decide) hR.2.1) rfl rfl rfl rfl ⟨by omega, by omega⟩ ?_
      refine Q_istore hX [(6, .int b), (5, .int 1), (0, .ref 0), (1, .ref 1), (2, .ref 30), (3, .ref 50), (4, .int (nI j))] dL_law__2443 rfl rfl ?_
      refine Q_aload_n hX 4 dL_law__2445 rfl rfl ?_
      refine Q_V1 hX [] dL_law__2446 lv_150 ob_30 rfl (C_X12_thrown (okGQ hX) rfl) (Nat.le_trans (by decide) hR.1) (Nat.le_trans (by decide) hR.2.1) rfl rfl rfl rfl ⟨by omega, by omega⟩ ?_
      refine Q_nm e3 ?_
      refine Q_iload hX 1 dL_law__2449 rfl ?_
      refine Q_icmp_eqT hX 2456 dL_law__2451 rfl rfl ?_
      refine Q_iload hX 1 dL_law__2456 rfl ?_
      refine Q_if_neT hX 2473 dL_law__2458 rfl (by decide) ?_
      refine Q_goto hX 2799 dL_law__2473 rfl ?_
      refine Q_sub [2, 3, 4, 5, 6] [(0, .ref 0), (1, .ref 1), (2, .ref 30), (3, .ref 50), (4, .int (nI j))] rfl ?_
      exact kk
set_option maxRecDepth 100000 in
set_option maxHeartbeats 200000 in
theorem LW_46 {X : CX} {R : Room} {Q : State → Prop} {kC sC Ls j n : Nat} {xs : Nat → Int32} {h h' : Hp} (hX : OkQ X cL_law_ 7 RL (some .boolean)) (hScr : ScrQ X Ls xs) (hL : Ls ≤ 3072) (hj : j + 6 ≤ Ls) (hR : 80 ≤ R.frames ∧ 80 * 80 ≤ R.locals ∧ kC + 1 ≤ R.cells ∧ sC + 6 ≤ R.slots) (hst : St_46 (fun i => xs (j + i)) h h' n) (kk : JQ X R Q (kC + n) (sC + 6 * n) 2799 [(0, .ref 0), (1, .ref 1), (2, .ref 30), (3, .ref 50), (4, .int (nI j))] [] h') : JQ X R Q kC sC 2476 [(0, .ref 0), (1, .ref 1), (2, .ref 30), (3, .ref 50), (4, .int (nI j))] [] h := by
  have hr1 := hR.2.2.1
  have hr2 := hR.2.2.2
  unfold St_46 at hst
  try dsimp only at hst
  rcases Classical.em (xs (j + 2) = 0) with c0 | c0
  · rw [show nz (xs (j + 2)) = 0 from if_pos c0] at hst
    rcases hst with ⟨v, h1, b, e1, e2, e3, e4, rfl⟩ | ⟨h1, b, e1, e2, e3, rfl⟩
    · refine Q_aload_n hX 1 dL_law__2476 rfl rfl ?_
      refine Q_aload_n hX 0 dL_law__2477 rfl rfl ?_
      refine Q_iload hX 4 dL_law__2478 rfl ?_
      refine Q_iconst hX 1 dL_law__2480 rfl ?_
      refine Q_iadd hX dL_law__2481 ?_
      refine Q_arg hX hScr hL hj 1 rfl (by decide) dL_law__2482 ?_
      refine Q_aload_n hX 0 dL_law__2483 rfl rfl ?_
      refine Q_iload hX 4 dL_law__2484 rfl ?_
      refine Q_iconst hX 2 dL_law__2486 rfl ?_
      refine Q_iadd hX dL_law__2487 ?_
      refine Q_arg hX hScr hL hj 2 rfl (by decide) dL_law__2488 ?_
      refine Q_if_eqT hX 2496 dL_law__2489 rfl c0 ?_
      refine Q_iconst hX 0 dL_law__2496 rfl ?_
      refine Q_aload_n hX 3 dL_law__2497 rfl rfl ?_
      refine Q_W1 hX [.ref 1, .int (xs (j + 1)), .int 0, .ref 50] dL_law__2498 lw_302 (CW_span_ok (okGQ hX) e1) (Nat.le_trans (by decide) hR.1) (Nat.le_trans (by decide) hR.2.1) rfl rfl rfl rfl ⟨by omega, by omega⟩ ?_
      refine Q_istore hX [(5, .int 0), (0, .ref 0), (1, .ref 1), (2, .ref 30), (3, .ref 50), (4, .int (nI j))] dL_law__2501 rfl rfl ?_
      refine Q_aload_n hX 3 dL_law__2503 rfl rfl ?_
      refine Q_aload_n hX 1 dL_law__2504 rfl rfl ?_
      refine Q_iload hX 5 dL_law__2505 rfl ?_
      refine Q_iconst hX 1 dL_law__2507 rfl ?_
      refine Q_iadd hX dL_law__2508 ?_
      refine Q_arg hX hScr hL hj 1 rfl (by decide) dL_law__2509 ?_
      refine Q_aload_n hX 1 dL_law__2510 rfl rfl ?_
      refine Q_iload hX 5 dL_law__2511 rfl ?_
      refine Q_iconst hX 2 dL_law__2513 rfl ?_
      refine Q_iadd hX dL_law__2514 ?_
      refine Q_arg hX hScr hL hj 2 rfl (by decide) dL_law__2515 ?_
      refine Q_if_eqT hX 2523 dL_law__2516 rfl c0 ?_
      refine Q_iconst hX 0 dL_law__2523 rfl ?_
      refine Q_V1 hX [.int (xs (j + 1)), .int 0] dL_law__2524 lv_304 ob_30 rfl (C_X12_span (okGQ hX) e2) (Nat.le_trans (by decide) hR.1) (Nat.le_trans (by decide) hR.2.1) rfl rfl rfl rfl ⟨by omega, by omega⟩ ?_
      refine Q_istore hX [(6, .int b), (5, .int 0), (0, .ref 0), (1, .ref 1), (2, .ref 30), (3, .ref 50), (4, .int (nI j))] dL_law__2527 rfl rfl ?_
      refine Q_aload_n hX 4 dL_law__2529 rfl rfl ?_
      refine Q_V1 hX [] dL_law__2530 lv_150 ob_30 rfl (C_X12_thrown (okGQ hX) rfl) (Nat.le_trans (by decide) hR.1) (Nat.le_trans (by decide) hR.2.1) rfl rfl rfl rfl ⟨by omega, by omega⟩ ?_
      refine Q_nm e3 ?_
      refine Q_iload hX 1 dL_law__2533 rfl ?_
      refine Q_icmp_eqT hX 2540 dL_law__2535 rfl rfl ?_
      refine Q_iload hX 1 dL_law__2540 rfl ?_
      refine Q_if_neF hX 2557 dL_law__2542 rfl rfl ?_
      refine Q_aload_n hX 5 dL_law__2545 rfl rfl ?_
      refine Q_iconst hX 0 dL_law__2546 rfl ?_
      refine Q_lald hX dL_law__2547 ar_50 (by decide) ?_
      refine Q_nmL (congrArg Int32.toInt64 e4) ?_
      refine Q_iload hX 0 dL_law__2548 rfl ?_
      refine Q_i2l hX dL_law__2550 ?_
      refine Q_lcmp hX dL_law__2551 ?_
      refine Q_if_eqT hX 2557 dL_law__2552 rfl (lg_cmp_self _) ?_
      refine Q_goto hX 2799 dL_law__2557 rfl ?_
      refine Q_sub [2, 3, 4, 5, 6] [(0, .ref 0), (1, .ref 1), (2, .ref 30), (3, .ref 50), (4, .int (nI j))] rfl ?_
      exact kk
    · refine Q_aload_n hX 1 dL_law__2476 rfl rfl ?_
      refine Q_aload_n hX 0 dL_law__2477 rfl rfl ?_
      refine Q_iload hX 4 dL_law__2478 rfl ?_
      refine Q_iconst hX 1 dL_law__2480 rfl ?_
      refine Q_iadd hX dL_law__2481 ?_
      refine Q_arg hX hScr hL hj 1 rfl (by decide) dL_law__2482 ?_
      refine Q_aload_n hX 0 dL_law__2483 rfl rfl ?_
      refine Q_iload hX 4 dL_law__2484 rfl ?_
      refine Q_iconst hX 2 dL_law__2486 rfl ?_
      refine Q_iadd hX dL_law__2487 ?_
      refine Q_arg hX hScr hL hj 2 rfl (by decide) dL_law__2488 ?_
      refine Q_if_eqT hX 2496 dL_law__2489 rfl c0 ?_
      refine Q_iconst hX 0 dL_law__2496 rfl ?_
      refine Q_aload_n hX 3 dL_law__2497 rfl rfl ?_
      refine Q_W1 hX [.ref 1, .int (xs (j + 1)), .int 0, .ref 50] dL_law__2498 lw_302 (CW_span_e1 (okGQ hX) e1) (Nat.le_trans (by decide) hR.1) (Nat.le_trans (by decide) hR.2.1) rfl rfl rfl rfl ⟨by omega, by omega⟩ ?_
      refine Q_istore hX [(5, .int 1), (0, .ref 0), (1, .ref 1), (2, .ref 30), (3, .ref 50), (4, .int (nI j))] dL_law__2501 rfl rfl ?_
      refine Q_aload_n hX 3 dL_law__2503 rfl rfl ?_
      refine Q_aload_n hX 1 dL_law__2504 rfl rfl ?_
      refine Q_iload hX 5 dL_law__2505 rfl ?_
      refine Q_iconst hX 1 dL_law__2507 rfl ?_
      refine Q_iadd hX dL_law__2508 ?_
      refine Q_arg hX hScr hL hj 1 rfl (by decide) dL_law__2509 ?_
      refine Q_aload_n hX 1 dL_law__2510 rfl rfl ?_
      refine Q_iload hX 5 dL_law__2511 rfl ?_
      refine Q_iconst hX 2 dL_law__2513 rfl ?_
      refine Q_iadd hX dL_law__2514 ?_
      refine Q_arg hX hScr hL hj 2 rfl (by decide) dL_law__2515 ?_
      refine Q_if_eqT hX 2523 dL_law__2516 rfl c0 ?_
      refine Q_iconst hX 0 dL_law__2523 rfl ?_
      refine Q_V1 hX [.int (xs (j + 1)), .int 0] dL_law__2524 lv_304 ob_30 rfl (C_X12_span (okGQ hX) e2) (Nat.le_trans (by decide) hR.1) (Nat.le_trans (by decide) hR.2.1) rfl rfl rfl rfl ⟨by omega, by omega⟩ ?_
      refine Q_istore hX [(6, .int b), (5, .int 1), (0, .ref 0), (1, .ref 1), (2, .ref 30), (3, .ref 50), (4, .int (nI j))] dL_law__2527 rfl rfl ?_
      refine Q_aload_n hX 4 dL_law__2529 rfl rfl ?_
      refine Q_V1 hX [] dL_law__2530 lv_150 ob_30 rfl (C_X12_thrown (okGQ hX) rfl) (Nat.le_trans (by decide) hR.1) (Nat.le_trans (by decide) hR.2.1) rfl rfl rfl rfl ⟨by omega, by omega⟩ ?_
      refine Q_nm e3 ?_
      refine Q_iload hX 1 dL_law__2533 rfl ?_
      refine Q_icmp_eqT hX 2540 dL_law__2535 rfl rfl ?_
      refine Q_iload hX 1 dL_law__2540 rfl ?_
      refine Q_if_neT hX 2557 dL_law__2542 rfl (by decide) ?_
      refine Q_goto hX 2799 dL_law__2557 rfl ?_
      refine Q_sub [2, 3, 4, 5, 6] [(0, .ref 0), (1, .ref 1), (2, .ref 30), (3, .ref 50), (4, .int (nI j))] rfl ?_
      exact kk
  · rw [show nz (xs (j + 2)) = 1 from if_neg c0] at hst
    rcases hst with ⟨v, h1, b, e1, e2, e3, e4, rfl⟩ | ⟨h1, b, e1, e2, e3, rfl⟩
    · refine Q_aload_n hX 1 dL_law__2476 rfl rfl ?_
      refine Q_aload_n hX 0 dL_law__2477 rfl rfl ?_
      refine Q_iload hX 4 dL_law__2478 rfl ?_
      refine Q_iconst hX 1 dL_law__2480 rfl ?_
      refine Q_iadd hX dL_law__2481 ?_
      refine Q_arg hX hScr hL hj 1 rfl (by decide) dL_law__2482 ?_
      refine Q_aload_n hX 0 dL_law__2483 rfl rfl ?_
      refine Q_iload hX 4 dL_law__2484 rfl ?_
      refine Q_iconst hX 2 dL_law__2486 rfl ?_
      refine Q_iadd hX dL_law__2487 ?_
      refine Q_arg hX hScr hL hj 2 rfl (by decide) dL_law__2488 ?_
      refine Q_if_eqF hX 2496 dL_law__2489 rfl c0 ?_
      refine Q_iconst hX 1 dL_law__2492 rfl ?_
      refine Q_goto hX 2497 dL_law__2493 rfl ?_
      refine Q_aload_n hX 3 dL_law__2497 rfl rfl ?_
      refine Q_W1 hX [.ref 1, .int (xs (j + 1)), .int 1, .ref 50] dL_law__2498 lw_302 (CW_span_ok (okGQ hX) e1) (Nat.le_trans (by decide) hR.1) (Nat.le_trans (by decide) hR.2.1) rfl rfl rfl rfl ⟨by omega, by omega⟩ ?_
      refine Q_istore hX [(5, .int 0), (0, .ref 0), (1, .ref 1), (2, .ref 30), (3, .ref 50), (4, .int (nI j))] dL_law__2501 rfl rfl ?_
      refine Q_aload_n hX 3 dL_law__2503 rfl rfl ?_
      refine Q_aload_n hX 1 dL_law__2504 rfl rfl ?_
      refine Q_iload hX 5 dL_law__2505 rfl ?_
      refine Q_iconst hX 1 dL_law__2507 rfl ?_
      refine Q_iadd hX dL_law__2508 ?_
      refine Q_arg hX hScr hL hj 1 rfl (by decide) dL_law__2509 ?_
      refine Q_aload_n hX 1 dL_law__2510 rfl rfl ?_
      refine Q_iload hX 5 dL_law__2511 rfl ?_
      refine Q_iconst hX 2 dL_law__2513 rfl ?_
      refine Q_iadd hX dL_law__2514 ?_
      refine Q_arg hX hScr hL hj 2 rfl (by decide) dL_law__2515 ?_
      refine Q_if_eqF hX 2523 dL_law__2516 rfl c0 ?_
      refine Q_iconst hX 1 dL_law__2519 rfl ?_
      refine Q_goto hX 2524 dL_law__2520 rfl ?_
      refine Q_V1 hX [.int (xs (j + 1)), .int 1] dL_law__2524 lv_304 ob_30 rfl (C_X12_span (okGQ hX) e2) (Nat.le_trans (by decide) hR.1) (Nat.le_trans (by decide) hR.2.1) rfl rfl rfl rfl ⟨by omega, by omega⟩ ?_
      refine Q_istore hX [(6, .int b), (5, .int 0), (0, .ref 0), (1, .ref 1), (2, .ref 30), (3, .ref 50), (4, .int (nI j))] dL_law__2527 rfl rfl ?_
      refine Q_aload_n hX 4 dL_law__2529 rfl rfl ?_
      refine Q_V1 hX [] dL_law__2530 lv_150 ob_30 rfl (C_X12_thrown (okGQ hX) rfl) (Nat.le_trans (by decide) hR.1) (Nat.le_trans (by decide) hR.2.1) rfl rfl rfl rfl ⟨by omega, by omega⟩ ?_
      refine Q_nm e3 ?_
      refine Q_iload hX 1 dL_law__2533 rfl ?_
      refine Q_icmp_eqT hX 2540 dL_law__2535 rfl rfl ?_
      refine Q_iload hX 1 dL_law__2540 rfl ?_
      refine Q_if_neF hX 2557 dL_law__2542 rfl rfl ?_
      refine Q_aload_n hX 5 dL_law__2545 rfl rfl ?_
      refine Q_iconst hX 0 dL_law__2546 rfl ?_
      refine Q_lald hX dL_law__2547 ar_50 (by decide) ?_
      refine Q_nmL (congrArg Int32.toInt64 e4) ?_
      refine Q_iload hX 0 dL_law__2548 rfl ?_
      refine Q_i2l hX dL_law__2550 ?_
      refine Q_lcmp hX dL_law__2551 ?_
      refine Q_if_eqT hX 2557 dL_law__2552 rfl (lg_cmp_self _) ?_
      refine Q_goto hX 2799 dL_law__2557 rfl ?_
      refine Q_sub [2, 3, 4, 5, 6] [(0, .ref 0), (1, .ref 1), (2, .ref 30), (3, .ref 50), (4, .int (nI j))] rfl ?_
      exact kk
    · refine Q_aload_n hX 1 dL_law__2476 rfl rfl ?_
      refine Q_aload_n hX 0 dL_law__2477 rfl rfl ?_
      refine Q_iload hX 4 dL_law__2478 rfl ?_
      refine Q_iconst hX 1 dL_law__2480 rfl ?_
      refine Q_iadd hX dL_law__2481 ?_
      refine Q_arg hX hScr hL hj 1 rfl (by decide) dL_law__2482 ?_
      refine Q_aload_n hX 0 dL_law__2483 rfl rfl ?_
      refine Q_iload hX 4 dL_law__2484 rfl ?_
      refine Q_iconst hX 2 dL_law__2486 rfl ?_
      refine Q_iadd hX dL_law__2487 ?_
      refine Q_arg hX hScr hL hj 2 rfl (by decide) dL_law__2488 ?_
      refine Q_if_eqF hX 2496 dL_law__2489 rfl c0 ?_
      refine Q_iconst hX 1 dL_law__2492 rfl ?_
      refine Q_goto hX 2497 dL_law__2493 rfl ?_
      refine Q_aload_n hX 3 dL_law__2497 rfl rfl ?_
      refine Q_W1 hX [.ref 1, .int (xs (j + 1)), .int 1, .ref 50] dL_law__2498 lw_302 (CW_span_e1 (okGQ hX) e1) (Nat.le_trans (by decide) hR.1) (Nat.le_trans (by decide) hR.2.1) rfl rfl rfl rfl ⟨by omega, by omega⟩ ?_
      refine Q_istore hX [(5, .int 1), (0, .ref 0), (1, .ref 1), (2, .ref 30), (3, .ref 50), (4, .int (nI j))] dL_law__2501 rfl rfl ?_
      refine Q_aload_n hX 3 dL_law__2503 rfl rfl ?_
      refine Q_aload_n hX 1 dL_law__2504 rfl rfl ?_
      refine Q_iload hX 5 dL_law__2505 rfl ?_
      refine Q_iconst hX 1 dL_law__2507 rfl ?_
      refine Q_iadd hX dL_law__2508 ?_
      refine Q_arg hX hScr hL hj 1 rfl (by decide) dL_law__2509 ?_
      refine Q_aload_n hX 1 dL_law__2510 rfl rfl ?_
      refine Q_iload hX 5 dL_law__2511 rfl ?_
      refine Q_iconst hX 2 dL_law__2513 rfl ?_
      refine Q_iadd hX dL_law__2514 ?_
      refine Q_arg hX hScr hL hj 2 rfl (by decide) dL_law__2515 ?_
      refine Q_if_eqF hX 2523 dL_law__2516 rfl c0 ?_
      refine Q_iconst hX 1 dL_law__2519 rfl ?_
      refine Q_goto hX 2524 dL_law__2520 rfl ?_
      refine Q_V1 hX [.int (xs (j + 1)), .int 1] dL_law__2524 lv_304 ob_30 rfl (C_X12_span (okGQ hX) e2) (Nat.le_trans (by decide) hR.1) (Nat.le_trans (by decide) hR.2.1) rfl rfl rfl rfl ⟨by omega, by omega⟩ ?_
      refine Q_istore hX [(6, .int b), (5, .int 1), (0, .ref 0), (1, .ref 1), (2, .ref 30), (3, .ref 50), (4, .int (nI j))] dL_law__2527 rfl rfl ?_
      refine Q_aload_n hX 4 dL_law__2529 rfl rfl ?_
      refine Q_V1 hX [] dL_law__2530 lv_150 ob_30 rfl (C_X12_thrown (okGQ hX) rfl) (Nat.le_trans (by decide) hR.1) (Nat.le_trans (by decide) hR.2.1) rfl rfl rfl rfl ⟨by omega, by omega⟩ ?_
      refine Q_nm e3 ?_
      refine Q_iload hX 1 dL_law__2533 rfl ?_
      refine Q_icmp_eqT hX 2540 dL_law__2535 rfl rfl ?_
      refine Q_iload hX 1 dL_law__2540 rfl ?_
      refine Q_if_neT hX 2557 dL_law__2542 rfl (by decide) ?_
      refine Q_goto hX 2799 dL_law__2557 rfl ?_
      refine Q_sub [2, 3, 4, 5, 6] [(0, .ref 0), (1, .ref 1), (2, .ref 30), (3, .ref 50), (4, .int (nI j))] rfl ?_
      exact kk
set_option maxRecDepth 100000 in
set_option maxHeartbeats 200000 in
theorem LW_47 {X : CX} {R : Room} {Q : State → Prop} {kC sC Ls j n : Nat} {xs : Nat → Int32} {h h' : Hp} (hX : OkQ X cL_law_ 7 RL (some .boolean)) (hScr : ScrQ X Ls xs) (hL : Ls ≤ 3072) (hj : j + 6 ≤ Ls) (hR : 80 ≤ R.frames ∧ 80 * 80 ≤ R.locals ∧ kC + 1 ≤ R.cells ∧ sC + 6 ≤ R.slots) (hst : St_47 (fun i => xs (j + i)) h h' n) (kk : JQ X R Q (kC + n) (sC + 6 * n) 2799 [(0, .ref 0), (1, .ref 1), (2, .ref 30), (3, .ref 50), (4, .int (nI j))] [] h') : JQ X R Q kC sC 2560 [(0, .ref 0), (1, .ref 1), (2, .ref 30), (3, .ref 50), (4, .int (nI j))] [] h := by
  have hr1 := hR.2.2.1
  have hr2 := hR.2.2.2
  unfold St_47 at hst
  try dsimp only at hst
  rcases Classical.em (xs (j + 2) = 0) with c0 | c0
  · rw [show nz (xs (j + 2)) = 0 from if_pos c0] at hst
    rcases hst with ⟨v, h1, b, e1, e2, e3, e4, rfl⟩ | ⟨h1, b, e1, e2, e3, rfl⟩
    · refine Q_aload_n hX 1 dL_law__2560 rfl rfl ?_
      refine Q_aload_n hX 0 dL_law__2561 rfl rfl ?_
      refine Q_iload hX 4 dL_law__2562 rfl ?_
      refine Q_iconst hX 1 dL_law__2564 rfl ?_
      refine Q_iadd hX dL_law__2565 ?_
      refine Q_arg hX hScr hL hj 1 rfl (by decide) dL_law__2566 ?_
      refine Q_aload_n hX 0 dL_law__2567 rfl rfl ?_
      refine Q_iload hX 4 dL_law__2568 rfl ?_
      refine Q_iconst hX 2 dL_law__2570 rfl ?_
      refine Q_iadd hX dL_law__2571 ?_
      refine Q_arg hX hScr hL hj 2 rfl (by decide) dL_law__2572 ?_
      refine Q_if_eqT hX 2580 dL_law__2573 rfl c0 ?_
      refine Q_iconst hX 0 dL_law__2580 rfl ?_
      refine Q_aload_n hX 3 dL_law__2581 rfl rfl ?_
      refine Q_W1 hX [.ref 1, .int (xs (j + 1)), .int 0, .ref 50] dL_law__2582 lw_305 (CW_led_ok (okGQ hX) e1) (Nat.le_trans (by decide) hR.1) (Nat.le_trans (by decide) hR.2.1) rfl rfl rfl rfl ⟨by omega, by omega⟩ ?_
      refine Q_istore hX [(5, .int 0), (0, .ref 0), (1, .ref 1), (2, .ref 30), (3, .ref 50), (4, .int (nI j))] dL_law__2585 rfl rfl ?_
      refine Q_aload_n hX 3 dL_law__2587 rfl rfl ?_
      refine Q_aload_n hX 1 dL_law__2588 rfl rfl ?_
      refine Q_iload hX 5 dL_law__2589 rfl ?_
      refine Q_iconst hX 1 dL_law__2591 rfl ?_
      refine Q_iadd hX dL_law__2592 ?_
      refine Q_arg hX hScr hL hj 1 rfl (by decide) dL_law__2593 ?_
      refine Q_aload_n hX 1 dL_law__2594 rfl rfl ?_
      refine Q_iload hX 5 dL_law__2595 rfl ?_
      refine Q_iconst hX 2 dL_law__2597 rfl ?_
      refine Q_iadd hX dL_law__2598 ?_
      refine Q_arg hX hScr hL hj 2 rfl (by decide) dL_law__2599 ?_
      refine Q_if_eqT hX 2607 dL_law__2600 rfl c0 ?_
      refine Q_iconst hX 0 dL_law__2607 rfl ?_
      refine Q_V1 hX [.int (xs (j + 1)), .int 0] dL_law__2608 lv_307 ob_30 rfl (C_X12_led (okGQ hX) e2) (Nat.le_trans (by decide) hR.1) (Nat.le_trans (by decide) hR.2.1) rfl rfl rfl rfl ⟨by omega, by omega⟩ ?_
      refine Q_istore hX [(6, .int b), (5, .int 0), (0, .ref 0), (1, .ref 1), (2, .ref 30), (3, .ref 50), (4, .int (nI j))] dL_law__2611 rfl rfl ?_
      refine Q_aload_n hX 4 dL_law__2613 rfl rfl ?_
      refine Q_V1 hX [] dL_law__2614 lv_150 ob_30 rfl (C_X12_thrown (okGQ hX) rfl) (Nat.le_trans (by decide) hR.1) (Nat.le_trans (by decide) hR.2.1) rfl rfl rfl rfl ⟨by omega, by omega⟩ ?_
      refine Q_nm e3 ?_
      refine Q_iload hX 1 dL_law__2617 rfl ?_
      refine Q_icmp_eqT hX 2624 dL_law__2619 rfl rfl ?_
      refine Q_iload hX 1 dL_law__2624 rfl ?_
      refine Q_if_neF hX 2641 dL_law__2626 rfl rfl ?_
      refine Q_aload_n hX 5 dL_law__2629 rfl rfl ?_
      refine Q_iconst hX 0 dL_law__2630 rfl ?_
      refine Q_lald hX dL_law__2631 ar_50 (by decide) ?_
      refine Q_nmL (congrArg Int32.toInt64 e4) ?_
      refine Q_iload hX 0 dL_law__2632 rfl ?_
      refine Q_i2l hX dL_law__2634 ?_
      refine Q_lcmp hX dL_law__2635 ?_
      refine Q_if_eqT hX 2641 dL_law__2636 rfl (lg_cmp_self _) ?_
      refine Q_goto hX 2799 dL_law__2641 rfl ?_
      refine Q_sub [2, 3, 4, 5, 6] [(0, .ref 0), (1, .ref 1), (2, .ref 30), (3, .ref 50), (4, .int (nI j))] rfl ?_
      exact kk
    · refine Q_aload_n hX 1 dL_law__2560 rfl rfl ?_
      refine Q_aload_n hX 0 dL_law__2561 rfl rfl ?_
      refine Q_iload hX 4 dL_law__2562 rfl ?_
      refine Q_iconst hX 1 dL_law__2564 rfl ?_
      refine Q_iadd hX dL_law__2565 ?_
      refine Q_arg hX hScr hL hj 1 rfl (by decide) dL_law__2566 ?_
      refine Q_aload_n hX 0 dL_law__2567 rfl rfl ?_
      refine Q_iload hX 4 dL_law__2568 rfl ?_
      refine Q_iconst hX 2 dL_law__2570 rfl ?_
      refine Q_iadd hX dL_law__2571 ?_
      refine Q_arg hX hScr hL hj 2 rfl (by decide) dL_law__2572 ?_
      refine Q_if_eqT hX 2580 dL_law__2573 rfl c0 ?_
      refine Q_iconst hX 0 dL_law__2580 rfl ?_
      refine Q_aload_n hX 3 dL_law__2581 rfl rfl ?_
      refine Q_W1 hX [.ref 1, .int (xs (j + 1)), .int 0, .ref 50] dL_law__2582 lw_305 (CW_led_e1 (okGQ hX) e1) (Nat.le_trans (by decide) hR.1) (Nat.le_trans (by decide) hR.2.1) rfl rfl rfl rfl ⟨by omega, by omega⟩ ?_
      refine Q_istore hX [(5, .int 1), (0, .ref 0), (1, .ref 1), (2, .ref 30), (3, .ref 50), (4, .int (nI j))] dL_law__2585 rfl rfl ?_
      refine Q_aload_n hX 3 dL_law__2587 rfl rfl ?_
      refine Q_aload_n hX 1 dL_law__2588 rfl rfl ?_
      refine Q_iload hX 5 dL_law__2589 rfl ?_
      refine Q_iconst hX 1 dL_law__2591 rfl ?_
      refine Q_iadd hX dL_law__2592 ?_
      refine Q_arg hX hScr hL hj 1 rfl (by decide) dL_law__2593 ?_
      refine Q_aload_n hX 1 dL_law__2594 rfl rfl ?_
      refine Q_iload hX 5 dL_law__2595 rfl ?_
      refine Q_iconst hX 2 dL_law__2597 rfl ?_
      refine Q_iadd hX dL_law__2598 ?_
      refine Q_arg hX hScr hL hj 2 rfl (by decide) dL_law__2599 ?_
      refine Q_if_eqT hX 2607 dL_law__2600 rfl c0 ?_
      refine Q_iconst hX 0 dL_law__2607 rfl ?_
      refine Q_V1 hX [.int (xs (j + 1)), .int 0] dL_law__2608 lv_307 ob_30 rfl (C_X12_led (okGQ hX) e2) (Nat.le_trans (by decide) hR.1) (Nat.le_trans (by decide) hR.2.1) rfl rfl rfl rfl ⟨by omega, by omega⟩ ?_
      refine Q_istore hX [(6, .int b), (5, .int 1), (0, .ref 0), (1, .ref 1), (2, .ref 30), (3, .ref 50), (4, .int (nI j))] dL_law__2611 rfl rfl ?_
      refine Q_aload_n hX 4 dL_law__2613 rfl rfl ?_
      refine Q_V1 hX [] dL_law__2614 lv_150 ob_30 rfl (C_X12_thrown (okGQ hX) rfl) (Nat.le_trans (by decide) hR.1) (Nat.le_trans (by decide) hR.2.1) rfl rfl rfl rfl ⟨by omega, by omega⟩ ?_
      refine Q_nm e3 ?_
      refine Q_iload hX 1 dL_law__2617 rfl ?_
      refine Q_icmp_eqT hX 2624 dL_law__2619 rfl rfl ?_
      refine Q_iload hX 1 dL_law__2624 rfl ?_
      refine Q_if_neT hX 2641 dL_law__2626 rfl (by decide) ?_
      refine Q_goto hX 2799 dL_law__2641 rfl ?_
      refine Q_sub [2, 3, 4, 5, 6] [(0, .ref 0), (1, .ref 1), (2, .ref 30), (3, .ref 50), (4, .int (nI j))] rfl ?_
      exact kk
  · rw [show nz (xs (j + 2)) = 1 from if_neg c0] at hst
    rcases hst with ⟨v, h1, b, e1, e2, e3, e4, rfl⟩ | ⟨h1, b, e1, e2, e3, rfl⟩
    · refine Q_aload_n hX 1 dL_law__2560 rfl rfl ?_
      refine Q_aload_n hX 0 dL_law__2561 rfl rfl ?_
      refine Q_iload hX 4 dL_law__2562 rfl ?_
      refine Q_iconst hX 1 dL_law__2564 rfl ?_
      refine Q_iadd hX dL_law__2565 ?_
      refine Q_arg hX hScr hL hj 1 rfl (by decide) dL_law__2566 ?_
      refine Q_aload_n hX 0 dL_law__2567 rfl rfl ?_
      refine Q_iload hX 4 dL_law__2568 rfl ?_
      refine Q_iconst hX 2 dL_law__2570 rfl ?_
      refine Q_iadd hX dL_law__2571 ?_
      refine Q_arg hX hScr hL hj 2 rfl (by decide) dL_law__2572 ?_
      refine Q_if_eqF hX 2580 dL_law__2573 rfl c0 ?_
      refine Q_iconst hX 1 dL_law__2576 rfl ?_
      refine Q_goto hX 2581 dL_law__2577 rfl ?_
      refine Q_aload_n hX 3 dL_law__2581 rfl rfl ?_
      refine Q_W1 hX [.ref 1, .int (xs (j + 1)), .int 1, .ref 50] dL_law__2582 lw_305 (CW_led_ok (okGQ hX) e1) (Nat.le_trans (by decide) hR.1) (Nat.le_trans (by decide) hR.2.1) rfl rfl rfl rfl ⟨by omega, by omega⟩ ?_
      refine Q_istore hX [(5, .int 0), (0, .ref 0), (1, .ref 1), (2, .ref 30), (3, .ref 50), (4, .int (nI j))] dL_law__2585 rfl rfl ?_
      refine Q_aload_n hX 3 dL_law__2587 rfl rfl ?_
      refine Q_aload_n hX 1 dL_law__2588 rfl rfl ?_
      refine Q_iload hX 5 dL_law__2589 rfl ?_
      refine Q_iconst hX 1 dL_law__2591 rfl ?_
      refine Q_iadd hX dL_law__2592 ?_
      refine Q_arg hX hScr hL hj 1 rfl (by decide) dL_law__2593 ?_
      refine Q_aload_n hX 1 dL_law__2594 rfl rfl ?_
      refine Q_iload hX 5 dL_law__2595 rfl ?_
      refine Q_iconst hX 2 dL_law__2597 rfl ?_
      refine Q_iadd hX dL_law__2598 ?_
      refine Q_arg hX hScr hL hj 2 rfl (by decide) dL_law__2599 ?_
      refine Q_if_eqF hX 2607 dL_law__2600 rfl c0 ?_
      refine Q_iconst hX 1 dL_law__2603 rfl ?_
      refine Q_goto hX 2608 dL_law__2604 rfl ?_
      refine Q_V1 hX [.int (xs (j + 1)), .int 1] dL_law__2608 lv_307 ob_30 rfl (C_X12_led (okGQ hX) e2) (Nat.le_trans (by decide) hR.1) (Nat.le_trans (by decide) hR.2.1) rfl rfl rfl rfl ⟨by omega, by omega⟩ ?_
      refine Q_istore hX [(6, .int b), (5, .int 0), (0, .ref 0), (1, .ref 1), (2, .ref 30), (3, .ref 50), (4, .int (nI j))] dL_law__2611 rfl rfl ?_
      refine Q_aload_n hX 4 dL_law__2613 rfl rfl ?_
      refine Q_V1 hX [] dL_law__2614 lv_150 ob_30 rfl (C_X12_thrown (okGQ hX) rfl) (Nat.le_trans (by decide) hR.1) (Nat.le_trans (by decide) hR.2.1) rfl rfl rfl rfl ⟨by omega, by omega⟩ ?_
      refine Q_nm e3 ?_
      refine Q_iload hX 1 dL_law__2617 rfl ?_
      refine Q_icmp_eqT hX 2624 dL_law__2619 rfl rfl ?_
      refine Q_iload hX 1 dL_law__2624 rfl ?_
      refine Q_if_neF hX 2641 dL_law__2626 rfl rfl ?_
      refine Q_aload_n hX 5 dL_law__2629 rfl rfl ?_
      refine Q_iconst hX 0 dL_law__2630 rfl ?_
      refine Q_lald hX dL_law__2631 ar_50 (by decide) ?_
      refine Q_nmL (congrArg Int32.toInt64 e4) ?_
      refine Q_iload hX 0 dL_law__2632 rfl ?_
      refine Q_i2l hX dL_law__2634 ?_
      refine Q_lcmp hX dL_law__2635 ?_
      refine Q_if_eqT hX 2641 dL_law__2636 rfl (lg_cmp_self _) ?_
      refine Q_goto hX 2799 dL_law__2641 rfl ?_
      refine Q_sub [2, 3, 4, 5, 6] [(0, .ref 0), (1, .ref 1), (2, .ref 30), (3, .ref 50), (4, .int (nI j))] rfl ?_
      exact kk
    · refine Q_aload_n hX 1 dL_law__2560 rfl rfl ?_
      refine Q_aload_n hX 0 dL_law__2561 rfl rfl ?_
      refine Q_iload hX 4 dL_law__2562 rfl ?_
      refine Q_iconst hX 1 dL_law__2564 rfl ?_
      refine Q_iadd hX dL_law__2565 ?_
      refine Q_arg hX hScr hL hj 1 rfl (by decide) dL_law__2566 ?_
      refine Q_aload_n hX 0 dL_law__2567 rfl rfl ?_
      refine Q_iload hX 4 dL_law__2568 rfl ?_
      refine Q_iconst hX 2 dL_law__2570 rfl ?_
      refine Q_iadd hX dL_law__2571 ?_
      refine Q_arg hX hScr hL hj 2 rfl (by decide) dL_law__2572 ?_
      refine Q_if_eqF hX 2580 dL_law__2573 rfl c0 ?_
      refine Q_iconst hX 1 dL_law__2576 rfl ?_
      refine Q_goto hX 2581 dL_law__2577 rfl ?_
      refine Q_aload_n hX 3 dL_law__2581 rfl rfl ?_
      refine Q_W1 hX [.ref 1, .int (xs (j + 1)), .int 1, .ref 50] dL_law__2582 lw_305 (CW_led_e1 (okGQ hX) e1) (Nat.le_trans (by decide) hR.1) (Nat.le_trans (by decide) hR.2.1) rfl rfl rfl rfl ⟨by omega, by omega⟩ ?_
      refine Q_istore hX [(5, .int 1), (0, .ref 0), (1, .ref 1), (2, .ref 30), (3, .ref 50), (4, .int (nI j))] dL_law__2585 rfl rfl ?_
      refine Q_aload_n hX 3 dL_law__2587 rfl rfl ?_
      refine Q_aload_n hX 1 dL_law__2588 rfl rfl ?_
      refine Q_iload hX 5 dL_law__2589 rfl ?_
      refine Q_iconst hX 1 dL_law__2591 rfl ?_
      refine Q_iadd hX dL_law__2592 ?_
      refine Q_arg hX hScr hL hj 1 rfl (by decide) dL_law__2593 ?_
      refine Q_aload_n hX 1 dL_law__2594 rfl rfl ?_
      refine Q_iload hX 5 dL_law__2595 rfl ?_
      refine Q_iconst hX 2 dL_law__2597 rfl ?_
      refine Q_iadd hX dL_law__2598 ?_
      refine Q_arg hX hScr hL hj 2 rfl (by decide) dL_law__2599 ?_
      refine Q_if_eqF hX 2607 dL_law__2600 rfl c0 ?_
      refine Q_iconst hX 1 dL_law__2603 rfl ?_
      refine Q_goto hX 2608 dL_law__2604 rfl ?_
      refine Q_V1 hX [.int (xs (j + 1)), .int 1] dL_law__2608 lv_307 ob_30 rfl (C_X12_led (okGQ hX) e2) (Nat.le_trans (by decide) hR.1) (Nat.le_trans (by decide) hR.2.1) rfl rfl rfl rfl ⟨by omega, by omega⟩ ?_
      refine Q_istore hX [(6, .int b), (5, .int 1), (0, .ref 0), (1, .ref 1), (2, .ref 30), (3, .ref 50), (4, .int (nI j))] dL_law__2611 rfl rfl ?_
      refine Q_aload_n hX 4 dL_law__2613 rfl rfl ?_
      refine Q_V1 hX [] dL_law__2614 lv_150 ob_30 rfl (C_X12_thrown (okGQ hX) rfl) (Nat.le_trans (by decide) hR.1) (Nat.le_trans (by decide) hR.2.1) rfl rfl rfl rfl ⟨by omega, by omega⟩ ?_
      refine Q_nm e3 ?_
      refine Q_iload hX 1 dL_law__2617 rfl ?_
      refine Q_icmp_eqT hX 2624 dL_law__2619 rfl rfl ?_
      refine Q_iload hX 1 dL_law__2624 rfl ?_
      refine Q_if_neT hX 2641 dL_law__2626 rfl (by decide) ?_
      refine Q_goto hX 2799 dL_law__2641 rfl ?_
      refine Q_sub [2, 3, 4, 5, 6] [(0, .ref 0), (1, .ref 1), (2, .ref 30), (3, .ref 50), (4, .int (nI j))] rfl ?_
      exact kk
set_option maxRecDepth 100000 in
set_option maxHeartbeats 200000 in
theorem LW_48 {X : CX} {R : Room} {Q : State → Prop} {kC sC Ls j n : Nat} {xs : Nat → Int32} {h h' : Hp} (hX : OkQ X cL_law_ 7 RL (some .boolean)) (hScr : ScrQ X Ls xs) (hL : Ls ≤ 3072) (hj : j + 6 ≤ Ls) (hR : 80 ≤ R.frames ∧ 80 * 80 ≤ R.locals ∧ kC + 1 ≤ R.cells ∧ sC + 6 ≤ R.slots) (hst : St_48 (fun i => xs (j + i)) h h' n) (kk : JQ X R Q (kC + n) (sC + 6 * n) 2799 [(0, .ref 0), (1, .ref 1), (2, .ref 30), (3, .ref 50), (4, .int (nI j))] [] h') : JQ X R Q kC sC 2644 [(0, .ref 0), (1, .ref 1), (2, .ref 30), (3, .ref 50), (4, .int (nI j))] [] h := by
  have hr1 := hR.2.2.1
  have hr2 := hR.2.2.2
  unfold St_48 at hst
  try dsimp only at hst
  rcases hst with ⟨v, h1, b, e1, e2, e3, e4, rfl⟩ | ⟨h1, b, e1, e2, e3, rfl⟩
  · refine Q_aload_n hX 1 dL_law__2644 rfl rfl ?_
    refine Q_aload_n hX 0 dL_law__2645 rfl rfl ?_
    refine Q_iload hX 4 dL_law__2646 rfl ?_
    refine Q_iconst hX 1 dL_law__2648 rfl ?_
    refine Q_iadd hX dL_law__2649 ?_
    refine Q_arg hX hScr hL hj 1 rfl (by decide) dL_law__2650 ?_
    refine Q_aload_n hX 0 dL_law__2651 rfl rfl ?_
    refine Q_iload hX 4 dL_law__2652 rfl ?_
    refine Q_iconst hX 2 dL_law__2654 rfl ?_
    refine Q_iadd hX dL_law__2655 ?_
    refine Q_arg hX hScr hL hj 2 rfl (by decide) dL_law__2656 ?_
    refine Q_aload_n hX 3 dL_law__2657 rfl rfl ?_
    refine Q_W1 hX [.ref 1, .int (xs (j + 1)), .int (xs (j + 2)), .ref 50] dL_law__2658 lw_308 (CW_log_ok (okGQ hX) e1) (Nat.le_trans (by decide) hR.1) (Nat.le_trans (by decide) hR.2.1) rfl rfl rfl rfl ⟨by omega, by omega⟩ ?_
    refine Q_istore hX [(5, .int 0), (0, .ref 0), (1, .ref 1), (2, .ref 30), (3, .ref 50), (4, .int (nI j))] dL_law__2661 rfl rfl ?_
    refine Q_aload_n hX 3 dL_law__2663 rfl rfl ?_
    refine Q_aload_n hX 1 dL_law__2664 rfl rfl ?_
    refine Q_iload hX 5 dL_law__2665 rfl ?_
    refine Q_iconst hX 1 dL_law__2667 rfl ?_
    refine Q_iadd hX dL_law__2668 ?_
    refine Q_arg hX hScr hL hj 1 rfl (by decide) dL_law__2669 ?_
    refine Q_aload_n hX 1 dL_law__2670 rfl rfl ?_
    refine Q_iload hX 5 dL_law__2671 rfl ?_
    refine Q_iconst hX 2 dL_law__2673 rfl ?_
    refine Q_iadd hX dL_law__2674 ?_
    refine Q_arg hX hScr hL hj 2 rfl (by decide) dL_law__2675 ?_
    refine Q_V1 hX [.int (xs (j + 1)), .int (xs (j + 2))] dL_law__2676 lv_310 ob_30 rfl (C_X12_log (okGQ hX) e2) (Nat.le_trans (by decide) hR.1) (Nat.le_trans (by decide) hR.2.1) rfl rfl rfl rfl ⟨by omega, by omega⟩ ?_
    refine Q_istore hX [(6, .int b), (5, .int 0), (0, .ref 0), (1, .ref 1), (2, .ref 30), (3, .ref 50), (4, .int (nI j))] dL_law__2679 rfl rfl ?_
    refine Q_aload_n hX 4 dL_law__2681 rfl rfl ?_
    refine Q_V1 hX [] dL_law__2682 lv_150 ob_30 rfl (C_X12_thrown (okGQ hX) rfl) (Nat.le_trans (by decide) hR.1) (Nat.le_trans (by decide) hR.2.1) rfl rfl rfl rfl ⟨by omega, by omega⟩ ?_
    refine Q_nm e3 ?_
    refine Q_iload hX 1 dL_law__2685 rfl ?_
    refine Q_icmp_eqT hX 2692 dL_law__2687 rfl rfl ?_
    refine Q_iload hX 1 dL_law__2692 rfl ?_
    refine Q_if_neF hX 2709 dL_law__2694 rfl rfl ?_
    refine Q_aload_n hX 5 dL_law__2697 rfl rfl ?_
    refine Q_iconst hX 0 dL_law__2698 rfl ?_
    refine Q_lald hX dL_law__2699 ar_50 (by decide) ?_
    refine Q_nmL (congrArg Int32.toInt64 e4) ?_
    refine Q_iload hX 0 dL_law__2700 rfl ?_
    refine Q_i2l hX dL_law__2702 ?_
    refine Q_lcmp hX dL_law__2703 ?_
    refine Q_if_eqT hX 2709 dL_law__2704 rfl (lg_cmp_self _) ?_
    refine Q_goto hX 2799 dL_law__2709 rfl ?_
    refine Q_sub [2, 3, 4, 5, 6] [(0, .ref 0), (1, .ref 1), (2, .ref 30), (3, .ref 50), (4, .int (nI j))] rfl ?_
    exact kk
  · refine Q_aload_n hX 1 dL_law__2644 rfl rfl ?_
    refine Q_aload_n hX 0 dL_law__2645 rfl rfl ?_
    refine Q_iload hX 4 dL_law__2646 rfl ?_
    refine Q_iconst hX 1 dL_law__2648 rfl ?_
    refine Q_iadd hX dL_law__2649 ?_
    refine Q_arg hX hScr hL hj 1 rfl (by decide) dL_law__2650 ?_
    refine Q_aload_n hX 0 dL_law__2651 rfl rfl ?_
    refine Q_iload hX 4 dL_law__2652 rfl ?_
    refine Q_iconst hX 2 dL_law__2654 rfl ?_
    refine Q_iadd hX dL_law__2655 ?_
    refine Q_arg hX hScr hL hj 2 rfl (by decide) dL_law__2656 ?_
    refine Q_aload_n hX 3 dL_law__2657 rfl rfl ?_
    refine Q_W1 hX [.ref 1, .int (xs (j + 1)), .int (xs (j + 2)), .ref 50] dL_law__2658 lw_308 (CW_log_e1 (okGQ hX) e1) (Nat.le_trans (by decide) hR.1) (Nat.le_trans (by decide) hR.2.1) rfl rfl rfl rfl ⟨by omega, by omega⟩ ?_
    refine Q_istore hX [(5, .int 1), (0, .ref 0), (1, .ref 1), (2, .ref 30), (3, .ref 50), (4, .int (nI j))] dL_law__2661 rfl rfl ?_
    refine Q_aload_n hX 3 dL_law__2663 rfl rfl ?_
    refine Q_aload_n hX 1 dL_law__2664 rfl rfl ?_
    refine Q_iload hX 5 dL_law__2665 rfl ?_
    refine Q_iconst hX 1 dL_law__2667 rfl ?_
    refine Q_iadd hX dL_law__2668 ?_
    refine Q_arg hX hScr hL hj 1 rfl (by decide) dL_law__2669 ?_
    refine Q_aload_n hX 1 dL_law__2670 rfl rfl ?_
    refine Q_iload hX 5 dL_law__2671 rfl ?_
    refine Q_iconst hX 2 dL_law__2673 rfl ?_
    refine Q_iadd hX dL_law__2674 ?_
    refine Q_arg hX hScr hL hj 2 rfl (by decide) dL_law__2675 ?_
    refine Q_V1 hX [.int (xs (j + 1)), .int (xs (j + 2))] dL_law__2676 lv_310 ob_30 rfl (C_X12_log (okGQ hX) e2) (Nat.le_trans (by decide) hR.1) (Nat.le_trans (by decide) hR.2.1) rfl rfl rfl rfl ⟨by omega, by omega⟩ ?_
    refine Q_istore hX [(6, .int b), (5, .int 1), (0, .ref 0), (1, .ref 1), (2, .ref 30), (3, .ref 50), (4, .int (nI j))] dL_law__2679 rfl rfl ?_
    refine Q_aload_n hX 4 dL_law__2681 rfl rfl ?_
    refine Q_V1 hX [] dL_law__2682 lv_150 ob_30 rfl (C_X12_thrown (okGQ hX) rfl) (Nat.le_trans (by decide) hR.1) (Nat.le_trans (by decide) hR.2.1) rfl rfl rfl rfl ⟨by omega, by omega⟩ ?_
    refine Q_nm e3 ?_
    refine Q_iload hX 1 dL_law__2685 rfl ?_
    refine Q_icmp_eqT hX 2692 dL_law__2687 rfl rfl ?_
    refine Q_iload hX 1 dL_law__2692 rfl ?_
    refine Q_if_neT hX 2709 dL_law__2694 rfl (by decide) ?_
    refine Q_goto hX 2799 dL_law__2709 rfl ?_
    refine Q_sub [2, 3, 4, 5, 6] [(0, .ref 0), (1, .ref 1), (2, .ref 30), (3, .ref 50), (4, .int (nI j))] rfl ?_
    exact kk
set_option maxRecDepth 100000 in
set_option maxHeartbeats 200000 in
theorem LW_49 {X : CX} {R : Room} {Q : State → Prop} {kC sC Ls j n : Nat} {xs : Nat → Int32} {h h' : Hp} (hX : OkQ X cL_law_ 7 RL (some .boolean)) (hScr : ScrQ X Ls xs) (hL : Ls ≤ 3072) (hj : j + 6 ≤ Ls) (hR : 80 ≤ R.frames ∧ 80 * 80 ≤ R.locals ∧ kC + 1 ≤ R.cells ∧ sC + 6 ≤ R.slots) (hst : St_49 (fun i => xs (j + i)) h h' n) (kk : JQ X R Q (kC + n) (sC + 6 * n) 2799 [(0, .ref 0), (1, .ref 1), (2, .ref 30), (3, .ref 50), (4, .int (nI j))] [] h') : JQ X R Q kC sC 2712 [(0, .ref 0), (1, .ref 1), (2, .ref 30), (3, .ref 50), (4, .int (nI j))] [] h := by
  have hr1 := hR.2.2.1
  have hr2 := hR.2.2.2
  unfold St_49 at hst
  try dsimp only at hst
  obtain ⟨v, h1, e1, e2, rfl⟩ := hst
  refine Q_aload_n hX 1 dL_law__2712 rfl rfl ?_
  refine Q_aload_n hX 0 dL_law__2713 rfl rfl ?_
  refine Q_iload hX 4 dL_law__2714 rfl ?_
  refine Q_iconst hX 1 dL_law__2716 rfl ?_
  refine Q_iadd hX dL_law__2717 ?_
  refine Q_arg hX hScr hL hj 1 rfl (by decide) dL_law__2718 ?_
  refine Q_V1 hX [.int (xs (j + 1))] dL_law__2719 lv_311 ob_1 rfl (C_X11_seed (okGQ hX) e1) (Nat.le_trans (by decide) hR.1) (Nat.le_trans (by decide) hR.2.1) rfl rfl rfl rfl ⟨by omega, by omega⟩ ?_
  refine Q_aload_n hX 2 dL_law__2722 rfl rfl ?_
  refine Q_aload_n hX 0 dL_law__2723 rfl rfl ?_
  refine Q_iload hX 4 dL_law__2724 rfl ?_
  refine Q_iconst hX 1 dL_law__2726 rfl ?_
  refine Q_iadd hX dL_law__2727 ?_
  refine Q_arg hX hScr hL hj 1 rfl (by decide) dL_law__2728 ?_
  refine Q_V1 hX [.int (xs (j + 1))] dL_law__2729 lv_314 ob_30 rfl (C_X12_seed (okGQ hX) e2) (Nat.le_trans (by decide) hR.1) (Nat.le_trans (by decide) hR.2.1) rfl rfl rfl rfl ⟨by omega, by omega⟩ ?_
  refine Q_icmp_eqT hX 2799 dL_law__2732 rfl rfl ?_
  exact kk
set_option maxRecDepth 100000 in
set_option maxHeartbeats 200000 in
theorem LW_50 {X : CX} {R : Room} {Q : State → Prop} {kC sC Ls j n : Nat} {xs : Nat → Int32} {h h' : Hp} (hX : OkQ X cL_law_ 7 RL (some .boolean)) (hScr : ScrQ X Ls xs) (hL : Ls ≤ 3072) (hj : j + 6 ≤ Ls) (hR : 80 ≤ R.frames ∧ 80 * 80 ≤ R.locals ∧ kC + 1 ≤ R.cells ∧ sC + 6 ≤ R.slots) (hst : St_50 (fun i => xs (j + i)) h h' n) (kk : JQ X R Q (kC + n) (sC + 6 * n) 2799 [(0, .ref 0), (1, .ref 1), (2, .ref 30), (3, .ref 50), (4, .int (nI j))] [] h') : JQ X R Q kC sC 2737 [(0, .ref 0), (1, .ref 1), (2, .ref 30), (3, .ref 50), (4, .int (nI j))] [] h := by
  have hr1 := hR.2.2.1
  have hr2 := hR.2.2.2
  unfold St_50 at hst
  try dsimp only at hst
  obtain ⟨v, h1, e1, e2, rfl⟩ := hst
  refine Q_aload_n hX 1 dL_law__2737 rfl rfl ?_
  refine Q_V1 hX [] dL_law__2738 lv_315 ob_1 rfl (C_X11_undo (okGQ hX) e1) (Nat.le_trans (by decide) hR.1) (Nat.le_trans (by decide) hR.2.1) rfl rfl rfl rfl ⟨by omega, by omega⟩ ?_
  refine Q_aload_n hX 2 dL_law__2741 rfl rfl ?_
  refine Q_V1 hX [] dL_law__2742 lv_319 ob_30 rfl (C_X12_undo (okGQ hX) e2) (Nat.le_trans (by decide) hR.1) (Nat.le_trans (by decide) hR.2.1) rfl rfl rfl rfl ⟨by omega, by omega⟩ ?_
  refine Q_icmp_eqT hX 2799 dL_law__2745 rfl rfl ?_
  exact kk
set_option maxRecDepth 100000 in
set_option maxHeartbeats 200000 in
theorem LW_51 {X : CX} {R : Room} {Q : State → Prop} {kC sC Ls j n : Nat} {xs : Nat → Int32} {h h' : Hp} (hX : OkQ X cL_law_ 7 RL (some .boolean)) (hScr : ScrQ X Ls xs) (hL : Ls ≤ 3072) (hj : j + 6 ≤ Ls) (hR : 80 ≤ R.frames ∧ 80 * 80 ≤ R.locals ∧ kC + 1 ≤ R.cells ∧ sC + 6 ≤ R.slots) (hst : St_51 (fun i => xs (j + i)) h h' n) (kk : JQ X R Q (kC + n) (sC + 6 * n) 2799 [(0, .ref 0), (1, .ref 1), (2, .ref 30), (3, .ref 50), (4, .int (nI j))] [] h') : JQ X R Q kC sC 2750 [(0, .ref 0), (1, .ref 1), (2, .ref 30), (3, .ref 50), (4, .int (nI j))] [] h := by
  have hr1 := hR.2.2.1
  have hr2 := hR.2.2.2
  unfold St_51 at hst
  try dsimp only at hst
  obtain ⟨h1, e1, e2, rfl⟩ := hst
  refine Q_aload_n hX 1 dL_law__2750 rfl rfl ?_
  refine Q_V0 hX [] dL_law__2751 lv_320 ob_1 rfl (C_X11_image (okGQ hX) e1) (Nat.le_trans (by decide) hR.1) (Nat.le_trans (by decide) hR.2.1) rfl rfl rfl rfl ⟨by omega, by omega⟩ ?_
  refine Q_aload_n hX 2 dL_law__2754 rfl rfl ?_
  refine Q_V0 hX [] dL_law__2755 lv_323 ob_30 rfl (C_X12_image (okGQ hX) e2) (Nat.le_trans (by decide) hR.1) (Nat.le_trans (by decide) hR.2.1) rfl rfl rfl rfl ⟨by omega, by omega⟩ ?_
  refine Q_goto hX 2799 dL_law__2758 rfl ?_
  exact kk
set_option maxRecDepth 100000 in
set_option maxHeartbeats 200000 in
theorem LW_52 {X : CX} {R : Room} {Q : State → Prop} {kC sC Ls j n : Nat} {xs : Nat → Int32} {h h' : Hp} (hX : OkQ X cL_law_ 7 RL (some .boolean)) (hScr : ScrQ X Ls xs) (hL : Ls ≤ 3072) (hj : j + 6 ≤ Ls) (hR : 80 ≤ R.frames ∧ 80 * 80 ≤ R.locals ∧ kC + 1 ≤ R.cells ∧ sC + 6 ≤ R.slots) (hst : St_52 (fun i => xs (j + i)) h h' n) (kk : JQ X R Q (kC + n) (sC + 6 * n) 2799 [(0, .ref 0), (1, .ref 1), (2, .ref 30), (3, .ref 50), (4, .int (nI j))] [] h') : JQ X R Q kC sC 2761 [(0, .ref 0), (1, .ref 1), (2, .ref 30), (3, .ref 50), (4, .int (nI j))] [] h := by
  have hr1 := hR.2.2.1
  have hr2 := hR.2.2.2
  unfold St_52 at hst
  try dsimp only at hst
  obtain ⟨v, h1, e1, e2, rfl⟩ := hst
  refine Q_aload_n hX 1 dL_law__2761 rfl rfl ?_
  refine Q_V1 hX [] dL_law__2762 lv_324 ob_1 rfl (C_X11_back (okGQ hX) e1) (Nat.le_trans (by decide) hR.1) (Nat.le_trans (by decide) hR.2.1) rfl rfl rfl rfl ⟨by omega, by omega⟩ ?_
  refine Q_aload_n hX 2 dL_law__2765 rfl rfl ?_
  refine Q_V1 hX [] dL_law__2766 lv_327 ob_30 rfl (C_X12_back (okGQ hX) e2) (Nat.le_trans (by decide) hR.1) (Nat.le_trans (by decide) hR.2.1) rfl rfl rfl rfl ⟨by omega, by omega⟩ ?_
  refine Q_icmp_eqT hX 2799 dL_law__2769 rfl rfl ?_
  exact kk
set_option maxRecDepth 100000 in
set_option maxHeartbeats 200000 in
theorem LW_53 {X : CX} {R : Room} {Q : State → Prop} {kC sC Ls j n : Nat} {xs : Nat → Int32} {h h' : Hp} (hX : OkQ X cL_law_ 7 RL (some .boolean)) (hScr : ScrQ X Ls xs) (hL : Ls ≤ 3072) (hj : j + 6 ≤ Ls) (hR : 80 ≤ R.frames ∧ 80 * 80 ≤ R.locals ∧ kC + 1 ≤ R.cells ∧ sC + 6 ≤ R.slots) (hst : St_53 (fun i => xs (j + i)) h h' n) (kk : JQ X R Q (kC + n) (sC + 6 * n) 2799 [(0, .ref 0), (1, .ref 1), (2, .ref 30), (3, .ref 50), (4, .int (nI j))] [] h') : JQ X R Q kC sC 2774 [(0, .ref 0), (1, .ref 1), (2, .ref 30), (3, .ref 50), (4, .int (nI j))] [] h := by
  have hr1 := hR.2.2.1
  have hr2 := hR.2.2.2
  unfold St_53 at hst
  try dsimp only at hst
  obtain ⟨v, h1, e1, e2, rfl⟩ := hst
  refine Q_aload_n hX 1 dL_law__2774 rfl rfl ?_
  refine Q_aload_n hX 0 dL_law__2775 rfl rfl ?_
  refine Q_iload hX 4 dL_law__2776 rfl ?_
  refine Q_iconst hX 1 dL_law__2778 rfl ?_
  refine Q_iadd hX dL_law__2779 ?_
  refine Q_arg hX hScr hL hj 1 rfl (by decide) dL_law__2780 ?_
  refine Q_V1 hX [.int (xs (j + 1))] dL_law__2781 lv_328 ob_1 rfl (C_X11_count (okGQ hX) e1) (Nat.le_trans (by decide) hR.1) (Nat.le_trans (by decide) hR.2.1) rfl rfl rfl rfl ⟨by omega, by omega⟩ ?_
  refine Q_aload_n hX 2 dL_law__2784 rfl rfl ?_
  refine Q_aload_n hX 0 dL_law__2785 rfl rfl ?_
  refine Q_iload hX 4 dL_law__2786 rfl ?_
  refine Q_iconst hX 1 dL_law__2788 rfl ?_
  refine Q_iadd hX dL_law__2789 ?_
  refine Q_arg hX hScr hL hj 1 rfl (by decide) dL_law__2790 ?_
  refine Q_V1 hX [.int (xs (j + 1))] dL_law__2791 lv_331 ob_30 rfl (C_X12_count (okGQ hX) e2) (Nat.le_trans (by decide) hR.1) (Nat.le_trans (by decide) hR.2.1) rfl rfl rfl rfl ⟨by omega, by omega⟩ ?_
  refine Q_icmp_eqT hX 2799 dL_law__2794 rfl rfl ?_
  exact kk
