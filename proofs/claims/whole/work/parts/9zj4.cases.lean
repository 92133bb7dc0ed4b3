/-! the law: its cases, 5 -/
set_option maxRecDepth 4000 in
theorem lc_nearest {sb L0 : Nat} {xs : Nat → Int32} {nm : String} {o i m : Nat} {Φ : Option Value → HP → Prop} {h : HP} {cap : Nat → Nat} {A : Nat → Int} {ia : Nat → Nat → Int} {la : Nat → Nat → BitVec 64} {fi : Nat → Int} {fl : Nat → BitVec 64} {L R C rc rs : Nat} (hL : L0 ≤ 3072) (hi : i + 6 ≤ L0) (N : NX sb L0 xs nm o i m Φ) (I : LI o h cap A ia la fi fl L R C) (r1 : 200 * (m + 1) + (426168 - smC cap) ≤ rc) (r2 : 8300 * (m + 1) + 2 * (426168 - smC cap) ≤ rs) : wl sb L0 xs (mLaw nm) 1799 [.ref sb, .ref o, .ref (o + 60), .int (zI (i : Int))] [] h rc rs Φ := by
  obtain ⟨H, hr⟩ := I
  have hT := cls_top H
  obtain ⟨c, sa, si, sl, hX⟩ := H.vx
  have hcp := cls_cap H
  have hx := ad_aw H (fun bl bi bq => x_nearest (bl := bl) (bi := bi) (bq := bq) (q0 := la 6) hX )
  refine vw_aload_n dL_law_1799 rfl rfl ?_
  refine vw_callV (Z := mX9_nearest) (As := []) hx (cls_o H) rfl kX9_nearest lL_244 iX9_nearest vX9_nearest dL_law_1800 rfl rfl rfl (Nat.le_of_ble_eq_true rfl) ⟨Nat.le_of_ble_eq_true rfl, Nat.le_of_ble_eq_true rfl⟩ (by omega) (by omega) (fun v h1 q => ?_)
  obtain ⟨rfl, hF, L1, R1, C1, H1⟩ := q
  have hc1 := cls_cap H1
  have hr1 := li_frm hr hF
  have hz := ad_pr (c_nearest (r := o + 60) (A := A) (ia := ia) (la := la) (fi := fi) (fl := fl) (h0 := h1) hT )
  refine vw_aload_n dL_law_1803 rfl rfl ?_
  refine v_cast (h' := RH (o + 60) A ia la fi fl h1) rfl rfl (RHP.self hr1).symm ?_
  refine vw_callV (Z := mX10_nearest) (As := []) hz RH0 rfl kX10_nearest lL_247 iX10_nearest vX10_nearest dL_law_1804 rfl rfl rfl (Nat.le_of_ble_eq_true rfl) ⟨Nat.le_of_ble_eq_true rfl, Nat.le_of_ble_eq_true rfl⟩ (Nat.zero_le _) (Nat.zero_le _) (fun v h2 q => ?_)
  obtain ⟨rfl, ia', la', fi', fl', e⟩ := q
  refine v_sameL 2113 dL_law_1807 dL_law_1808 (by decide) ?_
  exact nx_go N H1 e (by omega) (by omega)
set_option maxRecDepth 4000 in
theorem lc_pipe {sb L0 : Nat} {xs : Nat → Int32} {nm : String} {o i m : Nat} {Φ : Option Value → HP → Prop} {h : HP} {cap : Nat → Nat} {A : Nat → Int} {ia : Nat → Nat → Int} {la : Nat → Nat → BitVec 64} {fi : Nat → Int} {fl : Nat → BitVec 64} {L R C rc rs : Nat} (hL : L0 ≤ 3072) (hi : i + 6 ≤ L0) (N : NX sb L0 xs nm o i m Φ) (I : LI o h cap A ia la fi fl L R C) (r1 : 200 * (m + 1) + (426168 - smC cap) ≤ rc) (r2 : 8300 * (m + 1) + 2 * (426168 - smC cap) ≤ rs) : wl sb L0 xs (mLaw nm) 1813 [.ref sb, .ref o, .ref (o + 60), .int (zI (i : Int))] [] h rc rs Φ := by
  obtain ⟨H, hr⟩ := I
  have hT := cls_top H
  obtain ⟨c, sa, si, sl, hX⟩ := H.vx
  have hcp := cls_cap H
  have hx := ad_fl H (fun ba bi => x_pipe (ba := ba) (bi := bi) hX (ok32_of (xs (i + 1))) (ok32_of (xs (i + 2))) (ok32_of (xs (i + 3))))
  refine vw_aload_n dL_law_1813 rfl rfl ?_
  refine vw_aload_n dL_law_1814 rfl rfl ?_
  refine vw_iload_n dL_law_1815 rfl rfl ?_
  refine vw_iconst dL_law_1816 ?_
  refine vw_iadd dL_law_1817 ?_
  refine v_sld (i + 1) (by omega) (by omega) hL dL_law_1818 ?_
  refine vw_aload_n dL_law_1819 rfl rfl ?_
  refine vw_iload_n dL_law_1820 rfl rfl ?_
  refine vw_iconst dL_law_1821 ?_
  refine vw_iadd dL_law_1822 ?_
  refine v_sld (i + 2) (by omega) (by omega) hL dL_law_1823 ?_
  refine vw_aload_n dL_law_1824 rfl rfl ?_
  refine vw_iload_n dL_law_1825 rfl rfl ?_
  refine vw_iconst dL_law_1826 ?_
  refine vw_iadd dL_law_1827 ?_
  refine v_sld (i + 3) (by omega) (by omega) hL dL_law_1828 ?_
  refine vw_callV (Z := mX9_pipe) (As := [_, _, _]) hx (cls_o H) rfl kX9_pipe lL_248 iX9_pipe vX9_pipe dL_law_1829 rfl rfl rfl (Nat.le_of_ble_eq_true rfl) ⟨Nat.le_of_ble_eq_true rfl, Nat.le_of_ble_eq_true rfl⟩ (by omega) (by omega) (fun v h1 q => ?_)
  obtain ⟨rfl, hF, L1, R1, C1, H1⟩ := q
  have hc1 := cls_cap H1
  have hr1 := li_frm hr hF
  have hz := ad_pr (c_pipe (r := o + 60) (A := A) (ia := ia) (la := la) (fi := fi) (fl := fl) (h0 := h1) hT (ok32_of (xs (i + 1))) (ok32_of (xs (i + 2))) (ok32_of (xs (i + 3))))
  refine vw_aload_n dL_law_1832 rfl rfl ?_
  refine vw_aload_n dL_law_1833 rfl rfl ?_
  refine vw_iload_n dL_law_1834 rfl rfl ?_
  refine vw_iconst dL_law_1835 ?_
  refine vw_iadd dL_law_1836 ?_
  refine v_sld (i + 1) (by omega) (by omega) hL dL_law_1837 ?_
  refine vw_aload_n dL_law_1838 rfl rfl ?_
  refine vw_iload_n dL_law_1839 rfl rfl ?_
  refine vw_iconst dL_law_1840 ?_
  refine vw_iadd dL_law_1841 ?_
  refine v_sld (i + 2) (by omega) (by omega) hL dL_law_1842 ?_
  refine vw_aload_n dL_law_1843 rfl rfl ?_
  refine vw_iload_n dL_law_1844 rfl rfl ?_
  refine vw_iconst dL_law_1845 ?_
  refine vw_iadd dL_law_1846 ?_
  refine v_sld (i + 3) (by omega) (by omega) hL dL_law_1847 ?_
  refine v_cast (h' := RH (o + 60) A ia la fi fl h1) rfl rfl (RHP.self hr1).symm ?_
  refine vw_callV (Z := mX10_pipe) (As := [_, _, _]) hz RH0 rfl kX10_pipe lL_251 iX10_pipe vX10_pipe dL_law_1848 rfl rfl rfl (Nat.le_of_ble_eq_true rfl) ⟨Nat.le_of_ble_eq_true rfl, Nat.le_of_ble_eq_true rfl⟩ (Nat.zero_le _) (Nat.zero_le _) (fun v h2 q => ?_)
  obtain ⟨rfl, ia', la', fi', fl', e⟩ := q
  refine v_sameI 2113 dL_law_1851 (by decide) ?_
  exact nx_go N H1 e (by omega) (by omega)
set_option maxRecDepth 4000 in
theorem lc_quietest {sb L0 : Nat} {xs : Nat → Int32} {nm : String} {o i m : Nat} {Φ : Option Value → HP → Prop} {h : HP} {cap : Nat → Nat} {A : Nat → Int} {ia : Nat → Nat → Int} {la : Nat → Nat → BitVec 64} {fi : Nat → Int} {fl : Nat → BitVec 64} {L R C rc rs : Nat} (hL : L0 ≤ 3072) (hi : i + 6 ≤ L0) (N : NX sb L0 xs nm o i m Φ) (I : LI o h cap A ia la fi fl L R C) (r1 : 200 * (m + 1) + (426168 - smC cap) ≤ rc) (r2 : 8300 * (m + 1) + 2 * (426168 - smC cap) ≤ rs) : wl sb L0 xs (mLaw nm) 1856 [.ref sb, .ref o, .ref (o + 60), .int (zI (i : Int))] [] h rc rs Φ := by
  obtain ⟨H, hr⟩ := I
  have hT := cls_top H
  obtain ⟨c, sa, si, sl, hX⟩ := H.vx
  have hcp := cls_cap H
  have hx := ad_fl H (fun ba bi => x_quietest (ba := ba) (bi := bi) hX (ok32_of (xs (i + 1))))
  refine vw_aload_n dL_law_1856 rfl rfl ?_
  refine vw_aload_n dL_law_1857 rfl rfl ?_
  refine vw_iload_n dL_law_1858 rfl rfl ?_
  refine vw_iconst dL_law_1859 ?_
  refine vw_iadd dL_law_1860 ?_
  refine v_sld (i + 1) (by omega) (by omega) hL dL_law_1861 ?_
  refine vw_callV (Z := mX9_quietest) (As := [_]) hx (cls_o H) rfl kX9_quietest lL_252 iX9_quietest vX9_quietest dL_law_1862 rfl rfl rfl (Nat.le_of_ble_eq_true rfl) ⟨Nat.le_of_ble_eq_true rfl, Nat.le_of_ble_eq_true rfl⟩ (by omega) (by omega) (fun v h1 q => ?_)
  obtain ⟨rfl, hF, L1, R1, C1, H1⟩ := q
  have hc1 := cls_cap H1
  have hr1 := li_frm hr hF
  have hz := ad_pr (c_quietest (r := o + 60) (A := A) (ia := ia) (la := la) (fi := fi) (fl := fl) (h0 := h1) hT (ok32_of (xs (i + 1))))
  refine vw_aload_n dL_law_1865 rfl rfl ?_
  refine vw_aload_n dL_law_1866 rfl rfl ?_
  refine vw_iload_n dL_law_1867 rfl rfl ?_
  refine vw_iconst dL_law_1868 ?_
  refine vw_iadd dL_law_1869 ?_
  refine v_sld (i + 1) (by omega) (by omega) hL dL_law_1870 ?_
  refine v_cast (h' := RH (o + 60) A ia la fi fl h1) rfl rfl (RHP.self hr1).symm ?_
  refine vw_callV (Z := mX10_quietest) (As := [_]) hz RH0 rfl kX10_quietest lL_255 iX10_quietest vX10_quietest dL_law_1871 rfl rfl rfl (Nat.le_of_ble_eq_true rfl) ⟨Nat.le_of_ble_eq_true rfl, Nat.le_of_ble_eq_true rfl⟩ (Nat.zero_le _) (Nat.zero_le _) (fun v h2 q => ?_)
  obtain ⟨rfl, ia', la', fi', fl', e⟩ := q
  refine v_sameI 2113 dL_law_1874 (by decide) ?_
  exact nx_go N H1 e (by omega) (by omega)
set_option maxRecDepth 4000 in
theorem lc_clashes {sb L0 : Nat} {xs : Nat → Int32} {nm : String} {o i m : Nat} {Φ : Option Value → HP → Prop} {h : HP} {cap : Nat → Nat} {A : Nat → Int} {ia : Nat → Nat → Int} {la : Nat → Nat → BitVec 64} {fi : Nat → Int} {fl : Nat → BitVec 64} {L R C rc rs : Nat} (hL : L0 ≤ 3072) (hi : i + 6 ≤ L0) (N : NX sb L0 xs nm o i m Φ) (I : LI o h cap A ia la fi fl L R C) (r1 : 200 * (m + 1) + (426168 - smC cap) ≤ rc) (r2 : 8300 * (m + 1) + 2 * (426168 - smC cap) ≤ rs) : wl sb L0 xs (mLaw nm) 1879 [.ref sb, .ref o, .ref (o + 60), .int (zI (i : Int))] [] h rc rs Φ := by
  obtain ⟨H, hr⟩ := I
  have hT := cls_top H
  obtain ⟨c, sa, si, sl, hX⟩ := H.vx
  have hcp := cls_cap H
  have hx := ad_fl H (fun ba bi => x_clashes (ba := ba) (bi := bi) hX (ok32_of (xs (i + 1))))
  refine vw_aload_n dL_law_1879 rfl rfl ?_
  refine vw_aload_n dL_law_1880 rfl rfl ?_
  refine vw_iload_n dL_law_1881 rfl rfl ?_
  refine vw_iconst dL_law_1882 ?_
  refine vw_iadd dL_law_1883 ?_
  refine v_sld (i + 1) (by omega) (by omega) hL dL_law_1884 ?_
  refine vw_callV (Z := mX9_clashes) (As := [_]) hx (cls_o H) rfl kX9_clashes lL_256 iX9_clashes vX9_clashes dL_law_1885 rfl rfl rfl (Nat.le_of_ble_eq_true rfl) ⟨Nat.le_of_ble_eq_true rfl, Nat.le_of_ble_eq_true rfl⟩ (by omega) (by omega) (fun v h1 q => ?_)
  obtain ⟨rfl, hF, L1, R1, C1, H1⟩ := q
  have hc1 := cls_cap H1
  have hr1 := li_frm hr hF
  have hz := ad_pr (c_clashes (r := o + 60) (A := A) (ia := ia) (la := la) (fi := fi) (fl := fl) (h0 := h1) hT (ok32_of (xs (i + 1))))
  refine vw_aload_n dL_law_1888 rfl rfl ?_
  refine vw_aload_n dL_law_1889 rfl rfl ?_
  refine vw_iload_n dL_law_1890 rfl rfl ?_
  refine vw_iconst dL_law_1891 ?_
  refine vw_iadd dL_law_1892 ?_
  refine v_sld (i + 1) (by omega) (by omega) hL dL_law_1893 ?_
  refine v_cast (h' := RH (o + 60) A ia la fi fl h1) rfl rfl (RHP.self hr1).symm ?_
  refine vw_callV (Z := mX10_clashes) (As := [_]) hz RH0 rfl kX10_clashes lL_259 iX10_clashes vX10_clashes dL_law_1894 rfl rfl rfl (Nat.le_of_ble_eq_true rfl) ⟨Nat.le_of_ble_eq_true rfl, Nat.le_of_ble_eq_true rfl⟩ (Nat.zero_le _) (Nat.zero_le _) (fun v h2 q => ?_)
  obtain ⟨rfl, ia', la', fi', fl', e⟩ := q
  refine v_sameI 2113 dL_law_1897 (by decide) ?_
  exact nx_go N H1 e (by omega) (by omega)
set_option maxRecDepth 4000 in
theorem lc_calmest {sb L0 : Nat} {xs : Nat → Int32} {nm : String} {o i m : Nat} {Φ : Option Value → HP → Prop} {h : HP} {cap : Nat → Nat} {A : Nat → Int} {ia : Nat → Nat → Int} {la : Nat → Nat → BitVec 64} {fi : Nat → Int} {fl : Nat → BitVec 64} {L R C rc rs : Nat} (hL : L0 ≤ 3072) (hi : i + 6 ≤ L0) (N : NX sb L0 xs nm o i m Φ) (I : LI o h cap A ia la fi fl L R C) (r1 : 200 * (m + 1) + (426168 - smC cap) ≤ rc) (r2 : 8300 * (m + 1) + 2 * (426168 - smC cap) ≤ rs) : wl sb L0 xs (mLaw nm) 1902 [.ref sb, .ref o, .ref (o + 60), .int (zI (i : Int))] [] h rc rs Φ := by
  obtain ⟨H, hr⟩ := I
  have hT := cls_top H
  obtain ⟨c, sa, si, sl, hX⟩ := H.vx
  have hcp := cls_cap H
  have hx := ad_fl H (fun ba bi => x_calmest (ba := ba) (bi := bi) hX )
  refine vw_aload_n dL_law_1902 rfl rfl ?_
  refine vw_callV (Z := mX9_calmest) (As := []) hx (cls_o H) rfl kX9_calmest lL_260 iX9_calmest vX9_calmest dL_law_1903 rfl rfl rfl (Nat.le_of_ble_eq_true rfl) ⟨Nat.le_of_ble_eq_true rfl, Nat.le_of_ble_eq_true rfl⟩ (by omega) (by omega) (fun v h1 q => ?_)
  obtain ⟨rfl, hF, L1, R1, C1, H1⟩ := q
  have hc1 := cls_cap H1
  have hr1 := li_frm hr hF
  have hz := ad_pr (c_calmest (r := o + 60) (A := A) (ia := ia) (la := la) (fi := fi) (fl := fl) (h0 := h1) hT )
  refine vw_aload_n dL_law_1906 rfl rfl ?_
  refine v_cast (h' := RH (o + 60) A ia la fi fl h1) rfl rfl (RHP.self hr1).symm ?_
  refine vw_callV (Z := mX10_calmest) (As := []) hz RH0 rfl kX10_calmest lL_263 iX10_calmest vX10_calmest dL_law_1907 rfl rfl rfl (Nat.le_of_ble_eq_true rfl) ⟨Nat.le_of_ble_eq_true rfl, Nat.le_of_ble_eq_true rfl⟩ (Nat.zero_le _) (Nat.zero_le _) (fun v h2 q => ?_)
  obtain ⟨rfl, ia', la', fi', fl', e⟩ := q
  refine v_sameI 2113 dL_law_1910 (by decide) ?_
  exact nx_go N H1 e (by omega) (by omega)
set_option maxRecDepth 4000 in
theorem lc_foretold {sb L0 : Nat} {xs : Nat → Int32} {nm : String} {o i m : Nat} {Φ : Option Value → HP → Prop} {h : HP} {cap : Nat → Nat} {A : Nat → Int} {ia : Nat → Nat → Int} {la : Nat → Nat → BitVec 64} {fi : Nat → Int} {fl : Nat → BitVec 64} {L R C rc rs : Nat} (hL : L0 ≤ 3072) (hi : i + 6 ≤ L0) (N : NX sb L0 xs nm o i m Φ) (I : LI o h cap A ia la fi fl L R C) (r1 : 200 * (m + 1) + (426168 - smC cap) ≤ rc) (r2 : 8300 * (m + 1) + 2 * (426168 - smC cap) ≤ rs) : wl sb L0 xs (mLaw nm) 1915 [.ref sb, .ref o, .ref (o + 60), .int (zI (i : Int))] [] h rc rs Φ := by
  obtain ⟨H, hr⟩ := I
  have hT := cls_top H
  obtain ⟨c, sa, si, sl, hX⟩ := H.vx
  have hcp := cls_cap H
  have hx := ad_sh H (fun c1 sb sj sm => x_foretold (c1 := c1) (sb := sb) (sj := sj) (sm := sm) hX (ok32_of (xs (i + 1))))
  refine vw_aload_n dL_law_1915 rfl rfl ?_
  refine vw_aload_n dL_law_1916 rfl rfl ?_
  refine vw_iload_n dL_law_1917 rfl rfl ?_
  refine vw_iconst dL_law_1918 ?_
  refine vw_iadd dL_law_1919 ?_
  refine v_sld (i + 1) (by omega) (by omega) hL dL_law_1920 ?_
  refine vw_callV (Z := mX9_foretold) (As := [_]) hx (cls_o H) rfl kX9_foretold lL_264 iX9_foretold vX9_foretold dL_law_1921 rfl rfl rfl (Nat.le_of_ble_eq_true rfl) ⟨Nat.le_of_ble_eq_true rfl, Nat.le_of_ble_eq_true rfl⟩ (by omega) (by omega) (fun v h1 q => ?_)
  obtain ⟨rfl, hF, L1, R1, C1, H1⟩ := q
  have hc1 := cls_cap H1
  have hr1 := li_frm hr hF
  have hz := ad_pr (c_foretold (r := o + 60) (A := A) (ia := ia) (la := la) (fi := fi) (fl := fl) (h0 := h1) hT (ok32_of (xs (i + 1))))
  refine vw_aload_n dL_law_1924 rfl rfl ?_
  refine vw_aload_n dL_law_1925 rfl rfl ?_
  refine vw_iload_n dL_law_1926 rfl rfl ?_
  refine vw_iconst dL_law_1927 ?_
  refine vw_iadd dL_law_1928 ?_
  refine v_sld (i + 1) (by omega) (by omega) hL dL_law_1929 ?_
  refine v_cast (h' := RH (o + 60) A ia la fi fl h1) rfl rfl (RHP.self hr1).symm ?_
  refine vw_callV (Z := mX10_foretold) (As := [_]) hz RH0 rfl kX10_foretold lL_267 iX10_foretold vX10_foretold dL_law_1930 rfl rfl rfl (Nat.le_of_ble_eq_true rfl) ⟨Nat.le_of_ble_eq_true rfl, Nat.le_of_ble_eq_true rfl⟩ (Nat.zero_le _) (Nat.zero_le _) (fun v h2 q => ?_)
  obtain ⟨rfl, ia', la', fi', fl', e⟩ := q
  refine v_sameI 2113 dL_law_1933 (by decide) ?_
  exact nx_go N H1 e (by omega) (by omega)
set_option maxRecDepth 4000 in
theorem lc_believed {sb L0 : Nat} {xs : Nat → Int32} {nm : String} {o i m : Nat} {Φ : Option Value → HP → Prop} {h : HP} {cap : Nat → Nat} {A : Nat → Int} {ia : Nat → Nat → Int} {la : Nat → Nat → BitVec 64} {fi : Nat → Int} {fl : Nat → BitVec 64} {L R C rc rs : Nat} (hL : L0 ≤ 3072) (hi : i + 6 ≤ L0) (N : NX sb L0 xs nm o i m Φ) (I : LI o h cap A ia la fi fl L R C) (r1 : 200 * (m + 1) + (426168 - smC cap) ≤ rc) (r2 : 8300 * (m + 1) + 2 * (426168 - smC cap) ≤ rs) : wl sb L0 xs (mLaw nm) 1938 [.ref sb, .ref o, .ref (o + 60), .int (zI (i : Int))] [] h rc rs Φ := by
  obtain ⟨H, hr⟩ := I
  have hT := cls_top H
  obtain ⟨c, sa, si, sl, hX⟩ := H.vx
  have hcp := cls_cap H
  have hx := ad_sh H (fun c1 sb sj sm => x_believed (c1 := c1) (sb := sb) (sj := sj) (sm := sm) hX (ok32_of (xs (i + 1))) (ok32_of (xs (i + 2))))
  refine vw_aload_n dL_law_1938 rfl rfl ?_
  refine vw_aload_n dL_law_1939 rfl rfl ?_
  refine vw_iload_n dL_law_1940 rfl rfl ?_
  refine vw_iconst dL_law_1941 ?_
  refine vw_iadd dL_law_1942 ?_
  refine v_sld (i + 1) (by omega) (by omega) hL dL_law_1943 ?_
  refine vw_aload_n dL_law_1944 rfl rfl ?_
  refine vw_iload_n dL_law_1945 rfl rfl ?_
  refine vw_iconst dL_law_1946 ?_
  refine vw_iadd dL_law_1947 ?_
  refine v_sld (i + 2) (by omega) (by omega) hL dL_law_1948 ?_
  refine vw_callV (Z := mX9_believed) (As := [_, _]) hx (cls_o H) rfl kX9_believed lL_268 iX9_believed vX9_believed dL_law_1949 rfl rfl rfl (Nat.le_of_ble_eq_true rfl) ⟨Nat.le_of_ble_eq_true rfl, Nat.le_of_ble_eq_true rfl⟩ (by omega) (by omega) (fun v h1 q => ?_)
  obtain ⟨rfl, hF, L1, R1, C1, H1⟩ := q
  have hc1 := cls_cap H1
  have hr1 := li_frm hr hF
  have hz := ad_pr (c_believed (r := o + 60) (A := A) (ia := ia) (la := la) (fi := fi) (fl := fl) (h0 := h1) hT (ok32_of (xs (i + 1))) (ok32_of (xs (i + 2))))
  refine vw_aload_n dL_law_1952 rfl rfl ?_
  refine vw_aload_n dL_law_1953 rfl rfl ?_
  refine vw_iload_n dL_law_1954 rfl rfl ?_
  refine vw_iconst dL_law_1955 ?_
  refine vw_iadd dL_law_1956 ?_
  refine v_sld (i + 1) (by omega) (by omega) hL dL_law_1957 ?_
  refine vw_aload_n dL_law_1958 rfl rfl ?_
  refine vw_iload_n dL_law_1959 rfl rfl ?_
  refine vw_iconst dL_law_1960 ?_
  refine vw_iadd dL_law_1961 ?_
  refine v_sld (i + 2) (by omega) (by omega) hL dL_law_1962 ?_
  refine v_cast (h' := RH (o + 60) A ia la fi fl h1) rfl rfl (RHP.self hr1).symm ?_
  refine vw_callV (Z := mX10_believed) (As := [_, _]) hz RH0 rfl kX10_believed lL_271 iX10_believed vX10_believed dL_law_1963 rfl rfl rfl (Nat.le_of_ble_eq_true rfl) ⟨Nat.le_of_ble_eq_true rfl, Nat.le_of_ble_eq_true rfl⟩ (Nat.zero_le _) (Nat.zero_le _) (fun v h2 q => ?_)
  obtain ⟨rfl, ia', la', fi', fl', e⟩ := q
  refine v_sameI 2113 dL_law_1966 (by decide) ?_
  exact nx_go N H1 e (by omega) (by omega)
set_option maxRecDepth 4000 in
theorem lc_till {sb L0 : Nat} {xs : Nat → Int32} {nm : String} {o i m : Nat} {Φ : Option Value → HP → Prop} {h : HP} {cap : Nat → Nat} {A : Nat → Int} {ia : Nat → Nat → Int} {la : Nat → Nat → BitVec 64} {fi : Nat → Int} {fl : Nat → BitVec 64} {L R C rc rs : Nat} (hL : L0 ≤ 3072) (hi : i + 6 ≤ L0) (N : NX sb L0 xs nm o i m Φ) (I : LI o h cap A ia la fi fl L R C) (r1 : 200 * (m + 1) + (426168 - smC cap) ≤ rc) (r2 : 8300 * (m + 1) + 2 * (426168 - smC cap) ≤ rs) : wl sb L0 xs (mLaw nm) 1971 [.ref sb, .ref o, .ref (o + 60), .int (zI (i : Int))] [] h rc rs Φ := by
  obtain ⟨H, hr⟩ := I
  have hT := cls_top H
  obtain ⟨c, sa, si, sl, hX⟩ := H.vx
  have hcp := cls_cap H
  have hx := ad_sh H (fun c1 sb sj sm => x_till (c1 := c1) (sb := sb) (sj := sj) (sm := sm) hX )
  refine vw_aload_n dL_law_1971 rfl rfl ?_
  refine vw_callV (Z := mX9_till) (As := []) hx (cls_o H) rfl kX9_till lL_272 iX9_till vX9_till dL_law_1972 rfl rfl rfl (Nat.le_of_ble_eq_true rfl) ⟨Nat.le_of_ble_eq_true rfl, Nat.le_of_ble_eq_true rfl⟩ (by omega) (by omega) (fun v h1 q => ?_)
  obtain ⟨rfl, hF, L1, R1, C1, H1⟩ := q
  have hc1 := cls_cap H1
  have hr1 := li_frm hr hF
  have hz := ad_pr (c_till (r := o + 60) (A := A) (ia := ia) (la := la) (fi := fi) (fl := fl) (h0 := h1) hT )
  refine vw_aload_n dL_law_1975 rfl rfl ?_
  refine v_cast (h' := RH (o + 60) A ia la fi fl h1) rfl rfl (RHP.self hr1).symm ?_
  refine vw_callV (Z := mX10_till) (As := []) hz RH0 rfl kX10_till lL_275 iX10_till vX10_till dL_law_1976 rfl rfl rfl (Nat.le_of_ble_eq_true rfl) ⟨Nat.le_of_ble_eq_true rfl, Nat.le_of_ble_eq_true rfl⟩ (Nat.zero_le _) (Nat.zero_le _) (fun v h2 q => ?_)
  obtain ⟨rfl, ia', la', fi', fl', e⟩ := q
  refine v_sameI 2113 dL_law_1979 (by decide) ?_
  exact nx_go N H1 e (by omega) (by omega)
set_option maxRecDepth 4000 in
theorem lc_fewer {sb L0 : Nat} {xs : Nat → Int32} {nm : String} {o i m : Nat} {Φ : Option Value → HP → Prop} {h : HP} {cap : Nat → Nat} {A : Nat → Int} {ia : Nat → Nat → Int} {la : Nat → Nat → BitVec 64} {fi : Nat → Int} {fl : Nat → BitVec 64} {L R C rc rs : Nat} (hL : L0 ≤ 3072) (hi : i + 6 ≤ L0) (N : NX sb L0 xs nm o i m Φ) (I : LI o h cap A ia la fi fl L R C) (r1 : 200 * (m + 1) + (426168 - smC cap) ≤ rc) (r2 : 8300 * (m + 1) + 2 * (426168 - smC cap) ≤ rs) : wl sb L0 xs (mLaw nm) 1984 [.ref sb, .ref o, .ref (o + 60), .int (zI (i : Int))] [] h rc rs Φ := by
  obtain ⟨H, hr⟩ := I
  have hT := cls_top H
  obtain ⟨c, sa, si, sl, hX⟩ := H.vx
  have hcp := cls_cap H
  have hx := ad_sh H (fun c1 sb sj sm => x_fewer (c1 := c1) (sb := sb) (sj := sj) (sm := sm) hX )
  refine vw_aload_n dL_law_1984 rfl rfl ?_
  refine vw_callV (Z := mX9_fewer) (As := []) hx (cls_o H) rfl kX9_fewer lL_276 iX9_fewer vX9_fewer dL_law_1985 rfl rfl rfl (Nat.le_of_ble_eq_true rfl) ⟨Nat.le_of_ble_eq_true rfl, Nat.le_of_ble_eq_true rfl⟩ (by omega) (by omega) (fun v h1 q => ?_)
  obtain ⟨rfl, hF, L1, R1, C1, H1⟩ := q
  have hc1 := cls_cap H1
  have hr1 := li_frm hr hF
  have hz := ad_pr (c_fewer (r := o + 60) (A := A) (ia := ia) (la := la) (fi := fi) (fl := fl) (h0 := h1) hT )
  refine vw_aload_n dL_law_1988 rfl rfl ?_
  refine v_cast (h' := RH (o + 60) A ia la fi fl h1) rfl rfl (RHP.self hr1).symm ?_
  refine vw_callV (Z := mX10_fewer) (As := []) hz RH0 rfl kX10_fewer lL_279 iX10_fewer vX10_fewer dL_law_1989 rfl rfl rfl (Nat.le_of_ble_eq_true rfl) ⟨Nat.le_of_ble_eq_true rfl, Nat.le_of_ble_eq_true rfl⟩ (Nat.zero_le _) (Nat.zero_le _) (fun v h2 q => ?_)
  obtain ⟨rfl, ia', la', fi', fl', e⟩ := q
  refine v_sameI 2113 dL_law_1992 (by decide) ?_
  exact nx_go N H1 e (by omega) (by omega)
set_option maxRecDepth 4000 in
theorem lc_trials {sb L0 : Nat} {xs : Nat → Int32} {nm : String} {o i m : Nat} {Φ : Option Value → HP → Prop} {h : HP} {cap : Nat → Nat} {A : Nat → Int} {ia : Nat → Nat → Int} {la : Nat → Nat → BitVec 64} {fi : Nat → Int} {fl : Nat → BitVec 64} {L R C rc rs : Nat} (hL : L0 ≤ 3072) (hi : i + 6 ≤ L0) (N : NX sb L0 xs nm o i m Φ) (I : LI o h cap A ia la fi fl L R C) (r1 : 200 * (m + 1) + (426168 - smC cap) ≤ rc) (r2 : 8300 * (m + 1) + 2 * (426168 - smC cap) ≤ rs) : wl sb L0 xs (mLaw nm) 1997 [.ref sb, .ref o, .ref (o + 60), .int (zI (i : Int))] [] h rc rs Φ := by
  obtain ⟨H, hr⟩ := I
  have hT := cls_top H
  obtain ⟨c, sa, si, sl, hX⟩ := H.vx
  have hcp := cls_cap H
  have hx := ad_sh H (fun c1 sb sj sm => x_trials (c1 := c1) (sb := sb) (sj := sj) (sm := sm) hX (ok32_of (xs (i + 1))) (ok32_of (xs (i + 2))) (ok32_of (xs (i + 3))) (ok32_of (xs (i + 4))))
  refine vw_aload_n dL_law_1997 rfl rfl ?_
  refine vw_aload_n dL_law_1998 rfl rfl ?_
  refine vw_iload_n dL_law_1999 rfl rfl ?_
  refine vw_iconst dL_law_2000 ?_
  refine vw_iadd dL_law_2001 ?_
  refine v_sld (i + 1) (by omega) (by omega) hL dL_law_2002 ?_
  refine vw_aload_n dL_law_2003 rfl rfl ?_
  refine vw_iload_n dL_law_2004 rfl rfl ?_
  refine vw_iconst dL_law_2005 ?_
  refine vw_iadd dL_law_2006 ?_
  refine v_sld (i + 2) (by omega) (by omega) hL dL_law_2007 ?_
  refine vw_aload_n dL_law_2008 rfl rfl ?_
  refine vw_iload_n dL_law_2009 rfl rfl ?_
  refine vw_iconst dL_law_2010 ?_
  refine vw_iadd dL_law_2011 ?_
  refine v_sld (i + 3) (by omega) (by omega) hL dL_law_2012 ?_
  refine vw_aload_n dL_law_2013 rfl rfl ?_
  refine vw_iload_n dL_law_2014 rfl rfl ?_
  refine vw_iconst dL_law_2015 ?_
  refine vw_iadd dL_law_2016 ?_
  refine v_sld (i + 4) (by omega) (by omega) hL dL_law_2017 ?_
  refine vw_callV (Z := mX9_trials) (As := [_, _, _, _]) hx (cls_o H) rfl kX9_trials lL_280 iX9_trials vX9_trials dL_law_2018 rfl rfl rfl (Nat.le_of_ble_eq_true rfl) ⟨Nat.le_of_ble_eq_true rfl, Nat.le_of_ble_eq_true rfl⟩ (by omega) (by omega) (fun v h1 q => ?_)
  obtain ⟨rfl, hF, L1, R1, C1, H1⟩ := q
  have hc1 := cls_cap H1
  have hr1 := li_frm hr hF
  have hz := ad_pr (c_trials (r := o + 60) (A := A) (ia := ia) (la := la) (fi := fi) (fl := fl) (h0 := h1) hT (ok32_of (xs (i + 1))) (ok32_of (xs (i + 2))) (ok32_of (xs (i + 3))) (ok32_of (xs (i + 4))))
  refine vw_aload_n dL_law_2021 rfl rfl ?_
  refine vw_aload_n dL_law_2022 rfl rfl ?_
  refine vw_iload_n dL_law_2023 rfl rfl ?_
  refine vw_iconst dL_law_2024 ?_
  refine vw_iadd dL_law_2025 ?_
  refine v_sld (i + 1) (by omega) (by omega) hL dL_law_2026 ?_
  refine vw_aload_n dL_law_2027 rfl rfl ?_
  refine vw_iload_n dL_law_2028 rfl rfl ?_
  refine vw_iconst dL_law_2029 ?_
  refine vw_iadd dL_law_2030 ?_
  refine v_sld (i + 2) (by omega) (by omega) hL dL_law_2031 ?_
  refine vw_aload_n dL_law_2032 rfl rfl ?_
  refine vw_iload_n dL_law_2033 rfl rfl ?_
  refine vw_iconst dL_law_2034 ?_
  refine vw_iadd dL_law_2035 ?_
  refine v_sld (i + 3) (by omega) (by omega) hL dL_law_2036 ?_
  refine vw_aload_n dL_law_2037 rfl rfl ?_
  refine vw_iload_n dL_law_2038 rfl rfl ?_
  refine vw_iconst dL_law_2039 ?_
  refine vw_iadd dL_law_2040 ?_
  refine v_sld (i + 4) (by omega) (by omega) hL dL_law_2041 ?_
  refine v_cast (h' := RH (o + 60) A ia la fi fl h1) rfl rfl (RHP.self hr1).symm ?_
  refine vw_callV (Z := mX10_trials) (As := [_, _, _, _]) hz RH0 rfl kX10_trials lL_284 iX10_trials vX10_trials dL_law_2042 rfl rfl rfl (Nat.le_of_ble_eq_true rfl) ⟨Nat.le_of_ble_eq_true rfl, Nat.le_of_ble_eq_true rfl⟩ (Nat.zero_le _) (Nat.zero_le _) (fun v h2 q => ?_)
  obtain ⟨rfl, ia', la', fi', fl', e⟩ := q
  refine v_sameI 2113 dL_law_2045 (by decide) ?_
  exact nx_go N H1 e (by omega) (by omega)
set_option maxRecDepth 4000 in
theorem lc_mean {sb L0 : Nat} {xs : Nat → Int32} {nm : String} {o i m : Nat} {Φ : Option Value → HP → Prop} {h : HP} {cap : Nat → Nat} {A : Nat → Int} {ia : Nat → Nat → Int} {la : Nat → Nat → BitVec 64} {fi : Nat → Int} {fl : Nat → BitVec 64} {L R C rc rs : Nat} (hL : L0 ≤ 3072) (hi : i + 6 ≤ L0) (N : NX sb L0 xs nm o i m Φ) (I : LI o h cap A ia la fi fl L R C) (r1 : 200 * (m + 1) + (426168 - smC cap) ≤ rc) (r2 : 8300 * (m + 1) + 2 * (426168 - smC cap) ≤ rs) : wl sb L0 xs (mLaw nm) 2050 [.ref sb, .ref o, .ref (o + 60), .int (zI (i : Int))] [] h rc rs Φ := by
  obtain ⟨H, hr⟩ := I
  have hT := cls_top H
  obtain ⟨c, sa, si, sl, hX⟩ := H.vx
  have hcp := cls_cap H
  have hx := ad_pd H (x_mean hX)
  refine vw_aload_n dL_law_2050 rfl rfl ?_
  refine vw_callV (Z := mX9_mean) (As := []) hx (cls_o H) rfl kX9_mean lL_285 iX9_mean vX9_mean dL_law_2051 rfl rfl rfl (Nat.le_of_ble_eq_true rfl) ⟨Nat.le_of_ble_eq_true rfl, Nat.le_of_ble_eq_true rfl⟩ (by omega) (by omega) (fun v h1 q => ?_)
  obtain ⟨rfl, hF, L1, R1, C1, H1⟩ := q
  have hc1 := cls_cap H1
  have hr1 := li_frm hr hF
  have hz := ad_pq (c_mean (r := o + 60) (A := A) (ia := ia) (la := la) (fi := fi) (fl := fl) (h0 := h1) hT )
  refine vw_aload_n dL_law_2054 rfl rfl ?_
  refine v_cast (h' := RH (o + 60) A ia la fi fl h1) rfl rfl (RHP.self hr1).symm ?_
  refine vw_callV (Z := mX10_mean) (As := []) hz RH0 rfl kX10_mean lL_288 iX10_mean vX10_mean dL_law_2055 rfl rfl rfl (Nat.le_of_ble_eq_true rfl) ⟨Nat.le_of_ble_eq_true rfl, Nat.le_of_ble_eq_true rfl⟩ (Nat.zero_le _) (Nat.zero_le _) (fun v h2 q => ?_)
  obtain ⟨rfl, ia', la', fi', fl', e⟩ := q
  refine v_sameL 2113 dL_law_2058 dL_law_2059 (by decide) ?_
  exact nx_go N H1 e (by omega) (by omega)
set_option maxRecDepth 4000 in
theorem lc_image {sb L0 : Nat} {xs : Nat → Int32} {nm : String} {o i m : Nat} {Φ : Option Value → HP → Prop} {h : HP} {cap : Nat → Nat} {A : Nat → Int} {ia : Nat → Nat → Int} {la : Nat → Nat → BitVec 64} {fi : Nat → Int} {fl : Nat → BitVec 64} {L R C rc rs : Nat} (hL : L0 ≤ 3072) (hi : i + 6 ≤ L0) (N : NX sb L0 xs nm o i m Φ) (I : LI o h cap A ia la fi fl L R C) (r1 : 200 * (m + 1) + (426168 - smC cap) ≤ rc) (r2 : 8300 * (m + 1) + 2 * (426168 - smC cap) ≤ rs) : wl sb L0 xs (mLaw nm) 2064 [.ref sb, .ref o, .ref (o + 60), .int (zI (i : Int))] [] h rc rs Φ := by
  obtain ⟨H, hr⟩ := I
  have hT := cls_top H
  obtain ⟨c, sa, si, sl, hX⟩ := H.vx
  have hcp := cls_cap H
  have hx := ad_xe (x_image H)
  refine vw_aload_n dL_law_2064 rfl rfl ?_
  refine vw_callV (Z := mX9_image) (As := []) hx (cls_o H) rfl kX9_image lL_289 iX9_image vX9_image dL_law_2065 rfl rfl rfl (Nat.le_of_ble_eq_true rfl) ⟨Nat.le_of_ble_eq_true rfl, Nat.le_of_ble_eq_true rfl⟩ (by omega) (by omega) (fun v h1 q => ?_)
  obtain ⟨rfl, hF, L1, R1, C1, H1⟩ := q
  have hc1 := cls_cap H1
  have hr1 := li_frm hr hF
  have hz := ad_pq (c_image (r := o + 60) (A := A) (ia := ia) (la := la) (fi := fi) (fl := fl) (h0 := h1) hT.2.1)
  refine vw_aload_n dL_law_2068 rfl rfl ?_
  refine v_cast (h' := RH (o + 60) A ia la fi fl h1) rfl rfl (RHP.self hr1).symm ?_
  refine vw_callV (Z := mX10_image) (As := []) hz RH0 rfl kX10_image lL_292 iX10_image vX10_image dL_law_2069 rfl rfl rfl (Nat.le_of_ble_eq_true rfl) ⟨Nat.le_of_ble_eq_true rfl, Nat.le_of_ble_eq_true rfl⟩ (Nat.zero_le _) (Nat.zero_le _) (fun v h2 q => ?_)
  obtain ⟨rfl, ia', la', fi', fl', e⟩ := q
  refine v_sameI 2113 dL_law_2072 (by decide) ?_
  exact nx_go N H1 e (by omega) (by omega)
set_option maxRecDepth 4000 in
theorem lc_back {sb L0 : Nat} {xs : Nat → Int32} {nm : String} {o i m : Nat} {Φ : Option Value → HP → Prop} {h : HP} {cap : Nat → Nat} {A : Nat → Int} {ia : Nat → Nat → Int} {la : Nat → Nat → BitVec 64} {fi : Nat → Int} {fl : Nat → BitVec 64} {L R C rc rs : Nat} (hL : L0 ≤ 3072) (hi : i + 6 ≤ L0) (N : NX sb L0 xs nm o i m Φ) (I : LI o h cap A ia la fi fl L R C) (r1 : 200 * (m + 1) + (426168 - smC cap) ≤ rc) (r2 : 8300 * (m + 1) + 2 * (426168 - smC cap) ≤ rs) : wl sb L0 xs (mLaw nm) 2077 [.ref sb, .ref o, .ref (o + 60), .int (zI (i : Int))] [] h rc rs Φ := by
  obtain ⟨H, hr⟩ := I
  have hT := cls_top H
  obtain ⟨c, sa, si, sl, hX⟩ := H.vx
  have hcp := cls_cap H
  obtain ⟨L2, R2, C2, hV2⟩ : ∃ L2 R2 C2, VC (ia 2) L2 R2 C2 := by
    obtain ⟨ow, cd, cb, c, hRs, -⟩ := id H
    obtain ⟨-, -, L2, R2, C2, c2, sa2, si2, sl2, -, -, -, -, hB⟩ := hRs.2.2.2.2.1
    exact ⟨L2, R2, C2, hB.2.1⟩
  have hx := ad_xe (x_back H hV2)
  refine vw_aload_n dL_law_2077 rfl rfl ?_
  refine vw_callV (Z := mX9_back) (As := []) hx (cls_o H) rfl kX9_back lL_293 iX9_back vX9_back dL_law_2078 rfl rfl rfl (Nat.le_of_ble_eq_true rfl) ⟨Nat.le_of_ble_eq_true rfl, Nat.le_of_ble_eq_true rfl⟩ (by omega) (by omega) (fun v h1 q => ?_)
  obtain ⟨rfl, hF, L1, R1, C1, H1⟩ := q
  have hc1 := cls_cap H1
  have hr1 := li_frm hr hF
  have hz := ad_pq (c_back (r := o + 60) (A := A) (ia := ia) (la := la) (fi := fi) (fl := fl) (h0 := h1) hV2)
  refine vw_aload_n dL_law_2081 rfl rfl ?_
  refine v_cast (h' := RH (o + 60) A ia la fi fl h1) rfl rfl (RHP.self hr1).symm ?_
  refine vw_callV (Z := mX10_back) (As := []) hz RH0 rfl kX10_back lL_296 iX10_back vX10_back dL_law_2082 rfl rfl rfl (Nat.le_of_ble_eq_true rfl) ⟨Nat.le_of_ble_eq_true rfl, Nat.le_of_ble_eq_true rfl⟩ (Nat.zero_le _) (Nat.zero_le _) (fun v h2 q => ?_)
  obtain ⟨rfl, ia', la', fi', fl', e⟩ := q
  refine v_sameI 2113 dL_law_2085 (by decide) ?_
  exact nx_go N H1 e (by omega) (by omega)
set_option maxRecDepth 4000 in
theorem lc_about {sb L0 : Nat} {xs : Nat → Int32} {nm : String} {o i m : Nat} {Φ : Option Value → HP → Prop} {h : HP} {cap : Nat → Nat} {A : Nat → Int} {ia : Nat → Nat → Int} {la : Nat → Nat → BitVec 64} {fi : Nat → Int} {fl : Nat → BitVec 64} {L R C rc rs : Nat} (hL : L0 ≤ 3072) (hi : i + 6 ≤ L0) (N : NX sb L0 xs nm o i m Φ) (I : LI o h cap A ia la fi fl L R C) (r1 : 200 * (m + 1) + (426168 - smC cap) ≤ rc) (r2 : 8300 * (m + 1) + 2 * (426168 - smC cap) ≤ rs) : wl sb L0 xs (mLaw nm) 2090 [.ref sb, .ref o, .ref (o + 60), .int (zI (i : Int))] [] h rc rs Φ := by
  obtain ⟨H, hr⟩ := I
  have hT := cls_top H
  obtain ⟨c, sa, si, sl, hX⟩ := H.vx
  have hcp := cls_cap H
  have hx := ad_pd H (x_about H (ok32_of (xs (i + 1))))
  refine vw_aload_n dL_law_2090 rfl rfl ?_
  refine vw_aload_n dL_law_2091 rfl rfl ?_
  refine vw_iload_n dL_law_2092 rfl rfl ?_
  refine vw_iconst dL_law_2093 ?_
  refine vw_iadd dL_law_2094 ?_
  refine v_sld (i + 1) (by omega) (by omega) hL dL_law_2095 ?_
  refine vw_callV (Z := mX9_about) (As := [_]) hx (cls_o H) rfl kX9_about lL_297 iX9_about vX9_about dL_law_2096 rfl rfl rfl (Nat.le_of_ble_eq_true rfl) ⟨Nat.le_of_ble_eq_true rfl, Nat.le_of_ble_eq_true rfl⟩ (by omega) (by omega) (fun v h1 q => ?_)
  obtain ⟨rfl, hF, L1, R1, C1, H1⟩ := q
  have hc1 := cls_cap H1
  have hr1 := li_frm hr hF
  have hz := ad_pr (c_about (r := o + 60) (A := A) (ia := ia) (la := la) (fi := fi) (fl := fl) (h0 := h1) hT (ok32_of (xs (i + 1))))
  refine vw_aload_n dL_law_2099 rfl rfl ?_
  refine vw_aload_n dL_law_2100 rfl rfl ?_
  refine vw_iload_n dL_law_2101 rfl rfl ?_
  refine vw_iconst dL_law_2102 ?_
  refine vw_iadd dL_law_2103 ?_
  refine v_sld (i + 1) (by omega) (by omega) hL dL_law_2104 ?_
  refine v_cast (h' := RH (o + 60) A ia la fi fl h1) rfl rfl (RHP.self hr1).symm ?_
  refine vw_callV (Z := mX10_about) (As := [_]) hz RH0 rfl kX10_about lL_300 iX10_about vX10_about dL_law_2105 rfl rfl rfl (Nat.le_of_ble_eq_true rfl) ⟨Nat.le_of_ble_eq_true rfl, Nat.le_of_ble_eq_true rfl⟩ (Nat.zero_le _) (Nat.zero_le _) (fun v h2 q => ?_)
  obtain ⟨rfl, ia', la', fi', fl', e⟩ := q
  refine v_sameI 2113 dL_law_2108 (by decide) ?_
  exact nx_go N H1 e (by omega) (by omega)
