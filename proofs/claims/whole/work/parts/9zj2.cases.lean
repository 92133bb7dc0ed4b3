/-! the law: its cases, 3 -/
set_option maxRecDepth 4000 in
theorem lc_turned {sb L0 : Nat} {xs : Nat → Int32} {nm : String} {o i m : Nat} {Φ : Option Value → HP → Prop} {h : HP} {cap : Nat → Nat} {A : Nat → Int} {ia : Nat → Nat → Int} {la : Nat → Nat → BitVec 64} {fi : Nat → Int} {fl : Nat → BitVec 64} {L R C rc rs : Nat} (hL : L0 ≤ 3072) (hi : i + 6 ≤ L0) (N : NX sb L0 xs nm o i m Φ) (I : LI o h cap A ia la fi fl L R C) (r1 : 200 * (m + 1) + (426168 - smC cap) ≤ rc) (r2 : 8300 * (m + 1) + 2 * (426168 - smC cap) ≤ rs) : wl sb L0 xs (mLaw nm) 1059 [.ref sb, .ref o, .ref (o + 60), .int (zI (i : Int))] [] h rc rs Φ := by
  obtain ⟨H, hr⟩ := I
  have hT := cls_top H
  obtain ⟨c, sa, si, sl, hX⟩ := H.vx
  have hcp := cls_cap H
  have hx := ad_pd H (x_turned hX.vw (ok32_of (xs (i + 1))))
  refine vw_aload_n dL_law_1059 rfl rfl ?_
  refine vw_aload_n dL_law_1060 rfl rfl ?_
  refine vw_iload_n dL_law_1061 rfl rfl ?_
  refine vw_iconst dL_law_1062 ?_
  refine vw_iadd dL_law_1063 ?_
  refine v_sld (i + 1) (by omega) (by omega) hL dL_law_1064 ?_
  refine vw_callV (Z := mX9_turned) (As := [_]) hx (cls_o H) rfl kX9_turned lL_127 iX9_turned vX9_turned dL_law_1065 rfl rfl rfl (Nat.le_of_ble_eq_true rfl) ⟨Nat.le_of_ble_eq_true rfl, Nat.le_of_ble_eq_true rfl⟩ (by omega) (by omega) (fun v h1 q => ?_)
  obtain ⟨rfl, hF, L1, R1, C1, H1⟩ := q
  have hc1 := cls_cap H1
  have hr1 := li_frm hr hF
  have hz := ad_pr (c_turned (r := o + 60) (A := A) (ia := ia) (la := la) (fi := fi) (fl := fl) (h0 := h1) hT (ok32_of (xs (i + 1))))
  refine vw_aload_n dL_law_1068 rfl rfl ?_
  refine vw_aload_n dL_law_1069 rfl rfl ?_
  refine vw_iload_n dL_law_1070 rfl rfl ?_
  refine vw_iconst dL_law_1071 ?_
  refine vw_iadd dL_law_1072 ?_
  refine v_sld (i + 1) (by omega) (by omega) hL dL_law_1073 ?_
  refine v_cast (h' := RH (o + 60) A ia la fi fl h1) rfl rfl (RHP.self hr1).symm ?_
  refine vw_callV (Z := mX10_turned) (As := [_]) hz RH0 rfl kX10_turned lL_130 iX10_turned vX10_turned dL_law_1074 rfl rfl rfl (Nat.le_of_ble_eq_true rfl) ⟨Nat.le_of_ble_eq_true rfl, Nat.le_of_ble_eq_true rfl⟩ (Nat.zero_le _) (Nat.zero_le _) (fun v h2 q => ?_)
  obtain ⟨rfl, ia', la', fi', fl', e⟩ := q
  refine v_sameI 2113 dL_law_1077 (by decide) ?_
  exact nx_go N H1 e (by omega) (by omega)
set_option maxRecDepth 4000 in
theorem lc_restless {sb L0 : Nat} {xs : Nat → Int32} {nm : String} {o i m : Nat} {Φ : Option Value → HP → Prop} {h : HP} {cap : Nat → Nat} {A : Nat → Int} {ia : Nat → Nat → Int} {la : Nat → Nat → BitVec 64} {fi : Nat → Int} {fl : Nat → BitVec 64} {L R C rc rs : Nat} (hL : L0 ≤ 3072) (hi : i + 6 ≤ L0) (N : NX sb L0 xs nm o i m Φ) (I : LI o h cap A ia la fi fl L R C) (r1 : 200 * (m + 1) + (426168 - smC cap) ≤ rc) (r2 : 8300 * (m + 1) + 2 * (426168 - smC cap) ≤ rs) : wl sb L0 xs (mLaw nm) 1082 [.ref sb, .ref o, .ref (o + 60), .int (zI (i : Int))] [] h rc rs Φ := by
  obtain ⟨H, hr⟩ := I
  have hT := cls_top H
  obtain ⟨c, sa, si, sl, hX⟩ := H.vx
  have hcp := cls_cap H
  have hx := ad_pd H (x_restless hX.vw )
  refine vw_aload_n dL_law_1082 rfl rfl ?_
  refine vw_callV (Z := mX9_restless) (As := []) hx (cls_o H) rfl kX9_restless lL_131 iX9_restless vX9_restless dL_law_1083 rfl rfl rfl (Nat.le_of_ble_eq_true rfl) ⟨Nat.le_of_ble_eq_true rfl, Nat.le_of_ble_eq_true rfl⟩ (by omega) (by omega) (fun v h1 q => ?_)
  obtain ⟨rfl, hF, L1, R1, C1, H1⟩ := q
  have hc1 := cls_cap H1
  have hr1 := li_frm hr hF
  have hz := ad_pr (c_restless (r := o + 60) (A := A) (ia := ia) (la := la) (fi := fi) (fl := fl) (h0 := h1) hT )
  refine vw_aload_n dL_law_1086 rfl rfl ?_
  refine v_cast (h' := RH (o + 60) A ia la fi fl h1) rfl rfl (RHP.self hr1).symm ?_
  refine vw_callV (Z := mX10_restless) (As := []) hz RH0 rfl kX10_restless lL_134 iX10_restless vX10_restless dL_law_1087 rfl rfl rfl (Nat.le_of_ble_eq_true rfl) ⟨Nat.le_of_ble_eq_true rfl, Nat.le_of_ble_eq_true rfl⟩ (Nat.zero_le _) (Nat.zero_le _) (fun v h2 q => ?_)
  obtain ⟨rfl, ia', la', fi', fl', e⟩ := q
  refine v_sameI 2113 dL_law_1090 (by decide) ?_
  exact nx_go N H1 e (by omega) (by omega)
set_option maxRecDepth 4000 in
theorem lc_guess {sb L0 : Nat} {xs : Nat → Int32} {nm : String} {o i m : Nat} {Φ : Option Value → HP → Prop} {h : HP} {cap : Nat → Nat} {A : Nat → Int} {ia : Nat → Nat → Int} {la : Nat → Nat → BitVec 64} {fi : Nat → Int} {fl : Nat → BitVec 64} {L R C rc rs : Nat} (hL : L0 ≤ 3072) (hi : i + 6 ≤ L0) (N : NX sb L0 xs nm o i m Φ) (I : LI o h cap A ia la fi fl L R C) (r1 : 200 * (m + 1) + (426168 - smC cap) ≤ rc) (r2 : 8300 * (m + 1) + 2 * (426168 - smC cap) ≤ rs) : wl sb L0 xs (mLaw nm) 1095 [.ref sb, .ref o, .ref (o + 60), .int (zI (i : Int))] [] h rc rs Φ := by
  obtain ⟨H, hr⟩ := I
  have hT := cls_top H
  obtain ⟨c, sa, si, sl, hX⟩ := H.vx
  have hcp := cls_cap H
  have hx := ad_pd H (x_guess hX.vw )
  refine vw_aload_n dL_law_1095 rfl rfl ?_
  refine vw_callV (Z := mX9_guess) (As := []) hx (cls_o H) rfl kX9_guess lL_135 iX9_guess vX9_guess dL_law_1096 rfl rfl rfl (Nat.le_of_ble_eq_true rfl) ⟨Nat.le_of_ble_eq_true rfl, Nat.le_of_ble_eq_true rfl⟩ (by omega) (by omega) (fun v h1 q => ?_)
  obtain ⟨rfl, hF, L1, R1, C1, H1⟩ := q
  have hc1 := cls_cap H1
  have hr1 := li_frm hr hF
  have hz := ad_pr (c_guess (r := o + 60) (A := A) (ia := ia) (la := la) (fi := fi) (fl := fl) (h0 := h1) hT )
  refine vw_aload_n dL_law_1099 rfl rfl ?_
  refine v_cast (h' := RH (o + 60) A ia la fi fl h1) rfl rfl (RHP.self hr1).symm ?_
  refine vw_callV (Z := mX10_guess) (As := []) hz RH0 rfl kX10_guess lL_138 iX10_guess vX10_guess dL_law_1100 rfl rfl rfl (Nat.le_of_ble_eq_true rfl) ⟨Nat.le_of_ble_eq_true rfl, Nat.le_of_ble_eq_true rfl⟩ (Nat.zero_le _) (Nat.zero_le _) (fun v h2 q => ?_)
  obtain ⟨rfl, ia', la', fi', fl', e⟩ := q
  refine v_sameL 2113 dL_law_1103 dL_law_1104 (by decide) ?_
  exact nx_go N H1 e (by omega) (by omega)
set_option maxRecDepth 4000 in
theorem lc_sent {sb L0 : Nat} {xs : Nat → Int32} {nm : String} {o i m : Nat} {Φ : Option Value → HP → Prop} {h : HP} {cap : Nat → Nat} {A : Nat → Int} {ia : Nat → Nat → Int} {la : Nat → Nat → BitVec 64} {fi : Nat → Int} {fl : Nat → BitVec 64} {L R C rc rs : Nat} (hL : L0 ≤ 3072) (hi : i + 6 ≤ L0) (N : NX sb L0 xs nm o i m Φ) (I : LI o h cap A ia la fi fl L R C) (r1 : 200 * (m + 1) + (426168 - smC cap) ≤ rc) (r2 : 8300 * (m + 1) + 2 * (426168 - smC cap) ≤ rs) : wl sb L0 xs (mLaw nm) 1109 [.ref sb, .ref o, .ref (o + 60), .int (zI (i : Int))] [] h rc rs Φ := by
  obtain ⟨H, hr⟩ := I
  have hT := cls_top H
  obtain ⟨c, sa, si, sl, hX⟩ := H.vx
  have hcp := cls_cap H
  have hx := ad_pd H (x_sent hX.vw )
  refine vw_aload_n dL_law_1109 rfl rfl ?_
  refine vw_callV (Z := mX9_sent) (As := []) hx (cls_o H) rfl kX9_sent lL_139 iX9_sent vX9_sent dL_law_1110 rfl rfl rfl (Nat.le_of_ble_eq_true rfl) ⟨Nat.le_of_ble_eq_true rfl, Nat.le_of_ble_eq_true rfl⟩ (by omega) (by omega) (fun v h1 q => ?_)
  obtain ⟨rfl, hF, L1, R1, C1, H1⟩ := q
  have hc1 := cls_cap H1
  have hr1 := li_frm hr hF
  have hz := ad_pr (c_sent (r := o + 60) (A := A) (ia := ia) (la := la) (fi := fi) (fl := fl) (h0 := h1) hT )
  refine vw_aload_n dL_law_1113 rfl rfl ?_
  refine v_cast (h' := RH (o + 60) A ia la fi fl h1) rfl rfl (RHP.self hr1).symm ?_
  refine vw_callV (Z := mX10_sent) (As := []) hz RH0 rfl kX10_sent lL_142 iX10_sent vX10_sent dL_law_1114 rfl rfl rfl (Nat.le_of_ble_eq_true rfl) ⟨Nat.le_of_ble_eq_true rfl, Nat.le_of_ble_eq_true rfl⟩ (Nat.zero_le _) (Nat.zero_le _) (fun v h2 q => ?_)
  obtain ⟨rfl, ia', la', fi', fl', e⟩ := q
  refine v_sameL 2113 dL_law_1117 dL_law_1118 (by decide) ?_
  exact nx_go N H1 e (by omega) (by omega)
set_option maxRecDepth 4000 in
theorem lc_wrong {sb L0 : Nat} {xs : Nat → Int32} {nm : String} {o i m : Nat} {Φ : Option Value → HP → Prop} {h : HP} {cap : Nat → Nat} {A : Nat → Int} {ia : Nat → Nat → Int} {la : Nat → Nat → BitVec 64} {fi : Nat → Int} {fl : Nat → BitVec 64} {L R C rc rs : Nat} (hL : L0 ≤ 3072) (hi : i + 6 ≤ L0) (N : NX sb L0 xs nm o i m Φ) (I : LI o h cap A ia la fi fl L R C) (r1 : 200 * (m + 1) + (426168 - smC cap) ≤ rc) (r2 : 8300 * (m + 1) + 2 * (426168 - smC cap) ≤ rs) : wl sb L0 xs (mLaw nm) 1123 [.ref sb, .ref o, .ref (o + 60), .int (zI (i : Int))] [] h rc rs Φ := by
  obtain ⟨H, hr⟩ := I
  have hT := cls_top H
  obtain ⟨c, sa, si, sl, hX⟩ := H.vx
  have hcp := cls_cap H
  have hx := ad_pd H (x_wrong hX.vw )
  refine vw_aload_n dL_law_1123 rfl rfl ?_
  refine vw_callV (Z := mX9_wrong) (As := []) hx (cls_o H) rfl kX9_wrong lL_143 iX9_wrong vX9_wrong dL_law_1124 rfl rfl rfl (Nat.le_of_ble_eq_true rfl) ⟨Nat.le_of_ble_eq_true rfl, Nat.le_of_ble_eq_true rfl⟩ (by omega) (by omega) (fun v h1 q => ?_)
  obtain ⟨rfl, hF, L1, R1, C1, H1⟩ := q
  have hc1 := cls_cap H1
  have hr1 := li_frm hr hF
  have hz := ad_pr (c_wrong (r := o + 60) (A := A) (ia := ia) (la := la) (fi := fi) (fl := fl) (h0 := h1) hT )
  refine vw_aload_n dL_law_1127 rfl rfl ?_
  refine v_cast (h' := RH (o + 60) A ia la fi fl h1) rfl rfl (RHP.self hr1).symm ?_
  refine vw_callV (Z := mX10_wrong) (As := []) hz RH0 rfl kX10_wrong lL_146 iX10_wrong vX10_wrong dL_law_1128 rfl rfl rfl (Nat.le_of_ble_eq_true rfl) ⟨Nat.le_of_ble_eq_true rfl, Nat.le_of_ble_eq_true rfl⟩ (Nat.zero_le _) (Nat.zero_le _) (fun v h2 q => ?_)
  obtain ⟨rfl, ia', la', fi', fl', e⟩ := q
  refine v_sameI 2113 dL_law_1131 (by decide) ?_
  exact nx_go N H1 e (by omega) (by omega)
set_option maxRecDepth 4000 in
theorem lc_rank {sb L0 : Nat} {xs : Nat → Int32} {nm : String} {o i m : Nat} {Φ : Option Value → HP → Prop} {h : HP} {cap : Nat → Nat} {A : Nat → Int} {ia : Nat → Nat → Int} {la : Nat → Nat → BitVec 64} {fi : Nat → Int} {fl : Nat → BitVec 64} {L R C rc rs : Nat} (hL : L0 ≤ 3072) (hi : i + 6 ≤ L0) (N : NX sb L0 xs nm o i m Φ) (I : LI o h cap A ia la fi fl L R C) (r1 : 200 * (m + 1) + (426168 - smC cap) ≤ rc) (r2 : 8300 * (m + 1) + 2 * (426168 - smC cap) ≤ rs) : wl sb L0 xs (mLaw nm) 1136 [.ref sb, .ref o, .ref (o + 60), .int (zI (i : Int))] [] h rc rs Φ := by
  obtain ⟨H, hr⟩ := I
  have hT := cls_top H
  obtain ⟨c, sa, si, sl, hX⟩ := H.vx
  have hcp := cls_cap H
  have hx := ad_pd H (x_rank (q0 := la 6) hX.vw )
  refine vw_aload_n dL_law_1136 rfl rfl ?_
  refine vw_callV (Z := mX9_rank) (As := []) hx (cls_o H) rfl kX9_rank lL_147 iX9_rank vX9_rank dL_law_1137 rfl rfl rfl (Nat.le_of_ble_eq_true rfl) ⟨Nat.le_of_ble_eq_true rfl, Nat.le_of_ble_eq_true rfl⟩ (by omega) (by omega) (fun v h1 q => ?_)
  obtain ⟨rfl, hF, L1, R1, C1, H1⟩ := q
  have hc1 := cls_cap H1
  have hr1 := li_frm hr hF
  have hz := ad_pr (c_rank (r := o + 60) (A := A) (ia := ia) (la := la) (fi := fi) (fl := fl) (h0 := h1) hT )
  refine vw_aload_n dL_law_1140 rfl rfl ?_
  refine v_cast (h' := RH (o + 60) A ia la fi fl h1) rfl rfl (RHP.self hr1).symm ?_
  refine vw_callV (Z := mX10_rank) (As := []) hz RH0 rfl kX10_rank lL_150 iX10_rank vX10_rank dL_law_1141 rfl rfl rfl (Nat.le_of_ble_eq_true rfl) ⟨Nat.le_of_ble_eq_true rfl, Nat.le_of_ble_eq_true rfl⟩ (Nat.zero_le _) (Nat.zero_le _) (fun v h2 q => ?_)
  obtain ⟨rfl, ia', la', fi', fl', e⟩ := q
  refine v_sameI 2113 dL_law_1144 (by decide) ?_
  exact nx_go N H1 e (by omega) (by omega)
set_option maxRecDepth 4000 in
theorem lc_carrier {sb L0 : Nat} {xs : Nat → Int32} {nm : String} {o i m : Nat} {Φ : Option Value → HP → Prop} {h : HP} {cap : Nat → Nat} {A : Nat → Int} {ia : Nat → Nat → Int} {la : Nat → Nat → BitVec 64} {fi : Nat → Int} {fl : Nat → BitVec 64} {L R C rc rs : Nat} (hL : L0 ≤ 3072) (hi : i + 6 ≤ L0) (N : NX sb L0 xs nm o i m Φ) (I : LI o h cap A ia la fi fl L R C) (r1 : 200 * (m + 1) + (426168 - smC cap) ≤ rc) (r2 : 8300 * (m + 1) + 2 * (426168 - smC cap) ≤ rs) : wl sb L0 xs (mLaw nm) 1149 [.ref sb, .ref o, .ref (o + 60), .int (zI (i : Int))] [] h rc rs Φ := by
  obtain ⟨H, hr⟩ := I
  have hT := cls_top H
  obtain ⟨c, sa, si, sl, hX⟩ := H.vx
  have hcp := cls_cap H
  have hx := ad_pd H (x_carrier (q0 := la 6) hX.vw (ok32_of (xs (i + 1))))
  refine vw_aload_n dL_law_1149 rfl rfl ?_
  refine vw_aload_n dL_law_1150 rfl rfl ?_
  refine vw_iload_n dL_law_1151 rfl rfl ?_
  refine vw_iconst dL_law_1152 ?_
  refine vw_iadd dL_law_1153 ?_
  refine v_sld (i + 1) (by omega) (by omega) hL dL_law_1154 ?_
  refine vw_callV (Z := mX9_carrier) (As := [_]) hx (cls_o H) rfl kX9_carrier lL_151 iX9_carrier vX9_carrier dL_law_1155 rfl rfl rfl (Nat.le_of_ble_eq_true rfl) ⟨Nat.le_of_ble_eq_true rfl, Nat.le_of_ble_eq_true rfl⟩ (by omega) (by omega) (fun v h1 q => ?_)
  obtain ⟨rfl, hF, L1, R1, C1, H1⟩ := q
  have hc1 := cls_cap H1
  have hr1 := li_frm hr hF
  have hz := ad_pr (c_carrier (r := o + 60) (A := A) (ia := ia) (la := la) (fi := fi) (fl := fl) (h0 := h1) hT (ok32_of (xs (i + 1))))
  refine vw_aload_n dL_law_1158 rfl rfl ?_
  refine vw_aload_n dL_law_1159 rfl rfl ?_
  refine vw_iload_n dL_law_1160 rfl rfl ?_
  refine vw_iconst dL_law_1161 ?_
  refine vw_iadd dL_law_1162 ?_
  refine v_sld (i + 1) (by omega) (by omega) hL dL_law_1163 ?_
  refine v_cast (h' := RH (o + 60) A ia la fi fl h1) rfl rfl (RHP.self hr1).symm ?_
  refine vw_callV (Z := mX10_carrier) (As := [_]) hz RH0 rfl kX10_carrier lL_154 iX10_carrier vX10_carrier dL_law_1164 rfl rfl rfl (Nat.le_of_ble_eq_true rfl) ⟨Nat.le_of_ble_eq_true rfl, Nat.le_of_ble_eq_true rfl⟩ (Nat.zero_le _) (Nat.zero_le _) (fun v h2 q => ?_)
  obtain ⟨rfl, ia', la', fi', fl', e⟩ := q
  refine v_sameI 2113 dL_law_1167 (by decide) ?_
  exact nx_go N H1 e (by omega) (by omega)
set_option maxRecDepth 4000 in
theorem lc_girth {sb L0 : Nat} {xs : Nat → Int32} {nm : String} {o i m : Nat} {Φ : Option Value → HP → Prop} {h : HP} {cap : Nat → Nat} {A : Nat → Int} {ia : Nat → Nat → Int} {la : Nat → Nat → BitVec 64} {fi : Nat → Int} {fl : Nat → BitVec 64} {L R C rc rs : Nat} (hL : L0 ≤ 3072) (hi : i + 6 ≤ L0) (N : NX sb L0 xs nm o i m Φ) (I : LI o h cap A ia la fi fl L R C) (r1 : 200 * (m + 1) + (426168 - smC cap) ≤ rc) (r2 : 8300 * (m + 1) + 2 * (426168 - smC cap) ≤ rs) : wl sb L0 xs (mLaw nm) 1172 [.ref sb, .ref o, .ref (o + 60), .int (zI (i : Int))] [] h rc rs Φ := by
  obtain ⟨H, hr⟩ := I
  have hT := cls_top H
  obtain ⟨c, sa, si, sl, hX⟩ := H.vx
  have hcp := cls_cap H
  have hx := ad_pd H (x_girth hX.vw )
  refine vw_aload_n dL_law_1172 rfl rfl ?_
  refine vw_callV (Z := mX9_girth) (As := []) hx (cls_o H) rfl kX9_girth lL_155 iX9_girth vX9_girth dL_law_1173 rfl rfl rfl (Nat.le_of_ble_eq_true rfl) ⟨Nat.le_of_ble_eq_true rfl, Nat.le_of_ble_eq_true rfl⟩ (by omega) (by omega) (fun v h1 q => ?_)
  obtain ⟨rfl, hF, L1, R1, C1, H1⟩ := q
  have hc1 := cls_cap H1
  have hr1 := li_frm hr hF
  have hz := ad_pr (c_girth (r := o + 60) (A := A) (ia := ia) (la := la) (fi := fi) (fl := fl) (h0 := h1) hT )
  refine vw_aload_n dL_law_1176 rfl rfl ?_
  refine v_cast (h' := RH (o + 60) A ia la fi fl h1) rfl rfl (RHP.self hr1).symm ?_
  refine vw_callV (Z := mX10_girth) (As := []) hz RH0 rfl kX10_girth lL_158 iX10_girth vX10_girth dL_law_1177 rfl rfl rfl (Nat.le_of_ble_eq_true rfl) ⟨Nat.le_of_ble_eq_true rfl, Nat.le_of_ble_eq_true rfl⟩ (Nat.zero_le _) (Nat.zero_le _) (fun v h2 q => ?_)
  obtain ⟨rfl, ia', la', fi', fl', e⟩ := q
  refine v_sameI 2113 dL_law_1180 (by decide) ?_
  exact nx_go N H1 e (by omega) (by omega)
set_option maxRecDepth 4000 in
theorem lc_fours {sb L0 : Nat} {xs : Nat → Int32} {nm : String} {o i m : Nat} {Φ : Option Value → HP → Prop} {h : HP} {cap : Nat → Nat} {A : Nat → Int} {ia : Nat → Nat → Int} {la : Nat → Nat → BitVec 64} {fi : Nat → Int} {fl : Nat → BitVec 64} {L R C rc rs : Nat} (hL : L0 ≤ 3072) (hi : i + 6 ≤ L0) (N : NX sb L0 xs nm o i m Φ) (I : LI o h cap A ia la fi fl L R C) (r1 : 200 * (m + 1) + (426168 - smC cap) ≤ rc) (r2 : 8300 * (m + 1) + 2 * (426168 - smC cap) ≤ rs) : wl sb L0 xs (mLaw nm) 1185 [.ref sb, .ref o, .ref (o + 60), .int (zI (i : Int))] [] h rc rs Φ := by
  obtain ⟨H, hr⟩ := I
  have hT := cls_top H
  obtain ⟨c, sa, si, sl, hX⟩ := H.vx
  have hcp := cls_cap H
  have hx := ad_pd H (x_fours hX.vw )
  refine vw_aload_n dL_law_1185 rfl rfl ?_
  refine vw_callV (Z := mX9_fours) (As := []) hx (cls_o H) rfl kX9_fours lL_159 iX9_fours vX9_fours dL_law_1186 rfl rfl rfl (Nat.le_of_ble_eq_true rfl) ⟨Nat.le_of_ble_eq_true rfl, Nat.le_of_ble_eq_true rfl⟩ (by omega) (by omega) (fun v h1 q => ?_)
  obtain ⟨rfl, hF, L1, R1, C1, H1⟩ := q
  have hc1 := cls_cap H1
  have hr1 := li_frm hr hF
  have hz := ad_pr (c_fours (r := o + 60) (A := A) (ia := ia) (la := la) (fi := fi) (fl := fl) (h0 := h1) hT )
  refine vw_aload_n dL_law_1189 rfl rfl ?_
  refine v_cast (h' := RH (o + 60) A ia la fi fl h1) rfl rfl (RHP.self hr1).symm ?_
  refine vw_callV (Z := mX10_fours) (As := []) hz RH0 rfl kX10_fours lL_162 iX10_fours vX10_fours dL_law_1190 rfl rfl rfl (Nat.le_of_ble_eq_true rfl) ⟨Nat.le_of_ble_eq_true rfl, Nat.le_of_ble_eq_true rfl⟩ (Nat.zero_le _) (Nat.zero_le _) (fun v h2 q => ?_)
  obtain ⟨rfl, ia', la', fi', fl', e⟩ := q
  refine v_sameI 2113 dL_law_1193 (by decide) ?_
  exact nx_go N H1 e (by omega) (by omega)
set_option maxRecDepth 4000 in
theorem lc_sixes {sb L0 : Nat} {xs : Nat → Int32} {nm : String} {o i m : Nat} {Φ : Option Value → HP → Prop} {h : HP} {cap : Nat → Nat} {A : Nat → Int} {ia : Nat → Nat → Int} {la : Nat → Nat → BitVec 64} {fi : Nat → Int} {fl : Nat → BitVec 64} {L R C rc rs : Nat} (hL : L0 ≤ 3072) (hi : i + 6 ≤ L0) (N : NX sb L0 xs nm o i m Φ) (I : LI o h cap A ia la fi fl L R C) (r1 : 200 * (m + 1) + (426168 - smC cap) ≤ rc) (r2 : 8300 * (m + 1) + 2 * (426168 - smC cap) ≤ rs) : wl sb L0 xs (mLaw nm) 1198 [.ref sb, .ref o, .ref (o + 60), .int (zI (i : Int))] [] h rc rs Φ := by
  obtain ⟨H, hr⟩ := I
  have hT := cls_top H
  obtain ⟨c, sa, si, sl, hX⟩ := H.vx
  have hcp := cls_cap H
  have hx := ad_pd H (x_sixes hX.vw )
  refine vw_aload_n dL_law_1198 rfl rfl ?_
  refine vw_callV (Z := mX9_sixes) (As := []) hx (cls_o H) rfl kX9_sixes lL_163 iX9_sixes vX9_sixes dL_law_1199 rfl rfl rfl (Nat.le_of_ble_eq_true rfl) ⟨Nat.le_of_ble_eq_true rfl, Nat.le_of_ble_eq_true rfl⟩ (by omega) (by omega) (fun v h1 q => ?_)
  obtain ⟨rfl, hF, L1, R1, C1, H1⟩ := q
  have hc1 := cls_cap H1
  have hr1 := li_frm hr hF
  have hz := ad_pr (c_sixes (r := o + 60) (A := A) (ia := ia) (la := la) (fi := fi) (fl := fl) (h0 := h1) hT )
  refine vw_aload_n dL_law_1202 rfl rfl ?_
  refine v_cast (h' := RH (o + 60) A ia la fi fl h1) rfl rfl (RHP.self hr1).symm ?_
  refine vw_callV (Z := mX10_sixes) (As := []) hz RH0 rfl kX10_sixes lL_166 iX10_sixes vX10_sixes dL_law_1203 rfl rfl rfl (Nat.le_of_ble_eq_true rfl) ⟨Nat.le_of_ble_eq_true rfl, Nat.le_of_ble_eq_true rfl⟩ (Nat.zero_le _) (Nat.zero_le _) (fun v h2 q => ?_)
  obtain ⟨rfl, ia', la', fi', fl', e⟩ := q
  refine v_sameI 2113 dL_law_1206 (by decide) ?_
  exact nx_go N H1 e (by omega) (by omega)
set_option maxRecDepth 4000 in
theorem lc_path {sb L0 : Nat} {xs : Nat → Int32} {nm : String} {o i m : Nat} {Φ : Option Value → HP → Prop} {h : HP} {cap : Nat → Nat} {A : Nat → Int} {ia : Nat → Nat → Int} {la : Nat → Nat → BitVec 64} {fi : Nat → Int} {fl : Nat → BitVec 64} {L R C rc rs : Nat} (hL : L0 ≤ 3072) (hi : i + 6 ≤ L0) (N : NX sb L0 xs nm o i m Φ) (I : LI o h cap A ia la fi fl L R C) (r1 : 200 * (m + 1) + (426168 - smC cap) ≤ rc) (r2 : 8300 * (m + 1) + 2 * (426168 - smC cap) ≤ rs) : wl sb L0 xs (mLaw nm) 1211 [.ref sb, .ref o, .ref (o + 60), .int (zI (i : Int))] [] h rc rs Φ := by
  obtain ⟨H, hr⟩ := I
  have hT := cls_top H
  obtain ⟨c, sa, si, sl, hX⟩ := H.vx
  have hcp := cls_cap H
  have hx := ad_pd H (x_path hX.vw (ok32_of (xs (i + 1))) (ok32_of (xs (i + 2))))
  refine vw_aload_n dL_law_1211 rfl rfl ?_
  refine vw_aload_n dL_law_1212 rfl rfl ?_
  refine vw_iload_n dL_law_1213 rfl rfl ?_
  refine vw_iconst dL_law_1214 ?_
  refine vw_iadd dL_law_1215 ?_
  refine v_sld (i + 1) (by omega) (by omega) hL dL_law_1216 ?_
  refine vw_aload_n dL_law_1217 rfl rfl ?_
  refine vw_iload_n dL_law_1218 rfl rfl ?_
  refine vw_iconst dL_law_1219 ?_
  refine vw_iadd dL_law_1220 ?_
  refine v_sld (i + 2) (by omega) (by omega) hL dL_law_1221 ?_
  refine vw_callV (Z := mX9_path) (As := [_, _]) hx (cls_o H) rfl kX9_path lL_167 iX9_path vX9_path dL_law_1222 rfl rfl rfl (Nat.le_of_ble_eq_true rfl) ⟨Nat.le_of_ble_eq_true rfl, Nat.le_of_ble_eq_true rfl⟩ (by omega) (by omega) (fun v h1 q => ?_)
  obtain ⟨rfl, hF, L1, R1, C1, H1⟩ := q
  have hc1 := cls_cap H1
  have hr1 := li_frm hr hF
  have hz := ad_pr (c_path (r := o + 60) (A := A) (ia := ia) (la := la) (fi := fi) (fl := fl) (h0 := h1) hT (ok32_of (xs (i + 1))) (ok32_of (xs (i + 2))))
  refine vw_aload_n dL_law_1225 rfl rfl ?_
  refine vw_aload_n dL_law_1226 rfl rfl ?_
  refine vw_iload_n dL_law_1227 rfl rfl ?_
  refine vw_iconst dL_law_1228 ?_
  refine vw_iadd dL_law_1229 ?_
  refine v_sld (i + 1) (by omega) (by omega) hL dL_law_1230 ?_
  refine vw_aload_n dL_law_1231 rfl rfl ?_
  refine vw_iload_n dL_law_1232 rfl rfl ?_
  refine vw_iconst dL_law_1233 ?_
  refine vw_iadd dL_law_1234 ?_
  refine v_sld (i + 2) (by omega) (by omega) hL dL_law_1235 ?_
  refine v_cast (h' := RH (o + 60) A ia la fi fl h1) rfl rfl (RHP.self hr1).symm ?_
  refine vw_callV (Z := mX10_path) (As := [_, _]) hz RH0 rfl kX10_path lL_170 iX10_path vX10_path dL_law_1236 rfl rfl rfl (Nat.le_of_ble_eq_true rfl) ⟨Nat.le_of_ble_eq_true rfl, Nat.le_of_ble_eq_true rfl⟩ (Nat.zero_le _) (Nat.zero_le _) (fun v h2 q => ?_)
  obtain ⟨rfl, ia', la', fi', fl', e⟩ := q
  refine v_sameI 2113 dL_law_1239 (by decide) ?_
  exact nx_go N H1 e (by omega) (by omega)
set_option maxRecDepth 4000 in
theorem lc_pieces {sb L0 : Nat} {xs : Nat → Int32} {nm : String} {o i m : Nat} {Φ : Option Value → HP → Prop} {h : HP} {cap : Nat → Nat} {A : Nat → Int} {ia : Nat → Nat → Int} {la : Nat → Nat → BitVec 64} {fi : Nat → Int} {fl : Nat → BitVec 64} {L R C rc rs : Nat} (hL : L0 ≤ 3072) (hi : i + 6 ≤ L0) (N : NX sb L0 xs nm o i m Φ) (I : LI o h cap A ia la fi fl L R C) (r1 : 200 * (m + 1) + (426168 - smC cap) ≤ rc) (r2 : 8300 * (m + 1) + 2 * (426168 - smC cap) ≤ rs) : wl sb L0 xs (mLaw nm) 1244 [.ref sb, .ref o, .ref (o + 60), .int (zI (i : Int))] [] h rc rs Φ := by
  obtain ⟨H, hr⟩ := I
  have hT := cls_top H
  obtain ⟨c, sa, si, sl, hX⟩ := H.vx
  have hcp := cls_cap H
  have hx := ad_pd H (x_pieces hX.vw )
  refine vw_aload_n dL_law_1244 rfl rfl ?_
  refine vw_callV (Z := mX9_pieces) (As := []) hx (cls_o H) rfl kX9_pieces lL_171 iX9_pieces vX9_pieces dL_law_1245 rfl rfl rfl (Nat.le_of_ble_eq_true rfl) ⟨Nat.le_of_ble_eq_true rfl, Nat.le_of_ble_eq_true rfl⟩ (by omega) (by omega) (fun v h1 q => ?_)
  obtain ⟨rfl, hF, L1, R1, C1, H1⟩ := q
  have hc1 := cls_cap H1
  have hr1 := li_frm hr hF
  have hz := ad_pr (c_pieces (r := o + 60) (A := A) (ia := ia) (la := la) (fi := fi) (fl := fl) (h0 := h1) hT )
  refine vw_aload_n dL_law_1248 rfl rfl ?_
  refine v_cast (h' := RH (o + 60) A ia la fi fl h1) rfl rfl (RHP.self hr1).symm ?_
  refine vw_callV (Z := mX10_pieces) (As := []) hz RH0 rfl kX10_pieces lL_174 iX10_pieces vX10_pieces dL_law_1249 rfl rfl rfl (Nat.le_of_ble_eq_true rfl) ⟨Nat.le_of_ble_eq_true rfl, Nat.le_of_ble_eq_true rfl⟩ (Nat.zero_le _) (Nat.zero_le _) (fun v h2 q => ?_)
  obtain ⟨rfl, ia', la', fi', fl', e⟩ := q
  refine v_sameI 2113 dL_law_1252 (by decide) ?_
  exact nx_go N H1 e (by omega) (by omega)
set_option maxRecDepth 4000 in
theorem lc_odds {sb L0 : Nat} {xs : Nat → Int32} {nm : String} {o i m : Nat} {Φ : Option Value → HP → Prop} {h : HP} {cap : Nat → Nat} {A : Nat → Int} {ia : Nat → Nat → Int} {la : Nat → Nat → BitVec 64} {fi : Nat → Int} {fl : Nat → BitVec 64} {L R C rc rs : Nat} (hL : L0 ≤ 3072) (hi : i + 6 ≤ L0) (N : NX sb L0 xs nm o i m Φ) (I : LI o h cap A ia la fi fl L R C) (r1 : 200 * (m + 1) + (426168 - smC cap) ≤ rc) (r2 : 8300 * (m + 1) + 2 * (426168 - smC cap) ≤ rs) : wl sb L0 xs (mLaw nm) 1257 [.ref sb, .ref o, .ref (o + 60), .int (zI (i : Int))] [] h rc rs Φ := by
  obtain ⟨H, hr⟩ := I
  have hT := cls_top H
  obtain ⟨c, sa, si, sl, hX⟩ := H.vx
  have hcp := cls_cap H
  have hx := ad_pd H (x_odds (x := ((BitVec.ofInt 64 (xs (i + 1)).toInt) <<< 32 ||| (BitVec.ofInt 64 (xs (i + 2)).toInt) &&& 4294967295#64)) hX.vw )
  refine vw_aload_n dL_law_1257 rfl rfl ?_
  refine vw_aload_n dL_law_1258 rfl rfl ?_
  refine vw_iload_n dL_law_1259 rfl rfl ?_
  refine vw_iconst dL_law_1260 ?_
  refine vw_iadd dL_law_1261 ?_
  refine v_sld (i + 1) (by omega) (by omega) hL dL_law_1262 ?_
  refine vw_i2l (ok32_of _) dL_law_1263 ?_
  refine vw_bipush dL_law_1264 (by decide) ?_
  refine vw_lshl 32 rfl (by omega) dL_law_1266 ?_
  refine vw_aload_n dL_law_1267 rfl rfl ?_
  refine vw_iload_n dL_law_1268 rfl rfl ?_
  refine vw_iconst dL_law_1269 ?_
  refine vw_iadd dL_law_1270 ?_
  refine v_sld (i + 2) (by omega) (by omega) hL dL_law_1271 ?_
  refine vw_i2l (ok32_of _) dL_law_1272 ?_
  refine vw_ldc2B (4294967295#64) qL_36 rfl dL_law_1273 ?_
  refine vw_land dL_law_1276 ?_
  refine vw_lor dL_law_1277 ?_
  refine vw_callV (Z := mX9_odds) (As := [_]) hx (cls_o H) rfl kX9_odds lL_175 iX9_odds vX9_odds dL_law_1278 rfl rfl rfl (Nat.le_of_ble_eq_true rfl) ⟨Nat.le_of_ble_eq_true rfl, Nat.le_of_ble_eq_true rfl⟩ (by omega) (by omega) (fun v h1 q => ?_)
  obtain ⟨rfl, hF, L1, R1, C1, H1⟩ := q
  have hc1 := cls_cap H1
  have hr1 := li_frm hr hF
  have hz := ad_pr (c_odds (r := o + 60) (A := A) (ia := ia) (la := la) (fi := fi) (fl := fl) (h0 := h1) (x := ((BitVec.ofInt 64 (xs (i + 1)).toInt) <<< 32 ||| (BitVec.ofInt 64 (xs (i + 2)).toInt) &&& 4294967295#64)) hT )
  refine vw_aload_n dL_law_1281 rfl rfl ?_
  refine vw_aload_n dL_law_1282 rfl rfl ?_
  refine vw_iload_n dL_law_1283 rfl rfl ?_
  refine vw_iconst dL_law_1284 ?_
  refine vw_iadd dL_law_1285 ?_
  refine v_sld (i + 1) (by omega) (by omega) hL dL_law_1286 ?_
  refine vw_i2l (ok32_of _) dL_law_1287 ?_
  refine vw_bipush dL_law_1288 (by decide) ?_
  refine vw_lshl 32 rfl (by omega) dL_law_1290 ?_
  refine vw_aload_n dL_law_1291 rfl rfl ?_
  refine vw_iload_n dL_law_1292 rfl rfl ?_
  refine vw_iconst dL_law_1293 ?_
  refine vw_iadd dL_law_1294 ?_
  refine v_sld (i + 2) (by omega) (by omega) hL dL_law_1295 ?_
  refine vw_i2l (ok32_of _) dL_law_1296 ?_
  refine vw_ldc2B (4294967295#64) qL_36 rfl dL_law_1297 ?_
  refine vw_land dL_law_1300 ?_
  refine vw_lor dL_law_1301 ?_
  refine v_cast (h' := RH (o + 60) A ia la fi fl h1) rfl rfl (RHP.self hr1).symm ?_
  refine vw_callV (Z := mX10_odds) (As := [_]) hz RH0 rfl kX10_odds lL_178 iX10_odds vX10_odds dL_law_1302 rfl rfl rfl (Nat.le_of_ble_eq_true rfl) ⟨Nat.le_of_ble_eq_true rfl, Nat.le_of_ble_eq_true rfl⟩ (Nat.zero_le _) (Nat.zero_le _) (fun v h2 q => ?_)
  obtain ⟨rfl, ia', la', fi', fl', e⟩ := q
  refine v_sameI 2113 dL_law_1305 (by decide) ?_
  exact nx_go N H1 e (by omega) (by omega)
set_option maxRecDepth 4000 in
theorem lc_knot {sb L0 : Nat} {xs : Nat → Int32} {nm : String} {o i m : Nat} {Φ : Option Value → HP → Prop} {h : HP} {cap : Nat → Nat} {A : Nat → Int} {ia : Nat → Nat → Int} {la : Nat → Nat → BitVec 64} {fi : Nat → Int} {fl : Nat → BitVec 64} {L R C rc rs : Nat} (hL : L0 ≤ 3072) (hi : i + 6 ≤ L0) (N : NX sb L0 xs nm o i m Φ) (I : LI o h cap A ia la fi fl L R C) (r1 : 200 * (m + 1) + (426168 - smC cap) ≤ rc) (r2 : 8300 * (m + 1) + 2 * (426168 - smC cap) ≤ rs) : wl sb L0 xs (mLaw nm) 1310 [.ref sb, .ref o, .ref (o + 60), .int (zI (i : Int))] [] h rc rs Φ := by
  obtain ⟨H, hr⟩ := I
  have hT := cls_top H
  obtain ⟨c, sa, si, sl, hX⟩ := H.vx
  have hcp := cls_cap H
  have hx := ad_pd H (x_knot (x := ((BitVec.ofInt 64 (xs (i + 1)).toInt) <<< 32 ||| (BitVec.ofInt 64 (xs (i + 2)).toInt) &&& 4294967295#64)) hX.vw )
  refine vw_aload_n dL_law_1310 rfl rfl ?_
  refine vw_aload_n dL_law_1311 rfl rfl ?_
  refine vw_iload_n dL_law_1312 rfl rfl ?_
  refine vw_iconst dL_law_1313 ?_
  refine vw_iadd dL_law_1314 ?_
  refine v_sld (i + 1) (by omega) (by omega) hL dL_law_1315 ?_
  refine vw_i2l (ok32_of _) dL_law_1316 ?_
  refine vw_bipush dL_law_1317 (by decide) ?_
  refine vw_lshl 32 rfl (by omega) dL_law_1319 ?_
  refine vw_aload_n dL_law_1320 rfl rfl ?_
  refine vw_iload_n dL_law_1321 rfl rfl ?_
  refine vw_iconst dL_law_1322 ?_
  refine vw_iadd dL_law_1323 ?_
  refine v_sld (i + 2) (by omega) (by omega) hL dL_law_1324 ?_
  refine vw_i2l (ok32_of _) dL_law_1325 ?_
  refine vw_ldc2B (4294967295#64) qL_36 rfl dL_law_1326 ?_
  refine vw_land dL_law_1329 ?_
  refine vw_lor dL_law_1330 ?_
  refine vw_callV (Z := mX9_knot) (As := [_]) hx (cls_o H) rfl kX9_knot lL_179 iX9_knot vX9_knot dL_law_1331 rfl rfl rfl (Nat.le_of_ble_eq_true rfl) ⟨Nat.le_of_ble_eq_true rfl, Nat.le_of_ble_eq_true rfl⟩ (by omega) (by omega) (fun v h1 q => ?_)
  obtain ⟨rfl, hF, L1, R1, C1, H1⟩ := q
  have hc1 := cls_cap H1
  have hr1 := li_frm hr hF
  have hz := ad_pr (c_knot (r := o + 60) (A := A) (ia := ia) (la := la) (fi := fi) (fl := fl) (h0 := h1) (x := ((BitVec.ofInt 64 (xs (i + 1)).toInt) <<< 32 ||| (BitVec.ofInt 64 (xs (i + 2)).toInt) &&& 4294967295#64)) hT )
  refine vw_aload_n dL_law_1334 rfl rfl ?_
  refine vw_aload_n dL_law_1335 rfl rfl ?_
  refine vw_iload_n dL_law_1336 rfl rfl ?_
  refine vw_iconst dL_law_1337 ?_
  refine vw_iadd dL_law_1338 ?_
  refine v_sld (i + 1) (by omega) (by omega) hL dL_law_1339 ?_
  refine vw_i2l (ok32_of _) dL_law_1340 ?_
  refine vw_bipush dL_law_1341 (by decide) ?_
  refine vw_lshl 32 rfl (by omega) dL_law_1343 ?_
  refine vw_aload_n dL_law_1344 rfl rfl ?_
  refine vw_iload_n dL_law_1345 rfl rfl ?_
  refine vw_iconst dL_law_1346 ?_
  refine vw_iadd dL_law_1347 ?_
  refine v_sld (i + 2) (by omega) (by omega) hL dL_law_1348 ?_
  refine vw_i2l (ok32_of _) dL_law_1349 ?_
  refine vw_ldc2B (4294967295#64) qL_36 rfl dL_law_1350 ?_
  refine vw_land dL_law_1353 ?_
  refine vw_lor dL_law_1354 ?_
  refine v_cast (h' := RH (o + 60) A ia la fi fl h1) rfl rfl (RHP.self hr1).symm ?_
  refine vw_callV (Z := mX10_knot) (As := [_]) hz RH0 rfl kX10_knot lL_183 iX10_knot vX10_knot dL_law_1355 rfl rfl rfl (Nat.le_of_ble_eq_true rfl) ⟨Nat.le_of_ble_eq_true rfl, Nat.le_of_ble_eq_true rfl⟩ (Nat.zero_le _) (Nat.zero_le _) (fun v h2 q => ?_)
  obtain ⟨rfl, ia', la', fi', fl', e⟩ := q
  refine v_sameI 2113 dL_law_1358 (by decide) ?_
  exact nx_go N H1 e (by omega) (by omega)
