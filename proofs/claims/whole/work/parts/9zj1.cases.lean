/-! the law: its cases, 2 -/
set_option maxRecDepth 4000 in
theorem lc_step {sb L0 : Nat} {xs : Nat → Int32} {nm : String} {o i m : Nat} {Φ : Option Value → HP → Prop} {h : HP} {cap : Nat → Nat} {A : Nat → Int} {ia : Nat → Nat → Int} {la : Nat → Nat → BitVec 64} {fi : Nat → Int} {fl : Nat → BitVec 64} {L R C rc rs : Nat} (hL : L0 ≤ 3072) (hi : i + 6 ≤ L0) (N : NX sb L0 xs nm o i m Φ) (I : LI o h cap A ia la fi fl L R C) (r1 : 200 * (m + 1) + (426168 - smC cap) ≤ rc) (r2 : 8300 * (m + 1) + 2 * (426168 - smC cap) ≤ rs) : wl sb L0 xs (mLaw nm) 696 [.ref sb, .ref o, .ref (o + 60), .int (zI (i : Int))] [] h rc rs Φ := by
  obtain ⟨H, hr⟩ := I
  have hT := cls_top H
  obtain ⟨c, sa, si, sl, hX⟩ := H.vx
  have hcp := cls_cap H
  have hx := ad_xp (x_step H (ok32_of (xs (i + 1))))
  refine vw_aload_n dL_law_696 rfl rfl ?_
  refine vw_aload_n dL_law_697 rfl rfl ?_
  refine vw_iload_n dL_law_698 rfl rfl ?_
  refine vw_iconst dL_law_699 ?_
  refine vw_iadd dL_law_700 ?_
  refine v_sld (i + 1) (by omega) (by omega) hL dL_law_701 ?_
  refine vw_callV (Z := mX9_step) (As := [_]) hx (cls_o H) rfl kX9_step lL_70 iX9_step vX9_step dL_law_702 rfl rfl rfl (Nat.le_of_ble_eq_true rfl) ⟨Nat.le_of_ble_eq_true rfl, Nat.le_of_ble_eq_true rfl⟩ (by omega) (by omega) (fun v h1 q => ?_)
  obtain ⟨rfl, hF, L1, R1, C1, H1⟩ := q
  have hc1 := cls_cap H1
  have hr1 := li_frm hr hF
  have hz := ad_pr (c_step (r := o + 60) (A := A) (ia := ia) (la := la) (fi := fi) (fl := fl) (h0 := h1) hT (ok32_of (xs (i + 1))))
  refine vw_aload_n dL_law_705 rfl rfl ?_
  refine vw_aload_n dL_law_706 rfl rfl ?_
  refine vw_iload_n dL_law_707 rfl rfl ?_
  refine vw_iconst dL_law_708 ?_
  refine vw_iadd dL_law_709 ?_
  refine v_sld (i + 1) (by omega) (by omega) hL dL_law_710 ?_
  refine v_cast (h' := RH (o + 60) A ia la fi fl h1) rfl rfl (RHP.self hr1).symm ?_
  refine vw_callV (Z := mX10_step) (As := [_]) hz RH0 rfl kX10_step lL_73 iX10_step vX10_step dL_law_711 rfl rfl rfl (Nat.le_of_ble_eq_true rfl) ⟨Nat.le_of_ble_eq_true rfl, Nat.le_of_ble_eq_true rfl⟩ (Nat.zero_le _) (Nat.zero_le _) (fun v h2 q => ?_)
  obtain ⟨rfl, ia', la', fi', fl', e⟩ := q
  refine v_sameI 2113 dL_law_714 (by decide) ?_
  exact nx_go N H1 e (by omega) (by omega)
set_option maxRecDepth 4000 in
theorem lc_undo {sb L0 : Nat} {xs : Nat → Int32} {nm : String} {o i m : Nat} {Φ : Option Value → HP → Prop} {h : HP} {cap : Nat → Nat} {A : Nat → Int} {ia : Nat → Nat → Int} {la : Nat → Nat → BitVec 64} {fi : Nat → Int} {fl : Nat → BitVec 64} {L R C rc rs : Nat} (hL : L0 ≤ 3072) (hi : i + 6 ≤ L0) (N : NX sb L0 xs nm o i m Φ) (I : LI o h cap A ia la fi fl L R C) (r1 : 200 * (m + 1) + (426168 - smC cap) ≤ rc) (r2 : 8300 * (m + 1) + 2 * (426168 - smC cap) ≤ rs) : wl sb L0 xs (mLaw nm) 719 [.ref sb, .ref o, .ref (o + 60), .int (zI (i : Int))] [] h rc rs Φ := by
  obtain ⟨H, hr⟩ := I
  have hT := cls_top H
  obtain ⟨c, sa, si, sl, hX⟩ := H.vx
  have hcp := cls_cap H
  obtain ⟨⟨u1, u2, u3⟩, -⟩ := cls_pur H
  have hx := ad_xe (x_undo H)
  refine vw_aload_n dL_law_719 rfl rfl ?_
  refine vw_callV (Z := mX9_undo) (As := []) hx (cls_o H) rfl kX9_undo lL_74 iX9_undo vX9_undo dL_law_720 rfl rfl rfl (Nat.le_of_ble_eq_true rfl) ⟨Nat.le_of_ble_eq_true rfl, Nat.le_of_ble_eq_true rfl⟩ (by omega) (by omega) (fun v h1 q => ?_)
  obtain ⟨rfl, hF, L1, R1, C1, H1⟩ := q
  have hc1 := cls_cap H1
  have hr1 := li_frm hr hF
  have hz := ad_pq (c_undo (r := o + 60) (A := A) (ia := ia) (la := la) (fi := fi) (fl := fl) (h0 := h1) (u1 1) ⟨(u1 2).1, u3⟩)
  refine vw_aload_n dL_law_723 rfl rfl ?_
  refine v_cast (h' := RH (o + 60) A ia la fi fl h1) rfl rfl (RHP.self hr1).symm ?_
  refine vw_callV (Z := mX10_undo) (As := []) hz RH0 rfl kX10_undo lL_77 iX10_undo vX10_undo dL_law_724 rfl rfl rfl (Nat.le_of_ble_eq_true rfl) ⟨Nat.le_of_ble_eq_true rfl, Nat.le_of_ble_eq_true rfl⟩ (Nat.zero_le _) (Nat.zero_le _) (fun v h2 q => ?_)
  obtain ⟨rfl, ia', la', fi', fl', e⟩ := q
  refine v_sameI 2113 dL_law_727 (by decide) ?_
  exact nx_go N H1 e (by omega) (by omega)
set_option maxRecDepth 4000 in
theorem lc_tell {sb L0 : Nat} {xs : Nat → Int32} {nm : String} {o i m : Nat} {Φ : Option Value → HP → Prop} {h : HP} {cap : Nat → Nat} {A : Nat → Int} {ia : Nat → Nat → Int} {la : Nat → Nat → BitVec 64} {fi : Nat → Int} {fl : Nat → BitVec 64} {L R C rc rs : Nat} (hL : L0 ≤ 3072) (hi : i + 6 ≤ L0) (N : NX sb L0 xs nm o i m Φ) (I : LI o h cap A ia la fi fl L R C) (r1 : 200 * (m + 1) + (426168 - smC cap) ≤ rc) (r2 : 8300 * (m + 1) + 2 * (426168 - smC cap) ≤ rs) : wl sb L0 xs (mLaw nm) 732 [.ref sb, .ref o, .ref (o + 60), .int (zI (i : Int))] [] h rc rs Φ := by
  obtain ⟨H, hr⟩ := I
  have hT := cls_top H
  obtain ⟨c, sa, si, sl, hX⟩ := H.vx
  have hcp := cls_cap H
  have hx := ad_xp (x_tell H (ok32_of (xs (i + 1))))
  refine vw_aload_n dL_law_732 rfl rfl ?_
  refine vw_aload_n dL_law_733 rfl rfl ?_
  refine vw_iload_n dL_law_734 rfl rfl ?_
  refine vw_iconst dL_law_735 ?_
  refine vw_iadd dL_law_736 ?_
  refine v_sld (i + 1) (by omega) (by omega) hL dL_law_737 ?_
  refine vw_callV (Z := mX9_tell) (As := [_]) hx (cls_o H) rfl kX9_tell lL_78 iX9_tell vX9_tell dL_law_738 rfl rfl rfl (Nat.le_of_ble_eq_true rfl) ⟨Nat.le_of_ble_eq_true rfl, Nat.le_of_ble_eq_true rfl⟩ (by omega) (by omega) (fun v h1 q => ?_)
  obtain ⟨rfl, hF, L1, R1, C1, H1⟩ := q
  have hc1 := cls_cap H1
  have hr1 := li_frm hr hF
  have hz := ad_pr (c_tell (r := o + 60) (A := A) (ia := ia) (la := la) (fi := fi) (fl := fl) (h0 := h1) hT (ok32_of (xs (i + 1))))
  refine vw_aload_n dL_law_741 rfl rfl ?_
  refine vw_aload_n dL_law_742 rfl rfl ?_
  refine vw_iload_n dL_law_743 rfl rfl ?_
  refine vw_iconst dL_law_744 ?_
  refine vw_iadd dL_law_745 ?_
  refine v_sld (i + 1) (by omega) (by omega) hL dL_law_746 ?_
  refine v_cast (h' := RH (o + 60) A ia la fi fl h1) rfl rfl (RHP.self hr1).symm ?_
  refine vw_callV (Z := mX10_tell) (As := [_]) hz RH0 rfl kX10_tell lL_81 iX10_tell vX10_tell dL_law_747 rfl rfl rfl (Nat.le_of_ble_eq_true rfl) ⟨Nat.le_of_ble_eq_true rfl, Nat.le_of_ble_eq_true rfl⟩ (Nat.zero_le _) (Nat.zero_le _) (fun v h2 q => ?_)
  obtain ⟨rfl, ia', la', fi', fl', e⟩ := q
  refine v_sameI 2113 dL_law_750 (by decide) ?_
  exact nx_go N H1 e (by omega) (by omega)
set_option maxRecDepth 4000 in
theorem lc_is {sb L0 : Nat} {xs : Nat → Int32} {nm : String} {o i m : Nat} {Φ : Option Value → HP → Prop} {h : HP} {cap : Nat → Nat} {A : Nat → Int} {ia : Nat → Nat → Int} {la : Nat → Nat → BitVec 64} {fi : Nat → Int} {fl : Nat → BitVec 64} {L R C rc rs : Nat} (hL : L0 ≤ 3072) (hi : i + 6 ≤ L0) (N : NX sb L0 xs nm o i m Φ) (I : LI o h cap A ia la fi fl L R C) (r1 : 200 * (m + 1) + (426168 - smC cap) ≤ rc) (r2 : 8300 * (m + 1) + 2 * (426168 - smC cap) ≤ rs) : wl sb L0 xs (mLaw nm) 755 [.ref sb, .ref o, .ref (o + 60), .int (zI (i : Int))] [] h rc rs Φ := by
  obtain ⟨H, hr⟩ := I
  have hT := cls_top H
  obtain ⟨c, sa, si, sl, hX⟩ := H.vx
  have hcp := cls_cap H
  have hx := ad_pd H (x_is hX.vw (ok32_of (xs (i + 1))))
  refine vw_aload_n dL_law_755 rfl rfl ?_
  refine vw_aload_n dL_law_756 rfl rfl ?_
  refine vw_iload_n dL_law_757 rfl rfl ?_
  refine vw_iconst dL_law_758 ?_
  refine vw_iadd dL_law_759 ?_
  refine v_sld (i + 1) (by omega) (by omega) hL dL_law_760 ?_
  refine vw_callV (Z := mX9_is) (As := [_]) hx (cls_o H) rfl kX9_is lL_82 iX9_is vX9_is dL_law_761 rfl rfl rfl (Nat.le_of_ble_eq_true rfl) ⟨Nat.le_of_ble_eq_true rfl, Nat.le_of_ble_eq_true rfl⟩ (by omega) (by omega) (fun v h1 q => ?_)
  obtain ⟨rfl, hF, L1, R1, C1, H1⟩ := q
  have hc1 := cls_cap H1
  have hr1 := li_frm hr hF
  have hz := ad_pr (c_is (r := o + 60) (A := A) (ia := ia) (la := la) (fi := fi) (fl := fl) (h0 := h1) hT (ok32_of (xs (i + 1))))
  refine vw_aload_n dL_law_764 rfl rfl ?_
  refine vw_aload_n dL_law_765 rfl rfl ?_
  refine vw_iload_n dL_law_766 rfl rfl ?_
  refine vw_iconst dL_law_767 ?_
  refine vw_iadd dL_law_768 ?_
  refine v_sld (i + 1) (by omega) (by omega) hL dL_law_769 ?_
  refine v_cast (h' := RH (o + 60) A ia la fi fl h1) rfl rfl (RHP.self hr1).symm ?_
  refine vw_callV (Z := mX10_is) (As := [_]) hz RH0 rfl kX10_is lL_85 iX10_is vX10_is dL_law_770 rfl rfl rfl (Nat.le_of_ble_eq_true rfl) ⟨Nat.le_of_ble_eq_true rfl, Nat.le_of_ble_eq_true rfl⟩ (Nat.zero_le _) (Nat.zero_le _) (fun v h2 q => ?_)
  obtain ⟨rfl, ia', la', fi', fl', e⟩ := q
  refine v_sameI 2113 dL_law_773 (by decide) ?_
  exact nx_go N H1 e (by omega) (by omega)
set_option maxRecDepth 4000 in
theorem lc_shift {sb L0 : Nat} {xs : Nat → Int32} {nm : String} {o i m : Nat} {Φ : Option Value → HP → Prop} {h : HP} {cap : Nat → Nat} {A : Nat → Int} {ia : Nat → Nat → Int} {la : Nat → Nat → BitVec 64} {fi : Nat → Int} {fl : Nat → BitVec 64} {L R C rc rs : Nat} (hL : L0 ≤ 3072) (hi : i + 6 ≤ L0) (N : NX sb L0 xs nm o i m Φ) (I : LI o h cap A ia la fi fl L R C) (r1 : 200 * (m + 1) + (426168 - smC cap) ≤ rc) (r2 : 8300 * (m + 1) + 2 * (426168 - smC cap) ≤ rs) : wl sb L0 xs (mLaw nm) 778 [.ref sb, .ref o, .ref (o + 60), .int (zI (i : Int))] [] h rc rs Φ := by
  obtain ⟨H, hr⟩ := I
  have hT := cls_top H
  obtain ⟨c, sa, si, sl, hX⟩ := H.vx
  have hcp := cls_cap H
  have hx := ad_pd H (x_shift hX.vw (ok32_of (xs (i + 1))) (ok32_of (xs (i + 2))))
  refine vw_aload_n dL_law_778 rfl rfl ?_
  refine vw_aload_n dL_law_779 rfl rfl ?_
  refine vw_iload_n dL_law_780 rfl rfl ?_
  refine vw_iconst dL_law_781 ?_
  refine vw_iadd dL_law_782 ?_
  refine v_sld (i + 1) (by omega) (by omega) hL dL_law_783 ?_
  refine vw_aload_n dL_law_784 rfl rfl ?_
  refine vw_iload_n dL_law_785 rfl rfl ?_
  refine vw_iconst dL_law_786 ?_
  refine vw_iadd dL_law_787 ?_
  refine v_sld (i + 2) (by omega) (by omega) hL dL_law_788 ?_
  refine vw_callV (Z := mX9_shift) (As := [_, _]) hx (cls_o H) rfl kX9_shift lL_86 iX9_shift vX9_shift dL_law_789 rfl rfl rfl (Nat.le_of_ble_eq_true rfl) ⟨Nat.le_of_ble_eq_true rfl, Nat.le_of_ble_eq_true rfl⟩ (by omega) (by omega) (fun v h1 q => ?_)
  obtain ⟨rfl, hF, L1, R1, C1, H1⟩ := q
  have hc1 := cls_cap H1
  have hr1 := li_frm hr hF
  have hz := ad_pr (c_shift (r := o + 60) (A := A) (ia := ia) (la := la) (fi := fi) (fl := fl) (h0 := h1) hT (ok32_of (xs (i + 1))) (ok32_of (xs (i + 2))))
  refine vw_aload_n dL_law_792 rfl rfl ?_
  refine vw_aload_n dL_law_793 rfl rfl ?_
  refine vw_iload_n dL_law_794 rfl rfl ?_
  refine vw_iconst dL_law_795 ?_
  refine vw_iadd dL_law_796 ?_
  refine v_sld (i + 1) (by omega) (by omega) hL dL_law_797 ?_
  refine vw_aload_n dL_law_798 rfl rfl ?_
  refine vw_iload_n dL_law_799 rfl rfl ?_
  refine vw_iconst dL_law_800 ?_
  refine vw_iadd dL_law_801 ?_
  refine v_sld (i + 2) (by omega) (by omega) hL dL_law_802 ?_
  refine v_cast (h' := RH (o + 60) A ia la fi fl h1) rfl rfl (RHP.self hr1).symm ?_
  refine vw_callV (Z := mX10_shift) (As := [_, _]) hz RH0 rfl kX10_shift lL_89 iX10_shift vX10_shift dL_law_803 rfl rfl rfl (Nat.le_of_ble_eq_true rfl) ⟨Nat.le_of_ble_eq_true rfl, Nat.le_of_ble_eq_true rfl⟩ (Nat.zero_le _) (Nat.zero_le _) (fun v h2 q => ?_)
  obtain ⟨rfl, ia', la', fi', fl', e⟩ := q
  refine v_sameI 2113 dL_law_806 (by decide) ?_
  exact nx_go N H1 e (by omega) (by omega)
set_option maxRecDepth 4000 in
theorem lc_layer {sb L0 : Nat} {xs : Nat → Int32} {nm : String} {o i m : Nat} {Φ : Option Value → HP → Prop} {h : HP} {cap : Nat → Nat} {A : Nat → Int} {ia : Nat → Nat → Int} {la : Nat → Nat → BitVec 64} {fi : Nat → Int} {fl : Nat → BitVec 64} {L R C rc rs : Nat} (hL : L0 ≤ 3072) (hi : i + 6 ≤ L0) (N : NX sb L0 xs nm o i m Φ) (I : LI o h cap A ia la fi fl L R C) (r1 : 200 * (m + 1) + (426168 - smC cap) ≤ rc) (r2 : 8300 * (m + 1) + 2 * (426168 - smC cap) ≤ rs) : wl sb L0 xs (mLaw nm) 811 [.ref sb, .ref o, .ref (o + 60), .int (zI (i : Int))] [] h rc rs Φ := by
  obtain ⟨H, hr⟩ := I
  have hT := cls_top H
  obtain ⟨c, sa, si, sl, hX⟩ := H.vx
  have hcp := cls_cap H
  have hx := ad_pd H (x_layer hX.vw (ok32_of (xs (i + 1))))
  refine vw_aload_n dL_law_811 rfl rfl ?_
  refine vw_aload_n dL_law_812 rfl rfl ?_
  refine vw_iload_n dL_law_813 rfl rfl ?_
  refine vw_iconst dL_law_814 ?_
  refine vw_iadd dL_law_815 ?_
  refine v_sld (i + 1) (by omega) (by omega) hL dL_law_816 ?_
  refine vw_callV (Z := mX9_layer) (As := [_]) hx (cls_o H) rfl kX9_layer lL_90 iX9_layer vX9_layer dL_law_817 rfl rfl rfl (Nat.le_of_ble_eq_true rfl) ⟨Nat.le_of_ble_eq_true rfl, Nat.le_of_ble_eq_true rfl⟩ (by omega) (by omega) (fun v h1 q => ?_)
  obtain ⟨rfl, hF, L1, R1, C1, H1⟩ := q
  have hc1 := cls_cap H1
  have hr1 := li_frm hr hF
  have hz := ad_pr (c_layer (r := o + 60) (A := A) (ia := ia) (la := la) (fi := fi) (fl := fl) (h0 := h1) hT (ok32_of (xs (i + 1))))
  refine vw_aload_n dL_law_820 rfl rfl ?_
  refine vw_aload_n dL_law_821 rfl rfl ?_
  refine vw_iload_n dL_law_822 rfl rfl ?_
  refine vw_iconst dL_law_823 ?_
  refine vw_iadd dL_law_824 ?_
  refine v_sld (i + 1) (by omega) (by omega) hL dL_law_825 ?_
  refine v_cast (h' := RH (o + 60) A ia la fi fl h1) rfl rfl (RHP.self hr1).symm ?_
  refine vw_callV (Z := mX10_layer) (As := [_]) hz RH0 rfl kX10_layer lL_93 iX10_layer vX10_layer dL_law_826 rfl rfl rfl (Nat.le_of_ble_eq_true rfl) ⟨Nat.le_of_ble_eq_true rfl, Nat.le_of_ble_eq_true rfl⟩ (Nat.zero_le _) (Nat.zero_le _) (fun v h2 q => ?_)
  obtain ⟨rfl, ia', la', fi', fl', e⟩ := q
  refine v_sameI 2113 dL_law_829 (by decide) ?_
  exact nx_go N H1 e (by omega) (by omega)
set_option maxRecDepth 4000 in
theorem lc_has {sb L0 : Nat} {xs : Nat → Int32} {nm : String} {o i m : Nat} {Φ : Option Value → HP → Prop} {h : HP} {cap : Nat → Nat} {A : Nat → Int} {ia : Nat → Nat → Int} {la : Nat → Nat → BitVec 64} {fi : Nat → Int} {fl : Nat → BitVec 64} {L R C rc rs : Nat} (hL : L0 ≤ 3072) (hi : i + 6 ≤ L0) (N : NX sb L0 xs nm o i m Φ) (I : LI o h cap A ia la fi fl L R C) (r1 : 200 * (m + 1) + (426168 - smC cap) ≤ rc) (r2 : 8300 * (m + 1) + 2 * (426168 - smC cap) ≤ rs) : wl sb L0 xs (mLaw nm) 834 [.ref sb, .ref o, .ref (o + 60), .int (zI (i : Int))] [] h rc rs Φ := by
  obtain ⟨H, hr⟩ := I
  have hT := cls_top H
  obtain ⟨c, sa, si, sl, hX⟩ := H.vx
  have hcp := cls_cap H
  have hx := ad_pd H (x_has hX.vw (ok32_of (xs (i + 1))) (ok32_of (xs (i + 2))))
  refine vw_aload_n dL_law_834 rfl rfl ?_
  refine vw_aload_n dL_law_835 rfl rfl ?_
  refine vw_iload_n dL_law_836 rfl rfl ?_
  refine vw_iconst dL_law_837 ?_
  refine vw_iadd dL_law_838 ?_
  refine v_sld (i + 1) (by omega) (by omega) hL dL_law_839 ?_
  refine vw_aload_n dL_law_840 rfl rfl ?_
  refine vw_iload_n dL_law_841 rfl rfl ?_
  refine vw_iconst dL_law_842 ?_
  refine vw_iadd dL_law_843 ?_
  refine v_sld (i + 2) (by omega) (by omega) hL dL_law_844 ?_
  refine vw_callV (Z := mX9_has) (As := [_, _]) hx (cls_o H) rfl kX9_has lL_94 iX9_has vX9_has dL_law_845 rfl rfl rfl (Nat.le_of_ble_eq_true rfl) ⟨Nat.le_of_ble_eq_true rfl, Nat.le_of_ble_eq_true rfl⟩ (by omega) (by omega) (fun v h1 q => ?_)
  obtain ⟨rfl, hF, L1, R1, C1, H1⟩ := q
  have hc1 := cls_cap H1
  have hr1 := li_frm hr hF
  have hz := ad_pr (c_has (r := o + 60) (A := A) (ia := ia) (la := la) (fi := fi) (fl := fl) (h0 := h1) hT (ok32_of (xs (i + 1))) (ok32_of (xs (i + 2))))
  refine vw_aload_n dL_law_848 rfl rfl ?_
  refine vw_aload_n dL_law_849 rfl rfl ?_
  refine vw_iload_n dL_law_850 rfl rfl ?_
  refine vw_iconst dL_law_851 ?_
  refine vw_iadd dL_law_852 ?_
  refine v_sld (i + 1) (by omega) (by omega) hL dL_law_853 ?_
  refine vw_aload_n dL_law_854 rfl rfl ?_
  refine vw_iload_n dL_law_855 rfl rfl ?_
  refine vw_iconst dL_law_856 ?_
  refine vw_iadd dL_law_857 ?_
  refine v_sld (i + 2) (by omega) (by omega) hL dL_law_858 ?_
  refine v_cast (h' := RH (o + 60) A ia la fi fl h1) rfl rfl (RHP.self hr1).symm ?_
  refine vw_callV (Z := mX10_has) (As := [_, _]) hz RH0 rfl kX10_has lL_97 iX10_has vX10_has dL_law_859 rfl rfl rfl (Nat.le_of_ble_eq_true rfl) ⟨Nat.le_of_ble_eq_true rfl, Nat.le_of_ble_eq_true rfl⟩ (Nat.zero_le _) (Nat.zero_le _) (fun v h2 q => ?_)
  obtain ⟨rfl, ia', la', fi', fl', e⟩ := q
  refine v_sameI 2113 dL_law_862 (by decide) ?_
  exact nx_go N H1 e (by omega) (by omega)
set_option maxRecDepth 4000 in
theorem lc_both {sb L0 : Nat} {xs : Nat → Int32} {nm : String} {o i m : Nat} {Φ : Option Value → HP → Prop} {h : HP} {cap : Nat → Nat} {A : Nat → Int} {ia : Nat → Nat → Int} {la : Nat → Nat → BitVec 64} {fi : Nat → Int} {fl : Nat → BitVec 64} {L R C rc rs : Nat} (hL : L0 ≤ 3072) (hi : i + 6 ≤ L0) (N : NX sb L0 xs nm o i m Φ) (I : LI o h cap A ia la fi fl L R C) (r1 : 200 * (m + 1) + (426168 - smC cap) ≤ rc) (r2 : 8300 * (m + 1) + 2 * (426168 - smC cap) ≤ rs) : wl sb L0 xs (mLaw nm) 867 [.ref sb, .ref o, .ref (o + 60), .int (zI (i : Int))] [] h rc rs Φ := by
  obtain ⟨H, hr⟩ := I
  have hT := cls_top H
  obtain ⟨c, sa, si, sl, hX⟩ := H.vx
  have hcp := cls_cap H
  have hx := ad_pd H (x_both hX.vw (ok32_of (xs (i + 1))) (ok32_of (xs (i + 2))))
  refine vw_aload_n dL_law_867 rfl rfl ?_
  refine vw_aload_n dL_law_868 rfl rfl ?_
  refine vw_iload_n dL_law_869 rfl rfl ?_
  refine vw_iconst dL_law_870 ?_
  refine vw_iadd dL_law_871 ?_
  refine v_sld (i + 1) (by omega) (by omega) hL dL_law_872 ?_
  refine vw_aload_n dL_law_873 rfl rfl ?_
  refine vw_iload_n dL_law_874 rfl rfl ?_
  refine vw_iconst dL_law_875 ?_
  refine vw_iadd dL_law_876 ?_
  refine v_sld (i + 2) (by omega) (by omega) hL dL_law_877 ?_
  refine vw_callV (Z := mX9_both) (As := [_, _]) hx (cls_o H) rfl kX9_both lL_98 iX9_both vX9_both dL_law_878 rfl rfl rfl (Nat.le_of_ble_eq_true rfl) ⟨Nat.le_of_ble_eq_true rfl, Nat.le_of_ble_eq_true rfl⟩ (by omega) (by omega) (fun v h1 q => ?_)
  obtain ⟨rfl, hF, L1, R1, C1, H1⟩ := q
  have hc1 := cls_cap H1
  have hr1 := li_frm hr hF
  have hz := ad_pr (c_both (r := o + 60) (A := A) (ia := ia) (la := la) (fi := fi) (fl := fl) (h0 := h1) hT (ok32_of (xs (i + 1))) (ok32_of (xs (i + 2))))
  refine vw_aload_n dL_law_881 rfl rfl ?_
  refine vw_aload_n dL_law_882 rfl rfl ?_
  refine vw_iload_n dL_law_883 rfl rfl ?_
  refine vw_iconst dL_law_884 ?_
  refine vw_iadd dL_law_885 ?_
  refine v_sld (i + 1) (by omega) (by omega) hL dL_law_886 ?_
  refine vw_aload_n dL_law_887 rfl rfl ?_
  refine vw_iload_n dL_law_888 rfl rfl ?_
  refine vw_iconst dL_law_889 ?_
  refine vw_iadd dL_law_890 ?_
  refine v_sld (i + 2) (by omega) (by omega) hL dL_law_891 ?_
  refine v_cast (h' := RH (o + 60) A ia la fi fl h1) rfl rfl (RHP.self hr1).symm ?_
  refine vw_callV (Z := mX10_both) (As := [_, _]) hz RH0 rfl kX10_both lL_101 iX10_both vX10_both dL_law_892 rfl rfl rfl (Nat.le_of_ble_eq_true rfl) ⟨Nat.le_of_ble_eq_true rfl, Nat.le_of_ble_eq_true rfl⟩ (Nat.zero_le _) (Nat.zero_le _) (fun v h2 q => ?_)
  obtain ⟨rfl, ia', la', fi', fl', e⟩ := q
  refine v_sameI 2113 dL_law_895 (by decide) ?_
  exact nx_go N H1 e (by omega) (by omega)
set_option maxRecDepth 4000 in
theorem lc_loose {sb L0 : Nat} {xs : Nat → Int32} {nm : String} {o i m : Nat} {Φ : Option Value → HP → Prop} {h : HP} {cap : Nat → Nat} {A : Nat → Int} {ia : Nat → Nat → Int} {la : Nat → Nat → BitVec 64} {fi : Nat → Int} {fl : Nat → BitVec 64} {L R C rc rs : Nat} (hL : L0 ≤ 3072) (hi : i + 6 ≤ L0) (N : NX sb L0 xs nm o i m Φ) (I : LI o h cap A ia la fi fl L R C) (r1 : 200 * (m + 1) + (426168 - smC cap) ≤ rc) (r2 : 8300 * (m + 1) + 2 * (426168 - smC cap) ≤ rs) : wl sb L0 xs (mLaw nm) 900 [.ref sb, .ref o, .ref (o + 60), .int (zI (i : Int))] [] h rc rs Φ := by
  obtain ⟨H, hr⟩ := I
  have hT := cls_top H
  obtain ⟨c, sa, si, sl, hX⟩ := H.vx
  have hcp := cls_cap H
  have hx := ad_pd H (x_loose hX.vw )
  refine vw_aload_n dL_law_900 rfl rfl ?_
  refine vw_callV (Z := mX9_loose) (As := []) hx (cls_o H) rfl kX9_loose lL_102 iX9_loose vX9_loose dL_law_901 rfl rfl rfl (Nat.le_of_ble_eq_true rfl) ⟨Nat.le_of_ble_eq_true rfl, Nat.le_of_ble_eq_true rfl⟩ (by omega) (by omega) (fun v h1 q => ?_)
  obtain ⟨rfl, hF, L1, R1, C1, H1⟩ := q
  have hc1 := cls_cap H1
  have hr1 := li_frm hr hF
  have hz := ad_pr (c_loose (r := o + 60) (A := A) (ia := ia) (la := la) (fi := fi) (fl := fl) (h0 := h1) hT )
  refine vw_aload_n dL_law_904 rfl rfl ?_
  refine v_cast (h' := RH (o + 60) A ia la fi fl h1) rfl rfl (RHP.self hr1).symm ?_
  refine vw_callV (Z := mX10_loose) (As := []) hz RH0 rfl kX10_loose lL_106 iX10_loose vX10_loose dL_law_905 rfl rfl rfl (Nat.le_of_ble_eq_true rfl) ⟨Nat.le_of_ble_eq_true rfl, Nat.le_of_ble_eq_true rfl⟩ (Nat.zero_le _) (Nat.zero_le _) (fun v h2 q => ?_)
  obtain ⟨rfl, ia', la', fi', fl', e⟩ := q
  refine v_sameL 2113 dL_law_908 dL_law_909 (by decide) ?_
  exact nx_go N H1 e (by omega) (by omega)
set_option maxRecDepth 4000 in
theorem lc_degree {sb L0 : Nat} {xs : Nat → Int32} {nm : String} {o i m : Nat} {Φ : Option Value → HP → Prop} {h : HP} {cap : Nat → Nat} {A : Nat → Int} {ia : Nat → Nat → Int} {la : Nat → Nat → BitVec 64} {fi : Nat → Int} {fl : Nat → BitVec 64} {L R C rc rs : Nat} (hL : L0 ≤ 3072) (hi : i + 6 ≤ L0) (N : NX sb L0 xs nm o i m Φ) (I : LI o h cap A ia la fi fl L R C) (r1 : 200 * (m + 1) + (426168 - smC cap) ≤ rc) (r2 : 8300 * (m + 1) + 2 * (426168 - smC cap) ≤ rs) : wl sb L0 xs (mLaw nm) 914 [.ref sb, .ref o, .ref (o + 60), .int (zI (i : Int))] [] h rc rs Φ := by
  obtain ⟨H, hr⟩ := I
  have hT := cls_top H
  obtain ⟨c, sa, si, sl, hX⟩ := H.vx
  have hcp := cls_cap H
  have hx := ad_pd H (x_degree hX.vw (ok32_of (xs (i + 1))))
  refine vw_aload_n dL_law_914 rfl rfl ?_
  refine vw_aload_n dL_law_915 rfl rfl ?_
  refine vw_iload_n dL_law_916 rfl rfl ?_
  refine vw_iconst dL_law_917 ?_
  refine vw_iadd dL_law_918 ?_
  refine v_sld (i + 1) (by omega) (by omega) hL dL_law_919 ?_
  refine vw_callV (Z := mX9_degree) (As := [_]) hx (cls_o H) rfl kX9_degree lL_107 iX9_degree vX9_degree dL_law_920 rfl rfl rfl (Nat.le_of_ble_eq_true rfl) ⟨Nat.le_of_ble_eq_true rfl, Nat.le_of_ble_eq_true rfl⟩ (by omega) (by omega) (fun v h1 q => ?_)
  obtain ⟨rfl, hF, L1, R1, C1, H1⟩ := q
  have hc1 := cls_cap H1
  have hr1 := li_frm hr hF
  have hz := ad_pq (c_degree (r := o + 60) (A := A) (ia := ia) (la := la) (fi := fi) (fl := fl) (h0 := h1) hT (ok32_of (xs (i + 1))))
  refine vw_aload_n dL_law_923 rfl rfl ?_
  refine vw_aload_n dL_law_924 rfl rfl ?_
  refine vw_iload_n dL_law_925 rfl rfl ?_
  refine vw_iconst dL_law_926 ?_
  refine vw_iadd dL_law_927 ?_
  refine v_sld (i + 1) (by omega) (by omega) hL dL_law_928 ?_
  refine v_cast (h' := RH (o + 60) A ia la fi fl h1) rfl rfl (RHP.self hr1).symm ?_
  refine vw_callV (Z := mX10_degree) (As := [_]) hz RH0 rfl kX10_degree lL_110 iX10_degree vX10_degree dL_law_929 rfl rfl rfl (Nat.le_of_ble_eq_true rfl) ⟨Nat.le_of_ble_eq_true rfl, Nat.le_of_ble_eq_true rfl⟩ (Nat.zero_le _) (Nat.zero_le _) (fun v h2 q => ?_)
  obtain ⟨rfl, ia', la', fi', fl', e⟩ := q
  refine v_sameI 2113 dL_law_932 (by decide) ?_
  exact nx_go N H1 e (by omega) (by omega)
set_option maxRecDepth 4000 in
theorem lc_bit {sb L0 : Nat} {xs : Nat → Int32} {nm : String} {o i m : Nat} {Φ : Option Value → HP → Prop} {h : HP} {cap : Nat → Nat} {A : Nat → Int} {ia : Nat → Nat → Int} {la : Nat → Nat → BitVec 64} {fi : Nat → Int} {fl : Nat → BitVec 64} {L R C rc rs : Nat} (hL : L0 ≤ 3072) (hi : i + 6 ≤ L0) (N : NX sb L0 xs nm o i m Φ) (I : LI o h cap A ia la fi fl L R C) (r1 : 200 * (m + 1) + (426168 - smC cap) ≤ rc) (r2 : 8300 * (m + 1) + 2 * (426168 - smC cap) ≤ rs) : wl sb L0 xs (mLaw nm) 937 [.ref sb, .ref o, .ref (o + 60), .int (zI (i : Int))] [] h rc rs Φ := by
  obtain ⟨H, hr⟩ := I
  have hT := cls_top H
  obtain ⟨c, sa, si, sl, hX⟩ := H.vx
  have hcp := cls_cap H
  have hx := ad_pd H (x_bit (q0 := la 6) hX.vw (ok32_of (xs (i + 1))) (ok32_of (xs (i + 2))))
  refine vw_aload_n dL_law_937 rfl rfl ?_
  refine vw_aload_n dL_law_938 rfl rfl ?_
  refine vw_iload_n dL_law_939 rfl rfl ?_
  refine vw_iconst dL_law_940 ?_
  refine vw_iadd dL_law_941 ?_
  refine v_sld (i + 1) (by omega) (by omega) hL dL_law_942 ?_
  refine vw_aload_n dL_law_943 rfl rfl ?_
  refine vw_iload_n dL_law_944 rfl rfl ?_
  refine vw_iconst dL_law_945 ?_
  refine vw_iadd dL_law_946 ?_
  refine v_sld (i + 2) (by omega) (by omega) hL dL_law_947 ?_
  refine vw_callV (Z := mX9_bit) (As := [_, _]) hx (cls_o H) rfl kX9_bit lL_111 iX9_bit vX9_bit dL_law_948 rfl rfl rfl (Nat.le_of_ble_eq_true rfl) ⟨Nat.le_of_ble_eq_true rfl, Nat.le_of_ble_eq_true rfl⟩ (by omega) (by omega) (fun v h1 q => ?_)
  obtain ⟨rfl, hF, L1, R1, C1, H1⟩ := q
  have hc1 := cls_cap H1
  have hr1 := li_frm hr hF
  have hz := ad_pr (c_bit (r := o + 60) (A := A) (ia := ia) (la := la) (fi := fi) (fl := fl) (h0 := h1) hT (ok32_of (xs (i + 1))) (ok32_of (xs (i + 2))))
  refine vw_aload_n dL_law_951 rfl rfl ?_
  refine vw_aload_n dL_law_952 rfl rfl ?_
  refine vw_iload_n dL_law_953 rfl rfl ?_
  refine vw_iconst dL_law_954 ?_
  refine vw_iadd dL_law_955 ?_
  refine v_sld (i + 1) (by omega) (by omega) hL dL_law_956 ?_
  refine vw_aload_n dL_law_957 rfl rfl ?_
  refine vw_iload_n dL_law_958 rfl rfl ?_
  refine vw_iconst dL_law_959 ?_
  refine vw_iadd dL_law_960 ?_
  refine v_sld (i + 2) (by omega) (by omega) hL dL_law_961 ?_
  refine v_cast (h' := RH (o + 60) A ia la fi fl h1) rfl rfl (RHP.self hr1).symm ?_
  refine vw_callV (Z := mX10_bit) (As := [_, _]) hz RH0 rfl kX10_bit lL_114 iX10_bit vX10_bit dL_law_962 rfl rfl rfl (Nat.le_of_ble_eq_true rfl) ⟨Nat.le_of_ble_eq_true rfl, Nat.le_of_ble_eq_true rfl⟩ (Nat.zero_le _) (Nat.zero_le _) (fun v h2 q => ?_)
  obtain ⟨rfl, ia', la', fi', fl', e⟩ := q
  refine v_sameI 2113 dL_law_965 (by decide) ?_
  exact nx_go N H1 e (by omega) (by omega)
set_option maxRecDepth 4000 in
theorem lc_message {sb L0 : Nat} {xs : Nat → Int32} {nm : String} {o i m : Nat} {Φ : Option Value → HP → Prop} {h : HP} {cap : Nat → Nat} {A : Nat → Int} {ia : Nat → Nat → Int} {la : Nat → Nat → BitVec 64} {fi : Nat → Int} {fl : Nat → BitVec 64} {L R C rc rs : Nat} (hL : L0 ≤ 3072) (hi : i + 6 ≤ L0) (N : NX sb L0 xs nm o i m Φ) (I : LI o h cap A ia la fi fl L R C) (r1 : 200 * (m + 1) + (426168 - smC cap) ≤ rc) (r2 : 8300 * (m + 1) + 2 * (426168 - smC cap) ≤ rs) : wl sb L0 xs (mLaw nm) 970 [.ref sb, .ref o, .ref (o + 60), .int (zI (i : Int))] [] h rc rs Φ := by
  obtain ⟨H, hr⟩ := I
  have hT := cls_top H
  obtain ⟨c, sa, si, sl, hX⟩ := H.vx
  have hcp := cls_cap H
  have hx := ad_pd H (x_message hX.vw (ok32_of (xs (i + 1))) (ok32_of (xs (i + 2))))
  refine vw_aload_n dL_law_970 rfl rfl ?_
  refine vw_aload_n dL_law_971 rfl rfl ?_
  refine vw_iload_n dL_law_972 rfl rfl ?_
  refine vw_iconst dL_law_973 ?_
  refine vw_iadd dL_law_974 ?_
  refine v_sld (i + 1) (by omega) (by omega) hL dL_law_975 ?_
  refine vw_aload_n dL_law_976 rfl rfl ?_
  refine vw_iload_n dL_law_977 rfl rfl ?_
  refine vw_iconst dL_law_978 ?_
  refine vw_iadd dL_law_979 ?_
  refine v_sld (i + 2) (by omega) (by omega) hL dL_law_980 ?_
  refine vw_callV (Z := mX9_message) (As := [_, _]) hx (cls_o H) rfl kX9_message lL_115 iX9_message vX9_message dL_law_981 rfl rfl rfl (Nat.le_of_ble_eq_true rfl) ⟨Nat.le_of_ble_eq_true rfl, Nat.le_of_ble_eq_true rfl⟩ (by omega) (by omega) (fun v h1 q => ?_)
  obtain ⟨rfl, hF, L1, R1, C1, H1⟩ := q
  have hc1 := cls_cap H1
  have hr1 := li_frm hr hF
  have hz := ad_pr (c_message (r := o + 60) (A := A) (ia := ia) (la := la) (fi := fi) (fl := fl) (h0 := h1) hT (ok32_of (xs (i + 1))) (ok32_of (xs (i + 2))))
  refine vw_aload_n dL_law_984 rfl rfl ?_
  refine vw_aload_n dL_law_985 rfl rfl ?_
  refine vw_iload_n dL_law_986 rfl rfl ?_
  refine vw_iconst dL_law_987 ?_
  refine vw_iadd dL_law_988 ?_
  refine v_sld (i + 1) (by omega) (by omega) hL dL_law_989 ?_
  refine vw_aload_n dL_law_990 rfl rfl ?_
  refine vw_iload_n dL_law_991 rfl rfl ?_
  refine vw_iconst dL_law_992 ?_
  refine vw_iadd dL_law_993 ?_
  refine v_sld (i + 2) (by omega) (by omega) hL dL_law_994 ?_
  refine v_cast (h' := RH (o + 60) A ia la fi fl h1) rfl rfl (RHP.self hr1).symm ?_
  refine vw_callV (Z := mX10_message) (As := [_, _]) hz RH0 rfl kX10_message lL_118 iX10_message vX10_message dL_law_995 rfl rfl rfl (Nat.le_of_ble_eq_true rfl) ⟨Nat.le_of_ble_eq_true rfl, Nat.le_of_ble_eq_true rfl⟩ (Nat.zero_le _) (Nat.zero_le _) (fun v h2 q => ?_)
  obtain ⟨rfl, ia', la', fi', fl', e⟩ := q
  refine v_sameI 2113 dL_law_998 (by decide) ?_
  exact nx_go N H1 e (by omega) (by omega)
set_option maxRecDepth 4000 in
theorem lc_odd {sb L0 : Nat} {xs : Nat → Int32} {nm : String} {o i m : Nat} {Φ : Option Value → HP → Prop} {h : HP} {cap : Nat → Nat} {A : Nat → Int} {ia : Nat → Nat → Int} {la : Nat → Nat → BitVec 64} {fi : Nat → Int} {fl : Nat → BitVec 64} {L R C rc rs : Nat} (hL : L0 ≤ 3072) (hi : i + 6 ≤ L0) (N : NX sb L0 xs nm o i m Φ) (I : LI o h cap A ia la fi fl L R C) (r1 : 200 * (m + 1) + (426168 - smC cap) ≤ rc) (r2 : 8300 * (m + 1) + 2 * (426168 - smC cap) ≤ rs) : wl sb L0 xs (mLaw nm) 1003 [.ref sb, .ref o, .ref (o + 60), .int (zI (i : Int))] [] h rc rs Φ := by
  obtain ⟨H, hr⟩ := I
  have hT := cls_top H
  obtain ⟨c, sa, si, sl, hX⟩ := H.vx
  have hcp := cls_cap H
  have hx := ad_pd H (x_odd hX.vw (ok32_of (xs (i + 1))))
  refine vw_aload_n dL_law_1003 rfl rfl ?_
  refine vw_aload_n dL_law_1004 rfl rfl ?_
  refine vw_iload_n dL_law_1005 rfl rfl ?_
  refine vw_iconst dL_law_1006 ?_
  refine vw_iadd dL_law_1007 ?_
  refine v_sld (i + 1) (by omega) (by omega) hL dL_law_1008 ?_
  refine vw_callV (Z := mX9_odd) (As := [_]) hx (cls_o H) rfl kX9_odd lL_119 iX9_odd vX9_odd dL_law_1009 rfl rfl rfl (Nat.le_of_ble_eq_true rfl) ⟨Nat.le_of_ble_eq_true rfl, Nat.le_of_ble_eq_true rfl⟩ (by omega) (by omega) (fun v h1 q => ?_)
  obtain ⟨rfl, hF, L1, R1, C1, H1⟩ := q
  have hc1 := cls_cap H1
  have hr1 := li_frm hr hF
  have hz := ad_pr (c_odd (r := o + 60) (A := A) (ia := ia) (la := la) (fi := fi) (fl := fl) (h0 := h1) hT (ok32_of (xs (i + 1))))
  refine vw_aload_n dL_law_1012 rfl rfl ?_
  refine vw_aload_n dL_law_1013 rfl rfl ?_
  refine vw_iload_n dL_law_1014 rfl rfl ?_
  refine vw_iconst dL_law_1015 ?_
  refine vw_iadd dL_law_1016 ?_
  refine v_sld (i + 1) (by omega) (by omega) hL dL_law_1017 ?_
  refine v_cast (h' := RH (o + 60) A ia la fi fl h1) rfl rfl (RHP.self hr1).symm ?_
  refine vw_callV (Z := mX10_odd) (As := [_]) hz RH0 rfl kX10_odd lL_122 iX10_odd vX10_odd dL_law_1018 rfl rfl rfl (Nat.le_of_ble_eq_true rfl) ⟨Nat.le_of_ble_eq_true rfl, Nat.le_of_ble_eq_true rfl⟩ (Nat.zero_le _) (Nat.zero_le _) (fun v h2 q => ?_)
  obtain ⟨rfl, ia', la', fi', fl', e⟩ := q
  refine v_sameI 2113 dL_law_1021 (by decide) ?_
  exact nx_go N H1 e (by omega) (by omega)
set_option maxRecDepth 4000 in
theorem lc_book {sb L0 : Nat} {xs : Nat → Int32} {nm : String} {o i m : Nat} {Φ : Option Value → HP → Prop} {h : HP} {cap : Nat → Nat} {A : Nat → Int} {ia : Nat → Nat → Int} {la : Nat → Nat → BitVec 64} {fi : Nat → Int} {fl : Nat → BitVec 64} {L R C rc rs : Nat} (hL : L0 ≤ 3072) (hi : i + 6 ≤ L0) (N : NX sb L0 xs nm o i m Φ) (I : LI o h cap A ia la fi fl L R C) (r1 : 200 * (m + 1) + (426168 - smC cap) ≤ rc) (r2 : 8300 * (m + 1) + 2 * (426168 - smC cap) ≤ rs) : wl sb L0 xs (mLaw nm) 1026 [.ref sb, .ref o, .ref (o + 60), .int (zI (i : Int))] [] h rc rs Φ := by
  obtain ⟨H, hr⟩ := I
  have hT := cls_top H
  obtain ⟨c, sa, si, sl, hX⟩ := H.vx
  have hcp := cls_cap H
  have hx := ad_pd H (x_book hX.vw (ok32_of (xs (i + 1))) (ok32_of (xs (i + 2))))
  refine vw_aload_n dL_law_1026 rfl rfl ?_
  refine vw_aload_n dL_law_1027 rfl rfl ?_
  refine vw_iload_n dL_law_1028 rfl rfl ?_
  refine vw_iconst dL_law_1029 ?_
  refine vw_iadd dL_law_1030 ?_
  refine v_sld (i + 1) (by omega) (by omega) hL dL_law_1031 ?_
  refine vw_aload_n dL_law_1032 rfl rfl ?_
  refine vw_iload_n dL_law_1033 rfl rfl ?_
  refine vw_iconst dL_law_1034 ?_
  refine vw_iadd dL_law_1035 ?_
  refine v_sld (i + 2) (by omega) (by omega) hL dL_law_1036 ?_
  refine vw_callV (Z := mX9_book) (As := [_, _]) hx (cls_o H) rfl kX9_book lL_123 iX9_book vX9_book dL_law_1037 rfl rfl rfl (Nat.le_of_ble_eq_true rfl) ⟨Nat.le_of_ble_eq_true rfl, Nat.le_of_ble_eq_true rfl⟩ (by omega) (by omega) (fun v h1 q => ?_)
  obtain ⟨rfl, hF, L1, R1, C1, H1⟩ := q
  have hc1 := cls_cap H1
  have hr1 := li_frm hr hF
  have hz := ad_pr (c_book (r := o + 60) (A := A) (ia := ia) (la := la) (fi := fi) (fl := fl) (h0 := h1) hT (ok32_of (xs (i + 1))) (ok32_of (xs (i + 2))))
  refine vw_aload_n dL_law_1040 rfl rfl ?_
  refine vw_aload_n dL_law_1041 rfl rfl ?_
  refine vw_iload_n dL_law_1042 rfl rfl ?_
  refine vw_iconst dL_law_1043 ?_
  refine vw_iadd dL_law_1044 ?_
  refine v_sld (i + 1) (by omega) (by omega) hL dL_law_1045 ?_
  refine vw_aload_n dL_law_1046 rfl rfl ?_
  refine vw_iload_n dL_law_1047 rfl rfl ?_
  refine vw_iconst dL_law_1048 ?_
  refine vw_iadd dL_law_1049 ?_
  refine v_sld (i + 2) (by omega) (by omega) hL dL_law_1050 ?_
  refine v_cast (h' := RH (o + 60) A ia la fi fl h1) rfl rfl (RHP.self hr1).symm ?_
  refine vw_callV (Z := mX10_book) (As := [_, _]) hz RH0 rfl kX10_book lL_126 iX10_book vX10_book dL_law_1051 rfl rfl rfl (Nat.le_of_ble_eq_true rfl) ⟨Nat.le_of_ble_eq_true rfl, Nat.le_of_ble_eq_true rfl⟩ (Nat.zero_le _) (Nat.zero_le _) (fun v h2 q => ?_)
  obtain ⟨rfl, ia', la', fi', fl', e⟩ := q
  refine v_sameI 2113 dL_law_1054 (by decide) ?_
  exact nx_go N H1 e (by omega) (by omega)
