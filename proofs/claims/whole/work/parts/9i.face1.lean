/-! the face: what is seen of the class's now -/
/-- the class at o, what it holds at hd, the scene that is now, told by A -/
def VW (h : HP) (o hd c : Nat) (sa : Nat → Nat → Int) (si : Nat → Int) (sl : Nat → BitVec 64) (A : Nat → Int) (L R C : Nat) : Prop := (∃ kd rd pl cu aw fw : Nat, h.2 o = some (.inr (8, [.ref hd, .ref kd, .ref rd, .ref pl, .ref cu, .ref aw, .ref fw]))) ∧ (∃ n : Int, h.2 hd = some (.inr (4, hfs hd n))) ∧ SCP h (hd + 4) c sa si sl ∧ REL sa si sl A L R C ∧ CDP h c A L R C ∧ TOP A L R C
theorem x_isBit {o hd c : Nat} {sa : Nat → Nat → Int} {si : Nat → Int} {sl : Nat → BitVec 64} {h : HP} {A : Nat → Int} {L R C : Nat} {z : Int} (hW : VW h o hd c sa si sl A L R C) (hz : ok32 z) : sp mX9_isBit [.ref o, .int (zI z)] h 0 0 (pd (some (.int (zI (bI (0 ≤ z ∧ z ≤ (L : Int) * C - 1))))) h) := by
  obtain ⟨⟨kd, rd, pl, cu, aw, fw, o_o⟩, ⟨nh, o_h⟩, hS, hR, hC, hT⟩ := id hW
  have o_n : h.2 (hd + 4) = some (.inr (7, sfs (hd + 4) c si sl)) := hS 0 (by omega)
  have r_heard : h.2 (hd + 4 + 1) = some (aI 48 (sa 1)) := hS 1 (by omega)
  have r_belief : h.2 (hd + 4 + 2) = some (aI 48 (sa 2)) := hS 2 (by omega)
  have r_turned : h.2 (hd + 4 + 3) = some (aI 48 (sa 3)) := hS 3 (by omega)
  have r_message : h.2 (hd + 4 + 4) = some (aI 192 (sa 4)) := hS 4 (by omega)
  have r_book : h.2 (hd + 4 + 5) = some (aI 48 (sa 5)) := hS 5 (by omega)
  have r_order : h.2 (hd + 4 + 6) = some (aI 4 (sa 6)) := hS 6 (by omega)
  obtain ⟨ad, f7, f8, f10, f9, f11, rk, cr, hV, h6, h7, o_c, r_c_shifts, r_c_edges, r_c_bitsOf, r_c_checksOf, r_c_sums, e7, e8, e9, e10, hRD⟩ := id hC
  obtain ⟨v1, v2, v3, v4, v5, v6, v7⟩ := id hV
  obtain ⟨hI, -, hSN, hA2⟩ := id hT
  obtain ⟨⟨s1, s2, s3, s4, s5, s6⟩, ⟨g8, g9⟩, ⟨nl, l7, lb, hBK⟩, b1, b2, b3, b4, b6⟩ := id hR
  have hLC := mulLe (a := L) (b := C) (x := 6) (y := 8) (by omega) (by omega)
  have hLR := mulLe (a := L) (b := R) (x := 6) (y := 4) (by omega) (by omega)
  have hLCi : (L : Int) * C = ((L * C : Nat) : Int) := by push_cast; rfl
  have hLRi : (L : Int) * R = ((L * R : Nat) : Int) := by push_cast; rfl
  rw [hLCi]
  refine sp_wp rfl (lv := [_, _]) rfl (Nat.le_of_ble_eq_true rfl) ?_
  refine w_iload_n dX9_isBit_0 rfl rfl ?_
  refine w_if_lt 25 dX9_isBit_1 (by decide) (by first | assumption | (unfold ok32 at *; omega)) (fun h1 => ?_) (fun h1 => ?_)
  · refine w_iconst dX9_isBit_25 ?_
    refine x_iret rfl (by first | rfl | exact bI_nar _) dX9_isBit_26 ⟨?_, rfl⟩
    rw [bI_f (by omega)]
  · refine w_iload_n dX9_isBit_4 rfl rfl ?_
    refine w_aload_n dX9_isBit_5 rfl rfl ?_
    refine w_getf fX9_19 dX9_isBit_6 o_o rfl ?_
    refine w_getf fX9_89 dX9_isBit_9 o_h rfl ?_
    refine w_getf fX9_98 dX9_isBit_12 o_n rfl ?_
    refine w_getf fX9_95 dX9_isBit_15 o_c rfl ?_
    refine w_icmp_ge 25 dX9_isBit_18 (by decide) (by first | assumption | (unfold ok32 at *; omega)) (by first | assumption | (unfold ok32 at *; omega)) (fun h2 => ?_) (fun h2 => ?_)
    · refine w_iconst dX9_isBit_25 ?_
      refine x_iret rfl (by first | rfl | exact bI_nar _) dX9_isBit_26 ⟨?_, rfl⟩
      rw [bI_f (by omega)]
    · refine w_iconst dX9_isBit_21 ?_
      refine w_goto 26 dX9_isBit_22 (by decide) ?_
      refine x_iret rfl (by first | rfl | exact bI_nar _) dX9_isBit_26 ⟨?_, rfl⟩
      rw [bI_t (by omega)]
theorem x_isCheck {o hd c : Nat} {sa : Nat → Nat → Int} {si : Nat → Int} {sl : Nat → BitVec 64} {h : HP} {A : Nat → Int} {L R C : Nat} {z : Int} (hW : VW h o hd c sa si sl A L R C) (hz : ok32 z) : sp mX9_isCheck [.ref o, .int (zI z)] h 0 0 (pd (some (.int (zI (bI (0 ≤ z ∧ z ≤ (L : Int) * R - 1))))) h) := by
  obtain ⟨⟨kd, rd, pl, cu, aw, fw, o_o⟩, ⟨nh, o_h⟩, hS, hR, hC, hT⟩ := id hW
  have o_n : h.2 (hd + 4) = some (.inr (7, sfs (hd + 4) c si sl)) := hS 0 (by omega)
  have r_heard : h.2 (hd + 4 + 1) = some (aI 48 (sa 1)) := hS 1 (by omega)
  have r_belief : h.2 (hd + 4 + 2) = some (aI 48 (sa 2)) := hS 2 (by omega)
  have r_turned : h.2 (hd + 4 + 3) = some (aI 48 (sa 3)) := hS 3 (by omega)
  have r_message : h.2 (hd + 4 + 4) = some (aI 192 (sa 4)) := hS 4 (by omega)
  have r_book : h.2 (hd + 4 + 5) = some (aI 48 (sa 5)) := hS 5 (by omega)
  have r_order : h.2 (hd + 4 + 6) = some (aI 4 (sa 6)) := hS 6 (by omega)
  obtain ⟨ad, f7, f8, f10, f9, f11, rk, cr, hV, h6, h7, o_c, r_c_shifts, r_c_edges, r_c_bitsOf, r_c_checksOf, r_c_sums, e7, e8, e9, e10, hRD⟩ := id hC
  obtain ⟨v1, v2, v3, v4, v5, v6, v7⟩ := id hV
  obtain ⟨hI, -, hSN, hA2⟩ := id hT
  obtain ⟨⟨s1, s2, s3, s4, s5, s6⟩, ⟨g8, g9⟩, ⟨nl, l7, lb, hBK⟩, b1, b2, b3, b4, b6⟩ := id hR
  have hLC := mulLe (a := L) (b := C) (x := 6) (y := 8) (by omega) (by omega)
  have hLR := mulLe (a := L) (b := R) (x := 6) (y := 4) (by omega) (by omega)
  have hLCi : (L : Int) * C = ((L * C : Nat) : Int) := by push_cast; rfl
  have hLRi : (L : Int) * R = ((L * R : Nat) : Int) := by push_cast; rfl
  rw [hLRi]
  refine sp_wp rfl (lv := [_, _]) rfl (Nat.le_of_ble_eq_true rfl) ?_
  refine w_iload_n dX9_isCheck_0 rfl rfl ?_
  refine w_if_lt 25 dX9_isCheck_1 (by decide) (by first | assumption | (unfold ok32 at *; omega)) (fun h1 => ?_) (fun h1 => ?_)
  · refine w_iconst dX9_isCheck_25 ?_
    refine x_iret rfl (by first | rfl | exact bI_nar _) dX9_isCheck_26 ⟨?_, rfl⟩
    rw [bI_f (by omega)]
  · refine w_iload_n dX9_isCheck_4 rfl rfl ?_
    refine w_aload_n dX9_isCheck_5 rfl rfl ?_
    refine w_getf fX9_19 dX9_isCheck_6 o_o rfl ?_
    refine w_getf fX9_89 dX9_isCheck_9 o_h rfl ?_
    refine w_getf fX9_98 dX9_isCheck_12 o_n rfl ?_
    refine w_getf fX9_371 dX9_isCheck_15 o_c rfl ?_
    refine w_icmp_ge 25 dX9_isCheck_18 (by decide) (by first | assumption | (unfold ok32 at *; omega)) (by first | assumption | (unfold ok32 at *; omega)) (fun h2 => ?_) (fun h2 => ?_)
    · refine w_iconst dX9_isCheck_25 ?_
      refine x_iret rfl (by first | rfl | exact bI_nar _) dX9_isCheck_26 ⟨?_, rfl⟩
      rw [bI_f (by omega)]
    · refine w_iconst dX9_isCheck_21 ?_
      refine w_goto 26 dX9_isCheck_22 (by decide) ?_
      refine x_iret rfl (by first | rfl | exact bI_nar _) dX9_isCheck_26 ⟨?_, rfl⟩
      rw [bI_t (by omega)]
theorem x_isSet {o hd c : Nat} {sa : Nat → Nat → Int} {si : Nat → Int} {sl : Nat → BitVec 64} {h : HP} {A : Nat → Int} {L R C : Nat} {x : BitVec 64} (hW : VW h o hd c sa si sl A L R C) : sp mX9_isSet [.ref o, .long (lB x)] h 0 0 (pd (some (.int (zI (bI (x.sshiftRight (L * C) = 0#64))))) h) := by
  obtain ⟨⟨kd, rd, pl, cu, aw, fw, o_o⟩, ⟨nh, o_h⟩, hS, hR, hC, hT⟩ := id hW
  have o_n : h.2 (hd + 4) = some (.inr (7, sfs (hd + 4) c si sl)) := hS 0 (by omega)
  have r_heard : h.2 (hd + 4 + 1) = some (aI 48 (sa 1)) := hS 1 (by omega)
  have r_belief : h.2 (hd + 4 + 2) = some (aI 48 (sa 2)) := hS 2 (by omega)
  have r_turned : h.2 (hd + 4 + 3) = some (aI 48 (sa 3)) := hS 3 (by omega)
  have r_message : h.2 (hd + 4 + 4) = some (aI 192 (sa 4)) := hS 4 (by omega)
  have r_book : h.2 (hd + 4 + 5) = some (aI 48 (sa 5)) := hS 5 (by omega)
  have r_order : h.2 (hd + 4 + 6) = some (aI 4 (sa 6)) := hS 6 (by omega)
  obtain ⟨ad, f7, f8, f10, f9, f11, rk, cr, hV, h6, h7, o_c, r_c_shifts, r_c_edges, r_c_bitsOf, r_c_checksOf, r_c_sums, e7, e8, e9, e10, hRD⟩ := id hC
  obtain ⟨v1, v2, v3, v4, v5, v6, v7⟩ := id hV
  obtain ⟨hI, -, hSN, hA2⟩ := id hT
  obtain ⟨⟨s1, s2, s3, s4, s5, s6⟩, ⟨g8, g9⟩, ⟨nl, l7, lb, hBK⟩, b1, b2, b3, b4, b6⟩ := id hR
  have hLC := mulLe (a := L) (b := C) (x := 6) (y := 8) (by omega) (by omega)
  have hLR := mulLe (a := L) (b := R) (x := 6) (y := 4) (by omega) (by omega)
  have hLCi : (L : Int) * C = ((L * C : Nat) : Int) := by push_cast; rfl
  have hLRi : (L : Int) * R = ((L * R : Nat) : Int) := by push_cast; rfl
  refine sp_wp rfl (lv := [_, _, _]) rfl (Nat.le_of_ble_eq_true rfl) ?_
  refine w_lload_n dX9_isSet_0 rfl rfl ?_
  refine w_aload_n dX9_isSet_1 rfl rfl ?_
  refine w_getf fX9_19 dX9_isSet_2 o_o rfl ?_
  refine w_getf fX9_89 dX9_isSet_5 o_h rfl ?_
  refine w_getf fX9_98 dX9_isSet_8 o_n rfl ?_
  refine w_getf fX9_95 dX9_isSet_11 o_c rfl ?_
  refine w_lshr (L * C) rfl (by omega) dX9_isSet_14 ?_
  refine w_lconst0 dX9_isSet_15 ?_
  refine w_lc_ne 24 dX9_isSet_16 dX9_isSet_17 (by decide) (fun hc => ?_) (fun hc => ?_)
  · refine w_iconst dX9_isSet_24 ?_
    refine x_iret rfl (by first | rfl | exact bI_nar _) dX9_isSet_25 ⟨?_, rfl⟩
    rw [bI_f hc]
  · refine w_iconst dX9_isSet_20 ?_
    refine w_goto 25 dX9_isSet_21 (by decide) ?_
    refine x_iret rfl (by first | rfl | exact bI_nar _) dX9_isSet_25 ⟨?_, rfl⟩
    rw [bI_t hc]
theorem x_isOrder {o hd c : Nat} {sa : Nat → Nat → Int} {si : Nat → Int} {sl : Nat → BitVec 64} {h : HP} {A : Nat → Int} {L R C : Nat} {z : Int} (hW : VW h o hd c sa si sl A L R C) (hz : ok32 z) : sp mX9_isOrder [.ref o, .int (zI z)] h 0 0 (pd (some (.int (zI (bI (0 ≤ z ∧ z ≤ (fac R : Int) - 1))))) h) := by
  obtain ⟨⟨kd, rd, pl, cu, aw, fw, o_o⟩, ⟨nh, o_h⟩, hS, hR, hC, hT⟩ := id hW
  have o_n : h.2 (hd + 4) = some (.inr (7, sfs (hd + 4) c si sl)) := hS 0 (by omega)
  have r_heard : h.2 (hd + 4 + 1) = some (aI 48 (sa 1)) := hS 1 (by omega)
  have r_belief : h.2 (hd + 4 + 2) = some (aI 48 (sa 2)) := hS 2 (by omega)
  have r_turned : h.2 (hd + 4 + 3) = some (aI 48 (sa 3)) := hS 3 (by omega)
  have r_message : h.2 (hd + 4 + 4) = some (aI 192 (sa 4)) := hS 4 (by omega)
  have r_book : h.2 (hd + 4 + 5) = some (aI 48 (sa 5)) := hS 5 (by omega)
  have r_order : h.2 (hd + 4 + 6) = some (aI 4 (sa 6)) := hS 6 (by omega)
  obtain ⟨ad, f7, f8, f10, f9, f11, rk, cr, hV, h6, h7, o_c, r_c_shifts, r_c_edges, r_c_bitsOf, r_c_checksOf, r_c_sums, e7, e8, e9, e10, hRD⟩ := id hC
  obtain ⟨v1, v2, v3, v4, v5, v6, v7⟩ := id hV
  obtain ⟨hI, -, hSN, hA2⟩ := id hT
  obtain ⟨⟨s1, s2, s3, s4, s5, s6⟩, ⟨g8, g9⟩, ⟨nl, l7, lb, hBK⟩, b1, b2, b3, b4, b6⟩ := id hR
  have hLC := mulLe (a := L) (b := C) (x := 6) (y := 8) (by omega) (by omega)
  have hLR := mulLe (a := L) (b := R) (x := 6) (y := 4) (by omega) (by omega)
  have hLCi : (L : Int) * C = ((L * C : Nat) : Int) := by push_cast; rfl
  have hLRi : (L : Int) * R = ((L * R : Nat) : Int) := by push_cast; rfl
  have hfR : fac R ≤ 24 := fac_le (by omega)
  refine sp_wp rfl (lv := [_, _]) rfl (Nat.le_of_ble_eq_true rfl) ?_
  refine w_iload_n dX9_isOrder_0 rfl rfl ?_
  refine w_if_lt 28 dX9_isOrder_1 (by decide) (by first | assumption | (unfold ok32 at *; omega)) (fun h1 => ?_) (fun h1 => ?_)
  · refine w_iconst dX9_isOrder_28 ?_
    refine x_iret rfl (by first | rfl | exact bI_nar _) dX9_isOrder_29 ⟨?_, rfl⟩
    rw [bI_f (by omega)]
  · refine w_iload_n dX9_isOrder_4 rfl rfl ?_
    refine w_aload_n dX9_isOrder_5 rfl rfl ?_
    refine w_getf fX9_19 dX9_isOrder_6 o_o rfl ?_
    refine w_getf fX9_89 dX9_isOrder_9 o_h rfl ?_
    refine w_getf fX9_98 dX9_isOrder_12 o_n rfl ?_
    refine w_getf fX9_126 dX9_isOrder_15 o_c rfl ?_
    refine wc_S (Z := mX9_countOrders) (As := [_]) (c9_countOrders (by omega)) kX9_countOrders lX9_340 sX9_countOrders dX9_isOrder_18 rfl rfl rfl (Nat.le_of_ble_eq_true rfl) ⟨Nat.le_of_ble_eq_true rfl, Nat.le_of_ble_eq_true rfl⟩ ?_
    refine w_icmp_ge 28 dX9_isOrder_21 (by decide) (by first | assumption | (unfold ok32 at *; omega)) (by first | assumption | (unfold ok32 at *; omega)) (fun h2 => ?_) (fun h2 => ?_)
    · refine w_iconst dX9_isOrder_28 ?_
      refine x_iret rfl (by first | rfl | exact bI_nar _) dX9_isOrder_29 ⟨?_, rfl⟩
      rw [bI_f (by omega)]
    · refine w_iconst dX9_isOrder_24 ?_
      refine w_goto 29 dX9_isOrder_25 (by decide) ?_
      refine x_iret rfl (by first | rfl | exact bI_nar _) dX9_isOrder_29 ⟨?_, rfl⟩
      rw [bI_t (by omega)]
theorem x_is {o hd c : Nat} {sa : Nat → Nat → Int} {si : Nat → Int} {sl : Nat → BitVec 64} {h : HP} {A : Nat → Int} {L R C : Nat} {z : Int} (hW : VW h o hd c sa si sl A L R C) (hz : ok32 z) : sp mX9_is [.ref o, .int (zI z)] h 0 0 (pd (some (.int (zI (if 0 ≤ z ∧ z ≤ 9 then A (3 + z.toNat) else if z = 10 then ((oddN (cs A L C) (gA A (L * C)) (L * R) : Nat) : Int) else -1)))) h) := by
  obtain ⟨⟨kd, rd, pl, cu, aw, fw, o_o⟩, ⟨nh, o_h⟩, hS, hR, hC, hT⟩ := id hW
  have o_n : h.2 (hd + 4) = some (.inr (7, sfs (hd + 4) c si sl)) := hS 0 (by omega)
  have r_heard : h.2 (hd + 4 + 1) = some (aI 48 (sa 1)) := hS 1 (by omega)
  have r_belief : h.2 (hd + 4 + 2) = some (aI 48 (sa 2)) := hS 2 (by omega)
  have r_turned : h.2 (hd + 4 + 3) = some (aI 48 (sa 3)) := hS 3 (by omega)
  have r_message : h.2 (hd + 4 + 4) = some (aI 192 (sa 4)) := hS 4 (by omega)
  have r_book : h.2 (hd + 4 + 5) = some (aI 48 (sa 5)) := hS 5 (by omega)
  have r_order : h.2 (hd + 4 + 6) = some (aI 4 (sa 6)) := hS 6 (by omega)
  obtain ⟨ad, f7, f8, f10, f9, f11, rk, cr, hV, h6, h7, o_c, r_c_shifts, r_c_edges, r_c_bitsOf, r_c_checksOf, r_c_sums, e7, e8, e9, e10, hRD⟩ := id hC
  obtain ⟨v1, v2, v3, v4, v5, v6, v7⟩ := id hV
  obtain ⟨hI, -, hSN, hA2⟩ := id hT
  obtain ⟨⟨s1, s2, s3, s4, s5, s6⟩, ⟨g8, g9⟩, ⟨nl, l7, lb, hBK⟩, b1, b2, b3, b4, b6⟩ := id hR
  have hLC := mulLe (a := L) (b := C) (x := 6) (y := 8) (by omega) (by omega)
  have hLR := mulLe (a := L) (b := R) (x := 6) (y := 4) (by omega) (by omega)
  have hLCi : (L : Int) * C = ((L * C : Nat) : Int) := by push_cast; rfl
  have hLRi : (L : Int) * R = ((L * R : Nat) : Int) := by push_cast; rfl
  refine sp_wp rfl (lv := [_, _, _]) rfl (Nat.le_of_ble_eq_true rfl) ?_
  refine w_aload_n dX9_is_0 rfl rfl ?_
  refine w_getf fX9_19 dX9_is_1 o_o rfl ?_
  refine w_getf fX9_89 dX9_is_4 o_h rfl ?_
  refine w_astore_n (lv' := [_, _, _]) dX9_is_7 rfl (Nat.le_of_ble_eq_true rfl) rfl rfl ?_
  refine w_iload_n dX9_is_8 rfl rfl ?_
  by_cases hq : z < 0 ∨ 10 < z
  · refine w_tsw_out 138 dX9_is_9 hz hq (by decide) ?_
    refine w_iconst dX9_is_138 ?_
    refine x_iret rfl rfl dX9_is_139 ⟨?_, rfl⟩
    rw [if_neg (by omega), if_neg (by omega)]
  · rcases (show z = 0 ∨ z = 1 ∨ z = 2 ∨ z = 3 ∨ z = 4 ∨ z = 5 ∨ z = 6 ∨ z = 7 ∨ z = 8 ∨ z = 9 ∨ z = 10 by omega) with e | e | e | e | e | e | e | e | e | e | e <;> subst e
    · refine w_tsw_in 68 dX9_is_9 hz (by decide) (by decide) rfl (by decide) ?_
      refine w_aload_n dX9_is_68 rfl rfl ?_
      refine w_getf fX9_98 dX9_is_69 o_n rfl ?_
      refine w_getf fX9_187 dX9_is_72 o_c rfl ?_
      refine x_iret rfl rfl dX9_is_75 ⟨?_, rfl⟩
      rw [if_pos (by decide), ← v1]; rfl
    · refine w_tsw_in 76 dX9_is_9 hz (by decide) (by decide) rfl (by decide) ?_
      refine w_aload_n dX9_is_76 rfl rfl ?_
      refine w_getf fX9_98 dX9_is_77 o_n rfl ?_
      refine w_getf fX9_126 dX9_is_80 o_c rfl ?_
      refine x_iret rfl rfl dX9_is_83 ⟨?_, rfl⟩
      rw [if_pos (by decide), ← v2]; rfl
    · refine w_tsw_in 84 dX9_is_9 hz (by decide) (by decide) rfl (by decide) ?_
      refine w_aload_n dX9_is_84 rfl rfl ?_
      refine w_getf fX9_98 dX9_is_85 o_n rfl ?_
      refine w_getf fX9_119 dX9_is_88 o_c rfl ?_
      refine x_iret rfl rfl dX9_is_91 ⟨?_, rfl⟩
      rw [if_pos (by decide), ← v3]; rfl
    · refine w_tsw_in 92 dX9_is_9 hz (by decide) (by decide) rfl (by decide) ?_
      refine w_aload_n dX9_is_92 rfl rfl ?_
      refine w_getf fX9_98 dX9_is_93 o_n rfl ?_
      refine w_getf fX9_190 dX9_is_96 o_c rfl ?_
      refine x_iret rfl rfl dX9_is_99 ⟨?_, rfl⟩
      rw [if_pos (by decide)]; rfl
    · refine w_tsw_in 100 dX9_is_9 hz (by decide) (by decide) rfl (by decide) ?_
      refine w_aload_n dX9_is_100 rfl rfl ?_
      refine w_getf fX9_98 dX9_is_101 o_n rfl ?_
      refine w_getf fX9_193 dX9_is_104 o_c rfl ?_
      refine x_iret rfl rfl dX9_is_107 ⟨?_, rfl⟩
      rw [if_pos (by decide)]; rfl
    · refine w_tsw_in 108 dX9_is_9 hz (by decide) (by decide) rfl (by decide) ?_
      refine w_aload_n dX9_is_108 rfl rfl ?_
      refine w_getf fX9_163 dX9_is_109 o_n rfl ?_
      refine x_iret rfl rfl dX9_is_112 ⟨?_, rfl⟩
      rw [if_pos (by decide), s3]; rfl
    · refine w_tsw_in 113 dX9_is_9 hz (by decide) (by decide) rfl (by decide) ?_
      refine w_aload_n dX9_is_113 rfl rfl ?_
      refine w_getf fX9_150 dX9_is_114 o_n rfl ?_
      refine x_iret rfl rfl dX9_is_117 ⟨?_, rfl⟩
      rw [if_pos (by decide), s4]; rfl
    · refine w_tsw_in 118 dX9_is_9 hz (by decide) (by decide) rfl (by decide) ?_
      refine w_aload_n dX9_is_118 rfl rfl ?_
      refine w_getf fX9_196 dX9_is_119 o_n rfl ?_
      refine x_iret rfl rfl dX9_is_122 ⟨?_, rfl⟩
      rw [if_pos (by decide), s5]; rfl
    · refine w_tsw_in 123 dX9_is_9 hz (by decide) (by decide) rfl (by decide) ?_
      refine w_aload_n dX9_is_123 rfl rfl ?_
      refine w_getf fX9_199 dX9_is_124 o_n rfl ?_
      refine x_iret rfl rfl dX9_is_127 ⟨?_, rfl⟩
      rw [if_pos (by decide), s6]; rfl
    · refine w_tsw_in 128 dX9_is_9 hz (by decide) (by decide) rfl (by decide) ?_
      refine w_aload_n dX9_is_128 rfl rfl ?_
      refine w_getf fX9_184 dX9_is_129 o_n rfl ?_
      refine x_iret rfl rfl dX9_is_132 ⟨?_, rfl⟩
      rw [if_pos (by decide), s2]; rfl
    · refine w_tsw_in 133 dX9_is_9 hz (by decide) (by decide) rfl (by decide) ?_
      refine w_aload_n dX9_is_133 rfl rfl ?_
      refine w_getf fX9_202 dX9_is_134 o_n rfl ?_
      refine x_iret rfl rfl dX9_is_137 ⟨?_, rfl⟩
      rw [if_neg (by decide), if_pos rfl, g9]
theorem x_shift {o hd c : Nat} {sa : Nat → Nat → Int} {si : Nat → Int} {sl : Nat → BitVec 64} {h : HP} {A : Nat → Int} {L R C : Nat} {z x : Int} (hW : VW h o hd c sa si sl A L R C) (hz : ok32 z) (hx : ok32 x) : sp mX9_shift [.ref o, .int (zI z), .int (zI x)] h 0 0 (pd (some (.int (zI (if (0 ≤ z ∧ z ≤ (R : Int) - 1) ∧ 0 ≤ x ∧ x ≤ (C : Int) - 1 then A (14 + 8 * z.toNat + x.toNat) else -2)))) h) := by
  obtain ⟨⟨kd, rd, pl, cu, aw, fw, o_o⟩, ⟨nh, o_h⟩, hS, hR, hC, hT⟩ := id hW
  have o_n : h.2 (hd + 4) = some (.inr (7, sfs (hd + 4) c si sl)) := hS 0 (by omega)
  have r_heard : h.2 (hd + 4 + 1) = some (aI 48 (sa 1)) := hS 1 (by omega)
  have r_belief : h.2 (hd + 4 + 2) = some (aI 48 (sa 2)) := hS 2 (by omega)
  have r_turned : h.2 (hd + 4 + 3) = some (aI 48 (sa 3)) := hS 3 (by omega)
  have r_message : h.2 (hd + 4 + 4) = some (aI 192 (sa 4)) := hS 4 (by omega)
  have r_book : h.2 (hd + 4 + 5) = some (aI 48 (sa 5)) := hS 5 (by omega)
  have r_order : h.2 (hd + 4 + 6) = some (aI 4 (sa 6)) := hS 6 (by omega)
  obtain ⟨ad, f7, f8, f10, f9, f11, rk, cr, hV, h6, h7, o_c, r_c_shifts, r_c_edges, r_c_bitsOf, r_c_checksOf, r_c_sums, e7, e8, e9, e10, hRD⟩ := id hC
  obtain ⟨v1, v2, v3, v4, v5, v6, v7⟩ := id hV
  obtain ⟨hI, -, hSN, hA2⟩ := id hT
  obtain ⟨⟨s1, s2, s3, s4, s5, s6⟩, ⟨g8, g9⟩, ⟨nl, l7, lb, hBK⟩, b1, b2, b3, b4, b6⟩ := id hR
  have hLC := mulLe (a := L) (b := C) (x := 6) (y := 8) (by omega) (by omega)
  have hLR := mulLe (a := L) (b := R) (x := 6) (y := 4) (by omega) (by omega)
  have hLCi : (L : Int) * C = ((L * C : Nat) : Int) := by push_cast; rfl
  have hLRi : (L : Int) * R = ((L * R : Nat) : Int) := by push_cast; rfl
  have no : ¬ ((0 ≤ z ∧ z ≤ (R : Int) - 1) ∧ 0 ≤ x ∧ x ≤ (C : Int) - 1) → wp mX9_shift 35 [.ref o, .int (zI z), .int (zI x), .ref c] [] h 0 0 (pd (some (.int (zI (if (0 ≤ z ∧ z ≤ (R : Int) - 1) ∧ 0 ≤ x ∧ x ≤ (C : Int) - 1 then A (14 + 8 * z.toNat + x.toNat) else -2)))) h) := by
    intro hn
    refine w_bipush dX9_shift_35 (by decide) ?_
    refine x_iret rfl rfl dX9_shift_37 ⟨?_, rfl⟩
    rw [if_neg hn]
  refine sp_wp rfl (lv := [_, _, _, _]) rfl (Nat.le_of_ble_eq_true rfl) ?_
  refine w_aload_n dX9_shift_0 rfl rfl ?_
  refine w_getf fX9_19 dX9_shift_1 o_o rfl ?_
  refine w_getf fX9_89 dX9_shift_4 o_h rfl ?_
  refine w_getf fX9_98 dX9_shift_7 o_n rfl ?_
  refine w_astore_n (lv' := [_, _, _, _]) dX9_shift_10 rfl (Nat.le_of_ble_eq_true rfl) rfl rfl ?_
  refine w_iload_n dX9_shift_11 rfl rfl ?_
  refine w_if_lt 35 dX9_shift_12 (by decide) (by first | assumption | (unfold ok32 at *; omega)) (fun h1 => ?_) (fun h1 => ?_)
  · exact no (by omega)
  refine w_iload_n dX9_shift_15 rfl rfl ?_
  refine w_aload_n dX9_shift_16 rfl rfl ?_
  refine w_getf fX9_126 dX9_shift_17 o_c rfl ?_
  refine w_icmp_ge 35 dX9_shift_20 (by decide) (by first | assumption | (unfold ok32 at *; omega)) (by first | assumption | (unfold ok32 at *; omega)) (fun h2 => ?_) (fun h2 => ?_)
  · exact no (by omega)
  refine w_iload_n dX9_shift_23 rfl rfl ?_
  refine w_if_lt 35 dX9_shift_24 (by decide) (by first | assumption | (unfold ok32 at *; omega)) (fun h3 => ?_) (fun h3 => ?_)
  · exact no (by omega)
  refine w_iload_n dX9_shift_27 rfl rfl ?_
  refine w_aload_n dX9_shift_28 rfl rfl ?_
  refine w_getf fX9_119 dX9_shift_29 o_c rfl ?_
  refine w_icmp_lt 38 dX9_shift_32 (by decide) (by first | assumption | (unfold ok32 at *; omega)) (by first | assumption | (unfold ok32 at *; omega)) (fun h4 => ?_) (fun h4 => ?_)
  · have e1 : z = (z.toNat : Int) := by omega
    have e2 : x = (x.toNat : Int) := by omega
    rw [if_pos (by omega), ← e7 z.toNat (by omega) x.toNat (by omega)]
    refine w_aload_n dX9_shift_38 rfl rfl ?_
    refine w_getf fX9_205 dX9_shift_39 o_c rfl ?_
    refine w_iload_n dX9_shift_42 rfl rfl ?_
    refine w_bipush dX9_shift_43 (by decide) ?_
    refine w_imul dX9_shift_45 ?_
    refine w_iload_n dX9_shift_46 rfl rfl ?_
    refine w_iadd dX9_shift_47 ?_
    refine w_iald (8 * z.toNat + x.toNat) r_c_shifts (by first | rfl | omega | (push_cast; rfl) | (push_cast; omega)) (by omega) (by decide) dX9_shift_48 ?_
    refine x_iret rfl rfl dX9_shift_49 ⟨?_, rfl⟩
    rfl
  · exact no (by omega)
theorem x_layer {o hd c : Nat} {sa : Nat → Nat → Int} {si : Nat → Int} {sl : Nat → BitVec 64} {h : HP} {A : Nat → Int} {L R C : Nat} {z : Int} (hW : VW h o hd c sa si sl A L R C) (hz : ok32 z) : sp mX9_layer [.ref o, .int (zI z)] h 0 0 (pd (some (.int (zI (if 0 ≤ z ∧ z ≤ (R : Int) - 1 then ((lay R (A 13).toNat z.toNat : Nat) : Int) else -1)))) h) := by
  obtain ⟨⟨kd, rd, pl, cu, aw, fw, o_o⟩, ⟨nh, o_h⟩, hS, hR, hC, hT⟩ := id hW
  have o_n : h.2 (hd + 4) = some (.inr (7, sfs (hd + 4) c si sl)) := hS 0 (by omega)
  have r_heard : h.2 (hd + 4 + 1) = some (aI 48 (sa 1)) := hS 1 (by omega)
  have r_belief : h.2 (hd + 4 + 2) = some (aI 48 (sa 2)) := hS 2 (by omega)
  have r_turned : h.2 (hd + 4 + 3) = some (aI 48 (sa 3)) := hS 3 (by omega)
  have r_message : h.2 (hd + 4 + 4) = some (aI 192 (sa 4)) := hS 4 (by omega)
  have r_book : h.2 (hd + 4 + 5) = some (aI 48 (sa 5)) := hS 5 (by omega)
  have r_order : h.2 (hd + 4 + 6) = some (aI 4 (sa 6)) := hS 6 (by omega)
  obtain ⟨ad, f7, f8, f10, f9, f11, rk, cr, hV, h6, h7, o_c, r_c_shifts, r_c_edges, r_c_bitsOf, r_c_checksOf, r_c_sums, e7, e8, e9, e10, hRD⟩ := id hC
  obtain ⟨v1, v2, v3, v4, v5, v6, v7⟩ := id hV
  obtain ⟨hI, -, hSN, hA2⟩ := id hT
  obtain ⟨⟨s1, s2, s3, s4, s5, s6⟩, ⟨g8, g9⟩, ⟨nl, l7, lb, hBK⟩, b1, b2, b3, b4, b6⟩ := id hR
  have hLC := mulLe (a := L) (b := C) (x := 6) (y := 8) (by omega) (by omega)
  have hLR := mulLe (a := L) (b := R) (x := 6) (y := 4) (by omega) (by omega)
  have hLCi : (L : Int) * C = ((L * C : Nat) : Int) := by push_cast; rfl
  have hLRi : (L : Int) * R = ((L * R : Nat) : Int) := by push_cast; rfl
  refine sp_wp rfl (lv := [_, _]) rfl (Nat.le_of_ble_eq_true rfl) ?_
  refine w_iload_n dX9_layer_0 rfl rfl ?_
  refine w_if_lt 21 dX9_layer_1 (by decide) (by first | assumption | (unfold ok32 at *; omega)) (fun h1 => ?_) (fun h1 => ?_)
  · refine w_iconst dX9_layer_21 ?_
    refine w_goto 37 dX9_layer_22 (by decide) ?_
    refine x_iret rfl rfl dX9_layer_37 ⟨?_, rfl⟩
    rw [if_neg (by omega)]
  · refine w_iload_n dX9_layer_4 rfl rfl ?_
    refine w_aload_n dX9_layer_5 rfl rfl ?_
    refine w_getf fX9_19 dX9_layer_6 o_o rfl ?_
    refine w_getf fX9_89 dX9_layer_9 o_h rfl ?_
    refine w_getf fX9_98 dX9_layer_12 o_n rfl ?_
    refine w_getf fX9_126 dX9_layer_15 o_c rfl ?_
    refine w_icmp_lt 25 dX9_layer_18 (by decide) (by first | assumption | (unfold ok32 at *; omega)) (by first | assumption | (unfold ok32 at *; omega)) (fun h2 => ?_) (fun h2 => ?_)
    · have e1 : z = (z.toNat : Int) := by omega
      rw [if_pos (by omega), ← b6 z.toNat (by omega)]
      refine w_aload_n dX9_layer_25 rfl rfl ?_
      refine w_getf fX9_19 dX9_layer_26 o_o rfl ?_
      refine w_getf fX9_89 dX9_layer_29 o_h rfl ?_
      refine w_getf fX9_156 dX9_layer_32 o_n rfl ?_
      refine w_iload_n dX9_layer_35 rfl rfl ?_
      refine w_iald (z.toNat) r_order (by first | rfl | omega | (push_cast; rfl) | (push_cast; omega)) (by omega) (by decide) dX9_layer_36 ?_
      refine x_iret rfl rfl dX9_layer_37 ⟨?_, rfl⟩
      rfl
    · refine w_iconst dX9_layer_21 ?_
      refine w_goto 37 dX9_layer_22 (by decide) ?_
      refine x_iret rfl rfl dX9_layer_37 ⟨?_, rfl⟩
      rw [if_neg (by omega)]
theorem x_guess {o hd c : Nat} {sa : Nat → Nat → Int} {si : Nat → Int} {sl : Nat → BitVec 64} {h : HP} {A : Nat → Int} {L R C : Nat} (hW : VW h o hd c sa si sl A L R C) : sp mX9_guess [.ref o] h 0 0 (pd (some (.long (lB (gA A (L * C))))) h) := by
  obtain ⟨⟨kd, rd, pl, cu, aw, fw, o_o⟩, ⟨nh, o_h⟩, hS, hR, hC, hT⟩ := id hW
  have o_n : h.2 (hd + 4) = some (.inr (7, sfs (hd + 4) c si sl)) := hS 0 (by omega)
  have r_heard : h.2 (hd + 4 + 1) = some (aI 48 (sa 1)) := hS 1 (by omega)
  have r_belief : h.2 (hd + 4 + 2) = some (aI 48 (sa 2)) := hS 2 (by omega)
  have r_turned : h.2 (hd + 4 + 3) = some (aI 48 (sa 3)) := hS 3 (by omega)
  have r_message : h.2 (hd + 4 + 4) = some (aI 192 (sa 4)) := hS 4 (by omega)
  have r_book : h.2 (hd + 4 + 5) = some (aI 48 (sa 5)) := hS 5 (by omega)
  have r_order : h.2 (hd + 4 + 6) = some (aI 4 (sa 6)) := hS 6 (by omega)
  obtain ⟨ad, f7, f8, f10, f9, f11, rk, cr, hV, h6, h7, o_c, r_c_shifts, r_c_edges, r_c_bitsOf, r_c_checksOf, r_c_sums, e7, e8, e9, e10, hRD⟩ := id hC
  obtain ⟨v1, v2, v3, v4, v5, v6, v7⟩ := id hV
  obtain ⟨hI, -, hSN, hA2⟩ := id hT
  obtain ⟨⟨s1, s2, s3, s4, s5, s6⟩, ⟨g8, g9⟩, ⟨nl, l7, lb, hBK⟩, b1, b2, b3, b4, b6⟩ := id hR
  have hLC := mulLe (a := L) (b := C) (x := 6) (y := 8) (by omega) (by omega)
  have hLR := mulLe (a := L) (b := R) (x := 6) (y := 4) (by omega) (by omega)
  have hLCi : (L : Int) * C = ((L * C : Nat) : Int) := by push_cast; rfl
  have hLRi : (L : Int) * R = ((L * R : Nat) : Int) := by push_cast; rfl
  refine sp_wp rfl (lv := [_]) rfl (Nat.le_of_ble_eq_true rfl) ?_
  refine w_aload_n dX9_guess_0 rfl rfl ?_
  refine w_getf fX9_19 dX9_guess_1 o_o rfl ?_
  refine w_getf fX9_89 dX9_guess_4 o_h rfl ?_
  refine w_getf fX9_229 dX9_guess_7 o_n rfl ?_
  refine x_lret rfl dX9_guess_10 ⟨?_, rfl⟩
  rw [g8]
theorem x_sent {o hd c : Nat} {sa : Nat → Nat → Int} {si : Nat → Int} {sl : Nat → BitVec 64} {h : HP} {A : Nat → Int} {L R C : Nat} (hW : VW h o hd c sa si sl A L R C) : sp mX9_sent [.ref o] h 0 0 (pd (some (.long (lB (sentB A)))) h) := by
  obtain ⟨⟨kd, rd, pl, cu, aw, fw, o_o⟩, ⟨nh, o_h⟩, hS, hR, hC, hT⟩ := id hW
  have o_n : h.2 (hd + 4) = some (.inr (7, sfs (hd + 4) c si sl)) := hS 0 (by omega)
  have r_heard : h.2 (hd + 4 + 1) = some (aI 48 (sa 1)) := hS 1 (by omega)
  have r_belief : h.2 (hd + 4 + 2) = some (aI 48 (sa 2)) := hS 2 (by omega)
  have r_turned : h.2 (hd + 4 + 3) = some (aI 48 (sa 3)) := hS 3 (by omega)
  have r_message : h.2 (hd + 4 + 4) = some (aI 192 (sa 4)) := hS 4 (by omega)
  have r_book : h.2 (hd + 4 + 5) = some (aI 48 (sa 5)) := hS 5 (by omega)
  have r_order : h.2 (hd + 4 + 6) = some (aI 4 (sa 6)) := hS 6 (by omega)
  obtain ⟨ad, f7, f8, f10, f9, f11, rk, cr, hV, h6, h7, o_c, r_c_shifts, r_c_edges, r_c_bitsOf, r_c_checksOf, r_c_sums, e7, e8, e9, e10, hRD⟩ := id hC
  obtain ⟨v1, v2, v3, v4, v5, v6, v7⟩ := id hV
  obtain ⟨hI, -, hSN, hA2⟩ := id hT
  obtain ⟨⟨s1, s2, s3, s4, s5, s6⟩, ⟨g8, g9⟩, ⟨nl, l7, lb, hBK⟩, b1, b2, b3, b4, b6⟩ := id hR
  have hLC := mulLe (a := L) (b := C) (x := 6) (y := 8) (by omega) (by omega)
  have hLR := mulLe (a := L) (b := R) (x := 6) (y := 4) (by omega) (by omega)
  have hLCi : (L : Int) * C = ((L * C : Nat) : Int) := by push_cast; rfl
  have hLRi : (L : Int) * R = ((L * R : Nat) : Int) := by push_cast; rfl
  refine sp_wp rfl (lv := [_]) rfl (Nat.le_of_ble_eq_true rfl) ?_
  refine w_aload_n dX9_sent_0 rfl rfl ?_
  refine w_getf fX9_19 dX9_sent_1 o_o rfl ?_
  refine w_getf fX9_89 dX9_sent_4 o_h rfl ?_
  refine w_getf fX9_109 dX9_sent_7 o_n rfl ?_
  refine x_lret rfl dX9_sent_10 ⟨?_, rfl⟩
  rw [s1]
theorem x_wrong {o hd c : Nat} {sa : Nat → Nat → Int} {si : Nat → Int} {sl : Nat → BitVec 64} {h : HP} {A : Nat → Int} {L R C : Nat} (hW : VW h o hd c sa si sl A L R C) : sp mX9_wrong [.ref o] h 0 0 (pd (some (.int (zI (((pop (gA A (L * C) ^^^ sentB A) : Nat) : Int))))) h) := by
  obtain ⟨⟨kd, rd, pl, cu, aw, fw, o_o⟩, ⟨nh, o_h⟩, hS, hR, hC, hT⟩ := id hW
  have o_n : h.2 (hd + 4) = some (.inr (7, sfs (hd + 4) c si sl)) := hS 0 (by omega)
  have r_heard : h.2 (hd + 4 + 1) = some (aI 48 (sa 1)) := hS 1 (by omega)
  have r_belief : h.2 (hd + 4 + 2) = some (aI 48 (sa 2)) := hS 2 (by omega)
  have r_turned : h.2 (hd + 4 + 3) = some (aI 48 (sa 3)) := hS 3 (by omega)
  have r_message : h.2 (hd + 4 + 4) = some (aI 192 (sa 4)) := hS 4 (by omega)
  have r_book : h.2 (hd + 4 + 5) = some (aI 48 (sa 5)) := hS 5 (by omega)
  have r_order : h.2 (hd + 4 + 6) = some (aI 4 (sa 6)) := hS 6 (by omega)
  obtain ⟨ad, f7, f8, f10, f9, f11, rk, cr, hV, h6, h7, o_c, r_c_shifts, r_c_edges, r_c_bitsOf, r_c_checksOf, r_c_sums, e7, e8, e9, e10, hRD⟩ := id hC
  obtain ⟨v1, v2, v3, v4, v5, v6, v7⟩ := id hV
  obtain ⟨hI, -, hSN, hA2⟩ := id hT
  obtain ⟨⟨s1, s2, s3, s4, s5, s6⟩, ⟨g8, g9⟩, ⟨nl, l7, lb, hBK⟩, b1, b2, b3, b4, b6⟩ := id hR
  have hLC := mulLe (a := L) (b := C) (x := 6) (y := 8) (by omega) (by omega)
  have hLR := mulLe (a := L) (b := R) (x := 6) (y := 4) (by omega) (by omega)
  have hLCi : (L : Int) * C = ((L * C : Nat) : Int) := by push_cast; rfl
  have hLRi : (L : Int) * R = ((L * R : Nat) : Int) := by push_cast; rfl
  refine sp_wp rfl (lv := [_]) rfl (Nat.le_of_ble_eq_true rfl) ?_
  refine w_aload_n dX9_wrong_0 rfl rfl ?_
  refine w_getf fX9_19 dX9_wrong_1 o_o rfl ?_
  refine w_getf fX9_89 dX9_wrong_4 o_h rfl ?_
  refine w_getf fX9_229 dX9_wrong_7 o_n rfl ?_
  refine w_aload_n dX9_wrong_10 rfl rfl ?_
  refine w_getf fX9_19 dX9_wrong_11 o_o rfl ?_
  refine w_getf fX9_89 dX9_wrong_14 o_h rfl ?_
  refine w_getf fX9_109 dX9_wrong_17 o_n rfl ?_
  refine w_lxor dX9_wrong_20 ?_
  refine wc_S (Z := mJ13_bitCount_95d88) (As := [_]) c_bitCount kJ13_bitCount_95d88 lX9_113 sJ13_bitCount_95d88 dX9_wrong_21 rfl rfl rfl (Nat.le_of_ble_eq_true rfl) ⟨Nat.le_of_ble_eq_true rfl, Nat.le_of_ble_eq_true rfl⟩ ?_
  refine x_iret rfl rfl dX9_wrong_24 ⟨?_, rfl⟩
  rw [g8, s1]
theorem x_rank {o hd c : Nat} {sa : Nat → Nat → Int} {si : Nat → Int} {sl : Nat → BitVec 64} {h : HP} {A : Nat → Int} {L R C : Nat} {q0 : Nat → BitVec 64} (hW : VW h o hd c sa si sl A L R C) : sp mX9_rank [.ref o] h 0 0 (pd (some (.int (zI ((((lsR A q0 L R C).2.2 : Nat) : Int))))) h) := by
  obtain ⟨⟨kd, rd, pl, cu, aw, fw, o_o⟩, ⟨nh, o_h⟩, hS, hR, hC, hT⟩ := id hW
  have o_n : h.2 (hd + 4) = some (.inr (7, sfs (hd + 4) c si sl)) := hS 0 (by omega)
  have r_heard : h.2 (hd + 4 + 1) = some (aI 48 (sa 1)) := hS 1 (by omega)
  have r_belief : h.2 (hd + 4 + 2) = some (aI 48 (sa 2)) := hS 2 (by omega)
  have r_turned : h.2 (hd + 4 + 3) = some (aI 48 (sa 3)) := hS 3 (by omega)
  have r_message : h.2 (hd + 4 + 4) = some (aI 192 (sa 4)) := hS 4 (by omega)
  have r_book : h.2 (hd + 4 + 5) = some (aI 48 (sa 5)) := hS 5 (by omega)
  have r_order : h.2 (hd + 4 + 6) = some (aI 4 (sa 6)) := hS 6 (by omega)
  obtain ⟨ad, f7, f8, f10, f9, f11, rk, cr, hV, h6, h7, o_c, r_c_shifts, r_c_edges, r_c_bitsOf, r_c_checksOf, r_c_sums, e7, e8, e9, e10, hRD⟩ := id hC
  obtain ⟨v1, v2, v3, v4, v5, v6, v7⟩ := id hV
  obtain ⟨hI, -, hSN, hA2⟩ := id hT
  obtain ⟨⟨s1, s2, s3, s4, s5, s6⟩, ⟨g8, g9⟩, ⟨nl, l7, lb, hBK⟩, b1, b2, b3, b4, b6⟩ := id hR
  have hLC := mulLe (a := L) (b := C) (x := 6) (y := 8) (by omega) (by omega)
  have hLR := mulLe (a := L) (b := R) (x := 6) (y := 4) (by omega) (by omega)
  have hLCi : (L : Int) * C = ((L * C : Nat) : Int) := by push_cast; rfl
  have hLRi : (L : Int) * R = ((L * R : Nat) : Int) := by push_cast; rfl
  refine sp_wp rfl (lv := [_]) rfl (Nat.le_of_ble_eq_true rfl) ?_
  refine w_aload_n dX9_rank_0 rfl rfl ?_
  refine w_getf fX9_19 dX9_rank_1 o_o rfl ?_
  refine w_getf fX9_89 dX9_rank_4 o_h rfl ?_
  refine w_getf fX9_98 dX9_rank_7 o_n rfl ?_
  refine w_getf fX9_102 dX9_rank_10 o_c rfl ?_
  refine x_iret rfl rfl dX9_rank_13 ⟨?_, rfl⟩
  rw [(hRD q0).1]
theorem x_girth {o hd c : Nat} {sa : Nat → Nat → Int} {si : Nat → Int} {sl : Nat → BitVec 64} {h : HP} {A : Nat → Int} {L R C : Nat} (hW : VW h o hd c sa si sl A L R C) : sp mX9_girth [.ref o] h 0 0 (pd (some (.int (zI (gr1 (ringV A L R C) C (L * R))))) h) := by
  obtain ⟨⟨kd, rd, pl, cu, aw, fw, o_o⟩, ⟨nh, o_h⟩, hS, hR, hC, hT⟩ := id hW
  have o_n : h.2 (hd + 4) = some (.inr (7, sfs (hd + 4) c si sl)) := hS 0 (by omega)
  have r_heard : h.2 (hd + 4 + 1) = some (aI 48 (sa 1)) := hS 1 (by omega)
  have r_belief : h.2 (hd + 4 + 2) = some (aI 48 (sa 2)) := hS 2 (by omega)
  have r_turned : h.2 (hd + 4 + 3) = some (aI 48 (sa 3)) := hS 3 (by omega)
  have r_message : h.2 (hd + 4 + 4) = some (aI 192 (sa 4)) := hS 4 (by omega)
  have r_book : h.2 (hd + 4 + 5) = some (aI 48 (sa 5)) := hS 5 (by omega)
  have r_order : h.2 (hd + 4 + 6) = some (aI 4 (sa 6)) := hS 6 (by omega)
  obtain ⟨ad, f7, f8, f10, f9, f11, rk, cr, hV, h6, h7, o_c, r_c_shifts, r_c_edges, r_c_bitsOf, r_c_checksOf, r_c_sums, e7, e8, e9, e10, hRD⟩ := id hC
  obtain ⟨v1, v2, v3, v4, v5, v6, v7⟩ := id hV
  obtain ⟨hI, -, hSN, hA2⟩ := id hT
  obtain ⟨⟨s1, s2, s3, s4, s5, s6⟩, ⟨g8, g9⟩, ⟨nl, l7, lb, hBK⟩, b1, b2, b3, b4, b6⟩ := id hR
  have hLC := mulLe (a := L) (b := C) (x := 6) (y := 8) (by omega) (by omega)
  have hLR := mulLe (a := L) (b := R) (x := 6) (y := 4) (by omega) (by omega)
  have hLCi : (L : Int) * C = ((L * C : Nat) : Int) := by push_cast; rfl
  have hLRi : (L : Int) * R = ((L * R : Nat) : Int) := by push_cast; rfl
  refine sp_wp rfl (lv := [_]) rfl (Nat.le_of_ble_eq_true rfl) ?_
  refine w_aload_n dX9_girth_0 rfl rfl ?_
  refine w_getf fX9_19 dX9_girth_1 o_o rfl ?_
  refine w_getf fX9_89 dX9_girth_4 o_h rfl ?_
  refine w_getf fX9_98 dX9_girth_7 o_n rfl ?_
  refine wc_S (Z := mX4_shortestRing) (As := [_]) (c4_shortestRing hC) kX4_shortestRing lX9_259 sX4_shortestRing dX9_girth_10 rfl rfl rfl (Nat.le_of_ble_eq_true rfl) ⟨Nat.le_of_ble_eq_true rfl, Nat.le_of_ble_eq_true rfl⟩ ?_
  refine x_iret rfl rfl dX9_girth_13 ⟨?_, rfl⟩
  rfl
theorem x_fours {o hd c : Nat} {sa : Nat → Nat → Int} {si : Nat → Int} {sl : Nat → BitVec 64} {h : HP} {A : Nat → Int} {L R C : Nat} (hW : VW h o hd c sa si sl A L R C) : sp mX9_fours [.ref o] h 0 0 (pd (some (.int (zI (((fr1 (fun c e => pop (cs A L C c &&& cs A L C e)) (L * R) : Nat) : Int))))) h) := by
  obtain ⟨⟨kd, rd, pl, cu, aw, fw, o_o⟩, ⟨nh, o_h⟩, hS, hR, hC, hT⟩ := id hW
  have o_n : h.2 (hd + 4) = some (.inr (7, sfs (hd + 4) c si sl)) := hS 0 (by omega)
  have r_heard : h.2 (hd + 4 + 1) = some (aI 48 (sa 1)) := hS 1 (by omega)
  have r_belief : h.2 (hd + 4 + 2) = some (aI 48 (sa 2)) := hS 2 (by omega)
  have r_turned : h.2 (hd + 4 + 3) = some (aI 48 (sa 3)) := hS 3 (by omega)
  have r_message : h.2 (hd + 4 + 4) = some (aI 192 (sa 4)) := hS 4 (by omega)
  have r_book : h.2 (hd + 4 + 5) = some (aI 48 (sa 5)) := hS 5 (by omega)
  have r_order : h.2 (hd + 4 + 6) = some (aI 4 (sa 6)) := hS 6 (by omega)
  obtain ⟨ad, f7, f8, f10, f9, f11, rk, cr, hV, h6, h7, o_c, r_c_shifts, r_c_edges, r_c_bitsOf, r_c_checksOf, r_c_sums, e7, e8, e9, e10, hRD⟩ := id hC
  obtain ⟨v1, v2, v3, v4, v5, v6, v7⟩ := id hV
  obtain ⟨hI, -, hSN, hA2⟩ := id hT
  obtain ⟨⟨s1, s2, s3, s4, s5, s6⟩, ⟨g8, g9⟩, ⟨nl, l7, lb, hBK⟩, b1, b2, b3, b4, b6⟩ := id hR
  have hLC := mulLe (a := L) (b := C) (x := 6) (y := 8) (by omega) (by omega)
  have hLR := mulLe (a := L) (b := R) (x := 6) (y := 4) (by omega) (by omega)
  have hLCi : (L : Int) * C = ((L * C : Nat) : Int) := by push_cast; rfl
  have hLRi : (L : Int) * R = ((L * R : Nat) : Int) := by push_cast; rfl
  refine sp_wp rfl (lv := [_]) rfl (Nat.le_of_ble_eq_true rfl) ?_
  refine w_aload_n dX9_fours_0 rfl rfl ?_
  refine w_getf fX9_19 dX9_fours_1 o_o rfl ?_
  refine w_getf fX9_89 dX9_fours_4 o_h rfl ?_
  refine w_getf fX9_98 dX9_fours_7 o_n rfl ?_
  refine wc_S (Z := mX4_countFours) (As := [_]) (c4_countFours hC) kX4_countFours lX9_265 sX4_countFours dX9_fours_10 rfl rfl rfl (Nat.le_of_ble_eq_true rfl) ⟨Nat.le_of_ble_eq_true rfl, Nat.le_of_ble_eq_true rfl⟩ ?_
  refine x_iret rfl rfl dX9_fours_13 ⟨?_, rfl⟩
  rfl
theorem x_sixes {o hd c : Nat} {sa : Nat → Nat → Int} {si : Nat → Int} {sl : Nat → BitVec 64} {h : HP} {A : Nat → Int} {L R C : Nat} (hW : VW h o hd c sa si sl A L R C) : sp mX9_sixes [.ref o] h 0 0 (pd (some (.int (zI (((ss1 (fun c e g => sxV (cs A L C c) (cs A L C e) (cs A L C g)) (L * R) : Nat) : Int))))) h) := by
  obtain ⟨⟨kd, rd, pl, cu, aw, fw, o_o⟩, ⟨nh, o_h⟩, hS, hR, hC, hT⟩ := id hW
  have o_n : h.2 (hd + 4) = some (.inr (7, sfs (hd + 4) c si sl)) := hS 0 (by omega)
  have r_heard : h.2 (hd + 4 + 1) = some (aI 48 (sa 1)) := hS 1 (by omega)
  have r_belief : h.2 (hd + 4 + 2) = some (aI 48 (sa 2)) := hS 2 (by omega)
  have r_turned : h.2 (hd + 4 + 3) = some (aI 48 (sa 3)) := hS 3 (by omega)
  have r_message : h.2 (hd + 4 + 4) = some (aI 192 (sa 4)) := hS 4 (by omega)
  have r_book : h.2 (hd + 4 + 5) = some (aI 48 (sa 5)) := hS 5 (by omega)
  have r_order : h.2 (hd + 4 + 6) = some (aI 4 (sa 6)) := hS 6 (by omega)
  obtain ⟨ad, f7, f8, f10, f9, f11, rk, cr, hV, h6, h7, o_c, r_c_shifts, r_c_edges, r_c_bitsOf, r_c_checksOf, r_c_sums, e7, e8, e9, e10, hRD⟩ := id hC
  obtain ⟨v1, v2, v3, v4, v5, v6, v7⟩ := id hV
  obtain ⟨hI, -, hSN, hA2⟩ := id hT
  obtain ⟨⟨s1, s2, s3, s4, s5, s6⟩, ⟨g8, g9⟩, ⟨nl, l7, lb, hBK⟩, b1, b2, b3, b4, b6⟩ := id hR
  have hLC := mulLe (a := L) (b := C) (x := 6) (y := 8) (by omega) (by omega)
  have hLR := mulLe (a := L) (b := R) (x := 6) (y := 4) (by omega) (by omega)
  have hLCi : (L : Int) * C = ((L * C : Nat) : Int) := by push_cast; rfl
  have hLRi : (L : Int) * R = ((L * R : Nat) : Int) := by push_cast; rfl
  refine sp_wp rfl (lv := [_]) rfl (Nat.le_of_ble_eq_true rfl) ?_
  refine w_aload_n dX9_sixes_0 rfl rfl ?_
  refine w_getf fX9_19 dX9_sixes_1 o_o rfl ?_
  refine w_getf fX9_89 dX9_sixes_4 o_h rfl ?_
  refine w_getf fX9_98 dX9_sixes_7 o_n rfl ?_
  refine wc_S (Z := mX4_countSixes) (As := [_]) (c4_countSixes hC) kX4_countSixes lX9_268 sX4_countSixes dX9_sixes_10 rfl rfl rfl (Nat.le_of_ble_eq_true rfl) ⟨Nat.le_of_ble_eq_true rfl, Nat.le_of_ble_eq_true rfl⟩ ?_
  refine x_iret rfl rfl dX9_sixes_13 ⟨?_, rfl⟩
  rfl
theorem x_pieces {o hd c : Nat} {sa : Nat → Nat → Int} {si : Nat → Int} {sl : Nat → BitVec 64} {h : HP} {A : Nat → Int} {L R C : Nat} (hW : VW h o hd c sa si sl A L R C) : sp mX9_pieces [.ref o] h 0 0 (pd (some (.int (zI (pcF (cs A L C) (L * R) 64 ((1#64 <<< (L * C)) - 1#64) 0)))) h) := by
  obtain ⟨⟨kd, rd, pl, cu, aw, fw, o_o⟩, ⟨nh, o_h⟩, hS, hR, hC, hT⟩ := id hW
  have o_n : h.2 (hd + 4) = some (.inr (7, sfs (hd + 4) c si sl)) := hS 0 (by omega)
  have r_heard : h.2 (hd + 4 + 1) = some (aI 48 (sa 1)) := hS 1 (by omega)
  have r_belief : h.2 (hd + 4 + 2) = some (aI 48 (sa 2)) := hS 2 (by omega)
  have r_turned : h.2 (hd + 4 + 3) = some (aI 48 (sa 3)) := hS 3 (by omega)
  have r_message : h.2 (hd + 4 + 4) = some (aI 192 (sa 4)) := hS 4 (by omega)
  have r_book : h.2 (hd + 4 + 5) = some (aI 48 (sa 5)) := hS 5 (by omega)
  have r_order : h.2 (hd + 4 + 6) = some (aI 4 (sa 6)) := hS 6 (by omega)
  obtain ⟨ad, f7, f8, f10, f9, f11, rk, cr, hV, h6, h7, o_c, r_c_shifts, r_c_edges, r_c_bitsOf, r_c_checksOf, r_c_sums, e7, e8, e9, e10, hRD⟩ := id hC
  obtain ⟨v1, v2, v3, v4, v5, v6, v7⟩ := id hV
  obtain ⟨hI, -, hSN, hA2⟩ := id hT
  obtain ⟨⟨s1, s2, s3, s4, s5, s6⟩, ⟨g8, g9⟩, ⟨nl, l7, lb, hBK⟩, b1, b2, b3, b4, b6⟩ := id hR
  have hLC := mulLe (a := L) (b := C) (x := 6) (y := 8) (by omega) (by omega)
  have hLR := mulLe (a := L) (b := R) (x := 6) (y := 4) (by omega) (by omega)
  have hLCi : (L : Int) * C = ((L * C : Nat) : Int) := by push_cast; rfl
  have hLRi : (L : Int) * R = ((L * R : Nat) : Int) := by push_cast; rfl
  refine sp_wp rfl (lv := [_]) rfl (Nat.le_of_ble_eq_true rfl) ?_
  refine w_aload_n dX9_pieces_0 rfl rfl ?_
  refine w_getf fX9_19 dX9_pieces_1 o_o rfl ?_
  refine w_getf fX9_89 dX9_pieces_4 o_h rfl ?_
  refine w_getf fX9_98 dX9_pieces_7 o_n rfl ?_
  refine wc_S (Z := mX4_countPieces) (As := [_]) (c4_countPieces hC) kX4_countPieces lX9_275 sX4_countPieces dX9_pieces_10 rfl rfl rfl (Nat.le_of_ble_eq_true rfl) ⟨Nat.le_of_ble_eq_true rfl, Nat.le_of_ble_eq_true rfl⟩ ?_
  refine x_iret rfl rfl dX9_pieces_13 ⟨?_, rfl⟩
  rfl
theorem x_odds {o hd c : Nat} {sa : Nat → Nat → Int} {si : Nat → Int} {sl : Nat → BitVec 64} {h : HP} {A : Nat → Int} {L R C : Nat} {x : BitVec 64} (hW : VW h o hd c sa si sl A L R C) : sp mX9_odds [.ref o, .long (lB x)] h 0 0 (pd (some (.int (zI (if x.sshiftRight (L * C) = 0#64 then ((oddN (cs A L C) x (L * R) : Nat) : Int) else -1)))) h) := by
  obtain ⟨⟨kd, rd, pl, cu, aw, fw, o_o⟩, ⟨nh, o_h⟩, hS, hR, hC, hT⟩ := id hW
  have o_n : h.2 (hd + 4) = some (.inr (7, sfs (hd + 4) c si sl)) := hS 0 (by omega)
  have r_heard : h.2 (hd + 4 + 1) = some (aI 48 (sa 1)) := hS 1 (by omega)
  have r_belief : h.2 (hd + 4 + 2) = some (aI 48 (sa 2)) := hS 2 (by omega)
  have r_turned : h.2 (hd + 4 + 3) = some (aI 48 (sa 3)) := hS 3 (by omega)
  have r_message : h.2 (hd + 4 + 4) = some (aI 192 (sa 4)) := hS 4 (by omega)
  have r_book : h.2 (hd + 4 + 5) = some (aI 48 (sa 5)) := hS 5 (by omega)
  have r_order : h.2 (hd + 4 + 6) = some (aI 4 (sa 6)) := hS 6 (by omega)
  obtain ⟨ad, f7, f8, f10, f9, f11, rk, cr, hV, h6, h7, o_c, r_c_shifts, r_c_edges, r_c_bitsOf, r_c_checksOf, r_c_sums, e7, e8, e9, e10, hRD⟩ := id hC
  obtain ⟨v1, v2, v3, v4, v5, v6, v7⟩ := id hV
  obtain ⟨hI, -, hSN, hA2⟩ := id hT
  obtain ⟨⟨s1, s2, s3, s4, s5, s6⟩, ⟨g8, g9⟩, ⟨nl, l7, lb, hBK⟩, b1, b2, b3, b4, b6⟩ := id hR
  have hLC := mulLe (a := L) (b := C) (x := 6) (y := 8) (by omega) (by omega)
  have hLR := mulLe (a := L) (b := R) (x := 6) (y := 4) (by omega) (by omega)
  have hLCi : (L : Int) * C = ((L * C : Nat) : Int) := by push_cast; rfl
  have hLRi : (L : Int) * R = ((L * R : Nat) : Int) := by push_cast; rfl
  refine sp_wp rfl (lv := [_, _, _]) rfl (Nat.le_of_ble_eq_true rfl) ?_
  refine w_aload_n dX9_odds_0 rfl rfl ?_
  refine w_lload_n dX9_odds_1 rfl rfl ?_
  refine wc_V (Z := mX9_isSet) (As := [_]) (x_isSet hW) o_o rfl kX9_isSet lX9_278 iX9_isSet vX9_isSet dX9_odds_2 rfl rfl rfl (Nat.le_of_ble_eq_true rfl) ⟨Nat.le_of_ble_eq_true rfl, Nat.le_of_ble_eq_true rfl⟩ ?_
  refine w_ifb_eq 25 dX9_odds_5 (by decide) (fun hc => ?_) (fun hc => ?_)
  · rw [if_neg hc]
    refine w_iconst dX9_odds_25 ?_
    refine x_iret rfl rfl dX9_odds_26 ⟨?_, rfl⟩
    rfl
  · rw [if_pos hc]
    refine w_aload_n dX9_odds_8 rfl rfl ?_
    refine w_getf fX9_19 dX9_odds_9 o_o rfl ?_
    refine w_getf fX9_89 dX9_odds_12 o_h rfl ?_
    refine w_getf fX9_98 dX9_odds_15 o_n rfl ?_
    refine w_lload_n dX9_odds_18 rfl rfl ?_
    refine wc_V (Z := mX2_countOdd) (As := [_]) (c2_countOdd hC) o_c rfl kX2_countOdd lX9_281 iX2_countOdd vX2_countOdd dX9_odds_19 rfl rfl rfl (Nat.le_of_ble_eq_true rfl) ⟨Nat.le_of_ble_eq_true rfl, Nat.le_of_ble_eq_true rfl⟩ ?_
    refine w_goto 26 dX9_odds_22 (by decide) ?_
    refine x_iret rfl rfl dX9_odds_26 ⟨?_, rfl⟩
    rfl
theorem x_turned {o hd c : Nat} {sa : Nat → Nat → Int} {si : Nat → Int} {sl : Nat → BitVec 64} {h : HP} {A : Nat → Int} {L R C : Nat} {z : Int} (hW : VW h o hd c sa si sl A L R C) (hz : ok32 z) : sp mX9_turned [.ref o, .int (zI z)] h 0 0 (pd (some (.int (zI (if 0 ≤ z ∧ z ≤ (L : Int) * C - 1 then A (385 + z.toNat) else -1)))) h) := by
  obtain ⟨⟨kd, rd, pl, cu, aw, fw, o_o⟩, ⟨nh, o_h⟩, hS, hR, hC, hT⟩ := id hW
  have o_n : h.2 (hd + 4) = some (.inr (7, sfs (hd + 4) c si sl)) := hS 0 (by omega)
  have r_heard : h.2 (hd + 4 + 1) = some (aI 48 (sa 1)) := hS 1 (by omega)
  have r_belief : h.2 (hd + 4 + 2) = some (aI 48 (sa 2)) := hS 2 (by omega)
  have r_turned : h.2 (hd + 4 + 3) = some (aI 48 (sa 3)) := hS 3 (by omega)
  have r_message : h.2 (hd + 4 + 4) = some (aI 192 (sa 4)) := hS 4 (by omega)
  have r_book : h.2 (hd + 4 + 5) = some (aI 48 (sa 5)) := hS 5 (by omega)
  have r_order : h.2 (hd + 4 + 6) = some (aI 4 (sa 6)) := hS 6 (by omega)
  obtain ⟨ad, f7, f8, f10, f9, f11, rk, cr, hV, h6, h7, o_c, r_c_shifts, r_c_edges, r_c_bitsOf, r_c_checksOf, r_c_sums, e7, e8, e9, e10, hRD⟩ := id hC
  obtain ⟨v1, v2, v3, v4, v5, v6, v7⟩ := id hV
  obtain ⟨hI, -, hSN, hA2⟩ := id hT
  obtain ⟨⟨s1, s2, s3, s4, s5, s6⟩, ⟨g8, g9⟩, ⟨nl, l7, lb, hBK⟩, b1, b2, b3, b4, b6⟩ := id hR
  have hLC := mulLe (a := L) (b := C) (x := 6) (y := 8) (by omega) (by omega)
  have hLR := mulLe (a := L) (b := R) (x := 6) (y := 4) (by omega) (by omega)
  have hLCi : (L : Int) * C = ((L * C : Nat) : Int) := by push_cast; rfl
  have hLRi : (L : Int) * R = ((L * R : Nat) : Int) := by push_cast; rfl
  refine sp_wp rfl (lv := [_, _]) rfl (Nat.le_of_ble_eq_true rfl) ?_
  refine w_aload_n dX9_turned_0 rfl rfl ?_
  refine w_iload_n dX9_turned_1 rfl rfl ?_
  refine wc_V (Z := mX9_isBit) (As := [_]) (x_isBit hW hz) o_o rfl kX9_isBit lX9_129 iX9_isBit vX9_isBit dX9_turned_2 rfl rfl rfl (Nat.le_of_ble_eq_true rfl) ⟨Nat.le_of_ble_eq_true rfl, Nat.le_of_ble_eq_true rfl⟩ ?_
  refine w_ifb_eq 23 dX9_turned_5 (by decide) (fun hc => ?_) (fun hc => ?_)
  · rw [if_neg hc]
    refine w_iconst dX9_turned_23 ?_
    refine x_iret rfl rfl dX9_turned_24 ⟨?_, rfl⟩
    rfl
  · rw [if_pos hc, ← b3 z.toNat (by omega)]
    refine w_aload_n dX9_turned_8 rfl rfl ?_
    refine w_getf fX9_19 dX9_turned_9 o_o rfl ?_
    refine w_getf fX9_89 dX9_turned_12 o_h rfl ?_
    refine w_getf fX9_256 dX9_turned_15 o_n rfl ?_
    refine w_iload_n dX9_turned_18 rfl rfl ?_
    refine w_iald (z.toNat) r_turned (by first | rfl | omega | (push_cast; rfl) | (push_cast; omega)) (by omega) (by decide) dX9_turned_19 ?_
    refine w_goto 24 dX9_turned_20 (by decide) ?_
    refine x_iret rfl rfl dX9_turned_24 ⟨?_, rfl⟩
    rfl
theorem x_both {o hd c : Nat} {sa : Nat → Nat → Int} {si : Nat → Int} {sl : Nat → BitVec 64} {h : HP} {A : Nat → Int} {L R C : Nat} {z x : Int} (hW : VW h o hd c sa si sl A L R C) (hz : ok32 z) (hx : ok32 x) : sp mX9_both [.ref o, .int (zI z), .int (zI x)] h 0 0 (pd (some (.int (zI (if (0 ≤ z ∧ z ≤ (L : Int) * R - 1) ∧ (0 ≤ x ∧ x ≤ (L : Int) * R - 1) then ((pop (cs A L C z.toNat &&& cs A L C x.toNat) : Nat) : Int) else -1)))) h) := by
  obtain ⟨⟨kd, rd, pl, cu, aw, fw, o_o⟩, ⟨nh, o_h⟩, hS, hR, hC, hT⟩ := id hW
  have o_n : h.2 (hd + 4) = some (.inr (7, sfs (hd + 4) c si sl)) := hS 0 (by omega)
  have r_heard : h.2 (hd + 4 + 1) = some (aI 48 (sa 1)) := hS 1 (by omega)
  have r_belief : h.2 (hd + 4 + 2) = some (aI 48 (sa 2)) := hS 2 (by omega)
  have r_turned : h.2 (hd + 4 + 3) = some (aI 48 (sa 3)) := hS 3 (by omega)
  have r_message : h.2 (hd + 4 + 4) = some (aI 192 (sa 4)) := hS 4 (by omega)
  have r_book : h.2 (hd + 4 + 5) = some (aI 48 (sa 5)) := hS 5 (by omega)
  have r_order : h.2 (hd + 4 + 6) = some (aI 4 (sa 6)) := hS 6 (by omega)
  obtain ⟨ad, f7, f8, f10, f9, f11, rk, cr, hV, h6, h7, o_c, r_c_shifts, r_c_edges, r_c_bitsOf, r_c_checksOf, r_c_sums, e7, e8, e9, e10, hRD⟩ := id hC
  obtain ⟨v1, v2, v3, v4, v5, v6, v7⟩ := id hV
  obtain ⟨hI, -, hSN, hA2⟩ := id hT
  obtain ⟨⟨s1, s2, s3, s4, s5, s6⟩, ⟨g8, g9⟩, ⟨nl, l7, lb, hBK⟩, b1, b2, b3, b4, b6⟩ := id hR
  have hLC := mulLe (a := L) (b := C) (x := 6) (y := 8) (by omega) (by omega)
  have hLR := mulLe (a := L) (b := R) (x := 6) (y := 4) (by omega) (by omega)
  have hLCi : (L : Int) * C = ((L * C : Nat) : Int) := by push_cast; rfl
  have hLRi : (L : Int) * R = ((L * R : Nat) : Int) := by push_cast; rfl
  refine sp_wp rfl (lv := [_, _, _, _]) rfl (Nat.le_of_ble_eq_true rfl) ?_
  refine w_aload_n dX9_both_0 rfl rfl ?_
  refine w_iload_n dX9_both_1 rfl rfl ?_
  refine wc_V (Z := mX9_isCheck) (As := [_]) (x_isCheck hW hz) o_o rfl kX9_isCheck lX9_208 iX9_isCheck vX9_isCheck dX9_both_2 rfl rfl rfl (Nat.le_of_ble_eq_true rfl) ⟨Nat.le_of_ble_eq_true rfl, Nat.le_of_ble_eq_true rfl⟩ ?_
  refine w_ifb_eq 16 dX9_both_5 (by decide) (fun hc => ?_) (fun hc => ?_)
  · rw [if_neg (fun q => hc q.1)]
    refine w_iconst dX9_both_16 ?_
    refine x_iret rfl rfl dX9_both_17 ⟨?_, rfl⟩
    rfl
  · refine w_aload_n dX9_both_8 rfl rfl ?_
    refine w_iload_n dX9_both_9 rfl rfl ?_
    refine wc_V (Z := mX9_isCheck) (As := [_]) (x_isCheck hW hx) o_o rfl kX9_isCheck lX9_208 iX9_isCheck vX9_isCheck dX9_both_10 rfl rfl rfl (Nat.le_of_ble_eq_true rfl) ⟨Nat.le_of_ble_eq_true rfl, Nat.le_of_ble_eq_true rfl⟩ ?_
    refine w_ifb_ne 18 dX9_both_13 (by decide) (fun hd2 => ?_) (fun hd2 => ?_)
    · rw [if_pos ⟨hc, hd2⟩, ← e9 z.toNat (by omega), ← e9 x.toNat (by omega)]
      refine w_aload_n dX9_both_18 rfl rfl ?_
      refine w_getf fX9_19 dX9_both_19 o_o rfl ?_
      refine w_getf fX9_89 dX9_both_22 o_h rfl ?_
      refine w_getf fX9_98 dX9_both_25 o_n rfl ?_
      refine w_astore_n (lv' := [_, _, _, _]) dX9_both_28 rfl (Nat.le_of_ble_eq_true rfl) rfl rfl ?_
      refine w_aload_n dX9_both_29 rfl rfl ?_
      refine w_getf fX9_211 dX9_both_30 o_c rfl ?_
      refine w_iload_n dX9_both_33 rfl rfl ?_
      refine w_lald (z.toNat) r_c_bitsOf (by first | rfl | omega | (push_cast; rfl) | (push_cast; omega)) (by omega) (by decide) dX9_both_34 ?_
      refine w_aload_n dX9_both_35 rfl rfl ?_
      refine w_getf fX9_211 dX9_both_36 o_c rfl ?_
      refine w_iload_n dX9_both_39 rfl rfl ?_
      refine w_lald (x.toNat) r_c_bitsOf (by first | rfl | omega | (push_cast; rfl) | (push_cast; omega)) (by omega) (by decide) dX9_both_40 ?_
      refine w_land dX9_both_41 ?_
      refine wc_S (Z := mJ13_bitCount_95d88) (As := [_]) c_bitCount kJ13_bitCount_95d88 lX9_113 sJ13_bitCount_95d88 dX9_both_42 rfl rfl rfl (Nat.le_of_ble_eq_true rfl) ⟨Nat.le_of_ble_eq_true rfl, Nat.le_of_ble_eq_true rfl⟩ ?_
      refine x_iret rfl rfl dX9_both_45 ⟨?_, rfl⟩
      rfl
    · rw [if_neg (fun q => hd2 q.2)]
      refine w_iconst dX9_both_16 ?_
      refine x_iret rfl rfl dX9_both_17 ⟨?_, rfl⟩
      rfl
theorem x_odd {o hd c : Nat} {sa : Nat → Nat → Int} {si : Nat → Int} {sl : Nat → BitVec 64} {h : HP} {A : Nat → Int} {L R C : Nat} {z : Int} (hW : VW h o hd c sa si sl A L R C) (hz : ok32 z) : sp mX9_odd [.ref o, .int (zI z)] h 0 0 (pd (some (.int (zI (bI ((0 ≤ z ∧ z ≤ (L : Int) * R - 1) ∧ pop (cs A L C z.toNat &&& gA A (L * C)) % 2 = 1))))) h) := by
  obtain ⟨⟨kd, rd, pl, cu, aw, fw, o_o⟩, ⟨nh, o_h⟩, hS, hR, hC, hT⟩ := id hW
  have o_n : h.2 (hd + 4) = some (.inr (7, sfs (hd + 4) c si sl)) := hS 0 (by omega)
  have r_heard : h.2 (hd + 4 + 1) = some (aI 48 (sa 1)) := hS 1 (by omega)
  have r_belief : h.2 (hd + 4 + 2) = some (aI 48 (sa 2)) := hS 2 (by omega)
  have r_turned : h.2 (hd + 4 + 3) = some (aI 48 (sa 3)) := hS 3 (by omega)
  have r_message : h.2 (hd + 4 + 4) = some (aI 192 (sa 4)) := hS 4 (by omega)
  have r_book : h.2 (hd + 4 + 5) = some (aI 48 (sa 5)) := hS 5 (by omega)
  have r_order : h.2 (hd + 4 + 6) = some (aI 4 (sa 6)) := hS 6 (by omega)
  obtain ⟨ad, f7, f8, f10, f9, f11, rk, cr, hV, h6, h7, o_c, r_c_shifts, r_c_edges, r_c_bitsOf, r_c_checksOf, r_c_sums, e7, e8, e9, e10, hRD⟩ := id hC
  obtain ⟨v1, v2, v3, v4, v5, v6, v7⟩ := id hV
  obtain ⟨hI, -, hSN, hA2⟩ := id hT
  obtain ⟨⟨s1, s2, s3, s4, s5, s6⟩, ⟨g8, g9⟩, ⟨nl, l7, lb, hBK⟩, b1, b2, b3, b4, b6⟩ := id hR
  have hLC := mulLe (a := L) (b := C) (x := 6) (y := 8) (by omega) (by omega)
  have hLR := mulLe (a := L) (b := R) (x := 6) (y := 4) (by omega) (by omega)
  have hLCi : (L : Int) * C = ((L * C : Nat) : Int) := by push_cast; rfl
  have hLRi : (L : Int) * R = ((L * R : Nat) : Int) := by push_cast; rfl
  refine sp_wp rfl (lv := [_, _]) rfl (Nat.le_of_ble_eq_true rfl) ?_
  refine w_aload_n dX9_odd_0 rfl rfl ?_
  refine w_iload_n dX9_odd_1 rfl rfl ?_
  refine wc_V (Z := mX9_isCheck) (As := [_]) (x_isCheck hW hz) o_o rfl kX9_isCheck lX9_208 iX9_isCheck vX9_isCheck dX9_odd_2 rfl rfl rfl (Nat.le_of_ble_eq_true rfl) ⟨Nat.le_of_ble_eq_true rfl, Nat.le_of_ble_eq_true rfl⟩ ?_
  refine w_ifb_eq 44 dX9_odd_5 (by decide) (fun hc => ?_) (fun hc => ?_)
  · rw [bI_f (fun q => hc q.1)]
    refine w_iconst dX9_odd_44 ?_
    refine x_iret rfl (by first | rfl | exact bI_nar _) dX9_odd_45 ⟨?_, rfl⟩
    rfl
  · rw [← g8, ← e9 z.toNat (by omega)]
    refine w_aload_n dX9_odd_8 rfl rfl ?_
    refine w_getf fX9_19 dX9_odd_9 o_o rfl ?_
    refine w_getf fX9_89 dX9_odd_12 o_h rfl ?_
    refine w_getf fX9_98 dX9_odd_15 o_n rfl ?_
    refine w_getf fX9_211 dX9_odd_18 o_c rfl ?_
    refine w_iload_n dX9_odd_21 rfl rfl ?_
    refine w_lald (z.toNat) r_c_bitsOf (by first | rfl | omega | (push_cast; rfl) | (push_cast; omega)) (by omega) (by decide) dX9_odd_22 ?_
    refine w_aload_n dX9_odd_23 rfl rfl ?_
    refine w_getf fX9_19 dX9_odd_24 o_o rfl ?_
    refine w_getf fX9_89 dX9_odd_27 o_h rfl ?_
    refine w_getf fX9_229 dX9_odd_30 o_n rfl ?_
    refine w_land dX9_odd_33 ?_
    refine wc_S (Z := mX9_isOdd) (As := [_]) c9_isOdd kX9_isOdd lX9_241 sX9_isOdd dX9_odd_34 rfl rfl rfl (Nat.le_of_ble_eq_true rfl) ⟨Nat.le_of_ble_eq_true rfl, Nat.le_of_ble_eq_true rfl⟩ ?_
    refine w_ifb_eq 44 dX9_odd_37 (by decide) (fun hd2 => ?_) (fun hd2 => ?_)
    · rw [bI_f (fun q => hd2 q.2)]
      refine w_iconst dX9_odd_44 ?_
      refine x_iret rfl (by first | rfl | exact bI_nar _) dX9_odd_45 ⟨?_, rfl⟩
      rfl
    · rw [bI_t ⟨hc, hd2⟩]
      refine w_iconst dX9_odd_40 ?_
      refine w_goto 45 dX9_odd_41 (by decide) ?_
      refine x_iret rfl (by first | rfl | exact bI_nar _) dX9_odd_45 ⟨?_, rfl⟩
      rfl

