/-! the class's graph: fours, sixes, pieces, peel -/
theorem f2_le {p : Nat → Nat → Nat} {a K : Nat} (h : ∀ b, p a b ≤ K) : ∀ {b : Nat}, f2 p a b ≤ b * K
  | 0 => Nat.zero_le _
  | b + 1 => by
    have ih := f2_le h (b := b)
    have := h b
    rw [f2, Nat.add_mul]
    split <;> omega
theorem t2_le {p : Nat → Nat → Nat} {m K : Nat} (h : ∀ a b, p a b ≤ K) : ∀ {a : Nat}, t2 p m a ≤ a * (m * K)
  | 0 => Nat.zero_le _
  | a + 1 => by
    have ih := t2_le h (m := m) (a := a)
    have := f2_le (h a) (b := m)
    rw [t2, Nat.add_mul]
    omega
theorem tri_le {p : Nat} (h : p ≤ 64) : p * (p - 1) / 2 ≤ 2016 := by
  have h1 : p * (p - 1) ≤ 64 * 63 := Nat.mul_le_mul h (by omega)
  omega
def frP (cs : Nat → BitVec 64) : Nat → Nat → Nat := fun a b => pop (cs a &&& cs b) * (pop (cs a &&& cs b) - 1) / 2
theorem frP_le {cs : Nat → BitVec 64} (a b : Nat) : frP cs a b ≤ 2016 := tri_le (pop_le _)
theorem fours_is {cs : Nat → BitVec 64} {m : Nat} : t2 (frP cs) m m = fr1 (fun c e => pop (cs c &&& cs e)) m := by
  rw [t2_s2, fr1_s2]
  refine s2_c fun i j _ _ => ?_
  unfold frP
  rw [BitVec.and_comm]
set_option maxRecDepth 4000 in
theorem c4_countFours {h : HP} {c : Nat} {B : Nat → Int} {L R C : Nat} (hC : CDP h c B L R C) : sp mX4_countFours [.ref c] h 0 0 (pd (some (.int (zI ((fr1 (fun c e => pop (cs B L C c &&& cs B L C e)) (L * R) : Nat) : Int)))) h) := by
  obtain ⟨ad, f7, f8, f10, f9, f11, rk, cr, hV, h6, h7, o_c, r_c_shifts, r_c_edges, r_c_bitsOf, r_c_checksOf, r_c_sums, e7, e8, e9, e10, hRD⟩ := id hC
  obtain ⟨v1, v2, v3, v4, v5, v6, v7⟩ := id hV
  have hLC := mulLe (a := L) (b := C) (x := 6) (y := 8) (by omega) (by omega)
  have hLR := mulLe (a := L) (b := R) (x := 6) (y := 4) (by omega) (by omega)
  rw [← fours_is]
  have hm : L * R ≤ 24 := by omega
  obtain ⟨V, hVV⟩ : ∃ V, t2 (frP (cs B L C)) (L * R) (L * R) = V := ⟨_, rfl⟩
  rw [hVV]
  refine sp_wp rfl (lv := [_, _, _, _, _]) rfl (Nat.le_of_ble_eq_true rfl) ?_
  refine w_iconst dX4_countFours_0 ?_
  refine w_istore_n (lv' := [_, _, _, _, _]) dX4_countFours_1 rfl (Nat.le_of_ble_eq_true rfl) rfl rfl ?_
  refine w_iconst dX4_countFours_2 ?_
  refine w_istore_n (lv' := [_, _, _, _, _]) dX4_countFours_3 rfl (Nat.le_of_ble_eq_true rfl) rfl rfl ?_
  have key : ∀ k, k ≤ L * R → ∀ x3 x4 : Value, wp mX4_countFours 4 [.ref c, .int (zI ((t2 (frP (cs B L C)) (L * R) k : Nat) : Int)), .int (zI (k : Int)), x3, x4] [] h 0 0 (pd (some (.int (zI (V : Int)))) h) := by
    refine up_ind (P := fun k => ∀ x3 x4 : Value, wp mX4_countFours 4 [.ref c, .int (zI ((t2 (frP (cs B L C)) (L * R) k : Nat) : Int)), .int (zI (k : Int)), x3, x4] [] h 0 0 (pd (some (.int (zI (V : Int)))) h)) (fun k hk ih x3 x4 => ?_)
    refine w_iload_n dX4_countFours_4 rfl rfl ?_
    refine w_aload_n dX4_countFours_5 rfl rfl ?_
    refine w_getf fX4_9 dX4_countFours_6 o_c rfl ?_
    refine w_icmp_ge 66 dX4_countFours_9 (by decide) (by first | assumption | (unfold ok32 at *; omega)) (by first | assumption | (unfold ok32 at *; omega)) (fun hc => ?_) (fun hc => ?_)
    · refine w_iload_n dX4_countFours_66 rfl rfl ?_
      refine x_iret rfl rfl dX4_countFours_67 ⟨?_, rfl⟩
      rw [show k = L * R by omega, hVV]
    · refine w_iload_n dX4_countFours_12 rfl rfl ?_
      refine w_iconst dX4_countFours_13 ?_
      refine w_iadd dX4_countFours_14 ?_
      refine w_istore_n (lv' := [_, _, _, _, _]) dX4_countFours_15 rfl (Nat.le_of_ble_eq_true rfl) rfl rfl ?_
      have key2 : ∀ j, j ≤ L * R → k + 1 ≤ j → ∀ x4 : Value, wp mX4_countFours 16 [.ref c, .int (zI ((t2 (frP (cs B L C)) (L * R) k + f2 (frP (cs B L C)) k j : Nat) : Int)), .int (zI (k : Int)), .int (zI (j : Int)), x4] [] h 0 0 (pd (some (.int (zI (V : Int)))) h) := by
        refine up_ind (P := fun j => k + 1 ≤ j → ∀ x4 : Value, wp mX4_countFours 16 [.ref c, .int (zI ((t2 (frP (cs B L C)) (L * R) k + f2 (frP (cs B L C)) k j : Nat) : Int)), .int (zI (k : Int)), .int (zI (j : Int)), x4] [] h 0 0 (pd (some (.int (zI (V : Int)))) h)) (fun j hj ih2 hkj x4 => ?_)
        refine w_iload_n dX4_countFours_16 rfl rfl ?_
        refine w_aload_n dX4_countFours_17 rfl rfl ?_
        refine w_getf fX4_9 dX4_countFours_18 o_c rfl ?_
        refine w_icmp_ge 60 dX4_countFours_21 (by decide) (by first | assumption | (unfold ok32 at *; omega)) (by first | assumption | (unfold ok32 at *; omega)) (fun hd => ?_) (fun hd => ?_)
        · refine w_iinc (lv' := [_, _, _, _, _]) dX4_countFours_60 rfl rfl rfl ?_
          refine w_goto 4 dX4_countFours_63 (by decide) ?_
          refine w_cast ?_ rfl rfl (ih (by omega) (.int (zI (j : Int))) x4)
          rw [t2, show j = L * R by omega]
          rfl
        · refine w_aload_n dX4_countFours_24 rfl rfl ?_
          refine w_getf fX4_15 dX4_countFours_25 o_c rfl ?_
          refine w_iload_n dX4_countFours_28 rfl rfl ?_
          refine w_lald (k) r_c_bitsOf (by first | rfl | omega | (push_cast; rfl) | (push_cast; omega)) (by omega) (by decide) dX4_countFours_29 ?_
          rw [e9 k (by omega)]
          refine w_aload_n dX4_countFours_30 rfl rfl ?_
          refine w_getf fX4_15 dX4_countFours_31 o_c rfl ?_
          refine w_iload_n dX4_countFours_34 rfl rfl ?_
          refine w_lald (j) r_c_bitsOf (by first | rfl | omega | (push_cast; rfl) | (push_cast; omega)) (by omega) (by decide) dX4_countFours_35 ?_
          rw [e9 j (by omega)]
          refine w_land dX4_countFours_36 ?_
          refine wc_S (Z := mJ13_bitCount_95d88) (As := [_]) c_bitCount kJ13_bitCount_95d88 lX4_34 sJ13_bitCount_95d88 dX4_countFours_37 rfl rfl rfl (Nat.le_of_ble_eq_true rfl) ⟨Nat.le_of_ble_eq_true rfl, Nat.le_of_ble_eq_true rfl⟩ ?_
          obtain ⟨p, hp⟩ : ∃ p, pop (cs B L C k &&& cs B L C j) = p := ⟨_, rfl⟩
          have hp64 : p ≤ 64 := by rw [← hp]; exact pop_le _
          rw [hp]
          refine w_istore (lv' := [_, _, _, _, _]) dX4_countFours_40 (Nat.le_of_ble_eq_true rfl) rfl rfl ?_
          refine w_iload_n dX4_countFours_42 rfl rfl ?_
          refine w_iload dX4_countFours_43 rfl ?_
          refine w_iload dX4_countFours_45 rfl ?_
          refine w_iconst dX4_countFours_47 ?_
          refine w_isub dX4_countFours_48 ?_
          refine w_imul dX4_countFours_49 ?_
          rw [tri]
          have htl : p * (p - 1) ≤ 64 * 63 := Nat.mul_le_mul hp64 (by omega)
          refine w_iconst dX4_countFours_50 ?_
          refine w_idiv dX4_countFours_51 (by unfold ok32; omega) (by omega) (by omega) (by unfold ok32; omega) ?_
          refine w_iadd dX4_countFours_52 ?_
          refine w_istore_n (lv' := [_, _, _, _, _]) dX4_countFours_53 rfl (Nat.le_of_ble_eq_true rfl) rfl rfl ?_
          refine w_iinc (lv' := [_, _, _, _, _]) dX4_countFours_54 rfl rfl rfl ?_
          refine w_goto 16 dX4_countFours_57 (by decide) ?_
          refine w_cast ?_ rfl rfl (ih2 (by omega) (by omega) (.int (zI (p : Int))))
          rw [f2, if_pos (show k < j by omega)]
          unfold frP
          rw [hp, ← Nat.add_assoc]
          push_cast
          rfl
      refine w_cast ?_ rfl rfl (key2 (k + 1) (by omega) (Nat.le_refl _) x4)
      rw [f2_0 (Nat.le_refl _)]
      rfl
  exact key 0 (Nat.zero_le _) jk jk
def sxP (cs : Nat → BitVec 64) : Nat → Nat → Nat → Nat := fun a b c => sxV (cs a) (cs b) (cs c)
theorem sxV_sym {a b c : BitVec 64} : sxV a b c = sxV c b a := by
  have h1 := sxV_is (a := a) (b := b) (c := c)
  have h2 := sxV_is (a := c) (b := b) (c := a)
  have e1 : c &&& b &&& a = a &&& b &&& c := by rw [BitVec.and_comm c b, BitVec.and_comm (b &&& c) a, BitVec.and_assoc]
  rw [e1, BitVec.and_comm c b, BitVec.and_comm b a, BitVec.and_comm a c] at h2
  have e2 : (pop (b &&& c) : Int) * (pop (a &&& b) : Int) * (pop (c &&& a) : Int) = (pop (a &&& b) : Int) * (pop (b &&& c) : Int) * (pop (c &&& a) : Int) := by rw [Int.mul_comm (pop (b &&& c) : Int)]
  have e3 : (pop (b &&& c) : Int) + (pop (a &&& b) : Int) + (pop (c &&& a) : Int) = (pop (a &&& b) : Int) + (pop (b &&& c) : Int) + (pop (c &&& a) : Int) := by omega
  rw [e2, e3, ← h1] at h2
  omega
theorem sixes_is {cs : Nat → BitVec 64} {m : Nat} : t3 (sxP cs) m m = ss1 (fun c e g => sxV (cs c) (cs e) (cs g)) m := by
  rw [t3_s3, ss1_s3]
  refine s3_c fun i j k _ _ _ => ?_
  exact sxV_sym
theorem c4_sixesOf {h : HP} {a b c : BitVec 64} : sp mX4_sixesOf [.long (lB a), .long (lB b), .long (lB c)] h 0 0 (pd (some (.int (zI ((sxV a b c : Nat) : Int)))) h) := by
  refine sp_wp rfl (lv := [_, _, _, _, _, _, _, _, _, _]) rfl (Nat.le_of_ble_eq_true rfl) ?_
  refine w_lload_n dX4_sixesOf_0 rfl rfl ?_
  refine w_lload_n dX4_sixesOf_1 rfl rfl ?_
  refine w_land dX4_sixesOf_2 ?_
  refine wc_S (Z := mJ13_bitCount_95d88) (As := [_]) c_bitCount kJ13_bitCount_95d88 lX4_34 sJ13_bitCount_95d88 dX4_sixesOf_3 rfl rfl rfl (Nat.le_of_ble_eq_true rfl) ⟨Nat.le_of_ble_eq_true rfl, Nat.le_of_ble_eq_true rfl⟩ ?_
  refine w_istore (lv' := [_, _, _, _, _, _, _, _, _, _]) dX4_sixesOf_6 (Nat.le_of_ble_eq_true rfl) rfl rfl ?_
  refine w_lload_n dX4_sixesOf_8 rfl rfl ?_
  refine w_lload dX4_sixesOf_9 rfl ?_
  refine w_land dX4_sixesOf_11 ?_
  refine wc_S (Z := mJ13_bitCount_95d88) (As := [_]) c_bitCount kJ13_bitCount_95d88 lX4_34 sJ13_bitCount_95d88 dX4_sixesOf_12 rfl rfl rfl (Nat.le_of_ble_eq_true rfl) ⟨Nat.le_of_ble_eq_true rfl, Nat.le_of_ble_eq_true rfl⟩ ?_
  refine w_istore (lv' := [_, _, _, _, _, _, _, _, _, _]) dX4_sixesOf_15 (Nat.le_of_ble_eq_true rfl) rfl rfl ?_
  refine w_lload_n dX4_sixesOf_17 rfl rfl ?_
  refine w_lload dX4_sixesOf_18 rfl ?_
  refine w_land dX4_sixesOf_20 ?_
  refine wc_S (Z := mJ13_bitCount_95d88) (As := [_]) c_bitCount kJ13_bitCount_95d88 lX4_34 sJ13_bitCount_95d88 dX4_sixesOf_21 rfl rfl rfl (Nat.le_of_ble_eq_true rfl) ⟨Nat.le_of_ble_eq_true rfl, Nat.le_of_ble_eq_true rfl⟩ ?_
  refine w_istore (lv' := [_, _, _, _, _, _, _, _, _, _]) dX4_sixesOf_24 (Nat.le_of_ble_eq_true rfl) rfl rfl ?_
  refine w_lload_n dX4_sixesOf_26 rfl rfl ?_
  refine w_lload_n dX4_sixesOf_27 rfl rfl ?_
  refine w_land dX4_sixesOf_28 ?_
  refine w_lload dX4_sixesOf_29 rfl ?_
  refine w_land dX4_sixesOf_31 ?_
  refine wc_S (Z := mJ13_bitCount_95d88) (As := [_]) c_bitCount kJ13_bitCount_95d88 lX4_34 sJ13_bitCount_95d88 dX4_sixesOf_32 rfl rfl rfl (Nat.le_of_ble_eq_true rfl) ⟨Nat.le_of_ble_eq_true rfl, Nat.le_of_ble_eq_true rfl⟩ ?_
  refine w_istore (lv' := [_, _, _, _, _, _, _, _, _, _]) dX4_sixesOf_35 (Nat.le_of_ble_eq_true rfl) rfl rfl ?_
  refine w_iload dX4_sixesOf_37 rfl ?_
  refine w_iload dX4_sixesOf_39 rfl ?_
  refine w_imul dX4_sixesOf_41 ?_
  refine w_iload dX4_sixesOf_42 rfl ?_
  refine w_imul dX4_sixesOf_44 ?_
  refine w_iload dX4_sixesOf_45 rfl ?_
  refine w_iload dX4_sixesOf_47 rfl ?_
  refine w_iload dX4_sixesOf_49 rfl ?_
  refine w_iadd dX4_sixesOf_51 ?_
  refine w_iload dX4_sixesOf_52 rfl ?_
  refine w_iadd dX4_sixesOf_54 ?_
  refine w_imul dX4_sixesOf_55 ?_
  refine w_isub dX4_sixesOf_56 ?_
  refine w_iconst dX4_sixesOf_57 ?_
  refine w_iload dX4_sixesOf_58 rfl ?_
  refine w_imul dX4_sixesOf_60 ?_
  refine w_iadd dX4_sixesOf_61 ?_
  refine x_iret rfl rfl dX4_sixesOf_62 ⟨?_, rfl⟩
  rw [sxV_is, BitVec.and_comm c a]
set_option maxRecDepth 4000 in
theorem c4_countSixes {h : HP} {c : Nat} {B : Nat → Int} {L R C : Nat} (hC : CDP h c B L R C) : sp mX4_countSixes [.ref c] h 0 0 (pd (some (.int (zI ((ss1 (fun c e g => sxV (cs B L C c) (cs B L C e) (cs B L C g)) (L * R) : Nat) : Int)))) h) := by
  obtain ⟨ad, f7, f8, f10, f9, f11, rk, cr, hV, h6, h7, o_c, r_c_shifts, r_c_edges, r_c_bitsOf, r_c_checksOf, r_c_sums, e7, e8, e9, e10, hRD⟩ := id hC
  obtain ⟨v1, v2, v3, v4, v5, v6, v7⟩ := id hV
  have hLC := mulLe (a := L) (b := C) (x := 6) (y := 8) (by omega) (by omega)
  have hLR := mulLe (a := L) (b := R) (x := 6) (y := 4) (by omega) (by omega)
  rw [← sixes_is]
  have hm : L * R ≤ 24 := by omega
  obtain ⟨V, hVV⟩ : ∃ V, t3 (sxP (cs B L C)) (L * R) (L * R) = V := ⟨_, rfl⟩
  rw [hVV]
  refine sp_wp rfl (lv := [_, _, _, _, _]) rfl (Nat.le_of_ble_eq_true rfl) ?_
  refine w_iconst dX4_countSixes_0 ?_
  refine w_istore_n (lv' := [_, _, _, _, _]) dX4_countSixes_1 rfl (Nat.le_of_ble_eq_true rfl) rfl rfl ?_
  refine w_iconst dX4_countSixes_2 ?_
  refine w_istore_n (lv' := [_, _, _, _, _]) dX4_countSixes_3 rfl (Nat.le_of_ble_eq_true rfl) rfl rfl ?_
  have key : ∀ k, k ≤ L * R → ∀ x3 x4 : Value, wp mX4_countSixes 4 [.ref c, .int (zI ((t3 (sxP (cs B L C)) (L * R) k : Nat) : Int)), .int (zI (k : Int)), x3, x4] [] h 0 0 (pd (some (.int (zI (V : Int)))) h) := by
    refine up_ind (P := fun k => ∀ x3 x4 : Value, wp mX4_countSixes 4 [.ref c, .int (zI ((t3 (sxP (cs B L C)) (L * R) k : Nat) : Int)), .int (zI (k : Int)), x3, x4] [] h 0 0 (pd (some (.int (zI (V : Int)))) h)) (fun k hk ih x3 x4 => ?_)
    refine w_iload_n dX4_countSixes_4 rfl rfl ?_
    refine w_aload_n dX4_countSixes_5 rfl rfl ?_
    refine w_getf fX4_9 dX4_countSixes_6 o_c rfl ?_
    refine w_icmp_ge 81 dX4_countSixes_9 (by decide) (by first | assumption | (unfold ok32 at *; omega)) (by first | assumption | (unfold ok32 at *; omega)) (fun hc => ?_) (fun hc => ?_)
    · refine w_iload_n dX4_countSixes_81 rfl rfl ?_
      refine x_iret rfl rfl dX4_countSixes_82 ⟨?_, rfl⟩
      rw [show k = L * R by omega, hVV]
    · refine w_iload_n dX4_countSixes_12 rfl rfl ?_
      refine w_iconst dX4_countSixes_13 ?_
      refine w_iadd dX4_countSixes_14 ?_
      refine w_istore_n (lv' := [_, _, _, _, _]) dX4_countSixes_15 rfl (Nat.le_of_ble_eq_true rfl) rfl rfl ?_
      have key2 : ∀ j, j ≤ L * R → k + 1 ≤ j → ∀ x4 : Value, wp mX4_countSixes 16 [.ref c, .int (zI ((t3 (sxP (cs B L C)) (L * R) k + u2 (sxP (cs B L C)) k (L * R) j : Nat) : Int)), .int (zI (k : Int)), .int (zI (j : Int)), x4] [] h 0 0 (pd (some (.int (zI (V : Int)))) h) := by
        refine up_ind (P := fun j => k + 1 ≤ j → ∀ x4 : Value, wp mX4_countSixes 16 [.ref c, .int (zI ((t3 (sxP (cs B L C)) (L * R) k + u2 (sxP (cs B L C)) k (L * R) j : Nat) : Int)), .int (zI (k : Int)), .int (zI (j : Int)), x4] [] h 0 0 (pd (some (.int (zI (V : Int)))) h)) (fun j hj ih2 hkj x4 => ?_)
        refine w_iload_n dX4_countSixes_16 rfl rfl ?_
        refine w_aload_n dX4_countSixes_17 rfl rfl ?_
        refine w_getf fX4_9 dX4_countSixes_18 o_c rfl ?_
        refine w_icmp_ge 75 dX4_countSixes_21 (by decide) (by first | assumption | (unfold ok32 at *; omega)) (by first | assumption | (unfold ok32 at *; omega)) (fun hd => ?_) (fun hd => ?_)
        · refine w_iinc (lv' := [_, _, _, _, _]) dX4_countSixes_75 rfl rfl rfl ?_
          refine w_goto 4 dX4_countSixes_78 (by decide) ?_
          refine w_cast ?_ rfl rfl (ih (by omega) (.int (zI (j : Int))) x4)
          rw [t3, show j = L * R by omega]
          rfl
        · refine w_iload_n dX4_countSixes_24 rfl rfl ?_
          refine w_iconst dX4_countSixes_25 ?_
          refine w_iadd dX4_countSixes_26 ?_
          refine w_istore (lv' := [_, _, _, _, _]) dX4_countSixes_27 (Nat.le_of_ble_eq_true rfl) rfl rfl ?_
          have key3 : ∀ i, i ≤ L * R → j + 1 ≤ i → wp mX4_countSixes 29 [.ref c, .int (zI ((t3 (sxP (cs B L C)) (L * R) k + u2 (sxP (cs B L C)) k (L * R) j + f2 (sxP (cs B L C) k) j i : Nat) : Int)), .int (zI (k : Int)), .int (zI (j : Int)), .int (zI (i : Int))] [] h 0 0 (pd (some (.int (zI (V : Int)))) h) := by
            refine up_ind (P := fun i => j + 1 ≤ i → wp mX4_countSixes 29 [.ref c, .int (zI ((t3 (sxP (cs B L C)) (L * R) k + u2 (sxP (cs B L C)) k (L * R) j + f2 (sxP (cs B L C) k) j i : Nat) : Int)), .int (zI (k : Int)), .int (zI (j : Int)), .int (zI (i : Int))] [] h 0 0 (pd (some (.int (zI (V : Int)))) h)) (fun i hi ih3 hji => ?_)
            refine w_iload dX4_countSixes_29 rfl ?_
            refine w_aload_n dX4_countSixes_31 rfl rfl ?_
            refine w_getf fX4_9 dX4_countSixes_32 o_c rfl ?_
            refine w_icmp_ge 69 dX4_countSixes_35 (by decide) (by first | assumption | (unfold ok32 at *; omega)) (by first | assumption | (unfold ok32 at *; omega)) (fun he => ?_) (fun he => ?_)
            · refine w_iinc (lv' := [_, _, _, _, _]) dX4_countSixes_69 rfl rfl rfl ?_
              refine w_goto 16 dX4_countSixes_72 (by decide) ?_
              refine w_cast ?_ rfl rfl (ih2 (by omega) (by omega) (.int (zI (i : Int))))
              rw [u2, if_pos (show k < j by omega), show i = L * R by omega, ← Nat.add_assoc]
              rfl
            · refine w_iload_n dX4_countSixes_38 rfl rfl ?_
              refine w_aload_n dX4_countSixes_39 rfl rfl ?_
              refine w_getf fX4_15 dX4_countSixes_40 o_c rfl ?_
              refine w_iload_n dX4_countSixes_43 rfl rfl ?_
              refine w_lald (k) r_c_bitsOf (by first | rfl | omega | (push_cast; rfl) | (push_cast; omega)) (by omega) (by decide) dX4_countSixes_44 ?_
              rw [e9 k (by omega)]
              refine w_aload_n dX4_countSixes_45 rfl rfl ?_
              refine w_getf fX4_15 dX4_countSixes_46 o_c rfl ?_
              refine w_iload_n dX4_countSixes_49 rfl rfl ?_
              refine w_lald (j) r_c_bitsOf (by first | rfl | omega | (push_cast; rfl) | (push_cast; omega)) (by omega) (by decide) dX4_countSixes_50 ?_
              rw [e9 j (by omega)]
              refine w_aload_n dX4_countSixes_51 rfl rfl ?_
              refine w_getf fX4_15 dX4_countSixes_52 o_c rfl ?_
              refine w_iload dX4_countSixes_55 rfl ?_
              refine w_lald (i) r_c_bitsOf (by first | rfl | omega | (push_cast; rfl) | (push_cast; omega)) (by omega) (by decide) dX4_countSixes_57 ?_
              rw [e9 i (by omega)]
              refine wc_S (Z := mX4_sixesOf) (As := [_, _, _]) c4_sixesOf kX4_sixesOf lX4_40 sX4_sixesOf dX4_countSixes_58 rfl rfl rfl (Nat.le_of_ble_eq_true rfl) ⟨Nat.le_of_ble_eq_true rfl, Nat.le_of_ble_eq_true rfl⟩ ?_
              refine w_iadd dX4_countSixes_61 ?_
              refine w_istore_n (lv' := [_, _, _, _, _]) dX4_countSixes_62 rfl (Nat.le_of_ble_eq_true rfl) rfl rfl ?_
              refine w_iinc (lv' := [_, _, _, _, _]) dX4_countSixes_63 rfl rfl rfl ?_
              refine w_goto 29 dX4_countSixes_66 (by decide) ?_
              refine w_cast ?_ rfl rfl (ih3 (by omega) (by omega))
              rw [f2, if_pos (show j < i by omega), ← Nat.add_assoc]
              push_cast
              rfl
          refine w_cast ?_ rfl rfl (key3 (j + 1) (by omega) (Nat.le_refl _))
          rw [f2_0 (Nat.le_refl _)]
          rfl
      refine w_cast ?_ rfl rfl (key2 (k + 1) (by omega) (Nat.le_refl _) x4)
      rw [u2_0 (Nat.le_refl _)]
      rfl
  exact key 0 (Nat.zero_le _) jk jk
set_option maxRecDepth 4000 in
theorem c4_pieceOf {h : HP} {c : Nat} {B : Nat → Int} {L R C b : Nat} (hC : CDP h c B L R C) (hb : b < L * C) : sp mX4_pieceOf [.ref c, .int (zI (b : Int))] h 0 0 (pd (some (.long (lB (clF (cs B L C) (L * R) 64 (1#64 <<< b))))) h) := by
  obtain ⟨ad, f7, f8, f10, f9, f11, rk, cr, hV, h6, h7, o_c, r_c_shifts, r_c_edges, r_c_bitsOf, r_c_checksOf, r_c_sums, e7, e8, e9, e10, hRD⟩ := id hC
  obtain ⟨v1, v2, v3, v4, v5, v6, v7⟩ := id hV
  have hLC := mulLe (a := L) (b := C) (x := 6) (y := 8) (by omega) (by omega)
  have hLR := mulLe (a := L) (b := R) (x := 6) (y := 4) (by omega) (by omega)
  rw [← piece_is (show L * R ≤ 60 by omega)]
  obtain ⟨V, hVV⟩ : ∃ V, pgF (cs B L C) (L * R) (L * R + 1) (1#64 <<< b) = V := ⟨_, rfl⟩
  rw [hVV]
  refine sp_wp rfl (lv := [_, _, _, _, _, _, _, _]) rfl (Nat.le_of_ble_eq_true rfl) ?_
  refine w_lconst1 dX4_pieceOf_0 ?_
  refine w_iload_n dX4_pieceOf_1 rfl rfl ?_
  refine w_lshl b rfl (by omega) dX4_pieceOf_2 ?_
  refine w_lstore_n (lv' := [_, _, _, _, _, _, _, _]) dX4_pieceOf_3 rfl (Nat.le_of_ble_eq_true rfl) rfl rfl ?_
  refine w_lconst0 dX4_pieceOf_4 ?_
  refine w_lstore (lv' := [_, _, _, _, _, _, _, _]) dX4_pieceOf_5 (Nat.le_of_ble_eq_true rfl) rfl rfl ?_
  refine w_iconst dX4_pieceOf_7 ?_
  refine w_istore (lv' := [_, _, _, _, _, _, _, _]) dX4_pieceOf_8 (Nat.le_of_ble_eq_true rfl) rfl rfl ?_
  have hb1 : ¬ (1#64 <<< b) = 0#64 := fun q => by
    have := congrArg (fun z => BitVec.getLsbD z b) q
    rw [show (1#64 <<< b).getLsbD b = true by rw [bit1 (by omega) (by omega)]; simp] at this
    simp at this
  have key : ∀ (f r : Nat) (p a : BitVec 64) (x7 : Value), f + r = L * R + 1 → ((p = a ∧ V = p) ∨ (¬ p = a ∧ pgF (cs B L C) (L * R) f p = V)) → wp mX4_pieceOf 10 [.ref c, .int (zI (b : Int)), .long (lB p), jk, .long (lB a), jk, .int (zI (r : Int)), x7] [] h 0 0 (pd (some (.long (lB V))) h) := by
    intro f
    induction f with
    | zero =>
      intro r p a x7 hr hp
      refine w_iload dX4_pieceOf_10 rfl ?_
      refine w_aload_n dX4_pieceOf_12 rfl rfl ?_
      refine w_getf fX4_9 dX4_pieceOf_13 o_c rfl ?_
      refine w_icmp_gt 77 dX4_pieceOf_16 (by decide) (by first | assumption | (unfold ok32 at *; omega)) (by first | assumption | (unfold ok32 at *; omega)) (fun hc => ?_) (fun hc => ?_)
      · refine w_lload_n dX4_pieceOf_77 rfl rfl ?_
        refine x_lret rfl dX4_pieceOf_78 ⟨?_, rfl⟩
        rcases hp with ⟨-, q⟩ | ⟨-, q⟩
        · rw [q]
        · rw [← q]; rfl
      · omega
    | succ f ih =>
      intro r p a x7 hr hp
      refine w_iload dX4_pieceOf_10 rfl ?_
      refine w_aload_n dX4_pieceOf_12 rfl rfl ?_
      refine w_getf fX4_9 dX4_pieceOf_13 o_c rfl ?_
      refine w_icmp_gt 77 dX4_pieceOf_16 (by decide) (by first | assumption | (unfold ok32 at *; omega)) (by first | assumption | (unfold ok32 at *; omega)) (fun hc => ?_) (fun hc => ?_)
      · omega
      · refine w_lload_n dX4_pieceOf_19 rfl rfl ?_
        refine w_lload dX4_pieceOf_20 rfl ?_
        refine w_lc_eq 77 dX4_pieceOf_22 dX4_pieceOf_23 (by decide) (fun hq => ?_) (fun hq => ?_)
        · refine w_lload_n dX4_pieceOf_77 rfl rfl ?_
          refine x_lret rfl dX4_pieceOf_78 ⟨?_, rfl⟩
          rcases hp with ⟨-, q⟩ | ⟨q, -⟩
          · rw [q]
          · exact absurd hq q
        · have hv : pgF (cs B L C) (L * R) (f + 1) p = V := by
            rcases hp with ⟨q, -⟩ | ⟨-, q⟩
            · exact absurd q hq
            · exact q
          unfold pgF at hv
          refine w_lload_n dX4_pieceOf_26 rfl rfl ?_
          refine w_lstore (lv' := [_, _, _, _, _, _, _, _]) dX4_pieceOf_27 (Nat.le_of_ble_eq_true rfl) rfl rfl ?_
          refine w_iconst dX4_pieceOf_29 ?_
          refine w_istore (lv' := [_, _, _, _, _, _, _, _]) dX4_pieceOf_30 (Nat.le_of_ble_eq_true rfl) rfl rfl ?_
          have key2 : ∀ k, k ≤ L * R → wp mX4_pieceOf 32 [.ref c, .int (zI (b : Int)), .long (lB (chN (cs B L C) p k)), jk, .long (lB p), jk, .int (zI (r : Int)), .int (zI (k : Int))] [] h 0 0 (pd (some (.long (lB V))) h) := by
            refine up_ind (fun k hk ih2 => ?_)
            refine w_iload dX4_pieceOf_32 rfl ?_
            refine w_aload_n dX4_pieceOf_34 rfl rfl ?_
            refine w_getf fX4_9 dX4_pieceOf_35 o_c rfl ?_
            refine w_icmp_ge 71 dX4_pieceOf_38 (by decide) (by first | assumption | (unfold ok32 at *; omega)) (by first | assumption | (unfold ok32 at *; omega)) (fun hd => ?_) (fun hd => ?_)
            · rw [show k = L * R by omega]
              refine w_iinc (lv' := [_, _, _, _, _, _, _, _]) dX4_pieceOf_71 rfl rfl rfl ?_
              refine w_goto 10 dX4_pieceOf_74 (by decide) ?_
              refine ih (r + 1) (chN (cs B L C) p (L * R)) p _ (by omega) ?_
              by_cases hfx : chN (cs B L C) p (L * R) = p
              · rw [if_pos hfx] at hv
                exact Or.inl ⟨hfx, by rw [hfx, hv]⟩
              · rw [if_neg hfx] at hv
                exact Or.inr ⟨hfx, hv⟩
            · refine w_aload_n dX4_pieceOf_41 rfl rfl ?_
              refine w_getf fX4_15 dX4_pieceOf_42 o_c rfl ?_
              refine w_iload dX4_pieceOf_45 rfl ?_
              refine w_lald (k) r_c_bitsOf (by first | rfl | omega | (push_cast; rfl) | (push_cast; omega)) (by omega) (by decide) dX4_pieceOf_47 ?_
              rw [e9 k (by omega)]
              refine w_lload_n dX4_pieceOf_48 rfl rfl ?_
              refine w_land dX4_pieceOf_49 ?_
              refine w_lconst0 dX4_pieceOf_50 ?_
              refine w_lc_eq 65 dX4_pieceOf_51 dX4_pieceOf_52 (by decide) (fun h5 => ?_) (fun h5 => ?_)
              · refine w_iinc (lv' := [_, _, _, _, _, _, _, _]) dX4_pieceOf_65 rfl rfl rfl ?_
                refine w_goto 32 dX4_pieceOf_68 (by decide) ?_
                refine w_cast ?_ rfl rfl (ih2 (by omega))
                rw [chN, if_pos h5]
                rfl
              · refine w_lload_n dX4_pieceOf_55 rfl rfl ?_
                refine w_aload_n dX4_pieceOf_56 rfl rfl ?_
                refine w_getf fX4_15 dX4_pieceOf_57 o_c rfl ?_
                refine w_iload dX4_pieceOf_60 rfl ?_
                refine w_lald (k) r_c_bitsOf (by first | rfl | omega | (push_cast; rfl) | (push_cast; omega)) (by omega) (by decide) dX4_pieceOf_62 ?_
                rw [e9 k (by omega)]
                refine w_lor dX4_pieceOf_63 ?_
                refine w_lstore_n (lv' := [_, _, _, _, _, _, _, _]) dX4_pieceOf_64 rfl (Nat.le_of_ble_eq_true rfl) rfl rfl ?_
                refine w_iinc (lv' := [_, _, _, _, _, _, _, _]) dX4_pieceOf_65 rfl rfl rfl ?_
                refine w_goto 32 dX4_pieceOf_68 (by decide) ?_
                refine w_cast ?_ rfl rfl (ih2 (by omega))
                rw [chN, if_neg h5]
                rfl
          exact key2 0 (Nat.zero_le _)
  exact key (L * R + 1) 0 _ _ jk (by omega) (Or.inr ⟨hb1, hVV⟩)
set_option maxRecDepth 4000 in
theorem c4_countPieces {h : HP} {c : Nat} {B : Nat → Int} {L R C : Nat} (hC : CDP h c B L R C) : sp mX4_countPieces [.ref c] h 0 0 (pd (some (.int (zI (pcF (cs B L C) (L * R) 64 ((1#64 <<< (L * C)) - 1#64) 0)))) h) := by
  obtain ⟨ad, f7, f8, f10, f9, f11, rk, cr, hV, h6, h7, o_c, r_c_shifts, r_c_edges, r_c_bitsOf, r_c_checksOf, r_c_sums, e7, e8, e9, e10, hRD⟩ := id hC
  obtain ⟨v1, v2, v3, v4, v5, v6, v7⟩ := id hV
  have hLC := mulLe (a := L) (b := C) (x := 6) (y := 8) (by omega) (by omega)
  have hLR := mulLe (a := L) (b := R) (x := 6) (y := 4) (by omega) (by omega)
  obtain ⟨V, hVV⟩ : ∃ V, pcF (cs B L C) (L * R) 64 ((1#64 <<< (L * C)) - 1#64) 0 = V := ⟨_, rfl⟩
  rw [hVV]
  refine sp_wp rfl (lv := [_, _, _, _, _]) rfl (Nat.le_of_ble_eq_true rfl) ?_
  refine w_iconst dX4_countPieces_0 ?_
  refine w_istore_n (lv' := [_, _, _, _, _]) dX4_countPieces_1 rfl (Nat.le_of_ble_eq_true rfl) rfl rfl ?_
  refine w_lconst0 dX4_countPieces_2 ?_
  refine w_lstore_n (lv' := [_, _, _, _, _]) dX4_countPieces_3 rfl (Nat.le_of_ble_eq_true rfl) rfl rfl ?_
  refine w_iconst dX4_countPieces_4 ?_
  refine w_istore (lv' := [_, _, _, _, _]) dX4_countPieces_5 (Nat.le_of_ble_eq_true rfl) rfl rfl ?_
  have key : ∀ i, i ≤ L * C → ∀ (S : BitVec 64) (n f : Nat), n ≤ i → L * C - i ≤ f → (∀ j, j < i → S.getLsbD j = true) → pcF (cs B L C) (L * R) f (((1#64 <<< (L * C)) - 1#64) &&& ~~~S) (n : Int) = V → wp mX4_countPieces 7 [.ref c, .int (zI (n : Int)), .long (lB S), jk, .int (zI (i : Int))] [] h 0 0 (pd (some (.int (zI V))) h) := by
    refine up_ind (P := fun i => ∀ (S : BitVec 64) (n f : Nat), n ≤ i → L * C - i ≤ f → (∀ j, j < i → S.getLsbD j = true) → pcF (cs B L C) (L * R) f (((1#64 <<< (L * C)) - 1#64) &&& ~~~S) (n : Int) = V → wp mX4_countPieces 7 [.ref c, .int (zI (n : Int)), .long (lB S), jk, .int (zI (i : Int))] [] h 0 0 (pd (some (.int (zI V))) h)) (fun i hi ih S n f hn hf hS hv => ?_)
    refine w_iload dX4_countPieces_7 rfl ?_
    refine w_aload_n dX4_countPieces_9 rfl rfl ?_
    refine w_getf fX4_44 dX4_countPieces_10 o_c rfl ?_
    refine w_icmp_ge 45 dX4_countPieces_13 (by decide) (by first | assumption | (unfold ok32 at *; omega)) (by first | assumption | (unfold ok32 at *; omega)) (fun hc => ?_) (fun hc => ?_)
    · refine w_iload_n dX4_countPieces_45 rfl rfl ?_
      refine x_iret rfl rfl dX4_countPieces_46 ⟨?_, rfl⟩
      have h0 : ((1#64 <<< (L * C)) - 1#64) &&& ~~~S = 0#64 := bv_ext fun j hj => by
        rw [BitVec.getLsbD_and, BitVec.getLsbD_not, all_bit (by omega)]
        by_cases hjn : j < L * C
        · simp [hS j (by omega)]
        · simp [hjn]
      rw [h0] at hv
      rw [← hv]
      cases f with
      | zero => rfl
      | succ f => rw [pcF, if_pos rfl]
    · refine w_lload_n dX4_countPieces_16 rfl rfl ?_
      refine w_iload dX4_countPieces_17 rfl ?_
      refine w_lshr i rfl (by omega) dX4_countPieces_19 ?_
      refine w_lconst1 dX4_countPieces_20 ?_
      refine w_land dX4_countPieces_21 ?_
      rw [sshr_bit (show i < 64 by omega)]
      refine w_lconst0 dX4_countPieces_22 ?_
      refine w_lc_ne 39 dX4_countPieces_23 dX4_countPieces_24 (by decide) (fun hz => ?_) (fun hz => ?_)
      · have hb : S.getLsbD i = true := Classical.byContradiction fun q => by rw [if_neg q] at hz; exact hz rfl
        refine w_iinc (lv' := [_, _, _, _, _]) dX4_countPieces_39 rfl rfl rfl ?_
        refine w_goto 7 dX4_countPieces_42 (by decide) ?_
        refine ih (by omega) S n f (by omega) (by omega) (fun j hj => ?_) hv
        by_cases hji : j = i
        · rw [hji]; exact hb
        · exact hS j (by omega)
      · have hb : ¬ S.getLsbD i = true := fun q => by rw [if_pos q] at hz; exact absurd hz (by decide)
        obtain ⟨f, rfl⟩ : ∃ f', f = f' + 1 := ⟨f - 1, by omega⟩
        have hlow : isLow (((1#64 <<< (L * C)) - 1#64) &&& ~~~S) i := by
          refine ⟨by omega, ?_, fun j hj => ?_⟩
          · rw [BitVec.getLsbD_and, BitVec.getLsbD_not, all_bit (by omega)]
            rw [Bool.not_eq_true] at hb
            rw [hb]
            simp [show i < L * C by omega, show i < 64 by omega]
          · rw [BitVec.getLsbD_and, BitVec.getLsbD_not, hS j hj]
            simp
        have hne : ¬ ((1#64 <<< (L * C)) - 1#64) &&& ~~~S = 0#64 := fun q => by
          have := hlow.2.1
          rw [q] at this
          simp at this
        rw [pcF, if_neg hne, low_eq hlow] at hv
        refine w_lload_n dX4_countPieces_27 rfl rfl ?_
        refine w_aload_n dX4_countPieces_28 rfl rfl ?_
        refine w_iload dX4_countPieces_29 rfl ?_
        refine wc_S (Z := mX4_pieceOf) (As := [_, _]) (c4_pieceOf hC (b := i) (by omega)) kX4_pieceOf lX4_47 sX4_pieceOf dX4_countPieces_31 rfl rfl rfl (Nat.le_of_ble_eq_true rfl) ⟨Nat.le_of_ble_eq_true rfl, Nat.le_of_ble_eq_true rfl⟩ ?_
        refine w_lor dX4_countPieces_34 ?_
        refine w_lstore_n (lv' := [_, _, _, _, _]) dX4_countPieces_35 rfl (Nat.le_of_ble_eq_true rfl) rfl rfl ?_
        refine w_iinc (lv' := [_, _, _, _, _]) dX4_countPieces_36 rfl rfl rfl ?_
        refine w_iinc (lv' := [_, _, _, _, _]) dX4_countPieces_39 rfl rfl rfl ?_
        refine w_goto 7 dX4_countPieces_42 (by decide) ?_
        refine ih (by omega) (S ||| clF (cs B L C) (L * R) 64 (1#64 <<< i)) (n + 1) f (by omega) (by omega) (fun j hj => ?_) ?_
        · rw [BitVec.getLsbD_or]
          by_cases hji : j = i
          · subst hji
            rw [clF_sub (by rw [bit1 (by omega) (by omega)]; simp)]
            simp
          · rw [hS j (by omega)]; rfl
        · rw [show ((1#64 <<< (L * C)) - 1#64) &&& ~~~(S ||| clF (cs B L C) (L * R) 64 (1#64 <<< i)) = ((1#64 <<< (L * C)) - 1#64) &&& ~~~S &&& ~~~(clF (cs B L C) (L * R) 64 (1#64 <<< i)) from bv_ext fun j hj => by
            simp only [BitVec.getLsbD_and, BitVec.getLsbD_not, BitVec.getLsbD_or, Bool.not_or, hj, decide_true, Bool.true_and, Bool.and_assoc]]
          push_cast
          exact hv
  refine key 0 (Nat.zero_le _) 0#64 0 64 (Nat.le_refl _) (by omega) (fun j hj => absurd hj (Nat.not_lt_zero _)) ?_
  rw [show ((1#64 <<< (L * C)) - 1#64) &&& ~~~(0#64) = (1#64 <<< (L * C)) - 1#64 by rw [show ~~~(0#64) = BitVec.allOnes 64 by decide, BitVec.and_allOnes]]
  exact hVV
set_option maxRecDepth 4000 in
theorem c4_peel {h : HP} {c : Nat} {B : Nat → Int} {L R C : Nat} {x : BitVec 64} (hC : CDP h c B L R C) (hx : pop x ≤ L * C) : sp mX4_peel [.ref c, .long (lB x)] h 0 0 (pd (some (.long (lB (plF (cs B L C) (L * R) 65 x)))) h) := by
  obtain ⟨ad, f7, f8, f10, f9, f11, rk, cr, hV, h6, h7, o_c, r_c_shifts, r_c_edges, r_c_bitsOf, r_c_checksOf, r_c_sums, e7, e8, e9, e10, hRD⟩ := id hC
  obtain ⟨v1, v2, v3, v4, v5, v6, v7⟩ := id hV
  have hLC := mulLe (a := L) (b := C) (x := 6) (y := 8) (by omega) (by omega)
  have hLR := mulLe (a := L) (b := R) (x := 6) (y := 4) (by omega) (by omega)
  rw [← peel_is hx]
  obtain ⟨V, hVV⟩ : ∃ V, plC (cs B L C) (L * R) (L * C) x = V := ⟨_, rfl⟩
  rw [hVV]
  refine sp_wp rfl (lv := [_, _, _, _, _, _, _, _, _, _, _]) rfl (Nat.le_of_ble_eq_true rfl) ?_
  refine w_lload_n dX4_peel_0 rfl rfl ?_
  refine w_lstore_n (lv' := [_, _, _, _, _, _, _, _, _, _, _]) dX4_peel_1 rfl (Nat.le_of_ble_eq_true rfl) rfl rfl ?_
  refine w_iconst dX4_peel_2 ?_
  refine w_istore (lv' := [_, _, _, _, _, _, _, _, _, _, _]) dX4_peel_3 (Nat.le_of_ble_eq_true rfl) rfl rfl ?_
  have key : ∀ (f i : Nat) (y : BitVec 64) (x6 x7 x8 x9 x10 : Value), f + i = L * C → plC (cs B L C) (L * R) f y = V → wp mX4_peel 5 [.ref c, .long (lB x), jk, .long (lB y), jk, .int (zI (i : Int)), x6, x7, x8, x9, x10] [] h 0 0 (pd (some (.long (lB V))) h) := by
    intro f
    induction f with
    | zero =>
      intro i y x6 x7 x8 x9 x10 hi hv
      refine w_iload dX4_peel_5 rfl ?_
      refine w_aload_n dX4_peel_7 rfl rfl ?_
      refine w_getf fX4_44 dX4_peel_8 o_c rfl ?_
      refine w_icmp_ge 94 dX4_peel_11 (by decide) (by first | assumption | (unfold ok32 at *; omega)) (by first | assumption | (unfold ok32 at *; omega)) (fun hc => ?_) (fun hc => ?_)
      · refine w_lload_n dX4_peel_94 rfl rfl ?_
        refine x_lret rfl dX4_peel_95 ⟨?_, rfl⟩
        rw [← hv]; rfl
      · omega
    | succ f ih =>
      intro i y x6 x7 x8 x9 x10 hi hv
      unfold plC at hv
      refine w_iload dX4_peel_5 rfl ?_
      refine w_aload_n dX4_peel_7 rfl rfl ?_
      refine w_getf fX4_44 dX4_peel_8 o_c rfl ?_
      refine w_icmp_ge 94 dX4_peel_11 (by decide) (by first | assumption | (unfold ok32 at *; omega)) (by first | assumption | (unfold ok32 at *; omega)) (fun hc => ?_) (fun hc => ?_)
      · omega
      · refine w_lconst0 dX4_peel_14 ?_
        refine w_lstore (lv' := [_, _, _, _, _, _, _, _, _, _, _]) dX4_peel_15 (Nat.le_of_ble_eq_true rfl) rfl rfl ?_
        refine w_iconst dX4_peel_17 ?_
        refine w_istore (lv' := [_, _, _, _, _, _, _, _, _, _, _]) dX4_peel_18 (Nat.le_of_ble_eq_true rfl) rfl rfl ?_
        have fin : ∀ (z8 z9 z10 : Value), wp mX4_peel 70 [.ref c, .long (lB x), jk, .long (lB y), jk, .int (zI (i : Int)), .long (lB (fdN (cs B L C) y (L * R))), jk, z8, z9, z10] [] h 0 0 (pd (some (.long (lB V))) h) := by
          intro z8 z9 z10
          refine w_lload dX4_peel_70 rfl ?_
          refine w_lconst0 dX4_peel_72 ?_
          refine w_lc_ne 79 dX4_peel_73 dX4_peel_74 (by decide) (fun hz => ?_) (fun hz => ?_)
          · rw [if_neg hz] at hv
            refine w_lload_n dX4_peel_79 rfl rfl ?_
            refine w_lload dX4_peel_80 rfl ?_
            refine w_ldc2B (-1#64) qX4_26 (by decide) dX4_peel_82 ?_
            refine w_lxor dX4_peel_85 ?_
            rw [nx]
            refine w_land dX4_peel_86 ?_
            refine w_lstore_n (lv' := [_, _, _, _, _, _, _, _, _, _, _]) dX4_peel_87 rfl (Nat.le_of_ble_eq_true rfl) rfl rfl ?_
            refine w_iinc (lv' := [_, _, _, _, _, _, _, _, _, _, _]) dX4_peel_88 rfl rfl rfl ?_
            refine w_goto 5 dX4_peel_91 (by decide) ?_
            exact ih (i + 1) _ _ _ _ _ _ (by omega) hv
          · rw [if_pos hz] at hv
            refine w_lload_n dX4_peel_77 rfl rfl ?_
            refine x_lret rfl dX4_peel_78 ⟨?_, rfl⟩
            rw [hv]
        have key2 : ∀ k, k ≤ L * R → ∀ (z9 z10 : Value), wp mX4_peel 20 [.ref c, .long (lB x), jk, .long (lB y), jk, .int (zI (i : Int)), .long (lB (fdN (cs B L C) y k)), jk, .int (zI (k : Int)), z9, z10] [] h 0 0 (pd (some (.long (lB V))) h) := by
          refine up_ind (P := fun k => ∀ (z9 z10 : Value), wp mX4_peel 20 [.ref c, .long (lB x), jk, .long (lB y), jk, .int (zI (i : Int)), .long (lB (fdN (cs B L C) y k)), jk, .int (zI (k : Int)), z9, z10] [] h 0 0 (pd (some (.long (lB V))) h)) (fun k hk ih2 z9 z10 => ?_)
          refine w_iload dX4_peel_20 rfl ?_
          refine w_aload_n dX4_peel_22 rfl rfl ?_
          refine w_getf fX4_9 dX4_peel_23 o_c rfl ?_
          refine w_icmp_ge 70 dX4_peel_26 (by decide) (by first | assumption | (unfold ok32 at *; omega)) (by first | assumption | (unfold ok32 at *; omega)) (fun hd => ?_) (fun hd => ?_)
          · rw [show k = L * R by omega]
            exact fin _ _ _
          · refine w_lload dX4_peel_29 rfl ?_
            refine w_lconst0 dX4_peel_31 ?_
            refine w_lc_ne 70 dX4_peel_32 dX4_peel_33 (by decide) (fun hz => ?_) (fun hz => ?_)
            · have hst : ∀ d, fdN (cs B L C) y (k + d) = fdN (cs B L C) y k := by
                intro d
                induction d with
                | zero => rfl
                | succ d ihd => rw [← Nat.add_assoc, fdN, ihd, if_neg hz]
              have := hst (L * R - k)
              rw [show k + (L * R - k) = L * R by omega] at this
              rw [← this]
              exact fin _ _ _
            · refine w_aload_n dX4_peel_36 rfl rfl ?_
              refine w_getf fX4_15 dX4_peel_37 o_c rfl ?_
              refine w_iload dX4_peel_40 rfl ?_
              refine w_lald (k) r_c_bitsOf (by first | rfl | omega | (push_cast; rfl) | (push_cast; omega)) (by omega) (by decide) dX4_peel_42 ?_
              rw [e9 k (by omega)]
              refine w_lload_n dX4_peel_43 rfl rfl ?_
              refine w_land dX4_peel_44 ?_
              refine w_lstore (lv' := [_, _, _, _, _, _, _, _, _, _, _]) dX4_peel_45 (Nat.le_of_ble_eq_true rfl) rfl rfl ?_
              refine w_lload dX4_peel_47 rfl ?_
              refine wc_S (Z := mJ13_bitCount_95d88) (As := [_]) c_bitCount kJ13_bitCount_95d88 lX4_34 sJ13_bitCount_95d88 dX4_peel_49 rfl rfl rfl (Nat.le_of_ble_eq_true rfl) ⟨Nat.le_of_ble_eq_true rfl, Nat.le_of_ble_eq_true rfl⟩ ?_
              have hp := pop_le (cs B L C k &&& y)
              refine w_iconst dX4_peel_52 ?_
              refine w_icmp_ne 61 dX4_peel_53 (by decide) (by first | assumption | (unfold ok32 at *; omega)) (by first | assumption | (unfold ok32 at *; omega)) (fun h1 => ?_) (fun h1 => ?_)
              · refine w_lconst0 dX4_peel_61 ?_
                refine w_lstore (lv' := [_, _, _, _, _, _, _, _, _, _, _]) dX4_peel_62 (Nat.le_of_ble_eq_true rfl) rfl rfl ?_
                refine w_iinc (lv' := [_, _, _, _, _, _, _, _, _, _, _]) dX4_peel_64 rfl rfl rfl ?_
                refine w_goto 20 dX4_peel_67 (by decide) ?_
                refine w_cast ?_ rfl rfl (ih2 (by omega) (.long (lB (cs B L C k &&& y))) jk)
                rw [fdN, if_pos hz, if_neg (by omega)]
                rfl
              · refine w_lload dX4_peel_56 rfl ?_
                refine w_goto 62 dX4_peel_58 (by decide) ?_
                refine w_lstore (lv' := [_, _, _, _, _, _, _, _, _, _, _]) dX4_peel_62 (Nat.le_of_ble_eq_true rfl) rfl rfl ?_
                refine w_iinc (lv' := [_, _, _, _, _, _, _, _, _, _, _]) dX4_peel_64 rfl rfl rfl ?_
                refine w_goto 20 dX4_peel_67 (by decide) ?_
                refine w_cast ?_ rfl rfl (ih2 (by omega) (.long (lB (cs B L C k &&& y))) jk)
                rw [fdN, if_pos hz, if_pos (by omega)]
                rfl
        exact key2 0 (Nat.zero_le _) _ _
  exact key (L * C) 0 x jk jk jk jk jk (by omega) hVV

