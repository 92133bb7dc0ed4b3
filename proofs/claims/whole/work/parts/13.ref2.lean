/-- a code of the reference: lift, rows, columns, shifts -/
def VC (A : Nat → Int) (L R C : Nat) : Prop := A 3 = (L : Int) ∧ A 4 = (R : Int) ∧ A 5 = (C : Int) ∧ (1 ≤ L ∧ L ≤ 6) ∧ (1 ≤ R ∧ R ≤ 4) ∧ (1 ≤ C ∧ C ≤ 8) ∧ ∀ k, k < 32 → -1 ≤ A (14 + k) ∧ A (14 + k) ≤ 5
def bitN (sh : Nat → Int) (L c j : Nat) : Int := if sh (8 * (c / L) + j) = -1 then -1 else (L : Int) * j + (((c % L : Nat) : Int) + sh (8 * (c / L) + j)) % (L : Int)
def shA (A : Nat → Int) : Nat → Int := fun k => A (14 + k)
theorem mulLe {a b x y : Nat} (h1 : a ≤ x) (h2 : b ≤ y) : a * b ≤ x * y := Nat.mul_le_mul h1 h2
theorem bitN_rng {sh : Nat → Int} {L c j : Nat} (hL : 1 ≤ L) (hs : -1 ≤ sh (8 * (c / L) + j)) : bitN sh L c j = -1 ∨ ((L : Int) * j ≤ bitN sh L c j ∧ bitN sh L c j < (L : Int) * j + L) := by
  unfold bitN
  by_cases h : sh (8 * (c / L) + j) = -1
  · rw [if_pos h]; exact Or.inl rfl
  · rw [if_neg h]
    have h1 := Int.emod_nonneg (((c % L : Nat) : Int) + sh (8 * (c / L) + j)) (show (L : Int) ≠ 0 by omega)
    have h2 := Int.emod_lt_of_pos (((c % L : Nat) : Int) + sh (8 * (c / L) + j)) (show (0 : Int) < L by omega)
    exact Or.inr ⟨by omega, by omega⟩
theorem rowLt {L R c : Nat} (h : c < L * R) (hL : 1 ≤ L) : c / L < R := (Nat.div_lt_iff_lt_mul (by omega)).mpr (by rw [Nat.mul_comm]; exact h)
theorem bitN_le {sh : Nat → Int} {L C c j : Nat} (hL : 1 ≤ L ∧ L ≤ 6) (hj : j < C) (hC : C ≤ 8) (hs : -1 ≤ sh (8 * (c / L) + j)) : -1 ≤ bitN sh L c j ∧ bitN sh L c j < (L : Int) * C ∧ bitN sh L c j < 48 := by
  have h1 : (L : Int) * j + L ≤ (L : Int) * C := by
    have : L * (j + 1) ≤ L * C := Nat.mul_le_mul_left _ (by omega)
    rw [Nat.mul_add, Nat.mul_one] at this
    exact_mod_cast this
  have h2 : (L : Int) * C ≤ 48 := by
    have := mulLe (a := L) (b := C) (x := 6) (y := 8) (by omega) (by omega)
    exact_mod_cast this
  have h3 : (0 : Int) ≤ (L : Int) * j := by
    have := Nat.zero_le (L * j)
    exact_mod_cast this
  have h4 : (0 : Int) < (L : Int) := by omega
  have h5 : (1 : Int) ≤ (L : Int) * C := by
    have := mulLe (a := 1) (b := 1) (x := L) (y := C) (by omega) (by omega)
    exact_mod_cast this
  rcases bitN_rng (sh := sh) (L := L) (c := c) (j := j) hL.1 hs with h | ⟨h, h'⟩ <;> omega
set_option maxRecDepth 4000 in
theorem c_bitOf {r : Nat} {A : Nat → Int} {ia : Nat → Nat → Int} {la : Nat → Nat → BitVec 64} {fi : Nat → Int} {fl : Nat → BitVec 64} {h0 : HP} {L R C c j : Nat} (hV : VC A L R C) (hc : c < L * R) (hj : j < C) : sp mX10_bitOf [.ref r, .int (zI (c : Int)), .int (zI (j : Int))] (RH r A ia la fi fl h0) 0 0 (pd (some (.int (zI (bitN (shA A) L c j)))) (RH r A ia la fi fl h0)) := by
  obtain ⟨v1, v2, v3, v4, v5, v6, v7⟩ := hV
  have hr := rowLt hc v4.1
  have hLR := mulLe (a := L) (b := R) (x := 6) (y := 4) (by omega) (by omega)
  have hs := v7 (8 * (c / L) + j) (by omega)
  have hm1 := Int.emod_nonneg (c : Int) (show (L : Int) ≠ 0 by omega)
  have hm2 := Int.emod_lt_of_pos (c : Int) (show (0 : Int) < L by omega)
  refine sp_wp rfl (lv := [_, _, _, _]) rfl (Nat.le_of_ble_eq_true rfl) ?_
  refine w_aload_n dX10_bitOf_0 rfl rfl ?_
  refine w_getf fX10_7 dX10_bitOf_1 RH0 rfl ?_
  refine w_bipush dX10_bitOf_4 (by decide) ?_
  refine w_bipush dX10_bitOf_6 (by decide) ?_
  refine w_iload_n dX10_bitOf_8 rfl rfl ?_
  refine w_aload_n dX10_bitOf_9 rfl rfl ?_
  refine w_getf fX10_7 dX10_bitOf_10 RH0 rfl ?_
  refine w_iconst dX10_bitOf_13 ?_
  refine w_iald 3 RH1 rfl (by decide) (by decide) dX10_bitOf_14 ?_
  rw [v1]
  refine w_idiv dX10_bitOf_15 (by unfold ok32; omega) (by omega) (by omega) (by unfold ok32; omega) ?_
  refine w_imul dX10_bitOf_16 ?_
  refine w_iadd dX10_bitOf_17 ?_
  refine w_iload_n dX10_bitOf_18 rfl rfl ?_
  refine w_iadd dX10_bitOf_19 ?_
  refine w_iald (14 + (8 * (c / L) + j)) RH1 (by omega) (by omega) (by decide) dX10_bitOf_20 ?_
  refine w_istore_n (lv' := [_, _, _, _]) dX10_bitOf_21 rfl (Nat.le_of_ble_eq_true rfl) rfl rfl ?_
  refine w_iload_n dX10_bitOf_22 rfl rfl ?_
  refine w_iconst dX10_bitOf_23 ?_
  refine w_icmp_ne 31 dX10_bitOf_24 (by decide) (by unfold ok32; omega) (by unfold ok32; omega) (fun hn => ?_) (fun hn => ?_)
  · refine w_aload_n dX10_bitOf_31 rfl rfl ?_
    refine w_getf fX10_7 dX10_bitOf_32 RH0 rfl ?_
    refine w_iconst dX10_bitOf_35 ?_
    refine w_iald 3 RH1 rfl (by decide) (by decide) dX10_bitOf_36 ?_
    rw [v1]
    refine w_iload_n dX10_bitOf_37 rfl rfl ?_
    refine w_imul dX10_bitOf_38 ?_
    refine w_iload_n dX10_bitOf_39 rfl rfl ?_
    refine w_aload_n dX10_bitOf_40 rfl rfl ?_
    refine w_getf fX10_7 dX10_bitOf_41 RH0 rfl ?_
    refine w_iconst dX10_bitOf_44 ?_
    refine w_iald 3 RH1 rfl (by decide) (by decide) dX10_bitOf_45 ?_
    rw [v1]
    refine w_irem dX10_bitOf_46 (by unfold ok32; omega) (by omega) (by omega) (by unfold ok32; omega) ?_
    refine w_iload_n dX10_bitOf_47 rfl rfl ?_
    refine w_iadd dX10_bitOf_48 ?_
    refine w_aload_n dX10_bitOf_49 rfl rfl ?_
    refine w_getf fX10_7 dX10_bitOf_50 RH0 rfl ?_
    refine w_iconst dX10_bitOf_53 ?_
    refine w_iald 3 RH1 rfl (by decide) (by decide) dX10_bitOf_54 ?_
    rw [v1]
    refine w_irem dX10_bitOf_55 (by unfold ok32; omega) (by omega) (by omega) (by unfold ok32; omega) ?_
    refine w_iadd dX10_bitOf_56 ?_
    refine x_iret rfl rfl dX10_bitOf_57 ⟨?_, rfl⟩
    rw [bitN, if_neg (show ¬ shA A (8 * (c / L) + j) = -1 from hn)]
    rfl
  · refine w_iconst dX10_bitOf_27 ?_
    refine w_goto 57 dX10_bitOf_28 (by decide) ?_
    refine x_iret rfl rfl dX10_bitOf_57 ⟨?_, rfl⟩
    rw [bitN, if_pos (show shA A (8 * (c / L) + j) = -1 from hn)]

def csetN (sh : Nat → Int) (L c : Nat) : Nat → BitVec 64
  | 0 => 0#64
  | j + 1 => if bitN sh L c j = -1 then csetN sh L c j else csetN sh L c j ||| (1#64 <<< (bitN sh L c j).toNat)
set_option maxRecDepth 4000 in
theorem c_checkSet {r : Nat} {A : Nat → Int} {ia : Nat → Nat → Int} {la : Nat → Nat → BitVec 64} {fi : Nat → Int} {fl : Nat → BitVec 64} {h0 : HP} {L R C c : Nat} (hV : VC A L R C) (hc : c < L * R) : sp mX10_checkSet [.ref r, .int (zI (c : Int))] (RH r A ia la fi fl h0) 0 0 (pd (some (.long (lB (csetN (shA A) L c C)))) (RH r A ia la fi fl h0)) := by
  obtain ⟨v1, v2, v3, v4, v5, v6, v7⟩ := id hV
  have hr := rowLt hc v4.1
  refine sp_wp rfl (lv := [_, _, _, _, _]) rfl (Nat.le_of_ble_eq_true rfl) ?_
  refine w_lconst0 dX10_checkSet_0 ?_
  refine w_lstore_n (lv' := [_, _, _, _, _]) dX10_checkSet_1 rfl (Nat.le_of_ble_eq_true rfl) rfl rfl ?_
  refine w_iconst dX10_checkSet_2 ?_
  refine w_istore (lv' := [_, _, _, _, _]) dX10_checkSet_3 (Nat.le_of_ble_eq_true rfl) rfl rfl ?_
  refine up_ind (N := C) (P := fun j => wp mX10_checkSet 5 [.ref r, .int (zI (c : Int)), .long (lB (csetN (shA A) L c j)), jk, .int (zI (j : Int))] [] (RH r A ia la fi fl h0) 0 0 (pd (some (.long (lB (csetN (shA A) L c C)))) (RH r A ia la fi fl h0))) (fun j hj ih => ?_) 0 (Nat.zero_le _)
  refine w_iload dX10_checkSet_5 rfl ?_
  refine w_aload_n dX10_checkSet_7 rfl rfl ?_
  refine w_getf fX10_7 dX10_checkSet_8 RH0 rfl ?_
  refine w_iconst dX10_checkSet_11 ?_
  refine w_iald 5 RH1 rfl (by decide) (by decide) dX10_checkSet_12 ?_
  rw [v3]
  refine w_icmp_ge 45 dX10_checkSet_13 (by decide) (by unfold ok32; omega) (by unfold ok32; omega) (fun hjc => ?_) (fun hjc => ?_)
  · refine w_lload_n dX10_checkSet_45 rfl rfl ?_
    refine x_lret rfl dX10_checkSet_46 ⟨?_, rfl⟩
    rw [show j = C by omega]
  · have hb := bitN_le (sh := shA A) (L := L) (C := C) (c := c) (j := j) v4 (by omega) v6.2 (v7 _ (by omega)).1
    refine w_aload_n dX10_checkSet_16 rfl rfl ?_
    refine w_iload_n dX10_checkSet_17 rfl rfl ?_
    refine w_iload dX10_checkSet_18 rfl ?_
    refine wc_V (Z := mX10_bitOf) (As := [_, _]) (c_bitOf hV hc (by omega)) RH0 rfl kX10_bitOf lX10_77 iX10_bitOf vX10_bitOf dX10_checkSet_20 rfl rfl rfl (Nat.le_of_ble_eq_true rfl) ⟨Nat.le_of_ble_eq_true rfl, Nat.le_of_ble_eq_true rfl⟩ ?_
    refine w_iconst dX10_checkSet_23 ?_
    refine w_icmp_eq 39 dX10_checkSet_24 (by decide) (by unfold ok32; omega) (by unfold ok32; omega) (fun hn => ?_) (fun hn => ?_)
    · refine w_iinc (lv' := [_, _, _, _, _]) dX10_checkSet_39 rfl rfl rfl ?_
      refine w_goto 5 dX10_checkSet_42 (by decide) ?_
      refine w_cast ?_ rfl rfl (ih (by omega))
      rw [csetN, if_pos hn]
      rfl
    · refine w_lload_n dX10_checkSet_27 rfl rfl ?_
      refine w_lconst1 dX10_checkSet_28 ?_
      refine w_aload_n dX10_checkSet_29 rfl rfl ?_
      refine w_iload_n dX10_checkSet_30 rfl rfl ?_
      refine w_iload dX10_checkSet_31 rfl ?_
      refine wc_V (Z := mX10_bitOf) (As := [_, _]) (c_bitOf hV hc (by omega)) RH0 rfl kX10_bitOf lX10_77 iX10_bitOf vX10_bitOf dX10_checkSet_33 rfl rfl rfl (Nat.le_of_ble_eq_true rfl) ⟨Nat.le_of_ble_eq_true rfl, Nat.le_of_ble_eq_true rfl⟩ ?_
      refine w_lshl (bitN (shA A) L c j).toNat (by omega) (by omega) dX10_checkSet_36 ?_
      refine w_lor dX10_checkSet_37 ?_
      refine w_lstore_n (lv' := [_, _, _, _, _]) dX10_checkSet_38 rfl (Nat.le_of_ble_eq_true rfl) rfl rfl ?_
      refine w_iinc (lv' := [_, _, _, _, _]) dX10_checkSet_39 rfl rfl rfl ?_
      refine w_goto 5 dX10_checkSet_42 (by decide) ?_
      refine w_cast ?_ rfl rfl (ih (by omega))
      rw [csetN, if_neg hn]
      rfl
set_option maxRecDepth 4000 in
theorem c_hasBit {r : Nat} {A : Nat → Int} {ia : Nat → Nat → Int} {la : Nat → Nat → BitVec 64} {fi : Nat → Int} {fl : Nat → BitVec 64} {h0 : HP} {L R C c b : Nat} (hV : VC A L R C) (hc : c < L * R) (hb : b < L * C) : sp mX10_hasBit [.ref r, .int (zI (c : Int)), .int (zI (b : Int))] (RH r A ia la fi fl h0) 0 0 (pd (some (.int (zI (bI (bitN (shA A) L c (b / L) = (b : Int)))))) (RH r A ia la fi fl h0)) := by
  obtain ⟨v1, v2, v3, v4, v5, v6, v7⟩ := id hV
  have hr := rowLt hc v4.1
  have hj := rowLt hb v4.1
  have hLC := mulLe (a := L) (b := C) (x := 6) (y := 8) (by omega) (by omega)
  have hbn := bitN_le (sh := shA A) (L := L) (C := C) (c := c) (j := b / L) v4 hj v6.2 (v7 _ (by omega)).1
  refine sp_wp rfl (lv := [_, _, _]) rfl (Nat.le_of_ble_eq_true rfl) ?_
  refine w_aload_n dX10_hasBit_0 rfl rfl ?_
  refine w_iload_n dX10_hasBit_1 rfl rfl ?_
  refine w_iload_n dX10_hasBit_2 rfl rfl ?_
  refine w_aload_n dX10_hasBit_3 rfl rfl ?_
  refine w_getf fX10_7 dX10_hasBit_4 RH0 rfl ?_
  refine w_iconst dX10_hasBit_7 ?_
  refine w_iald 3 RH1 rfl (by decide) (by decide) dX10_hasBit_8 ?_
  rw [v1]
  refine w_idiv dX10_hasBit_9 (by unfold ok32; omega) (by omega) (by omega) (by unfold ok32; omega) ?_
  refine wc_V (Z := mX10_bitOf) (As := [_, _]) (c_bitOf (j := b / L) hV hc hj) RH0 rfl kX10_bitOf lX10_77 iX10_bitOf vX10_bitOf dX10_hasBit_10 rfl rfl rfl (Nat.le_of_ble_eq_true rfl) ⟨Nat.le_of_ble_eq_true rfl, Nat.le_of_ble_eq_true rfl⟩ ?_
  refine w_iload_n dX10_hasBit_13 rfl rfl ?_
  refine w_icmp_ne 21 dX10_hasBit_14 (by decide) (by unfold ok32; omega) (by unfold ok32; omega) (fun hn => ?_) (fun hn => ?_)
  · refine w_iconst dX10_hasBit_21 ?_
    refine x_iret rfl (by first | rfl | exact bI_nar _) dX10_hasBit_22 ⟨?_, rfl⟩
    rw [bI_f hn]
  · refine w_iconst dX10_hasBit_17 ?_
    refine w_goto 22 dX10_hasBit_18 (by decide) ?_
    refine x_iret rfl (by first | rfl | exact bI_nar _) dX10_hasBit_22 ⟨?_, rfl⟩
    rw [bI_t hn]
theorem c_isBit {r : Nat} {A : Nat → Int} {ia : Nat → Nat → Int} {la : Nat → Nat → BitVec 64} {fi : Nat → Int} {fl : Nat → BitVec 64} {h0 : HP} {L R C : Nat} {z : Int} (hV : VC A L R C) (hz : ok32 z) : sp mX10_isBit [.ref r, .int (zI z)] (RH r A ia la fi fl h0) 0 0 (pd (some (.int (zI (bI (0 ≤ z ∧ z ≤ (L : Int) * C - 1))))) (RH r A ia la fi fl h0)) := by
  obtain ⟨v1, v2, v3, v4, v5, v6, v7⟩ := id hV
  have hLC : (L : Int) * C ≤ 48 := by exact_mod_cast mulLe (a := L) (b := C) (x := 6) (y := 8) (by omega) (by omega)
  have hLC0 : (0 : Int) ≤ (L : Int) * C := by exact_mod_cast Nat.zero_le (L * C)
  refine sp_wp rfl (lv := [_, _]) rfl (Nat.le_of_ble_eq_true rfl) ?_
  refine w_iload_n dX10_isBit_0 rfl rfl ?_
  refine w_iconst dX10_isBit_1 ?_
  refine w_aload_n dX10_isBit_2 rfl rfl ?_
  refine wc_V (Z := mX10_bits) (As := []) c_bits RH0 rfl kX10_bits lX10_66 iX10_bits vX10_bits dX10_isBit_3 rfl rfl rfl (Nat.le_of_ble_eq_true rfl) ⟨Nat.le_of_ble_eq_true rfl, Nat.le_of_ble_eq_true rfl⟩ ?_
  rw [v1, v3]
  refine w_iconst dX10_isBit_6 ?_
  refine w_isub dX10_isBit_7 ?_
  refine wc_S (Z := mX10_isIn) (As := [_, _, _]) (c_isIn hz (by unfold ok32; omega) (by unfold ok32; omega)) kX10_isIn lX10_70 sX10_isIn dX10_isBit_8 rfl rfl rfl (Nat.le_of_ble_eq_true rfl) ⟨Nat.le_of_ble_eq_true rfl, Nat.le_of_ble_eq_true rfl⟩ ?_
  refine x_iret rfl (by first | rfl | exact bI_nar _) dX10_isBit_11 ⟨rfl, rfl⟩
theorem c_isCheck {r : Nat} {A : Nat → Int} {ia : Nat → Nat → Int} {la : Nat → Nat → BitVec 64} {fi : Nat → Int} {fl : Nat → BitVec 64} {h0 : HP} {L R C : Nat} {z : Int} (hV : VC A L R C) (hz : ok32 z) : sp mX10_isCheck [.ref r, .int (zI z)] (RH r A ia la fi fl h0) 0 0 (pd (some (.int (zI (bI (0 ≤ z ∧ z ≤ (L : Int) * R - 1))))) (RH r A ia la fi fl h0)) := by
  obtain ⟨v1, v2, v3, v4, v5, v6, v7⟩ := id hV
  have hLC : (L : Int) * R ≤ 24 := by exact_mod_cast mulLe (a := L) (b := R) (x := 6) (y := 4) (by omega) (by omega)
  have hLC0 : (0 : Int) ≤ (L : Int) * R := by exact_mod_cast Nat.zero_le (L * R)
  refine sp_wp rfl (lv := [_, _]) rfl (Nat.le_of_ble_eq_true rfl) ?_
  refine w_iload_n dX10_isCheck_0 rfl rfl ?_
  refine w_iconst dX10_isCheck_1 ?_
  refine w_aload_n dX10_isCheck_2 rfl rfl ?_
  refine wc_V (Z := mX10_checks) (As := []) c_checks RH0 rfl kX10_checks lX10_74 iX10_checks vX10_checks dX10_isCheck_3 rfl rfl rfl (Nat.le_of_ble_eq_true rfl) ⟨Nat.le_of_ble_eq_true rfl, Nat.le_of_ble_eq_true rfl⟩ ?_
  rw [v1, v2]
  refine w_iconst dX10_isCheck_6 ?_
  refine w_isub dX10_isCheck_7 ?_
  refine wc_S (Z := mX10_isIn) (As := [_, _, _]) (c_isIn hz (by unfold ok32; omega) (by unfold ok32; omega)) kX10_isIn lX10_70 sX10_isIn dX10_isCheck_8 rfl rfl rfl (Nat.le_of_ble_eq_true rfl) ⟨Nat.le_of_ble_eq_true rfl, Nat.le_of_ble_eq_true rfl⟩ ?_
  refine x_iret rfl (by first | rfl | exact bI_nar _) dX10_isCheck_11 ⟨rfl, rfl⟩
def sentB (A : Nat → Int) : BitVec 64 := (BitVec.ofInt 64 (A 47) <<< 32) ||| (BitVec.ofInt 64 (A 46) &&& 4294967295#64)
theorem c_sentSet {r : Nat} {A : Nat → Int} {ia : Nat → Nat → Int} {la : Nat → Nat → BitVec 64} {fi : Nat → Int} {fl : Nat → BitVec 64} {h0 : HP} (h46 : ok32 (A 46)) (h47 : ok32 (A 47)) : sp mX10_sentSet [.ref r] (RH r A ia la fi fl h0) 0 0 (pd (some (.long (lB (sentB A)))) (RH r A ia la fi fl h0)) := by
  refine sp_wp rfl (lv := [_]) rfl (Nat.le_of_ble_eq_true rfl) ?_
  refine w_aload_n dX10_sentSet_0 rfl rfl ?_
  refine w_getf fX10_7 dX10_sentSet_1 RH0 rfl ?_
  refine w_bipush dX10_sentSet_4 (by decide) ?_
  refine w_iald 47 RH1 rfl (by decide) (by decide) dX10_sentSet_6 ?_
  refine w_i2l h47 dX10_sentSet_7 ?_
  refine w_bipush dX10_sentSet_8 (by decide) ?_
  refine w_lshl 32 rfl (by decide) dX10_sentSet_10 ?_
  refine w_aload_n dX10_sentSet_11 rfl rfl ?_
  refine w_getf fX10_7 dX10_sentSet_12 RH0 rfl ?_
  refine w_bipush dX10_sentSet_15 (by decide) ?_
  refine w_iald 46 RH1 rfl (by decide) (by decide) dX10_sentSet_17 ?_
  refine w_i2l h46 dX10_sentSet_18 ?_
  refine w_ldc2B (4294967295#64) qX10_81 (by decide) dX10_sentSet_19 ?_
  refine w_land dX10_sentSet_22 ?_
  refine w_lor dX10_sentSet_23 ?_
  refine x_lret rfl dX10_sentSet_24 ⟨rfl, rfl⟩
def lo32 (x : BitVec 64) : Int := (zI x.toInt).toInt
def putS (A : Nat → Int) (x : BitVec 64) : Nat → Int := u1 (u1 A 46 (lo32 x)) 47 (lo32 (x.sshiftRight 32))
theorem c_putSent {r : Nat} {A : Nat → Int} {ia : Nat → Nat → Int} {la : Nat → Nat → BitVec 64} {fi : Nat → Int} {fl : Nat → BitVec 64} {h0 : HP} {x : BitVec 64} : sp mX10_putSent [.ref r, .long (lB x)] (RH r A ia la fi fl h0) 0 0 (pd none (RH r (putS A x) ia la fi fl h0)) := by
  refine sp_wp rfl (lv := [_, _, _]) rfl (Nat.le_of_ble_eq_true rfl) ?_
  refine w_aload_n dX10_putSent_0 rfl rfl ?_
  refine w_getf fX10_7 dX10_putSent_1 RH0 rfl ?_
  refine w_bipush dX10_putSent_4 (by decide) ?_
  refine w_lload_n dX10_putSent_6 rfl rfl ?_
  refine w_l2i dX10_putSent_7 ?_
  refine w_topi (zI_of _).symm ?_
  refine r_ist1K 46 rfl (by decide) dX10_putSent_8 ?_
  refine w_aload_n dX10_putSent_9 rfl rfl ?_
  refine w_getf fX10_7 dX10_putSent_10 RH0 rfl ?_
  refine w_bipush dX10_putSent_13 (by decide) ?_
  refine w_lload_n dX10_putSent_15 rfl rfl ?_
  refine w_bipush dX10_putSent_16 (by decide) ?_
  refine w_lshr 32 rfl (by decide) dX10_putSent_18 ?_
  refine w_l2i dX10_putSent_19 ?_
  refine w_topi (zI_of _).symm ?_
  refine r_ist1K 47 rfl (by decide) dX10_putSent_20 ?_
  refine x_vret rfl dX10_putSent_21 ⟨rfl, rfl⟩
/-- the bits below n whose number is below 0 -/
def gset (f : Nat → Int) : Nat → BitVec 64
  | 0 => 0#64
  | n + 1 => if f n < 0 then gset f n ||| (1#64 <<< n) else gset f n
set_option maxRecDepth 4000 in
theorem c_guessed {r : Nat} {A : Nat → Int} {ia : Nat → Nat → Int} {la : Nat → Nat → BitVec 64} {fi : Nat → Int} {fl : Nat → BitVec 64} {h0 : HP} {L R C : Nat} (hV : VC A L R C) (hA : ∀ k, ok32 (A k)) : sp mX10_guessed [.ref r] (RH r A ia la fi fl h0) 0 0 (pd (some (.long (lB (gset (fun b => A (96 + b)) (L * C))))) (RH r A ia la fi fl h0)) := by
  obtain ⟨v1, v2, v3, v4, v5, v6, v7⟩ := id hV
  have hLC := mulLe (a := L) (b := C) (x := 6) (y := 8) (by omega) (by omega)
  refine sp_wp rfl (lv := [_, _, _, _]) rfl (Nat.le_of_ble_eq_true rfl) ?_
  refine w_lconst0 dX10_guessed_0 ?_
  refine w_lstore_n (lv' := [_, _, _, _]) dX10_guessed_1 rfl (Nat.le_of_ble_eq_true rfl) rfl rfl ?_
  refine w_iconst dX10_guessed_2 ?_
  refine w_istore_n (lv' := [_, _, _, _]) dX10_guessed_3 rfl (Nat.le_of_ble_eq_true rfl) rfl rfl ?_
  refine up_ind (N := L * C) (P := fun b => wp mX10_guessed 4 [.ref r, .long (lB (gset (fun b => A (96 + b)) b)), jk, .int (zI (b : Int))] [] (RH r A ia la fi fl h0) 0 0 (pd (some (.long (lB (gset (fun b => A (96 + b)) (L * C))))) (RH r A ia la fi fl h0))) (fun b hb ih => ?_) 0 (Nat.zero_le _)
  refine w_iload_n dX10_guessed_4 rfl rfl ?_
  refine w_aload_n dX10_guessed_5 rfl rfl ?_
  refine wc_V (Z := mX10_bits) (As := []) c_bits RH0 rfl kX10_bits lX10_66 iX10_bits vX10_bits dX10_guessed_6 rfl rfl rfl (Nat.le_of_ble_eq_true rfl) ⟨Nat.le_of_ble_eq_true rfl, Nat.le_of_ble_eq_true rfl⟩ ?_
  rw [v1, v3]
  refine w_icmp_ge 36 dX10_guessed_9 (by decide) (by unfold ok32; omega) (by unfold ok32; omega) (fun hn => ?_) (fun hn => ?_)
  · refine w_lload_n dX10_guessed_36 rfl rfl ?_
    refine x_lret rfl dX10_guessed_37 ⟨?_, rfl⟩
    rw [show b = L * C by omega]
  · refine w_aload_n dX10_guessed_12 rfl rfl ?_
    refine w_getf fX10_7 dX10_guessed_13 RH0 rfl ?_
    refine w_bipush dX10_guessed_16 (by decide) ?_
    refine w_iload_n dX10_guessed_18 rfl rfl ?_
    refine w_iadd dX10_guessed_19 ?_
    refine w_iald (96 + b) RH1 (by omega) (by omega) (by decide) dX10_guessed_20 ?_
    refine w_if_ge 30 dX10_guessed_21 (by decide) (hA _) (fun hg => ?_) (fun hg => ?_)
    · refine w_iinc (lv' := [_, _, _, _]) dX10_guessed_30 rfl rfl rfl ?_
      refine w_goto 4 dX10_guessed_33 (by decide) ?_
      refine w_cast ?_ rfl rfl (ih (by omega))
      rw [gset, if_neg (by omega)]
      rfl
    · refine w_lload_n dX10_guessed_24 rfl rfl ?_
      refine w_lconst1 dX10_guessed_25 ?_
      refine w_iload_n dX10_guessed_26 rfl rfl ?_
      refine w_lshl _ rfl (by omega) dX10_guessed_27 ?_
      refine w_lor dX10_guessed_28 ?_
      refine w_lstore_n (lv' := [_, _, _, _]) dX10_guessed_29 rfl (Nat.le_of_ble_eq_true rfl) rfl rfl ?_
      refine w_iinc (lv' := [_, _, _, _]) dX10_guessed_30 rfl rfl rfl ?_
      refine w_goto 4 dX10_guessed_33 (by decide) ?_
      refine w_cast ?_ rfl rfl (ih (by omega))
      rw [gset, if_pos (by omega)]
      rfl
/-- how many of the first n sets have an odd part in x -/
def oddN (cs : Nat → BitVec 64) (x : BitVec 64) : Nat → Nat
  | 0 => 0
  | n + 1 => oddN cs x n + pop (cs n &&& x) % 2
theorem oddN_le (cs : Nat → BitVec 64) (x : BitVec 64) (n : Nat) : oddN cs x n ≤ n := by
  induction n with
  | zero => exact Nat.le_refl _
  | succ n ih => unfold oddN; omega
set_option maxRecDepth 4000 in
theorem c_oddsOf {r : Nat} {A : Nat → Int} {ia : Nat → Nat → Int} {la : Nat → Nat → BitVec 64} {fi : Nat → Int} {fl : Nat → BitVec 64} {h0 : HP} {L R C : Nat} {x : BitVec 64} (hV : VC A L R C) : sp mX10_oddsOf [.ref r, .long (lB x)] (RH r A ia la fi fl h0) 0 0 (pd (some (.int (zI (oddN (fun c => csetN (shA A) L c C) x (L * R) : Nat)))) (RH r A ia la fi fl h0)) := by
  obtain ⟨v1, v2, v3, v4, v5, v6, v7⟩ := id hV
  have hLR := mulLe (a := L) (b := R) (x := 6) (y := 4) (by omega) (by omega)
  refine sp_wp rfl (lv := [_, _, _, _, _]) rfl (Nat.le_of_ble_eq_true rfl) ?_
  refine w_iconst dX10_oddsOf_0 ?_
  refine w_istore_n (lv' := [_, _, _, _, _]) dX10_oddsOf_1 rfl (Nat.le_of_ble_eq_true rfl) rfl rfl ?_
  refine w_iconst dX10_oddsOf_2 ?_
  refine w_istore (lv' := [_, _, _, _, _]) dX10_oddsOf_3 (Nat.le_of_ble_eq_true rfl) rfl rfl ?_
  refine up_ind (N := L * R) (P := fun c => wp mX10_oddsOf 5 [.ref r, .long (lB x), jk, .int (zI (oddN (fun c => csetN (shA A) L c C) x c : Nat)), .int (zI (c : Int))] [] (RH r A ia la fi fl h0) 0 0 (pd (some (.int (zI (oddN (fun c => csetN (shA A) L c C) x (L * R) : Nat)))) (RH r A ia la fi fl h0))) (fun c hc ih => ?_) 0 (Nat.zero_le _)
  refine w_iload dX10_oddsOf_5 rfl ?_
  refine w_aload_n dX10_oddsOf_7 rfl rfl ?_
  refine wc_V (Z := mX10_checks) (As := []) c_checks RH0 rfl kX10_checks lX10_74 iX10_checks vX10_checks dX10_oddsOf_8 rfl rfl rfl (Nat.le_of_ble_eq_true rfl) ⟨Nat.le_of_ble_eq_true rfl, Nat.le_of_ble_eq_true rfl⟩ ?_
  rw [v1, v2]
  refine w_icmp_ge 36 dX10_oddsOf_11 (by decide) (by unfold ok32; omega) (by unfold ok32; omega) (fun hn => ?_) (fun hn => ?_)
  · refine w_iload_n dX10_oddsOf_36 rfl rfl ?_
    refine x_iret rfl rfl dX10_oddsOf_37 ⟨?_, rfl⟩
    rw [show c = L * R by omega]
  · have hp := pop_le (csetN (shA A) L c C &&& x)
    refine w_iload_n dX10_oddsOf_14 rfl rfl ?_
    refine w_aload_n dX10_oddsOf_15 rfl rfl ?_
    refine w_iload dX10_oddsOf_16 rfl ?_
    refine wc_V (Z := mX10_checkSet) (As := [_]) (c_checkSet hV (by omega)) RH0 rfl kX10_checkSet lX10_83 iX10_checkSet vX10_checkSet dX10_oddsOf_18 rfl rfl rfl (Nat.le_of_ble_eq_true rfl) ⟨Nat.le_of_ble_eq_true rfl, Nat.le_of_ble_eq_true rfl⟩ ?_
    refine w_lload_n dX10_oddsOf_21 rfl rfl ?_
    refine w_land dX10_oddsOf_22 ?_
    refine wc_S (Z := mX10_many) (As := [_]) c_many kX10_many lX10_87 sX10_many dX10_oddsOf_23 rfl rfl rfl (Nat.le_of_ble_eq_true rfl) ⟨Nat.le_of_ble_eq_true rfl, Nat.le_of_ble_eq_true rfl⟩ ?_
    refine w_iconst dX10_oddsOf_26 ?_
    refine w_irem dX10_oddsOf_27 (by unfold ok32; omega) (by omega) (by omega) (by unfold ok32; omega) ?_
    refine w_iadd dX10_oddsOf_28 ?_
    refine w_istore_n (lv' := [_, _, _, _, _]) dX10_oddsOf_29 rfl (Nat.le_of_ble_eq_true rfl) rfl rfl ?_
    refine w_iinc (lv' := [_, _, _, _, _]) dX10_oddsOf_30 rfl rfl rfl ?_
    refine w_goto 5 dX10_oddsOf_33 (by decide) ?_
    exact ih (by omega)
theorem c_messageAt {a b : Int} {h : HP} : sp mX10_messageAt [.int (zI a), .int (zI b)] h 0 0 (pd (some (.int (zI (144 + 8 * a + b)))) h) := by
  refine sp_wp rfl (lv := [_, _]) rfl (Nat.le_of_ble_eq_true rfl) ?_
  refine w_sipush dX10_messageAt_0 (by decide) ?_
  refine w_bipush dX10_messageAt_3 (by decide) ?_
  refine w_iload_n dX10_messageAt_5 rfl rfl ?_
  refine w_imul dX10_messageAt_6 ?_
  refine w_iadd dX10_messageAt_7 ?_
  refine w_iload_n dX10_messageAt_8 rfl rfl ?_
  refine w_iadd dX10_messageAt_9 ?_
  refine x_iret rfl rfl dX10_messageAt_10 ⟨rfl, rfl⟩
theorem c_stepAt {a b : Nat} {h : HP} (hab : a + b < 2147483647) : sp mX10_stepAt [.int (zI (a : Int)), .int (zI (b : Int))] h 0 0 (pd (some (.int (zI ((433 + 430 * ((a + b) % 20) : Nat) : Int)))) h) := by
  refine sp_wp rfl (lv := [_, _]) rfl (Nat.le_of_ble_eq_true rfl) ?_
  refine w_sipush dX10_stepAt_0 (by decide) ?_
  refine w_sipush dX10_stepAt_3 (by decide) ?_
  refine w_iload_n dX10_stepAt_6 rfl rfl ?_
  refine w_iload_n dX10_stepAt_7 rfl rfl ?_
  refine w_iadd dX10_stepAt_8 ?_
  refine w_bipush dX10_stepAt_9 (by decide) ?_
  refine w_irem dX10_stepAt_11 (by unfold ok32; omega) (by omega) (by omega) (by unfold ok32; omega) ?_
  refine w_imul dX10_stepAt_12 ?_
  refine w_iadd dX10_stepAt_13 ?_
  refine x_iret rfl rfl dX10_stepAt_14 ⟨rfl, rfl⟩
set_option maxRecDepth 4000 in
theorem c_isSending {a b : Int} {h : HP} (ha : ok32 a) (hb : ok32 b) : sp mX10_isSending [.int (zI a), .int (zI b)] h 0 0 (pd (some (.int (zI (bI ((1 ≤ a ∧ a ≤ 31) ∧ 0 ≤ b ∧ b ≤ 100))))) h) := by
  refine sp_wp rfl (lv := [_, _]) rfl (Nat.le_of_ble_eq_true rfl) ?_
  refine w_iload_n dX10_isSending_0 rfl rfl ?_
  refine w_iconst dX10_isSending_1 ?_
  refine w_bipush dX10_isSending_2 (by decide) ?_
  refine wc_S (Z := mX10_isIn) (As := [_, _, _]) (c_isIn ha (by unfold ok32; omega) (by unfold ok32; omega)) kX10_isIn lX10_70 sX10_isIn dX10_isSending_4 rfl rfl rfl (Nat.le_of_ble_eq_true rfl) ⟨Nat.le_of_ble_eq_true rfl, Nat.le_of_ble_eq_true rfl⟩ ?_
  refine w_ifb_eq 24 dX10_isSending_7 (by decide) (fun h1 => ?_) (fun h1 => ?_)
  · refine w_iconst dX10_isSending_24 ?_
    refine x_iret rfl (by first | rfl | exact bI_nar _) dX10_isSending_25 ⟨?_, rfl⟩
    rw [bI_f (by omega)]
  · refine w_iload_n dX10_isSending_10 rfl rfl ?_
    refine w_iconst dX10_isSending_11 ?_
    refine w_bipush dX10_isSending_12 (by decide) ?_
    refine wc_S (Z := mX10_isIn) (As := [_, _, _]) (c_isIn hb (by unfold ok32; omega) (by unfold ok32; omega)) kX10_isIn lX10_70 sX10_isIn dX10_isSending_14 rfl rfl rfl (Nat.le_of_ble_eq_true rfl) ⟨Nat.le_of_ble_eq_true rfl, Nat.le_of_ble_eq_true rfl⟩ ?_
    refine w_ifb_eq 24 dX10_isSending_17 (by decide) (fun h2 => ?_) (fun h2 => ?_)
    · refine w_iconst dX10_isSending_24 ?_
      refine x_iret rfl (by first | rfl | exact bI_nar _) dX10_isSending_25 ⟨?_, rfl⟩
      rw [bI_f (by omega)]
    · refine w_iconst dX10_isSending_20 ?_
      refine w_goto 25 dX10_isSending_21 (by decide) ?_
      refine x_iret rfl (by first | rfl | exact bI_nar _) dX10_isSending_25 ⟨?_, rfl⟩
      rw [bI_t (by omega)]

