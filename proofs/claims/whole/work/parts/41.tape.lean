/-! the tape -/
def byI (v k : Int) : Int := (zI v >>> (zI k &&& 31) &&& zI 255).toInt
theorem byI_rng (v k : Int) : 0 ≤ byI v k ∧ byI v k ≤ 255 := by
  unfold byI
  generalize zI v >>> (zI k &&& 31) = x
  have h : ((x &&& zI 255).toBitVec).toNat ≤ 255 := by
    show (x.toBitVec &&& 255#32).toNat ≤ 255
    rw [BitVec.toNat_and]
    exact Nat.and_le_right
  have h2 : (x &&& zI 255).toInt = ((x &&& zI 255).toBitVec).toInt := rfl
  rw [h2, BitVec.toInt_eq_toNat_of_lt (by omega)]
  omega
def fourT (T : Nat → Int) (n : Nat) (v : Int) : Nat → Int := u1 (u1 (u1 (u1 T n (byI v 24)) (n + 1) (byI v 16)) (n + 2) (byI v 8)) (n + 3) (byI v 0)
theorem c_four {r : Nat} {A : Nat → Int} {ia : Nat → Nat → Int} {la : Nat → Nat → BitVec 64} {fi : Nat → Int} {fl : Nat → BitVec 64} {h0 : HP} {T : Nat → Int} {n : Nat} {v : Int} (hn : n + 4 ≤ 300) : sp mX10_four [.ref r, .int (zI v)] (RH r A (u1 ia 4 T) la (u1 fi 4 (n : Int)) fl h0) 0 0 (pd none (RH r A (u1 ia 4 (fourT T n v)) la (u1 fi 4 ((n + 4 : Nat) : Int)) fl h0)) := by
  have step : ∀ (k : Int) (n1 : Nat) (T1 : Nat → Int), 0 ≤ k → k ≤ 24 → n1 < 300 → wp mX10_four 3 [.ref r, .int (zI v), .int (zI (k + -8))] [] (RH r A (u1 ia 4 (u1 T1 n1 (byI v k))) la (u1 fi 4 ((n1 + 1 : Nat) : Int)) fl h0) 0 0 (pd none (RH r A (u1 ia 4 (fourT T n v)) la (u1 fi 4 ((n + 4 : Nat) : Int)) fl h0)) → wp mX10_four 3 [.ref r, .int (zI v), .int (zI k)] [] (RH r A (u1 ia 4 T1) la (u1 fi 4 (n1 : Int)) fl h0) 0 0 (pd none (RH r A (u1 ia 4 (fourT T n v)) la (u1 fi 4 ((n + 4 : Nat) : Int)) fl h0)) := by
    intro k n1 T1 h0 h24 hn1 K
    refine w_iload_n dX10_four_3 rfl rfl ?_
    refine w_if_lt 39 dX10_four_4 (by decide) (by first | assumption | (unfold ok32 at *; omega)) (fun hc => ?_) (fun hc => ?_)
    · omega
    · refine w_aload_n dX10_four_7 rfl rfl ?_
      refine w_getf fX10_19 dX10_four_8 RH0 rfl ?_
      refine w_aload_n dX10_four_11 rfl rfl ?_
      refine w_getf fX10_91 dX10_four_12 RH0 rfl ?_
      rw [u1_s]
      refine w_iload_n dX10_four_15 rfl rfl ?_
      refine w_iload_n dX10_four_16 rfl rfl ?_
      refine w_ishrR dX10_four_17 ?_
      refine w_sipush dX10_four_18 (by decide) ?_
      refine w_iandR dX10_four_21 ?_
      rw [← zI_of (zI v >>> (zI k &&& 31) &&& zI 255)]
      refine r_ist4K n1 rfl (by omega) dX10_four_22 ?_
      rw [u1_u1, u1_s]
      refine w_aload_n dX10_four_23 rfl rfl ?_
      refine w_dup dX10_four_24 rfl ?_
      refine w_getf fX10_91 dX10_four_25 RH0 rfl ?_
      refine w_iconst dX10_four_28 ?_
      refine w_iadd dX10_four_29 ?_
      rw [u1_s, show ((n1 : Int) + 1) = ((n1 + 1 : Nat) : Int) by omega]
      refine r_pf4 fX10_91 dX10_four_30 ?_
      rw [u1_u1]
      refine w_iinc (lv' := [_, _, _]) dX10_four_33 rfl rfl rfl ?_
      refine w_goto 3 dX10_four_36 (by decide) ?_
      exact K
  refine sp_wp rfl (lv := [_, _, _]) rfl (Nat.le_of_ble_eq_true rfl) ?_
  refine w_bipush dX10_four_0 (by decide) ?_
  refine w_istore_n (lv' := [_, _, _]) dX10_four_2 rfl (Nat.le_of_ble_eq_true rfl) rfl rfl ?_
  refine step 24 n T (by omega) (by omega) (by omega) ?_
  refine step 16 (n + 1) _ (by omega) (by omega) (by omega) ?_
  refine step 8 (n + 2) _ (by omega) (by omega) (by omega) ?_
  refine step 0 (n + 3) _ (by omega) (by omega) (by omega) ?_
  refine w_iload_n dX10_four_3 rfl rfl ?_
  refine w_if_lt 39 dX10_four_4 (by decide) (by first | assumption | (unfold ok32 at *; omega)) (fun hc => ?_) (fun hc => ?_)
  · exact x_vret rfl dX10_four_39 ⟨rfl, rfl⟩
  · omega
def feedT (T : Nat → Int) (n : Nat) (a b c d e : Int) : Nat → Int := fourT (fourT (fourT (fourT (fourT T n a) (n + 4) b) (n + 8) c) (n + 12) d) (n + 16) e
set_option maxRecDepth 4000 in
theorem c_feed {r : Nat} {A : Nat → Int} {ia : Nat → Nat → Int} {la : Nat → Nat → BitVec 64} {fi : Nat → Int} {fl : Nat → BitVec 64} {h0 : HP} {n : Nat} {a b c d e : Int} (h4 : fi 4 = (n : Int)) (hn : n ≤ 300) : sp mX10_feed [.ref r, .int (zI a), .int (zI b), .int (zI c), .int (zI d), .int (zI e)] (RH r A ia la fi fl h0) 0 0 (pd (some (.int (zI (if n + 20 ≤ 300 then ((n + 20 : Nat) : Int) else -1)))) (if n + 20 ≤ 300 then (RH r A (u1 ia 4 (feedT (ia 4) n a b c d e)) la (u1 fi 4 ((n + 20 : Nat) : Int)) fl h0) else (RH r A ia la fi fl h0))) := by
  refine sp_wp rfl (lv := [_, _, _, _, _, _]) rfl (Nat.le_of_ble_eq_true rfl) ?_
  refine w_aload_n dX10_feed_0 rfl rfl ?_
  refine w_getf fX10_91 dX10_feed_1 RH0 rfl ?_
  refine w_bipush dX10_feed_4 (by decide) ?_
  rw [h4]
  refine w_iadd dX10_feed_6 ?_
  refine w_sipush dX10_feed_7 (by decide) ?_
  refine w_icmp_le 15 dX10_feed_10 (by decide) (by first | assumption | (unfold ok32 at *; omega)) (by first | assumption | (unfold ok32 at *; omega)) (fun hc => ?_) (fun hc => ?_)
  · rw [if_pos (by omega), if_pos (by omega)]
    have e1 : (RH r A ia la fi fl h0) = (RH r A (u1 ia 4 (ia 4)) la (u1 fi 4 (n : Int)) fl h0) := by rw [u1_id, ← h4, u1_id]
    rw [e1]
    refine w_aload_n dX10_feed_15 rfl rfl ?_
    refine w_iload_n dX10_feed_16 rfl rfl ?_
    refine wc_Vv (Z := mX10_four) (As := [_]) (c_four (by omega)) RH0 rfl kX10_four lX10_94 iX10_four vX10_four dX10_feed_17 rfl rfl rfl (Nat.le_of_ble_eq_true rfl) ⟨Nat.le_of_ble_eq_true rfl, Nat.le_of_ble_eq_true rfl⟩ ?_
    refine w_aload_n dX10_feed_20 rfl rfl ?_
    refine w_iload_n dX10_feed_21 rfl rfl ?_
    refine wc_Vv (Z := mX10_four) (As := [_]) (c_four (by omega)) RH0 rfl kX10_four lX10_94 iX10_four vX10_four dX10_feed_22 rfl rfl rfl (Nat.le_of_ble_eq_true rfl) ⟨Nat.le_of_ble_eq_true rfl, Nat.le_of_ble_eq_true rfl⟩ ?_
    refine w_aload_n dX10_feed_25 rfl rfl ?_
    refine w_iload_n dX10_feed_26 rfl rfl ?_
    refine wc_Vv (Z := mX10_four) (As := [_]) (c_four (by omega)) RH0 rfl kX10_four lX10_94 iX10_four vX10_four dX10_feed_27 rfl rfl rfl (Nat.le_of_ble_eq_true rfl) ⟨Nat.le_of_ble_eq_true rfl, Nat.le_of_ble_eq_true rfl⟩ ?_
    refine w_aload_n dX10_feed_30 rfl rfl ?_
    refine w_iload dX10_feed_31 rfl ?_
    refine wc_Vv (Z := mX10_four) (As := [_]) (c_four (by omega)) RH0 rfl kX10_four lX10_94 iX10_four vX10_four dX10_feed_33 rfl rfl rfl (Nat.le_of_ble_eq_true rfl) ⟨Nat.le_of_ble_eq_true rfl, Nat.le_of_ble_eq_true rfl⟩ ?_
    refine w_aload_n dX10_feed_36 rfl rfl ?_
    refine w_iload dX10_feed_37 rfl ?_
    refine wc_Vv (Z := mX10_four) (As := [_]) (c_four (by omega)) RH0 rfl kX10_four lX10_94 iX10_four vX10_four dX10_feed_39 rfl rfl rfl (Nat.le_of_ble_eq_true rfl) ⟨Nat.le_of_ble_eq_true rfl, Nat.le_of_ble_eq_true rfl⟩ ?_
    refine w_aload_n dX10_feed_42 rfl rfl ?_
    refine w_getf fX10_91 dX10_feed_43 RH0 rfl ?_
    rw [u1_s]
    exact x_iret rfl rfl dX10_feed_46 ⟨rfl, rfl⟩
  · rw [if_neg (by omega), if_neg (by omega)]
    refine w_iconst dX10_feed_13 ?_
    exact x_iret rfl rfl dX10_feed_14 ⟨rfl, rfl⟩
theorem c_end {r : Nat} {A : Nat → Int} {ia : Nat → Nat → Int} {la : Nat → Nat → BitVec 64} {fi : Nat → Int} {fl : Nat → BitVec 64} {h0 : HP} {z : Int} (h4 : ok32 (fi 4)) (hz : ok32 z) : sp mX10_end [.ref r, .int (zI z)] (RH r A ia la fi fl h0) 0 0 (pd (some (.int (zI (if 0 ≤ z ∧ z ≤ fi 4 then z else -1)))) (RH r A ia la (u1 fi 4 (if 0 ≤ z ∧ z ≤ fi 4 then z else fi 4)) fl h0)) := by
  refine sp_wp rfl (lv := [_, _]) rfl (Nat.le_of_ble_eq_true rfl) ?_
  refine w_iload_n dX10_end_0 rfl rfl ?_
  refine w_iconst dX10_end_1 ?_
  refine w_aload_n dX10_end_2 rfl rfl ?_
  refine w_getf fX10_91 dX10_end_3 RH0 rfl ?_
  refine wc_S (Z := mX10_isIn) (As := [_, _, _]) (c_isIn hz (by first | assumption | (unfold ok32 at *; omega)) h4) kX10_isIn lX10_70 sX10_isIn dX10_end_6 rfl rfl rfl (Nat.le_of_ble_eq_true rfl) ⟨Nat.le_of_ble_eq_true rfl, Nat.le_of_ble_eq_true rfl⟩ ?_
  refine w_ifb_ne 14 dX10_end_9 (by decide) (fun hc => ?_) (fun hc => ?_)
  · rw [if_pos hc, if_pos hc]
    refine w_aload_n dX10_end_14 rfl rfl ?_
    refine w_iload_n dX10_end_15 rfl rfl ?_
    refine r_pf4 fX10_91 dX10_end_16 ?_
    refine w_iload_n dX10_end_19 rfl rfl ?_
    exact x_iret rfl rfl dX10_end_20 ⟨rfl, rfl⟩
  · rw [if_neg hc, if_neg hc, u1_id]
    refine w_iconst dX10_end_12 ?_
    exact x_iret rfl rfl dX10_end_13 ⟨rfl, rfl⟩
theorem c_fault {r : Nat} {A : Nat → Int} {ia : Nat → Nat → Int} {la : Nat → Nat → BitVec 64} {fi : Nat → Int} {fl : Nat → BitVec 64} {h0 : HP} {z : Int} (hz : ok32 z) : sp mX10_fault [.ref r, .int (zI z)] (RH r A ia la fi fl h0) 0 0 (pd (some (.int (zI (if z = 0 then fi 5 else if z = 1 then fi 6 else -1)))) (RH r A ia la fi fl h0)) := by
  refine sp_wp rfl (lv := [_, _]) rfl (Nat.le_of_ble_eq_true rfl) ?_
  refine w_iload_n dX10_fault_0 rfl rfl ?_
  refine w_if_ne 11 dX10_fault_1 (by decide) (by first | assumption | (unfold ok32 at *; omega)) (fun hc => ?_) (fun hc => ?_)
  · rw [if_neg hc]
    refine w_iload_n dX10_fault_11 rfl rfl ?_
    refine w_iconst dX10_fault_12 ?_
    refine w_icmp_ne 23 dX10_fault_13 (by decide) (by first | assumption | (unfold ok32 at *; omega)) (by first | assumption | (unfold ok32 at *; omega)) (fun hc2 => ?_) (fun hc2 => ?_)
    · rw [if_neg hc2]
      refine w_iconst dX10_fault_23 ?_
      exact x_iret rfl rfl dX10_fault_24 ⟨rfl, rfl⟩
    · rw [if_pos hc2]
      refine w_aload_n dX10_fault_16 rfl rfl ?_
      refine w_getf fX10_26 dX10_fault_17 RH0 rfl ?_
      refine w_goto 24 dX10_fault_20 (by decide) ?_
      exact x_iret rfl rfl dX10_fault_24 ⟨rfl, rfl⟩
  · rw [if_pos hc]
    refine w_aload_n dX10_fault_4 rfl rfl ?_
    refine w_getf fX10_22 dX10_fault_5 RH0 rfl ?_
    refine w_goto 24 dX10_fault_8 (by decide) ?_
    exact x_iret rfl rfl dX10_fault_24 ⟨rfl, rfl⟩
def byt (T : Nat → Int) (n k : Nat) : Int := if k < n then T k else -1
def TB (T : Nat → Int) : Prop := ∀ k, 0 ≤ T k ∧ T k ≤ 255
theorem byt_rng {T : Nat → Int} {n k : Nat} (h : TB T) : -1 ≤ byt T n k ∧ byt T n k ≤ 255 := by
  have := h k
  unfold byt
  split <;> omega
theorem c_byteAt {r : Nat} {A : Nat → Int} {ia : Nat → Nat → Int} {la : Nat → Nat → BitVec 64} {fi : Nat → Int} {fl : Nat → BitVec 64} {h0 : HP} {n k : Nat} (h4 : fi 4 = (n : Int)) (hn : n ≤ 300) (hk : k ≤ 1000) : sp mX10_byteAt [.ref r, .int (zI (k : Int))] (RH r A ia la fi fl h0) 0 0 (pd (some (.int (zI (byt (ia 4) n k)))) (RH r A ia la fi fl h0)) := by
  refine sp_wp rfl (lv := [_, _]) rfl (Nat.le_of_ble_eq_true rfl) ?_
  refine w_iload_n dX10_byteAt_0 rfl rfl ?_
  refine w_aload_n dX10_byteAt_1 rfl rfl ?_
  refine w_getf fX10_91 dX10_byteAt_2 RH0 rfl ?_
  rw [h4]
  unfold byt
  refine w_icmp_ge 17 dX10_byteAt_5 (by decide) (by first | assumption | (unfold ok32 at *; omega)) (by first | assumption | (unfold ok32 at *; omega)) (fun hc => ?_) (fun hc => ?_)
  · rw [if_neg (by omega)]
    refine w_iconst dX10_byteAt_17 ?_
    exact x_iret rfl rfl dX10_byteAt_18 ⟨rfl, rfl⟩
  · rw [if_pos (by omega)]
    refine w_aload_n dX10_byteAt_8 rfl rfl ?_
    refine w_getf fX10_19 dX10_byteAt_9 RH0 rfl ?_
    refine w_iload_n dX10_byteAt_12 rfl rfl ?_
    refine w_iald k RH4 rfl (by omega) (by decide) dX10_byteAt_13 ?_
    refine w_goto 18 dX10_byteAt_14 (by decide) ?_
    exact x_iret rfl rfl dX10_byteAt_18 ⟨rfl, rfl⟩
theorem c_isLetterByte {c : Int} {h : HP} (hc : ok32 c) : sp mX10_isLetterByte [.int (zI c)] h 0 0 (pd (some (.int (zI (bI (97 ≤ c ∧ c ≤ 122))))) h) := by
  refine sp_wp rfl (lv := [_]) rfl (Nat.le_of_ble_eq_true rfl) ?_
  refine w_iload_n dX10_isLetterByte_0 rfl rfl ?_
  refine w_bipush dX10_isLetterByte_1 (by decide) ?_
  refine w_icmp_lt 16 dX10_isLetterByte_3 (by decide) (by first | assumption | (unfold ok32 at *; omega)) (by first | assumption | (unfold ok32 at *; omega)) (fun h1 => ?_) (fun h1 => ?_)
  · refine w_iconst dX10_isLetterByte_16 ?_
    refine x_iret rfl (by rfl) dX10_isLetterByte_17 ⟨?_, rfl⟩
    rw [bI_f (by omega)]
  · refine w_iload_n dX10_isLetterByte_6 rfl rfl ?_
    refine w_bipush dX10_isLetterByte_7 (by decide) ?_
    refine w_icmp_gt 16 dX10_isLetterByte_9 (by decide) (by first | assumption | (unfold ok32 at *; omega)) (by first | assumption | (unfold ok32 at *; omega)) (fun h2 => ?_) (fun h2 => ?_)
    · refine w_iconst dX10_isLetterByte_16 ?_
      refine x_iret rfl (by rfl) dX10_isLetterByte_17 ⟨?_, rfl⟩
      rw [bI_f (by omega)]
    · refine w_iconst dX10_isLetterByte_12 ?_
      refine w_goto 17 dX10_isLetterByte_13 (by decide) ?_
      refine x_iret rfl (by rfl) dX10_isLetterByte_17 ⟨?_, rfl⟩
      rw [bI_t (by omega)]
theorem c_isFigure {c : Int} {h : HP} (hc : ok32 c) : sp mX10_isFigure [.int (zI c)] h 0 0 (pd (some (.int (zI (bI (48 ≤ c ∧ c ≤ 57))))) h) := by
  refine sp_wp rfl (lv := [_]) rfl (Nat.le_of_ble_eq_true rfl) ?_
  refine w_iload_n dX10_isFigure_0 rfl rfl ?_
  refine w_bipush dX10_isFigure_1 (by decide) ?_
  refine w_icmp_lt 16 dX10_isFigure_3 (by decide) (by first | assumption | (unfold ok32 at *; omega)) (by first | assumption | (unfold ok32 at *; omega)) (fun h1 => ?_) (fun h1 => ?_)
  · refine w_iconst dX10_isFigure_16 ?_
    refine x_iret rfl (by rfl) dX10_isFigure_17 ⟨?_, rfl⟩
    rw [bI_f (by omega)]
  · refine w_iload_n dX10_isFigure_6 rfl rfl ?_
    refine w_bipush dX10_isFigure_7 (by decide) ?_
    refine w_icmp_gt 16 dX10_isFigure_9 (by decide) (by first | assumption | (unfold ok32 at *; omega)) (by first | assumption | (unfold ok32 at *; omega)) (fun h2 => ?_) (fun h2 => ?_)
    · refine w_iconst dX10_isFigure_16 ?_
      refine x_iret rfl (by rfl) dX10_isFigure_17 ⟨?_, rfl⟩
      rw [bI_f (by omega)]
    · refine w_iconst dX10_isFigure_12 ?_
      refine w_goto 17 dX10_isFigure_13 (by decide) ?_
      refine x_iret rfl (by rfl) dX10_isFigure_17 ⟨?_, rfl⟩
      rw [bI_t (by omega)]
def f4P (T : Nat → Int) (n p : Nat) (x y z w : Int) : Prop := byt T n p = x ∧ byt T n (p + 1) = y ∧ byt T n (p + 2) = z ∧ byt T n (p + 3) = w
noncomputable def f4B (T : Nat → Int) (n p : Nat) (x y z w : Int) : Bool := dP (f4P T n p x y z w)
set_option maxRecDepth 4000 in
theorem c_areFour {r : Nat} {A : Nat → Int} {ia : Nat → Nat → Int} {la : Nat → Nat → BitVec 64} {fi : Nat → Int} {fl : Nat → BitVec 64} {h0 : HP} {n p : Nat} {x y z w : Int} (h4 : fi 4 = (n : Int)) (hn : n ≤ 300) (hp : p ≤ 900) (hT : TB (ia 4)) (hx : ok32 x) (hy : ok32 y) (hz : ok32 z) (hw : ok32 w) : sp mX10_areFour [.ref r, .int (zI (p : Int)), .int (zI x), .int (zI y), .int (zI z), .int (zI w)] (RH r A ia la fi fl h0) 0 0 (pd (some (.int (zI (bI (f4B (ia 4) n p x y z w = true))))) (RH r A ia la fi fl h0)) := by
  have ob : ∀ k, ok32 (byt (ia 4) n k) := fun k => by have := byt_rng (n := n) (k := k) hT; unfold ok32; omega
  have bad : ¬ f4P (ia 4) n p x y z w → wp mX10_areFour 48 [.ref r, .int (zI (p : Int)), .int (zI x), .int (zI y), .int (zI z), .int (zI w)] [] (RH r A ia la fi fl h0) 0 0 (pd (some (.int (zI (bI (f4B (ia 4) n p x y z w = true))))) (RH r A ia la fi fl h0)) := by
    intro hb
    refine w_iconst dX10_areFour_48 ?_
    refine x_iret rfl (by rfl) dX10_areFour_49 ⟨?_, rfl⟩
    unfold f4B
    rw [bI_f (fun q => hb (dP_iff.mp q))]
  refine sp_wp rfl (lv := [_, _, _, _, _, _]) rfl (Nat.le_of_ble_eq_true rfl) ?_
  refine w_aload_n dX10_areFour_0 rfl rfl ?_
  refine w_iload_n dX10_areFour_1 rfl rfl ?_
  refine wc_V (Z := mX10_byteAt) (As := [_]) (c_byteAt h4 hn (by omega)) RH0 rfl kX10_byteAt lX10_97 iX10_byteAt vX10_byteAt dX10_areFour_2 rfl rfl rfl (Nat.le_of_ble_eq_true rfl) ⟨Nat.le_of_ble_eq_true rfl, Nat.le_of_ble_eq_true rfl⟩ ?_
  refine w_iload_n dX10_areFour_5 rfl rfl ?_
  refine w_icmp_ne 48 dX10_areFour_6 (by decide) (ob _) hx (fun c1 => ?_) (fun c1 => ?_)
  · exact bad (fun q => c1 q.1)
  · refine w_aload_n dX10_areFour_9 rfl rfl ?_
    refine w_iload_n dX10_areFour_10 rfl rfl ?_
    refine w_iconst dX10_areFour_11 ?_
    refine w_iadd dX10_areFour_12 ?_
    rw [show ((p : Int) + 1) = ((p + 1 : Nat) : Int) by omega]
    refine wc_V (Z := mX10_byteAt) (As := [_]) (c_byteAt h4 hn (by omega)) RH0 rfl kX10_byteAt lX10_97 iX10_byteAt vX10_byteAt dX10_areFour_13 rfl rfl rfl (Nat.le_of_ble_eq_true rfl) ⟨Nat.le_of_ble_eq_true rfl, Nat.le_of_ble_eq_true rfl⟩ ?_
    refine w_iload_n dX10_areFour_16 rfl rfl ?_
    refine w_icmp_ne 48 dX10_areFour_17 (by decide) (ob _) hy (fun c2 => ?_) (fun c2 => ?_)
    · exact bad (fun q => c2 q.2.1)
    · refine w_aload_n dX10_areFour_20 rfl rfl ?_
      refine w_iload_n dX10_areFour_21 rfl rfl ?_
      refine w_iconst dX10_areFour_22 ?_
      refine w_iadd dX10_areFour_23 ?_
      rw [show ((p : Int) + 2) = ((p + 2 : Nat) : Int) by omega]
      refine wc_V (Z := mX10_byteAt) (As := [_]) (c_byteAt h4 hn (by omega)) RH0 rfl kX10_byteAt lX10_97 iX10_byteAt vX10_byteAt dX10_areFour_24 rfl rfl rfl (Nat.le_of_ble_eq_true rfl) ⟨Nat.le_of_ble_eq_true rfl, Nat.le_of_ble_eq_true rfl⟩ ?_
      refine w_iload dX10_areFour_27 rfl ?_
      refine w_icmp_ne 48 dX10_areFour_29 (by decide) (ob _) hz (fun c3 => ?_) (fun c3 => ?_)
      · exact bad (fun q => c3 q.2.2.1)
      · refine w_aload_n dX10_areFour_32 rfl rfl ?_
        refine w_iload_n dX10_areFour_33 rfl rfl ?_
        refine w_iconst dX10_areFour_34 ?_
        refine w_iadd dX10_areFour_35 ?_
        rw [show ((p : Int) + 3) = ((p + 3 : Nat) : Int) by omega]
        refine wc_V (Z := mX10_byteAt) (As := [_]) (c_byteAt h4 hn (by omega)) RH0 rfl kX10_byteAt lX10_97 iX10_byteAt vX10_byteAt dX10_areFour_36 rfl rfl rfl (Nat.le_of_ble_eq_true rfl) ⟨Nat.le_of_ble_eq_true rfl, Nat.le_of_ble_eq_true rfl⟩ ?_
        refine w_iload dX10_areFour_39 rfl ?_
        refine w_icmp_ne 48 dX10_areFour_41 (by decide) (ob _) hw (fun c4 => ?_) (fun c4 => ?_)
        · exact bad (fun q => c4 q.2.2.2)
        · refine w_iconst dX10_areFour_44 ?_
          refine w_goto 49 dX10_areFour_45 (by decide) ?_
          refine x_iret rfl (by rfl) dX10_areFour_49 ⟨?_, rfl⟩
          unfold f4B
          rw [bI_t (dP_iff.mpr ⟨c1, c2, c3, c4⟩)]
noncomputable def wdO (T : Nat → Int) (n p l : Nat) : Int := if l = 4 ∧ f4B T n p 108 105 102 116 = true then 200 else if l = 4 ∧ f4B T n p 109 111 115 116 = true then 203 else if l = 3 ∧ byt T n p = 114 ∧ byt T n (p + 1) = 111 ∧ byt T n (p + 2) = 119 then 201 else if l = 6 ∧ f4B T n p 111 102 102 115 = true ∧ byt T n (p + 4) = 101 ∧ byt T n (p + 5) = 116 then 202 else 2
set_option maxRecDepth 4000 in
theorem c_wordOf {r : Nat} {A : Nat → Int} {ia : Nat → Nat → Int} {la : Nat → Nat → BitVec 64} {fi : Nat → Int} {fl : Nat → BitVec 64} {h0 : HP} {n p l : Nat} (h4 : fi 4 = (n : Int)) (h8 : fi 8 = (p : Int)) (hn : n ≤ 300) (hp : p ≤ 900) (hl : l ≤ 1000) (hT : TB (ia 4)) : sp mX10_wordOf [.ref r, .int (zI (l : Int))] (RH r A ia la fi fl h0) 0 0 (pd (some (.int (zI (wdO (ia 4) n p l)))) (RH r A ia la fi fl h0)) := by
  have ob : ∀ k, ok32 (byt (ia 4) n k) := fun k => by have := byt_rng (n := n) (k := k) hT; unfold ok32; omega
  have four : ¬ (l = 6 ∧ f4B (ia 4) n p 111 102 102 115 = true ∧ byt (ia 4) n (p + 4) = 101 ∧ byt (ia 4) n (p + 5) = 116) → ¬ (l = 4 ∧ f4B (ia 4) n p 108 105 102 116 = true) → ¬ (l = 4 ∧ f4B (ia 4) n p 109 111 115 116 = true) → ¬ (l = 3 ∧ byt (ia 4) n p = 114 ∧ byt (ia 4) n (p + 1) = 111 ∧ byt (ia 4) n (p + 2) = 119) → wp mX10_wordOf 169 [.ref r, .int (zI (l : Int))] [] (RH r A ia la fi fl h0) 0 0 (pd (some (.int (zI (wdO (ia 4) n p l)))) (RH r A ia la fi fl h0)) := by
    intro e4 e1 e2 e3
    refine w_iconst dX10_wordOf_169 ?_
    refine x_iret rfl rfl dX10_wordOf_170 ⟨?_, rfl⟩
    unfold wdO
    rw [if_neg e1, if_neg e2, if_neg e3, if_neg e4]
  have three : ¬ (l = 4 ∧ f4B (ia 4) n p 108 105 102 116 = true) → ¬ (l = 4 ∧ f4B (ia 4) n p 109 111 115 116 = true) → ¬ (l = 3 ∧ byt (ia 4) n p = 114 ∧ byt (ia 4) n (p + 1) = 111 ∧ byt (ia 4) n (p + 2) = 119) → wp mX10_wordOf 108 [.ref r, .int (zI (l : Int))] [] (RH r A ia la fi fl h0) 0 0 (pd (some (.int (zI (wdO (ia 4) n p l)))) (RH r A ia la fi fl h0)) := by
    intro e1 e2 e3
    refine w_iload_n dX10_wordOf_108 rfl rfl ?_
    refine w_bipush dX10_wordOf_109 (by decide) ?_
    refine w_icmp_ne 169 dX10_wordOf_111 (by decide) (by first | assumption | (unfold ok32 at *; omega)) (by first | assumption | (unfold ok32 at *; omega)) (fun c1 => ?_) (fun c1 => ?_)
    · exact four (fun q => by omega) e1 e2 e3
    · refine w_aload_n dX10_wordOf_114 rfl rfl ?_
      refine w_aload_n dX10_wordOf_115 rfl rfl ?_
      refine w_getf fX10_101 dX10_wordOf_116 RH0 rfl ?_
      refine w_bipush dX10_wordOf_119 (by decide) ?_
      refine w_bipush dX10_wordOf_121 (by decide) ?_
      refine w_bipush dX10_wordOf_123 (by decide) ?_
      refine w_bipush dX10_wordOf_125 (by decide) ?_
      rw [h8]
      refine wc_V (Z := mX10_areFour) (As := [_, _, _, _, _]) (c_areFour h4 hn hp hT (by first | assumption | (unfold ok32 at *; omega)) (by first | assumption | (unfold ok32 at *; omega)) (by first | assumption | (unfold ok32 at *; omega)) (by first | assumption | (unfold ok32 at *; omega))) RH0 rfl kX10_areFour lX10_104 iX10_areFour vX10_areFour dX10_wordOf_127 rfl rfl rfl (Nat.le_of_ble_eq_true rfl) ⟨Nat.le_of_ble_eq_true rfl, Nat.le_of_ble_eq_true rfl⟩ ?_
      refine w_ifb_eq 169 dX10_wordOf_130 (by decide) (fun c2 => ?_) (fun c2 => ?_)
      · exact four (fun q => c2 q.2.1) e1 e2 e3
      · refine w_aload_n dX10_wordOf_133 rfl rfl ?_
        refine w_aload_n dX10_wordOf_134 rfl rfl ?_
        refine w_getf fX10_101 dX10_wordOf_135 RH0 rfl ?_
        refine w_iconst dX10_wordOf_138 ?_
        refine w_iadd dX10_wordOf_139 ?_
        rw [h8, show ((p : Int) + 4) = ((p + 4 : Nat) : Int) by omega]
        refine wc_V (Z := mX10_byteAt) (As := [_]) (c_byteAt h4 hn (by omega)) RH0 rfl kX10_byteAt lX10_97 iX10_byteAt vX10_byteAt dX10_wordOf_140 rfl rfl rfl (Nat.le_of_ble_eq_true rfl) ⟨Nat.le_of_ble_eq_true rfl, Nat.le_of_ble_eq_true rfl⟩ ?_
        refine w_bipush dX10_wordOf_143 (by decide) ?_
        refine w_icmp_ne 169 dX10_wordOf_145 (by decide) (ob _) (by first | assumption | (unfold ok32 at *; omega)) (fun c3 => ?_) (fun c3 => ?_)
        · exact four (fun q => c3 q.2.2.1) e1 e2 e3
        · refine w_aload_n dX10_wordOf_148 rfl rfl ?_
          refine w_aload_n dX10_wordOf_149 rfl rfl ?_
          refine w_getf fX10_101 dX10_wordOf_150 RH0 rfl ?_
          refine w_iconst dX10_wordOf_153 ?_
          refine w_iadd dX10_wordOf_154 ?_
          rw [h8, show ((p : Int) + 5) = ((p + 5 : Nat) : Int) by omega]
          refine wc_V (Z := mX10_byteAt) (As := [_]) (c_byteAt h4 hn (by omega)) RH0 rfl kX10_byteAt lX10_97 iX10_byteAt vX10_byteAt dX10_wordOf_155 rfl rfl rfl (Nat.le_of_ble_eq_true rfl) ⟨Nat.le_of_ble_eq_true rfl, Nat.le_of_ble_eq_true rfl⟩ ?_
          refine w_bipush dX10_wordOf_158 (by decide) ?_
          refine w_icmp_ne 169 dX10_wordOf_160 (by decide) (ob _) (by first | assumption | (unfold ok32 at *; omega)) (fun c4 => ?_) (fun c4 => ?_)
          · exact four (fun q => c4 q.2.2.2) e1 e2 e3
          · refine w_sipush dX10_wordOf_163 (by decide) ?_
            refine w_goto 170 dX10_wordOf_166 (by decide) ?_
            refine x_iret rfl rfl dX10_wordOf_170 ⟨?_, rfl⟩
            unfold wdO
            rw [if_neg e1, if_neg e2, if_neg e3, if_pos ⟨by omega, c2, c3, c4⟩]
  have two : ¬ (l = 4 ∧ f4B (ia 4) n p 108 105 102 116 = true) → ¬ (l = 4 ∧ f4B (ia 4) n p 109 111 115 116 = true) → wp mX10_wordOf 56 [.ref r, .int (zI (l : Int))] [] (RH r A ia la fi fl h0) 0 0 (pd (some (.int (zI (wdO (ia 4) n p l)))) (RH r A ia la fi fl h0)) := by
    intro e1 e2
    refine w_iload_n dX10_wordOf_56 rfl rfl ?_
    refine w_iconst dX10_wordOf_57 ?_
    refine w_icmp_ne 108 dX10_wordOf_58 (by decide) (by first | assumption | (unfold ok32 at *; omega)) (by first | assumption | (unfold ok32 at *; omega)) (fun c1 => ?_) (fun c1 => ?_)
    · exact three e1 e2 (fun q => by omega)
    · refine w_aload_n dX10_wordOf_61 rfl rfl ?_
      refine w_aload_n dX10_wordOf_62 rfl rfl ?_
      refine w_getf fX10_101 dX10_wordOf_63 RH0 rfl ?_
      rw [h8]
      refine wc_V (Z := mX10_byteAt) (As := [_]) (c_byteAt h4 hn (by omega)) RH0 rfl kX10_byteAt lX10_97 iX10_byteAt vX10_byteAt dX10_wordOf_66 rfl rfl rfl (Nat.le_of_ble_eq_true rfl) ⟨Nat.le_of_ble_eq_true rfl, Nat.le_of_ble_eq_true rfl⟩ ?_
      refine w_bipush dX10_wordOf_69 (by decide) ?_
      refine w_icmp_ne 108 dX10_wordOf_71 (by decide) (ob _) (by first | assumption | (unfold ok32 at *; omega)) (fun c2 => ?_) (fun c2 => ?_)
      · exact three e1 e2 (fun q => c2 q.2.1)
      · refine w_aload_n dX10_wordOf_74 rfl rfl ?_
        refine w_aload_n dX10_wordOf_75 rfl rfl ?_
        refine w_getf fX10_101 dX10_wordOf_76 RH0 rfl ?_
        refine w_iconst dX10_wordOf_79 ?_
        refine w_iadd dX10_wordOf_80 ?_
        rw [h8, show ((p : Int) + 1) = ((p + 1 : Nat) : Int) by omega]
        refine wc_V (Z := mX10_byteAt) (As := [_]) (c_byteAt h4 hn (by omega)) RH0 rfl kX10_byteAt lX10_97 iX10_byteAt vX10_byteAt dX10_wordOf_81 rfl rfl rfl (Nat.le_of_ble_eq_true rfl) ⟨Nat.le_of_ble_eq_true rfl, Nat.le_of_ble_eq_true rfl⟩ ?_
        refine w_bipush dX10_wordOf_84 (by decide) ?_
        refine w_icmp_ne 108 dX10_wordOf_86 (by decide) (ob _) (by first | assumption | (unfold ok32 at *; omega)) (fun c3 => ?_) (fun c3 => ?_)
        · exact three e1 e2 (fun q => c3 q.2.2.1)
        · refine w_aload_n dX10_wordOf_89 rfl rfl ?_
          refine w_aload_n dX10_wordOf_90 rfl rfl ?_
          refine w_getf fX10_101 dX10_wordOf_91 RH0 rfl ?_
          refine w_iconst dX10_wordOf_94 ?_
          refine w_iadd dX10_wordOf_95 ?_
          rw [h8, show ((p : Int) + 2) = ((p + 2 : Nat) : Int) by omega]
          refine wc_V (Z := mX10_byteAt) (As := [_]) (c_byteAt h4 hn (by omega)) RH0 rfl kX10_byteAt lX10_97 iX10_byteAt vX10_byteAt dX10_wordOf_96 rfl rfl rfl (Nat.le_of_ble_eq_true rfl) ⟨Nat.le_of_ble_eq_true rfl, Nat.le_of_ble_eq_true rfl⟩ ?_
          refine w_bipush dX10_wordOf_99 (by decide) ?_
          refine w_icmp_ne 108 dX10_wordOf_101 (by decide) (ob _) (by first | assumption | (unfold ok32 at *; omega)) (fun c4 => ?_) (fun c4 => ?_)
          · exact three e1 e2 (fun q => c4 q.2.2.2)
          · refine w_sipush dX10_wordOf_104 (by decide) ?_
            refine x_iret rfl rfl dX10_wordOf_107 ⟨?_, rfl⟩
            unfold wdO
            rw [if_neg e1, if_neg e2, if_pos ⟨by omega, c2, c3, c4⟩]
  have one : ¬ (l = 4 ∧ f4B (ia 4) n p 108 105 102 116 = true) → wp mX10_wordOf 28 [.ref r, .int (zI (l : Int))] [] (RH r A ia la fi fl h0) 0 0 (pd (some (.int (zI (wdO (ia 4) n p l)))) (RH r A ia la fi fl h0)) := by
    intro e1
    refine w_iload_n dX10_wordOf_28 rfl rfl ?_
    refine w_iconst dX10_wordOf_29 ?_
    refine w_icmp_ne 56 dX10_wordOf_30 (by decide) (by first | assumption | (unfold ok32 at *; omega)) (by first | assumption | (unfold ok32 at *; omega)) (fun c1 => ?_) (fun c1 => ?_)
    · exact two e1 (fun q => by omega)
    · refine w_aload_n dX10_wordOf_33 rfl rfl ?_
      refine w_aload_n dX10_wordOf_34 rfl rfl ?_
      refine w_getf fX10_101 dX10_wordOf_35 RH0 rfl ?_
      refine w_bipush dX10_wordOf_38 (by decide) ?_
      refine w_bipush dX10_wordOf_40 (by decide) ?_
      refine w_bipush dX10_wordOf_42 (by decide) ?_
      refine w_bipush dX10_wordOf_44 (by decide) ?_
      rw [h8]
      refine wc_V (Z := mX10_areFour) (As := [_, _, _, _, _]) (c_areFour h4 hn hp hT (by first | assumption | (unfold ok32 at *; omega)) (by first | assumption | (unfold ok32 at *; omega)) (by first | assumption | (unfold ok32 at *; omega)) (by first | assumption | (unfold ok32 at *; omega))) RH0 rfl kX10_areFour lX10_104 iX10_areFour vX10_areFour dX10_wordOf_46 rfl rfl rfl (Nat.le_of_ble_eq_true rfl) ⟨Nat.le_of_ble_eq_true rfl, Nat.le_of_ble_eq_true rfl⟩ ?_
      refine w_ifb_eq 56 dX10_wordOf_49 (by decide) (fun c2 => ?_) (fun c2 => ?_)
      · exact two e1 (fun q => c2 q.2)
      · refine w_sipush dX10_wordOf_52 (by decide) ?_
        refine x_iret rfl rfl dX10_wordOf_55 ⟨?_, rfl⟩
        unfold wdO
        rw [if_neg e1, if_pos ⟨by omega, c2⟩]
  refine sp_wp rfl (lv := [_, _]) rfl (Nat.le_of_ble_eq_true rfl) ?_
  refine w_iload_n dX10_wordOf_0 rfl rfl ?_
  refine w_iconst dX10_wordOf_1 ?_
  refine w_icmp_ne 28 dX10_wordOf_2 (by decide) (by first | assumption | (unfold ok32 at *; omega)) (by first | assumption | (unfold ok32 at *; omega)) (fun c1 => ?_) (fun c1 => ?_)
  · exact one (fun q => by omega)
  · refine w_aload_n dX10_wordOf_5 rfl rfl ?_
    refine w_aload_n dX10_wordOf_6 rfl rfl ?_
    refine w_getf fX10_101 dX10_wordOf_7 RH0 rfl ?_
    refine w_bipush dX10_wordOf_10 (by decide) ?_
    refine w_bipush dX10_wordOf_12 (by decide) ?_
    refine w_bipush dX10_wordOf_14 (by decide) ?_
    refine w_bipush dX10_wordOf_16 (by decide) ?_
    rw [h8]
    refine wc_V (Z := mX10_areFour) (As := [_, _, _, _, _]) (c_areFour h4 hn hp hT (by first | assumption | (unfold ok32 at *; omega)) (by first | assumption | (unfold ok32 at *; omega)) (by first | assumption | (unfold ok32 at *; omega)) (by first | assumption | (unfold ok32 at *; omega))) RH0 rfl kX10_areFour lX10_104 iX10_areFour vX10_areFour dX10_wordOf_18 rfl rfl rfl (Nat.le_of_ble_eq_true rfl) ⟨Nat.le_of_ble_eq_true rfl, Nat.le_of_ble_eq_true rfl⟩ ?_
    refine w_ifb_eq 28 dX10_wordOf_21 (by decide) (fun c2 => ?_) (fun c2 => ?_)
    · exact one (fun q => c2 q.2)
    · refine w_sipush dX10_wordOf_24 (by decide) ?_
      refine x_iret rfl rfl dX10_wordOf_27 ⟨?_, rfl⟩
      unfold wdO
      rw [if_pos ⟨by omega, c2⟩]

