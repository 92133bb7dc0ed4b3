/-! the class's code, as it lies in the heap; what is read from it -/
def cfs (L R C : Nat) (o m : Int) (ad : Nat → Nat) (rk : Nat) (cr : BitVec 64) : List Value := [.int (zI (L : Int)), .int (zI (R : Int)), .int (zI (C : Int)), .int (zI o), .int (zI m), .int (zI ((L * C : Nat) : Int)), .int (zI ((L * R : Nat) : Int)), .ref (ad 7), .ref (ad 8), .ref (ad 9), .ref (ad 10), .ref (ad 11), .int (zI (rk : Int)), .long (lB cr), .ref (ad 14)]
def cw1 (cr x : BitVec 64) : Nat → BitVec 64
  | 0 => 0#64
  | i + 1 => if x.getLsbD i = true then cw1 cr x i ||| (rstB cr i &&& -(rstB cr i)) else cw1 cr x i
def cw2 (S : Nat → BitVec 64) (y : BitVec 64) : Nat → BitVec 64
  | 0 => y
  | i + 1 => if pop (S i &&& y) % 2 = 1 then cw2 S y i ||| (S i &&& -(S i)) else cw2 S y i
def cwd (S : Nat → BitVec 64) (rk : Nat) (cr x : BitVec 64) : BitVec 64 := cw2 S (cw1 cr x (pop cr)) rk
def RED (B : Nat → Int) (L R C : Nat) (S : Nat → BitVec 64) (rk : Nat) (cr : BitVec 64) : Prop := ∀ q, (lsR B q L R C).2.2 = rk ∧ (∀ j, cr.getLsbD j = (decide (j < L * C) && !(lsR B q L R C).2.1.getLsbD j)) ∧ ∀ x, cwd S rk cr x = wordX (lsR B q L R C) (L * C) x
/-- the code at c is that of the block B -/
def CDP (h : HP) (c : Nat) (B : Nat → Int) (L R C : Nat) : Prop := ∃ (ad : Nat → Nat) (f7 f8 f10 : Nat → Int) (f9 f11 : Nat → BitVec 64) (rk : Nat) (cr : BitVec 64), VC B L R C ∧ (0 ≤ B 6 ∧ B 6 ≤ 9) ∧ (1 ≤ B 7 ∧ B 7 ≤ 31) ∧ h.2 c = some (.inr (2, cfs L R C (B 6) (B 7) ad rk cr)) ∧ h.2 (ad 7) = some (aI 32 f7) ∧ h.2 (ad 8) = some (aI 192 f8) ∧ h.2 (ad 9) = some (aL 24 f9) ∧ h.2 (ad 10) = some (aI 48 f10) ∧ h.2 (ad 11) = some (aL 24 f11) ∧ (∀ i, i < R → ∀ j, j < C → f7 (8 * i + j) = B (14 + 8 * i + j)) ∧ (∀ i, i < L * R → ∀ j, j < C → f8 (8 * i + j) = bitN (shA B) L i j) ∧ (∀ i, i < L * R → f9 i = cs B L C i) ∧ (∀ b, b < L * C → f10 b = (hgB (cs B L C) b (L * R)).toInt) ∧ RED B L R C f11 rk cr
theorem c2_countOdd {h : HP} {c : Nat} {B : Nat → Int} {L R C : Nat} {x : BitVec 64} (hC : CDP h c B L R C) : sp mX2_countOdd [.ref c, .long (lB x)] h 0 0 (pd (some (.int (zI ((oddN (cs B L C) x (L * R) : Nat) : Int)))) h) := by
  obtain ⟨ad, f7, f8, f10, f9, f11, rk, cr, hV, h6, h7, o_c, r_c_shifts, r_c_edges, r_c_bitsOf, r_c_checksOf, r_c_sums, e7, e8, e9, e10, hRD⟩ := id hC
  obtain ⟨v1, v2, v3, v4, v5, v6, v7⟩ := id hV
  have hLC := mulLe (a := L) (b := C) (x := 6) (y := 8) (by omega) (by omega)
  have hLR := mulLe (a := L) (b := R) (x := 6) (y := 4) (by omega) (by omega)
  refine sp_wp rfl (lv := [_, _, _, _, _]) rfl (Nat.le_of_ble_eq_true rfl) ?_
  refine w_iconst dX2_countOdd_0 ?_
  refine w_istore_n (lv' := [_, _, _, _, _]) dX2_countOdd_1 rfl (Nat.le_of_ble_eq_true rfl) rfl rfl ?_
  refine w_iconst dX2_countOdd_2 ?_
  refine w_istore (lv' := [_, _, _, _, _]) dX2_countOdd_3 (Nat.le_of_ble_eq_true rfl) rfl rfl ?_
  have key : ∀ k, k ≤ L * R → wp mX2_countOdd 5 [.ref c, .long (lB x), jk, .int (zI ((oddN (cs B L C) x k : Nat) : Int)), .int (zI (k : Int))] [] h 0 0 (pd (some (.int (zI ((oddN (cs B L C) x (L * R) : Nat) : Int)))) h) := by
    refine up_ind (fun k hk ih => ?_)
    have hol := oddN_le (cs B L C) x k
    refine w_iload dX2_countOdd_5 rfl ?_
    refine w_aload_n dX2_countOdd_7 rfl rfl ?_
    refine w_getf fX2_34 dX2_countOdd_8 o_c rfl ?_
    refine w_icmp_ge 37 dX2_countOdd_11 (by decide) (by first | assumption | (unfold ok32 at *; omega)) (by first | assumption | (unfold ok32 at *; omega)) (fun hc => ?_) (fun hc => ?_)
    · refine w_iload_n dX2_countOdd_37 rfl rfl ?_
      refine x_iret rfl rfl dX2_countOdd_38 ⟨?_, rfl⟩
      rw [show k = L * R by omega]
    · refine w_iload_n dX2_countOdd_14 rfl rfl ?_
      refine w_aload_n dX2_countOdd_15 rfl rfl ?_
      refine w_getf fX2_40 dX2_countOdd_16 o_c rfl ?_
      refine w_iload dX2_countOdd_19 rfl ?_
      refine w_lald (k) r_c_bitsOf (by first | rfl | omega | (push_cast; rfl) | (push_cast; omega)) (by omega) (by decide) dX2_countOdd_21 ?_
      rw [e9 k (by omega)]
      refine w_lload_n dX2_countOdd_22 rfl rfl ?_
      refine w_land dX2_countOdd_23 ?_
      refine wc_S (Z := mJ13_bitCount_95d88) (As := [_]) c_bitCount kJ13_bitCount_95d88 lX2_73 sJ13_bitCount_95d88 dX2_countOdd_24 rfl rfl rfl (Nat.le_of_ble_eq_true rfl) ⟨Nat.le_of_ble_eq_true rfl, Nat.le_of_ble_eq_true rfl⟩ ?_
      refine w_iconst dX2_countOdd_27 ?_
      refine w_iandR dX2_countOdd_28 ?_
      rw [and1 (pop_le _)]
      refine w_iadd dX2_countOdd_29 ?_
      refine w_istore_n (lv' := [_, _, _, _, _]) dX2_countOdd_30 rfl (Nat.le_of_ble_eq_true rfl) rfl rfl ?_
      refine w_iinc (lv' := [_, _, _, _, _]) dX2_countOdd_31 rfl rfl rfl ?_
      refine w_goto 5 dX2_countOdd_34 (by decide) ?_
      refine w_cast ?_ rfl rfl (ih (by omega))
      rw [oddN]
      push_cast
      rfl
  exact key 0 (Nat.zero_le _)
theorem c2_oddMask {h : HP} {c : Nat} {B : Nat → Int} {L R C : Nat} {x : BitVec 64} (hC : CDP h c B L R C) : sp mX2_oddMask [.ref c, .long (lB x)] h 0 0 (pd (some (.int (iB (xo (fun b => hgB (cs B L C) b (L * R)) x.getLsbD (L * C))))) h) := by
  obtain ⟨ad, f7, f8, f10, f9, f11, rk, cr, hV, h6, h7, o_c, r_c_shifts, r_c_edges, r_c_bitsOf, r_c_checksOf, r_c_sums, e7, e8, e9, e10, hRD⟩ := id hC
  obtain ⟨v1, v2, v3, v4, v5, v6, v7⟩ := id hV
  have hLC := mulLe (a := L) (b := C) (x := 6) (y := 8) (by omega) (by omega)
  have hLR := mulLe (a := L) (b := R) (x := 6) (y := 4) (by omega) (by omega)
  refine sp_wp rfl (lv := [_, _, _, _, _]) rfl (Nat.le_of_ble_eq_true rfl) ?_
  refine w_iconst dX2_oddMask_0 ?_
  refine w_istore_n (lv' := [_, _, _, _, _]) dX2_oddMask_1 rfl (Nat.le_of_ble_eq_true rfl) rfl rfl ?_
  refine w_iconst dX2_oddMask_2 ?_
  refine w_istore (lv' := [_, _, _, _, _]) dX2_oddMask_3 (Nat.le_of_ble_eq_true rfl) rfl rfl ?_
  have key : ∀ k, k ≤ L * C → wp mX2_oddMask 5 [.ref c, .long (lB x), jk, .int (iB (xo (fun b => hgB (cs B L C) b (L * R)) x.getLsbD k)), .int (zI (k : Int))] [] h 0 0 (pd (some (.int (iB (xo (fun b => hgB (cs B L C) b (L * R)) x.getLsbD (L * C))))) h) := by
    refine up_ind (fun k hk ih => ?_)
    refine w_iload dX2_oddMask_5 rfl ?_
    refine w_aload_n dX2_oddMask_7 rfl rfl ?_
    refine w_getf fX2_31 dX2_oddMask_8 o_c rfl ?_
    refine w_icmp_ge 41 dX2_oddMask_11 (by decide) (by first | assumption | (unfold ok32 at *; omega)) (by first | assumption | (unfold ok32 at *; omega)) (fun hc => ?_) (fun hc => ?_)
    · refine w_iload_n dX2_oddMask_41 rfl rfl ?_
      refine x_iret rfl rfl dX2_oddMask_42 ⟨?_, rfl⟩
      rw [show k = L * C by omega]
    · refine w_lload_n dX2_oddMask_14 rfl rfl ?_
      refine w_iload dX2_oddMask_15 rfl ?_
      refine w_lshr k rfl (by omega) dX2_oddMask_17 ?_
      refine w_lconst1 dX2_oddMask_18 ?_
      refine w_land dX2_oddMask_19 ?_
      rw [sshr_bit (show k < 64 by omega)]
      refine w_lconst0 dX2_oddMask_20 ?_
      refine w_lc_eq 35 dX2_oddMask_21 dX2_oddMask_22 (by decide) (fun hz => ?_) (fun hz => ?_)
      · refine w_iinc (lv' := [_, _, _, _, _]) dX2_oddMask_35 rfl rfl rfl ?_
        refine w_goto 5 dX2_oddMask_38 (by decide) ?_
        have hb : ¬ x.getLsbD k = true := fun q => by rw [if_pos q] at hz; exact absurd hz (by decide)
        refine w_cast ?_ rfl rfl (ih (by omega))
        rw [xo, if_neg hb]
        rfl
      · have hb : x.getLsbD k = true := Classical.byContradiction fun q => by rw [if_neg q] at hz; exact hz rfl
        refine w_iload_n dX2_oddMask_25 rfl rfl ?_
        refine w_aload_n dX2_oddMask_26 rfl rfl ?_
        refine w_getf fX2_44 dX2_oddMask_27 o_c rfl ?_
        refine w_iload dX2_oddMask_30 rfl ?_
        refine w_iald (k) r_c_checksOf (by first | rfl | omega | (push_cast; rfl) | (push_cast; omega)) (by omega) (by decide) dX2_oddMask_32 ?_
        rw [e10 k (by omega), zI_iB]
        refine w_ixorR dX2_oddMask_33 ?_
        refine w_istore_n (lv' := [_, _, _, _, _]) dX2_oddMask_34 rfl (Nat.le_of_ble_eq_true rfl) rfl rfl ?_
        refine w_iinc (lv' := [_, _, _, _, _]) dX2_oddMask_35 rfl rfl rfl ?_
        refine w_goto 5 dX2_oddMask_38 (by decide) ?_
        refine w_cast ?_ rfl rfl (ih (by omega))
        rw [xo, if_pos hb, ← iB_xor]
        rfl
  exact key 0 (Nat.zero_le _)
theorem p32_split {a b : BitVec 32} : pop32 (a &&& ~~~b) + pop32 (a &&& b) = pop32 a := by
  have key : ∀ n, n ≤ 32 → pn (a &&& ~~~b).getLsbD n + pn (a &&& b).getLsbD n = pn a.getLsbD n := by
    intro n
    induction n with
    | zero => intro _; rfl
    | succ n ih =>
      intro hn
      have := ih (by omega)
      rw [pn, pn, pn, BitVec.getLsbD_and, BitVec.getLsbD_and, BitVec.getLsbD_not]
      cases a.getLsbD n <;> cases b.getLsbD n <;> simp [show n < 32 by omega] <;> omega
  exact key 32 (Nat.le_refl _)
theorem nx32 (v : BitVec 32) : iB v ^^^ zI (-1) = iB (~~~v) := by
  show Int32.ofBitVec (v ^^^ BitVec.ofInt 32 (-1)) = Int32.ofBitVec (~~~v)
  congr 1
  rw [show BitVec.ofInt 32 (-1) = BitVec.allOnes 32 by decide, BitVec.xor_allOnes]
theorem c2_isHeldBy {h : HP} {c : Nat} {B : Nat → Int} {L R C b : Nat} {od : BitVec 32} (hC : CDP h c B L R C) (hb : b < L * C) : sp mX2_isHeldBy [.ref c, .int (zI (b : Int)), .int (iB od)] h 0 0 (pd (some (.int (zI (bI (2 * pop32 (hgB (cs B L C) b (L * R) &&& od) < pop32 (hgB (cs B L C) b (L * R))))))) h) := by
  obtain ⟨ad, f7, f8, f10, f9, f11, rk, cr, hV, h6, h7, o_c, r_c_shifts, r_c_edges, r_c_bitsOf, r_c_checksOf, r_c_sums, e7, e8, e9, e10, hRD⟩ := id hC
  obtain ⟨v1, v2, v3, v4, v5, v6, v7⟩ := id hV
  have hLC := mulLe (a := L) (b := C) (x := 6) (y := 8) (by omega) (by omega)
  have hLR := mulLe (a := L) (b := R) (x := 6) (y := 4) (by omega) (by omega)
  refine sp_wp rfl (lv := [_, _, _, _]) rfl (Nat.le_of_ble_eq_true rfl) ?_
  refine w_aload_n dX2_isHeldBy_0 rfl rfl ?_
  refine w_getf fX2_44 dX2_isHeldBy_1 o_c rfl ?_
  refine w_iload_n dX2_isHeldBy_4 rfl rfl ?_
  refine w_iald (b) r_c_checksOf (by first | rfl | omega | (push_cast; rfl) | (push_cast; omega)) (by omega) (by decide) dX2_isHeldBy_5 ?_
  rw [e10 b hb, zI_iB]
  generalize hM : hgB (cs B L C) b (L * R) = M
  have h1 := p32_split (a := M) (b := od)
  have h2 := pop32_le (M &&& od)
  have h3 := pop32_le (M &&& ~~~od)
  refine w_istore_n (lv' := [_, _, _, _]) dX2_isHeldBy_6 rfl (Nat.le_of_ble_eq_true rfl) rfl rfl ?_
  refine w_iload_n dX2_isHeldBy_7 rfl rfl ?_
  refine w_iload_n dX2_isHeldBy_8 rfl rfl ?_
  refine w_iconst dX2_isHeldBy_9 ?_
  refine w_ixorR dX2_isHeldBy_10 ?_
  rw [nx32]
  refine w_iandR dX2_isHeldBy_11 ?_
  rw [iB_and]
  refine wc_S (Z := mJ6_bitCount_0f7a4) (As := [_]) c_ibitCount kJ6_bitCount_0f7a4 lX2_94 sJ6_bitCount_0f7a4 dX2_isHeldBy_12 rfl rfl rfl (Nat.le_of_ble_eq_true rfl) ⟨Nat.le_of_ble_eq_true rfl, Nat.le_of_ble_eq_true rfl⟩ ?_
  refine w_iload_n dX2_isHeldBy_15 rfl rfl ?_
  refine w_iload_n dX2_isHeldBy_16 rfl rfl ?_
  refine w_iandR dX2_isHeldBy_17 ?_
  rw [iB_and]
  refine wc_S (Z := mJ6_bitCount_0f7a4) (As := [_]) c_ibitCount kJ6_bitCount_0f7a4 lX2_94 sJ6_bitCount_0f7a4 dX2_isHeldBy_18 rfl rfl rfl (Nat.le_of_ble_eq_true rfl) ⟨Nat.le_of_ble_eq_true rfl, Nat.le_of_ble_eq_true rfl⟩ ?_
  refine w_icmp_le 28 dX2_isHeldBy_21 (by decide) (by first | assumption | (unfold ok32 at *; omega)) (by first | assumption | (unfold ok32 at *; omega)) (fun hc => ?_) (fun hc => ?_)
  · refine w_iconst dX2_isHeldBy_28 ?_
    refine x_iret rfl (by rfl) dX2_isHeldBy_29 ⟨?_, rfl⟩
    rw [bI_f (by omega)]
  · refine w_iconst dX2_isHeldBy_24 ?_
    refine w_goto 29 dX2_isHeldBy_25 (by decide) ?_
    refine x_iret rfl (by rfl) dX2_isHeldBy_29 ⟨?_, rfl⟩
    rw [bI_t (by omega)]
theorem c2_columnsOf {h : HP} {c : Nat} {B : Nat → Int} {L R C y : Nat} (hC : CDP h c B L R C) (hy : y < R) : sp mX2_columnsOf [.ref c, .int (zI (y : Int))] h 0 0 (pd (some (.int (zI ((clN (shA B) y C : Nat) : Int)))) h) := by
  obtain ⟨ad, f7, f8, f10, f9, f11, rk, cr, hV, h6, h7, o_c, r_c_shifts, r_c_edges, r_c_bitsOf, r_c_checksOf, r_c_sums, e7, e8, e9, e10, hRD⟩ := id hC
  obtain ⟨v1, v2, v3, v4, v5, v6, v7⟩ := id hV
  have hLC := mulLe (a := L) (b := C) (x := 6) (y := 8) (by omega) (by omega)
  have hLR := mulLe (a := L) (b := R) (x := 6) (y := 4) (by omega) (by omega)
  refine sp_wp rfl (lv := [_, _, _, _]) rfl (Nat.le_of_ble_eq_true rfl) ?_
  refine w_iconst dX2_columnsOf_0 ?_
  refine w_istore_n (lv' := [_, _, _, _]) dX2_columnsOf_1 rfl (Nat.le_of_ble_eq_true rfl) rfl rfl ?_
  refine w_iconst dX2_columnsOf_2 ?_
  refine w_istore_n (lv' := [_, _, _, _]) dX2_columnsOf_3 rfl (Nat.le_of_ble_eq_true rfl) rfl rfl ?_
  have key : ∀ k, k ≤ C → wp mX2_columnsOf 4 [.ref c, .int (zI (y : Int)), .int (zI ((clN (shA B) y k : Nat) : Int)), .int (zI (k : Int))] [] h 0 0 (pd (some (.int (zI ((clN (shA B) y C : Nat) : Int)))) h) := by
    refine up_ind (fun k hk ih => ?_)
    refine w_iload_n dX2_columnsOf_4 rfl rfl ?_
    refine w_aload_n dX2_columnsOf_5 rfl rfl ?_
    refine w_getf fX2_18 dX2_columnsOf_6 o_c rfl ?_
    refine w_icmp_ge 38 dX2_columnsOf_9 (by decide) (by first | assumption | (unfold ok32 at *; omega)) (by first | assumption | (unfold ok32 at *; omega)) (fun hc => ?_) (fun hc => ?_)
    · refine w_iload_n dX2_columnsOf_38 rfl rfl ?_
      refine x_iret rfl rfl dX2_columnsOf_39 ⟨?_, rfl⟩
      rw [show k = C by omega]
    · have hv := v7 (8 * y + k) (by omega)
      have he := e7 y hy k (by omega)
      rw [show 14 + 8 * y + k = 14 + (8 * y + k) by omega] at he
      refine w_aload_n dX2_columnsOf_12 rfl rfl ?_
      refine w_getf fX2_27 dX2_columnsOf_13 o_c rfl ?_
      refine w_iload_n dX2_columnsOf_16 rfl rfl ?_
      refine w_bipush dX2_columnsOf_17 (by decide) ?_
      refine w_imul dX2_columnsOf_19 ?_
      refine w_iload_n dX2_columnsOf_20 rfl rfl ?_
      refine w_iadd dX2_columnsOf_21 ?_
      refine w_iald (8 * y + k) r_c_shifts (by first | rfl | omega | (push_cast; rfl) | (push_cast; omega)) (by omega) (by decide) dX2_columnsOf_22 ?_
      rw [he]
      refine w_if_lt 32 dX2_columnsOf_23 (by decide) (by first | assumption | (unfold ok32 at *; omega)) (fun hs => ?_) (fun hs => ?_)
      · refine w_iinc (lv' := [_, _, _, _]) dX2_columnsOf_32 rfl rfl rfl ?_
        refine w_goto 4 dX2_columnsOf_35 (by decide) ?_
        refine w_cast ?_ rfl rfl (ih (by omega))
        rw [clN, if_pos (show shA B (8 * y + k) = -1 by show B (14 + (8 * y + k)) = -1; omega)]
        rfl
      · refine w_iload_n dX2_columnsOf_26 rfl rfl ?_
        refine w_iconst dX2_columnsOf_27 ?_
        refine w_iload_n dX2_columnsOf_28 rfl rfl ?_
        refine w_ishlR dX2_columnsOf_29 ?_
        refine w_iorR dX2_columnsOf_30 ?_
        rw [sset8 (clN_lt (by omega)) (by omega)]
        refine w_istore_n (lv' := [_, _, _, _]) dX2_columnsOf_31 rfl (Nat.le_of_ble_eq_true rfl) rfl rfl ?_
        refine w_iinc (lv' := [_, _, _, _]) dX2_columnsOf_32 rfl rfl rfl ?_
        refine w_goto 4 dX2_columnsOf_35 (by decide) ?_
        refine w_cast ?_ rfl rfl (ih (by omega))
        rw [clN, if_neg (show ¬ shA B (8 * y + k) = -1 by show ¬ B (14 + (8 * y + k)) = -1; omega)]
        rfl
  exact key 0 (Nat.zero_le _)
set_option maxRecDepth 4000 in
theorem c2_wordOf {h : HP} {c : Nat} {B : Nat → Int} {L R C : Nat} {x : BitVec 64} (q0 : Nat → BitVec 64) (hC : CDP h c B L R C) : sp mX2_wordOf [.ref c, .long (lB x)] h 0 0 (pd (some (.long (lB (wordX (lsR B q0 L R C) (L * C) x)))) h) := by
  obtain ⟨ad, f7, f8, f10, f9, f11, rk, cr, hV, h6, h7, o_c, r_c_shifts, r_c_edges, r_c_bitsOf, r_c_checksOf, r_c_sums, e7, e8, e9, e10, hRD⟩ := id hC
  obtain ⟨v1, v2, v3, v4, v5, v6, v7⟩ := id hV
  have hLC := mulLe (a := L) (b := C) (x := 6) (y := 8) (by omega) (by omega)
  have hLR := mulLe (a := L) (b := R) (x := 6) (y := 4) (by omega) (by omega)
  obtain ⟨hr1, hr2, hr3⟩ := hRD q0
  have hrk := (lsR_inv (q := q0) hV).2.1
  rw [← hr3 x]
  have hpc := pop_le cr
  refine sp_wp rfl (lv := [_, _, _, _, _, _, _, _, _, _, _]) rfl (Nat.le_of_ble_eq_true rfl) ?_
  refine w_lconst0 dX2_wordOf_0 ?_
  refine w_lstore_n (lv' := [_, _, _, _, _, _, _, _, _, _, _]) dX2_wordOf_1 rfl (Nat.le_of_ble_eq_true rfl) rfl rfl ?_
  refine w_aload_n dX2_wordOf_2 rfl rfl ?_
  refine w_getf fX2_69 dX2_wordOf_3 o_c rfl ?_
  refine w_lstore (lv' := [_, _, _, _, _, _, _, _, _, _, _]) dX2_wordOf_6 (Nat.le_of_ble_eq_true rfl) rfl rfl ?_
  refine w_aload_n dX2_wordOf_8 rfl rfl ?_
  refine w_getf fX2_69 dX2_wordOf_9 o_c rfl ?_
  refine wc_S (Z := mJ13_bitCount_95d88) (As := [_]) c_bitCount kJ13_bitCount_95d88 lX2_73 sJ13_bitCount_95d88 dX2_wordOf_12 rfl rfl rfl (Nat.le_of_ble_eq_true rfl) ⟨Nat.le_of_ble_eq_true rfl, Nat.le_of_ble_eq_true rfl⟩ ?_
  refine w_istore (lv' := [_, _, _, _, _, _, _, _, _, _, _]) dX2_wordOf_15 (Nat.le_of_ble_eq_true rfl) rfl rfl ?_
  refine w_iconst dX2_wordOf_17 ?_
  refine w_istore (lv' := [_, _, _, _, _, _, _, _, _, _, _]) dX2_wordOf_18 (Nat.le_of_ble_eq_true rfl) rfl rfl ?_
  have key : ∀ k, k ≤ pop cr → wp mX2_wordOf 20 [.ref c, .long (lB x), jk, .long (lB (cw1 cr x k)), jk, .long (lB (rstB cr k)), jk, .int (zI ((pop cr : Nat) : Int)), .int (zI (k : Int)), jk, jk] [] h 0 0 (pd (some (.long (lB (cwd f11 rk cr x)))) h) := by
    refine up_ind (fun k hk ih => ?_)
    refine w_iload dX2_wordOf_20 rfl ?_
    refine w_iload dX2_wordOf_22 rfl ?_
    refine w_icmp_ge 62 dX2_wordOf_24 (by decide) (by first | assumption | (unfold ok32 at *; omega)) (by first | assumption | (unfold ok32 at *; omega)) (fun hc => ?_) (fun hc => ?_)
    · rw [show k = pop cr by omega]
      obtain ⟨y, hy⟩ : ∃ y, cw1 cr x (pop cr) = y := ⟨_, rfl⟩
      rw [hy]
      refine w_lload_n dX2_wordOf_62 rfl rfl ?_
      refine w_lstore (lv' := [_, _, _, _, _, _, _, _, _, _, _]) dX2_wordOf_63 (Nat.le_of_ble_eq_true rfl) rfl rfl ?_
      refine w_iconst dX2_wordOf_65 ?_
      refine w_istore (lv' := [_, _, _, _, _, _, _, _, _, _, _]) dX2_wordOf_66 (Nat.le_of_ble_eq_true rfl) rfl rfl ?_
      have key2 : ∀ i, i ≤ rk → wp mX2_wordOf 68 [.ref c, .long (lB x), jk, .long (lB (cw2 f11 y i)), jk, .long (lB (rstB cr (pop cr))), jk, .int (zI ((pop cr : Nat) : Int)), .long (lB y), jk, .int (zI (i : Int))] [] h 0 0 (pd (some (.long (lB (cwd f11 rk cr x)))) h) := by
        refine up_ind (fun i hi ih2 => ?_)
        refine w_iload dX2_wordOf_68 rfl ?_
        refine w_aload_n dX2_wordOf_70 rfl rfl ?_
        refine w_getf fX2_79 dX2_wordOf_71 o_c rfl ?_
        refine w_icmp_ge 118 dX2_wordOf_74 (by decide) (by first | assumption | (unfold ok32 at *; omega)) (by first | assumption | (unfold ok32 at *; omega)) (fun hd => ?_) (fun hd => ?_)
        · refine w_lload_n dX2_wordOf_118 rfl rfl ?_
          refine x_lret rfl dX2_wordOf_119 ⟨?_, rfl⟩
          unfold cwd
          rw [hy, show i = rk by omega]
        · refine w_aload_n dX2_wordOf_77 rfl rfl ?_
          refine w_getf fX2_62 dX2_wordOf_78 o_c rfl ?_
          refine w_iload dX2_wordOf_81 rfl ?_
          refine w_lald (i) r_c_sums (by first | rfl | omega | (push_cast; rfl) | (push_cast; omega)) (by omega) (by decide) dX2_wordOf_83 ?_
          refine w_lload dX2_wordOf_84 rfl ?_
          refine w_land dX2_wordOf_86 ?_
          refine wc_SN (Z := mX9_isOdd) (As := [_]) c9_isOdd kX9_isOdd lX2_85 sX9_isOdd dX2_wordOf_87 rfl rfl rfl (Nat.le_of_ble_eq_true rfl) ⟨Nat.le_of_ble_eq_true rfl, Nat.le_of_ble_eq_true rfl⟩ ?_
          refine w_ifb_eq 112 dX2_wordOf_90 (by decide) (fun ho => ?_) (fun ho => ?_)
          · refine w_iinc (lv' := [_, _, _, _, _, _, _, _, _, _, _]) dX2_wordOf_112 rfl rfl rfl ?_
            refine w_goto 68 dX2_wordOf_115 (by decide) ?_
            refine w_cast ?_ rfl rfl (ih2 (by omega))
            rw [cw2, if_neg ho]
            rfl
          · refine w_lload_n dX2_wordOf_93 rfl rfl ?_
            refine w_aload_n dX2_wordOf_94 rfl rfl ?_
            refine w_getf fX2_62 dX2_wordOf_95 o_c rfl ?_
            refine w_iload dX2_wordOf_98 rfl ?_
            refine w_lald (i) r_c_sums (by first | rfl | omega | (push_cast; rfl) | (push_cast; omega)) (by omega) (by decide) dX2_wordOf_100 ?_
            refine w_aload_n dX2_wordOf_101 rfl rfl ?_
            refine w_getf fX2_62 dX2_wordOf_102 o_c rfl ?_
            refine w_iload dX2_wordOf_105 rfl ?_
            refine w_lald (i) r_c_sums (by first | rfl | omega | (push_cast; rfl) | (push_cast; omega)) (by omega) (by decide) dX2_wordOf_107 ?_
            refine w_lneg dX2_wordOf_108 ?_
            refine w_land dX2_wordOf_109 ?_
            refine w_lor dX2_wordOf_110 ?_
            refine w_lstore_n (lv' := [_, _, _, _, _, _, _, _, _, _, _]) dX2_wordOf_111 rfl (Nat.le_of_ble_eq_true rfl) rfl rfl ?_
            refine w_iinc (lv' := [_, _, _, _, _, _, _, _, _, _, _]) dX2_wordOf_112 rfl rfl rfl ?_
            refine w_goto 68 dX2_wordOf_115 (by decide) ?_
            refine w_cast ?_ rfl rfl (ih2 (by omega))
            rw [cw2, if_pos ho]
            rfl
      exact key2 0 (Nat.zero_le _)
    · refine w_lload_n dX2_wordOf_27 rfl rfl ?_
      refine w_iload dX2_wordOf_28 rfl ?_
      refine w_lshr k rfl (by omega) dX2_wordOf_30 ?_
      refine w_lconst1 dX2_wordOf_31 ?_
      refine w_land dX2_wordOf_32 ?_
      rw [sshr_bit (show k < 64 by omega)]
      refine w_lconst0 dX2_wordOf_33 ?_
      refine w_lc_eq 47 dX2_wordOf_34 dX2_wordOf_35 (by decide) (fun hz => ?_) (fun hz => ?_)
      · have hb : ¬ x.getLsbD k = true := fun q => by rw [if_pos q] at hz; exact absurd hz (by decide)
        refine w_lload dX2_wordOf_47 rfl ?_
        refine w_lload dX2_wordOf_49 rfl ?_
        refine w_lconst1 dX2_wordOf_51 ?_
        refine w_lsub dX2_wordOf_52 ?_
        refine w_land dX2_wordOf_53 ?_
        refine w_lstore (lv' := [_, _, _, _, _, _, _, _, _, _, _]) dX2_wordOf_54 (Nat.le_of_ble_eq_true rfl) rfl rfl ?_
        refine w_iinc (lv' := [_, _, _, _, _, _, _, _, _, _, _]) dX2_wordOf_56 rfl rfl rfl ?_
        refine w_goto 20 dX2_wordOf_59 (by decide) ?_
        refine w_cast ?_ rfl rfl (ih (by omega))
        rw [cw1, if_neg hb]
        rfl
      · have hb : x.getLsbD k = true := Classical.byContradiction fun q => by rw [if_neg q] at hz; exact hz rfl
        refine w_lload_n dX2_wordOf_38 rfl rfl ?_
        refine w_lload dX2_wordOf_39 rfl ?_
        refine w_lload dX2_wordOf_41 rfl ?_
        refine w_lneg dX2_wordOf_43 ?_
        refine w_land dX2_wordOf_44 ?_
        refine w_lor dX2_wordOf_45 ?_
        refine w_lstore_n (lv' := [_, _, _, _, _, _, _, _, _, _, _]) dX2_wordOf_46 rfl (Nat.le_of_ble_eq_true rfl) rfl rfl ?_
        refine w_lload dX2_wordOf_47 rfl ?_
        refine w_lload dX2_wordOf_49 rfl ?_
        refine w_lconst1 dX2_wordOf_51 ?_
        refine w_lsub dX2_wordOf_52 ?_
        refine w_land dX2_wordOf_53 ?_
        refine w_lstore (lv' := [_, _, _, _, _, _, _, _, _, _, _]) dX2_wordOf_54 (Nat.le_of_ble_eq_true rfl) rfl rfl ?_
        refine w_iinc (lv' := [_, _, _, _, _, _, _, _, _, _, _]) dX2_wordOf_56 rfl rfl rfl ?_
        refine w_goto 20 dX2_wordOf_59 (by decide) ?_
        refine w_cast ?_ rfl rfl (ih (by omega))
        rw [cw1, if_pos hb]
        rfl
  exact key 0 (Nat.zero_le _)

