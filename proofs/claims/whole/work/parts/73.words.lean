/-! clashes; all words of a code, one behind the other -/
theorem p3264_tab : ((List.range 256).all fun n => decide (pop32 (BitVec.ofInt 32 (n : Int)) = pop (BitVec.ofInt 64 (n : Int)))) = true := by decide +kernel
theorem p3264 {n : Nat} (h : n < 256) : pop32 (BitVec.ofInt 32 (n : Int)) = pop (BitVec.ofInt 64 (n : Int)) := by
  have := List.all_eq_true.mp p3264_tab n (List.mem_range.mpr h)
  simpa using this
set_option maxRecDepth 8000 in
theorem c3_countClashes {a c : Nat} {ba : Nat → Nat → Int} {bi : Nat → Int} {h0 : HP} {B : Nat → Int} {L R C o : Nat} (hC : CDQ (fun x => ¬ (a ≤ x ∧ x ≤ a + 2)) h0 c B L R C) (ho : o < fac R) : sp mX3_countClashes [.ref a, .ref c, .int (zI (o : Int))] (FLH a ba bi h0) 0 0 (px (some (.int (zI ((clhV (shA B) R C o : Nat) : Int)))) (fun z : Nat → Nat → Int => True) (fun z => FLH a z bi h0)) := by
  obtain ⟨ad, f7, f8, f10, f9, f11, rk, cr, hV, h6, h7, o_c0, r70, r80, r90, r100, r110, e7, e8, e9, e10, hRD, p0, p7, p8, p9, p10, p11⟩ := id hC
  obtain ⟨v1, v2, v3, v4, v5, v6, v7⟩ := id hV
  have o_c : ∀ {ba : Nat → Nat → Int} {bi : Nat → Int}, (FLH a ba bi h0).2 c = some (.inr (2, cfs L R C (B 6) (B 7) ad rk cr)) := FLo p0 o_c0
  have hcd : ∀ (ba : Nat → Nat → Int) (bi : Nat → Int), CDP (FLH a ba bi h0) c B L R C := fun ba bi => (hC.mono (P' := fun _ => True) (fun _ _ => trivial) (fun x hx => FLn hx)).cdp
  have hlt : ∀ k, k < R → lay R o k < R := fun k hk => lay_lt v5 ho hk
  refine sp_wp rfl (lv := [_, _, _, _, _, _]) rfl (Nat.le_of_ble_eq_true rfl) ?_
  refine w_aload_n dX3_countClashes_0 rfl rfl ?_
  refine w_getf fX3_18 dX3_countClashes_1 o_c rfl ?_
  refine w_iconst dX3_countClashes_4 ?_
  refine w_icmp_ge 10 dX3_countClashes_5 (by decide) (by first | assumption | (unfold ok32 at *; omega)) (by first | assumption | (unfold ok32 at *; omega)) (fun h1 => ?_) (fun h1 => ?_)
  · have hcl : clhV (shA B) R C o = clhN (shA B) R C o R := if_pos (by omega)
    rw [hcl]
    refine w_aload_n dX3_countClashes_10 rfl rfl ?_
    refine w_getf fX3_18 dX3_countClashes_11 o_c rfl ?_
    refine w_iload_n dX3_countClashes_14 rfl rfl ?_
    refine w_aload_n dX3_countClashes_15 rfl rfl ?_
    refine w_getf fX3_9 dX3_countClashes_16 FL0 rfl ?_
    refine wx_SNv (Z := mX9_fillOrder) (As := [_, _, _]) (c9_fillOrder v5 ho FL1) kX9_fillOrder lX3_24 sX9_fillOrder dX3_countClashes_19 rfl rfl rfl (Nat.le_of_ble_eq_true rfl) ⟨Nat.le_of_ble_eq_true rfl, Nat.le_of_ble_eq_true rfl⟩ (fun g hg => ?_)
    rw [FLu1]
    refine w_iconst dX3_countClashes_22 ?_
    refine w_istore_n (lv' := [_, _, _, _, _, _]) dX3_countClashes_23 rfl (Nat.le_of_ble_eq_true rfl) rfl rfl ?_
    refine w_iconst dX3_countClashes_24 ?_
    refine w_istore (lv' := [_, _, _, _, _, _]) dX3_countClashes_25 (Nat.le_of_ble_eq_true rfl) rfl rfl ?_
    have key : ∀ k, k ≤ R → ∀ x5 : Value, wp mX3_countClashes 27 [.ref a, .ref c, .int (zI (o : Int)), .int (zI ((clhN (shA B) R C o k : Nat) : Int)), .int (zI (k : Int)), x5] [] (FLH a (u1 ba 1 g) bi h0) 0 0 (px (some (.int (zI ((clhN (shA B) R C o R : Nat) : Int)))) (fun z : Nat → Nat → Int => True) (fun z => FLH a z bi h0)) := by
      refine up_ind (P := fun k => ∀ x5 : Value, wp mX3_countClashes 27 [.ref a, .ref c, .int (zI (o : Int)), .int (zI ((clhN (shA B) R C o k : Nat) : Int)), .int (zI (k : Int)), x5] [] (FLH a (u1 ba 1 g) bi h0) 0 0 (px (some (.int (zI ((clhN (shA B) R C o R : Nat) : Int)))) (fun z : Nat → Nat → Int => True) (fun z => FLH a z bi h0))) (fun k hk ih x5 => ?_)
      refine w_iload dX3_countClashes_27 rfl ?_
      refine w_aload_n dX3_countClashes_29 rfl rfl ?_
      refine w_getf fX3_18 dX3_countClashes_30 o_c rfl ?_
      refine w_icmp_ge 92 dX3_countClashes_33 (by decide) (by first | assumption | (unfold ok32 at *; omega)) (by first | assumption | (unfold ok32 at *; omega)) (fun hc => ?_) (fun hc => ?_)
      · refine w_iload_n dX3_countClashes_92 rfl rfl ?_
        refine x_iret rfl rfl dX3_countClashes_93 ⟨?_, _, trivial, rfl⟩
        rw [show k = R by omega]
      · have hkR : k < R := by omega
        have fin : ∀ v5 : Value, wp mX3_countClashes 55 [.ref a, .ref c, .int (zI (o : Int)), .int (zI ((clhN (shA B) R C o k : Nat) : Int)), .int (zI (k : Int)), v5] [.int (zI (((k + 1) % R : Nat) : Int))] (FLH a (u1 ba 1 g) bi h0) 0 0 (px (some (.int (zI ((clhN (shA B) R C o R : Nat) : Int)))) (fun z : Nat → Nat → Int => True) (fun z => FLH a z bi h0)) := by
          intro v5
          have hnR : (k + 1) % R < R := Nat.mod_lt _ (by omega)
          obtain ⟨nx, hnx⟩ : ∃ nx, (k + 1) % R = nx := ⟨_, rfl⟩
          rw [hnx] at hnR ⊢
          refine w_istore (lv' := [_, _, _, _, _, _]) dX3_countClashes_55 (Nat.le_of_ble_eq_true rfl) rfl rfl ?_
          refine w_iload_n dX3_countClashes_57 rfl rfl ?_
          refine w_aload_n dX3_countClashes_58 rfl rfl ?_
          refine w_aload_n dX3_countClashes_59 rfl rfl ?_
          refine w_getf fX3_9 dX3_countClashes_60 FL0 rfl ?_
          refine w_iload dX3_countClashes_63 rfl ?_
          refine w_iald (k) FL1 (by first | rfl | omega | (push_cast; rfl) | (push_cast; omega)) (by omega) (by decide) dX3_countClashes_65 ?_
          rw [show (u1 ba 1 g) 1 k = g k from rfl, hg k hkR]
          refine wc_V (Z := mX2_columnsOf) (As := [_]) (c2_columnsOf (hcd _ _) (hlt k hkR)) o_c rfl kX2_columnsOf lX3_43 iX2_columnsOf vX2_columnsOf dX3_countClashes_66 rfl rfl rfl (Nat.le_of_ble_eq_true rfl) ⟨Nat.le_of_ble_eq_true rfl, Nat.le_of_ble_eq_true rfl⟩ ?_
          refine w_aload_n dX3_countClashes_69 rfl rfl ?_
          refine w_aload_n dX3_countClashes_70 rfl rfl ?_
          refine w_getf fX3_9 dX3_countClashes_71 FL0 rfl ?_
          refine w_iload dX3_countClashes_74 rfl ?_
          refine w_iald (nx) FL1 (by first | rfl | omega | (push_cast; rfl) | (push_cast; omega)) (by omega) (by decide) dX3_countClashes_76 ?_
          rw [show (u1 ba 1 g) 1 nx = g nx from rfl, hg nx hnR]
          refine wc_V (Z := mX2_columnsOf) (As := [_]) (c2_columnsOf (hcd _ _) (hlt nx hnR)) o_c rfl kX2_columnsOf lX3_43 iX2_columnsOf vX2_columnsOf dX3_countClashes_77 rfl rfl rfl (Nat.le_of_ble_eq_true rfl) ⟨Nat.le_of_ble_eq_true rfl, Nat.le_of_ble_eq_true rfl⟩ ?_
          refine w_iandR dX3_countClashes_80 ?_
          rw [and_zI, show zI ((clN (shA B) (lay R o k) C &&& clN (shA B) (lay R o nx) C : Nat) : Int) = iB (BitVec.ofInt 32 ((clN (shA B) (lay R o k) C &&& clN (shA B) (lay R o nx) C : Nat) : Int)) from rfl]
          refine wc_S (Z := mJ6_bitCount_0f7a4) (As := [_]) c_ibitCount kJ6_bitCount_0f7a4 lX3_55 sJ6_bitCount_0f7a4 dX3_countClashes_81 rfl rfl rfl (Nat.le_of_ble_eq_true rfl) ⟨Nat.le_of_ble_eq_true rfl, Nat.le_of_ble_eq_true rfl⟩ ?_
          rw [p3264 (Nat.lt_of_le_of_lt Nat.and_le_left (clN_lt v6.2))]
          refine w_iadd dX3_countClashes_84 ?_
          refine w_istore_n (lv' := [_, _, _, _, _, _]) dX3_countClashes_85 rfl (Nat.le_of_ble_eq_true rfl) rfl rfl ?_
          refine w_iinc (lv' := [_, _, _, _, _, _]) dX3_countClashes_86 rfl rfl rfl ?_
          refine w_goto 27 dX3_countClashes_89 (by decide) ?_
          refine w_cast ?_ rfl rfl (ih hkR (.int (zI (nx : Int))))
          rw [clhN, hnx]
          push_cast
          rfl
        refine w_iload dX3_countClashes_36 rfl ?_
        refine w_iconst dX3_countClashes_38 ?_
        refine w_iadd dX3_countClashes_39 ?_
        refine w_aload_n dX3_countClashes_40 rfl rfl ?_
        refine w_getf fX3_18 dX3_countClashes_41 o_c rfl ?_
        refine w_icmp_ge 54 dX3_countClashes_44 (by decide) (by first | assumption | (unfold ok32 at *; omega)) (by first | assumption | (unfold ok32 at *; omega)) (fun hd => ?_) (fun hd => ?_)
        · refine w_iconst dX3_countClashes_54 ?_
          refine w_cast rfl ?_ rfl (fin x5)
          rw [show k + 1 = R by omega, Nat.mod_self]
          rfl
        · refine w_iload dX3_countClashes_47 rfl ?_
          refine w_iconst dX3_countClashes_49 ?_
          refine w_iadd dX3_countClashes_50 ?_
          refine w_goto 55 dX3_countClashes_51 (by decide) ?_
          refine w_cast rfl ?_ rfl (fin x5)
          rw [Nat.mod_eq_of_lt (show k + 1 < R by omega)]
          rfl
    exact key 0 (Nat.zero_le _) jk
  · refine w_iconst dX3_countClashes_8 ?_
    refine x_iret rfl rfl dX3_countClashes_9 ⟨?_, ba, trivial, rfl⟩
    unfold clhV
    rw [if_neg (by omega)]
    rfl
theorem cw2_is {S : Nat → BitVec 64} {t : Nat} {pv : Nat → Nat} {y : BitVec 64} (h1 : ∀ i, i < t → isLow (S i) (pv i)) (h2 : ∀ i j, i < j → j < t → pv i < pv j) (h3 : ∀ i, i < t → y.getLsbD (pv i) = false) : ∀ k, k ≤ t → (∀ j, (∀ i, i < t → j ≠ pv i) → (cw2 S y k).getLsbD j = y.getLsbD j) ∧ (∀ i, i < t → (cw2 S y k).getLsbD (pv i) = (decide (i < k) && decide (pop (S i &&& y) % 2 = 1))) := by
  intro k
  induction k with
  | zero =>
    intro _
    exact ⟨fun j _ => rfl, fun i hi => by show y.getLsbD (pv i) = _; rw [h3 i hi]; simp⟩
  | succ k ih =>
    intro hk
    obtain ⟨i1, i2⟩ := ih (by omega)
    have hl := low_eq (h1 k (by omega))
    have h64 := (h1 k (by omega)).1
    unfold cw2
    by_cases ho : pop (S k &&& y) % 2 = 1
    · rw [if_pos ho, hl]
      refine ⟨fun j hj => ?_, fun i hi => ?_⟩
      · rw [BitVec.getLsbD_or, i1 j hj, bit1o h64]
        simp [hj k (by omega)]
      · rw [BitVec.getLsbD_or, i2 i hi, bit1o h64]
        by_cases hik : i = k
        · subst hik; simp [ho]
        · have : ¬ pv i = pv k := fun e => by
            rcases Nat.lt_or_gt_of_ne hik with q | q
            · have := h2 i k q (by omega); omega
            · have := h2 k i q hi; omega
          simp only [this, decide_false, Bool.or_false]
          congr 1
          simp only [decide_eq_decide]
          omega
    · rw [if_neg ho]
      refine ⟨i1, fun i hi => ?_⟩
      rw [i2 i hi]
      by_cases hik : i = k
      · subst hik; simp [ho]
      · congr 1
        simp only [decide_eq_decide]
        omega
theorem cw1_xor {cr x y : BitVec 64} : cw1 cr (x ^^^ y) (pop cr) = cw1 cr x (pop cr) ^^^ cw1 cr y (pop cr) := bv_ext fun j hj => by
  have a := cw1_bit (cr := cr) (x := x ^^^ y) (k := pop cr) (Nat.le_refl _) j hj
  have b := cw1_bit (cr := cr) (x := x) (k := pop cr) (Nat.le_refl _) j hj
  have c := cw1_bit (cr := cr) (x := y) (k := pop cr) (Nat.le_refl _) j hj
  rw [BitVec.getLsbD_xor] at a ⊢
  generalize (cw1 cr (x ^^^ y) (pop cr)).getLsbD j = A at *
  generalize (cw1 cr x (pop cr)).getLsbD j = E at *
  generalize (cw1 cr y (pop cr)).getLsbD j = D at *
  generalize x.getLsbD (pn cr.getLsbD j) = u at *
  generalize y.getLsbD (pn cr.getLsbD j) = v at *
  by_cases h : cr.getLsbD j = true ∧ pn cr.getLsbD j < pop cr
  · have a' : A = true ↔ (u ^^ v) = true := ⟨fun q => (a.mp q).2.2, fun q => a.mpr ⟨h.1, h.2, q⟩⟩
    have b' : E = true ↔ u = true := ⟨fun q => (b.mp q).2.2, fun q => b.mpr ⟨h.1, h.2, q⟩⟩
    have c' : D = true ↔ v = true := ⟨fun q => (c.mp q).2.2, fun q => c.mpr ⟨h.1, h.2, q⟩⟩
    revert a' b' c'
    clear a b c
    cases A <;> cases E <;> cases D <;> cases u <;> cases v <;> simp
  · have a' : A = false := by
      cases A with
      | false => rfl
      | true => exact absurd ⟨(a.mp rfl).1, (a.mp rfl).2.1⟩ h
    have b' : E = false := by
      cases E with
      | false => rfl
      | true => exact absurd ⟨(b.mp rfl).1, (b.mp rfl).2.1⟩ h
    have c' : D = false := by
      cases D with
      | false => rfl
      | true => exact absurd ⟨(c.mp rfl).1, (c.mp rfl).2.1⟩ h
    rw [a', b', c']
    rfl
theorem word_lin {B : Nat → Int} {q : Nat → BitVec 64} {L R C : Nat} (hV : VC B L R C) (x y : BitVec 64) : wordX (lsR B q L R C) (L * C) (x ^^^ y) = wordX (lsR B q L R C) (L * C) x ^^^ wordX (lsR B q L R C) (L * C) y := by
  obtain ⟨v1, v2, v3, v4, v5, v6, v7⟩ := id hV
  have hLC := mulLe (a := L) (b := C) (x := 6) (y := 8) (by omega) (by omega)
  have hB := elB (m := L * R) (S0 := el0 q (cs B L C) (L * R)) (T0 := el0 q (cs B L C) (L * R)) (fun _ _ => rfl) (b := L * C) (by omega)
  have hhi : ∀ i, i < L * R → ∀ j, L * C ≤ j → (el0 q (cs B L C) (L * R) i).getLsbD j = false := fun i hi j hj => by unfold el0; rw [if_pos hi]; exact cs_hi hV hi hj
  have hW := fun x => word_same (by omega) hB hhi (elN_hi hhi) x
  have e : lsR B q L R C = elN (L * R) (el0 q (cs B L C) (L * R)) (L * C) := rfl
  rw [e, ← hW, ← hW, ← hW]
  obtain ⟨t0, t1, t2, t3, t4, t5, t6, pv, p1, p2, p3, p4⟩ := hB
  generalize elN (L * R) (el0 q (cs B L C) (L * R)) (L * C) = X at *
  generalize rzN (L * R) (el0 q (cs B L C) (L * R)) (L * C) = Z at *
  have hy0 : ∀ x, ∀ i, i < X.2.2 → (cw1 Z.2.1 x (pop Z.2.1)).getLsbD (pv i) = false := fun x i hi => by
    cases h : (cw1 Z.2.1 x (pop Z.2.1)).getLsbD (pv i) with
    | false => rfl
    | true =>
      have h2 := ((cw1_bit (cr := Z.2.1) (x := x) (k := pop Z.2.1) (Nat.le_refl _) (pv i) (p1 i hi).2.1.1).mp h).1
      rw [t3, (p1 i hi).2.2.2] at h2
      simp at h2
  have hC := fun x => cw2_is (S := Z.1) (t := X.2.2) (pv := pv) (y := cw1 Z.2.1 x (pop Z.2.1)) (fun i hi => (p1 i hi).2.2.1) p2 (hy0 x) X.2.2 (Nat.le_refl _)
  unfold cwd
  refine bv_ext fun j hj => ?_
  rw [BitVec.getLsbD_xor]
  by_cases hex : ∃ k, k < X.2.2 ∧ j = pv k
  · obtain ⟨k, hk, ej⟩ := hex
    rw [ej, (hC _).2 k hk, (hC _).2 k hk, (hC _).2 k hk, cw1_xor]
    have hp := par_xorR (a := Z.1 k) (v := cw1 Z.2.1 x (pop Z.2.1)) (w := cw1 Z.2.1 y (pop Z.2.1))
    simp only [hk, decide_true, Bool.true_and]
    rw [hp]
    rcases Nat.mod_two_eq_zero_or_one (pop (Z.1 k &&& cw1 Z.2.1 x (pop Z.2.1))) with a | a <;> rcases Nat.mod_two_eq_zero_or_one (pop (Z.1 k &&& cw1 Z.2.1 y (pop Z.2.1))) with b | b <;> rw [Nat.add_mod, a, b] <;> rfl
  · have hn : ∀ i, i < X.2.2 → j ≠ pv i := fun k hk ej => hex ⟨k, hk, ej⟩
    rw [(hC _).1 j hn, (hC _).1 j hn, (hC _).1 j hn, cw1_xor, BitVec.getLsbD_xor]
theorem gray {p : BitVec 64} {t : Nat} (ht : isLow p t) (ht2 : t < 63) : p ^^^ (p - 1#64) = (1#64 <<< (t + 1)) - 1#64 := bv_ext fun i hi => by
  rw [BitVec.getLsbD_xor, m1_bit ht hi, bitm (by omega) hi]
  by_cases h1 : i < t
  · rw [if_pos h1, ht.2.2 i h1]; simp; omega
  · rw [if_neg h1]
    by_cases h2 : i = t
    · rw [if_pos h2, h2, ht.2.1]; simp
    · rw [if_neg h2]
      have : ¬ i < t + 1 := by omega
      cases p.getLsbD i <;> simp [this]
set_option maxRecDepth 8000 in
theorem c0_open {a c : Nat} {bl : Nat → Nat → BitVec 64} {bi : Nat → Int} {bq : Nat → BitVec 64} {h0 : HP} {B : Nat → Int} {L R C : Nat} (q0 : Nat → BitVec 64) (hC : CDQ (fun x => ¬ (a ≤ x ∧ x ≤ a + 1)) h0 c B L R C) : sp mX0_open [.ref a, .ref c] (AWH a bl bi bq h0) 0 0 (px (some (.int (zI (bI (L * C - (lsR B q0 L R C).2.2 ≤ 12))))) (fun z : (Nat → Nat → BitVec 64) × (Nat → Int) × (Nat → BitVec 64) => L * C - (lsR B q0 L R C).2.2 ≤ 12 → z.2.1 1 = 0 ∧ z.2.1 2 = ((2 ^ (L * C - (lsR B q0 L R C).2.2) : Nat) : Int) ∧ z.2.2 3 = 0#64 ∧ ∀ i, i < L * C - (lsR B q0 L R C).2.2 → z.1 1 i = wordX (lsR B q0 L R C) (L * C) ((1#64 <<< (i + 1)) - 1#64)) (fun z => AWH a z.1 z.2.1 z.2.2 h0)) := by
  obtain ⟨ad, f7, f8, f10, f9, f11, rk, cr, hV, h6, h7, o_c0, r70, r80, r90, r100, r110, e7, e8, e9, e10, hRD, p0, p7, p8, p9, p10, p11⟩ := id hC
  obtain ⟨v1, v2, v3, v4, v5, v6, v7⟩ := id hV
  have hLC := mulLe (a := L) (b := C) (x := 6) (y := 8) (by omega) (by omega)
  have o_c : ∀ {bl : Nat → Nat → BitVec 64} {bi : Nat → Int} {bq : Nat → BitVec 64}, (AWH a bl bi bq h0).2 c = some (.inr (2, cfs L R C (B 6) (B 7) ad rk cr)) := AWo p0 o_c0
  have hcd : ∀ (bl : Nat → Nat → BitVec 64) (bi : Nat → Int) (bq : Nat → BitVec 64), CDP (AWH a bl bi bq h0) c B L R C := fun bl bi bq => (hC.mono (P' := fun _ => True) (fun _ _ => trivial) (fun x hx => AWn hx)).cdp
  have hrk : (lsR B q0 L R C).2.2 = rk := (hRD q0).1
  have hle := (lsR_inv (q := q0) hV).2.2
  rw [hrk] at hle ⊢
  generalize hXX : lsR B q0 L R C = X at *
  refine sp_wp rfl (lv := [_, _, _, _]) rfl (Nat.le_of_ble_eq_true rfl) ?_
  refine w_aload_n dX0_open_0 rfl rfl ?_
  refine w_getf fX0_15 dX0_open_1 o_c rfl ?_
  refine w_aload_n dX0_open_4 rfl rfl ?_
  refine w_getf fX0_21 dX0_open_5 o_c rfl ?_
  refine w_isub dX0_open_8 ?_
  rw [show ((L * C : Nat) : Int) - (rk : Int) = ((L * C - rk : Nat) : Int) by omega]
  obtain ⟨k, hk⟩ : ∃ k, L * C - rk = k := ⟨_, rfl⟩
  rw [hk]
  refine w_istore_n (lv' := [_, _, _, _]) dX0_open_9 rfl (Nat.le_of_ble_eq_true rfl) rfl rfl ?_
  refine w_iload_n dX0_open_10 rfl rfl ?_
  refine w_if_lt 20 dX0_open_11 (by decide) (by first | assumption | (unfold ok32 at *; omega)) (fun h1 => ?_) (fun h1 => ?_)
  · omega
  · refine w_iload_n dX0_open_14 rfl rfl ?_
    refine w_bipush dX0_open_15 (by decide) ?_
    refine w_icmp_le 22 dX0_open_17 (by decide) (by first | assumption | (unfold ok32 at *; omega)) (by first | assumption | (unfold ok32 at *; omega)) (fun h2 => ?_) (fun h2 => ?_)
    rotate_left
    · refine w_iconst dX0_open_20 ?_
      refine x_iret rfl (by rfl) dX0_open_21 ⟨?_, (bl, bi, bq), fun h => absurd h (by omega), rfl⟩
      rw [bI_f (by omega)]
    · rw [bI_t (show k ≤ 12 by omega)]
      refine w_iconst dX0_open_22 ?_
      refine w_istore_n (lv' := [_, _, _, _]) dX0_open_23 rfl (Nat.le_of_ble_eq_true rfl) rfl rfl ?_
      have key : ∀ i, i ≤ k → ∀ g : Nat → BitVec 64, (∀ j, j < i → g j = wordX X (L * C) ((1#64 <<< (j + 1)) - 1#64)) → wp mX0_open 24 [.ref a, .ref c, .int (zI (k : Int)), .int (zI (i : Int))] [] (AWH a (u1 bl 1 g) bi bq h0) 0 0 (px (some (.int (zI 1))) (fun z : (Nat → Nat → BitVec 64) × (Nat → Int) × (Nat → BitVec 64) => k ≤ 12 → z.2.1 1 = 0 ∧ z.2.1 2 = ((2 ^ k : Nat) : Int) ∧ z.2.2 3 = 0#64 ∧ ∀ i, i < k → z.1 1 i = wordX X (L * C) ((1#64 <<< (i + 1)) - 1#64)) (fun z => AWH a z.1 z.2.1 z.2.2 h0)) := by
        refine up_ind (P := fun i => ∀ g : Nat → BitVec 64, (∀ j, j < i → g j = wordX X (L * C) ((1#64 <<< (j + 1)) - 1#64)) → wp mX0_open 24 [.ref a, .ref c, .int (zI (k : Int)), .int (zI (i : Int))] [] (AWH a (u1 bl 1 g) bi bq h0) 0 0 (px (some (.int (zI 1))) (fun z : (Nat → Nat → BitVec 64) × (Nat → Int) × (Nat → BitVec 64) => k ≤ 12 → z.2.1 1 = 0 ∧ z.2.1 2 = ((2 ^ k : Nat) : Int) ∧ z.2.2 3 = 0#64 ∧ ∀ i, i < k → z.1 1 i = wordX X (L * C) ((1#64 <<< (i + 1)) - 1#64)) (fun z => AWH a z.1 z.2.1 z.2.2 h0))) (fun i hi ih g hg => ?_)
        refine w_iload_n dX0_open_24 rfl rfl ?_
        refine w_iload_n dX0_open_25 rfl rfl ?_
        refine w_icmp_ge 52 dX0_open_26 (by decide) (by first | assumption | (unfold ok32 at *; omega)) (by first | assumption | (unfold ok32 at *; omega)) (fun hc => ?_) (fun hc => ?_)
        · refine w_aload_n dX0_open_52 rfl rfl ?_
          refine w_getf fX0_9 dX0_open_53 AW0 rfl ?_
          refine w_iload_n dX0_open_56 rfl rfl ?_
          refine w_lconst0 dX0_open_57 ?_
          refine aw_lst1 (k) (by first | rfl | omega | (push_cast; rfl) | (push_cast; omega)) (by omega) dX0_open_58 ?_
          rw [u1_u1]
          refine w_aload_n dX0_open_59 rfl rfl ?_
          refine w_iconst dX0_open_60 ?_
          refine w_iload_n dX0_open_61 rfl rfl ?_
          refine w_ishlR dX0_open_62 ?_
          rw [shl1 (show k ≤ 12 by omega)]
          refine aw_pf2 fX0_28 dX0_open_63 ?_
          refine w_aload_n dX0_open_66 rfl rfl ?_
          refine w_iconst dX0_open_67 ?_
          refine aw_pf1 fX0_31 dX0_open_68 ?_
          refine w_aload_n dX0_open_71 rfl rfl ?_
          refine w_lconst0 dX0_open_72 ?_
          refine aw_pf3 fX0_34 dX0_open_73 ?_
          refine w_iconst dX0_open_76 ?_
          refine x_iret rfl (by rfl) dX0_open_77 ⟨rfl, (u1 bl 1 (u1 ((u1 bl 1 g) 1) k 0#64), u1 (u1 bi 2 ((2 ^ k : Nat) : Int)) 1 0, u1 bq 3 0#64), fun _ => ⟨rfl, rfl, rfl, fun j hj => ?_⟩, rfl⟩
          show u1 g k 0#64 j = _
          rw [u1_n (by omega)]
          exact hg j (by omega)
        · refine w_aload_n dX0_open_29 rfl rfl ?_
          refine w_getf fX0_9 dX0_open_30 AW0 rfl ?_
          refine w_iload_n dX0_open_33 rfl rfl ?_
          refine w_aload_n dX0_open_34 rfl rfl ?_
          refine w_lconst1 dX0_open_35 ?_
          refine w_iload_n dX0_open_36 rfl rfl ?_
          refine w_iconst dX0_open_37 ?_
          refine w_iadd dX0_open_38 ?_
          refine w_lshl (i + 1) (by push_cast; rfl) (by omega) dX0_open_39 ?_
          refine w_lconst1 dX0_open_40 ?_
          refine w_lsub dX0_open_41 ?_
          refine wc_V (Z := mX2_wordOf) (As := [_]) (c2_wordOf q0 (hcd _ _ _)) o_c rfl kX2_wordOf lX0_24 iX2_wordOf vX2_wordOf dX0_open_42 rfl rfl rfl (Nat.le_of_ble_eq_true rfl) ⟨Nat.le_of_ble_eq_true rfl, Nat.le_of_ble_eq_true rfl⟩ ?_
          rw [hXX]
          refine aw_lst1 (i) (by first | rfl | omega | (push_cast; rfl) | (push_cast; omega)) (by omega) dX0_open_45 ?_
          rw [u1_u1, u1_s]
          refine w_iinc (lv' := [_, _, _, _]) dX0_open_46 rfl rfl rfl ?_
          refine w_goto 24 dX0_open_49 (by decide) ?_
          refine ih (by omega) (u1 g i (wordX X (L * C) ((1#64 <<< (i + 1)) - 1#64))) (fun j hj => ?_)
          by_cases hji : j = i
          · rw [hji, u1_s]
          · rw [u1_n hji]; exact hg j (by omega)
      refine w_cast rfl rfl ?_ (key 0 (Nat.zero_le _) (bl 1) (fun j hj => absurd hj (Nat.not_lt_zero _)))
      rw [u1_id]
set_option maxRecDepth 4000 in
theorem c0_turn {a : Nat} {bl : Nat → Nat → BitVec 64} {bi : Nat → Int} {bq : Nat → BitVec 64} {h0 : HP} {k t : Nat} (hk : bi 1 = (k : Int)) (hk2 : k < 10000) (ht : isLow (BitVec.ofInt 64 ((k + 1 : Nat) : Int)) t) : sp mX0_turn [.ref a] (AWH a bl bi bq h0) 0 0 (pd none (AWH a bl (u1 bi 1 ((k + 1 : Nat) : Int)) (if t ≤ 12 then u1 bq 3 (bq 3 ^^^ bl 1 t) else bq) h0)) := by
  have h64 := ht.1
  refine sp_wp rfl (lv := [_, _]) rfl (Nat.le_of_ble_eq_true rfl) ?_
  refine w_aload_n dX0_turn_0 rfl rfl ?_
  refine w_dup dX0_turn_1 rfl ?_
  refine w_getf fX0_31 dX0_turn_2 AW0 rfl ?_
  rw [hk]
  refine w_iconst dX0_turn_5 ?_
  refine w_iadd dX0_turn_6 ?_
  rw [show (k : Int) + 1 = ((k + 1 : Nat) : Int) by push_cast; rfl]
  refine aw_pf1 fX0_31 dX0_turn_7 ?_
  refine w_aload_n dX0_turn_10 rfl rfl ?_
  refine w_getf fX0_31 dX0_turn_11 AW0 rfl ?_
  rw [u1_s]
  refine w_i2l (by unfold ok32; omega) dX0_turn_14 ?_
  refine wc_SN (Z := mX9_lowest) (As := [_]) (c9_lowest ht) kX9_lowest lX0_38 sX9_lowest dX0_turn_15 rfl rfl rfl (Nat.le_of_ble_eq_true rfl) ⟨Nat.le_of_ble_eq_true rfl, Nat.le_of_ble_eq_true rfl⟩ ?_
  refine w_istore_n (lv' := [_, _]) dX0_turn_18 rfl (Nat.le_of_ble_eq_true rfl) rfl rfl ?_
  refine w_iload_n dX0_turn_19 rfl rfl ?_
  refine w_bipush dX0_turn_20 (by decide) ?_
  refine w_icmp_gt 40 dX0_turn_22 (by decide) (by first | assumption | (unfold ok32 at *; omega)) (by first | assumption | (unfold ok32 at *; omega)) (fun h1 => ?_) (fun h1 => ?_)
  · rw [if_neg (by omega)]
    exact x_vret rfl dX0_turn_40 ⟨rfl, rfl⟩
  · rw [if_pos (by omega)]
    refine w_aload_n dX0_turn_25 rfl rfl ?_
    refine w_dup dX0_turn_26 rfl ?_
    refine w_getf fX0_34 dX0_turn_27 AW0 rfl ?_
    refine w_aload_n dX0_turn_30 rfl rfl ?_
    refine w_getf fX0_9 dX0_turn_31 AW0 rfl ?_
    refine w_iload_n dX0_turn_34 rfl rfl ?_
    refine w_lald (t) AW1 (by first | rfl | omega | (push_cast; rfl) | (push_cast; omega)) (by omega) (by decide) dX0_turn_35 ?_
    refine w_lxor dX0_turn_36 ?_
    refine aw_pf3 fX0_34 dX0_turn_37 ?_
    exact x_vret rfl dX0_turn_40 ⟨rfl, rfl⟩

