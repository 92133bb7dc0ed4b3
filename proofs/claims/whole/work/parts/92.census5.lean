/-! the census: checks that are had once -/
theorem prt : ∀ w : Nat, w < 16 → ∀ k : Nat, k < 4 → (zI (w : Int) >>> (zI (k : Int) &&& 31)) &&& zI 1 = zI (if w.testBit k then 1 else 0) := by decide
/-- checks had by one or more, by two or more, of the picked that w names -/
def jo (M : Nat → BitVec 32) (p : Nat → Nat) (w : Nat) : Nat → BitVec 32 × BitVec 32
  | 0 => (0#32, 0#32)
  | k + 1 => if w.testBit k then ((jo M p w k).1 ||| M (p k), (jo M p w k).2 ||| ((jo M p w k).1 &&& M (p k))) else jo M p w k
def jst (M : Nat → BitVec 32) (p : Nat → Nat) (w n : Nat) : BitVec 32 := (jo M p w n).1 &&& ~~~ (jo M p w n).2
theorem iB_not (v : BitVec 32) : iB v ^^^ zI (-1) = iB (~~~ v) := by
  show iB v ^^^ iB (BitVec.allOnes 32) = _
  rw [iB_xor, BitVec.xor_allOnes]
set_option maxRecDepth 8000 in
theorem c1_justOnce {a c : Nat} {ba : Nat → Nat → Int} {bi : Nat → Int} {bf : Nat → Nat} {h0 : HP} {B : Nat → Int} {L R C n w : Nat} {p : Nat → Nat} (hC : CDQ (outC a) h0 c B L R C) (hb : bf 0 = c) (hn : n ≤ 4) (h8 : bi 8 = (n : Int)) (hw : w < 16) (hp : ∀ i, i < n → w.testBit i = true → ba 9 i = (p i : Int) ∧ p i < L * C) : sp mX1_justOnce [.ref a, .int (zI (w : Int))] (CUH a ba bi bf h0) 0 0 (pd (some (.int (iB (jst (fun b => hgB (cs B L C) b (L * R)) p w n)))) (CUH a ba bi bf h0)) := by
  obtain ⟨ad, f7, f8, f10, f9, f11, rk, cr, hV, h6, h7', o_c0, r70, r80, r90, r100, r110, e7, e8, e9, e10, hRD, p0, p7, p8, p9, p10, p11⟩ := id hC
  obtain ⟨v1, v2, v3, v4, v5, v6, v7⟩ := id hV
  have hLC := mulLe (a := L) (b := C) (x := 6) (y := 8) (by omega) (by omega)
  have o_c : (CUH a ba bi bf h0).2 c = some (.inr (2, cfs L R C (B 6) (B 7) ad rk cr)) := CUo p0 o_c0
  have r_10 : (CUH a ba bi bf h0).2 (ad 10) = some (aI 48 f10) := CUo p10 r100
  obtain ⟨M, hM⟩ : ∃ M, (fun b => hgB (cs B L C) b (L * R)) = M := ⟨_, rfl⟩
  have e10' : ∀ b, b < L * C → f10 b = (M b).toInt := fun b hb => by rw [← hM]; exact e10 b hb
  rw [hM]
  refine sp_wp rfl (lv := [_, _, _, _, _, _]) rfl (Nat.le_of_ble_eq_true rfl) ?_
  refine w_iconst dX1_justOnce_0 ?_
  refine w_istore_n (lv' := [_, _, _, _, _, _]) dX1_justOnce_1 rfl (Nat.le_of_ble_eq_true rfl) rfl rfl ?_
  refine w_iconst dX1_justOnce_2 ?_
  refine w_istore_n (lv' := [_, _, _, _, _, _]) dX1_justOnce_3 rfl (Nat.le_of_ble_eq_true rfl) rfl rfl ?_
  refine w_iconst dX1_justOnce_4 ?_
  refine w_istore (lv' := [_, _, _, _, _, _]) dX1_justOnce_5 (Nat.le_of_ble_eq_true rfl) rfl rfl ?_
  have lp : ∀ k, k ≤ n → ∀ x5 : Value, wp mX1_justOnce 7 [.ref a, .int (zI (w : Int)), .int (iB (jo M p w k).1), .int (iB (jo M p w k).2), .int (zI (k : Int)), x5] [] (CUH a ba bi bf h0) 0 0 (pd (some (.int (iB (jst M p w n)))) (CUH a ba bi bf h0)) := by
    refine up_ind (P := fun k => ∀ x5 : Value, wp mX1_justOnce 7 [.ref a, .int (zI (w : Int)), .int (iB (jo M p w k).1), .int (iB (jo M p w k).2), .int (zI (k : Int)), x5] [] (CUH a ba bi bf h0) 0 0 (pd (some (.int (iB (jst M p w n)))) (CUH a ba bi bf h0))) (fun k hk ih x5 => ?_)
    refine w_iload dX1_justOnce_7 rfl ?_
    refine w_aload_n dX1_justOnce_9 rfl rfl ?_
    refine w_getf fX1_46 dX1_justOnce_10 CU0 rfl ?_
    rw [h8]
    refine w_icmp_ge 60 dX1_justOnce_13 (by decide) (by first | assumption | (unfold ok32 at *; omega)) (by first | assumption | (unfold ok32 at *; omega)) (fun hc => ?_) (fun hc => ?_)
    · have ek : k = n := by omega
      subst ek
      refine w_iload_n dX1_justOnce_60 rfl rfl ?_
      refine w_iload_n dX1_justOnce_61 rfl rfl ?_
      refine w_iconst dX1_justOnce_62 ?_
      refine w_ixorR dX1_justOnce_63 ?_
      refine w_iandR dX1_justOnce_64 ?_
      rw [iB_not, iB_and]
      exact x_iret rfl rfl dX1_justOnce_65 ⟨rfl, rfl⟩
    · have hkn : k < n := by omega
      refine w_iload_n dX1_justOnce_16 rfl rfl ?_
      refine w_iload dX1_justOnce_17 rfl ?_
      refine w_ishrR dX1_justOnce_19 ?_
      refine w_iconst dX1_justOnce_20 ?_
      refine w_iandR dX1_justOnce_21 ?_
      rw [prt w hw k (by omega)]
      by_cases ht : w.testBit k = true
      · rw [if_pos ht]
        obtain ⟨q1, q2⟩ := hp k hkn ht
        refine w_if_eq 54 dX1_justOnce_22 (by decide) (by unfold ok32; omega) (fun hd => ?_) (fun hd => ?_)
        · omega
        · refine w_aload_n dX1_justOnce_25 rfl rfl ?_
          refine w_getf fX1_35 dX1_justOnce_26 CU0 rfl ?_
          rw [hb]
          refine w_getf fX1_78 dX1_justOnce_29 o_c rfl ?_
          refine w_aload_n dX1_justOnce_32 rfl rfl ?_
          refine w_getf fX1_26 dX1_justOnce_33 CU0 rfl ?_
          refine w_iload dX1_justOnce_36 rfl ?_
          refine w_iald k CU9 rfl (by omega) (by decide) dX1_justOnce_38 ?_
          rw [q1]
          refine w_iald (p k) r_10 rfl (by omega) (by decide) dX1_justOnce_39 ?_
          rw [e10' (p k) q2, zB]
          refine w_istore (lv' := [_, _, _, _, _, _]) dX1_justOnce_40 (Nat.le_of_ble_eq_true rfl) rfl rfl ?_
          refine w_iload_n dX1_justOnce_42 rfl rfl ?_
          refine w_iload_n dX1_justOnce_43 rfl rfl ?_
          refine w_iload dX1_justOnce_44 rfl ?_
          refine w_iandR dX1_justOnce_46 ?_
          refine w_iorR dX1_justOnce_47 ?_
          rw [iB_and, iB_or]
          refine w_istore_n (lv' := [_, _, _, _, _, _]) dX1_justOnce_48 rfl (Nat.le_of_ble_eq_true rfl) rfl rfl ?_
          refine w_iload_n dX1_justOnce_49 rfl rfl ?_
          refine w_iload dX1_justOnce_50 rfl ?_
          refine w_iorR dX1_justOnce_52 ?_
          rw [iB_or]
          refine w_istore_n (lv' := [_, _, _, _, _, _]) dX1_justOnce_53 rfl (Nat.le_of_ble_eq_true rfl) rfl rfl ?_
          refine w_iinc (lv' := [_, _, _, _, _, _]) dX1_justOnce_54 rfl rfl rfl ?_
          refine w_goto 7 dX1_justOnce_57 (by decide) ?_
          have := ih hkn (.int (iB (M (p k))))
          unfold jo at this
          rw [if_pos ht] at this
          push_cast at this
          exact this
      · rw [if_neg ht]
        refine w_if_eq 54 dX1_justOnce_22 (by decide) (by unfold ok32; omega) (fun hd => ?_) (fun hd => ?_)
        · refine w_iinc (lv' := [_, _, _, _, _, _]) dX1_justOnce_54 rfl rfl rfl ?_
          refine w_goto 7 dX1_justOnce_57 (by decide) ?_
          have := ih hkn x5
          unfold jo at this
          rw [if_neg ht] at this
          push_cast at this
          exact this
        · omega
  exact lp 0 (Nat.zero_le _) jk

