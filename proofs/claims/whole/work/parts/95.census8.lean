/-! the census: smaller knots -/
def pxr (M : Nat → BitVec 32) (p : Nat → Nat) (w : Nat) : Nat → BitVec 32
  | 0 => 0#32
  | k + 1 => if w.testBit k then pxr M p w k ^^^ M (p k) else pxr M p w k
def pKn (M : Nat → BitVec 32) (p : Nat → Nat) (w n : Nat) : Prop := ∀ i, i < n → w.testBit i = true → 2 * pop32 (M (p i) &&& pxr M p w n) < pop32 (M (p i))
noncomputable def pKb (M : Nat → BitVec 32) (p : Nat → Nat) (w n : Nat) : Int := @bI (pKn M p w n) (Classical.propDecidable _)
theorem pKb_t {M : Nat → BitVec 32} {p : Nat → Nat} {w n : Nat} (h : pKn M p w n) : pKb M p w n = 1 := @bI_t _ (Classical.propDecidable _) h
theorem pKb_f {M : Nat → BitVec 32} {p : Nat → Nat} {w n : Nat} (h : ¬ pKn M p w n) : pKb M p w n = 0 := @bI_f _ (Classical.propDecidable _) h
theorem pKb_0 {M : Nat → BitVec 32} {p : Nat → Nat} {w n : Nat} : pKb M p w n = 0 ↔ ¬ pKn M p w n := ⟨fun h z => by rw [pKb_t z] at h; omega, pKb_f⟩
theorem pKb_ok {M : Nat → BitVec 32} {p : Nat → Nat} {w n : Nat} : ok32 (pKb M p w n) := @bI_ok _ (Classical.propDecidable _)
set_option maxRecDepth 8000 in
theorem c1_isKnot {a c : Nat} {ba : Nat → Nat → Int} {bi : Nat → Int} {bf : Nat → Nat} {h0 : HP} {B : Nat → Int} {L R C n w : Nat} {p : Nat → Nat} (hC : CDQ (outC a) h0 c B L R C) (hb : bf 0 = c) (hn : n ≤ 4) (h8 : bi 8 = (n : Int)) (hw : w < 16) (hp : ∀ i, i < n → w.testBit i = true → ba 9 i = (p i : Int) ∧ p i < L * C) : sp mX1_isKnot [.ref a, .int (zI (w : Int))] (CUH a ba bi bf h0) 0 0 (pd (some (.int (zI (pKb (fun b => hgB (cs B L C) b (L * R)) p w n)))) (CUH a ba bi bf h0)) := by
  have hCD : CDP (CUH a ba bi bf h0) c B L R C := (hC.mono (P' := outC a) (fun _ z => z) (fun x hx => CUn hx)).cdp
  have hheld := fun (b : Nat) (od : BitVec 32) => c2_isHeldBy (b := b) (od := od) hCD
  obtain ⟨ad, f7, f8, f10, f9, f11, rk, cr, hV, h6, h7', o_c0, r70, r80, r90, r100, r110, e7, e8, e9, e10, hRD, p0, p7, p8, p9, p10, p11⟩ := id hC
  obtain ⟨v1, v2, v3, v4, v5, v6, v7⟩ := id hV
  have hLC := mulLe (a := L) (b := C) (x := 6) (y := 8) (by omega) (by omega)
  have o_c : (CUH a ba bi bf h0).2 c = some (.inr (2, cfs L R C (B 6) (B 7) ad rk cr)) := CUo p0 o_c0
  have r_10 : (CUH a ba bi bf h0).2 (ad 10) = some (aI 48 f10) := CUo p10 r100
  obtain ⟨M, hM⟩ : ∃ M, (fun b => hgB (cs B L C) b (L * R)) = M := ⟨_, rfl⟩
  have hMb : ∀ b, hgB (cs B L C) b (L * R) = M b := fun b => by rw [← hM]
  have e10' : ∀ b, b < L * C → f10 b = (M b).toInt := fun b hb => by rw [← hMb]; exact e10 b hb
  rw [hM]
  have two : ∀ k, k ≤ n → (∀ i, i < k → w.testBit i = true → 2 * pop32 (M (p i) &&& pxr M p w n) < pop32 (M (p i))) → wp mX1_isKnot 45 [.ref a, .int (zI (w : Int)), .int (iB (pxr M p w n)), .int (zI (k : Int))] [] (CUH a ba bi bf h0) 0 0 (pd (some (.int (zI (pKb M p w n)))) (CUH a ba bi bf h0)) := by
    refine up_ind (P := fun k => (∀ i, i < k → w.testBit i = true → 2 * pop32 (M (p i) &&& pxr M p w n) < pop32 (M (p i))) → wp mX1_isKnot 45 [.ref a, .int (zI (w : Int)), .int (iB (pxr M p w n)), .int (zI (k : Int))] [] (CUH a ba bi bf h0) 0 0 (pd (some (.int (zI (pKb M p w n)))) (CUH a ba bi bf h0))) (fun k hk ih hall => ?_)
    refine w_iload_n dX1_isKnot_45 rfl rfl ?_
    refine w_aload_n dX1_isKnot_46 rfl rfl ?_
    refine w_getf fX1_46 dX1_isKnot_47 CU0 rfl ?_
    rw [h8]
    refine w_icmp_ge 86 dX1_isKnot_50 (by decide) (by first | assumption | (unfold ok32 at *; omega)) (by first | assumption | (unfold ok32 at *; omega)) (fun hc => ?_) (fun hc => ?_)
    · rw [pKb_t (fun i hi ht => hall i (by omega) ht)]
      refine w_iconst dX1_isKnot_86 ?_
      exact x_iret rfl rfl dX1_isKnot_87 ⟨rfl, rfl⟩
    · have hkn : k < n := by omega
      refine w_iload_n dX1_isKnot_53 rfl rfl ?_
      refine w_iload_n dX1_isKnot_54 rfl rfl ?_
      refine w_ishrR dX1_isKnot_55 ?_
      refine w_iconst dX1_isKnot_56 ?_
      refine w_iandR dX1_isKnot_57 ?_
      rw [prt w hw k (by omega)]
      have next : (w.testBit k = true → 2 * pop32 (M (p k) &&& pxr M p w n) < pop32 (M (p k))) → wp mX1_isKnot 80 [.ref a, .int (zI (w : Int)), .int (iB (pxr M p w n)), .int (zI (k : Int))] [] (CUH a ba bi bf h0) 0 0 (pd (some (.int (zI (pKb M p w n)))) (CUH a ba bi bf h0)) := by
        intro hh
        refine w_iinc (lv' := [_, _, _, _]) dX1_isKnot_80 rfl rfl rfl ?_
        refine w_goto 45 dX1_isKnot_83 (by decide) ?_
        have := ih hkn (fun i hi ht => by
          by_cases hik : i = k
          · rw [hik] at ht ⊢; exact hh ht
          · exact hall i (by omega) ht)
        push_cast at this
        exact this
      by_cases ht : w.testBit k = true
      · rw [if_pos ht]
        obtain ⟨q1, q2⟩ := hp k hkn ht
        refine w_if_eq 80 dX1_isKnot_58 (by decide) (by unfold ok32; omega) (fun hd => ?_) (fun hd => ?_)
        · omega
        · refine w_aload_n dX1_isKnot_61 rfl rfl ?_
          refine w_getf fX1_35 dX1_isKnot_62 CU0 rfl ?_
          rw [hb]
          refine w_aload_n dX1_isKnot_65 rfl rfl ?_
          refine w_getf fX1_26 dX1_isKnot_66 CU0 rfl ?_
          refine w_iload_n dX1_isKnot_69 rfl rfl ?_
          refine w_iald k CU9 rfl (by omega) (by decide) dX1_isKnot_70 ?_
          rw [q1]
          refine w_iload_n dX1_isKnot_71 rfl rfl ?_
          refine wc_V (Z := mX2_isHeldBy) (As := [_, _]) (hheld (p k) (pxr M p w n) q2) o_c rfl kX2_isHeldBy lX1_92 iX2_isHeldBy vX2_isHeldBy dX1_isKnot_72 rfl rfl rfl (Nat.le_of_ble_eq_true rfl) ⟨Nat.le_of_ble_eq_true rfl, Nat.le_of_ble_eq_true rfl⟩ ?_
          refine w_ifb_ne 80 dX1_isKnot_75 (by decide) (fun he => ?_) (fun he => ?_)
          · rw [hMb] at he
            exact next (fun _ => he)
          · rw [hMb] at he
            rw [pKb_f (fun z => he (z k hkn ht))]
            refine w_iconst dX1_isKnot_78 ?_
            exact x_iret rfl rfl dX1_isKnot_79 ⟨rfl, rfl⟩
      · rw [if_neg ht]
        refine w_if_eq 80 dX1_isKnot_58 (by decide) (by unfold ok32; omega) (fun hd => ?_) (fun hd => ?_)
        · exact next (fun z => absurd z ht)
        · omega
  have one : ∀ k, k ≤ n → wp mX1_isKnot 4 [.ref a, .int (zI (w : Int)), .int (iB (pxr M p w k)), .int (zI (k : Int))] [] (CUH a ba bi bf h0) 0 0 (pd (some (.int (zI (pKb M p w n)))) (CUH a ba bi bf h0)) := by
    refine up_ind (P := fun k => wp mX1_isKnot 4 [.ref a, .int (zI (w : Int)), .int (iB (pxr M p w k)), .int (zI (k : Int))] [] (CUH a ba bi bf h0) 0 0 (pd (some (.int (zI (pKb M p w n)))) (CUH a ba bi bf h0))) (fun k hk ih => ?_)
    refine w_iload_n dX1_isKnot_4 rfl rfl ?_
    refine w_aload_n dX1_isKnot_5 rfl rfl ?_
    refine w_getf fX1_46 dX1_isKnot_6 CU0 rfl ?_
    rw [h8]
    refine w_icmp_ge 43 dX1_isKnot_9 (by decide) (by first | assumption | (unfold ok32 at *; omega)) (by first | assumption | (unfold ok32 at *; omega)) (fun hc => ?_) (fun hc => ?_)
    · have ek : k = n := by omega
      subst ek
      refine w_iconst dX1_isKnot_43 ?_
      refine w_istore_n (lv' := [_, _, _, _]) dX1_isKnot_44 rfl (Nat.le_of_ble_eq_true rfl) rfl rfl ?_
      exact two 0 (Nat.zero_le _) (fun i hi => by omega)
    · have hkn : k < n := by omega
      refine w_iload_n dX1_isKnot_12 rfl rfl ?_
      refine w_iload_n dX1_isKnot_13 rfl rfl ?_
      refine w_ishrR dX1_isKnot_14 ?_
      refine w_iconst dX1_isKnot_15 ?_
      refine w_iandR dX1_isKnot_16 ?_
      rw [prt w hw k (by omega)]
      by_cases ht : w.testBit k = true
      · rw [if_pos ht]
        obtain ⟨q1, q2⟩ := hp k hkn ht
        refine w_if_eq 37 dX1_isKnot_17 (by decide) (by unfold ok32; omega) (fun hd => ?_) (fun hd => ?_)
        · omega
        · refine w_iload_n dX1_isKnot_20 rfl rfl ?_
          refine w_aload_n dX1_isKnot_21 rfl rfl ?_
          refine w_getf fX1_35 dX1_isKnot_22 CU0 rfl ?_
          rw [hb]
          refine w_getf fX1_78 dX1_isKnot_25 o_c rfl ?_
          refine w_aload_n dX1_isKnot_28 rfl rfl ?_
          refine w_getf fX1_26 dX1_isKnot_29 CU0 rfl ?_
          refine w_iload_n dX1_isKnot_32 rfl rfl ?_
          refine w_iald k CU9 rfl (by omega) (by decide) dX1_isKnot_33 ?_
          rw [q1]
          refine w_iald (p k) r_10 rfl (by omega) (by decide) dX1_isKnot_34 ?_
          rw [e10' (p k) q2, zB]
          refine w_ixorR dX1_isKnot_35 ?_
          rw [iB_xor]
          refine w_istore_n (lv' := [_, _, _, _]) dX1_isKnot_36 rfl (Nat.le_of_ble_eq_true rfl) rfl rfl ?_
          refine w_iinc (lv' := [_, _, _, _]) dX1_isKnot_37 rfl rfl rfl ?_
          refine w_goto 4 dX1_isKnot_40 (by decide) ?_
          have := ih hkn
          unfold pxr at this
          rw [if_pos ht] at this
          push_cast at this
          exact this
      · rw [if_neg ht]
        refine w_if_eq 37 dX1_isKnot_17 (by decide) (by unfold ok32; omega) (fun hd => ?_) (fun hd => ?_)
        · refine w_iinc (lv' := [_, _, _, _]) dX1_isKnot_37 rfl rfl rfl ?_
          refine w_goto 4 dX1_isKnot_40 (by decide) ?_
          have := ih hkn
          unfold pxr at this
          rw [if_neg ht] at this
          push_cast at this
          exact this
        · omega
  refine sp_wp rfl (lv := [_, _, _, _]) rfl (Nat.le_of_ble_eq_true rfl) ?_
  refine w_iconst dX1_isKnot_0 ?_
  refine w_istore_n (lv' := [_, _, _, _]) dX1_isKnot_1 rfl (Nat.le_of_ble_eq_true rfl) rfl rfl ?_
  refine w_iconst dX1_isKnot_2 ?_
  refine w_istore_n (lv' := [_, _, _, _]) dX1_isKnot_3 rfl (Nat.le_of_ble_eq_true rfl) rfl rfl ?_
  exact one 0 (Nat.zero_le _)

