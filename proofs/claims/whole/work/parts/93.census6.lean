/-! the census: stoppers, and held bits -/
theorem toInt_0 {x : BitVec 32} : x.toInt = 0 ↔ x = 0#32 := toInt_ne (y := 0#32)
theorem pw1 : ∀ k : Nat, k < 5 → zI 1 <<< (zI (k : Int) &&& 31) - zI 1 = zI ((2 ^ k - 1 : Nat) : Int) := by decide
theorem pw_lt : ∀ k : Nat, k < 5 → 2 ^ k - 1 < 16 := by decide
set_option maxRecDepth 8000 in
theorem c1_countStoppers {a c : Nat} {ba : Nat → Nat → Int} {bi : Nat → Int} {bf : Nat → Nat} {h0 : HP} {B : Nat → Int} {L R C k f : Nat} {p : Nat → Nat} {Q : BitVec 64 → Bool} (hC : CDQ (outC a) h0 c B L R C) (hb : bf 0 = c) (hk : k ≤ 3) (h7 : bi 7 = (k : Int)) (h8 : bi 8 = (k : Int) + 1) (hp : ∀ i, i < k → ba 9 i = (p i : Int) ∧ p i < L * C) (hs : SUMS (fun b => hgB (cs B L C) b (L * R)) p k ba) (hf : f = if k = 0 then 0 else p (k - 1) + 1) (hQ : ∀ b, f ≤ b → b < L * C → (Q (pks p k ||| (1#64 <<< b)) = true ↔ (jst (fun b => hgB (cs B L C) b (L * R)) p (2 ^ k - 1) (k + 1) &&& ~~~ hgB (cs B L C) b (L * R) = 0#32 ∧ hgB (cs B L C) b (L * R) &&& ~~~ psm (fun b => hgB (cs B L C) b (L * R)) p k = 0#32))) : sp mX1_countStoppers [.ref a] (CUH a ba bi bf h0) 0 0 (pd (some (.int (zI (((cm (L * C) f 1 (pks p k)).countP Q : Nat) : Int)))) (CUH a ba bi bf h0)) := by
  obtain ⟨ad, f7, f8, f10, f9, f11, rk, cr, hV, h6, h7', o_c0, r70, r80, r90, r100, r110, e7, e8, e9, e10, hRD, p0, p7, p8, p9, p10, p11⟩ := id hC
  obtain ⟨v1, v2, v3, v4, v5, v6, v7⟩ := id hV
  have hLC := mulLe (a := L) (b := C) (x := 6) (y := 8) (by omega) (by omega)
  have o_c : (CUH a ba bi bf h0).2 c = some (.inr (2, cfs L R C (B 6) (B 7) ad rk cr)) := CUo p0 o_c0
  have r_10 : (CUH a ba bi bf h0).2 (ad 10) = some (aI 48 f10) := CUo p10 r100
  have hjo := c1_justOnce (ba := ba) (bi := bi) (n := k + 1) (w := 2 ^ k - 1) (p := p) hC hb (by omega) (by rw [h8]; push_cast; rfl) (pw_lt k (by omega)) (fun i _ ht => by
    rw [Nat.testBit_two_pow_sub_one] at ht
    exact hp i (of_decide_eq_true ht))
  obtain ⟨M, hM⟩ : ∃ M, (fun b => hgB (cs B L C) b (L * R)) = M := ⟨_, rfl⟩
  have hMb : ∀ b, hgB (cs B L C) b (L * R) = M b := fun b => by rw [← hM]
  have e10' : ∀ b, b < L * C → f10 b = (M b).toInt := fun b hb => by rw [← hMb]; exact e10 b hb
  rw [hM] at hs hQ hjo
  obtain ⟨N, hN⟩ : ∃ N, L * C = N := ⟨_, rfl⟩
  rw [hN] at hp hQ hLC e10' ⊢
  have hfN : f ≤ N := by
    rw [hf]
    split
    · omega
    · have := (hp (k - 1) (by omega)).2
      omega
  have hsk := (hs k (Nat.le_refl _)).2
  obtain ⟨J, hJ⟩ : ∃ J, jst M p (2 ^ k - 1) (k + 1) = J := ⟨_, rfl⟩
  rw [hJ] at hQ hjo
  refine sp_wp rfl (lv := [_, _, _, _, _]) rfl (Nat.le_of_ble_eq_true rfl) ?_
  refine w_aload_n dX1_countStoppers_0 rfl rfl ?_
  refine w_iconst dX1_countStoppers_1 ?_
  refine w_aload_n dX1_countStoppers_2 rfl rfl ?_
  refine w_getf fX1_50 dX1_countStoppers_3 CU0 rfl ?_
  rw [h7]
  refine w_ishlR dX1_countStoppers_6 ?_
  refine w_iconst dX1_countStoppers_7 ?_
  refine w_isubR dX1_countStoppers_8 ?_
  rw [pw1 k (by omega)]
  refine wc_V (Z := mX1_justOnce) (As := [_]) hjo CU0 rfl kX1_justOnce lX1_84 iX1_justOnce vX1_justOnce dX1_countStoppers_9 rfl rfl rfl (Nat.le_of_ble_eq_true rfl) ⟨Nat.le_of_ble_eq_true rfl, Nat.le_of_ble_eq_true rfl⟩ ?_
  refine w_istore_n (lv' := [_, _, _, _, _]) dX1_countStoppers_12 rfl (Nat.le_of_ble_eq_true rfl) rfl rfl ?_
  refine w_iconst dX1_countStoppers_13 ?_
  refine w_istore_n (lv' := [_, _, _, _, _]) dX1_countStoppers_14 rfl (Nat.le_of_ble_eq_true rfl) rfl rfl ?_
  refine w_aload_n dX1_countStoppers_15 rfl rfl ?_
  refine wc_V (Z := mX1_firstLast) (As := []) (c1_firstLast hk h7 (fun i hi => (hp i hi).1)) CU0 rfl kX1_firstLast lX1_81 iX1_firstLast vX1_firstLast dX1_countStoppers_16 rfl rfl rfl (Nat.le_of_ble_eq_true rfl) ⟨Nat.le_of_ble_eq_true rfl, Nat.le_of_ble_eq_true rfl⟩ ?_
  rw [← hf]
  refine w_istore_n (lv' := [_, _, _, _, _]) dX1_countStoppers_19 rfl (Nat.le_of_ble_eq_true rfl) rfl rfl ?_
  have lp : ∀ b, b ≤ N → f ≤ b → ∀ (n : Nat) (x4 : Value), n + (cm N b 1 (pks p k)).countP Q = (cm N f 1 (pks p k)).countP Q → wp mX1_countStoppers 20 [.ref a, .int (iB J), .int (zI (n : Int)), .int (zI (b : Int)), x4] [] (CUH a ba bi bf h0) 0 0 (pd (some (.int (zI (((cm N f 1 (pks p k)).countP Q : Nat) : Int)))) (CUH a ba bi bf h0)) := by
    refine up_ind (P := fun b => f ≤ b → ∀ (n : Nat) (x4 : Value), n + (cm N b 1 (pks p k)).countP Q = (cm N f 1 (pks p k)).countP Q → wp mX1_countStoppers 20 [.ref a, .int (iB J), .int (zI (n : Int)), .int (zI (b : Int)), x4] [] (CUH a ba bi bf h0) 0 0 (pd (some (.int (zI (((cm N f 1 (pks p k)).countP Q : Nat) : Int)))) (CUH a ba bi bf h0))) (fun b hbN ih hfb n x4 hn => ?_)
    refine w_iload_n dX1_countStoppers_20 rfl rfl ?_
    refine w_aload_n dX1_countStoppers_21 rfl rfl ?_
    refine w_getf fX1_35 dX1_countStoppers_22 CU0 rfl ?_
    rw [hb]
    refine w_getf fX1_53 dX1_countStoppers_25 o_c rfl ?_
    rw [hN]
    refine w_icmp_ge 77 dX1_countStoppers_28 (by decide) (by first | assumption | (unfold ok32 at *; omega)) (by first | assumption | (unfold ok32 at *; omega)) (fun hc => ?_) (fun hc => ?_)
    · have : b = N := by omega
      subst this
      rw [cm_nil (by omega) (by omega)] at hn
      replace hn : n = _ := hn
      refine w_iload_n dX1_countStoppers_77 rfl rfl ?_
      exact x_iret rfl rfl dX1_countStoppers_78 ⟨by rw [hn], rfl⟩
    · have hbl : b < N := by omega
      rw [cm_1 hbl, List.countP_cons] at hn
      have hq := hQ b hfb hbl
      rw [hMb] at hq
      have no : ¬ (J &&& ~~~ M b = 0#32 ∧ M b &&& ~~~ psm M p k = 0#32) → wp mX1_countStoppers 71 [.ref a, .int (iB J), .int (zI (n : Int)), .int (zI (b : Int)), .int (iB (M b))] [] (CUH a ba bi bf h0) 0 0 (pd (some (.int (zI (((cm N f 1 (pks p k)).countP Q : Nat) : Int)))) (CUH a ba bi bf h0)) := by
        intro hno
        rw [if_neg (fun z => hno (hq.1 z))] at hn
        refine w_iinc (lv' := [_, _, _, _, _]) dX1_countStoppers_71 rfl rfl rfl ?_
        refine w_goto 20 dX1_countStoppers_74 (by decide) ?_
        have := ih hbl (by omega) n (.int (iB (M b))) (by omega)
        push_cast at this
        exact this
      refine w_aload_n dX1_countStoppers_31 rfl rfl ?_
      refine w_getf fX1_35 dX1_countStoppers_32 CU0 rfl ?_
      rw [hb]
      refine w_getf fX1_78 dX1_countStoppers_35 o_c rfl ?_
      refine w_iload_n dX1_countStoppers_38 rfl rfl ?_
      refine w_iald b r_10 rfl (by omega) (by decide) dX1_countStoppers_39 ?_
      rw [e10' b hbl, zB]
      refine w_istore (lv' := [_, _, _, _, _]) dX1_countStoppers_40 (Nat.le_of_ble_eq_true rfl) rfl rfl ?_
      refine w_iload_n dX1_countStoppers_42 rfl rfl ?_
      refine w_iload dX1_countStoppers_43 rfl ?_
      refine w_iconst dX1_countStoppers_45 ?_
      refine w_ixorR dX1_countStoppers_46 ?_
      refine w_iandR dX1_countStoppers_47 ?_
      rw [iB_not, iB_and, iBz (J &&& ~~~ M b)]
      refine w_if_ne 71 dX1_countStoppers_48 (by decide) (ok32_of (iB _)) (fun hd => ?_) (fun hd => ?_)
      · rw [toInt_0] at hd
        exact no (fun z => hd z.1)
      · rw [toInt_0] at hd
        refine w_iload dX1_countStoppers_51 rfl ?_
        refine w_aload_n dX1_countStoppers_53 rfl rfl ?_
        refine w_getf fX1_32 dX1_countStoppers_54 CU0 rfl ?_
        refine w_aload_n dX1_countStoppers_57 rfl rfl ?_
        refine w_getf fX1_50 dX1_countStoppers_58 CU0 rfl ?_
        rw [h7]
        refine w_iald k CU11 rfl (by omega) (by decide) dX1_countStoppers_61 ?_
        rw [hsk, zB]
        refine w_iconst dX1_countStoppers_62 ?_
        refine w_ixorR dX1_countStoppers_63 ?_
        refine w_iandR dX1_countStoppers_64 ?_
        rw [iB_not, iB_and, iBz (M b &&& ~~~ psm M p k)]
        refine w_if_ne 71 dX1_countStoppers_65 (by decide) (ok32_of (iB _)) (fun he => ?_) (fun he => ?_)
        · rw [toInt_0] at he
          exact no (fun z => he z.2)
        · rw [toInt_0] at he
          rw [if_pos (hq.2 ⟨hd, he⟩)] at hn
          refine w_iinc (lv' := [_, _, _, _, _]) dX1_countStoppers_68 rfl rfl rfl ?_
          refine w_iinc (lv' := [_, _, _, _, _]) dX1_countStoppers_71 rfl rfl rfl ?_
          refine w_goto 20 dX1_countStoppers_74 (by decide) ?_
          have := ih hbl (by omega) (n + 1) (.int (iB (M b))) (by omega)
          push_cast at this
          exact this
  exact lp f hfN (Nat.le_refl _) 0 jk (by omega)

