/-! the census: words -/
theorem cm_1 {n b : Nat} {acc : BitVec 64} (h : b < n) : cm n b 1 acc = (acc ||| (1#64 <<< b)) :: cm n (b + 1) 1 acc := by
  rw [cm_s h, cm_0]
  rfl
theorem toInt_ne {x y : BitVec 32} : x.toInt = y.toInt ↔ x = y := ⟨BitVec.eq_of_toInt_eq, fun h => by rw [h]⟩
set_option maxRecDepth 8000 in
theorem c1_countWords {a c : Nat} {ba : Nat → Nat → Int} {bi : Nat → Int} {bf : Nat → Nat} {h0 : HP} {B : Nat → Int} {L R C k f : Nat} {p : Nat → Nat} {Q : BitVec 64 → Bool} (hC : CDQ (outC a) h0 c B L R C) (hb : bf 0 = c) (hk : k ≤ 3) (h7 : bi 7 = (k : Int)) (hp : ∀ i, i < k → ba 9 i = (p i : Int) ∧ p i < L * C) (hs : SUMS (fun b => hgB (cs B L C) b (L * R)) p k ba) (hf : f = if k = 0 then 0 else p (k - 1) + 1) (hQ : ∀ b, f ≤ b → b < L * C → (Q (pks p k ||| (1#64 <<< b)) = true ↔ hgB (cs B L C) b (L * R) = pod (fun b => hgB (cs B L C) b (L * R)) p k)) : sp mX1_countWords [.ref a] (CUH a ba bi bf h0) 0 0 (pd (some (.int (zI (((cm (L * C) f 1 (pks p k)).countP Q : Nat) : Int)))) (CUH a ba bi bf h0)) := by
  obtain ⟨ad, f7, f8, f10, f9, f11, rk, cr, hV, h6, h7', o_c0, r70, r80, r90, r100, r110, e7, e8, e9, e10, hRD, p0, p7, p8, p9, p10, p11⟩ := id hC
  obtain ⟨v1, v2, v3, v4, v5, v6, v7⟩ := id hV
  have hLC := mulLe (a := L) (b := C) (x := 6) (y := 8) (by omega) (by omega)
  have o_c : (CUH a ba bi bf h0).2 c = some (.inr (2, cfs L R C (B 6) (B 7) ad rk cr)) := CUo p0 o_c0
  have r_10 : (CUH a ba bi bf h0).2 (ad 10) = some (aI 48 f10) := CUo p10 r100
  obtain ⟨M, hM⟩ : ∃ M, (fun b => hgB (cs B L C) b (L * R)) = M := ⟨_, rfl⟩
  have hMb : ∀ b, hgB (cs B L C) b (L * R) = M b := fun b => by rw [← hM]
  have e10' : ∀ b, b < L * C → f10 b = (M b).toInt := fun b hb => by rw [← hMb]; exact e10 b hb
  rw [hM] at hs hQ
  obtain ⟨N, hN⟩ : ∃ N, L * C = N := ⟨_, rfl⟩
  rw [hN] at hp hQ hLC e10' ⊢
  have hfN : f ≤ N := by
    rw [hf]
    split
    · omega
    · have := (hp (k - 1) (by omega)).2
      omega
  have hsk := (hs k (Nat.le_refl _)).1
  refine sp_wp rfl (lv := [_, _, _]) rfl (Nat.le_of_ble_eq_true rfl) ?_
  refine w_iconst dX1_countWords_0 ?_
  refine w_istore_n (lv' := [_, _, _]) dX1_countWords_1 rfl (Nat.le_of_ble_eq_true rfl) rfl rfl ?_
  refine w_aload_n dX1_countWords_2 rfl rfl ?_
  refine wc_V (Z := mX1_firstLast) (As := []) (c1_firstLast hk h7 (fun i hi => (hp i hi).1)) CU0 rfl kX1_firstLast lX1_81 iX1_firstLast vX1_firstLast dX1_countWords_3 rfl rfl rfl (Nat.le_of_ble_eq_true rfl) ⟨Nat.le_of_ble_eq_true rfl, Nat.le_of_ble_eq_true rfl⟩ ?_
  rw [← hf]
  refine w_istore_n (lv' := [_, _, _]) dX1_countWords_6 rfl (Nat.le_of_ble_eq_true rfl) rfl rfl ?_
  have lp : ∀ b, b ≤ N → f ≤ b → ∀ n : Nat, n + (cm N b 1 (pks p k)).countP Q = (cm N f 1 (pks p k)).countP Q → wp mX1_countWords 7 [.ref a, .int (zI (n : Int)), .int (zI (b : Int))] [] (CUH a ba bi bf h0) 0 0 (pd (some (.int (zI (((cm N f 1 (pks p k)).countP Q : Nat) : Int)))) (CUH a ba bi bf h0)) := by
    refine up_ind (P := fun b => f ≤ b → ∀ n : Nat, n + (cm N b 1 (pks p k)).countP Q = (cm N f 1 (pks p k)).countP Q → wp mX1_countWords 7 [.ref a, .int (zI (n : Int)), .int (zI (b : Int))] [] (CUH a ba bi bf h0) 0 0 (pd (some (.int (zI (((cm N f 1 (pks p k)).countP Q : Nat) : Int)))) (CUH a ba bi bf h0))) (fun b hbN ih hfb n hn => ?_)
    refine w_iload_n dX1_countWords_7 rfl rfl ?_
    refine w_aload_n dX1_countWords_8 rfl rfl ?_
    refine w_getf fX1_35 dX1_countWords_9 CU0 rfl ?_
    rw [hb]
    refine w_getf fX1_53 dX1_countWords_12 o_c rfl ?_
    rw [hN]
    refine w_icmp_ge 48 dX1_countWords_15 (by decide) (by first | assumption | (unfold ok32 at *; omega)) (by first | assumption | (unfold ok32 at *; omega)) (fun hc => ?_) (fun hc => ?_)
    · have : b = N := by omega
      subst this
      rw [cm_nil (by omega) (by omega)] at hn
      replace hn : n = _ := hn
      refine w_iload_n dX1_countWords_48 rfl rfl ?_
      exact x_iret rfl rfl dX1_countWords_49 ⟨by rw [hn], rfl⟩
    · have hbl : b < N := by omega
      rw [cm_1 hbl, List.countP_cons] at hn
      have hq := hQ b hfb hbl
      rw [hMb] at hq
      refine w_aload_n dX1_countWords_18 rfl rfl ?_
      refine w_getf fX1_35 dX1_countWords_19 CU0 rfl ?_
      rw [hb]
      refine w_getf fX1_78 dX1_countWords_22 o_c rfl ?_
      refine w_iload_n dX1_countWords_25 rfl rfl ?_
      refine w_iald b r_10 rfl (by omega) (by decide) dX1_countWords_26 ?_
      rw [e10' b hbl]
      refine w_aload_n dX1_countWords_27 rfl rfl ?_
      refine w_getf fX1_29 dX1_countWords_28 CU0 rfl ?_
      refine w_aload_n dX1_countWords_31 rfl rfl ?_
      refine w_getf fX1_50 dX1_countWords_32 CU0 rfl ?_
      rw [h7]
      refine w_iald k CU10 rfl (by omega) (by decide) dX1_countWords_35 ?_
      rw [hsk]
      refine w_icmp_ne 42 dX1_countWords_36 (by decide) (ok32_of (iB _)) (ok32_of (iB _)) (fun hd => ?_) (fun hd => ?_)
      · rw [toInt_ne] at hd
        rw [if_neg (fun z => hd (hq.1 z))] at hn
        refine w_iinc (lv' := [_, _, _]) dX1_countWords_42 rfl rfl rfl ?_
        refine w_goto 7 dX1_countWords_45 (by decide) ?_
        have := ih hbl (by omega) n (by omega)
        push_cast at this
        exact this
      · rw [toInt_ne] at hd
        rw [if_pos (hq.2 hd)] at hn
        refine w_iinc (lv' := [_, _, _]) dX1_countWords_39 rfl rfl rfl ?_
        refine w_iinc (lv' := [_, _, _]) dX1_countWords_42 rfl rfl rfl ?_
        refine w_goto 7 dX1_countWords_45 (by decide) ?_
        have := ih hbl (by omega) (n + 1) (by omega)
        push_cast at this
        exact this
  exact lp f hfN (Nat.le_refl _) 0 (by omega)

