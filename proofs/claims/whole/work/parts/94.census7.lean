/-! the census: knots among the picked -/
set_option maxRecDepth 8000 in
theorem c1_areHeldBy {a c : Nat} {ba : Nat → Nat → Int} {bi : Nat → Int} {bf : Nat → Nat} {h0 : HP} {B : Nat → Int} {L R C k : Nat} {p : Nat → Nat} {od : BitVec 32} (hC : CDQ (outC a) h0 c B L R C) (hb : bf 0 = c) (hk : k ≤ 3) (h7 : bi 7 = (k : Int)) (hp : ∀ i, i < k → ba 9 i = (p i : Int) ∧ p i < L * C) : sp mX1_areHeldBy [.ref a, .int (iB od)] (CUH a ba bi bf h0) 0 0 (pd (some (.int (zI (bI (∀ i, i < k → 2 * pop32 (hgB (cs B L C) (p i) (L * R) &&& od) < pop32 (hgB (cs B L C) (p i) (L * R))))))) (CUH a ba bi bf h0)) := by
  have hCD : CDP (CUH a ba bi bf h0) c B L R C := (hC.mono (P' := outC a) (fun _ z => z) (fun x hx => CUn hx)).cdp
  obtain ⟨ad, f7, f8, f10, f9, f11, rk, cr, hV, h6, h7', o_c0, r70, r80, r90, r100, r110, e7, e8, e9, e10, hRD, p0, p7, p8, p9, p10, p11⟩ := id hC
  have o_c : (CUH a ba bi bf h0).2 c = some (.inr (2, cfs L R C (B 6) (B 7) ad rk cr)) := CUo p0 o_c0
  refine sp_wp rfl (lv := [_, _, _]) rfl (Nat.le_of_ble_eq_true rfl) ?_
  refine w_iconst dX1_areHeldBy_0 ?_
  refine w_istore_n (lv' := [_, _, _]) dX1_areHeldBy_1 rfl (Nat.le_of_ble_eq_true rfl) rfl rfl ?_
  have lp : ∀ j, j ≤ k → (∀ i, i < j → 2 * pop32 (hgB (cs B L C) (p i) (L * R) &&& od) < pop32 (hgB (cs B L C) (p i) (L * R))) → wp mX1_areHeldBy 2 [.ref a, .int (iB od), .int (zI (j : Int))] [] (CUH a ba bi bf h0) 0 0 (pd (some (.int (zI (bI (∀ i, i < k → 2 * pop32 (hgB (cs B L C) (p i) (L * R) &&& od) < pop32 (hgB (cs B L C) (p i) (L * R))))))) (CUH a ba bi bf h0)) := by
    refine up_ind (P := fun j => (∀ i, i < j → 2 * pop32 (hgB (cs B L C) (p i) (L * R) &&& od) < pop32 (hgB (cs B L C) (p i) (L * R))) → wp mX1_areHeldBy 2 [.ref a, .int (iB od), .int (zI (j : Int))] [] (CUH a ba bi bf h0) 0 0 (pd (some (.int (zI (bI (∀ i, i < k → 2 * pop32 (hgB (cs B L C) (p i) (L * R) &&& od) < pop32 (hgB (cs B L C) (p i) (L * R))))))) (CUH a ba bi bf h0))) (fun j hj ih hall => ?_)
    refine w_iload_n dX1_areHeldBy_2 rfl rfl ?_
    refine w_aload_n dX1_areHeldBy_3 rfl rfl ?_
    refine w_getf fX1_50 dX1_areHeldBy_4 CU0 rfl ?_
    rw [h7]
    refine w_icmp_ge 35 dX1_areHeldBy_7 (by decide) (by first | assumption | (unfold ok32 at *; omega)) (by first | assumption | (unfold ok32 at *; omega)) (fun hc => ?_) (fun hc => ?_)
    · rw [bI_t (fun i hi => hall i (by omega))]
      refine w_iconst dX1_areHeldBy_35 ?_
      exact x_iret rfl rfl dX1_areHeldBy_36 ⟨rfl, rfl⟩
    · have hjk : j < k := by omega
      obtain ⟨q1, q2⟩ := hp j hjk
      refine w_aload_n dX1_areHeldBy_10 rfl rfl ?_
      refine w_getf fX1_35 dX1_areHeldBy_11 CU0 rfl ?_
      rw [hb]
      refine w_aload_n dX1_areHeldBy_14 rfl rfl ?_
      refine w_getf fX1_26 dX1_areHeldBy_15 CU0 rfl ?_
      refine w_iload_n dX1_areHeldBy_18 rfl rfl ?_
      refine w_iald j CU9 rfl (by omega) (by decide) dX1_areHeldBy_19 ?_
      rw [q1]
      refine w_iload_n dX1_areHeldBy_20 rfl rfl ?_
      refine wc_V (Z := mX2_isHeldBy) (As := [_, _]) (c2_isHeldBy hCD q2) o_c rfl kX2_isHeldBy lX1_92 iX2_isHeldBy vX2_isHeldBy dX1_areHeldBy_21 rfl rfl rfl (Nat.le_of_ble_eq_true rfl) ⟨Nat.le_of_ble_eq_true rfl, Nat.le_of_ble_eq_true rfl⟩ ?_
      refine w_ifb_ne 29 dX1_areHeldBy_24 (by decide) (fun hd => ?_) (fun hd => ?_)
      · refine w_iinc (lv' := [_, _, _]) dX1_areHeldBy_29 rfl rfl rfl ?_
        refine w_goto 2 dX1_areHeldBy_32 (by decide) ?_
        have := ih hjk (fun i hi => by
          by_cases hij : i = j
          · rw [hij]; exact hd
          · exact hall i (by omega))
        push_cast at this
        exact this
      · rw [bI_f (fun z => hd (z j hjk))]
        refine w_iconst dX1_areHeldBy_27 ?_
        exact x_iret rfl rfl dX1_areHeldBy_28 ⟨rfl, rfl⟩
  exact lp 0 (Nat.zero_le _) (fun i hi => by omega)

