/-! the census: sums refreshed where there are too few bits -/
set_option maxRecDepth 8000 in
theorem c1_refreshX {a c : Nat} {ba : Nat → Nat → Int} {bi : Nat → Int} {bf : Nat → Nat} {h0 : HP} {B : Nat → Int} {L R C k : Nat} {p : Nat → Nat} (hC : CDQ (outC a) h0 c B L R C) (hb : bf 0 = c) (hk : k ≤ 3) (h7 : bi 7 = (k : Int)) (hp : ∀ i, i < k → ba 9 i = (p i : Int) ∧ p i < 48) : sp mX1_refresh [.ref a, .int (zI 0)] (CUH a ba bi bf h0) 0 0 (px none (fun g : Nat → Nat → Int => g 8 = ba 8 ∧ g 10 0 = ba 10 0 ∧ g 11 0 = ba 11 0) (fun g => CUH a g bi bf h0)) := by
  obtain ⟨ad, f7, f8, f10, f9, f11, rk, cr, hV, h6, h7', o_c0, r70, r80, r90, r100, r110, e7, e8, e9, e10, hRD, p0, p7, p8, p9, p10, p11⟩ := id hC
  have o_c : ∀ {g : Nat → Nat → Int}, (CUH a g bi bf h0).2 c = some (.inr (2, cfs L R C (B 6) (B 7) ad rk cr)) := CUo p0 o_c0
  have r_10 : ∀ {g : Nat → Nat → Int}, (CUH a g bi bf h0).2 (ad 10) = some (aI 48 f10) := CUo p10 r100
  refine sp_wp rfl (lv := [_, _, _, _]) rfl (Nat.le_of_ble_eq_true rfl) ?_
  have lp : ∀ i, i ≤ k → ∀ (g : Nat → Nat → Int) (x3 : Value), g 8 = ba 8 → g 9 = ba 9 → g 10 0 = ba 10 0 → g 11 0 = ba 11 0 → wp mX1_refresh 2 [.ref a, .int (zI 0), .int (zI (i : Int)), x3] [] (CUH a g bi bf h0) 0 0 (px none (fun g : Nat → Nat → Int => g 8 = ba 8 ∧ g 10 0 = ba 10 0 ∧ g 11 0 = ba 11 0) (fun g => CUH a g bi bf h0)) := by
    refine up_ind (P := fun i => ∀ (g : Nat → Nat → Int) (x3 : Value), g 8 = ba 8 → g 9 = ba 9 → g 10 0 = ba 10 0 → g 11 0 = ba 11 0 → wp mX1_refresh 2 [.ref a, .int (zI 0), .int (zI (i : Int)), x3] [] (CUH a g bi bf h0) 0 0 (px none (fun g : Nat → Nat → Int => g 8 = ba 8 ∧ g 10 0 = ba 10 0 ∧ g 11 0 = ba 11 0) (fun g => CUH a g bi bf h0))) (fun i hi ih g x3 g8 g9 g10 g11 => ?_)
    refine w_iload_n dX1_refresh_2 rfl rfl ?_
    refine w_aload_n dX1_refresh_3 rfl rfl ?_
    refine w_getf fX1_50 dX1_refresh_4 CU0 rfl ?_
    rw [h7]
    refine w_icmp_ge 63 dX1_refresh_7 (by decide) (by first | assumption | (unfold ok32 at *; omega)) (by first | assumption | (unfold ok32 at *; omega)) (fun hc => ?_) (fun hc => ?_)
    · exact x_vret rfl dX1_refresh_63 ⟨rfl, g, ⟨g8, g10, g11⟩, rfl⟩
    · have hik : i < k := by omega
      obtain ⟨q1, q2⟩ := hp i hik
      refine w_aload_n dX1_refresh_10 rfl rfl ?_
      refine w_getf fX1_35 dX1_refresh_11 CU0 rfl ?_
      rw [hb]
      refine w_getf fX1_78 dX1_refresh_14 o_c rfl ?_
      refine w_aload_n dX1_refresh_17 rfl rfl ?_
      refine w_getf fX1_26 dX1_refresh_18 CU0 rfl ?_
      refine w_iload_n dX1_refresh_21 rfl rfl ?_
      refine w_iald i CU9 rfl (by omega) (by decide) dX1_refresh_22 ?_
      rw [g9, q1]
      refine w_iald (p i) r_10 rfl (by omega) (by decide) dX1_refresh_23 ?_
      refine w_istore_n (lv' := [_, _, _, _]) dX1_refresh_24 rfl (Nat.le_of_ble_eq_true rfl) rfl rfl ?_
      refine w_aload_n dX1_refresh_25 rfl rfl ?_
      refine w_getf fX1_29 dX1_refresh_26 CU0 rfl ?_
      refine w_iload_n dX1_refresh_29 rfl rfl ?_
      refine w_iconst dX1_refresh_30 ?_
      refine w_iadd dX1_refresh_31 ?_
      refine w_aload_n dX1_refresh_32 rfl rfl ?_
      refine w_getf fX1_29 dX1_refresh_33 CU0 rfl ?_
      refine w_iload_n dX1_refresh_36 rfl rfl ?_
      refine w_iald i CU10 rfl (by omega) (by decide) dX1_refresh_37 ?_
      refine w_iload_n dX1_refresh_38 rfl rfl ?_
      refine w_ixorR dX1_refresh_39 ?_
      rw [← zI_of (zI (g 10 i) ^^^ zI (f10 (p i)))]
      refine cu_ist10 (i + 1) (by omega) (by omega) dX1_refresh_40 ?_
      refine w_aload_n dX1_refresh_41 rfl rfl ?_
      refine w_getf fX1_32 dX1_refresh_42 CU0 rfl ?_
      refine w_iload_n dX1_refresh_45 rfl rfl ?_
      refine w_iconst dX1_refresh_46 ?_
      refine w_iadd dX1_refresh_47 ?_
      refine w_aload_n dX1_refresh_48 rfl rfl ?_
      refine w_getf fX1_32 dX1_refresh_49 CU0 rfl ?_
      refine w_iload_n dX1_refresh_52 rfl rfl ?_
      refine w_iald i CU11 rfl (by omega) (by decide) dX1_refresh_53 ?_
      rw [u1_n (show (11 : Nat) ≠ 10 by decide)]
      refine w_iload_n dX1_refresh_54 rfl rfl ?_
      refine w_iorR dX1_refresh_55 ?_
      rw [← zI_of (zI (g 11 i) ||| zI (f10 (p i)))]
      refine cu_ist11 (i + 1) (by omega) (by omega) dX1_refresh_56 ?_
      refine w_iinc (lv' := [_, _, _, _]) dX1_refresh_57 rfl rfl rfl ?_
      refine w_goto 2 dX1_refresh_60 (by decide) ?_
      have := ih hik (u1 (u1 g 10 (u1 (g 10) (i + 1) (zI (g 10 i) ^^^ zI (f10 (p i))).toInt)) 11 (u1 (g 11) (i + 1) (zI (g 11 i) ||| zI (f10 (p i))).toInt)) (.int (zI (f10 (p i)))) g8 g9 ((u1_n (f := g 10) (v := (zI (g 10 i) ^^^ zI (f10 (p i))).toInt) (show (0 : Nat) ≠ i + 1 by omega)).trans g10) ((u1_n (f := g 11) (v := (zI (g 11 i) ||| zI (f10 (p i))).toInt) (show (0 : Nat) ≠ i + 1 by omega)).trans g11)
      push_cast at this
      exact this
  refine w_iload_n dX1_refresh_0 rfl rfl ?_
  refine w_istore_n (lv' := [_, _, _, _]) dX1_refresh_1 rfl (Nat.le_of_ble_eq_true rfl) rfl rfl ?_
  exact lp 0 (Nat.zero_le _) ba _ rfl rfl rfl rfl

