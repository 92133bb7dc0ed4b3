/-! load -/
def TXO (T : Nat → Int) (n : Nat) : Prop := (∀ i, i < 4 → ∀ k, k < 32 → -1 ≤ T (37 * i + 5 + k) ∧ T (37 * i + 5 + k) ≤ 5) ∧ ∀ i, i < n → (1 ≤ T (37 * i) ∧ T (37 * i) ≤ 6) ∧ (1 ≤ T (37 * i + 1) ∧ T (37 * i + 1) ≤ 4) ∧ (1 ≤ T (37 * i + 2) ∧ T (37 * i + 2) ≤ 8) ∧ (0 ≤ T (37 * i + 3) ∧ T (37 * i + 3) ≤ 9) ∧ 1 ≤ T (37 * i + 4) ∧ T (37 * i + 4) ≤ 31
def ldA (A T : Nat → Int) (t : Nat) : Nat → Int := fillR (fillR (kpA A) 3 5 (fun k => T (37 * t + k))) 14 32 (fun k => T (37 * t + 5 + k))
theorem ldA_ok {A T : Nat → Int} {n t : Nat} (hI : INV A) (h2 : A 2 < 20) (hX : TXO T n) (ht : t < n) (hn : n ≤ 4) : INV (ldA A T t) ∧ VC (ldA A T t) (T (37 * t)).toNat (T (37 * t + 1)).toNat (T (37 * t + 2)).toNat ∧ ldA A T t 2 < 20 := by
  obtain ⟨x1, x2⟩ := hX
  obtain ⟨y1, y2, y3, y4, y5⟩ := x2 t ht
  obtain ⟨k1, k2⟩ := kpA_i hI h2
  refine ⟨?_, ?_, ?_⟩
  · refine INV.fill (INV.fill k1 (fun i hi => ?_)) (fun i hi => ?_)
    · rcases (show i = 0 ∨ i = 1 ∨ i = 2 ∨ i = 3 ∨ i = 4 by omega) with rfl | rfl | rfl | rfl | rfl
      · exact y1
      · exact y2
      · exact y3
      · exact y4
      · exact y5
    · rw [loH hi, hiH hi]
      exact x1 t (by omega) i hi
  · have e : ∀ i, i < 5 → ldA A T t (3 + i) = T (37 * t + i) := fun i hi => by
      unfold ldA
      rw [fillR_n (by omega), fillR_i hi]
    have e0 := e 0 (by omega)
    have e1 := e 1 (by omega)
    have e2 := e 2 (by omega)
    refine ⟨e0.trans (by show T (37 * t) = _; omega), e1.trans (by omega), e2.trans (by omega), by omega, by omega, by omega, fun k hk => ?_⟩
    have e3 : ldA A T t (14 + k) = T (37 * t + 5 + k) := fillR_i hk
    rw [e3]
    exact x1 t (by omega) k hk
  · unfold ldA
    rw [fillR_n (by omega), fillR_n (by omega)]
    exact k2
set_option maxRecDepth 4000 in
theorem c_load {r : Nat} {A : Nat → Int} {ia : Nat → Nat → Int} {la : Nat → Nat → BitVec 64} {fi : Nat → Int} {fl : Nat → BitVec 64} {h0 : HP} {L R C : Nat} {z : Int} (hT : TOP A L R C) (hz : ok32 z) (hX : TXO (ia 3) (A 0).toNat) (h04 : A 0 ≤ 4) : sp mX10_load [.ref r, .int (zI z)] (RH r A ia la fi fl h0) 0 0 (pr (some (.int (zI (if 0 ≤ z ∧ z ≤ A 0 - 1 then ia 3 (37 * z.toNat) * ia 3 (37 * z.toNat + 2) else -1)))) r (if 0 ≤ z ∧ z ≤ A 0 - 1 then cmA (ldA A (ia 3) z.toNat) (ia 3 (37 * z.toNat)).toNat (ia 3 (37 * z.toNat + 1)).toNat (ia 3 (37 * z.toNat + 2)).toNat else A) ia fi h0) := by
  obtain ⟨hI, hV, hS, h2⟩ := id hT
  obtain ⟨v1, v2, v3, v4, v5, v6, v7⟩ := id hV
  have h1 : 0 ≤ A 1 ∧ A 1 ≤ 20 := hI 1
  have h20 : 0 ≤ A 2 ∧ A 2 ≤ 20 := hI 2
  have hLCn := mulLe (a := L) (b := C) (x := 6) (y := 8) (by omega) (by omega)
  have hLRn := mulLe (a := L) (b := R) (x := 6) (y := 4) (by omega) (by omega)
  have hLC : (L : Int) * C ≤ 48 := by exact_mod_cast hLCn
  have hLC0 : (0 : Int) ≤ (L : Int) * C := by exact_mod_cast Nat.zero_le (L * C)
  have hLR : (L : Int) * R ≤ 24 := by exact_mod_cast hLRn
  have hLR0 : (0 : Int) ≤ (L : Int) * R := by exact_mod_cast Nat.zero_le (L * R)
  have h00 : 0 ≤ A 0 ∧ A 0 ≤ 20 := hI 0
  refine sp_wp rfl (lv := [_, _, _, _]) rfl (Nat.le_of_ble_eq_true rfl) ?_
  refine w_iload_n dX10_load_0 rfl rfl ?_
  refine w_iconst dX10_load_1 ?_
  refine w_aload_n dX10_load_2 rfl rfl ?_
  refine w_getf fX10_7 dX10_load_3 RH0 rfl ?_
  refine w_iconst dX10_load_6 ?_
  refine w_iald 0 RH1 rfl (by decide) (by decide) dX10_load_7 ?_
  refine w_iconst dX10_load_8 ?_
  refine w_isub dX10_load_9 ?_
  refine wc_S (Z := mX10_isIn) (As := [_, _, _]) (c_isIn hz (by unfold ok32; omega) (by unfold ok32; omega)) kX10_isIn lX10_70 sX10_isIn dX10_load_10 rfl rfl rfl (Nat.le_of_ble_eq_true rfl) ⟨Nat.le_of_ble_eq_true rfl, Nat.le_of_ble_eq_true rfl⟩ ?_
  refine w_ifb_ne 18 dX10_load_13 (by decide) (fun hc => ?_) (fun hc => ?_)
  rotate_left
  · refine w_iconst dX10_load_16 ?_
    refine x_iret rfl rfl dX10_load_17 (pr_end ?_ ?_ rfl rfl rfl rfl rfl rfl)
    · rw [if_neg hc]
    · rw [if_neg hc]
  · rw [if_pos hc, if_pos hc]
    obtain ⟨t, ht⟩ : ∃ t : Nat, z = (t : Int) := ⟨z.toNat, by omega⟩
    subst ht
    rw [Int.toNat_natCast]
    obtain ⟨d1, d2, d3⟩ := ldA_ok (t := t) hI h2 hX (by omega) (by omega)
    obtain ⟨y1, y2, y3, y4, y5⟩ := hX.2 t (by omega)
    refine w_aload_n dX10_load_18 rfl rfl ?_
    refine wc_Vv (Z := mX10_keep) (As := []) (c_keep h1 ⟨h20.1, h2⟩) RH0 rfl kX10_keep lX10_215 iX10_keep vX10_keep dX10_load_19 rfl rfl rfl (Nat.le_of_ble_eq_true rfl) ⟨Nat.le_of_ble_eq_true rfl, Nat.le_of_ble_eq_true rfl⟩ ?_
    refine w_bipush dX10_load_22 (by decide) ?_
    refine w_iload_n dX10_load_24 rfl rfl ?_
    refine w_imul dX10_load_25 ?_
    refine w_istore_n (lv' := [_, _, _, _]) dX10_load_26 rfl (Nat.le_of_ble_eq_true rfl) rfl rfl ?_
    refine w_iconst dX10_load_27 ?_
    refine w_istore_n (lv' := [_, _, _, _]) dX10_load_28 rfl (Nat.le_of_ble_eq_true rfl) rfl rfl ?_
    have two : ∀ k : Nat, k ≤ 32 → wp mX10_load 58 [.ref r, .int (zI (t : Int)), .int (zI (37 * (t : Int))), .int (zI (k : Int))] [] (RH r (fillR (fillR (kpA A) 3 5 (fun k => ia 3 (37 * t + k))) 14 k (fun k => ia 3 (37 * t + 5 + k))) ia la fi fl h0) 0 0 (pr (some (.int (zI (ia 3 (37 * t) * ia 3 (37 * t + 2))))) r (cmA (ldA A (ia 3) t) (ia 3 (37 * t)).toNat (ia 3 (37 * t + 1)).toNat (ia 3 (37 * t + 2)).toNat) ia fi h0) := by
      refine up_ind (N := 32) (fun k hk ih => ?_)
      refine w_iload_n dX10_load_58 rfl rfl ?_
      refine w_bipush dX10_load_59 (by decide) ?_
      refine w_icmp_ge 89 dX10_load_61 (by decide) (by unfold ok32; omega) (by unfold ok32; omega) (fun hn => ?_) (fun hn => ?_)
      · have ek : k = 32 := by omega
        subst ek
        refine w_aload_n dX10_load_89 rfl rfl ?_
        refine wc_Vv (Z := mX10_come) (As := []) (c_come d2 d1.ok) RH0 rfl kX10_come lX10_218 iX10_come vX10_come dX10_load_90 rfl rfl rfl (Nat.le_of_ble_eq_true rfl) ⟨Nat.le_of_ble_eq_true rfl, Nat.le_of_ble_eq_true rfl⟩ ?_
        refine w_aload_n dX10_load_93 rfl rfl ?_
        refine wc_V (Z := mX10_bits) (As := []) c_bits RH0 rfl kX10_bits lX10_66 iX10_bits vX10_bits dX10_load_94 rfl rfl rfl (Nat.le_of_ble_eq_true rfl) ⟨Nat.le_of_ble_eq_true rfl, Nat.le_of_ble_eq_true rfl⟩ ?_
        refine x_iret rfl rfl dX10_load_97 (pr_end ?_ ?_ rfl rfl rfl rfl rfl rfl)
        · obtain ⟨q1, q2, q3, -⟩ := (cmA_top d1 d2 d3).2.1
          unfold ldA at q1 q3
          rw [q1, q3, Int.toNat_of_nonneg (by omega), Int.toNat_of_nonneg (by omega)]
        · rfl
      · refine w_aload_n dX10_load_64 rfl rfl ?_
        refine w_getf fX10_7 dX10_load_65 RH0 rfl ?_
        refine w_bipush dX10_load_68 (by decide) ?_
        refine w_iload_n dX10_load_70 rfl rfl ?_
        refine w_iadd dX10_load_71 ?_
        refine w_aload_n dX10_load_72 rfl rfl ?_
        refine w_getf fX10_16 dX10_load_73 RH0 rfl ?_
        refine w_iload_n dX10_load_76 rfl rfl ?_
        refine w_iconst dX10_load_77 ?_
        refine w_iadd dX10_load_78 ?_
        refine w_iload_n dX10_load_79 rfl rfl ?_
        refine w_iadd dX10_load_80 ?_
        refine w_iald (37 * t + 5 + k) RH3 (by omega) (by omega) (by decide) dX10_load_81 ?_
        refine r_ist1K (14 + k) (by omega) (by omega) dX10_load_82 ?_
        rw [fillR_s rfl]
        refine w_iinc (lv' := [_, _, _, _]) dX10_load_83 rfl rfl rfl ?_
        refine w_goto 58 dX10_load_86 (by decide) ?_
        exact ih (by omega)
    have one : ∀ k : Nat, k ≤ 5 → wp mX10_load 29 [.ref r, .int (zI (t : Int)), .int (zI (37 * (t : Int))), .int (zI (k : Int))] [] (RH r (fillR (kpA A) 3 k (fun k => ia 3 (37 * t + k))) ia la fi fl h0) 0 0 (pr (some (.int (zI (ia 3 (37 * t) * ia 3 (37 * t + 2))))) r (cmA (ldA A (ia 3) t) (ia 3 (37 * t)).toNat (ia 3 (37 * t + 1)).toNat (ia 3 (37 * t + 2)).toNat) ia fi h0) := by
      refine up_ind (N := 5) (fun k hk ih => ?_)
      refine w_iload_n dX10_load_29 rfl rfl ?_
      refine w_iconst dX10_load_30 ?_
      refine w_icmp_ge 56 dX10_load_31 (by decide) (by unfold ok32; omega) (by unfold ok32; omega) (fun hn => ?_) (fun hn => ?_)
      · have ek : k = 5 := by omega
        subst ek
        refine w_iconst dX10_load_56 ?_
        refine w_istore_n (lv' := [_, _, _, _]) dX10_load_57 rfl (Nat.le_of_ble_eq_true rfl) rfl rfl ?_
        have h5 := two 0 (Nat.zero_le _)
        rw [fillR_0] at h5
        exact h5
      · refine w_aload_n dX10_load_34 rfl rfl ?_
        refine w_getf fX10_7 dX10_load_35 RH0 rfl ?_
        refine w_iconst dX10_load_38 ?_
        refine w_iload_n dX10_load_39 rfl rfl ?_
        refine w_iadd dX10_load_40 ?_
        refine w_aload_n dX10_load_41 rfl rfl ?_
        refine w_getf fX10_16 dX10_load_42 RH0 rfl ?_
        refine w_iload_n dX10_load_45 rfl rfl ?_
        refine w_iload_n dX10_load_46 rfl rfl ?_
        refine w_iadd dX10_load_47 ?_
        refine w_iald (37 * t + k) RH3 (by omega) (by omega) (by decide) dX10_load_48 ?_
        refine r_ist1K (3 + k) (by omega) (by omega) dX10_load_49 ?_
        rw [fillR_s rfl]
        refine w_iinc (lv' := [_, _, _, _]) dX10_load_50 rfl rfl rfl ?_
        refine w_goto 29 dX10_load_53 (by decide) ?_
        exact ih (by omega)
    have h6 := one 0 (Nat.zero_le _)
    rw [fillR_0] at h6
    exact h6

