/-! by all words -/
def waV (n k : Nat) : Int := if 12 < n - k then -1 else ((2 ^ (n - k) : Nat) : Int)
theorem sh12 {d : Nat} (h : d ≤ 12) : zI 1 <<< (zI (d : Int) &&& 31) = zI ((2 ^ d : Nat) : Int) := by
  have key : ∀ d : Nat, d < 13 → zI 1 <<< (zI (d : Int) &&& 31) = zI ((2 ^ d : Nat) : Int) := by decide +kernel
  exact key d (by omega)
theorem p12 {d : Nat} (h : d ≤ 12) : 1 ≤ 2 ^ d ∧ 2 ^ d ≤ 4096 := by
  have key : ∀ d : Nat, d < 13 → 1 ≤ 2 ^ d ∧ 2 ^ d ≤ 4096 := by decide +kernel
  exact key d (by omega)
def X0 (A : Nat → Int) (la : Nat → Nat → BitVec 64) (L R C : Nat) : EL := lsR A (la 6) L R C
def waH (r : Nat) (A : Nat → Int) (ia : Nat → Nat → Int) (la : Nat → Nat → BitVec 64) (fi : Nat → Int) (fl : Nat → BitVec 64) (h0 : HP) (X : EL) : HP := RH r A ia (u1 la 6 X.1) (u1 fi 17 ((X.2.2 : Nat) : Int)) (u1 fl 16 X.2.1) h0
theorem c_wordsAll {r : Nat} {A : Nat → Int} {ia : Nat → Nat → Int} {la : Nat → Nat → BitVec 64} {fi : Nat → Int} {fl : Nat → BitVec 64} {h0 : HP} {L R C : Nat} (hV : VC A L R C) : sp mX10_wordsAll [.ref r] (RH r A ia la fi fl h0) 0 0 (pd (some (.int (zI (waV (L * C) (lsR A (la 6) L R C).2.2)))) (waH r A ia la fi fl h0 (lsR A (la 6) L R C))) := by
  obtain ⟨v1, v2, v3, v4, v5, v6, v7⟩ := id hV
  have hLCn := mulLe (a := L) (b := C) (x := 6) (y := 8) (by omega) (by omega)
  have hLC : (L : Int) * C = ((L * C : Nat) : Int) := by push_cast; rfl
  obtain ⟨x1, x2, x3⟩ := lsR_inv (q := la 6) hV
  refine sp_wp rfl (lv := [_]) rfl (Nat.le_of_ble_eq_true rfl) ?_
  refine w_aload_n dX10_wordsAll_0 rfl rfl ?_
  refine wc_Vv (Z := mX10_laySums) (As := []) (c_laySums hV) RH0 rfl kX10_laySums lX10_227 iX10_laySums vX10_laySums dX10_wordsAll_1 rfl rfl rfl (Nat.le_of_ble_eq_true rfl) ⟨Nat.le_of_ble_eq_true rfl, Nat.le_of_ble_eq_true rfl⟩ ?_
  generalize lsR A (la 6) L R C = X at *
  refine w_aload_n dX10_wordsAll_4 rfl rfl ?_
  refine wc_V (Z := mX10_bits) (As := []) c_bits RH0 rfl kX10_bits lX10_66 iX10_bits vX10_bits dX10_wordsAll_5 rfl rfl rfl (Nat.le_of_ble_eq_true rfl) ⟨Nat.le_of_ble_eq_true rfl, Nat.le_of_ble_eq_true rfl⟩ ?_
  rw [v1, v3, hLC]
  refine w_aload_n dX10_wordsAll_8 rfl rfl ?_
  refine w_getf fX10_205 dX10_wordsAll_9 RH0 rfl ?_
  rw [u1_s]
  refine w_isub dX10_wordsAll_12 ?_
  refine w_bipush dX10_wordsAll_13 (by decide) ?_
  refine w_icmp_le 22 dX10_wordsAll_15 (by decide) (by first | assumption | (unfold ok32 at *; omega)) (by first | assumption | (unfold ok32 at *; omega)) (fun hc => ?_) (fun hc => ?_)
  · refine w_iconst dX10_wordsAll_22 ?_
    refine w_aload_n dX10_wordsAll_23 rfl rfl ?_
    refine wc_V (Z := mX10_bits) (As := []) c_bits RH0 rfl kX10_bits lX10_66 iX10_bits vX10_bits dX10_wordsAll_24 rfl rfl rfl (Nat.le_of_ble_eq_true rfl) ⟨Nat.le_of_ble_eq_true rfl, Nat.le_of_ble_eq_true rfl⟩ ?_
    rw [v1, v3, hLC]
    refine w_aload_n dX10_wordsAll_27 rfl rfl ?_
    refine w_getf fX10_205 dX10_wordsAll_28 RH0 rfl ?_
    rw [u1_s]
    refine w_isub dX10_wordsAll_31 ?_
    refine w_ishlR dX10_wordsAll_32 ?_
    rw [show ((L * C : Nat) : Int) - ((X.2.2 : Nat) : Int) = ((L * C - X.2.2 : Nat) : Int) by omega, sh12 (by omega)]
    refine x_iret rfl rfl dX10_wordsAll_33 ⟨?_, rfl⟩
    unfold waV
    rw [if_neg (by omega)]
  · refine w_iconst dX10_wordsAll_18 ?_
    refine w_goto 33 dX10_wordsAll_19 (by decide) ?_
    refine x_iret rfl rfl dX10_wordsAll_33 ⟨?_, rfl⟩
    unfold waV
    rw [if_pos (by omega)]
def wdK (X : EL) (n k : Nat) : BitVec 64 := wordX X n (BitVec.ofInt 64 (k : Int))
def lgN (f : Nat → Nat) : Nat → Int
  | 0 => -1
  | j + 1 => if lgN f j = -1 ∨ (f (j + 1) : Int) < lgN f j then (f (j + 1) : Int) else lgN f j
theorem lgN_rng {f : Nat → Nat} (hf : ∀ j, f j ≤ 64) : ∀ {j : Nat}, -1 ≤ lgN f j ∧ lgN f j ≤ 64
  | 0 => by unfold lgN; omega
  | j + 1 => by
    have ih := lgN_rng hf (j := j)
    have := hf (j + 1)
    unfold lgN
    split <;> omega
set_option maxRecDepth 4000 in
theorem c_lightest {r : Nat} {A : Nat → Int} {ia : Nat → Nat → Int} {la : Nat → Nat → BitVec 64} {fi : Nat → Int} {fl : Nat → BitVec 64} {h0 : HP} {L R C : Nat} (hT : TOP A L R C) : sp mX10_lightest [.ref r] (RH r A ia la fi fl h0) 0 0 (pr (some (.int (zI (lgN (fun k => pop (wdK (lsR A (la 6) L R C) (L * C) k)) ((waV (L * C) (lsR A (la 6) L R C).2.2).toNat - 1))))) r A ia fi h0) := by
  obtain ⟨hI, hV, hS, h2⟩ := id hT
  obtain ⟨v1, v2, v3, v4, v5, v6, v7⟩ := id hV
  have h1 : 0 ≤ A 1 ∧ A 1 ≤ 20 := hI 1
  have h20 : 0 ≤ A 2 ∧ A 2 ≤ 20 := hI 2
  have hLCn := mulLe (a := L) (b := C) (x := 6) (y := 8) (by omega) (by omega)
  have hLRn := mulLe (a := L) (b := R) (x := 6) (y := 4) (by omega) (by omega)
  have hLC : (L : Int) * C ≤ 48 := by exact_mod_cast hLCn
  have hLC0 : (0 : Int) ≤ (L : Int) * C := by exact_mod_cast Nat.zero_le (L * C)
  have hLR : (L : Int) * R ≤ 24 := by exact_mod_cast hLRn
  have hLR0 : (0 : Int) ≤ (L : Int) * R := by exact_mod_cast Nat.zero_le (L * R)
  obtain ⟨x1, x2, x3⟩ := lsR_inv (q := la 6) hV
  refine sp_wp rfl (lv := [_, _, _, _, _]) rfl (Nat.le_of_ble_eq_true rfl) ?_
  refine w_aload_n dX10_lightest_0 rfl rfl ?_
  refine wc_V (Z := mX10_wordsAll) (As := []) (c_wordsAll hV) RH0 rfl kX10_wordsAll lX10_334 iX10_wordsAll vX10_wordsAll dX10_lightest_1 rfl rfl rfl (Nat.le_of_ble_eq_true rfl) ⟨Nat.le_of_ble_eq_true rfl, Nat.le_of_ble_eq_true rfl⟩ ?_
  generalize lsR A (la 6) L R C = X at *
  have hw : waV (L * C) X.2.2 = -1 ∨ ∃ N : Nat, 1 ≤ N ∧ N ≤ 4096 ∧ waV (L * C) X.2.2 = (N : Int) := by
    unfold waV
    by_cases h : 12 < L * C - X.2.2
    · rw [if_pos h]; exact Or.inl rfl
    · rw [if_neg h]; exact Or.inr ⟨_, (p12 (d := L * C - X.2.2) (by omega)).1, (p12 (d := L * C - X.2.2) (by omega)).2, rfl⟩
  unfold waH
  refine w_istore_n (lv' := [_, _, _, _, _]) dX10_lightest_4 rfl (Nat.le_of_ble_eq_true rfl) rfl rfl ?_
  refine w_iconst dX10_lightest_5 ?_
  refine w_istore_n (lv' := [_, _, _, _, _]) dX10_lightest_6 rfl (Nat.le_of_ble_eq_true rfl) rfl rfl ?_
  refine w_iconst dX10_lightest_7 ?_
  refine w_istore_n (lv' := [_, _, _, _, _]) dX10_lightest_8 rfl (Nat.le_of_ble_eq_true rfl) rfl rfl ?_
  rcases hw with hw | ⟨N, n1, n2, hw⟩
  · rw [hw]
    refine w_iload_n dX10_lightest_9 rfl rfl ?_
    refine w_iload_n dX10_lightest_10 rfl rfl ?_
    refine w_icmp_ge 45 dX10_lightest_11 (by decide) (by first | assumption | (unfold ok32 at *; omega)) (by first | assumption | (unfold ok32 at *; omega)) (fun hn => ?_) (fun hn => ?_)
    · refine w_iload_n dX10_lightest_45 rfl rfl ?_
      refine x_iret rfl rfl dX10_lightest_46 (pr_end ?_ rfl rfl rfl rfl rfl rfl rfl)
      rfl
    · omega
  · rw [hw]
    have key : ∀ j : Nat, j ≤ N - 1 → ∀ x4 : Value, wp mX10_lightest 9 [.ref r, .int (zI (N : Int)), .int (zI (lgN (fun k => pop (wdK X (L * C) k)) j)), .int (zI ((j + 1 : Nat) : Int)), x4] [] (RH r A ia (u1 la 6 X.1) (u1 fi 17 ((X.2.2 : Nat) : Int)) (u1 fl 16 X.2.1) h0) 0 0 (pr (some (.int (zI (lgN (fun k => pop (wdK X (L * C) k)) (N - 1))))) r A ia fi h0) := by
      refine up_ind (N := N - 1) (fun j hj ih => ?_)
      intro x4
      have hr := lgN_rng (f := fun k => pop (wdK X (L * C) k)) (fun j => pop_le _) (j := j)
      refine w_iload_n dX10_lightest_9 rfl rfl ?_
      refine w_iload_n dX10_lightest_10 rfl rfl ?_
      refine w_icmp_ge 45 dX10_lightest_11 (by decide) (by first | assumption | (unfold ok32 at *; omega)) (by first | assumption | (unfold ok32 at *; omega)) (fun hn => ?_) (fun hn => ?_)
      · refine w_iload_n dX10_lightest_45 rfl rfl ?_
        refine x_iret rfl rfl dX10_lightest_46 (pr_end ?_ rfl rfl rfl rfl rfl rfl rfl)
        rw [show j = N - 1 by omega]
      · refine w_aload_n dX10_lightest_14 rfl rfl ?_
        refine w_iload_n dX10_lightest_15 rfl rfl ?_
        refine w_i2l (by first | assumption | (unfold ok32 at *; omega)) dX10_lightest_16 ?_
        refine wc_V (Z := mX10_wordBy) (As := [_]) (c_wordBy hV x1 x2 u1_s u1_s u1_s) RH0 rfl kX10_wordBy lX10_230 iX10_wordBy vX10_wordBy dX10_lightest_17 rfl rfl rfl (Nat.le_of_ble_eq_true rfl) ⟨Nat.le_of_ble_eq_true rfl, Nat.le_of_ble_eq_true rfl⟩ ?_
        refine wc_S (Z := mX10_many) (As := [_]) c_many kX10_many lX10_87 sX10_many dX10_lightest_20 rfl rfl rfl (Nat.le_of_ble_eq_true rfl) ⟨Nat.le_of_ble_eq_true rfl, Nat.le_of_ble_eq_true rfl⟩ ?_
        have hp := pop_le (wdK X (L * C) (j + 1))
        refine w_istore (lv' := [_, _, _, _, _]) dX10_lightest_23 (Nat.le_of_ble_eq_true rfl) rfl rfl ?_
        have step : wp mX10_lightest 39 [.ref r, .int (zI (N : Int)), .int (zI (lgN (fun k => pop (wdK X (L * C) k)) (j + 1))), .int (zI ((j + 1 : Nat) : Int)), .int (zI ((pop (wdK X (L * C) (j + 1)) : Nat) : Int))] [] (RH r A ia (u1 la 6 X.1) (u1 fi 17 ((X.2.2 : Nat) : Int)) (u1 fl 16 X.2.1) h0) 0 0 (pr (some (.int (zI (lgN (fun k => pop (wdK X (L * C) k)) (N - 1))))) r A ia fi h0) := by
          refine w_iinc (lv' := [_, _, _, _, _]) dX10_lightest_39 rfl rfl rfl ?_
          refine w_goto 9 dX10_lightest_42 (by decide) ?_
          exact ih (by omega) _
        refine w_iload_n dX10_lightest_25 rfl rfl ?_
        refine w_iconst dX10_lightest_26 ?_
        refine w_icmp_eq 36 dX10_lightest_27 (by decide) (by first | assumption | (unfold ok32 at *; omega)) (by first | assumption | (unfold ok32 at *; omega)) (fun h5 => ?_) (fun h5 => ?_)
        · rw [lgN, if_pos (Or.inl h5)] at step
          refine w_iload dX10_lightest_36 rfl ?_
          refine w_istore_n (lv' := [_, _, _, _, _]) dX10_lightest_38 rfl (Nat.le_of_ble_eq_true rfl) rfl rfl ?_
          exact step
        · refine w_iload dX10_lightest_30 rfl ?_
          refine w_iload_n dX10_lightest_32 rfl rfl ?_
          have hp2 : pop (wordX X (L * C) (BitVec.ofInt 64 ((j + 1 : Nat) : Int))) ≤ 64 := hp
          refine w_icmp_ge 39 dX10_lightest_33 (by decide) (by first | assumption | (unfold ok32 at *; omega)) (by first | assumption | (unfold ok32 at *; omega)) (fun h6 => ?_) (fun h6 => ?_)
          · rw [lgN, if_neg (fun q => q.elim h5 (fun q => absurd q (Int.not_lt.mpr h6)))] at step
            exact step
          · rw [lgN, if_pos (Or.inr (show ((pop (wdK X (L * C) (j + 1)) : Nat) : Int) < lgN (fun k => pop (wdK X (L * C) k)) j from Int.not_le.mp h6))] at step
            refine w_iload dX10_lightest_36 rfl ?_
            refine w_istore_n (lv' := [_, _, _, _, _]) dX10_lightest_38 rfl (Nat.le_of_ble_eq_true rfl) rfl rfl ?_
            exact step
    exact key 0 (Nat.zero_le _) jk
def spN (f : Nat → Nat) (z : Int) : Nat → Nat
  | 0 => 0
  | k + 1 => spN f z k + if (f k : Int) = z then 1 else 0
set_option maxRecDepth 4000 in
theorem c_spectrum {r : Nat} {A : Nat → Int} {ia : Nat → Nat → Int} {la : Nat → Nat → BitVec 64} {fi : Nat → Int} {fl : Nat → BitVec 64} {h0 : HP} {L R C : Nat} {z : Int} (hT : TOP A L R C) (hz : ok32 z) : sp mX10_spectrum [.ref r, .int (zI z)] (RH r A ia la fi fl h0) 0 0 (pr (some (.int (zI (if waV (L * C) (lsR A (la 6) L R C).2.2 = -1 ∨ z < 0 then -1 else ((spN (fun k => pop (wdK (lsR A (la 6) L R C) (L * C) k)) z (waV (L * C) (lsR A (la 6) L R C).2.2).toNat : Nat) : Int))))) r A ia fi h0) := by
  obtain ⟨hI, hV, hS, h2⟩ := id hT
  obtain ⟨v1, v2, v3, v4, v5, v6, v7⟩ := id hV
  have h1 : 0 ≤ A 1 ∧ A 1 ≤ 20 := hI 1
  have h20 : 0 ≤ A 2 ∧ A 2 ≤ 20 := hI 2
  have hLCn := mulLe (a := L) (b := C) (x := 6) (y := 8) (by omega) (by omega)
  have hLRn := mulLe (a := L) (b := R) (x := 6) (y := 4) (by omega) (by omega)
  have hLC : (L : Int) * C ≤ 48 := by exact_mod_cast hLCn
  have hLC0 : (0 : Int) ≤ (L : Int) * C := by exact_mod_cast Nat.zero_le (L * C)
  have hLR : (L : Int) * R ≤ 24 := by exact_mod_cast hLRn
  have hLR0 : (0 : Int) ≤ (L : Int) * R := by exact_mod_cast Nat.zero_le (L * R)
  obtain ⟨x1, x2, x3⟩ := lsR_inv (q := la 6) hV
  refine sp_wp rfl (lv := [_, _, _, _, _]) rfl (Nat.le_of_ble_eq_true rfl) ?_
  refine w_aload_n dX10_spectrum_0 rfl rfl ?_
  refine wc_V (Z := mX10_wordsAll) (As := []) (c_wordsAll hV) RH0 rfl kX10_wordsAll lX10_334 iX10_wordsAll vX10_wordsAll dX10_spectrum_1 rfl rfl rfl (Nat.le_of_ble_eq_true rfl) ⟨Nat.le_of_ble_eq_true rfl, Nat.le_of_ble_eq_true rfl⟩ ?_
  generalize lsR A (la 6) L R C = X at *
  have hw : waV (L * C) X.2.2 = -1 ∨ ∃ N : Nat, 1 ≤ N ∧ N ≤ 4096 ∧ waV (L * C) X.2.2 = (N : Int) := by
    unfold waV
    by_cases h : 12 < L * C - X.2.2
    · rw [if_pos h]; exact Or.inl rfl
    · rw [if_neg h]; exact Or.inr ⟨_, (p12 (d := L * C - X.2.2) (by omega)).1, (p12 (d := L * C - X.2.2) (by omega)).2, rfl⟩
  unfold waH
  refine w_istore_n (lv' := [_, _, _, _, _]) dX10_spectrum_4 rfl (Nat.le_of_ble_eq_true rfl) rfl rfl ?_
  refine w_iload_n dX10_spectrum_5 rfl rfl ?_
  refine w_iconst dX10_spectrum_6 ?_
  rcases hw with hw | ⟨N, n1, n2, hw⟩
  · rw [hw]
    refine w_icmp_eq 14 dX10_spectrum_7 (by decide) (by first | assumption | (unfold ok32 at *; omega)) (by first | assumption | (unfold ok32 at *; omega)) (fun hn => ?_) (fun hn => ?_)
    · refine w_iconst dX10_spectrum_14 ?_
      refine x_iret rfl rfl dX10_spectrum_15 (pr_end ?_ rfl rfl rfl rfl rfl rfl rfl)
      rw [if_pos (Or.inl rfl)]
    · exact absurd rfl hn
  · rw [hw]
    refine w_icmp_eq 14 dX10_spectrum_7 (by decide) (by first | assumption | (unfold ok32 at *; omega)) (by first | assumption | (unfold ok32 at *; omega)) (fun hn => ?_) (fun hn => ?_)
    · omega
    · refine w_iload_n dX10_spectrum_10 rfl rfl ?_
      refine w_if_ge 16 dX10_spectrum_11 (by decide) (by first | assumption | (unfold ok32 at *; omega)) (fun hz0 => ?_) (fun hz0 => ?_)
      rotate_left
      · refine w_iconst dX10_spectrum_14 ?_
        refine x_iret rfl rfl dX10_spectrum_15 (pr_end ?_ rfl rfl rfl rfl rfl rfl rfl)
        rw [if_pos (Or.inr (by omega))]
      · rw [if_neg (fun q => q.elim (by omega) (by omega)), Int.toNat_natCast]
        refine w_iconst dX10_spectrum_16 ?_
        refine w_istore_n (lv' := [_, _, _, _, _]) dX10_spectrum_17 rfl (Nat.le_of_ble_eq_true rfl) rfl rfl ?_
        refine w_iconst dX10_spectrum_18 ?_
        refine w_istore (lv' := [_, _, _, _, _]) dX10_spectrum_19 (Nat.le_of_ble_eq_true rfl) rfl rfl ?_
        refine up_ind (N := N) (P := fun k => wp mX10_spectrum 21 [.ref r, .int (zI z), .int (zI (N : Int)), .int (zI ((spN (fun k => pop (wdK X (L * C) k)) z k : Nat) : Int)), .int (zI (k : Int))] [] (RH r A ia (u1 la 6 X.1) (u1 fi 17 ((X.2.2 : Nat) : Int)) (u1 fl 16 X.2.1) h0) 0 0 (pr (some (.int (zI (((spN (fun k => pop (wdK X (L * C) k)) z N : Nat) : Int))))) r A ia fi h0)) (fun k hk ih => ?_) 0 (Nat.zero_le _)
        refine w_iload dX10_spectrum_21 rfl ?_
        refine w_iload_n dX10_spectrum_23 rfl rfl ?_
        refine w_icmp_ge 55 dX10_spectrum_24 (by decide) (by first | assumption | (unfold ok32 at *; omega)) (by first | assumption | (unfold ok32 at *; omega)) (fun hn2 => ?_) (fun hn2 => ?_)
        · refine w_iload_n dX10_spectrum_55 rfl rfl ?_
          refine x_iret rfl rfl dX10_spectrum_56 (pr_end ?_ rfl rfl rfl rfl rfl rfl rfl)
          rw [show k = N by omega]
        · have hp := pop_le (wdK X (L * C) k)
          refine w_iload_n dX10_spectrum_27 rfl rfl ?_
          refine w_aload_n dX10_spectrum_28 rfl rfl ?_
          refine w_iload dX10_spectrum_29 rfl ?_
          refine w_i2l (by first | assumption | (unfold ok32 at *; omega)) dX10_spectrum_31 ?_
          refine wc_V (Z := mX10_wordBy) (As := [_]) (c_wordBy hV x1 x2 u1_s u1_s u1_s) RH0 rfl kX10_wordBy lX10_230 iX10_wordBy vX10_wordBy dX10_spectrum_32 rfl rfl rfl (Nat.le_of_ble_eq_true rfl) ⟨Nat.le_of_ble_eq_true rfl, Nat.le_of_ble_eq_true rfl⟩ ?_
          refine wc_S (Z := mX10_many) (As := [_]) c_many kX10_many lX10_87 sX10_many dX10_spectrum_35 rfl rfl rfl (Nat.le_of_ble_eq_true rfl) ⟨Nat.le_of_ble_eq_true rfl, Nat.le_of_ble_eq_true rfl⟩ ?_
          have hp2 : pop (wordX X (L * C) (BitVec.ofInt 64 (k : Int))) ≤ 64 := hp
          have h5 := ih (by omega)
          rw [spN] at h5
          refine w_iload_n dX10_spectrum_38 rfl rfl ?_
          refine w_icmp_ne 46 dX10_spectrum_39 (by decide) (by first | assumption | (unfold ok32 at *; omega)) (by first | assumption | (unfold ok32 at *; omega)) (fun he => ?_) (fun he => ?_)
          · rw [if_neg (show ¬ ((pop (wdK X (L * C) k) : Nat) : Int) = z from he)] at h5
            refine w_iconst dX10_spectrum_46 ?_
            refine w_iadd dX10_spectrum_47 ?_
            refine w_istore_n (lv' := [_, _, _, _, _]) dX10_spectrum_48 rfl (Nat.le_of_ble_eq_true rfl) rfl rfl ?_
            refine w_iinc (lv' := [_, _, _, _, _]) dX10_spectrum_49 rfl rfl rfl ?_
            refine w_goto 21 dX10_spectrum_52 (by decide) ?_
            exact h5
          · rw [if_pos (show ((pop (wdK X (L * C) k) : Nat) : Int) = z from he)] at h5
            refine w_iconst dX10_spectrum_42 ?_
            refine w_goto 47 dX10_spectrum_43 (by decide) ?_
            refine w_iadd dX10_spectrum_47 ?_
            refine w_istore_n (lv' := [_, _, _, _, _]) dX10_spectrum_48 rfl (Nat.le_of_ble_eq_true rfl) rfl rfl ?_
            refine w_iinc (lv' := [_, _, _, _, _]) dX10_spectrum_49 rfl rfl rfl ?_
            refine w_goto 21 dX10_spectrum_52 (by decide) ?_
            exact h5
/-- of words the first that costs least -/
def nrN (W : Nat → BitVec 64) (f : BitVec 64 → Int) : Nat → BitVec 64
  | 0 => -1#64
  | k + 1 => if k = 0 ∨ f (W k) < f (nrN W f k) then W k else nrN W f k
set_option maxRecDepth 4000 in
theorem c_nearest {r : Nat} {A : Nat → Int} {ia : Nat → Nat → Int} {la : Nat → Nat → BitVec 64} {fi : Nat → Int} {fl : Nat → BitVec 64} {h0 : HP} {L R C : Nat} (hT : TOP A L R C) : sp mX10_nearest [.ref r] (RH r A ia la fi fl h0) 0 0 (pr (some (.long (lB (nrN (wdK (lsR A (la 6) L R C) (L * C)) (fun x => ((pop (x ^^^ gA A (L * C)) : Nat) : Int)) (waV (L * C) (lsR A (la 6) L R C).2.2).toNat)))) r A ia fi h0) := by
  obtain ⟨hI, hV, hS, h2⟩ := id hT
  obtain ⟨v1, v2, v3, v4, v5, v6, v7⟩ := id hV
  have h1 : 0 ≤ A 1 ∧ A 1 ≤ 20 := hI 1
  have h20 : 0 ≤ A 2 ∧ A 2 ≤ 20 := hI 2
  have hLCn := mulLe (a := L) (b := C) (x := 6) (y := 8) (by omega) (by omega)
  have hLRn := mulLe (a := L) (b := R) (x := 6) (y := 4) (by omega) (by omega)
  have hLC : (L : Int) * C ≤ 48 := by exact_mod_cast hLCn
  have hLC0 : (0 : Int) ≤ (L : Int) * C := by exact_mod_cast Nat.zero_le (L * C)
  have hLR : (L : Int) * R ≤ 24 := by exact_mod_cast hLRn
  have hLR0 : (0 : Int) ≤ (L : Int) * R := by exact_mod_cast Nat.zero_le (L * R)
  obtain ⟨x1, x2, x3⟩ := lsR_inv (q := la 6) hV
  refine sp_wp rfl (lv := [_, _, _, _, _]) rfl (Nat.le_of_ble_eq_true rfl) ?_
  refine w_aload_n dX10_nearest_0 rfl rfl ?_
  refine wc_V (Z := mX10_wordsAll) (As := []) (c_wordsAll hV) RH0 rfl kX10_wordsAll lX10_334 iX10_wordsAll vX10_wordsAll dX10_nearest_1 rfl rfl rfl (Nat.le_of_ble_eq_true rfl) ⟨Nat.le_of_ble_eq_true rfl, Nat.le_of_ble_eq_true rfl⟩ ?_
  generalize lsR A (la 6) L R C = X at *
  have hw : waV (L * C) X.2.2 = -1 ∨ ∃ N : Nat, 1 ≤ N ∧ N ≤ 4096 ∧ waV (L * C) X.2.2 = (N : Int) := by
    unfold waV
    by_cases h : 12 < L * C - X.2.2
    · rw [if_pos h]; exact Or.inl rfl
    · rw [if_neg h]; exact Or.inr ⟨_, (p12 (d := L * C - X.2.2) (by omega)).1, (p12 (d := L * C - X.2.2) (by omega)).2, rfl⟩
  unfold waH
  refine w_istore_n (lv' := [_, _, _, _, _]) dX10_nearest_4 rfl (Nat.le_of_ble_eq_true rfl) rfl rfl ?_
  refine w_ldc2B (-1#64) qX10_255 (by decide) dX10_nearest_5 ?_
  refine w_lstore_n (lv' := [_, _, _, _, _]) dX10_nearest_8 rfl (Nat.le_of_ble_eq_true rfl) rfl rfl ?_
  refine w_iconst dX10_nearest_9 ?_
  refine w_istore (lv' := [_, _, _, _, _]) dX10_nearest_10 (Nat.le_of_ble_eq_true rfl) rfl rfl ?_
  rcases hw with hw | ⟨N, n1, n2, hw⟩
  · rw [hw]
    refine w_iload dX10_nearest_12 rfl ?_
    refine w_iload_n dX10_nearest_14 rfl rfl ?_
    refine w_icmp_ge 64 dX10_nearest_15 (by decide) (by first | assumption | (unfold ok32 at *; omega)) (by first | assumption | (unfold ok32 at *; omega)) (fun hn => ?_) (fun hn => ?_)
    · refine w_lload_n dX10_nearest_64 rfl rfl ?_
      refine x_lret rfl dX10_nearest_65 (pr_end ?_ rfl rfl rfl rfl rfl rfl rfl)
      rfl
    · omega
  · rw [hw, Int.toNat_natCast]
    refine up_ind (N := N) (P := fun k => wp mX10_nearest 12 [.ref r, .int (zI (N : Int)), .long (lB (nrN (wdK X (L * C)) (fun x => ((pop (x ^^^ gA A (L * C)) : Nat) : Int)) k)), jk, .int (zI (k : Int))] [] (RH r A ia (u1 la 6 X.1) (u1 fi 17 ((X.2.2 : Nat) : Int)) (u1 fl 16 X.2.1) h0) 0 0 (pr (some (.long (lB (nrN (wdK X (L * C)) (fun x => ((pop (x ^^^ gA A (L * C)) : Nat) : Int)) N)))) r A ia fi h0)) (fun k hk ih => ?_) 0 (Nat.zero_le _)
    refine w_iload dX10_nearest_12 rfl ?_
    refine w_iload_n dX10_nearest_14 rfl rfl ?_
    refine w_icmp_ge 64 dX10_nearest_15 (by decide) (by first | assumption | (unfold ok32 at *; omega)) (by first | assumption | (unfold ok32 at *; omega)) (fun hn2 => ?_) (fun hn2 => ?_)
    · refine w_lload_n dX10_nearest_64 rfl rfl ?_
      refine x_lret rfl dX10_nearest_65 (pr_end ?_ rfl rfl rfl rfl rfl rfl rfl)
      rw [show k = N by omega]
    · have h5 := ih (by omega)
      rw [nrN] at h5
      have take : (if k = 0 ∨ ((pop (wdK X (L * C) k ^^^ gA A (L * C)) : Nat) : Int) < ((pop (nrN (wdK X (L * C)) (fun x => ((pop (x ^^^ gA A (L * C)) : Nat) : Int)) k ^^^ gA A (L * C)) : Nat) : Int) then wdK X (L * C) k else nrN (wdK X (L * C)) (fun x => ((pop (x ^^^ gA A (L * C)) : Nat) : Int)) k) = wdK X (L * C) k → wp mX10_nearest 50 [.ref r, .int (zI (N : Int)), .long (lB (nrN (wdK X (L * C)) (fun x => ((pop (x ^^^ gA A (L * C)) : Nat) : Int)) k)), jk, .int (zI (k : Int))] [] (RH r A ia (u1 la 6 X.1) (u1 fi 17 ((X.2.2 : Nat) : Int)) (u1 fl 16 X.2.1) h0) 0 0 (pr (some (.long (lB (nrN (wdK X (L * C)) (fun x => ((pop (x ^^^ gA A (L * C)) : Nat) : Int)) N)))) r A ia fi h0) := by
        intro he
        rw [he] at h5
        refine w_aload_n dX10_nearest_50 rfl rfl ?_
        refine w_iload dX10_nearest_51 rfl ?_
        refine w_i2l (by first | assumption | (unfold ok32 at *; omega)) dX10_nearest_53 ?_
        refine wc_V (Z := mX10_wordBy) (As := [_]) (c_wordBy hV x1 x2 u1_s u1_s u1_s) RH0 rfl kX10_wordBy lX10_230 iX10_wordBy vX10_wordBy dX10_nearest_54 rfl rfl rfl (Nat.le_of_ble_eq_true rfl) ⟨Nat.le_of_ble_eq_true rfl, Nat.le_of_ble_eq_true rfl⟩ ?_
        refine w_lstore_n (lv' := [_, _, _, _, _]) dX10_nearest_57 rfl (Nat.le_of_ble_eq_true rfl) rfl rfl ?_
        refine w_iinc (lv' := [_, _, _, _, _]) dX10_nearest_58 rfl rfl rfl ?_
        refine w_goto 12 dX10_nearest_61 (by decide) ?_
        exact h5
      have hp1 := pop_le (wdK X (L * C) k ^^^ gA A (L * C))
      have hp2 := pop_le (nrN (wdK X (L * C)) (fun x => ((pop (x ^^^ gA A (L * C)) : Nat) : Int)) k ^^^ gA A (L * C))
      refine w_iload dX10_nearest_18 rfl ?_
      refine w_if_eq 50 dX10_nearest_20 (by decide) (by first | assumption | (unfold ok32 at *; omega)) (fun hk0 => ?_) (fun hk0 => ?_)
      · exact take (if_pos (Or.inl (by omega)))
      · refine w_aload_n dX10_nearest_23 rfl rfl ?_
        refine w_iload dX10_nearest_24 rfl ?_
        refine w_i2l (by first | assumption | (unfold ok32 at *; omega)) dX10_nearest_26 ?_
        refine wc_V (Z := mX10_wordBy) (As := [_]) (c_wordBy hV x1 x2 u1_s u1_s u1_s) RH0 rfl kX10_wordBy lX10_230 iX10_wordBy vX10_wordBy dX10_nearest_27 rfl rfl rfl (Nat.le_of_ble_eq_true rfl) ⟨Nat.le_of_ble_eq_true rfl, Nat.le_of_ble_eq_true rfl⟩ ?_
        refine w_aload_n dX10_nearest_30 rfl rfl ?_
        refine wc_V (Z := mX10_guessed) (As := []) (c_guessed hV hI.ok) RH0 rfl kX10_guessed lX10_156 iX10_guessed vX10_guessed dX10_nearest_31 rfl rfl rfl (Nat.le_of_ble_eq_true rfl) ⟨Nat.le_of_ble_eq_true rfl, Nat.le_of_ble_eq_true rfl⟩ ?_
        refine w_lxor dX10_nearest_34 ?_
        refine wc_S (Z := mX10_many) (As := [_]) c_many kX10_many lX10_87 sX10_many dX10_nearest_35 rfl rfl rfl (Nat.le_of_ble_eq_true rfl) ⟨Nat.le_of_ble_eq_true rfl, Nat.le_of_ble_eq_true rfl⟩ ?_
        refine w_lload_n dX10_nearest_38 rfl rfl ?_
        refine w_aload_n dX10_nearest_39 rfl rfl ?_
        refine wc_V (Z := mX10_guessed) (As := []) (c_guessed hV hI.ok) RH0 rfl kX10_guessed lX10_156 iX10_guessed vX10_guessed dX10_nearest_40 rfl rfl rfl (Nat.le_of_ble_eq_true rfl) ⟨Nat.le_of_ble_eq_true rfl, Nat.le_of_ble_eq_true rfl⟩ ?_
        refine w_lxor dX10_nearest_43 ?_
        refine wc_S (Z := mX10_many) (As := [_]) c_many kX10_many lX10_87 sX10_many dX10_nearest_44 rfl rfl rfl (Nat.le_of_ble_eq_true rfl) ⟨Nat.le_of_ble_eq_true rfl, Nat.le_of_ble_eq_true rfl⟩ ?_
        refine w_icmp_ge 58 dX10_nearest_47 (by decide) (by have q : pop (wordX X (L * C) (BitVec.ofInt 64 (k : Int)) ^^^ gset (fun b => A (96 + b)) (L * C)) ≤ 64 := hp1; unfold ok32; omega) (by have q : pop (nrN (wdK X (L * C)) (fun x => ((pop (x ^^^ gA A (L * C)) : Nat) : Int)) k ^^^ gset (fun b => A (96 + b)) (L * C)) ≤ 64 := hp2; unfold ok32; omega) (fun hc => ?_) (fun hc => ?_)
        · rw [if_neg (fun q => q.elim (by omega) (fun q2 => absurd (show ((pop (wordX X (L * C) (BitVec.ofInt 64 (k : Int)) ^^^ gset (fun b => A (96 + b)) (L * C)) : Nat) : Int) < _ from q2) (Int.not_lt.mpr hc)))] at h5
          refine w_iinc (lv' := [_, _, _, _, _]) dX10_nearest_58 rfl rfl rfl ?_
          refine w_goto 12 dX10_nearest_61 (by decide) ?_
          exact h5
        · exact take (if_pos (Or.inr (Int.not_le.mp hc)))
set_option maxRecDepth 4000 in
theorem c_likeliest {r : Nat} {A : Nat → Int} {ia : Nat → Nat → Int} {la : Nat → Nat → BitVec 64} {fi : Nat → Int} {fl : Nat → BitVec 64} {h0 : HP} {L R C : Nat} (hT : TOP A L R C) : sp mX10_likeliest [.ref r] (RH r A ia la fi fl h0) 0 0 (pr (some (.long (lB (nrN (wdK (lsR A (la 6) L R C) (L * C)) (fun x => cstN A x (L * C)) (waV (L * C) (lsR A (la 6) L R C).2.2).toNat)))) r A ia fi h0) := by
  obtain ⟨hI, hV, hS, h2⟩ := id hT
  obtain ⟨v1, v2, v3, v4, v5, v6, v7⟩ := id hV
  have h1 : 0 ≤ A 1 ∧ A 1 ≤ 20 := hI 1
  have h20 : 0 ≤ A 2 ∧ A 2 ≤ 20 := hI 2
  have hLCn := mulLe (a := L) (b := C) (x := 6) (y := 8) (by omega) (by omega)
  have hLRn := mulLe (a := L) (b := R) (x := 6) (y := 4) (by omega) (by omega)
  have hLC : (L : Int) * C ≤ 48 := by exact_mod_cast hLCn
  have hLC0 : (0 : Int) ≤ (L : Int) * C := by exact_mod_cast Nat.zero_le (L * C)
  have hLR : (L : Int) * R ≤ 24 := by exact_mod_cast hLRn
  have hLR0 : (0 : Int) ≤ (L : Int) * R := by exact_mod_cast Nat.zero_le (L * R)
  obtain ⟨x1, x2, x3⟩ := lsR_inv (q := la 6) hV
  refine sp_wp rfl (lv := [_, _, _, _, _]) rfl (Nat.le_of_ble_eq_true rfl) ?_
  refine w_aload_n dX10_likeliest_0 rfl rfl ?_
  refine wc_V (Z := mX10_wordsAll) (As := []) (c_wordsAll hV) RH0 rfl kX10_wordsAll lX10_334 iX10_wordsAll vX10_wordsAll dX10_likeliest_1 rfl rfl rfl (Nat.le_of_ble_eq_true rfl) ⟨Nat.le_of_ble_eq_true rfl, Nat.le_of_ble_eq_true rfl⟩ ?_
  generalize lsR A (la 6) L R C = X at *
  have hw : waV (L * C) X.2.2 = -1 ∨ ∃ N : Nat, 1 ≤ N ∧ N ≤ 4096 ∧ waV (L * C) X.2.2 = (N : Int) := by
    unfold waV
    by_cases h : 12 < L * C - X.2.2
    · rw [if_pos h]; exact Or.inl rfl
    · rw [if_neg h]; exact Or.inr ⟨_, (p12 (d := L * C - X.2.2) (by omega)).1, (p12 (d := L * C - X.2.2) (by omega)).2, rfl⟩
  unfold waH
  refine w_istore_n (lv' := [_, _, _, _, _]) dX10_likeliest_4 rfl (Nat.le_of_ble_eq_true rfl) rfl rfl ?_
  refine w_ldc2B (-1#64) qX10_255 (by decide) dX10_likeliest_5 ?_
  refine w_lstore_n (lv' := [_, _, _, _, _]) dX10_likeliest_8 rfl (Nat.le_of_ble_eq_true rfl) rfl rfl ?_
  refine w_iconst dX10_likeliest_9 ?_
  refine w_istore (lv' := [_, _, _, _, _]) dX10_likeliest_10 (Nat.le_of_ble_eq_true rfl) rfl rfl ?_
  rcases hw with hw | ⟨N, n1, n2, hw⟩
  · rw [hw]
    refine w_iload dX10_likeliest_12 rfl ?_
    refine w_iload_n dX10_likeliest_14 rfl rfl ?_
    refine w_icmp_ge 56 dX10_likeliest_15 (by decide) (by first | assumption | (unfold ok32 at *; omega)) (by first | assumption | (unfold ok32 at *; omega)) (fun hn => ?_) (fun hn => ?_)
    · refine w_lload_n dX10_likeliest_56 rfl rfl ?_
      refine x_lret rfl dX10_likeliest_57 (pr_end ?_ rfl rfl rfl rfl rfl rfl rfl)
      rfl
    · omega
  · rw [hw, Int.toNat_natCast]
    refine up_ind (N := N) (P := fun k => wp mX10_likeliest 12 [.ref r, .int (zI (N : Int)), .long (lB (nrN (wdK X (L * C)) (fun x => cstN A x (L * C)) k)), jk, .int (zI (k : Int))] [] (RH r A ia (u1 la 6 X.1) (u1 fi 17 ((X.2.2 : Nat) : Int)) (u1 fl 16 X.2.1) h0) 0 0 (pr (some (.long (lB (nrN (wdK X (L * C)) (fun x => cstN A x (L * C)) N)))) r A ia fi h0)) (fun k hk ih => ?_) 0 (Nat.zero_le _)
    refine w_iload dX10_likeliest_12 rfl ?_
    refine w_iload_n dX10_likeliest_14 rfl rfl ?_
    refine w_icmp_ge 56 dX10_likeliest_15 (by decide) (by first | assumption | (unfold ok32 at *; omega)) (by first | assumption | (unfold ok32 at *; omega)) (fun hn2 => ?_) (fun hn2 => ?_)
    · refine w_lload_n dX10_likeliest_56 rfl rfl ?_
      refine x_lret rfl dX10_likeliest_57 (pr_end ?_ rfl rfl rfl rfl rfl rfl rfl)
      rw [show k = N by omega]
    · have h5 := ih (by omega)
      rw [nrN] at h5
      have take : (if k = 0 ∨ cstN A (wdK X (L * C) k) (L * C) < cstN A (nrN (wdK X (L * C)) (fun x => cstN A x (L * C)) k) (L * C) then wdK X (L * C) k else nrN (wdK X (L * C)) (fun x => cstN A x (L * C)) k) = wdK X (L * C) k → wp mX10_likeliest 42 [.ref r, .int (zI (N : Int)), .long (lB (nrN (wdK X (L * C)) (fun x => cstN A x (L * C)) k)), jk, .int (zI (k : Int))] [] (RH r A ia (u1 la 6 X.1) (u1 fi 17 ((X.2.2 : Nat) : Int)) (u1 fl 16 X.2.1) h0) 0 0 (pr (some (.long (lB (nrN (wdK X (L * C)) (fun x => cstN A x (L * C)) N)))) r A ia fi h0) := by
        intro he
        rw [he] at h5
        refine w_aload_n dX10_likeliest_42 rfl rfl ?_
        refine w_iload dX10_likeliest_43 rfl ?_
        refine w_i2l (by first | assumption | (unfold ok32 at *; omega)) dX10_likeliest_45 ?_
        refine wc_V (Z := mX10_wordBy) (As := [_]) (c_wordBy hV x1 x2 u1_s u1_s u1_s) RH0 rfl kX10_wordBy lX10_230 iX10_wordBy vX10_wordBy dX10_likeliest_46 rfl rfl rfl (Nat.le_of_ble_eq_true rfl) ⟨Nat.le_of_ble_eq_true rfl, Nat.le_of_ble_eq_true rfl⟩ ?_
        refine w_lstore_n (lv' := [_, _, _, _, _]) dX10_likeliest_49 rfl (Nat.le_of_ble_eq_true rfl) rfl rfl ?_
        refine w_iinc (lv' := [_, _, _, _, _]) dX10_likeliest_50 rfl rfl rfl ?_
        refine w_goto 12 dX10_likeliest_53 (by decide) ?_
        exact h5
      have hp1 := cstN_rng (x := wdK X (L * C) k) hI hLCn
      have hp2 := cstN_rng (x := nrN (wdK X (L * C)) (fun x => cstN A x (L * C)) k) hI hLCn
      refine w_iload dX10_likeliest_18 rfl ?_
      refine w_if_eq 42 dX10_likeliest_20 (by decide) (by first | assumption | (unfold ok32 at *; omega)) (fun hk0 => ?_) (fun hk0 => ?_)
      · exact take (if_pos (Or.inl (by omega)))
      · refine w_aload_n dX10_likeliest_23 rfl rfl ?_
        refine w_aload_n dX10_likeliest_24 rfl rfl ?_
        refine w_iload dX10_likeliest_25 rfl ?_
        refine w_i2l (by first | assumption | (unfold ok32 at *; omega)) dX10_likeliest_27 ?_
        refine wc_V (Z := mX10_wordBy) (As := [_]) (c_wordBy hV x1 x2 u1_s u1_s u1_s) RH0 rfl kX10_wordBy lX10_230 iX10_wordBy vX10_wordBy dX10_likeliest_28 rfl rfl rfl (Nat.le_of_ble_eq_true rfl) ⟨Nat.le_of_ble_eq_true rfl, Nat.le_of_ble_eq_true rfl⟩ ?_
        refine wc_V (Z := mX10_costOf) (As := [_]) (c_costOf hI hV) RH0 rfl kX10_costOf lX10_331 iX10_costOf vX10_costOf dX10_likeliest_31 rfl rfl rfl (Nat.le_of_ble_eq_true rfl) ⟨Nat.le_of_ble_eq_true rfl, Nat.le_of_ble_eq_true rfl⟩ ?_
        refine w_aload_n dX10_likeliest_34 rfl rfl ?_
        refine w_lload_n dX10_likeliest_35 rfl rfl ?_
        refine wc_V (Z := mX10_costOf) (As := [_]) (c_costOf hI hV) RH0 rfl kX10_costOf lX10_331 iX10_costOf vX10_costOf dX10_likeliest_36 rfl rfl rfl (Nat.le_of_ble_eq_true rfl) ⟨Nat.le_of_ble_eq_true rfl, Nat.le_of_ble_eq_true rfl⟩ ?_
        refine w_icmp_ge 50 dX10_likeliest_39 (by decide) (by unfold wdK at hp1; unfold ok32; omega) (by first | assumption | (unfold ok32 at *; omega)) (fun hc => ?_) (fun hc => ?_)
        · rw [if_neg (fun q => q.elim (by omega) (fun q2 => absurd (show cstN A (wordX X (L * C) (BitVec.ofInt 64 (k : Int))) (L * C) < _ from q2) (Int.not_lt.mpr hc)))] at h5
          refine w_iinc (lv' := [_, _, _, _, _]) dX10_likeliest_50 rfl rfl rfl ?_
          refine w_goto 12 dX10_likeliest_53 (by decide) ?_
          exact h5
        · exact take (if_pos (Or.inr (Int.not_le.mp hc)))

