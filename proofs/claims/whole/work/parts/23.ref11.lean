/-- one shift moved -/
def mrA (A : Nat → Int) (L i j : Nat) (by0 : Int) : Nat → Int := if A (14 + 8 * i + j) = -1 then A else u1 A (14 + 8 * i + j) ((A (14 + 8 * i + j) + by0) % (L : Int))
set_option maxRecDepth 4000 in
theorem c_moreAt {r : Nat} {A : Nat → Int} {ia : Nat → Nat → Int} {la : Nat → Nat → BitVec 64} {fi : Nat → Int} {fl : Nat → BitVec 64} {h0 : HP} {L R C i j : Nat} {b : Int} (hI : INV A) (hV : VC A L R C) (hi : i < 4) (hj : j < 8) (hb : 1 ≤ b ∧ b ≤ 5) : sp mX10_moreAt [.ref r, .int (zI (i : Int)), .int (zI (j : Int)), .int (zI b)] (RH r A ia la fi fl h0) 0 0 (pd none (RH r (mrA A L i j b) ia la fi fl h0)) := by
  obtain ⟨v1, v2, v3, v4, v5, v6, v7⟩ := id hV
  have hs := v7 (8 * i + j) (by omega)
  rw [← Nat.add_assoc] at hs
  refine sp_wp rfl (lv := [_, _, _, _, _]) rfl (Nat.le_of_ble_eq_true rfl) ?_
  refine w_bipush dX10_moreAt_0 (by decide) ?_
  refine w_bipush dX10_moreAt_2 (by decide) ?_
  refine w_iload_n dX10_moreAt_4 rfl rfl ?_
  refine w_imul dX10_moreAt_5 ?_
  refine w_iadd dX10_moreAt_6 ?_
  refine w_iload_n dX10_moreAt_7 rfl rfl ?_
  refine w_iadd dX10_moreAt_8 ?_
  refine w_istore (lv' := [_, _, _, _, _]) dX10_moreAt_9 (Nat.le_of_ble_eq_true rfl) rfl rfl ?_
  refine w_aload_n dX10_moreAt_11 rfl rfl ?_
  refine w_getf fX10_7 dX10_moreAt_12 RH0 rfl ?_
  refine w_iload dX10_moreAt_15 rfl ?_
  refine w_iald (14 + 8 * i + j) RH1 (by omega) (by omega) (by decide) dX10_moreAt_17 ?_
  refine w_iconst dX10_moreAt_18 ?_
  refine w_icmp_eq 45 dX10_moreAt_19 (by decide) (by unfold ok32; omega) (by unfold ok32; omega) (fun hn => ?_) (fun hn => ?_)
  · refine x_vret rfl dX10_moreAt_45 ⟨rfl, ?_⟩
    rw [mrA, if_pos hn]
  · refine w_aload_n dX10_moreAt_22 rfl rfl ?_
    refine w_getf fX10_7 dX10_moreAt_23 RH0 rfl ?_
    refine w_iload dX10_moreAt_26 rfl ?_
    refine w_aload_n dX10_moreAt_28 rfl rfl ?_
    refine w_getf fX10_7 dX10_moreAt_29 RH0 rfl ?_
    refine w_iload dX10_moreAt_32 rfl ?_
    refine w_iald (14 + 8 * i + j) RH1 (by omega) (by omega) (by decide) dX10_moreAt_34 ?_
    refine w_iload_n dX10_moreAt_35 rfl rfl ?_
    refine w_iadd dX10_moreAt_36 ?_
    refine w_aload_n dX10_moreAt_37 rfl rfl ?_
    refine w_getf fX10_7 dX10_moreAt_38 RH0 rfl ?_
    refine w_iconst dX10_moreAt_41 ?_
    refine w_iald 3 RH1 rfl (by decide) (by decide) dX10_moreAt_42 ?_
    rw [v1]
    refine w_irem dX10_moreAt_43 (by unfold ok32; omega) (by omega) (by omega) (by unfold ok32; omega) ?_
    refine r_ist1K (14 + 8 * i + j) (by omega) (by omega) dX10_moreAt_44 ?_
    refine x_vret rfl dX10_moreAt_45 ⟨rfl, ?_⟩
    rw [mrA, if_neg hn]
theorem mrA_n {A : Nat → Int} {L i j k : Nat} {b : Int} (h : k ≠ 14 + 8 * i + j) : mrA A L i j b k = A k := by
  unfold mrA
  split
  · rfl
  · rw [u1_n h]
theorem loH {k : Nat} (hk : k < 32) : loA (14 + k) = -1 := by unfold loA; (repeat' split) <;> omega
theorem hiH {k : Nat} (hk : k < 32) : hiA (14 + k) = 5 := by unfold hiA; (repeat' split) <;> omega
theorem mrA_i {A : Nat → Int} {L R C i j : Nat} {b : Int} (hI : INV A) (hV : VC A L R C) (hi : i < 4) (hj : j < 8) : INV (mrA A L i j b) ∧ VC (mrA A L i j b) L R C := by
  obtain ⟨v1, v2, v3, v4, v5, v6, v7⟩ := id hV
  have h1 := Int.emod_nonneg (A (14 + 8 * i + j) + b) (show (L : Int) ≠ 0 by omega)
  have h2 := Int.emod_lt_of_pos (A (14 + 8 * i + j) + b) (show (0 : Int) < L by omega)
  have hI2 : INV (mrA A L i j b) := by
    unfold mrA
    split
    · exact hI
    · refine hI.put ?_
      rw [Nat.add_assoc, loH (by omega), hiH (by omega), ← Nat.add_assoc]; omega
  exact ⟨hI2, by rw [mrA_n (by omega)]; exact v1, by rw [mrA_n (by omega)]; exact v2, by rw [mrA_n (by omega)]; exact v3, v4, v5, v6, fun k hk => hI2.sh hk⟩
def rsN (A : Nat → Int) (L j : Nat) (b : Int) : Nat → Nat → Int
  | 0 => A
  | i + 1 => mrA (rsN A L j b i) L i j b
def sdN (A : Nat → Int) (L i : Nat) (b : Int) : Nat → Nat → Int
  | 0 => A
  | j + 1 => mrA (sdN A L i b j) L i j b
theorem rsN_ok {A : Nat → Int} {L R C j : Nat} {b : Int} (hI : INV A) (hV : VC A L R C) (h2 : A 2 < 20) (hj : j < 8) : ∀ {n : Nat}, n ≤ 4 → INV (rsN A L j b n) ∧ VC (rsN A L j b n) L R C ∧ rsN A L j b n 2 < 20
  | 0, _ => ⟨hI, hV, h2⟩
  | n + 1, hn => by
    obtain ⟨i1, i2, i3⟩ := rsN_ok (b := b) hI hV h2 hj (n := n) (by omega)
    have := mrA_i (b := b) i1 i2 (show n < 4 by omega) hj
    exact ⟨this.1, this.2, by unfold rsN; rw [mrA_n (by omega)]; exact i3⟩
theorem sdN_ok {A : Nat → Int} {L R C i : Nat} {b : Int} (hI : INV A) (hV : VC A L R C) (h2 : A 2 < 20) (hi : i < 4) : ∀ {n : Nat}, n ≤ 8 → INV (sdN A L i b n) ∧ VC (sdN A L i b n) L R C ∧ sdN A L i b n 2 < 20
  | 0, _ => ⟨hI, hV, h2⟩
  | n + 1, hn => by
    obtain ⟨i1, i2, i3⟩ := sdN_ok (b := b) hI hV h2 hi (n := n) (by omega)
    have := mrA_i (b := b) i1 i2 hi (show n < 8 by omega)
    exact ⟨this.1, this.2, by unfold sdN; rw [mrA_n (by omega)]; exact i3⟩

def raiseC (z b : Int) (C : Nat) : Prop := (0 ≤ z ∧ z ≤ (C : Int) - 1) ∧ 1 ≤ b ∧ b ≤ 5
def raiseA (A : Nat → Int) (L R C : Nat) (z b : Int) : Nat → Int := if (0 ≤ z ∧ z ≤ (C : Int) - 1) ∧ 1 ≤ b ∧ b ≤ 5 then cmA (rsN (kpA A) L z.toNat b R) L R C else A
set_option maxRecDepth 4000 in
theorem c_raise {r : Nat} {A : Nat → Int} {ia : Nat → Nat → Int} {la : Nat → Nat → BitVec 64} {fi : Nat → Int} {fl : Nat → BitVec 64} {h0 : HP} {L R C : Nat} {z b : Int} (hT : TOP A L R C) (hz : ok32 z) (hb : ok32 b) : sp mX10_raise [.ref r, .int (zI z), .int (zI b)] (RH r A ia la fi fl h0) 0 0 (pr (some (.int (zI (bI ((0 ≤ z ∧ z ≤ (C : Int) - 1) ∧ 1 ≤ b ∧ b ≤ 5))))) r (raiseA A L R C z b) ia fi h0) := by
  obtain ⟨hI, hV, hS, h2⟩ := id hT
  obtain ⟨v1, v2, v3, v4, v5, v6, v7⟩ := id hV
  have h1 : 0 ≤ A 1 ∧ A 1 ≤ 20 := hI 1
  have h20 : 0 ≤ A 2 ∧ A 2 ≤ 20 := hI 2
  refine sp_wp rfl (lv := [_, _, _, _]) rfl (Nat.le_of_ble_eq_true rfl) ?_
  refine w_iload_n dX10_raise_0 rfl rfl ?_
  refine w_iconst dX10_raise_1 ?_
  refine w_aload_n dX10_raise_2 rfl rfl ?_
  refine w_getf fX10_7 dX10_raise_3 RH0 rfl ?_
  refine w_iconst dX10_raise_6 ?_
  refine w_iald 5 RH1 rfl (by decide) (by decide) dX10_raise_7 ?_
  rw [v3]
  refine w_iconst dX10_raise_8 ?_
  refine w_isub dX10_raise_9 ?_
  refine wc_S (Z := mX10_isIn) (As := [_, _, _]) (c_isIn hz (by unfold ok32; omega) (by unfold ok32; omega)) kX10_isIn lX10_70 sX10_isIn dX10_raise_10 rfl rfl rfl (Nat.le_of_ble_eq_true rfl) ⟨Nat.le_of_ble_eq_true rfl, Nat.le_of_ble_eq_true rfl⟩ ?_
  refine w_ifb_eq 25 dX10_raise_13 (by decide) (fun hc1 => ?_) (fun hc1 => ?_)
  · refine w_iconst dX10_raise_25 ?_
    refine x_iret rfl (by rfl) dX10_raise_26 (pr_end ?_ ?_ rfl rfl rfl rfl rfl rfl)
    · rw [bI_f (by omega)]
    · rw [raiseA, if_neg (by omega)]
  · refine w_iload_n dX10_raise_16 rfl rfl ?_
    refine w_iconst dX10_raise_17 ?_
    refine w_iconst dX10_raise_18 ?_
    refine wc_S (Z := mX10_isIn) (As := [_, _, _]) (c_isIn hb (by unfold ok32; omega) (by unfold ok32; omega)) kX10_isIn lX10_70 sX10_isIn dX10_raise_19 rfl rfl rfl (Nat.le_of_ble_eq_true rfl) ⟨Nat.le_of_ble_eq_true rfl, Nat.le_of_ble_eq_true rfl⟩ ?_
    refine w_ifb_ne 27 dX10_raise_22 (by decide) (fun hc2 => ?_) (fun hc2 => ?_)
    rotate_left
    · refine w_iconst dX10_raise_25 ?_
      refine x_iret rfl (by rfl) dX10_raise_26 (pr_end ?_ ?_ rfl rfl rfl rfl rfl rfl)
      · rw [bI_f (by omega)]
      · rw [raiseA, if_neg (by omega)]
    · refine w_aload_n dX10_raise_27 rfl rfl ?_
      refine wc_Vv (Z := mX10_keep) (As := []) (c_keep h1 ⟨h20.1, h2⟩) RH0 rfl kX10_keep lX10_215 iX10_keep vX10_keep dX10_raise_28 rfl rfl rfl (Nat.le_of_ble_eq_true rfl) ⟨Nat.le_of_ble_eq_true rfl, Nat.le_of_ble_eq_true rfl⟩ ?_
      obtain ⟨kI, kV, kS, k2⟩ := kpA_top hT
      refine w_iconst dX10_raise_31 ?_
      refine w_istore_n (lv' := [_, _, _, _]) dX10_raise_32 rfl (Nat.le_of_ble_eq_true rfl) rfl rfl ?_
      refine up_ind (N := R) (P := fun i => wp mX10_raise 33 [.ref r, .int (zI z), .int (zI b), .int (zI (i : Int))] [] (RH r (rsN (kpA A) L z.toNat b i) ia la fi fl h0) 0 0 (pr (some (.int (zI (bI ((0 ≤ z ∧ z ≤ (C : Int) - 1) ∧ 1 ≤ b ∧ b ≤ 5))))) r (raiseA A L R C z b) ia fi h0)) (fun i hi ih => ?_) 0 (Nat.zero_le _)
      obtain ⟨t1, t2, t3⟩ := rsN_ok (b := b) kI kV k2 (by omega : z.toNat < 8) (n := i) (by omega)
      refine w_iload_n dX10_raise_33 rfl rfl ?_
      refine w_aload_n dX10_raise_34 rfl rfl ?_
      refine w_getf fX10_7 dX10_raise_35 RH0 rfl ?_
      refine w_iconst dX10_raise_38 ?_
      refine w_iald 4 RH1 rfl (by decide) (by decide) dX10_raise_39 ?_
      rw [t2.2.1]
      refine w_icmp_ge 56 dX10_raise_40 (by decide) (by unfold ok32; omega) (by unfold ok32; omega) (fun hn => ?_) (fun hn => ?_)
      · have ei : i = R := by omega
        subst ei
        refine w_aload_n dX10_raise_56 rfl rfl ?_
        refine wc_Vv (Z := mX10_come) (As := []) (c_come t2 t1.ok) RH0 rfl kX10_come lX10_218 iX10_come vX10_come dX10_raise_57 rfl rfl rfl (Nat.le_of_ble_eq_true rfl) ⟨Nat.le_of_ble_eq_true rfl, Nat.le_of_ble_eq_true rfl⟩ ?_
        refine w_iconst dX10_raise_60 ?_
        refine x_iret rfl (by rfl) dX10_raise_61 (pr_end ?_ ?_ rfl rfl rfl rfl rfl rfl)
        · rw [bI_t (by omega)]
        · rw [raiseA, if_pos (by omega)]
      · refine w_aload_n dX10_raise_43 rfl rfl ?_
        refine w_iload_n dX10_raise_44 rfl rfl ?_
        refine w_iload_n dX10_raise_45 rfl rfl ?_
        refine w_iload_n dX10_raise_46 rfl rfl ?_
        rw [show z = ((z.toNat : Nat) : Int) by omega]
        refine wc_Vv (Z := mX10_moreAt) (As := [_, _, _]) (c_moreAt (i := i) (j := z.toNat) (b := b) t1 t2 (by omega) (by omega) (by omega)) RH0 rfl kX10_moreAt lX10_221 iX10_moreAt vX10_moreAt dX10_raise_47 rfl rfl rfl (Nat.le_of_ble_eq_true rfl) ⟨Nat.le_of_ble_eq_true rfl, Nat.le_of_ble_eq_true rfl⟩ ?_
        rw [← show z = ((z.toNat : Nat) : Int) by omega]
        refine w_iinc (lv' := [_, _, _, _]) dX10_raise_50 rfl rfl rfl ?_
        refine w_goto 33 dX10_raise_53 (by decide) ?_
        exact ih (by omega)

def slideC (z b : Int) (C : Nat) : Prop := (0 ≤ z ∧ z ≤ (C : Int) - 1) ∧ 1 ≤ b ∧ b ≤ 5
def slideA (A : Nat → Int) (L R C : Nat) (z b : Int) : Nat → Int := if (0 ≤ z ∧ z ≤ (R : Int) - 1) ∧ 1 ≤ b ∧ b ≤ 5 then cmA (sdN (kpA A) L z.toNat b C) L R C else A
set_option maxRecDepth 4000 in
theorem c_slide {r : Nat} {A : Nat → Int} {ia : Nat → Nat → Int} {la : Nat → Nat → BitVec 64} {fi : Nat → Int} {fl : Nat → BitVec 64} {h0 : HP} {L R C : Nat} {z b : Int} (hT : TOP A L R C) (hz : ok32 z) (hb : ok32 b) : sp mX10_slide [.ref r, .int (zI z), .int (zI b)] (RH r A ia la fi fl h0) 0 0 (pr (some (.int (zI (bI ((0 ≤ z ∧ z ≤ (R : Int) - 1) ∧ 1 ≤ b ∧ b ≤ 5))))) r (slideA A L R C z b) ia fi h0) := by
  obtain ⟨hI, hV, hS, h2⟩ := id hT
  obtain ⟨v1, v2, v3, v4, v5, v6, v7⟩ := id hV
  have h1 : 0 ≤ A 1 ∧ A 1 ≤ 20 := hI 1
  have h20 : 0 ≤ A 2 ∧ A 2 ≤ 20 := hI 2
  refine sp_wp rfl (lv := [_, _, _, _]) rfl (Nat.le_of_ble_eq_true rfl) ?_
  refine w_iload_n dX10_slide_0 rfl rfl ?_
  refine w_iconst dX10_slide_1 ?_
  refine w_aload_n dX10_slide_2 rfl rfl ?_
  refine w_getf fX10_7 dX10_slide_3 RH0 rfl ?_
  refine w_iconst dX10_slide_6 ?_
  refine w_iald 4 RH1 rfl (by decide) (by decide) dX10_slide_7 ?_
  rw [v2]
  refine w_iconst dX10_slide_8 ?_
  refine w_isub dX10_slide_9 ?_
  refine wc_S (Z := mX10_isIn) (As := [_, _, _]) (c_isIn hz (by unfold ok32; omega) (by unfold ok32; omega)) kX10_isIn lX10_70 sX10_isIn dX10_slide_10 rfl rfl rfl (Nat.le_of_ble_eq_true rfl) ⟨Nat.le_of_ble_eq_true rfl, Nat.le_of_ble_eq_true rfl⟩ ?_
  refine w_ifb_eq 25 dX10_slide_13 (by decide) (fun hc1 => ?_) (fun hc1 => ?_)
  · refine w_iconst dX10_slide_25 ?_
    refine x_iret rfl (by rfl) dX10_slide_26 (pr_end ?_ ?_ rfl rfl rfl rfl rfl rfl)
    · rw [bI_f (by omega)]
    · rw [slideA, if_neg (by omega)]
  · refine w_iload_n dX10_slide_16 rfl rfl ?_
    refine w_iconst dX10_slide_17 ?_
    refine w_iconst dX10_slide_18 ?_
    refine wc_S (Z := mX10_isIn) (As := [_, _, _]) (c_isIn hb (by unfold ok32; omega) (by unfold ok32; omega)) kX10_isIn lX10_70 sX10_isIn dX10_slide_19 rfl rfl rfl (Nat.le_of_ble_eq_true rfl) ⟨Nat.le_of_ble_eq_true rfl, Nat.le_of_ble_eq_true rfl⟩ ?_
    refine w_ifb_ne 27 dX10_slide_22 (by decide) (fun hc2 => ?_) (fun hc2 => ?_)
    rotate_left
    · refine w_iconst dX10_slide_25 ?_
      refine x_iret rfl (by rfl) dX10_slide_26 (pr_end ?_ ?_ rfl rfl rfl rfl rfl rfl)
      · rw [bI_f (by omega)]
      · rw [slideA, if_neg (by omega)]
    · refine w_aload_n dX10_slide_27 rfl rfl ?_
      refine wc_Vv (Z := mX10_keep) (As := []) (c_keep h1 ⟨h20.1, h2⟩) RH0 rfl kX10_keep lX10_215 iX10_keep vX10_keep dX10_slide_28 rfl rfl rfl (Nat.le_of_ble_eq_true rfl) ⟨Nat.le_of_ble_eq_true rfl, Nat.le_of_ble_eq_true rfl⟩ ?_
      obtain ⟨kI, kV, kS, k2⟩ := kpA_top hT
      refine w_iconst dX10_slide_31 ?_
      refine w_istore_n (lv' := [_, _, _, _]) dX10_slide_32 rfl (Nat.le_of_ble_eq_true rfl) rfl rfl ?_
      refine up_ind (N := C) (P := fun i => wp mX10_slide 33 [.ref r, .int (zI z), .int (zI b), .int (zI (i : Int))] [] (RH r (sdN (kpA A) L z.toNat b i) ia la fi fl h0) 0 0 (pr (some (.int (zI (bI ((0 ≤ z ∧ z ≤ (R : Int) - 1) ∧ 1 ≤ b ∧ b ≤ 5))))) r (slideA A L R C z b) ia fi h0)) (fun i hi ih => ?_) 0 (Nat.zero_le _)
      obtain ⟨t1, t2, t3⟩ := sdN_ok (b := b) kI kV k2 (by omega : z.toNat < 4) (n := i) (by omega)
      refine w_iload_n dX10_slide_33 rfl rfl ?_
      refine w_aload_n dX10_slide_34 rfl rfl ?_
      refine w_getf fX10_7 dX10_slide_35 RH0 rfl ?_
      refine w_iconst dX10_slide_38 ?_
      refine w_iald 5 RH1 rfl (by decide) (by decide) dX10_slide_39 ?_
      rw [t2.2.2.1]
      refine w_icmp_ge 56 dX10_slide_40 (by decide) (by unfold ok32; omega) (by unfold ok32; omega) (fun hn => ?_) (fun hn => ?_)
      · have ei : i = C := by omega
        subst ei
        refine w_aload_n dX10_slide_56 rfl rfl ?_
        refine wc_Vv (Z := mX10_come) (As := []) (c_come t2 t1.ok) RH0 rfl kX10_come lX10_218 iX10_come vX10_come dX10_slide_57 rfl rfl rfl (Nat.le_of_ble_eq_true rfl) ⟨Nat.le_of_ble_eq_true rfl, Nat.le_of_ble_eq_true rfl⟩ ?_
        refine w_iconst dX10_slide_60 ?_
        refine x_iret rfl (by rfl) dX10_slide_61 (pr_end ?_ ?_ rfl rfl rfl rfl rfl rfl)
        · rw [bI_t (by omega)]
        · rw [slideA, if_pos (by omega)]
      · refine w_aload_n dX10_slide_43 rfl rfl ?_
        refine w_iload_n dX10_slide_44 rfl rfl ?_
        refine w_iload_n dX10_slide_45 rfl rfl ?_
        refine w_iload_n dX10_slide_46 rfl rfl ?_
        rw [show z = ((z.toNat : Nat) : Int) by omega]
        refine wc_Vv (Z := mX10_moreAt) (As := [_, _, _]) (c_moreAt (i := z.toNat) (j := i) (b := b) t1 t2 (by omega) (by omega) (by omega)) RH0 rfl kX10_moreAt lX10_221 iX10_moreAt vX10_moreAt dX10_slide_47 rfl rfl rfl (Nat.le_of_ble_eq_true rfl) ⟨Nat.le_of_ble_eq_true rfl, Nat.le_of_ble_eq_true rfl⟩ ?_
        rw [← show z = ((z.toNat : Nat) : Int) by omega]
        refine w_iinc (lv' := [_, _, _, _]) dX10_slide_50 rfl rfl rfl ?_
        refine w_goto 33 dX10_slide_53 (by decide) ?_
        exact ih (by omega)

