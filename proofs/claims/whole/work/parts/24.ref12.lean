set_option maxRecDepth 4000 in
theorem c_hear {r : Nat} {A : Nat → Int} {ia : Nat → Nat → Int} {la : Nat → Nat → BitVec 64} {fi : Nat → Int} {fl : Nat → BitVec 64} {h0 : HP} {L R C : Nat} {z x : Int} (hT : TOP A L R C) (hz : ok32 z) (hx : ok32 x) : sp mX10_hear [.ref r, .int (zI z), .int (zI x)] (RH r A ia la fi fl h0) 0 0 (pr (some (.int (zI (bI ((0 ≤ z ∧ z ≤ (L : Int) * C - 1) ∧ -31 ≤ x ∧ x ≤ 31))))) r (if (0 ≤ z ∧ z ≤ (L : Int) * C - 1) ∧ -31 ≤ x ∧ x ≤ 31 then u1 (kpA A) (48 + z.toNat) x else A) ia fi h0) := by
  obtain ⟨hI, hV, hS, h2⟩ := id hT
  obtain ⟨v1, v2, v3, v4, v5, v6, v7⟩ := id hV
  have h1 : 0 ≤ A 1 ∧ A 1 ≤ 20 := hI 1
  have h20 : 0 ≤ A 2 ∧ A 2 ≤ 20 := hI 2
  have hLC : (L : Int) * C ≤ 48 := by exact_mod_cast mulLe (a := L) (b := C) (x := 6) (y := 8) (by omega) (by omega)
  have hLC0 : (0 : Int) ≤ (L : Int) * C := by exact_mod_cast Nat.zero_le (L * C)
  have hLR : (L : Int) * R ≤ 24 := by exact_mod_cast mulLe (a := L) (b := R) (x := 6) (y := 4) (by omega) (by omega)
  have hLR0 : (0 : Int) ≤ (L : Int) * R := by exact_mod_cast Nat.zero_le (L * R)
  refine sp_wp rfl (lv := [_, _, _]) rfl (Nat.le_of_ble_eq_true rfl) ?_
  refine w_aload_n dX10_hear_0 rfl rfl ?_
  refine w_iload_n dX10_hear_1 rfl rfl ?_
  refine wc_V (Z := mX10_isBit) (As := [_]) (c_isBit hV hz) RH0 rfl kX10_isBit lX10_237 iX10_isBit vX10_isBit dX10_hear_2 rfl rfl rfl (Nat.le_of_ble_eq_true rfl) ⟨Nat.le_of_ble_eq_true rfl, Nat.le_of_ble_eq_true rfl⟩ ?_
  refine w_ifb_eq 19 dX10_hear_5 (by decide) (fun hc1 => ?_) (fun hc1 => ?_)
  · refine w_iconst dX10_hear_19 ?_
    refine x_iret rfl (by rfl) dX10_hear_20 (pr_end ?_ ?_ rfl rfl rfl rfl rfl rfl)
    · rw [bI_f (by omega)]
    · rw [if_neg (by omega)]
  · refine w_iload_n dX10_hear_8 rfl rfl ?_
    refine w_bipush dX10_hear_9 (by decide) ?_
    refine w_bipush dX10_hear_11 (by decide) ?_
    refine wc_S (Z := mX10_isIn) (As := [_, _, _]) (c_isIn hx (by unfold ok32; omega) (by unfold ok32; omega)) kX10_isIn lX10_70 sX10_isIn dX10_hear_13 rfl rfl rfl (Nat.le_of_ble_eq_true rfl) ⟨Nat.le_of_ble_eq_true rfl, Nat.le_of_ble_eq_true rfl⟩ ?_
    refine w_ifb_ne 21 dX10_hear_16 (by decide) (fun hc2 => ?_) (fun hc2 => ?_)
    rotate_left
    · refine w_iconst dX10_hear_19 ?_
      refine x_iret rfl (by rfl) dX10_hear_20 (pr_end ?_ ?_ rfl rfl rfl rfl rfl rfl)
      · rw [bI_f (by omega)]
      · rw [if_neg (by omega)]
    · refine w_aload_n dX10_hear_21 rfl rfl ?_
      refine wc_Vv (Z := mX10_keep) (As := []) (c_keep h1 ⟨h20.1, h2⟩) RH0 rfl kX10_keep lX10_215 iX10_keep vX10_keep dX10_hear_22 rfl rfl rfl (Nat.le_of_ble_eq_true rfl) ⟨Nat.le_of_ble_eq_true rfl, Nat.le_of_ble_eq_true rfl⟩ ?_
      refine w_aload_n dX10_hear_25 rfl rfl ?_
      refine w_getf fX10_7 dX10_hear_26 RH0 rfl ?_
      refine w_bipush dX10_hear_29 (by decide) ?_
      refine w_iload_n dX10_hear_31 rfl rfl ?_
      refine w_iadd dX10_hear_32 ?_
      refine w_iload_n dX10_hear_33 rfl rfl ?_
      refine r_ist1K (48 + z.toNat) (by omega) (by omega) dX10_hear_34 ?_
      refine w_iconst dX10_hear_35 ?_
      refine x_iret rfl (by rfl) dX10_hear_36 (pr_end ?_ ?_ rfl rfl rfl rfl rfl rfl)
      · rw [bI_t (by omega)]
      · rw [if_pos (by omega)]
/-- what is sent is drawn and heard, the first bits -/
def snN (A : Nat → Int) (x : BitVec 64) (lv sp : Int) : Nat → Nat → Int
  | 0 => A
  | b + 1 => u1 (u1 (snN A x lv sp b) 12 ((snN A x lv sp b 12 * 839 + 577) % 30071)) (48 + b) (if bI (x.getLsbD b = true) = bI ((snN A x lv sp b 12 * 839 + 577) % 30071 % 100 < sp) then lv else -lv)
def snC (A : Nat → Int) (x : BitVec 64) (lv sp : Int) : Nat → Int
  | 0 => 0
  | b + 1 => snC A x lv sp b + bI ((snN A x lv sp b 12 * 839 + 577) % 30071 % 100 < sp)
theorem loE {k : Nat} (hk : k < 48) : loA (48 + k) = -31 := by unfold loA; (repeat' split) <;> omega
theorem hiE {k : Nat} (hk : k < 48) : hiA (48 + k) = 31 := by unfold hiA; (repeat' split) <;> omega
theorem snN_i {A : Nat → Int} {x : BitVec 64} {lv sp : Int} (hI : INV A) (hl : 1 ≤ lv ∧ lv ≤ 31) : ∀ {n : Nat}, n ≤ 48 → INV (snN A x lv sp n)
  | 0, _ => hI
  | n + 1, hn => by
    have ih := snN_i (x := x) (sp := sp) hI hl (n := n) (by omega)
    unfold snN
    refine INV.put (INV.put ih (show (0 : Int) ≤ (snN A x lv sp n 12 * 839 + 577) % 30071 ∧ (snN A x lv sp n 12 * 839 + 577) % 30071 ≤ 30070 by omega)) ?_
    rw [loE (by omega), hiE (by omega)]
    split <;> omega
theorem snN_n {A : Nat → Int} {x : BitVec 64} {lv sp : Int} {k : Nat} (h1 : k ≠ 12) : ∀ {n : Nat}, ¬ (48 ≤ k ∧ k < 48 + n) → snN A x lv sp n k = A k
  | 0, _ => rfl
  | n + 1, hn => by
    unfold snN
    rw [u1_n (by omega), u1_n h1]
    exact snN_n h1 (by omega)
theorem snN_top {A : Nat → Int} {x : BitVec 64} {lv sp : Int} {L R C n : Nat} (hT : TOP A L R C) (hl : 1 ≤ lv ∧ lv ≤ 31) (hn : n ≤ 48) : TOP (snN A x lv sp n) L R C :=
  ⟨snN_i hT.1 hl hn, hT.2.1.of (fun k a1 a2 a3 => snN_n (by omega) (by omega)), hT.2.2.1.of (fun k a1 a2 a3 a4 => snN_n a3 (by omega)), by rw [snN_n (by omega) (by omega)]; exact hT.2.2.2⟩
theorem snC_rng {A : Nat → Int} {x : BitVec 64} {lv sp : Int} : ∀ {n : Nat}, 0 ≤ snC A x lv sp n ∧ snC A x lv sp n ≤ n
  | 0 => ⟨by show (0 : Int) ≤ 0; decide, by show (0 : Int) ≤ 0; decide⟩
  | n + 1 => by
    have ih := snC_rng (A := A) (x := x) (lv := lv) (sp := sp) (n := n)
    have hb := bI_rng ((snN A x lv sp n 12 * 839 + 577) % 30071 % 100 < sp)
    unfold snC
    omega
set_option maxRecDepth 4000 in
theorem c_sendNow {r : Nat} {A : Nat → Int} {ia : Nat → Nat → Int} {la : Nat → Nat → BitVec 64} {fi : Nat → Int} {fl : Nat → BitVec 64} {h0 : HP} {L R C : Nat} {l p : Int} (hT : TOP A L R C) (hl : 1 ≤ l ∧ l ≤ 31) (hp : 0 ≤ p ∧ p ≤ 100) : sp mX10_sendNow [.ref r, .int (zI l), .int (zI p)] (RH r A ia la fi fl h0) 0 0 (pd (some (.int (zI (snC A (sentB A) l p (L * C))))) (RH r (snN A (sentB A) l p (L * C)) ia la fi fl h0)) := by
  obtain ⟨hI, hV, hS, h2⟩ := id hT
  obtain ⟨v1, v2, v3, v4, v5, v6, v7⟩ := id hV
  have h1 : 0 ≤ A 1 ∧ A 1 ≤ 20 := hI 1
  have h20 : 0 ≤ A 2 ∧ A 2 ≤ 20 := hI 2
  have hLC : (L : Int) * C ≤ 48 := by exact_mod_cast mulLe (a := L) (b := C) (x := 6) (y := 8) (by omega) (by omega)
  have hLC0 : (0 : Int) ≤ (L : Int) * C := by exact_mod_cast Nat.zero_le (L * C)
  have hLR : (L : Int) * R ≤ 24 := by exact_mod_cast mulLe (a := L) (b := R) (x := 6) (y := 4) (by omega) (by omega)
  have hLR0 : (0 : Int) ≤ (L : Int) * R := by exact_mod_cast Nat.zero_le (L * R)
  have hLCn := mulLe (a := L) (b := C) (x := 6) (y := 8) (by omega) (by omega)
  refine sp_wp rfl (lv := [_, _, _, _, _, _, _, _]) rfl (Nat.le_of_ble_eq_true rfl) ?_
  refine w_iconst dX10_sendNow_0 ?_
  refine w_istore_n (lv' := [_, _, _, _, _, _, _, _]) dX10_sendNow_1 rfl (Nat.le_of_ble_eq_true rfl) rfl rfl ?_
  refine w_aload_n dX10_sendNow_2 rfl rfl ?_
  refine wc_V (Z := mX10_sentSet) (As := []) (c_sentSet (hI.ok 46) (hI.ok 47)) RH0 rfl kX10_sentSet lX10_234 iX10_sentSet vX10_sentSet dX10_sendNow_3 rfl rfl rfl (Nat.le_of_ble_eq_true rfl) ⟨Nat.le_of_ble_eq_true rfl, Nat.le_of_ble_eq_true rfl⟩ ?_
  refine w_lstore (lv' := [_, _, _, _, _, _, _, _]) dX10_sendNow_6 (Nat.le_of_ble_eq_true rfl) rfl rfl ?_
  refine w_iconst dX10_sendNow_8 ?_
  refine w_istore (lv' := [_, _, _, _, _, _, _, _]) dX10_sendNow_9 (Nat.le_of_ble_eq_true rfl) rfl rfl ?_
  have key : ∀ b : Nat, b ≤ L * C → ∀ x7 : Value, wp mX10_sendNow 11 [.ref r, .int (zI l), .int (zI p), .int (zI (snC A (sentB A) l p b)), .long (lB (sentB A)), jk, .int (zI (b : Int)), x7] [] (RH r (snN A (sentB A) l p b) ia la fi fl h0) 0 0 (pd (some (.int (zI (snC A (sentB A) l p (L * C))))) (RH r (snN A (sentB A) l p (L * C)) ia la fi fl h0)) := by
    refine up_ind (N := L * C) (fun b hb ih => ?_)
    intro x7
    obtain ⟨tI, tV, tS, t2⟩ := snN_top (x := sentB A) (sp := p) hT hl (show b ≤ 48 by omega)
    have h12 : 0 ≤ snN A (sentB A) l p b 12 ∧ snN A (sentB A) l p b 12 ≤ 30070 := tI 12
    refine w_iload dX10_sendNow_11 rfl ?_
    refine w_aload_n dX10_sendNow_13 rfl rfl ?_
    refine wc_V (Z := mX10_bits) (As := []) c_bits RH0 rfl kX10_bits lX10_66 iX10_bits vX10_bits dX10_sendNow_14 rfl rfl rfl (Nat.le_of_ble_eq_true rfl) ⟨Nat.le_of_ble_eq_true rfl, Nat.le_of_ble_eq_true rfl⟩ ?_
    rw [tV.1, tV.2.2.1]
    refine w_icmp_ge 114 dX10_sendNow_17 (by decide) (by unfold ok32; omega) (by unfold ok32; omega) (fun hn => ?_) (fun hn => ?_)
    · have eb : b = L * C := by omega
      subst eb
      refine w_iload_n dX10_sendNow_114 rfl rfl ?_
      refine x_iret rfl rfl dX10_sendNow_115 ⟨rfl, rfl⟩
    · refine w_aload_n dX10_sendNow_20 rfl rfl ?_
      refine w_getf fX10_7 dX10_sendNow_21 RH0 rfl ?_
      refine w_bipush dX10_sendNow_24 (by decide) ?_
      refine w_aload_n dX10_sendNow_26 rfl rfl ?_
      refine w_getf fX10_7 dX10_sendNow_27 RH0 rfl ?_
      refine w_bipush dX10_sendNow_30 (by decide) ?_
      refine w_iald 12 RH1 rfl (by decide) (by decide) dX10_sendNow_32 ?_
      refine w_sipush dX10_sendNow_33 (by decide) ?_
      refine w_imul dX10_sendNow_36 ?_
      refine w_sipush dX10_sendNow_37 (by decide) ?_
      refine w_iadd dX10_sendNow_40 ?_
      refine w_sipush dX10_sendNow_41 (by decide) ?_
      refine w_irem dX10_sendNow_44 (by unfold ok32; omega) (by omega) (by omega) (by unfold ok32; omega) ?_
      refine r_ist1K 12 rfl (by decide) dX10_sendNow_45 ?_
      refine w_aload_n dX10_sendNow_46 rfl rfl ?_
      refine w_getf fX10_7 dX10_sendNow_47 RH0 rfl ?_
      refine w_bipush dX10_sendNow_50 (by decide) ?_
      refine w_iald 12 RH1 rfl (by decide) (by decide) dX10_sendNow_52 ?_
      refine w_bipush dX10_sendNow_53 (by decide) ?_
      rw [u1_s]
      refine w_irem dX10_sendNow_55 (by unfold ok32; omega) (by omega) (by omega) (by unfold ok32; omega) ?_
      refine w_iload_n dX10_sendNow_56 rfl rfl ?_
      have fin : ∀ (P0 : Prop) [Decidable P0] (e : bI P0 = bI ((snN A (sentB A) l p b 12 * 839 + 577) % 30071 % 100 < p)), wp mX10_sendNow 67 [.ref r, .int (zI l), .int (zI p), .int (zI (snC A (sentB A) l p b)), .long (lB (sentB A)), jk, .int (zI (b : Int)), .int (zI (bI P0))] [] (RH r (u1 (snN A (sentB A) l p b) 12 ((snN A (sentB A) l p b 12 * 839 + 577) % 30071)) ia la fi fl h0) 0 0 (pd (some (.int (zI (snC A (sentB A) l p (L * C))))) (RH r (snN A (sentB A) l p (L * C)) ia la fi fl h0)) := by
        intro P0 _ e
        have fin2 : wp mX10_sendNow 80 [.ref r, .int (zI l), .int (zI p), .int (zI (snC A (sentB A) l p (b + 1))), .long (lB (sentB A)), jk, .int (zI (b : Int)), .int (zI (bI P0))] [] (RH r (u1 (snN A (sentB A) l p b) 12 ((snN A (sentB A) l p b 12 * 839 + 577) % 30071)) ia la fi fl h0) 0 0 (pd (some (.int (zI (snC A (sentB A) l p (L * C))))) (RH r (snN A (sentB A) l p (L * C)) ia la fi fl h0)) := by
          refine w_aload_n dX10_sendNow_80 rfl rfl ?_
          refine w_getf fX10_7 dX10_sendNow_81 RH0 rfl ?_
          refine w_bipush dX10_sendNow_84 (by decide) ?_
          refine w_iload dX10_sendNow_86 rfl ?_
          refine w_iadd dX10_sendNow_88 ?_
          refine w_lload dX10_sendNow_89 rfl ?_
          refine w_iload dX10_sendNow_91 rfl ?_
          refine wc_S (Z := mX10_hasIt) (As := [_, _]) (c_hasIt (by omega)) kX10_hasIt lX10_62 sX10_hasIt dX10_sendNow_93 rfl rfl rfl (Nat.le_of_ble_eq_true rfl) ⟨Nat.le_of_ble_eq_true rfl, Nat.le_of_ble_eq_true rfl⟩ ?_
          refine w_iload dX10_sendNow_96 rfl ?_
          refine w_icmp_eq 106 dX10_sendNow_98 (by decide) (bI_ok _) (bI_ok _) (fun hq => ?_) (fun hq => ?_)
          · refine w_iload_n dX10_sendNow_106 rfl rfl ?_
            refine r_ist1K (48 + b) (by omega) (by omega) dX10_sendNow_107 ?_
            refine w_iinc (lv' := [_, _, _, _, _, _, _, _]) dX10_sendNow_108 rfl rfl rfl ?_
            refine w_goto 11 dX10_sendNow_111 (by decide) ?_
            refine w_cast rfl rfl ?_ (ih (by omega) _)
            rw [snN, if_pos (by rw [← e]; exact hq)]
          · refine w_iload_n dX10_sendNow_101 rfl rfl ?_
            refine w_ineg dX10_sendNow_102 ?_
            refine w_goto 107 dX10_sendNow_103 (by decide) ?_
            refine r_ist1K (48 + b) (by omega) (by omega) dX10_sendNow_107 ?_
            refine w_iinc (lv' := [_, _, _, _, _, _, _, _]) dX10_sendNow_108 rfl rfl rfl ?_
            refine w_goto 11 dX10_sendNow_111 (by decide) ?_
            refine w_cast rfl rfl ?_ (ih (by omega) _)
            rw [snN, if_neg (by rw [← e]; exact hq)]
        have hcr := snC_rng (A := A) (x := sentB A) (lv := l) (sp := p) (n := b)
        refine w_iload_n dX10_sendNow_67 rfl rfl ?_
        refine w_iload dX10_sendNow_68 rfl ?_
        refine w_ifb_eq 77 dX10_sendNow_70 (by decide) (fun hb0 => ?_) (fun hb0 => ?_)
        · refine w_iconst dX10_sendNow_77 ?_
          refine w_iadd dX10_sendNow_78 ?_
          refine w_istore_n (lv' := [_, _, _, _, _, _, _, _]) dX10_sendNow_79 rfl (Nat.le_of_ble_eq_true rfl) rfl rfl ?_
          refine w_cast ?_ rfl rfl fin2
          rw [snC, ← e, bI_f hb0]
        · refine w_iconst dX10_sendNow_73 ?_
          refine w_goto 78 dX10_sendNow_74 (by decide) ?_
          refine w_iadd dX10_sendNow_78 ?_
          refine w_istore_n (lv' := [_, _, _, _, _, _, _, _]) dX10_sendNow_79 rfl (Nat.le_of_ble_eq_true rfl) rfl rfl ?_
          refine w_cast ?_ rfl rfl fin2
          rw [snC, ← e, bI_t hb0]
      refine w_icmp_ge 64 dX10_sendNow_57 (by decide) (by unfold ok32; omega) (by unfold ok32; omega) (fun hsp => ?_) (fun hsp => ?_)
      · refine w_iconst dX10_sendNow_64 ?_
        refine w_istore (lv' := [_, _, _, _, _, _, _, _]) dX10_sendNow_65 (Nat.le_of_ble_eq_true rfl) rfl rfl ?_
        exact fin False ((bI_f (fun z => z)).trans (bI_f (by omega)).symm)
      · refine w_iconst dX10_sendNow_60 ?_
        refine w_goto 65 dX10_sendNow_61 (by decide) ?_
        refine w_istore (lv' := [_, _, _, _, _, _, _, _]) dX10_sendNow_65 (Nat.le_of_ble_eq_true rfl) rfl rfl ?_
        exact fin True ((bI_t trivial).trans (bI_t (by omega)).symm)
  exact key 0 (Nat.zero_le _) jk

set_option maxRecDepth 4000 in
theorem c_send {r : Nat} {A : Nat → Int} {ia : Nat → Nat → Int} {la : Nat → Nat → BitVec 64} {fi : Nat → Int} {fl : Nat → BitVec 64} {h0 : HP} {L R C : Nat} {z x : Int} (hT : TOP A L R C) (hz : ok32 z) (hx : ok32 x) : sp mX10_send [.ref r, .int (zI z), .int (zI x)] (RH r A ia la fi fl h0) 0 0 (pr (some (.int (zI (if (1 ≤ z ∧ z ≤ 31) ∧ 0 ≤ x ∧ x ≤ 100 then snC (kpA A) (sentB A) z x (L * C) else -1)))) r (if (1 ≤ z ∧ z ≤ 31) ∧ 0 ≤ x ∧ x ≤ 100 then snN (kpA A) (sentB A) z x (L * C) else A) ia fi h0) := by
  obtain ⟨hI, hV, hS, h2⟩ := id hT
  obtain ⟨v1, v2, v3, v4, v5, v6, v7⟩ := id hV
  have h1 : 0 ≤ A 1 ∧ A 1 ≤ 20 := hI 1
  have h20 : 0 ≤ A 2 ∧ A 2 ≤ 20 := hI 2
  have hLC : (L : Int) * C ≤ 48 := by exact_mod_cast mulLe (a := L) (b := C) (x := 6) (y := 8) (by omega) (by omega)
  have hLC0 : (0 : Int) ≤ (L : Int) * C := by exact_mod_cast Nat.zero_le (L * C)
  have hLR : (L : Int) * R ≤ 24 := by exact_mod_cast mulLe (a := L) (b := R) (x := 6) (y := 4) (by omega) (by omega)
  have hLR0 : (0 : Int) ≤ (L : Int) * R := by exact_mod_cast Nat.zero_le (L * R)
  refine sp_wp rfl (lv := [_, _, _]) rfl (Nat.le_of_ble_eq_true rfl) ?_
  refine w_iload_n dX10_send_0 rfl rfl ?_
  refine w_iload_n dX10_send_1 rfl rfl ?_
  refine wc_S (Z := mX10_isSending) (As := [_, _]) (c_isSending hz hx) kX10_isSending lX10_240 sX10_isSending dX10_send_2 rfl rfl rfl (Nat.le_of_ble_eq_true rfl) ⟨Nat.le_of_ble_eq_true rfl, Nat.le_of_ble_eq_true rfl⟩ ?_
  refine w_ifb_ne 10 dX10_send_5 (by decide) (fun hc1 => ?_) (fun hc1 => ?_)
  rotate_left
  · refine w_iconst dX10_send_8 ?_
    refine x_iret rfl rfl dX10_send_9 (pr_end ?_ ?_ rfl rfl rfl rfl rfl rfl)
    · rw [if_neg hc1]
    · rw [if_neg hc1]
  · have eS : sentB (kpA A) = sentB A := by unfold sentB; rw [kpA_n (by omega) (by omega), kpA_n (by omega) (by omega)]
    refine w_aload_n dX10_send_10 rfl rfl ?_
    refine wc_Vv (Z := mX10_keep) (As := []) (c_keep h1 ⟨h20.1, h2⟩) RH0 rfl kX10_keep lX10_215 iX10_keep vX10_keep dX10_send_11 rfl rfl rfl (Nat.le_of_ble_eq_true rfl) ⟨Nat.le_of_ble_eq_true rfl, Nat.le_of_ble_eq_true rfl⟩ ?_
    refine w_aload_n dX10_send_14 rfl rfl ?_
    refine w_iload_n dX10_send_15 rfl rfl ?_
    refine w_iload_n dX10_send_16 rfl rfl ?_
    refine wc_V (Z := mX10_sendNow) (As := [_, _]) (c_sendNow (kpA_top hT) hc1.1 hc1.2) RH0 rfl kX10_sendNow lX10_243 iX10_sendNow vX10_sendNow dX10_send_17 rfl rfl rfl (Nat.le_of_ble_eq_true rfl) ⟨Nat.le_of_ble_eq_true rfl, Nat.le_of_ble_eq_true rfl⟩ ?_
    refine x_iret rfl rfl dX10_send_20 (pr_end ?_ ?_ rfl rfl rfl rfl rfl rfl)
    · rw [if_pos hc1, eS]
    · rw [if_pos hc1, eS]

set_option maxRecDepth 4000 in
theorem c_begin {r : Nat} {A : Nat → Int} {ia : Nat → Nat → Int} {la : Nat → Nat → BitVec 64} {fi : Nat → Int} {fl : Nat → BitVec 64} {h0 : HP} {L R C : Nat} {z : Int} (hT : TOP A L R C) (hz : ok32 z) : sp mX10_begin [.ref r, .int (zI z)] (RH r A ia la fi fl h0) 0 0 (pr (some (.int (zI (if 0 ≤ z ∧ z ≤ 1 then bgA (kpA A) z L R C 9 else -1)))) r (if 0 ≤ z ∧ z ≤ 1 then bgA (kpA A) z L R C else A) ia fi h0) := by
  obtain ⟨hI, hV, hS, h2⟩ := id hT
  obtain ⟨v1, v2, v3, v4, v5, v6, v7⟩ := id hV
  have h1 : 0 ≤ A 1 ∧ A 1 ≤ 20 := hI 1
  have h20 : 0 ≤ A 2 ∧ A 2 ≤ 20 := hI 2
  have hLC : (L : Int) * C ≤ 48 := by exact_mod_cast mulLe (a := L) (b := C) (x := 6) (y := 8) (by omega) (by omega)
  have hLC0 : (0 : Int) ≤ (L : Int) * C := by exact_mod_cast Nat.zero_le (L * C)
  have hLR : (L : Int) * R ≤ 24 := by exact_mod_cast mulLe (a := L) (b := R) (x := 6) (y := 4) (by omega) (by omega)
  have hLR0 : (0 : Int) ≤ (L : Int) * R := by exact_mod_cast Nat.zero_le (L * R)
  refine sp_wp rfl (lv := [_, _]) rfl (Nat.le_of_ble_eq_true rfl) ?_
  refine w_iload_n dX10_begin_0 rfl rfl ?_
  refine w_iconst dX10_begin_1 ?_
  refine w_iconst dX10_begin_2 ?_
  refine wc_S (Z := mX10_isIn) (As := [_, _, _]) (c_isIn hz (by unfold ok32; omega) (by unfold ok32; omega)) kX10_isIn lX10_70 sX10_isIn dX10_begin_3 rfl rfl rfl (Nat.le_of_ble_eq_true rfl) ⟨Nat.le_of_ble_eq_true rfl, Nat.le_of_ble_eq_true rfl⟩ ?_
  refine w_ifb_ne 11 dX10_begin_6 (by decide) (fun hc1 => ?_) (fun hc1 => ?_)
  rotate_left
  · refine w_iconst dX10_begin_9 ?_
    refine x_iret rfl rfl dX10_begin_10 (pr_end ?_ ?_ rfl rfl rfl rfl rfl rfl)
    · rw [if_neg hc1]
    · rw [if_neg hc1]
  · obtain ⟨kI, kV, kS, k2⟩ := kpA_top hT
    refine w_aload_n dX10_begin_11 rfl rfl ?_
    refine wc_Vv (Z := mX10_keep) (As := []) (c_keep h1 ⟨h20.1, h2⟩) RH0 rfl kX10_keep lX10_215 iX10_keep vX10_keep dX10_begin_12 rfl rfl rfl (Nat.le_of_ble_eq_true rfl) ⟨Nat.le_of_ble_eq_true rfl, Nat.le_of_ble_eq_true rfl⟩ ?_
    refine w_aload_n dX10_begin_15 rfl rfl ?_
    refine w_iload_n dX10_begin_16 rfl rfl ?_
    refine wc_Vv (Z := mX10_beginNow) (As := [_]) (c_beginNow kV kI.ok hz) RH0 rfl kX10_beginNow lX10_54 iX10_beginNow vX10_beginNow dX10_begin_17 rfl rfl rfl (Nat.le_of_ble_eq_true rfl) ⟨Nat.le_of_ble_eq_true rfl, Nat.le_of_ble_eq_true rfl⟩ ?_
    refine w_aload_n dX10_begin_20 rfl rfl ?_
    refine w_getf fX10_7 dX10_begin_21 RH0 rfl ?_
    refine w_bipush dX10_begin_24 (by decide) ?_
    refine w_iald 9 RH1 rfl (by decide) (by decide) dX10_begin_26 ?_
    refine x_iret rfl rfl dX10_begin_27 (pr_end ?_ ?_ rfl rfl rfl rfl rfl rfl)
    · rw [if_pos hc1]
    · rw [if_pos hc1]

set_option maxRecDepth 4000 in
theorem c_order {r : Nat} {A : Nat → Int} {ia : Nat → Nat → Int} {la : Nat → Nat → BitVec 64} {fi : Nat → Int} {fl : Nat → BitVec 64} {h0 : HP} {L R C : Nat} {z : Int} (hT : TOP A L R C) (hz : ok32 z) : sp mX10_order [.ref r, .int (zI z)] (RH r A ia la fi fl h0) 0 0 (pr (some (.int (zI (bI (0 ≤ z ∧ z ≤ (fac R : Int) - 1))))) r (if 0 ≤ z ∧ z ≤ (fac R : Int) - 1 then bgA (u1 (kpA A) 13 z) (A 8) L R C else A) ia fi h0) := by
  obtain ⟨hI, hV, hS, h2⟩ := id hT
  obtain ⟨v1, v2, v3, v4, v5, v6, v7⟩ := id hV
  have h1 : 0 ≤ A 1 ∧ A 1 ≤ 20 := hI 1
  have h20 : 0 ≤ A 2 ∧ A 2 ≤ 20 := hI 2
  have hLC : (L : Int) * C ≤ 48 := by exact_mod_cast mulLe (a := L) (b := C) (x := 6) (y := 8) (by omega) (by omega)
  have hLC0 : (0 : Int) ≤ (L : Int) * C := by exact_mod_cast Nat.zero_le (L * C)
  have hLR : (L : Int) * R ≤ 24 := by exact_mod_cast mulLe (a := L) (b := R) (x := 6) (y := 4) (by omega) (by omega)
  have hLR0 : (0 : Int) ≤ (L : Int) * R := by exact_mod_cast Nat.zero_le (L * R)
  have hf := fac_le v5.2
  refine sp_wp rfl (lv := [_, _]) rfl (Nat.le_of_ble_eq_true rfl) ?_
  refine w_iload_n dX10_order_0 rfl rfl ?_
  refine w_iconst dX10_order_1 ?_
  refine w_aload_n dX10_order_2 rfl rfl ?_
  refine wc_V (Z := mX10_orders) (As := []) (c_orders v2 v5) RH0 rfl kX10_orders lX10_153 iX10_orders vX10_orders dX10_order_3 rfl rfl rfl (Nat.le_of_ble_eq_true rfl) ⟨Nat.le_of_ble_eq_true rfl, Nat.le_of_ble_eq_true rfl⟩ ?_
  refine w_iconst dX10_order_6 ?_
  refine w_isub dX10_order_7 ?_
  refine wc_S (Z := mX10_isIn) (As := [_, _, _]) (c_isIn hz (by unfold ok32; omega) (by unfold ok32; omega)) kX10_isIn lX10_70 sX10_isIn dX10_order_8 rfl rfl rfl (Nat.le_of_ble_eq_true rfl) ⟨Nat.le_of_ble_eq_true rfl, Nat.le_of_ble_eq_true rfl⟩ ?_
  refine w_ifb_ne 16 dX10_order_11 (by decide) (fun hc1 => ?_) (fun hc1 => ?_)
  rotate_left
  · refine w_iconst dX10_order_14 ?_
    refine x_iret rfl (by rfl) dX10_order_15 (pr_end ?_ ?_ rfl rfl rfl rfl rfl rfl)
    · rw [bI_f hc1]
    · rw [if_neg hc1]
  · obtain ⟨kI, kV, kS, k2⟩ := kpA_top hT
    refine w_aload_n dX10_order_16 rfl rfl ?_
    refine wc_Vv (Z := mX10_keep) (As := []) (c_keep h1 ⟨h20.1, h2⟩) RH0 rfl kX10_keep lX10_215 iX10_keep vX10_keep dX10_order_17 rfl rfl rfl (Nat.le_of_ble_eq_true rfl) ⟨Nat.le_of_ble_eq_true rfl, Nat.le_of_ble_eq_true rfl⟩ ?_
    refine w_aload_n dX10_order_20 rfl rfl ?_
    refine w_getf fX10_7 dX10_order_21 RH0 rfl ?_
    refine w_bipush dX10_order_24 (by decide) ?_
    refine w_iload_n dX10_order_26 rfl rfl ?_
    refine r_ist1K 13 rfl (by decide) dX10_order_27 ?_
    refine w_aload_n dX10_order_28 rfl rfl ?_
    refine w_aload_n dX10_order_29 rfl rfl ?_
    refine w_getf fX10_7 dX10_order_30 RH0 rfl ?_
    refine w_bipush dX10_order_33 (by decide) ?_
    refine w_iald 8 RH1 rfl (by decide) (by decide) dX10_order_35 ?_
    rw [u1_n (by omega), kpA_n (by omega) (by omega)]
    refine wc_Vv (Z := mX10_beginNow) (As := [_]) (c_beginNow (A := u1 (kpA A) 13 z) (kV.put (by omega) (by omega)) (u1_all (P := fun _ x => ok32 x) kI.ok hz) (hI.ok 8)) RH0 rfl kX10_beginNow lX10_54 iX10_beginNow vX10_beginNow dX10_order_36 rfl rfl rfl (Nat.le_of_ble_eq_true rfl) ⟨Nat.le_of_ble_eq_true rfl, Nat.le_of_ble_eq_true rfl⟩ ?_
    refine w_iconst dX10_order_39 ?_
    refine x_iret rfl (by rfl) dX10_order_40 (pr_end ?_ ?_ rfl rfl rfl rfl rfl rfl)
    · rw [bI_t hc1]
    · rw [if_pos hc1]

set_option maxRecDepth 4000 in
theorem c_step {r : Nat} {A : Nat → Int} {ia : Nat → Nat → Int} {la : Nat → Nat → BitVec 64} {fi : Nat → Int} {fl : Nat → BitVec 64} {h0 : HP} {L R C : Nat} {z : Int} (hT : TOP A L R C) (hz : ok32 z) : sp mX10_step [.ref r, .int (zI z)] (RH r A ia la fi fl h0) 0 0 (pr (some (.int (zI (if (1 ≤ z ∧ z ≤ 80) ∧ A 9 = 0 then ((stpC (kpA A) L R C z.toNat : Nat) : Int) else -1)))) r (if (1 ≤ z ∧ z ≤ 80) ∧ A 9 = 0 then stpN (kpA A) L R C z.toNat else A) ia fi h0) := by
  obtain ⟨hI, hV, hS, h2⟩ := id hT
  obtain ⟨v1, v2, v3, v4, v5, v6, v7⟩ := id hV
  have h1 : 0 ≤ A 1 ∧ A 1 ≤ 20 := hI 1
  have h20 : 0 ≤ A 2 ∧ A 2 ≤ 20 := hI 2
  have hLC : (L : Int) * C ≤ 48 := by exact_mod_cast mulLe (a := L) (b := C) (x := 6) (y := 8) (by omega) (by omega)
  have hLC0 : (0 : Int) ≤ (L : Int) * C := by exact_mod_cast Nat.zero_le (L * C)
  have hLR : (L : Int) * R ≤ 24 := by exact_mod_cast mulLe (a := L) (b := R) (x := 6) (y := 4) (by omega) (by omega)
  have hLR0 : (0 : Int) ≤ (L : Int) * R := by exact_mod_cast Nat.zero_le (L * R)
  refine sp_wp rfl (lv := [_, _]) rfl (Nat.le_of_ble_eq_true rfl) ?_
  refine w_iload_n dX10_step_0 rfl rfl ?_
  refine w_iconst dX10_step_1 ?_
  refine w_bipush dX10_step_2 (by decide) ?_
  refine wc_S (Z := mX10_isIn) (As := [_, _, _]) (c_isIn hz (by unfold ok32; omega) (by unfold ok32; omega)) kX10_isIn lX10_70 sX10_isIn dX10_step_4 rfl rfl rfl (Nat.le_of_ble_eq_true rfl) ⟨Nat.le_of_ble_eq_true rfl, Nat.le_of_ble_eq_true rfl⟩ ?_
  refine w_ifb_eq 20 dX10_step_7 (by decide) (fun hc1 => ?_) (fun hc1 => ?_)
  · refine w_iconst dX10_step_20 ?_
    refine x_iret rfl rfl dX10_step_21 (pr_end ?_ ?_ rfl rfl rfl rfl rfl rfl)
    · rw [if_neg (by omega)]
    · rw [if_neg (by omega)]
  · refine w_aload_n dX10_step_10 rfl rfl ?_
    refine w_getf fX10_7 dX10_step_11 RH0 rfl ?_
    refine w_bipush dX10_step_14 (by decide) ?_
    refine w_iald 9 RH1 rfl (by decide) (by decide) dX10_step_16 ?_
    refine w_if_eq 22 dX10_step_17 (by decide) (hI.ok 9) (fun hc2 => ?_) (fun hc2 => ?_)
    rotate_left
    · refine w_iconst dX10_step_20 ?_
      refine x_iret rfl rfl dX10_step_21 (pr_end ?_ ?_ rfl rfl rfl rfl rfl rfl)
      · rw [if_neg (by omega)]
      · rw [if_neg (by omega)]
    · obtain ⟨kI, kV, kS, k2⟩ := kpA_top hT
      refine w_aload_n dX10_step_22 rfl rfl ?_
      refine wc_Vv (Z := mX10_keep) (As := []) (c_keep h1 ⟨h20.1, h2⟩) RH0 rfl kX10_keep lX10_215 iX10_keep vX10_keep dX10_step_23 rfl rfl rfl (Nat.le_of_ble_eq_true rfl) ⟨Nat.le_of_ble_eq_true rfl, Nat.le_of_ble_eq_true rfl⟩ ?_
      refine w_aload_n dX10_step_26 rfl rfl ?_
      refine w_iload_n dX10_step_27 rfl rfl ?_
      rw [show z = ((z.toNat : Nat) : Int) by omega]
      refine wx_V (Z := mX10_stepsNow) (As := [_]) (c_stepsNow kI kV kS (by omega)) RH0 rfl kX10_stepsNow lX10_246 iX10_stepsNow vX10_stepsNow dX10_step_28 rfl rfl rfl (Nat.le_of_ble_eq_true rfl) ⟨Nat.le_of_ble_eq_true rfl, Nat.le_of_ble_eq_true rfl⟩ (fun q hq => ?_)
      rw [← show z = ((z.toNat : Nat) : Int) by omega]
      refine x_iret rfl rfl dX10_step_31 (pr_end ?_ ?_ rfl rfl rfl rfl rfl rfl)
      · rw [if_pos (by omega)]
      · rw [if_pos (by omega)]

set_option maxRecDepth 4000 in
theorem c_tell {r : Nat} {A : Nat → Int} {ia : Nat → Nat → Int} {la : Nat → Nat → BitVec 64} {fi : Nat → Int} {fl : Nat → BitVec 64} {h0 : HP} {L R C : Nat} {z : Int} (hT : TOP A L R C) (hz : ok32 z) : sp mX10_tell [.ref r, .int (zI z)] (RH r A ia la fi fl h0) 0 0 (pr (some (.int (zI (bI (0 ≤ z ∧ z ≤ 30070))))) r (if 0 ≤ z ∧ z ≤ 30070 then u1 A 12 z else A) ia fi h0) := by
  obtain ⟨hI, hV, hS, h2⟩ := id hT
  obtain ⟨v1, v2, v3, v4, v5, v6, v7⟩ := id hV
  have h1 : 0 ≤ A 1 ∧ A 1 ≤ 20 := hI 1
  have h20 : 0 ≤ A 2 ∧ A 2 ≤ 20 := hI 2
  have hLC : (L : Int) * C ≤ 48 := by exact_mod_cast mulLe (a := L) (b := C) (x := 6) (y := 8) (by omega) (by omega)
  have hLC0 : (0 : Int) ≤ (L : Int) * C := by exact_mod_cast Nat.zero_le (L * C)
  have hLR : (L : Int) * R ≤ 24 := by exact_mod_cast mulLe (a := L) (b := R) (x := 6) (y := 4) (by omega) (by omega)
  have hLR0 : (0 : Int) ≤ (L : Int) * R := by exact_mod_cast Nat.zero_le (L * R)
  refine sp_wp rfl (lv := [_, _]) rfl (Nat.le_of_ble_eq_true rfl) ?_
  refine w_iload_n dX10_tell_0 rfl rfl ?_
  refine w_iconst dX10_tell_1 ?_
  refine w_sipush dX10_tell_2 (by decide) ?_
  refine wc_S (Z := mX10_isIn) (As := [_, _, _]) (c_isIn hz (by unfold ok32; omega) (by unfold ok32; omega)) kX10_isIn lX10_70 sX10_isIn dX10_tell_5 rfl rfl rfl (Nat.le_of_ble_eq_true rfl) ⟨Nat.le_of_ble_eq_true rfl, Nat.le_of_ble_eq_true rfl⟩ ?_
  refine w_ifb_ne 13 dX10_tell_8 (by decide) (fun hc1 => ?_) (fun hc1 => ?_)
  rotate_left
  · refine w_iconst dX10_tell_11 ?_
    refine x_iret rfl (by rfl) dX10_tell_12 (pr_end ?_ ?_ rfl rfl rfl rfl rfl rfl)
    · rw [bI_f hc1]
    · rw [if_neg hc1]
  · refine w_aload_n dX10_tell_13 rfl rfl ?_
    refine w_getf fX10_7 dX10_tell_14 RH0 rfl ?_
    refine w_bipush dX10_tell_17 (by decide) ?_
    refine w_iload_n dX10_tell_19 rfl rfl ?_
    refine r_ist1K 12 rfl (by decide) dX10_tell_20 ?_
    refine w_iconst dX10_tell_21 ?_
    refine x_iret rfl (by rfl) dX10_tell_22 (pr_end ?_ ?_ rfl rfl rfl rfl rfl rfl)
    · rw [bI_t hc1]
    · rw [if_pos hc1]

set_option maxRecDepth 4000 in
theorem c_is {r : Nat} {A : Nat → Int} {ia : Nat → Nat → Int} {la : Nat → Nat → BitVec 64} {fi : Nat → Int} {fl : Nat → BitVec 64} {h0 : HP} {L R C : Nat} {z : Int} (hT : TOP A L R C) (hz : ok32 z) : sp mX10_is [.ref r, .int (zI z)] (RH r A ia la fi fl h0) 0 0 (pr (some (.int (zI (if 0 ≤ z ∧ z ≤ 9 then A (3 + z.toNat) else if z = 10 then ((oddN (cs A L C) (gA A (L * C)) (L * R) : Nat) : Int) else -1)))) r A ia fi h0) := by
  obtain ⟨hI, hV, hS, h2⟩ := id hT
  obtain ⟨v1, v2, v3, v4, v5, v6, v7⟩ := id hV
  have h1 : 0 ≤ A 1 ∧ A 1 ≤ 20 := hI 1
  have h20 : 0 ≤ A 2 ∧ A 2 ≤ 20 := hI 2
  have hLC : (L : Int) * C ≤ 48 := by exact_mod_cast mulLe (a := L) (b := C) (x := 6) (y := 8) (by omega) (by omega)
  have hLC0 : (0 : Int) ≤ (L : Int) * C := by exact_mod_cast Nat.zero_le (L * C)
  have hLR : (L : Int) * R ≤ 24 := by exact_mod_cast mulLe (a := L) (b := R) (x := 6) (y := 4) (by omega) (by omega)
  have hLR0 : (0 : Int) ≤ (L : Int) * R := by exact_mod_cast Nat.zero_le (L * R)
  refine sp_wp rfl (lv := [_, _]) rfl (Nat.le_of_ble_eq_true rfl) ?_
  refine w_iload_n dX10_is_0 rfl rfl ?_
  refine w_iconst dX10_is_1 ?_
  refine w_bipush dX10_is_2 (by decide) ?_
  refine wc_S (Z := mX10_isIn) (As := [_, _, _]) (c_isIn hz (by unfold ok32; omega) (by unfold ok32; omega)) kX10_isIn lX10_70 sX10_isIn dX10_is_4 rfl rfl rfl (Nat.le_of_ble_eq_true rfl) ⟨Nat.le_of_ble_eq_true rfl, Nat.le_of_ble_eq_true rfl⟩ ?_
  refine w_ifb_eq 21 dX10_is_7 (by decide) (fun hc1 => ?_) (fun hc1 => ?_)
  · rw [if_neg hc1]
    refine w_iload_n dX10_is_21 rfl rfl ?_
    refine w_bipush dX10_is_22 (by decide) ?_
    refine w_icmp_ne 38 dX10_is_24 (by decide) hz (by unfold ok32; omega) (fun hc2 => ?_) (fun hc2 => ?_)
    · refine w_iconst dX10_is_38 ?_
      refine x_iret rfl rfl dX10_is_39 (pr_end ?_ rfl rfl rfl rfl rfl rfl rfl)
      rw [if_neg hc2]
    · refine w_aload_n dX10_is_27 rfl rfl ?_
      refine w_aload_n dX10_is_28 rfl rfl ?_
      refine wc_V (Z := mX10_guessed) (As := []) (c_guessed hV hI.ok) RH0 rfl kX10_guessed lX10_156 iX10_guessed vX10_guessed dX10_is_29 rfl rfl rfl (Nat.le_of_ble_eq_true rfl) ⟨Nat.le_of_ble_eq_true rfl, Nat.le_of_ble_eq_true rfl⟩ ?_
      refine wc_V (Z := mX10_oddsOf) (As := [_]) (c_oddsOf hV) RH0 rfl kX10_oddsOf lX10_160 iX10_oddsOf vX10_oddsOf dX10_is_32 rfl rfl rfl (Nat.le_of_ble_eq_true rfl) ⟨Nat.le_of_ble_eq_true rfl, Nat.le_of_ble_eq_true rfl⟩ ?_
      refine w_goto 39 dX10_is_35 (by decide) ?_
      refine x_iret rfl rfl dX10_is_39 (pr_end ?_ rfl rfl rfl rfl rfl rfl rfl)
      rw [if_pos hc2]
      rfl
  · refine w_aload_n dX10_is_10 rfl rfl ?_
    refine w_getf fX10_7 dX10_is_11 RH0 rfl ?_
    refine w_iconst dX10_is_14 ?_
    refine w_iload_n dX10_is_15 rfl rfl ?_
    refine w_iadd dX10_is_16 ?_
    refine w_iald (3 + z.toNat) RH1 (by omega) (by omega) (by decide) dX10_is_17 ?_
    refine w_goto 39 dX10_is_18 (by decide) ?_
    refine x_iret rfl rfl dX10_is_39 (pr_end ?_ rfl rfl rfl rfl rfl rfl rfl)
    rw [if_pos hc1]

set_option maxRecDepth 4000 in
theorem c_shift {r : Nat} {A : Nat → Int} {ia : Nat → Nat → Int} {la : Nat → Nat → BitVec 64} {fi : Nat → Int} {fl : Nat → BitVec 64} {h0 : HP} {L R C : Nat} {z x : Int} (hT : TOP A L R C) (hz : ok32 z) (hx : ok32 x) : sp mX10_shift [.ref r, .int (zI z), .int (zI x)] (RH r A ia la fi fl h0) 0 0 (pr (some (.int (zI (if (0 ≤ z ∧ z ≤ (R : Int) - 1) ∧ 0 ≤ x ∧ x ≤ (C : Int) - 1 then A (14 + 8 * z.toNat + x.toNat) else -2)))) r A ia fi h0) := by
  obtain ⟨hI, hV, hS, h2⟩ := id hT
  obtain ⟨v1, v2, v3, v4, v5, v6, v7⟩ := id hV
  have h1 : 0 ≤ A 1 ∧ A 1 ≤ 20 := hI 1
  have h20 : 0 ≤ A 2 ∧ A 2 ≤ 20 := hI 2
  have hLC : (L : Int) * C ≤ 48 := by exact_mod_cast mulLe (a := L) (b := C) (x := 6) (y := 8) (by omega) (by omega)
  have hLC0 : (0 : Int) ≤ (L : Int) * C := by exact_mod_cast Nat.zero_le (L * C)
  have hLR : (L : Int) * R ≤ 24 := by exact_mod_cast mulLe (a := L) (b := R) (x := 6) (y := 4) (by omega) (by omega)
  have hLR0 : (0 : Int) ≤ (L : Int) * R := by exact_mod_cast Nat.zero_le (L * R)
  refine sp_wp rfl (lv := [_, _, _]) rfl (Nat.le_of_ble_eq_true rfl) ?_
  refine w_iload_n dX10_shift_0 rfl rfl ?_
  refine w_iconst dX10_shift_1 ?_
  refine w_aload_n dX10_shift_2 rfl rfl ?_
  refine w_getf fX10_7 dX10_shift_3 RH0 rfl ?_
  refine w_iconst dX10_shift_6 ?_
  refine w_iald 4 RH1 rfl (by decide) (by decide) dX10_shift_7 ?_
  rw [v2]
  refine w_iconst dX10_shift_8 ?_
  refine w_isub dX10_shift_9 ?_
  refine wc_S (Z := mX10_isIn) (As := [_, _, _]) (c_isIn hz (by unfold ok32; omega) (by unfold ok32; omega)) kX10_isIn lX10_70 sX10_isIn dX10_shift_10 rfl rfl rfl (Nat.le_of_ble_eq_true rfl) ⟨Nat.le_of_ble_eq_true rfl, Nat.le_of_ble_eq_true rfl⟩ ?_
  refine w_ifb_eq 49 dX10_shift_13 (by decide) (fun hc1 => ?_) (fun hc1 => ?_)
  · refine w_bipush dX10_shift_49 (by decide) ?_
    refine x_iret rfl rfl dX10_shift_51 (pr_end ?_ rfl rfl rfl rfl rfl rfl rfl)
    rw [if_neg (by omega)]
  · refine w_iload_n dX10_shift_16 rfl rfl ?_
    refine w_iconst dX10_shift_17 ?_
    refine w_aload_n dX10_shift_18 rfl rfl ?_
    refine w_getf fX10_7 dX10_shift_19 RH0 rfl ?_
    refine w_iconst dX10_shift_22 ?_
    refine w_iald 5 RH1 rfl (by decide) (by decide) dX10_shift_23 ?_
    rw [v3]
    refine w_iconst dX10_shift_24 ?_
    refine w_isub dX10_shift_25 ?_
    refine wc_S (Z := mX10_isIn) (As := [_, _, _]) (c_isIn hx (by unfold ok32; omega) (by unfold ok32; omega)) kX10_isIn lX10_70 sX10_isIn dX10_shift_26 rfl rfl rfl (Nat.le_of_ble_eq_true rfl) ⟨Nat.le_of_ble_eq_true rfl, Nat.le_of_ble_eq_true rfl⟩ ?_
    refine w_ifb_eq 49 dX10_shift_29 (by decide) (fun hc2 => ?_) (fun hc2 => ?_)
    · refine w_bipush dX10_shift_49 (by decide) ?_
      refine x_iret rfl rfl dX10_shift_51 (pr_end ?_ rfl rfl rfl rfl rfl rfl rfl)
      rw [if_neg (by omega)]
    · refine w_aload_n dX10_shift_32 rfl rfl ?_
      refine w_getf fX10_7 dX10_shift_33 RH0 rfl ?_
      refine w_bipush dX10_shift_36 (by decide) ?_
      refine w_bipush dX10_shift_38 (by decide) ?_
      refine w_iload_n dX10_shift_40 rfl rfl ?_
      refine w_imul dX10_shift_41 ?_
      refine w_iadd dX10_shift_42 ?_
      refine w_iload_n dX10_shift_43 rfl rfl ?_
      refine w_iadd dX10_shift_44 ?_
      refine w_iald (14 + 8 * z.toNat + x.toNat) RH1 (by omega) (by omega) (by decide) dX10_shift_45 ?_
      refine w_goto 51 dX10_shift_46 (by decide) ?_
      refine x_iret rfl rfl dX10_shift_51 (pr_end ?_ rfl rfl rfl rfl rfl rfl rfl)
      rw [if_pos (by omega)]

set_option maxRecDepth 4000 in
theorem c_layer {r : Nat} {A : Nat → Int} {ia : Nat → Nat → Int} {la : Nat → Nat → BitVec 64} {fi : Nat → Int} {fl : Nat → BitVec 64} {h0 : HP} {L R C : Nat} {z : Int} (hT : TOP A L R C) (hz : ok32 z) : sp mX10_layer [.ref r, .int (zI z)] (RH r A ia la fi fl h0) 0 0 (pr (some (.int (zI (if 0 ≤ z ∧ z ≤ (R : Int) - 1 then ((lay R (A 13).toNat z.toNat : Nat) : Int) else -1)))) r A ia fi h0) := by
  obtain ⟨hI, hV, hS, h2⟩ := id hT
  obtain ⟨v1, v2, v3, v4, v5, v6, v7⟩ := id hV
  have h1 : 0 ≤ A 1 ∧ A 1 ≤ 20 := hI 1
  have h20 : 0 ≤ A 2 ∧ A 2 ≤ 20 := hI 2
  have hLC : (L : Int) * C ≤ 48 := by exact_mod_cast mulLe (a := L) (b := C) (x := 6) (y := 8) (by omega) (by omega)
  have hLC0 : (0 : Int) ≤ (L : Int) * C := by exact_mod_cast Nat.zero_le (L * C)
  have hLR : (L : Int) * R ≤ 24 := by exact_mod_cast mulLe (a := L) (b := R) (x := 6) (y := 4) (by omega) (by omega)
  have hLR0 : (0 : Int) ≤ (L : Int) * R := by exact_mod_cast Nat.zero_le (L * R)
  have h13 : 0 ≤ A 13 ∧ A 13 ≤ 23 := hI 13
  have ho := hS.1
  refine sp_wp rfl (lv := [_, _]) rfl (Nat.le_of_ble_eq_true rfl) ?_
  refine w_iload_n dX10_layer_0 rfl rfl ?_
  refine w_iconst dX10_layer_1 ?_
  refine w_aload_n dX10_layer_2 rfl rfl ?_
  refine w_getf fX10_7 dX10_layer_3 RH0 rfl ?_
  refine w_iconst dX10_layer_6 ?_
  refine w_iald 4 RH1 rfl (by decide) (by decide) dX10_layer_7 ?_
  rw [v2]
  refine w_iconst dX10_layer_8 ?_
  refine w_isub dX10_layer_9 ?_
  refine wc_S (Z := mX10_isIn) (As := [_, _, _]) (c_isIn hz (by unfold ok32; omega) (by unfold ok32; omega)) kX10_isIn lX10_70 sX10_isIn dX10_layer_10 rfl rfl rfl (Nat.le_of_ble_eq_true rfl) ⟨Nat.le_of_ble_eq_true rfl, Nat.le_of_ble_eq_true rfl⟩ ?_
  refine w_ifb_eq 31 dX10_layer_13 (by decide) (fun hc1 => ?_) (fun hc1 => ?_)
  · refine w_iconst dX10_layer_31 ?_
    refine x_iret rfl rfl dX10_layer_32 (pr_end ?_ rfl rfl rfl rfl rfl rfl rfl)
    rw [if_neg (by omega)]
  · refine w_aload_n dX10_layer_16 rfl rfl ?_
    refine w_aload_n dX10_layer_17 rfl rfl ?_
    refine w_getf fX10_7 dX10_layer_18 RH0 rfl ?_
    refine w_bipush dX10_layer_21 (by decide) ?_
    refine w_iald 13 RH1 rfl (by decide) (by decide) dX10_layer_23 ?_
    refine w_iload_n dX10_layer_24 rfl rfl ?_
    rw [show A 13 = (((A 13).toNat : Nat) : Int) by omega, show z = ((z.toNat : Nat) : Int) by omega]
    refine wc_V (Z := mX10_layerOf) (As := [_, _]) (c_layerOf v2 v5 (by omega) (by omega)) RH0 rfl kX10_layerOf lX10_178 iX10_layerOf vX10_layerOf dX10_layer_25 rfl rfl rfl (Nat.le_of_ble_eq_true rfl) ⟨Nat.le_of_ble_eq_true rfl, Nat.le_of_ble_eq_true rfl⟩ ?_
    rw [← show z = ((z.toNat : Nat) : Int) by omega, ← show A 13 = (((A 13).toNat : Nat) : Int) by omega]
    refine w_goto 32 dX10_layer_28 (by decide) ?_
    refine x_iret rfl rfl dX10_layer_32 (pr_end ?_ rfl rfl rfl rfl rfl rfl rfl)
    rw [if_pos (by omega)]
