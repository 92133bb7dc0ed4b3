/-- a layer's checks mended -/
def slN (A : Nat → Int) (L C y : Nat) : Nat → Nat → Int
  | 0 => A
  | i + 1 => mdN (slN A L C y i) L C (L * y + i) C
theorem slN_s {A : Nat → Int} {L C y : Nat} : ∀ {i : Nat}, SmC A (slN A L C y i)
  | 0 => SmC.rf
  | i + 1 => (slN_s (i := i)).tr mdN_s
theorem layLt {L R y i : Nat} (hy : y < R) (hi : i < L) : L * y + i < L * R := by
  have h1 : L * (y + 1) ≤ L * R := Nat.mul_le_mul_left _ (by omega)
  rw [Nat.mul_add, Nat.mul_one] at h1
  omega
theorem slN_i {A : Nat → Int} {L R C y : Nat} (hI : INV A) (hV : VC A L R C) (hy : y < R) : ∀ {i : Nat}, i ≤ L → INV (slN A L C y i)
  | 0, _ => hI
  | i + 1, hi => mdN_i (slN_i hI hV hy (by omega)) (slN_s.vc hV) (layLt hy (by omega)) (Nat.le_refl _)
theorem mdN_n2 {A : Nat → Int} {L R C c k : Nat} (hV : VC A L R C) (hc : c < L * R) (hk : k < 96 ∨ 336 ≤ k) : mdN A L C c C k = A k := by
  obtain ⟨v1, v2, v3, v4, v5, v6, v7⟩ := id hV
  have hr := rowLt hc v4.1
  have hLR := mulLe (a := L) (b := R) (x := 6) (y := 4) (by omega) (by omega)
  exact mdN_n hk (by omega) v6.2 (fun i hi => (bitN_le (sh := shA A) (L := L) (C := C) (c := c) (j := i) v4 hi v6.2 (v7 _ (by omega)).1).2.2) (Nat.le_refl _)
theorem slN_n {A : Nat → Int} {L R C y k : Nat} (hV : VC A L R C) (hy : y < R) (hk : k < 96 ∨ 336 ≤ k) : ∀ {i : Nat}, i ≤ L → slN A L C y i k = A k
  | 0, _ => rfl
  | i + 1, hi => by
    unfold slN
    rw [mdN_n2 (slN_s.vc hV) (layLt hy (by omega)) hk]
    exact slN_n hV hy hk (by omega)
def stL (A : Nat → Int) (L R C : Nat) : Nat → Int := if A 11 + 1 < (R : Int) then u1 (slN A L C (lay R (A 13).toNat (A 11).toNat) L) 11 (A 11 + 1) else u1 (u1 (slN A L C (lay R (A 13).toNat (A 11).toNat) L) 11 0) 10 (A 10 + 1)
theorem lay_lt {R o p : Nat} (hR : 1 ≤ R ∧ R ≤ 4) (ho : o < fac R) (hp : p < R) : lay R o p < R := by
  obtain ⟨l, w, u, y, z, e1, e2, e3, e4, e5, e6, e7, e8⟩ := oSt_ok (k := p) hR ho hp
  unfold lay
  rw [e8]
  exact e7
set_option maxRecDepth 4000 in
theorem c_stepLayer {r : Nat} {A : Nat → Int} {ia : Nat → Nat → Int} {la : Nat → Nat → BitVec 64} {fi : Nat → Int} {fl : Nat → BitVec 64} {h0 : HP} {L R C : Nat} (hI : INV A) (hV : VC A L R C) (ho : A 13 < fac R) (hp : A 11 < R) : sp mX10_stepLayer [.ref r] (RH r A ia la fi fl h0) 0 0 (px none (fun _ : Nat → Int => True) (fun q => (RH r (stL A L R C) (u1 ia 5 q) la fi fl h0))) := by
  obtain ⟨v1, v2, v3, v4, v5, v6, v7⟩ := id hV
  have h13 : 0 ≤ A 13 ∧ A 13 ≤ 23 := hI 13
  have h11 : 0 ≤ A 11 ∧ A 11 ≤ 3 := hI 11
  have h10 : 0 ≤ A 10 ∧ A 10 ≤ 20 := hI 10
  have hLR := mulLe (a := L) (b := R) (x := 6) (y := 4) (by omega) (by omega)
  have hy := lay_lt (R := R) (o := (A 13).toNat) (p := (A 11).toNat) v5 (by omega) (by omega)
  refine sp_wp rfl (lv := [_, _, _]) rfl (Nat.le_of_ble_eq_true rfl) ?_
  refine w_aload_n dX10_stepLayer_0 rfl rfl ?_
  refine w_aload_n dX10_stepLayer_1 rfl rfl ?_
  refine w_getf fX10_7 dX10_stepLayer_2 RH0 rfl ?_
  refine w_bipush dX10_stepLayer_5 (by decide) ?_
  refine w_iald 13 RH1 rfl (by decide) (by decide) dX10_stepLayer_7 ?_
  refine w_aload_n dX10_stepLayer_8 rfl rfl ?_
  refine w_getf fX10_7 dX10_stepLayer_9 RH0 rfl ?_
  refine w_bipush dX10_stepLayer_12 (by decide) ?_
  refine w_iald 11 RH1 rfl (by decide) (by decide) dX10_stepLayer_14 ?_
  rw [show A 13 = (((A 13).toNat : Nat) : Int) by omega, show A 11 = (((A 11).toNat : Nat) : Int) by omega]
  refine wc_V (Z := mX10_layerOf) (As := [_, _]) (c_layerOf v2 v5 (by omega) (by omega)) RH0 rfl kX10_layerOf lX10_178 iX10_layerOf vX10_layerOf dX10_stepLayer_15 rfl rfl rfl (Nat.le_of_ble_eq_true rfl) ⟨Nat.le_of_ble_eq_true rfl, Nat.le_of_ble_eq_true rfl⟩ ?_
  refine w_istore_n (lv' := [_, _, _]) dX10_stepLayer_18 rfl (Nat.le_of_ble_eq_true rfl) rfl rfl ?_
  refine w_iconst dX10_stepLayer_19 ?_
  refine w_istore_n (lv' := [_, _, _]) dX10_stepLayer_20 rfl (Nat.le_of_ble_eq_true rfl) rfl rfl ?_
  have key : ∀ i, i ≤ L → ∀ q : Nat → Int, wp mX10_stepLayer 21 [.ref r, .int (zI (lay R (A 13).toNat (A 11).toNat : Nat)), .int (zI (i : Int))] [] (RH r (slN A L C (lay R (A 13).toNat (A 11).toNat) i) (u1 ia 5 q) la fi fl h0) 0 0 (px none (fun _ : Nat → Int => True) (fun q => (RH r (stL A L R C) (u1 ia 5 q) la fi fl h0))) := by
    generalize hyy : lay R (A 13).toNat (A 11).toNat = y at hy
    refine up_ind (N := L) (fun i hi ih => ?_)
    intro q
    have hs : SmC A (slN A L C y i) := slN_s
    refine w_iload_n dX10_stepLayer_21 rfl rfl ?_
    refine w_aload_n dX10_stepLayer_22 rfl rfl ?_
    refine w_getf fX10_7 dX10_stepLayer_23 RH0 rfl ?_
    refine w_iconst dX10_stepLayer_26 ?_
    refine w_iald 3 RH1 rfl (by decide) (by decide) dX10_stepLayer_27 ?_
    rw [(hs.vc hV).1]
    refine w_icmp_ge 51 dX10_stepLayer_28 (by decide) (by unfold ok32; omega) (by unfold ok32; omega) (fun hn => ?_) (fun hn => ?_)
    · have ei : i = L := by omega
      subst ei
      have e11 := slN_n (k := 11) hV hy (by omega) (Nat.le_refl i)
      have e10 := slN_n (k := 10) hV hy (by omega) (Nat.le_refl i)
      have e4 := slN_n (k := 4) hV hy (by omega) (Nat.le_refl i)
      refine w_aload_n dX10_stepLayer_51 rfl rfl ?_
      refine w_getf fX10_7 dX10_stepLayer_52 RH0 rfl ?_
      refine w_bipush dX10_stepLayer_55 (by decide) ?_
      refine w_dup2 dX10_stepLayer_57 rfl rfl ?_
      refine w_iald 11 RH1 rfl (by decide) (by decide) dX10_stepLayer_58 ?_
      refine w_iconst dX10_stepLayer_59 ?_
      refine w_iadd dX10_stepLayer_60 ?_
      refine r_ist1K 11 rfl (by decide) dX10_stepLayer_61 ?_
      refine w_aload_n dX10_stepLayer_62 rfl rfl ?_
      refine w_getf fX10_7 dX10_stepLayer_63 RH0 rfl ?_
      refine w_bipush dX10_stepLayer_66 (by decide) ?_
      refine w_iald 11 RH1 rfl (by decide) (by decide) dX10_stepLayer_68 ?_
      refine w_aload_n dX10_stepLayer_69 rfl rfl ?_
      refine w_getf fX10_7 dX10_stepLayer_70 RH0 rfl ?_
      refine w_iconst dX10_stepLayer_73 ?_
      refine w_iald 4 RH1 rfl (by decide) (by decide) dX10_stepLayer_74 ?_
      rw [u1_s, u1_n (by omega), e11, e4, v2]
      refine w_icmp_ge 79 dX10_stepLayer_75 (by decide) (by unfold ok32; omega) (by unfold ok32; omega) (fun hm => ?_) (fun hm => ?_)
      · refine w_aload_n dX10_stepLayer_79 rfl rfl ?_
        refine w_getf fX10_7 dX10_stepLayer_80 RH0 rfl ?_
        refine w_bipush dX10_stepLayer_83 (by decide) ?_
        refine w_iconst dX10_stepLayer_85 ?_
        refine r_ist1K 11 rfl (by decide) dX10_stepLayer_86 ?_
        refine w_aload_n dX10_stepLayer_87 rfl rfl ?_
        refine w_getf fX10_7 dX10_stepLayer_88 RH0 rfl ?_
        refine w_bipush dX10_stepLayer_91 (by decide) ?_
        refine w_dup2 dX10_stepLayer_93 rfl rfl ?_
        refine w_iald 10 RH1 rfl (by decide) (by decide) dX10_stepLayer_94 ?_
        refine w_iconst dX10_stepLayer_95 ?_
        refine w_iadd dX10_stepLayer_96 ?_
        refine r_ist1K 10 rfl (by decide) dX10_stepLayer_97 ?_
        refine x_vret rfl dX10_stepLayer_98 ⟨rfl, q, trivial, ?_⟩
        rw [stL, if_neg (by omega), u1_u1, hyy, u1_n (by omega), e10]
      · refine x_vret rfl dX10_stepLayer_78 ⟨rfl, q, trivial, ?_⟩
        rw [stL, if_pos (by omega), hyy]
    · have hlt := layLt hy (show i < L by omega)
      refine w_aload_n dX10_stepLayer_31 rfl rfl ?_
      refine w_aload_n dX10_stepLayer_32 rfl rfl ?_
      refine w_getf fX10_7 dX10_stepLayer_33 RH0 rfl ?_
      refine w_iconst dX10_stepLayer_36 ?_
      refine w_iald 3 RH1 rfl (by decide) (by decide) dX10_stepLayer_37 ?_
      rw [(hs.vc hV).1]
      refine w_iload_n dX10_stepLayer_38 rfl rfl ?_
      refine w_imul dX10_stepLayer_39 ?_
      refine w_iload_n dX10_stepLayer_40 rfl rfl ?_
      refine w_iadd dX10_stepLayer_41 ?_
      refine wx_Vv (Z := mX10_mendCheck) (As := [_]) (c_mendCheck (c := L * y + i) (slN_i hI hV hy (by omega)) (hs.vc hV) hlt) RH0 rfl kX10_mendCheck lX10_181 iX10_mendCheck vX10_mendCheck dX10_stepLayer_42 (by push_cast; rfl) rfl rfl (Nat.le_of_ble_eq_true rfl) ⟨Nat.le_of_ble_eq_true rfl, Nat.le_of_ble_eq_true rfl⟩ (fun q2 _ => ?_)
      rw [u1_u1]
      refine w_iinc (lv' := [_, _, _]) dX10_stepLayer_45 rfl rfl rfl ?_
      refine w_goto 21 dX10_stepLayer_48 (by decide) ?_
      exact ih (by omega) q2
  have h2 := key 0 (Nat.zero_le _) (ia 5)
  rw [u1_id] at h2
  exact h2
def wdA (A : Nat → Int) (x y z : Int) : Nat → Int := if A 384 = 16 then u1 (u1 (u1 (u1 (u1 (fillR A 336 45 (fun i => A (339 + i))) 384 15) 381 x) 382 y) 383 z) 384 16 else u1 (u1 (u1 (u1 A (336 + 3 * (A 384).toNat) x) (337 + 3 * (A 384).toNat) y) (338 + 3 * (A 384).toNat) z) 384 (A 384 + 1)
set_option maxRecDepth 4000 in
theorem c_writeDown {r : Nat} {A : Nat → Int} {ia : Nat → Nat → Int} {la : Nat → Nat → BitVec 64} {fi : Nat → Int} {fl : Nat → BitVec 64} {h0 : HP} {x y z : Int} (h384 : 0 ≤ A 384 ∧ A 384 ≤ 16) : sp mX10_writeDown [.ref r, .int (zI x), .int (zI y), .int (zI z)] (RH r A ia la fi fl h0) 0 0 (pd none (RH r (wdA A x y z) ia la fi fl h0)) := by
  have tail : ∀ (B : Nat → Int) (w : Nat) (x4 : Int32) (h' : HP), B 384 = (w : Int) → w ≤ 15 → h' = (RH r (u1 (u1 (u1 (u1 B (336 + 3 * w) x) (337 + 3 * w) y) (338 + 3 * w) z) 384 ((w : Int) + 1)) ia la fi fl h0) → ∀ j4 : Value, prevOk [.ref r, .int (zI x), .int (zI y), .int (zI z), j4] 4 = true → wp mX10_writeDown 60 [.ref r, .int (zI x), .int (zI y), .int (zI z), j4] [] (RH r B ia la fi fl h0) 0 0 (pd none h') := by
    intro B w x4 h' hB hw he j4 hj4
    refine w_sipush dX10_writeDown_60 (by decide) ?_
    refine w_iconst dX10_writeDown_63 ?_
    refine w_aload_n dX10_writeDown_64 rfl rfl ?_
    refine w_getf fX10_7 dX10_writeDown_65 RH0 rfl ?_
    refine w_sipush dX10_writeDown_68 (by decide) ?_
    refine w_iald 384 RH1 rfl (by decide) (by decide) dX10_writeDown_71 ?_
    refine w_imul dX10_writeDown_72 ?_
    refine w_iadd dX10_writeDown_73 ?_
    rw [hB]
    refine w_istore (lv' := [_, _, _, _, _]) dX10_writeDown_74 (Nat.le_of_ble_eq_true rfl) rfl rfl ?_
    refine w_aload_n dX10_writeDown_76 rfl rfl ?_
    refine w_getf fX10_7 dX10_writeDown_77 RH0 rfl ?_
    refine w_iload dX10_writeDown_80 rfl ?_
    refine w_iload_n dX10_writeDown_82 rfl rfl ?_
    refine r_ist1K (336 + 3 * w) (by omega) (by omega) dX10_writeDown_83 ?_
    refine w_aload_n dX10_writeDown_84 rfl rfl ?_
    refine w_getf fX10_7 dX10_writeDown_85 RH0 rfl ?_
    refine w_iload dX10_writeDown_88 rfl ?_
    refine w_iconst dX10_writeDown_90 ?_
    refine w_iadd dX10_writeDown_91 ?_
    refine w_iload_n dX10_writeDown_92 rfl rfl ?_
    refine r_ist1K (337 + 3 * w) (by omega) (by omega) dX10_writeDown_93 ?_
    refine w_aload_n dX10_writeDown_94 rfl rfl ?_
    refine w_getf fX10_7 dX10_writeDown_95 RH0 rfl ?_
    refine w_iload dX10_writeDown_98 rfl ?_
    refine w_iconst dX10_writeDown_100 ?_
    refine w_iadd dX10_writeDown_101 ?_
    refine w_iload_n dX10_writeDown_102 rfl rfl ?_
    refine r_ist1K (338 + 3 * w) (by omega) (by omega) dX10_writeDown_103 ?_
    refine w_aload_n dX10_writeDown_104 rfl rfl ?_
    refine w_getf fX10_7 dX10_writeDown_105 RH0 rfl ?_
    refine w_sipush dX10_writeDown_108 (by decide) ?_
    refine w_dup2 dX10_writeDown_111 rfl rfl ?_
    refine w_iald 384 RH1 rfl (by decide) (by decide) dX10_writeDown_112 ?_
    refine w_iconst dX10_writeDown_113 ?_
    refine w_iadd dX10_writeDown_114 ?_
    refine r_ist1K 384 rfl (by decide) dX10_writeDown_115 ?_
    refine x_vret rfl dX10_writeDown_116 ⟨rfl, ?_⟩
    rw [he, u1_n (show 384 ≠ 338 + 3 * w by omega), u1_n (show 384 ≠ 337 + 3 * w by omega), u1_n (show 384 ≠ 336 + 3 * w by omega), hB]
  refine sp_wp rfl (lv := [_, _, _, _, _]) rfl (Nat.le_of_ble_eq_true rfl) ?_
  refine w_aload_n dX10_writeDown_0 rfl rfl ?_
  refine w_getf fX10_7 dX10_writeDown_1 RH0 rfl ?_
  refine w_sipush dX10_writeDown_4 (by decide) ?_
  refine w_iald 384 RH1 rfl (by decide) (by decide) dX10_writeDown_7 ?_
  refine w_bipush dX10_writeDown_8 (by decide) ?_
  refine w_icmp_ne 60 dX10_writeDown_10 (by decide) (by unfold ok32; omega) (by unfold ok32; omega) (fun hn => ?_) (fun hn => ?_)
  · refine tail A (A 384).toNat 0 _ (by omega) (by omega) ?_ jk rfl
    rw [wdA, if_neg hn, show (((A 384).toNat : Nat) : Int) = A 384 by omega]
  · refine w_sipush dX10_writeDown_13 (by decide) ?_
    refine w_istore (lv' := [_, _, _, _, _]) dX10_writeDown_16 (Nat.le_of_ble_eq_true rfl) rfl rfl ?_
    suffices h2 : ∀ i, i ≤ 45 → wp mX10_writeDown 18 [.ref r, .int (zI x), .int (zI y), .int (zI z), .int (zI ((336 + i : Nat) : Int))] [] (RH r (fillR A 336 i (fun i => A (339 + i))) ia la fi fl h0) 0 0 (pd none (RH r (wdA A x y z) ia la fi fl h0)) by
      have h3 := h2 0 (Nat.zero_le _)
      rw [fillR_0] at h3
      exact h3
    refine up_ind (N := 45) (fun i hi ih => ?_)
    refine w_iload dX10_writeDown_18 rfl ?_
    refine w_sipush dX10_writeDown_20 (by decide) ?_
    refine w_icmp_ge 48 dX10_writeDown_23 (by decide) (by unfold ok32; omega) (by unfold ok32; omega) (fun hm => ?_) (fun hm => ?_)
    · have ei : i = 45 := by omega
      subst ei
      refine w_aload_n dX10_writeDown_48 rfl rfl ?_
      refine w_getf fX10_7 dX10_writeDown_49 RH0 rfl ?_
      refine w_sipush dX10_writeDown_52 (by decide) ?_
      refine w_dup2 dX10_writeDown_55 rfl rfl ?_
      refine w_iald 384 RH1 rfl (by decide) (by decide) dX10_writeDown_56 ?_
      refine w_iconst dX10_writeDown_57 ?_
      refine w_isub dX10_writeDown_58 ?_
      refine r_ist1K 384 rfl (by decide) dX10_writeDown_59 ?_
      rw [fillR_n (by omega), hn]
      refine tail _ 15 0 _ (u1_s) (by omega) ?_ _ rfl
      rw [wdA, if_pos hn]
      rfl
    · refine w_aload_n dX10_writeDown_26 rfl rfl ?_
      refine w_getf fX10_7 dX10_writeDown_27 RH0 rfl ?_
      refine w_iload dX10_writeDown_30 rfl ?_
      refine w_aload_n dX10_writeDown_32 rfl rfl ?_
      refine w_getf fX10_7 dX10_writeDown_33 RH0 rfl ?_
      refine w_iload dX10_writeDown_36 rfl ?_
      refine w_iconst dX10_writeDown_38 ?_
      refine w_iadd dX10_writeDown_39 ?_
      refine w_iald (339 + i) RH1 (by omega) (by omega) (by decide) dX10_writeDown_40 ?_
      rw [fillR_n (by omega)]
      refine r_ist1K (336 + i) rfl (by omega) dX10_writeDown_41 ?_
      rw [fillR_s rfl]
      refine w_iinc (lv' := [_, _, _, _, _]) dX10_writeDown_42 rfl rfl rfl ?_
      refine w_goto 18 dX10_writeDown_45 (by decide) ?_
      exact ih (by omega)

