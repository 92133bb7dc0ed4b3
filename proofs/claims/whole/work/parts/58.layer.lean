/-! a layer mended -/
set_option maxRecDepth 8000 in
theorem c8_mendLayer {a c : Nat} {sa : Nat → Nat → Int} {si : Nat → Int} {sl : Nat → BitVec 64} {h0 : HP} {B : Nat → Int} {L R C : Nat} {y : Nat} (hC : CDQ (outS a) h0 c B L R C) (hI : INV B) (hy : y < R) (hB : BM sa B L R C) : sp mX8_mendLayer [.ref a, .int (zI (y : Int))] (SH a (c) (sa) (si) (sl) h0) 0 0 (px none (fun sb : Nat → Nat → Int => BM sb (slN B L C y L) L R C ∧ smo sa sb) (fun sb => (SH a (c) (sb) (si) (sl) h0))) := by
  obtain ⟨ad, f7, f8, f10, f9, f11, rk, cr, hV, h6, h7, o_c0, r70, r80, r90, r100, r110, e7, e8, e9, e10, hRD, p0, p7, p8, p9, p10, p11⟩ := id hC
  obtain ⟨v1, v2, v3, v4, v5, v6, v7⟩ := id hV
  have hLC := mulLe (a := L) (b := C) (x := 6) (y := 8) (by omega) (by omega)
  have hLR := mulLe (a := L) (b := R) (x := 6) (y := 4) (by omega) (by omega)
  have o_c : ∀ {c' : Nat} {sa : Nat → Nat → Int} {si : Nat → Int} {sl : Nat → BitVec 64}, (SH a c' sa si sl h0).2 c = some (.inr (2, cfs L R C (B 6) (B 7) ad rk cr)) := SHo p0 o_c0
  have r_c_shifts : ∀ {c' : Nat} {sa : Nat → Nat → Int} {si : Nat → Int} {sl : Nat → BitVec 64}, (SH a c' sa si sl h0).2 (ad 7) = some (aI 32 f7) := SHo p7 r70
  have r_c_edges : ∀ {c' : Nat} {sa : Nat → Nat → Int} {si : Nat → Int} {sl : Nat → BitVec 64}, (SH a c' sa si sl h0).2 (ad 8) = some (aI 192 f8) := SHo p8 r80
  have r_c_bitsOf : ∀ {c' : Nat} {sa : Nat → Nat → Int} {si : Nat → Int} {sl : Nat → BitVec 64}, (SH a c' sa si sl h0).2 (ad 9) = some (aL 24 f9) := SHo p9 r90
  refine sp_wp rfl (lv := [_, _, _, _, _, _]) rfl (Nat.le_of_ble_eq_true rfl) ?_
  refine w_iconst dX8_mendLayer_0 ?_
  refine w_istore_n (lv' := [_, _, _, _, _, _]) dX8_mendLayer_1 rfl (Nat.le_of_ble_eq_true rfl) rfl rfl ?_
  have key : ∀ i, i ≤ L → ∀ (sb : Nat → Nat → Int) (x3 x4 x5 : Value), BM sb (slN B L C y i) L R C → smo sa sb → wp mX8_mendLayer 2 [.ref a, .int (zI (y : Int)), .int (zI (i : Int)), x3, x4, x5] [] (SH a (c) (sb) (si) (sl) h0) 0 0 (px none (fun sb : Nat → Nat → Int => BM sb (slN B L C y L) L R C ∧ smo sa sb) (fun sb => (SH a (c) (sb) (si) (sl) h0))) := by
    refine up_ind (P := fun i => ∀ (sb : Nat → Nat → Int) (x3 x4 x5 : Value), BM sb (slN B L C y i) L R C → smo sa sb → wp mX8_mendLayer 2 [.ref a, .int (zI (y : Int)), .int (zI (i : Int)), x3, x4, x5] [] (SH a (c) (sb) (si) (sl) h0) 0 0 (px none (fun sb : Nat → Nat → Int => BM sb (slN B L C y L) L R C ∧ smo sa sb) (fun sb => (SH a (c) (sb) (si) (sl) h0)))) (fun i hi ih sb x3 x4 x5 hb hs => ?_)
    refine w_iload_n dX8_mendLayer_2 rfl rfl ?_
    refine w_aload_n dX8_mendLayer_3 rfl rfl ?_
    refine w_getf fX8_37 dX8_mendLayer_4 SC0 rfl ?_
    refine w_getf fX8_122 dX8_mendLayer_7 o_c rfl ?_
    refine w_icmp_ge 106 dX8_mendLayer_10 (by decide) (by first | assumption | (unfold ok32 at *; omega)) (by first | assumption | (unfold ok32 at *; omega)) (fun hc => ?_) (fun hc => ?_)
    · refine x_vret rfl dX8_mendLayer_106 ⟨rfl, sb, ⟨?_, hs⟩, rfl⟩
      rw [show L = i by omega] at hb ⊢
      exact hb
    · have hk0 : L * y + i < L * R := layLt hy (by omega)
      obtain ⟨k0, hk⟩ : ∃ k0, L * y + i = k0 := ⟨_, rfl⟩
      rw [hk] at hk0
      have hID : INV (slN B L C y i) := slN_i hI hV hy (by omega)
      have hSD : SmC B (slN B L C y i) := slN_s
      obtain ⟨D, hD⟩ : ∃ D, slN B L C y i = D := ⟨_, rfl⟩
      have hnx : slN B L C y (i + 1) = mdN D L C k0 C := by rw [slN, hD, hk]
      rw [hnx] at ih
      rw [hD] at hb hID hSD
      have hVD : VC D L R C := hSD.vc hV
      have hD6 : D 6 = B 6 := hSD 6 (by omega) (by omega) (by omega) (by omega) (by omega) (by omega) (by omega)
      have hD7 : D 7 = B 7 := hSD 7 (by omega) (by omega) (by omega) (by omega) (by omega) (by omega) (by omega)
      have hbt : ∀ j, j < C → bitN (shA D) L k0 j = bitN (shA B) L k0 j := fun j hj => hSD.bit hV hk0 hj
      have hbr : ∀ j, j < C → -1 ≤ bitN (shA B) L k0 j ∧ bitN (shA B) L k0 j < (L : Int) * C ∧ bitN (shA B) L k0 j < 48 := fun j hj => bitN_le (sh := shA B) (c := k0) v4 hj (by omega) (v7 _ (by have := rowLt hk0 v4.1; omega)).1
      have hokD : ∀ j, j < C → okc (shA D) L k0 j = okc (shA B) L k0 j := fun j hj => okc_same hV hSD hk0 hj
      have hok1 : ∀ j, okc (shA B) L k0 j = true ↔ ¬ bitN (shA B) L k0 j = -1 := fun j => by unfold okc; simp
      have hnm : ∀ j, j < C → nmV (okc (shA B) L k0) (rho D L k0) j C (B 6) (B 7) = nmV (okc (shA D) L k0) (rho D L k0) j C (D 6) (D 7) := fun j hj => by rw [hD6, hD7]; exact nmV_c (fun i hi => (hokD i hi).symm)
      have hmm := mdN_msg (D := D) (L := L) (C := C) (k0 := k0) (fun i hi => by rw [hbt i hi]; exact (hbr i hi).2.2) (j := C) (Nat.le_refl _)
      refine w_iload_n dX8_mendLayer_13 rfl rfl ?_
      refine w_aload_n dX8_mendLayer_14 rfl rfl ?_
      refine w_getf fX8_37 dX8_mendLayer_15 SC0 rfl ?_
      refine w_getf fX8_122 dX8_mendLayer_18 o_c rfl ?_
      refine w_imul dX8_mendLayer_21 ?_
      refine w_iload_n dX8_mendLayer_22 rfl rfl ?_
      refine w_iadd dX8_mendLayer_23 ?_
      refine w_bipush dX8_mendLayer_24 (by decide) ?_
      refine w_imul dX8_mendLayer_26 ?_
      rw [show ((y : Int) * (L : Int) + (i : Int)) * 8 = ((8 * k0 : Nat) : Int) by rw [← hk]; push_cast; rw [Int.mul_comm (y : Int), Int.mul_comm _ 8]]
      refine w_istore_n (lv' := [_, _, _, _, _, _]) dX8_mendLayer_27 rfl (Nat.le_of_ble_eq_true rfl) rfl rfl ?_
      refine w_aload_n dX8_mendLayer_28 rfl rfl ?_
      refine w_iload_n dX8_mendLayer_29 rfl rfl ?_
      refine wx_Vv (Z := mX8_mendMessages) (As := [_]) (c8_mendMessages (k0 := k0) (q0 := rho D L k0) hC hk0 (fun j hj ho => ?_)) SC0 rfl kX8_mendMessages lX8_125 iX8_mendMessages vX8_mendMessages dX8_mendLayer_30 rfl rfl rfl (Nat.le_of_ble_eq_true rfl) ⟨Nat.le_of_ble_eq_true rfl, Nat.le_of_ble_eq_true rfl⟩ (fun z hqg => ?_)
      · have hnb := (hok1 j).mp ho
        have hrj := hbr j hj
        refine ⟨?_, rho_rng hVD hID.bel hk0 hj (by rw [hbt j hj]; exact hnb)⟩
        unfold rho
        rw [hbt j hj, hb.1 _ (by have := hrj.2.1; rw [← Int.toNat_of_nonneg (show 0 ≤ bitN (shA B) L k0 j by omega)] at this; exact_mod_cast this), hb.2 k0 hk0 j hj (by rw [hokD j hj]; exact ho)]
      obtain ⟨g1, g2, g3⟩ := hqg
      obtain ⟨q, hq'⟩ : ∃ q, z.1 = q := ⟨_, rfl⟩
      obtain ⟨g, hg'⟩ : ∃ g, z.2 = g := ⟨_, rfl⟩
      rw [hq'] at g1 ⊢
      rw [hg'] at g2 g3 ⊢
      refine w_iconst dX8_mendLayer_33 ?_
      refine w_istore (lv' := [_, _, _, _, _, _]) dX8_mendLayer_34 (Nat.le_of_ble_eq_true rfl) rfl rfl ?_
      have key2 : ∀ j, j ≤ C → ∀ (bl : Nat → Int) (x5 : Value), (∀ b, b < L * C → bl b = mdN D L C k0 j (96 + b)) → wp mX8_mendLayer 36 [.ref a, .int (zI (y : Int)), .int (zI (i : Int)), .int (zI ((8 * k0 : Nat) : Int)), .int (zI (j : Int)), x5] [] (SH a (c) (u1 (u1 (u1 sb 7 q) 4 g) 2 bl) (si) (sl) h0) 0 0 (px none (fun sb : Nat → Nat → Int => BM sb (slN B L C y L) L R C ∧ smo sa sb) (fun sb => (SH a (c) (sb) (si) (sl) h0))) := by
        refine up_ind (P := fun j => ∀ (bl : Nat → Int) (x5 : Value), (∀ b, b < L * C → bl b = mdN D L C k0 j (96 + b)) → wp mX8_mendLayer 36 [.ref a, .int (zI (y : Int)), .int (zI (i : Int)), .int (zI ((8 * k0 : Nat) : Int)), .int (zI (j : Int)), x5] [] (SH a (c) (u1 (u1 (u1 sb 7 q) 4 g) 2 bl) (si) (sl) h0) 0 0 (px none (fun sb : Nat → Nat → Int => BM sb (slN B L C y L) L R C ∧ smo sa sb) (fun sb => (SH a (c) (sb) (si) (sl) h0)))) (fun j hj ih2 bl x5 hbl => ?_)
        refine w_iload dX8_mendLayer_36 rfl ?_
        refine w_aload_n dX8_mendLayer_38 rfl rfl ?_
        refine w_getf fX8_37 dX8_mendLayer_39 SC0 rfl ?_
        refine w_getf fX8_128 dX8_mendLayer_42 o_c rfl ?_
        refine w_icmp_ge 100 dX8_mendLayer_45 (by decide) (by first | assumption | (unfold ok32 at *; omega)) (by first | assumption | (unfold ok32 at *; omega)) (fun hd => ?_) (fun hd => ?_)
        · have hjC : j = C := by omega
          rw [hjC] at hbl
          refine w_iinc (lv' := [_, _, _, _, _, _]) dX8_mendLayer_100 rfl rfl rfl ?_
          refine w_goto 2 dX8_mendLayer_103 (by decide) ?_
          refine ih (by omega) (u1 (u1 (u1 sb 7 q) 4 g) 2 bl) _ _ _ ⟨hbl, fun k hk' j' hj' ho' => ?_⟩ hs
          show g (8 * k + j') = mdN D L C k0 C (144 + 8 * k + j')
          by_cases hkk : k = k0
          · subst hkk
            have ho'' : okc (shA D) L k j' = true := by
              rw [okc_same hVD (mdN_s (A := D) (L := L) (C := C) (c := k) (j := C)) hk' hj'] at ho'
              exact ho'
            rw [hmm.1 j' hj' ho'', g2 j' hj' (by rw [← hokD j' hj']; exact ho''), hnm j' hj']
          · rw [hmm.2 _ (by omega) (by omega), g3 _ (by omega)]
            exact hb.2 k hk' j' hj' (by rw [okc_same hVD (mdN_s (A := D) (L := L) (C := C) (c := k0) (j := C)) hk' hj'] at ho'; exact ho')
        · have hrj := hbr j (by omega)
          refine w_aload_n dX8_mendLayer_48 rfl rfl ?_
          refine w_getf fX8_37 dX8_mendLayer_49 SC0 rfl ?_
          refine w_getf fX8_131 dX8_mendLayer_52 o_c rfl ?_
          refine w_iload_n dX8_mendLayer_55 rfl rfl ?_
          refine w_iload dX8_mendLayer_56 rfl ?_
          refine w_iadd dX8_mendLayer_58 ?_
          refine w_iald (8 * k0 + j) r_c_edges (by first | rfl | omega | (push_cast; rfl) | (push_cast; omega)) (by omega) (by decide) dX8_mendLayer_59 ?_
          rw [e8 k0 hk0 j (by omega)]
          obtain ⟨bb, hbb⟩ : ∃ bb, bitN (shA B) L k0 j = bb := ⟨_, rfl⟩
          rw [hbb] at hrj ⊢
          refine w_istore (lv' := [_, _, _, _, _, _]) dX8_mendLayer_60 (Nat.le_of_ble_eq_true rfl) rfl rfl ?_
          refine w_iload dX8_mendLayer_62 rfl ?_
          refine w_if_lt 94 dX8_mendLayer_64 (by decide) (by first | assumption | (unfold ok32 at *; omega)) (fun h1 => ?_) (fun h1 => ?_)
          · refine w_iinc (lv' := [_, _, _, _, _, _]) dX8_mendLayer_94 rfl rfl rfl ?_
            refine w_goto 36 dX8_mendLayer_97 (by decide) ?_
            refine ih2 (by omega) bl _ (fun b hb' => ?_)
            rw [mdN, if_pos (by rw [hbt j (by omega), hbb]; omega)]
            exact hbl b hb'
          · obtain ⟨t, ht⟩ : ∃ t : Nat, bb = (t : Int) := ⟨bb.toNat, by omega⟩
            subst ht
            have htn : t < L * C := by have := hrj.2.1; exact_mod_cast this
            have ho : okc (shA B) L k0 j = true := (hok1 j).mpr (by rw [hbb]; omega)
            have hrr := rho_rng hVD hID.bel hk0 (show j < C by omega) (by rw [hbt j (by omega), hbb]; omega)
            have hnr := nmV_rng (ok := okc (shA B) L k0) (q := rho D L k0) (j := j) (C := C) (off := B 6) (mo := B 7) h7
            refine w_aload_n dX8_mendLayer_67 rfl rfl ?_
            refine w_getf fX8_19 dX8_mendLayer_68 SC0 rfl ?_
            refine w_iload dX8_mendLayer_71 rfl ?_
            refine w_aload_n dX8_mendLayer_73 rfl rfl ?_
            refine w_getf fX8_34 dX8_mendLayer_74 SC0 rfl ?_
            refine w_iload dX8_mendLayer_77 rfl ?_
            refine w_iald (j) SC7 (by first | rfl | omega | (push_cast; rfl) | (push_cast; omega)) (by omega) (by decide) dX8_mendLayer_79 ?_
            rw [show (u1 (u1 (u1 sb 7 q) 4 g) 2 bl) 7 j = q j from rfl, g1 j (by omega) ho]
            refine w_aload_n dX8_mendLayer_80 rfl rfl ?_
            refine w_getf fX8_25 dX8_mendLayer_81 SC0 rfl ?_
            refine w_iload_n dX8_mendLayer_84 rfl rfl ?_
            refine w_iload dX8_mendLayer_85 rfl ?_
            refine w_iadd dX8_mendLayer_87 ?_
            refine w_iald (8 * k0 + j) SC4 (by first | rfl | omega | (push_cast; rfl) | (push_cast; omega)) (by omega) (by decide) dX8_mendLayer_88 ?_
            rw [show (u1 (u1 (u1 sb 7 q) 4 g) 2 bl) 4 (8 * k0 + j) = g (8 * k0 + j) from rfl, g2 j (by omega) ho]
            refine w_iadd dX8_mendLayer_89 ?_
            refine wc_S (Z := mX8_hold) (As := [_]) (c8_hold (by unfold ok32; omega)) kX8_hold lX8_134 sX8_hold dX8_mendLayer_90 rfl rfl rfl (Nat.le_of_ble_eq_true rfl) ⟨Nat.le_of_ble_eq_true rfl, Nat.le_of_ble_eq_true rfl⟩ ?_
            refine sc_ist2 (t) (by first | rfl | omega | (push_cast; rfl) | (push_cast; omega)) (by omega) dX8_mendLayer_93 ?_
            rw [u1_u1, u1_s]
            refine w_iinc (lv' := [_, _, _, _, _, _]) dX8_mendLayer_94 rfl rfl rfl ?_
            refine w_goto 36 dX8_mendLayer_97 (by decide) ?_
            refine ih2 (by omega) (u1 bl t (hld (rho D L k0 j + nmV (okc (shA B) L k0) (rho D L k0) j C (B 6) (B 7)) (-99) 99)) _ (fun b hb' => ?_)
            rw [mdN, if_neg (by rw [hbt j (by omega), hbb]; omega), hbt j (by omega), hbb, Int.toNat_natCast, ← hnm j (by omega)]
            by_cases hbt' : b = t
            · rw [hbt', u1_s, u1_s]
            · rw [u1_n hbt', u1_n (by omega), u1_n (by omega)]
              exact hbl b hb'
      refine w_cast rfl rfl ?_ (key2 0 (Nat.zero_le _) (sb 2) x5 (fun b hb' => hb.1 b hb'))
      rw [show u1 (u1 (u1 sb 7 q) 4 g) 2 (sb 2) = u1 (u1 sb 7 q) 4 g from u1_id (f := u1 (u1 sb 7 q) 4 g) (k := 2)]
  exact key 0 (Nat.zero_le _) sa jk jk jk hB ⟨rfl, rfl, rfl, rfl⟩

