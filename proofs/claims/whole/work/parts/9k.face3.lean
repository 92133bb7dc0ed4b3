/-! the face: bits told, messages, the book, knots, what is peeled -/
theorem set_in {x : BitVec 64} {n : Nat} (hn : n < 64) (h : x.sshiftRight n = 0#64) : ∀ i, x.getLsbD i = true → i < n := by
  intro i hi
  refine Classical.byContradiction fun hc => ?_
  have h5 : i < 64 := by
    refine Classical.byContradiction fun h => ?_
    rw [BitVec.getLsbD_of_ge _ _ (by omega)] at hi
    cases hi
  have h6 : (x.sshiftRight n).getLsbD (i - n) = true := by
    rw [BitVec.getLsbD_sshiftRight, if_pos (by omega), show n + (i - n) = i by omega, hi]
    simp
    omega
  rw [h] at h6
  simp at h6
theorem set_pop {x : BitVec 64} {n : Nat} (hn : n < 64) (h : x.sshiftRight n = 0#64) : pop x ≤ n := by
  refine pop_cut (by omega) (fun i h1 _ => ?_)
  cases hb : x.getLsbD i with
  | false => rfl
  | true => have := set_in hn h i hb; omega
theorem gset_bit {f : Nat → Int} {b : Nat} : ∀ {n : Nat}, n ≤ 64 → b < n → (gset f n).getLsbD b = decide (f b < 0)
  | 0, _, h => absurd h (Nat.not_lt_zero _)
  | n + 1, hn, h => by
    by_cases hb : b = n
    · subst hb
      unfold gset
      split
      · rename_i q
        rw [BitVec.getLsbD_or, bit1o (by omega), decide_eq_true q]
        simp
      · rename_i q
        rw [gset_hi (by omega) (Nat.le_refl _), decide_eq_false q]
    · have ih := gset_bit (f := f) (b := b) (n := n) (by omega) (by omega)
      unfold gset
      split
      · rw [BitVec.getLsbD_or, bit1o (by omega), decide_eq_false hb, ih, Bool.or_false]
      · exact ih
theorem one_int {p : Prop} [Decidable p] {x : BitVec 64} {k : Nat} (h : x.getLsbD k = true ↔ p) : (if x.getLsbD k then 1#64 else 0#64 : BitVec 64).toInt = bI p := by
  by_cases hp : p
  · rw [if_pos (h.mpr hp), bI_t hp]; rfl
  · rw [if_neg (fun q => hp (h.mp q)), bI_f hp]; rfl
theorem x_bit {o hd c : Nat} {sa : Nat → Nat → Int} {si : Nat → Int} {sl : Nat → BitVec 64} {h : HP} {A : Nat → Int} {L R C : Nat} {z x : Int} {q0 : Nat → BitVec 64} (hW : VW h o hd c sa si sl A L R C) (hz : ok32 z) (hx : ok32 x) : sp mX9_bit [.ref o, .int (zI z), .int (zI x)] h 0 0 (pd (some (.int (zI (if ¬ (0 ≤ z ∧ z ≤ (L : Int) * C - 1) then -100 else if x = 0 then A (48 + z.toNat) else if x = 1 then A (96 + z.toNat) else if x = 2 then bI (A (96 + z.toNat) < 0) else if x = 3 then bI ((sentB A).getLsbD z.toNat = true) else if x = 4 then bI (¬ (lsR A q0 L R C).2.1.getLsbD z.toNat = true) else -100)))) h) := by
  obtain ⟨⟨kd, rd, pl, cu, aw, fw, o_o⟩, ⟨nh, o_h⟩, hS, hR, hC, hT⟩ := id hW
  have o_n : h.2 (hd + 4) = some (.inr (7, sfs (hd + 4) c si sl)) := hS 0 (by omega)
  have r_heard : h.2 (hd + 4 + 1) = some (aI 48 (sa 1)) := hS 1 (by omega)
  have r_belief : h.2 (hd + 4 + 2) = some (aI 48 (sa 2)) := hS 2 (by omega)
  have r_turned : h.2 (hd + 4 + 3) = some (aI 48 (sa 3)) := hS 3 (by omega)
  have r_message : h.2 (hd + 4 + 4) = some (aI 192 (sa 4)) := hS 4 (by omega)
  have r_book : h.2 (hd + 4 + 5) = some (aI 48 (sa 5)) := hS 5 (by omega)
  have r_order : h.2 (hd + 4 + 6) = some (aI 4 (sa 6)) := hS 6 (by omega)
  obtain ⟨ad, f7, f8, f10, f9, f11, rk, cr, hV, h6, h7, o_c, r_c_shifts, r_c_edges, r_c_bitsOf, r_c_checksOf, r_c_sums, e7, e8, e9, e10, hRD⟩ := id hC
  obtain ⟨v1, v2, v3, v4, v5, v6, v7⟩ := id hV
  obtain ⟨hI, -, hSN, hA2⟩ := id hT
  obtain ⟨⟨s1, s2, s3, s4, s5, s6⟩, ⟨g8, g9⟩, ⟨nl, l7, lb, hBK⟩, b1, b2, b3, b4, b6⟩ := id hR
  have hLC := mulLe (a := L) (b := C) (x := 6) (y := 8) (by omega) (by omega)
  have hLR := mulLe (a := L) (b := R) (x := 6) (y := 4) (by omega) (by omega)
  have hLCi : (L : Int) * C = ((L * C : Nat) : Int) := by push_cast; rfl
  have hLRi : (L : Int) * R = ((L * R : Nat) : Int) := by push_cast; rfl
  refine sp_wp rfl (lv := [_, _, _, _]) rfl (Nat.le_of_ble_eq_true rfl) ?_
  refine w_aload_n dX9_bit_0 rfl rfl ?_
  refine w_iload_n dX9_bit_1 rfl rfl ?_
  refine wc_V (Z := mX9_isBit) (As := [_]) (x_isBit hW hz) o_o rfl kX9_isBit lX9_129 iX9_isBit vX9_isBit dX9_bit_2 rfl rfl rfl (Nat.le_of_ble_eq_true rfl) ⟨Nat.le_of_ble_eq_true rfl, Nat.le_of_ble_eq_true rfl⟩ ?_
  refine w_ifb_ne 11 dX9_bit_5 (by decide) (fun hc => ?_) (fun hc => ?_)
  rotate_left
  · rw [if_pos hc]
    refine w_bipush dX9_bit_8 (by decide) ?_
    refine x_iret rfl rfl dX9_bit_10 ⟨?_, rfl⟩
    rfl
  · rw [if_neg (fun q => q hc)]
    refine w_aload_n dX9_bit_11 rfl rfl ?_
    refine w_getf fX9_19 dX9_bit_12 o_o rfl ?_
    refine w_getf fX9_89 dX9_bit_15 o_h rfl ?_
    refine w_astore_n (lv' := [_, _, _, _]) dX9_bit_18 rfl (Nat.le_of_ble_eq_true rfl) rfl rfl ?_
    refine w_iload_n dX9_bit_19 rfl rfl ?_
    by_cases hq : x < 0 ∨ 4 < x
    · refine w_tsw_out 103 dX9_bit_20 hx hq (by decide) ?_
      refine w_bipush dX9_bit_103 (by decide) ?_
      refine x_iret rfl rfl dX9_bit_105 ⟨?_, rfl⟩
      rw [if_neg (by omega), if_neg (by omega), if_neg (by omega), if_neg (by omega), if_neg (by omega)]
    · rcases (show x = 0 ∨ x = 1 ∨ x = 2 ∨ x = 3 ∨ x = 4 by omega) with e | e | e | e | e <;> subst e
      · refine w_tsw_in 56 dX9_bit_20 hx (by decide) (by decide) rfl (by decide) ?_
        rw [if_pos rfl, ← b1 z.toNat (by omega)]
        refine w_aload_n dX9_bit_56 rfl rfl ?_
        refine w_getf fX9_133 dX9_bit_57 o_n rfl ?_
        refine w_iload_n dX9_bit_60 rfl rfl ?_
        refine w_iald (z.toNat) r_heard (by first | rfl | omega | (push_cast; rfl) | (push_cast; omega)) (by omega) (by decide) dX9_bit_61 ?_
        refine x_iret rfl rfl dX9_bit_62 ⟨?_, rfl⟩
        rfl
      · refine w_tsw_in 63 dX9_bit_20 hx (by decide) (by decide) rfl (by decide) ?_
        rw [if_neg (by decide), if_pos rfl, ← b2 z.toNat (by omega)]
        refine w_aload_n dX9_bit_63 rfl rfl ?_
        refine w_getf fX9_226 dX9_bit_64 o_n rfl ?_
        refine w_iload_n dX9_bit_67 rfl rfl ?_
        refine w_iald (z.toNat) r_belief (by first | rfl | omega | (push_cast; rfl) | (push_cast; omega)) (by omega) (by decide) dX9_bit_68 ?_
        refine x_iret rfl rfl dX9_bit_69 ⟨?_, rfl⟩
        rfl
      · refine w_tsw_in 70 dX9_bit_20 hx (by decide) (by decide) rfl (by decide) ?_
        rw [if_neg (by decide), if_neg (by decide), if_pos rfl]
        refine w_aload_n dX9_bit_70 rfl rfl ?_
        refine w_getf fX9_229 dX9_bit_71 o_n rfl ?_
        refine w_iload_n dX9_bit_74 rfl rfl ?_
        refine w_lshr z.toNat (by omega) (by omega) dX9_bit_75 ?_
        refine w_lconst1 dX9_bit_76 ?_
        refine w_land dX9_bit_77 ?_
        rw [sshr_bit (show z.toNat < 64 by omega)]
        refine w_l2i dX9_bit_78 ?_
        refine x_iret rfl rfl dX9_bit_79 ⟨?_, rfl⟩
        rw [one_int (p := A (96 + z.toNat) < 0)]
        rw [g8]
        unfold gA
        rw [gset_bit (by omega) (by omega)]
        exact decide_eq_true_iff
      · refine w_tsw_in 80 dX9_bit_20 hx (by decide) (by decide) rfl (by decide) ?_
        rw [if_neg (by decide), if_neg (by decide), if_neg (by decide), if_pos rfl]
        refine w_aload_n dX9_bit_80 rfl rfl ?_
        refine w_getf fX9_109 dX9_bit_81 o_n rfl ?_
        refine w_iload_n dX9_bit_84 rfl rfl ?_
        refine w_lshr z.toNat (by omega) (by omega) dX9_bit_85 ?_
        refine w_lconst1 dX9_bit_86 ?_
        refine w_land dX9_bit_87 ?_
        rw [sshr_bit (show z.toNat < 64 by omega)]
        refine w_l2i dX9_bit_88 ?_
        refine x_iret rfl rfl dX9_bit_89 ⟨?_, rfl⟩
        rw [one_int (p := (sentB A).getLsbD z.toNat = true)]
        rw [s1]
      · refine w_tsw_in 90 dX9_bit_20 hx (by decide) (by decide) rfl (by decide) ?_
        rw [if_neg (by decide), if_neg (by decide), if_neg (by decide), if_neg (by decide), if_pos rfl]
        refine w_aload_n dX9_bit_90 rfl rfl ?_
        refine w_getf fX9_98 dX9_bit_91 o_n rfl ?_
        refine w_getf fX9_232 dX9_bit_94 o_c rfl ?_
        refine w_iload_n dX9_bit_97 rfl rfl ?_
        refine w_lshr z.toNat (by omega) (by omega) dX9_bit_98 ?_
        refine w_lconst1 dX9_bit_99 ?_
        refine w_land dX9_bit_100 ?_
        rw [sshr_bit (show z.toNat < 64 by omega)]
        refine w_l2i dX9_bit_101 ?_
        refine x_iret rfl rfl dX9_bit_102 ⟨?_, rfl⟩
        rw [one_int (p := ¬ (lsR A q0 L R C).2.1.getLsbD z.toNat = true)]
        rw [(hRD q0).2.1, decide_eq_true (show z.toNat < L * C by omega)]
        simp
theorem x_message {o hd c : Nat} {sa : Nat → Nat → Int} {si : Nat → Int} {sl : Nat → BitVec 64} {h : HP} {A : Nat → Int} {L R C : Nat} {z x : Int} (hW : VW h o hd c sa si sl A L R C) (hz : ok32 z) (hx : ok32 x) : sp mX9_message [.ref o, .int (zI z), .int (zI x)] h 0 0 (pd (some (.int (zI (if (0 ≤ z ∧ z ≤ (L : Int) * R - 1) ∧ (0 ≤ x ∧ x ≤ (L : Int) * C - 1) ∧ bitN (shA A) L z.toNat (x.toNat / L) = x then A (144 + 8 * z.toNat + x.toNat / L) else -100)))) h) := by
  obtain ⟨⟨kd, rd, pl, cu, aw, fw, o_o⟩, ⟨nh, o_h⟩, hS, hR, hC, hT⟩ := id hW
  have o_n : h.2 (hd + 4) = some (.inr (7, sfs (hd + 4) c si sl)) := hS 0 (by omega)
  have r_heard : h.2 (hd + 4 + 1) = some (aI 48 (sa 1)) := hS 1 (by omega)
  have r_belief : h.2 (hd + 4 + 2) = some (aI 48 (sa 2)) := hS 2 (by omega)
  have r_turned : h.2 (hd + 4 + 3) = some (aI 48 (sa 3)) := hS 3 (by omega)
  have r_message : h.2 (hd + 4 + 4) = some (aI 192 (sa 4)) := hS 4 (by omega)
  have r_book : h.2 (hd + 4 + 5) = some (aI 48 (sa 5)) := hS 5 (by omega)
  have r_order : h.2 (hd + 4 + 6) = some (aI 4 (sa 6)) := hS 6 (by omega)
  obtain ⟨ad, f7, f8, f10, f9, f11, rk, cr, hV, h6, h7, o_c, r_c_shifts, r_c_edges, r_c_bitsOf, r_c_checksOf, r_c_sums, e7, e8, e9, e10, hRD⟩ := id hC
  obtain ⟨v1, v2, v3, v4, v5, v6, v7⟩ := id hV
  obtain ⟨hI, -, hSN, hA2⟩ := id hT
  obtain ⟨⟨s1, s2, s3, s4, s5, s6⟩, ⟨g8, g9⟩, ⟨nl, l7, lb, hBK⟩, b1, b2, b3, b4, b6⟩ := id hR
  have hLC := mulLe (a := L) (b := C) (x := 6) (y := 8) (by omega) (by omega)
  have hLR := mulLe (a := L) (b := R) (x := 6) (y := 4) (by omega) (by omega)
  have hLCi : (L : Int) * C = ((L * C : Nat) : Int) := by push_cast; rfl
  have hLRi : (L : Int) * R = ((L * R : Nat) : Int) := by push_cast; rfl
  refine sp_wp rfl (lv := [_, _, _, _, _]) rfl (Nat.le_of_ble_eq_true rfl) ?_
  refine w_aload_n dX9_message_0 rfl rfl ?_
  refine w_iload_n dX9_message_1 rfl rfl ?_
  refine wc_V (Z := mX9_isCheck) (As := [_]) (x_isCheck hW hz) o_o rfl kX9_isCheck lX9_208 iX9_isCheck vX9_isCheck dX9_message_2 rfl rfl rfl (Nat.le_of_ble_eq_true rfl) ⟨Nat.le_of_ble_eq_true rfl, Nat.le_of_ble_eq_true rfl⟩ ?_
  refine w_ifb_eq 16 dX9_message_5 (by decide) (fun hc => ?_) (fun hc => ?_)
  · rw [if_neg (fun q => hc q.1)]
    refine w_bipush dX9_message_16 (by decide) ?_
    refine x_iret rfl rfl dX9_message_18 ⟨?_, rfl⟩
    rfl
  · refine w_aload_n dX9_message_8 rfl rfl ?_
    refine w_iload_n dX9_message_9 rfl rfl ?_
    refine wc_V (Z := mX9_isBit) (As := [_]) (x_isBit hW hx) o_o rfl kX9_isBit lX9_129 iX9_isBit vX9_isBit dX9_message_10 rfl rfl rfl (Nat.le_of_ble_eq_true rfl) ⟨Nat.le_of_ble_eq_true rfl, Nat.le_of_ble_eq_true rfl⟩ ?_
    refine w_ifb_ne 19 dX9_message_13 (by decide) (fun hd2 => ?_) (fun hd2 => ?_)
    · obtain ⟨zn, hzn⟩ : ∃ zn : Nat, z = (zn : Int) := ⟨z.toNat, by omega⟩
      obtain ⟨xn, hxn⟩ : ∃ xn : Nat, x = (xn : Int) := ⟨x.toNat, by omega⟩
      subst hzn
      subst hxn
      rw [Int.toNat_natCast, Int.toNat_natCast]
      have hzl : zn < L * R := by omega
      have hxl : xn < L * C := by omega
      have hcol : ∀ j, j < C → (bitN (shA A) L zn j = (xn : Int) ↔ (j = xn / L ∧ bitN (shA A) L zn (xn / L) = (xn : Int))) := fun j hj => by
        have hr := rowLt hzl v4.1
        constructor
        · intro he
          rcases bitN_rng (sh := shA A) (L := L) (c := zn) (j := j) v4.1 (v7 _ (by omega)).1 with h | ⟨h1, h2⟩
          · omega
          · have hjb : xn / L = j := by
              rw [he] at h1 h2
              have h3 : L * j ≤ xn := by exact_mod_cast h1
              have h4 : xn < L * j + L := by exact_mod_cast h2
              exact Nat.div_eq_of_lt_le (by rw [Nat.mul_comm]; exact h3) (by rw [Nat.succ_mul, Nat.mul_comm]; exact h4)
            rw [hjb]
            exact ⟨rfl, he⟩
        · rintro ⟨e1, e2⟩
          rw [e1]
          exact e2
      have hq : xn / L < C := (Nat.div_lt_iff_lt_mul (by omega)).mpr (by rw [Nat.mul_comm]; exact hxl)
      refine w_aload_n dX9_message_19 rfl rfl ?_
      refine w_getf fX9_19 dX9_message_20 o_o rfl ?_
      refine w_getf fX9_89 dX9_message_23 o_h rfl ?_
      refine w_getf fX9_98 dX9_message_26 o_n rfl ?_
      refine w_astore_n (lv' := [_, _, _, _, _]) dX9_message_29 rfl (Nat.le_of_ble_eq_true rfl) rfl rfl ?_
      refine w_iconst dX9_message_30 ?_
      refine w_istore (lv' := [_, _, _, _, _]) dX9_message_31 (Nat.le_of_ble_eq_true rfl) rfl rfl ?_
      have key : ∀ j, j ≤ C → (∀ i, i < j → ¬ bitN (shA A) L zn i = (xn : Int)) → wp mX9_message 33 [.ref o, .int (zI (zn : Int)), .int (zI (xn : Int)), .ref c, .int (zI (j : Int))] [] h 0 0 (pd (some (.int (zI (if (0 ≤ (zn : Int) ∧ (zn : Int) ≤ (L : Int) * R - 1) ∧ (0 ≤ (xn : Int) ∧ (xn : Int) ≤ (L : Int) * C - 1) ∧ bitN (shA A) L zn (xn / L) = (xn : Int) then A (144 + 8 * zn + xn / L) else -100)))) h) := by
        refine up_ind (fun j hj ih hall => ?_)
        refine w_iload dX9_message_33 rfl ?_
        refine w_aload_n dX9_message_35 rfl rfl ?_
        refine w_getf fX9_119 dX9_message_36 o_c rfl ?_
        refine w_icmp_ge 83 dX9_message_39 (by decide) (by first | assumption | (unfold ok32 at *; omega)) (by first | assumption | (unfold ok32 at *; omega)) (fun h1 => ?_) (fun h1 => ?_)
        · rw [if_neg (fun q => hall (xn / L) (by omega) q.2.2)]
          refine w_bipush dX9_message_83 (by decide) ?_
          refine x_iret rfl rfl dX9_message_85 ⟨?_, rfl⟩
          rfl
        · have hjC : j < C := by omega
          have hb := bitN_b hV hzl hjC
          refine w_aload_n dX9_message_42 rfl rfl ?_
          refine w_getf fX9_235 dX9_message_43 o_c rfl ?_
          refine w_iload_n dX9_message_46 rfl rfl ?_
          refine w_bipush dX9_message_47 (by decide) ?_
          refine w_imul dX9_message_49 ?_
          refine w_iload dX9_message_50 rfl ?_
          refine w_iadd dX9_message_52 ?_
          refine w_iald (8 * zn + j) r_c_edges (by first | rfl | omega | (push_cast; rfl) | (push_cast; omega)) (by omega) (by decide) dX9_message_53 ?_
          rw [e8 zn hzl j hjC]
          refine w_iload_n dX9_message_54 rfl rfl ?_
          refine w_icmp_ne 77 dX9_message_55 (by decide) (by first | assumption | (unfold ok32 at *; omega)) (by first | assumption | (unfold ok32 at *; omega)) (fun h2 => ?_) (fun h2 => ?_)
          · refine w_iinc (lv' := [_, _, _, _, _]) dX9_message_77 rfl rfl rfl ?_
            refine w_goto 33 dX9_message_80 (by decide) ?_
            have := ih hjC (fun i hi => by
              by_cases hij : i = j
              · rw [hij]; exact h2
              · exact hall i (by omega))
            push_cast at this
            exact this
          · have h3 : bitN (shA A) L zn j = (xn : Int) := Classical.byContradiction fun q => by omega
            obtain ⟨w1, w2⟩ := (hcol j hjC).mp h3
            rw [if_pos ⟨hc, hd2, w2⟩, ← w1, ← b4 zn hzl j hjC (by unfold okc; rw [h3]; rw [decide_eq_false (by omega)]; rfl)]
            refine w_aload_n dX9_message_58 rfl rfl ?_
            refine w_getf fX9_19 dX9_message_59 o_o rfl ?_
            refine w_getf fX9_89 dX9_message_62 o_h rfl ?_
            refine w_getf fX9_238 dX9_message_65 o_n rfl ?_
            refine w_iload_n dX9_message_68 rfl rfl ?_
            refine w_bipush dX9_message_69 (by decide) ?_
            refine w_imul dX9_message_71 ?_
            refine w_iload dX9_message_72 rfl ?_
            refine w_iadd dX9_message_74 ?_
            refine w_iald (8 * zn + j) r_message (by first | rfl | omega | (push_cast; rfl) | (push_cast; omega)) (by omega) (by decide) dX9_message_75 ?_
            refine x_iret rfl rfl dX9_message_76 ⟨?_, rfl⟩
            rfl
      exact key 0 (Nat.zero_le _) (fun i hi => absurd hi (Nat.not_lt_zero _))
    · rw [if_neg (fun q => hd2 q.2.1)]
      refine w_bipush dX9_message_16 (by decide) ?_
      refine x_iret rfl rfl dX9_message_18 ⟨?_, rfl⟩
      rfl
theorem x_book {o hd c : Nat} {sa : Nat → Nat → Int} {si : Nat → Int} {sl : Nat → BitVec 64} {h : HP} {A : Nat → Int} {L R C : Nat} {z x : Int} (hW : VW h o hd c sa si sl A L R C) (hz : ok32 z) (hx : ok32 x) : sp mX9_book [.ref o, .int (zI z), .int (zI x)] h 0 0 (pd (some (.int (zI (if z = -1 then A 384 else if (0 ≤ z ∧ z ≤ A 384 - 1) ∧ 0 ≤ x ∧ x ≤ 2 then A (336 + 3 * z.toNat + x.toNat) else -2)))) h) := by
  obtain ⟨⟨kd, rd, pl, cu, aw, fw, o_o⟩, ⟨nh, o_h⟩, hS, hR, hC, hT⟩ := id hW
  have o_n : h.2 (hd + 4) = some (.inr (7, sfs (hd + 4) c si sl)) := hS 0 (by omega)
  have r_heard : h.2 (hd + 4 + 1) = some (aI 48 (sa 1)) := hS 1 (by omega)
  have r_belief : h.2 (hd + 4 + 2) = some (aI 48 (sa 2)) := hS 2 (by omega)
  have r_turned : h.2 (hd + 4 + 3) = some (aI 48 (sa 3)) := hS 3 (by omega)
  have r_message : h.2 (hd + 4 + 4) = some (aI 192 (sa 4)) := hS 4 (by omega)
  have r_book : h.2 (hd + 4 + 5) = some (aI 48 (sa 5)) := hS 5 (by omega)
  have r_order : h.2 (hd + 4 + 6) = some (aI 4 (sa 6)) := hS 6 (by omega)
  obtain ⟨ad, f7, f8, f10, f9, f11, rk, cr, hV, h6, h7, o_c, r_c_shifts, r_c_edges, r_c_bitsOf, r_c_checksOf, r_c_sums, e7, e8, e9, e10, hRD⟩ := id hC
  obtain ⟨v1, v2, v3, v4, v5, v6, v7⟩ := id hV
  obtain ⟨hI, -, hSN, hA2⟩ := id hT
  obtain ⟨⟨s1, s2, s3, s4, s5, s6⟩, ⟨g8, g9⟩, ⟨nl, l7, lb, hBK⟩, b1, b2, b3, b4, b6⟩ := id hR
  have hLC := mulLe (a := L) (b := C) (x := 6) (y := 8) (by omega) (by omega)
  have hLR := mulLe (a := L) (b := R) (x := 6) (y := 4) (by omega) (by omega)
  have hLCi : (L : Int) * C = ((L * C : Nat) : Int) := by push_cast; rfl
  have hLRi : (L : Int) * R = ((L * R : Nat) : Int) := by push_cast; rfl
  have hnl : nl ≤ 1000 := by
    have h12 : A 10 ≤ 20 := (hI 10).2
    have h13 : A 11 ≤ 3 := (hI 11).2
    omega
  obtain ⟨k1, k2⟩ := id hBK
  have hmin : (if (16 : Int) < (nl : Int) then (16 : Int) else (nl : Int)) = ((min nl 16 : Nat) : Int) := by split <;> omega
  refine sp_wp rfl (lv := [_, _, _, _]) rfl (Nat.le_of_ble_eq_true rfl) ?_
  refine w_aload_n dX9_book_0 rfl rfl ?_
  refine w_getf fX9_19 dX9_book_1 o_o rfl ?_
  refine w_getf fX9_89 dX9_book_4 o_h rfl ?_
  refine w_getf fX9_245 dX9_book_7 o_n rfl ?_
  refine w_bipush dX9_book_10 (by decide) ?_
  rw [l7]
  refine w_mmin lX9_248 sJ9_min_7cf53 kJ9_min_7cf53.2.1 kJ9_min_7cf53.1 (by unfold ok32; omega) (by unfold ok32; omega) rfl (Nat.le_of_ble_eq_true rfl) (Nat.le_of_ble_eq_true rfl) dX9_book_12 ?_
  rw [hmin]
  obtain ⟨w, hw⟩ : ∃ w, min nl 16 = w := ⟨_, rfl⟩
  rw [hw] at k1 k2 ⊢
  have hw16 : w ≤ 16 ∧ w ≤ nl := by omega
  have no : ¬ z = -1 → ¬ ((0 ≤ z ∧ z ≤ A 384 - 1) ∧ 0 ≤ x ∧ x ≤ 2) → wp mX9_book 41 [.ref o, .int (zI z), .int (zI x), .int (zI (w : Int))] [] h 0 0 (pd (some (.int (zI (if z = -1 then A 384 else if (0 ≤ z ∧ z ≤ A 384 - 1) ∧ 0 ≤ x ∧ x ≤ 2 then A (336 + 3 * z.toNat + x.toNat) else -2)))) h) := by
    intro h1 h2
    rw [if_neg h1, if_neg h2]
    refine w_bipush dX9_book_41 (by decide) ?_
    refine x_iret rfl rfl dX9_book_43 ⟨?_, rfl⟩
    rfl
  refine w_istore_n (lv' := [_, _, _, _]) dX9_book_15 rfl (Nat.le_of_ble_eq_true rfl) rfl rfl ?_
  refine w_iload_n dX9_book_16 rfl rfl ?_
  refine w_iconst dX9_book_17 ?_
  refine w_icmp_ne 23 dX9_book_18 (by decide) (by first | assumption | (unfold ok32 at *; omega)) (by first | assumption | (unfold ok32 at *; omega)) (fun hc => ?_) (fun hc => ?_)
  · refine w_iload_n dX9_book_23 rfl rfl ?_
    refine w_if_lt 41 dX9_book_24 (by decide) (by first | assumption | (unfold ok32 at *; omega)) (fun h1 => ?_) (fun h1 => ?_)
    · exact no hc (by omega)
    · refine w_iload_n dX9_book_27 rfl rfl ?_
      refine w_iload_n dX9_book_28 rfl rfl ?_
      refine w_icmp_ge 41 dX9_book_29 (by decide) (by first | assumption | (unfold ok32 at *; omega)) (by first | assumption | (unfold ok32 at *; omega)) (fun h2 => ?_) (fun h2 => ?_)
      · exact no hc (by omega)
      · refine w_iload_n dX9_book_32 rfl rfl ?_
        refine w_if_lt 41 dX9_book_33 (by decide) (by first | assumption | (unfold ok32 at *; omega)) (fun h3 => ?_) (fun h3 => ?_)
        · exact no hc (by omega)
        · refine w_iload_n dX9_book_36 rfl rfl ?_
          refine w_iconst dX9_book_37 ?_
          refine w_icmp_lt 44 dX9_book_38 (by decide) (by first | assumption | (unfold ok32 at *; omega)) (by first | assumption | (unfold ok32 at *; omega)) (fun h4 => ?_) (fun h4 => ?_)
          · rw [if_neg hc, if_pos (by omega)]
            have hk := k2 z.toNat (by omega) x.toNat (by omega)
            rw [← hk]
            refine w_aload_n dX9_book_44 rfl rfl ?_
            refine w_getf fX9_19 dX9_book_45 o_o rfl ?_
            refine w_getf fX9_89 dX9_book_48 o_h rfl ?_
            refine w_getf fX9_253 dX9_book_51 o_n rfl ?_
            refine w_aload_n dX9_book_54 rfl rfl ?_
            refine w_getf fX9_19 dX9_book_55 o_o rfl ?_
            refine w_getf fX9_89 dX9_book_58 o_h rfl ?_
            refine w_getf fX9_245 dX9_book_61 o_n rfl ?_
            rw [l7]
            refine w_iload_n dX9_book_64 rfl rfl ?_
            refine w_isub dX9_book_65 ?_
            refine w_iload_n dX9_book_66 rfl rfl ?_
            refine w_iadd dX9_book_67 ?_
            refine w_bipush dX9_book_68 (by decide) ?_
            refine w_irem dX9_book_70 (by unfold ok32; omega) (by omega) (by omega) (by unfold ok32; omega) ?_
            refine w_iconst dX9_book_71 ?_
            refine w_imul dX9_book_72 ?_
            refine w_iload_n dX9_book_73 rfl rfl ?_
            refine w_iadd dX9_book_74 ?_
            refine w_iald ((nl - w + z.toNat) % 16 * 3 + x.toNat) r_book ?_ (by omega) (by decide) dX9_book_75 ?_
            · rw [show (nl : Int) - (w : Int) + z = ((nl - w + z.toNat : Nat) : Int) by omega]
              have : (((nl - w + z.toNat : Nat) : Int).tmod 16) = (((nl - w + z.toNat) % 16 : Nat) : Int) := rfl
              omega
            refine x_iret rfl rfl dX9_book_76 ⟨?_, rfl⟩
            rfl
          · exact no hc (by omega)
  · rw [if_pos (by omega), k1]
    refine w_iload_n dX9_book_21 rfl rfl ?_
    refine x_iret rfl rfl dX9_book_22 ⟨?_, rfl⟩
    rfl
theorem x_restless {o hd c : Nat} {sa : Nat → Nat → Int} {si : Nat → Int} {sl : Nat → BitVec 64} {h : HP} {A : Nat → Int} {L R C : Nat} (hW : VW h o hd c sa si sl A L R C) : sp mX9_restless [.ref o] h 0 0 (pd (some (.int (zI (rlN (fun b => A (385 + b)) (L * C))))) h) := by
  obtain ⟨⟨kd, rd, pl, cu, aw, fw, o_o⟩, ⟨nh, o_h⟩, hS, hR, hC, hT⟩ := id hW
  have o_n : h.2 (hd + 4) = some (.inr (7, sfs (hd + 4) c si sl)) := hS 0 (by omega)
  have r_heard : h.2 (hd + 4 + 1) = some (aI 48 (sa 1)) := hS 1 (by omega)
  have r_belief : h.2 (hd + 4 + 2) = some (aI 48 (sa 2)) := hS 2 (by omega)
  have r_turned : h.2 (hd + 4 + 3) = some (aI 48 (sa 3)) := hS 3 (by omega)
  have r_message : h.2 (hd + 4 + 4) = some (aI 192 (sa 4)) := hS 4 (by omega)
  have r_book : h.2 (hd + 4 + 5) = some (aI 48 (sa 5)) := hS 5 (by omega)
  have r_order : h.2 (hd + 4 + 6) = some (aI 4 (sa 6)) := hS 6 (by omega)
  obtain ⟨ad, f7, f8, f10, f9, f11, rk, cr, hV, h6, h7, o_c, r_c_shifts, r_c_edges, r_c_bitsOf, r_c_checksOf, r_c_sums, e7, e8, e9, e10, hRD⟩ := id hC
  obtain ⟨v1, v2, v3, v4, v5, v6, v7⟩ := id hV
  obtain ⟨hI, -, hSN, hA2⟩ := id hT
  obtain ⟨⟨s1, s2, s3, s4, s5, s6⟩, ⟨g8, g9⟩, ⟨nl, l7, lb, hBK⟩, b1, b2, b3, b4, b6⟩ := id hR
  have hLC := mulLe (a := L) (b := C) (x := 6) (y := 8) (by omega) (by omega)
  have hLR := mulLe (a := L) (b := R) (x := 6) (y := 4) (by omega) (by omega)
  have hLCi : (L : Int) * C = ((L * C : Nat) : Int) := by push_cast; rfl
  have hLRi : (L : Int) * R = ((L * R : Nat) : Int) := by push_cast; rfl
  have hok : ∀ b, b < L * C → ok32 (A (385 + b)) := fun b _ => hI.ok _
  refine sp_wp rfl (lv := [_, _, _, _]) rfl (Nat.le_of_ble_eq_true rfl) ?_
  refine w_iconst dX9_restless_0 ?_
  refine w_istore_n (lv' := [_, _, _, _]) dX9_restless_1 rfl (Nat.le_of_ble_eq_true rfl) rfl rfl ?_
  refine w_iconst dX9_restless_2 ?_
  refine w_istore_n (lv' := [_, _, _, _]) dX9_restless_3 rfl (Nat.le_of_ble_eq_true rfl) rfl rfl ?_
  refine w_iconst dX9_restless_4 ?_
  refine w_istore_n (lv' := [_, _, _, _]) dX9_restless_5 rfl (Nat.le_of_ble_eq_true rfl) rfl rfl ?_
  have key : ∀ b, b ≤ L * C → wp mX9_restless 6 [.ref o, .int (zI (if rlN (fun b => A (385 + b)) b = -1 then 0 else A (385 + (rlN (fun b => A (385 + b)) b).toNat))), .int (zI (rlN (fun b => A (385 + b)) b)), .int (zI (b : Int))] [] h 0 0 (pd (some (.int (zI (rlN (fun b => A (385 + b)) (L * C))))) h) := by
    refine up_ind (fun b hb ih => ?_)
    have hr := rlN_rng (f := fun b => A (385 + b)) (n := b)
    have hm : ok32 (if rlN (fun b => A (385 + b)) b = -1 then 0 else A (385 + (rlN (fun b => A (385 + b)) b).toNat)) := by
      split
      · unfold ok32; omega
      · exact hok _ (by omega)
    refine w_iload_n dX9_restless_6 rfl rfl ?_
    refine w_aload_n dX9_restless_7 rfl rfl ?_
    refine w_getf fX9_19 dX9_restless_8 o_o rfl ?_
    refine w_getf fX9_89 dX9_restless_11 o_h rfl ?_
    refine w_getf fX9_98 dX9_restless_14 o_n rfl ?_
    refine w_getf fX9_95 dX9_restless_17 o_c rfl ?_
    refine w_icmp_ge 60 dX9_restless_20 (by decide) (by first | assumption | (unfold ok32 at *; omega)) (by first | assumption | (unfold ok32 at *; omega)) (fun hc => ?_) (fun hc => ?_)
    · refine w_iload_n dX9_restless_60 rfl rfl ?_
      refine x_iret rfl rfl dX9_restless_61 ⟨?_, rfl⟩
      rw [show b = L * C by omega]
    · have hbl : b < L * C := by omega
      have hob := hok b hbl
      refine w_aload_n dX9_restless_23 rfl rfl ?_
      refine w_getf fX9_19 dX9_restless_24 o_o rfl ?_
      refine w_getf fX9_89 dX9_restless_27 o_h rfl ?_
      refine w_getf fX9_256 dX9_restless_30 o_n rfl ?_
      refine w_iload_n dX9_restless_33 rfl rfl ?_
      refine w_iald (b) r_turned (by first | rfl | omega | (push_cast; rfl) | (push_cast; omega)) (by omega) (by decide) dX9_restless_34 ?_
      rw [b3 b hbl]
      refine w_iload_n dX9_restless_35 rfl rfl ?_
      refine w_icmp_le 54 dX9_restless_36 (by decide) hob hm (fun h2 => ?_) (fun h2 => ?_)
      · refine w_iinc (lv' := [_, _, _, _]) dX9_restless_54 rfl rfl rfl ?_
        refine w_goto 6 dX9_restless_57 (by decide) ?_
        refine w_cast ?_ rfl rfl (ih hbl)
        rw [show rlN (fun b => A (385 + b)) (b + 1) = rlN (fun b => A (385 + b)) b from by
          show (if (if rlN (fun b => A (385 + b)) b = -1 then 0 else A (385 + (rlN (fun b => A (385 + b)) b).toNat)) < A (385 + b) then (b : Int) else rlN (fun b => A (385 + b)) b) = _
          rw [if_neg (by omega)]]
        rfl
      · refine w_aload_n dX9_restless_39 rfl rfl ?_
        refine w_getf fX9_19 dX9_restless_40 o_o rfl ?_
        refine w_getf fX9_89 dX9_restless_43 o_h rfl ?_
        refine w_getf fX9_256 dX9_restless_46 o_n rfl ?_
        refine w_iload_n dX9_restless_49 rfl rfl ?_
        refine w_iald (b) r_turned (by first | rfl | omega | (push_cast; rfl) | (push_cast; omega)) (by omega) (by decide) dX9_restless_50 ?_
        rw [b3 b hbl]
        refine w_istore_n (lv' := [_, _, _, _]) dX9_restless_51 rfl (Nat.le_of_ble_eq_true rfl) rfl rfl ?_
        refine w_iload_n dX9_restless_52 rfl rfl ?_
        refine w_istore_n (lv' := [_, _, _, _]) dX9_restless_53 rfl (Nat.le_of_ble_eq_true rfl) rfl rfl ?_
        refine w_iinc (lv' := [_, _, _, _]) dX9_restless_54 rfl rfl rfl ?_
        refine w_goto 6 dX9_restless_57 (by decide) ?_
        refine w_cast ?_ rfl rfl (ih hbl)
        rw [show rlN (fun b => A (385 + b)) (b + 1) = (b : Int) from by
          show (if (if rlN (fun b => A (385 + b)) b = -1 then 0 else A (385 + (rlN (fun b => A (385 + b)) b).toNat)) < A (385 + b) then (b : Int) else rlN (fun b => A (385 + b)) b) = _
          rw [if_pos (by omega)], if_neg (by omega), Int.toNat_natCast]
        rfl
  exact key 0 (Nat.zero_le _)
theorem x_knot {o hd c : Nat} {sa : Nat → Nat → Int} {si : Nat → Int} {sl : Nat → BitVec 64} {h : HP} {A : Nat → Int} {L R C : Nat} {x : BitVec 64} (hW : VW h o hd c sa si sl A L R C) : sp mX9_knot [.ref o, .long (lB x)] h 0 0 (pd (some (.int (zI (bI (x.sshiftRight (L * C) = 0#64 ∧ (1 ≤ pop x ∧ pop x ≤ 4) ∧ dP (kntP (fun b => hgB (cs A L C) b (L * R)) x) = true))))) h) := by
  obtain ⟨⟨kd, rd, pl, cu, aw, fw, o_o⟩, ⟨nh, o_h⟩, hS, hR, hC, hT⟩ := id hW
  have o_n : h.2 (hd + 4) = some (.inr (7, sfs (hd + 4) c si sl)) := hS 0 (by omega)
  have r_heard : h.2 (hd + 4 + 1) = some (aI 48 (sa 1)) := hS 1 (by omega)
  have r_belief : h.2 (hd + 4 + 2) = some (aI 48 (sa 2)) := hS 2 (by omega)
  have r_turned : h.2 (hd + 4 + 3) = some (aI 48 (sa 3)) := hS 3 (by omega)
  have r_message : h.2 (hd + 4 + 4) = some (aI 192 (sa 4)) := hS 4 (by omega)
  have r_book : h.2 (hd + 4 + 5) = some (aI 48 (sa 5)) := hS 5 (by omega)
  have r_order : h.2 (hd + 4 + 6) = some (aI 4 (sa 6)) := hS 6 (by omega)
  obtain ⟨ad, f7, f8, f10, f9, f11, rk, cr, hV, h6, h7, o_c, r_c_shifts, r_c_edges, r_c_bitsOf, r_c_checksOf, r_c_sums, e7, e8, e9, e10, hRD⟩ := id hC
  obtain ⟨v1, v2, v3, v4, v5, v6, v7⟩ := id hV
  obtain ⟨hI, -, hSN, hA2⟩ := id hT
  obtain ⟨⟨s1, s2, s3, s4, s5, s6⟩, ⟨g8, g9⟩, ⟨nl, l7, lb, hBK⟩, b1, b2, b3, b4, b6⟩ := id hR
  have hLC := mulLe (a := L) (b := C) (x := 6) (y := 8) (by omega) (by omega)
  have hLR := mulLe (a := L) (b := R) (x := 6) (y := 4) (by omega) (by omega)
  have hLCi : (L : Int) * C = ((L * C : Nat) : Int) := by push_cast; rfl
  have hLRi : (L : Int) * R = ((L * R : Nat) : Int) := by push_cast; rfl
  have hpl := pop_le x
  have hMS := msk_hgB (c := cs A L C) (m := L * R) (by omega)
  have no : ¬ (x.sshiftRight (L * C) = 0#64 ∧ (1 ≤ pop x ∧ pop x ≤ 4) ∧ dP (kntP (fun b => hgB (cs A L C) b (L * R)) x) = true) → ∀ x4 x5 x6 : Value, wp mX9_knot 23 [.ref o, .long (lB x), jk, .int (zI ((pop x : Nat) : Int)), x4, x5, x6] [] h 0 0 (pd (some (.int (zI (bI (x.sshiftRight (L * C) = 0#64 ∧ (1 ≤ pop x ∧ pop x ≤ 4) ∧ dP (kntP (fun b => hgB (cs A L C) b (L * R)) x) = true))))) h) := by
    intro hn x4 x5 x6
    rw [bI_f hn]
    refine w_iconst dX9_knot_23 ?_
    refine x_iret rfl (by first | rfl | exact bI_nar _) dX9_knot_24 ⟨?_, rfl⟩
    rfl
  refine sp_wp rfl (lv := [_, _, _, _, _, _, _]) rfl (Nat.le_of_ble_eq_true rfl) ?_
  refine w_lload_n dX9_knot_0 rfl rfl ?_
  refine wc_S (Z := mJ13_bitCount_95d88) (As := [_]) c_bitCount kJ13_bitCount_95d88 lX9_113 sJ13_bitCount_95d88 dX9_knot_1 rfl rfl rfl (Nat.le_of_ble_eq_true rfl) ⟨Nat.le_of_ble_eq_true rfl, Nat.le_of_ble_eq_true rfl⟩ ?_
  refine w_istore_n (lv' := [_, _, _, _, _, _, _]) dX9_knot_4 rfl (Nat.le_of_ble_eq_true rfl) rfl rfl ?_
  refine w_aload_n dX9_knot_5 rfl rfl ?_
  refine w_lload_n dX9_knot_6 rfl rfl ?_
  refine wc_V (Z := mX9_isSet) (As := [_]) (x_isSet hW) o_o rfl kX9_isSet lX9_278 iX9_isSet vX9_isSet dX9_knot_7 rfl rfl rfl (Nat.le_of_ble_eq_true rfl) ⟨Nat.le_of_ble_eq_true rfl, Nat.le_of_ble_eq_true rfl⟩ ?_
  refine w_ifb_eq 23 dX9_knot_10 (by decide) (fun h1 => ?_) (fun h1 => ?_)
  · exact no (fun q => h1 q.1) _ _ _
  · refine w_iload_n dX9_knot_13 rfl rfl ?_
    refine w_iconst dX9_knot_14 ?_
    refine w_icmp_lt 23 dX9_knot_15 (by decide) (by first | assumption | (unfold ok32 at *; omega)) (by first | assumption | (unfold ok32 at *; omega)) (fun h2 => ?_) (fun h2 => ?_)
    · exact no (by omega) _ _ _
    · refine w_iload_n dX9_knot_18 rfl rfl ?_
      refine w_iconst dX9_knot_19 ?_
      refine w_icmp_le 25 dX9_knot_20 (by decide) (by first | assumption | (unfold ok32 at *; omega)) (by first | assumption | (unfold ok32 at *; omega)) (fun h3 => ?_) (fun h3 => ?_)
      rotate_left
      · exact no (by omega) _ _ _
      · have hin := set_in (show L * C < 64 by omega) h1
        have hxo : xo (fun b => hgB (cs A L C) b (L * R)) x.getLsbD (L * C) = xoS (fun b => hgB (cs A L C) b (L * R)) x := by
          unfold xoS
          have : ∀ d, xo (fun b => hgB (cs A L C) b (L * R)) x.getLsbD (L * C + d) = xo (fun b => hgB (cs A L C) b (L * R)) x.getLsbD (L * C) := by
            intro d
            induction d with
            | zero => rfl
            | succ d ih =>
              show xo (fun b => hgB (cs A L C) b (L * R)) x.getLsbD (L * C + d + 1) = _
              rw [xo, if_neg (fun q => by have := hin _ q; omega)]
              exact ih
          have h64 := this (64 - L * C)
          rw [show L * C + (64 - L * C) = 64 by omega] at h64
          exact h64.symm
        refine w_aload_n dX9_knot_25 rfl rfl ?_
        refine w_getf fX9_19 dX9_knot_26 o_o rfl ?_
        refine w_getf fX9_89 dX9_knot_29 o_h rfl ?_
        refine w_getf fX9_98 dX9_knot_32 o_n rfl ?_
        refine w_astore (lv' := [_, _, _, _, _, _, _]) dX9_knot_35 (Nat.le_of_ble_eq_true rfl) rfl rfl ?_
        refine w_aload dX9_knot_37 rfl ?_
        refine w_lload_n dX9_knot_39 rfl rfl ?_
        refine wc_V (Z := mX2_oddMask) (As := [_]) (c2_oddMask hC) o_c rfl kX2_oddMask lX9_284 iX2_oddMask vX2_oddMask dX9_knot_40 rfl rfl rfl (Nat.le_of_ble_eq_true rfl) ⟨Nat.le_of_ble_eq_true rfl, Nat.le_of_ble_eq_true rfl⟩ ?_
        rw [hxo]
        refine w_istore (lv' := [_, _, _, _, _, _, _]) dX9_knot_43 (Nat.le_of_ble_eq_true rfl) rfl rfl ?_
        refine w_iconst dX9_knot_45 ?_
        refine w_istore (lv' := [_, _, _, _, _, _, _]) dX9_knot_46 (Nat.le_of_ble_eq_true rfl) rfl rfl ?_
        have key : ∀ b, b ≤ L * C → (∀ t, t < b → x.getLsbD t = true → hdB (fun b => hgB (cs A L C) b (L * R)) (xoS (fun b => hgB (cs A L C) b (L * R)) x) t) → wp mX9_knot 48 [.ref o, .long (lB x), jk, .int (zI ((pop x : Nat) : Int)), .ref c, .int (iB (xoS (fun b => hgB (cs A L C) b (L * R)) x)), .int (zI (b : Int))] [] h 0 0 (pd (some (.int (zI (bI (x.sshiftRight (L * C) = 0#64 ∧ (1 ≤ pop x ∧ pop x ≤ 4) ∧ dP (kntP (fun b => hgB (cs A L C) b (L * R)) x) = true))))) h) := by
          refine up_ind (fun b hb ih hall => ?_)
          refine w_iload dX9_knot_48 rfl ?_
          refine w_aload dX9_knot_50 rfl ?_
          refine w_getf fX9_95 dX9_knot_52 o_c rfl ?_
          refine w_icmp_ge 89 dX9_knot_55 (by decide) (by first | assumption | (unfold ok32 at *; omega)) (by first | assumption | (unfold ok32 at *; omega)) (fun hc => ?_) (fun hc => ?_)
          · rw [bI_t ⟨h1, by omega, dP_iff.mpr (fun t ht => hall t (by have := hin t ht; omega) ht)⟩]
            refine w_iconst dX9_knot_89 ?_
            refine x_iret rfl (by first | rfl | exact bI_nar _) dX9_knot_90 ⟨?_, rfl⟩
            rfl
          · have hbl : b < L * C := by omega
            have nxt : (x.getLsbD b = true → hdB (fun b => hgB (cs A L C) b (L * R)) (xoS (fun b => hgB (cs A L C) b (L * R)) x) b) → wp mX9_knot 83 [.ref o, .long (lB x), jk, .int (zI ((pop x : Nat) : Int)), .ref c, .int (iB (xoS (fun b => hgB (cs A L C) b (L * R)) x)), .int (zI (b : Int))] [] h 0 0 (pd (some (.int (zI (bI (x.sshiftRight (L * C) = 0#64 ∧ (1 ≤ pop x ∧ pop x ≤ 4) ∧ dP (kntP (fun b => hgB (cs A L C) b (L * R)) x) = true))))) h) := by
              intro hb2
              refine w_iinc (lv' := [_, _, _, _, _, _, _]) dX9_knot_83 rfl rfl rfl ?_
              refine w_goto 48 dX9_knot_86 (by decide) ?_
              have := ih hbl (fun t ht hx => by
                by_cases htb : t = b
                · rw [htb] at hx ⊢; exact hb2 hx
                · exact hall t (by omega) hx)
              push_cast at this
              exact this
            refine w_lload_n dX9_knot_58 rfl rfl ?_
            refine w_iload dX9_knot_59 rfl ?_
            refine w_lshr b rfl (by omega) dX9_knot_61 ?_
            refine w_lconst1 dX9_knot_62 ?_
            refine w_land dX9_knot_63 ?_
            rw [sshr_bit (show b < 64 by omega)]
            refine w_lconst0 dX9_knot_64 ?_
            refine w_lc_eq 83 dX9_knot_65 dX9_knot_66 (by decide) (fun hz => ?_) (fun hz => ?_)
            · exact nxt (fun q => by rw [if_pos q] at hz; exact absurd hz (by decide))
            · have hxb : x.getLsbD b = true := Classical.byContradiction fun q => by rw [if_neg q] at hz; exact hz rfl
              refine w_aload dX9_knot_69 rfl ?_
              refine w_iload dX9_knot_71 rfl ?_
              refine w_iload dX9_knot_73 rfl ?_
              refine wc_V (Z := mX2_isHeldBy) (As := [_, _]) (c2_isHeldBy hC hbl) o_c rfl kX2_isHeldBy lX9_287 iX2_isHeldBy vX2_isHeldBy dX9_knot_75 rfl rfl rfl (Nat.le_of_ble_eq_true rfl) ⟨Nat.le_of_ble_eq_true rfl, Nat.le_of_ble_eq_true rfl⟩ ?_
              refine w_ifb_ne 83 dX9_knot_78 (by decide) (fun hh => ?_) (fun hh => ?_)
              · exact nxt (fun _ => (hdB_32 hMS).mpr hh)
              · rw [bI_f (fun (q : x.sshiftRight (L * C) = 0#64 ∧ (1 ≤ pop x ∧ pop x ≤ 4) ∧ dP (kntP (fun b => hgB (cs A L C) b (L * R)) x) = true) => hh ((hdB_32 hMS).mp ((dP_iff.mp q.2.2 : kntP (fun b => hgB (cs A L C) b (L * R)) x) b hxb)))]
                refine w_iconst dX9_knot_81 ?_
                refine x_iret rfl (by first | rfl | exact bI_nar _) dX9_knot_82 ⟨?_, rfl⟩
                rfl
        exact key 0 (Nat.zero_le _) (fun t ht => absurd ht (Nat.not_lt_zero _))
theorem x_peeled {o hd c : Nat} {sa : Nat → Nat → Int} {si : Nat → Int} {sl : Nat → BitVec 64} {h : HP} {A : Nat → Int} {L R C : Nat} {x : BitVec 64} (hW : VW h o hd c sa si sl A L R C) : sp mX9_peeled [.ref o, .long (lB x)] h 0 0 (pd (some (.long (lB (if x.sshiftRight (L * C) = 0#64 then plF (cs A L C) (L * R) 65 x else -1#64)))) h) := by
  obtain ⟨⟨kd, rd, pl, cu, aw, fw, o_o⟩, ⟨nh, o_h⟩, hS, hR, hC, hT⟩ := id hW
  have o_n : h.2 (hd + 4) = some (.inr (7, sfs (hd + 4) c si sl)) := hS 0 (by omega)
  have r_heard : h.2 (hd + 4 + 1) = some (aI 48 (sa 1)) := hS 1 (by omega)
  have r_belief : h.2 (hd + 4 + 2) = some (aI 48 (sa 2)) := hS 2 (by omega)
  have r_turned : h.2 (hd + 4 + 3) = some (aI 48 (sa 3)) := hS 3 (by omega)
  have r_message : h.2 (hd + 4 + 4) = some (aI 192 (sa 4)) := hS 4 (by omega)
  have r_book : h.2 (hd + 4 + 5) = some (aI 48 (sa 5)) := hS 5 (by omega)
  have r_order : h.2 (hd + 4 + 6) = some (aI 4 (sa 6)) := hS 6 (by omega)
  obtain ⟨ad, f7, f8, f10, f9, f11, rk, cr, hV, h6, h7, o_c, r_c_shifts, r_c_edges, r_c_bitsOf, r_c_checksOf, r_c_sums, e7, e8, e9, e10, hRD⟩ := id hC
  obtain ⟨v1, v2, v3, v4, v5, v6, v7⟩ := id hV
  obtain ⟨hI, -, hSN, hA2⟩ := id hT
  obtain ⟨⟨s1, s2, s3, s4, s5, s6⟩, ⟨g8, g9⟩, ⟨nl, l7, lb, hBK⟩, b1, b2, b3, b4, b6⟩ := id hR
  have hLC := mulLe (a := L) (b := C) (x := 6) (y := 8) (by omega) (by omega)
  have hLR := mulLe (a := L) (b := R) (x := 6) (y := 4) (by omega) (by omega)
  have hLCi : (L : Int) * C = ((L * C : Nat) : Int) := by push_cast; rfl
  have hLRi : (L : Int) * R = ((L * R : Nat) : Int) := by push_cast; rfl
  refine sp_wp rfl (lv := [_, _, _]) rfl (Nat.le_of_ble_eq_true rfl) ?_
  refine w_aload_n dX9_peeled_0 rfl rfl ?_
  refine w_lload_n dX9_peeled_1 rfl rfl ?_
  refine wc_V (Z := mX9_isSet) (As := [_]) (x_isSet hW) o_o rfl kX9_isSet lX9_278 iX9_isSet vX9_isSet dX9_peeled_2 rfl rfl rfl (Nat.le_of_ble_eq_true rfl) ⟨Nat.le_of_ble_eq_true rfl, Nat.le_of_ble_eq_true rfl⟩ ?_
  refine w_ifb_eq 25 dX9_peeled_5 (by decide) (fun hc => ?_) (fun hc => ?_)
  · rw [if_neg hc]
    refine w_ldc2B (-1#64) qX9_309 (by decide) dX9_peeled_25 ?_
    refine x_lret rfl dX9_peeled_28 ⟨rfl, rfl⟩
  · rw [if_pos hc]
    refine w_aload_n dX9_peeled_8 rfl rfl ?_
    refine w_getf fX9_19 dX9_peeled_9 o_o rfl ?_
    refine w_getf fX9_89 dX9_peeled_12 o_h rfl ?_
    refine w_getf fX9_98 dX9_peeled_15 o_n rfl ?_
    refine w_lload_n dX9_peeled_18 rfl rfl ?_
    refine wc_S (Z := mX4_peel) (As := [_, _]) (c4_peel hC (set_pop (by omega) hc)) kX4_peel lX9_305 sX4_peel dX9_peeled_19 rfl rfl rfl (Nat.le_of_ble_eq_true rfl) ⟨Nat.le_of_ble_eq_true rfl, Nat.le_of_ble_eq_true rfl⟩ ?_
    refine w_goto 28 dX9_peeled_22 (by decide) ?_
    refine x_lret rfl dX9_peeled_28 ⟨rfl, rfl⟩
theorem x_known {o hd c : Nat} {sa : Nat → Nat → Int} {si : Nat → Int} {sl : Nat → BitVec 64} {h : HP} {A : Nat → Int} {L R C : Nat} {x : BitVec 64} (hW : VW h o hd c sa si sl A L R C) : sp mX9_known [.ref o, .long (lB x)] h 0 0 (pd (some (.int (zI (if x.sshiftRight (L * C) = 0#64 then ((pop x : Nat) : Int) - ((pop (plF (cs A L C) (L * R) 65 x) : Nat) : Int) else -1)))) h) := by
  obtain ⟨⟨kd, rd, pl, cu, aw, fw, o_o⟩, ⟨nh, o_h⟩, hS, hR, hC, hT⟩ := id hW
  have o_n : h.2 (hd + 4) = some (.inr (7, sfs (hd + 4) c si sl)) := hS 0 (by omega)
  have r_heard : h.2 (hd + 4 + 1) = some (aI 48 (sa 1)) := hS 1 (by omega)
  have r_belief : h.2 (hd + 4 + 2) = some (aI 48 (sa 2)) := hS 2 (by omega)
  have r_turned : h.2 (hd + 4 + 3) = some (aI 48 (sa 3)) := hS 3 (by omega)
  have r_message : h.2 (hd + 4 + 4) = some (aI 192 (sa 4)) := hS 4 (by omega)
  have r_book : h.2 (hd + 4 + 5) = some (aI 48 (sa 5)) := hS 5 (by omega)
  have r_order : h.2 (hd + 4 + 6) = some (aI 4 (sa 6)) := hS 6 (by omega)
  obtain ⟨ad, f7, f8, f10, f9, f11, rk, cr, hV, h6, h7, o_c, r_c_shifts, r_c_edges, r_c_bitsOf, r_c_checksOf, r_c_sums, e7, e8, e9, e10, hRD⟩ := id hC
  obtain ⟨v1, v2, v3, v4, v5, v6, v7⟩ := id hV
  obtain ⟨hI, -, hSN, hA2⟩ := id hT
  obtain ⟨⟨s1, s2, s3, s4, s5, s6⟩, ⟨g8, g9⟩, ⟨nl, l7, lb, hBK⟩, b1, b2, b3, b4, b6⟩ := id hR
  have hLC := mulLe (a := L) (b := C) (x := 6) (y := 8) (by omega) (by omega)
  have hLR := mulLe (a := L) (b := R) (x := 6) (y := 4) (by omega) (by omega)
  have hLCi : (L : Int) * C = ((L * C : Nat) : Int) := by push_cast; rfl
  have hLRi : (L : Int) * R = ((L * R : Nat) : Int) := by push_cast; rfl
  refine sp_wp rfl (lv := [_, _, _]) rfl (Nat.le_of_ble_eq_true rfl) ?_
  refine w_aload_n dX9_known_0 rfl rfl ?_
  refine w_lload_n dX9_known_1 rfl rfl ?_
  refine wc_V (Z := mX9_isSet) (As := [_]) (x_isSet hW) o_o rfl kX9_isSet lX9_278 iX9_isSet vX9_isSet dX9_known_2 rfl rfl rfl (Nat.le_of_ble_eq_true rfl) ⟨Nat.le_of_ble_eq_true rfl, Nat.le_of_ble_eq_true rfl⟩ ?_
  refine w_ifb_ne 10 dX9_known_5 (by decide) (fun hc => ?_) (fun hc => ?_)
  · rw [if_pos hc]
    refine w_lload_n dX9_known_10 rfl rfl ?_
    refine wc_S (Z := mJ13_bitCount_95d88) (As := [_]) c_bitCount kJ13_bitCount_95d88 lX9_113 sJ13_bitCount_95d88 dX9_known_11 rfl rfl rfl (Nat.le_of_ble_eq_true rfl) ⟨Nat.le_of_ble_eq_true rfl, Nat.le_of_ble_eq_true rfl⟩ ?_
    refine w_aload_n dX9_known_14 rfl rfl ?_
    refine w_getf fX9_19 dX9_known_15 o_o rfl ?_
    refine w_getf fX9_89 dX9_known_18 o_h rfl ?_
    refine w_getf fX9_98 dX9_known_21 o_n rfl ?_
    refine w_lload_n dX9_known_24 rfl rfl ?_
    refine wc_S (Z := mX4_peel) (As := [_, _]) (c4_peel hC (set_pop (by omega) hc)) kX4_peel lX9_305 sX4_peel dX9_known_25 rfl rfl rfl (Nat.le_of_ble_eq_true rfl) ⟨Nat.le_of_ble_eq_true rfl, Nat.le_of_ble_eq_true rfl⟩ ?_
    refine wc_S (Z := mJ13_bitCount_95d88) (As := [_]) c_bitCount kJ13_bitCount_95d88 lX9_113 sJ13_bitCount_95d88 dX9_known_28 rfl rfl rfl (Nat.le_of_ble_eq_true rfl) ⟨Nat.le_of_ble_eq_true rfl, Nat.le_of_ble_eq_true rfl⟩ ?_
    refine w_isub dX9_known_31 ?_
    refine x_iret rfl rfl dX9_known_32 ⟨?_, rfl⟩
    rfl
  · rw [if_neg hc]
    refine w_iconst dX9_known_8 ?_
    refine x_iret rfl rfl dX9_known_9 ⟨?_, rfl⟩
    rfl

