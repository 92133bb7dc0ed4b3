/-- what a check has of a column's belief but its own message -/
def rho (A : Nat → Int) (L c j : Nat) : Int := A (96 + (bitN (shA A) L c j).toNat) - A (144 + 8 * c + j)
def okc (sh : Nat → Int) (L c k : Nat) : Bool := !decide (bitN sh L c k = -1)
def BEL (A : Nat → Int) : Prop := (∀ b, b < 48 → -99 ≤ A (96 + b) ∧ A (96 + b) ≤ 99) ∧ ∀ k, k < 192 → -31 ≤ A (144 + k) ∧ A (144 + k) ≤ 31
theorem rho_rng {A : Nat → Int} {L R C c j : Nat} (hV : VC A L R C) (hB : BEL A) (hc : c < L * R) (hj : j < C) (hn : ¬ bitN (shA A) L c j = -1) : -130 ≤ rho A L c j ∧ rho A L c j ≤ 130 := by
  obtain ⟨v1, v2, v3, v4, v5, v6, v7⟩ := hV
  have hr := rowLt hc v4.1
  have hLR := mulLe (a := L) (b := R) (x := 6) (y := 4) (by omega) (by omega)
  have hb := bitN_le (sh := shA A) (L := L) (C := C) (c := c) (j := j) v4 hj v6.2 (v7 _ (by omega)).1
  have h1 := hB.1 (bitN (shA A) L c j).toNat (by omega)
  have h2 := hB.2 (8 * c + j) (by omega)
  rw [← Nat.add_assoc] at h2
  unfold rho
  omega
set_option maxRecDepth 4000 in
theorem c_layRests {r : Nat} {A : Nat → Int} {ia : Nat → Nat → Int} {la : Nat → Nat → BitVec 64} {fi : Nat → Int} {fl : Nat → BitVec 64} {h0 : HP} {L R C c : Nat} (hV : VC A L R C) (hc : c < L * R) : sp mX10_layRests [.ref r, .int (zI (c : Int))] (RH r A ia la fi fl h0) 0 0 (px none (fun q : Nat → Int => ∀ j, j < C → ¬ bitN (shA A) L c j = -1 → q j = rho A L c j) (fun q => (RH r A (u1 ia 5 q) la fi fl h0))) := by
  obtain ⟨v1, v2, v3, v4, v5, v6, v7⟩ := id hV
  have hr := rowLt hc v4.1
  have hLR := mulLe (a := L) (b := R) (x := 6) (y := 4) (by omega) (by omega)
  refine sp_wp rfl (lv := [_, _, _]) rfl (Nat.le_of_ble_eq_true rfl) ?_
  refine w_iconst dX10_layRests_0 ?_
  refine w_istore_n (lv' := [_, _, _]) dX10_layRests_1 rfl (Nat.le_of_ble_eq_true rfl) rfl rfl ?_
  have key : ∀ j, j ≤ C → ∀ q : Nat → Int, (∀ i, i < j → ¬ bitN (shA A) L c i = -1 → q i = rho A L c i) → wp mX10_layRests 2 [.ref r, .int (zI (c : Int)), .int (zI (j : Int))] [] (RH r A (u1 ia 5 q) la fi fl h0) 0 0 (px none (fun q : Nat → Int => ∀ j, j < C → ¬ bitN (shA A) L c j = -1 → q j = rho A L c j) (fun q => (RH r A (u1 ia 5 q) la fi fl h0))) := by
    refine up_ind (N := C) (fun j hj ih => ?_)
    intro q hq
    refine w_iload_n dX10_layRests_2 rfl rfl ?_
    refine w_aload_n dX10_layRests_3 rfl rfl ?_
    refine w_getf fX10_7 dX10_layRests_4 RH0 rfl ?_
    refine w_iconst dX10_layRests_7 ?_
    refine w_iald 5 RH1 rfl (by decide) (by decide) dX10_layRests_8 ?_
    rw [v3]
    refine w_icmp_ge 59 dX10_layRests_9 (by decide) (by unfold ok32; omega) (by unfold ok32; omega) (fun hn => ?_) (fun hn => ?_)
    · refine x_vret rfl dX10_layRests_59 ⟨rfl, q, ?_, rfl⟩
      intro i hi
      exact hq i (by omega)
    · have hb := bitN_le (sh := shA A) (L := L) (C := C) (c := c) (j := j) v4 (by omega) v6.2 (v7 _ (by omega)).1
      refine w_aload_n dX10_layRests_12 rfl rfl ?_
      refine w_iload_n dX10_layRests_13 rfl rfl ?_
      refine w_iload_n dX10_layRests_14 rfl rfl ?_
      refine wc_V (Z := mX10_bitOf) (As := [_, _]) (c_bitOf hV hc (by omega)) RH0 rfl kX10_bitOf lX10_77 iX10_bitOf vX10_bitOf dX10_layRests_15 rfl rfl rfl (Nat.le_of_ble_eq_true rfl) ⟨Nat.le_of_ble_eq_true rfl, Nat.le_of_ble_eq_true rfl⟩ ?_
      refine w_iconst dX10_layRests_18 ?_
      refine w_icmp_eq 53 dX10_layRests_19 (by decide) (by unfold ok32; omega) (by unfold ok32; omega) (fun hm => ?_) (fun hm => ?_)
      · refine w_iinc (lv' := [_, _, _]) dX10_layRests_53 rfl rfl rfl ?_
        refine w_goto 2 dX10_layRests_56 (by decide) ?_
        refine ih (by omega) q (fun i hi hi2 => ?_)
        by_cases hij : i = j
        · subst hij; exact absurd hm hi2
        · exact hq i (by omega) hi2
      · refine w_aload_n dX10_layRests_22 rfl rfl ?_
        refine w_getf fX10_29 dX10_layRests_23 RH0 rfl ?_
        refine w_iload_n dX10_layRests_26 rfl rfl ?_
        refine w_aload_n dX10_layRests_27 rfl rfl ?_
        refine w_getf fX10_7 dX10_layRests_28 RH0 rfl ?_
        refine w_bipush dX10_layRests_31 (by decide) ?_
        refine w_aload_n dX10_layRests_33 rfl rfl ?_
        refine w_iload_n dX10_layRests_34 rfl rfl ?_
        refine w_iload_n dX10_layRests_35 rfl rfl ?_
        refine wc_V (Z := mX10_bitOf) (As := [_, _]) (c_bitOf hV hc (by omega)) RH0 rfl kX10_bitOf lX10_77 iX10_bitOf vX10_bitOf dX10_layRests_36 rfl rfl rfl (Nat.le_of_ble_eq_true rfl) ⟨Nat.le_of_ble_eq_true rfl, Nat.le_of_ble_eq_true rfl⟩ ?_
        refine w_iadd dX10_layRests_39 ?_
        refine w_iald (96 + (bitN (shA A) L c j).toNat) RH1 (by omega) (by omega) (by decide) dX10_layRests_40 ?_
        refine w_aload_n dX10_layRests_41 rfl rfl ?_
        refine w_getf fX10_7 dX10_layRests_42 RH0 rfl ?_
        refine w_iload_n dX10_layRests_45 rfl rfl ?_
        refine w_iload_n dX10_layRests_46 rfl rfl ?_
        refine wc_S (Z := mX10_messageAt) (As := [_, _]) c_messageAt kX10_messageAt lX10_163 sX10_messageAt dX10_layRests_47 rfl rfl rfl (Nat.le_of_ble_eq_true rfl) ⟨Nat.le_of_ble_eq_true rfl, Nat.le_of_ble_eq_true rfl⟩ ?_
        refine w_iald (144 + 8 * c + j) RH1 (by omega) (by omega) (by decide) dX10_layRests_50 ?_
        refine w_isub dX10_layRests_51 ?_
        refine r_ist5K j rfl (by omega) dX10_layRests_52 ?_
        rw [u1_u1, u1_s]
        refine w_iinc (lv' := [_, _, _]) dX10_layRests_53 rfl rfl rfl ?_
        refine w_goto 2 dX10_layRests_56 (by decide) ?_
        refine ih (by omega) _ (fun i hi hi2 => ?_)
        by_cases hij : i = j
        · subst hij; rw [u1_s]; rfl
        · rw [u1_n hij]; exact hq i (by omega) hi2
  have h2 := key 0 (Nat.zero_le _) (ia 5) (fun i hi => absurd hi (by omega))
  rw [u1_id] at h2
  exact h2
/-- the least of the others' sizes, and whether an odd number of them is below 0 -/
def nmS (ok : Nat → Bool) (q : Nat → Int) (j : Nat) : Nat → Int × Bool
  | 0 => (-1, false)
  | k + 1 => if k = j ∨ ok k = false then nmS ok q j k else (if (nmS ok q j k).1 = -1 ∨ szd (q k) < (nmS ok q j k).1 then szd (q k) else (nmS ok q j k).1, if q k < 0 then !(nmS ok q j k).2 else (nmS ok q j k).2)
def nmV (ok : Nat → Bool) (q : Nat → Int) (j C : Nat) (off mo : Int) : Int := if (nmS ok q j C).2 = true then -(hld ((nmS ok q j C).1 - off) 0 mo) else hld ((nmS ok q j C).1 - off) 0 mo
theorem szd_rng {x : Int} (h : -130 ≤ x ∧ x ≤ 130) : 0 ≤ szd x ∧ szd x ≤ 130 := by unfold szd; split <;> omega
theorem nmS_rng {ok : Nat → Bool} {q : Nat → Int} {j : Nat} : ∀ {k : Nat}, (∀ i, i < k → ok i = true → -130 ≤ q i ∧ q i ≤ 130) → -1 ≤ (nmS ok q j k).1 ∧ (nmS ok q j k).1 ≤ 130
  | 0, _ => ⟨by show (-1 : Int) ≤ -1; decide, by show (-1 : Int) ≤ 130; decide⟩
  | k + 1, h => by
    have ih := nmS_rng (ok := ok) (q := q) (j := j) (k := k) (fun i hi => h i (by omega))
    unfold nmS
    by_cases h1 : k = j ∨ ok k = false
    · rw [if_pos h1]; exact ih
    · rw [if_neg h1]
      have h2 : ok k = true := by cases hk : ok k with
        | true => rfl
        | false => exact absurd (Or.inr hk) h1
      have := szd_rng (h k (by omega) h2)
      show -1 ≤ (if _ then _ else _) ∧ (if _ then _ else _) ≤ (130 : Int)
      split <;> omega
theorem hld_rng {v a b : Int} (h : a ≤ b) : a ≤ hld v a b ∧ hld v a b ≤ b := by unfold hld; split <;> (try split) <;> omega
theorem nmV_rng {ok : Nat → Bool} {q : Nat → Int} {j C : Nat} {off mo : Int} (hm : 1 ≤ mo ∧ mo ≤ 31) : -31 ≤ nmV ok q j C off mo ∧ nmV ok q j C off mo ≤ 31 := by
  have := hld_rng (v := (nmS ok q j C).1 - off) (a := 0) (b := mo) (by omega)
  unfold nmV; split <;> omega
set_option maxRecDepth 4000 in
theorem c_newMessage {r : Nat} {A : Nat → Int} {ia : Nat → Nat → Int} {la : Nat → Nat → BitVec 64} {fi : Nat → Int} {fl : Nat → BitVec 64} {h0 : HP} {L R C c j : Nat} {q : Nat → Int} (hV : VC A L R C) (hc : c < L * R) (hj : j < C) (h6 : 0 ≤ A 6 ∧ A 6 ≤ 9) (h7 : 1 ≤ A 7 ∧ A 7 ≤ 31) (hq : ∀ k, k < C → okc (shA A) L c k = true → ia 5 k = q k) (hr0 : ∀ k, k < C → okc (shA A) L c k = true → -130 ≤ q k ∧ q k ≤ 130) : sp mX10_newMessage [.ref r, .int (zI (c : Int)), .int (zI (j : Int))] (RH r A ia la fi fl h0) 0 0 (pd (some (.int (zI (nmV (okc (shA A) L c) q j C (A 6) (A 7))))) (RH r A ia la fi fl h0)) := by
  obtain ⟨v1, v2, v3, v4, v5, v6, v7⟩ := id hV
  have hr := rowLt hc v4.1
  refine sp_wp rfl (lv := [_, _, _, _, _, _]) rfl (Nat.le_of_ble_eq_true rfl) ?_
  refine w_iconst dX10_newMessage_0 ?_
  refine w_istore_n (lv' := [_, _, _, _, _, _]) dX10_newMessage_1 rfl (Nat.le_of_ble_eq_true rfl) rfl rfl ?_
  refine w_iconst dX10_newMessage_2 ?_
  refine w_istore (lv' := [_, _, _, _, _, _]) dX10_newMessage_3 (Nat.le_of_ble_eq_true rfl) rfl rfl ?_
  refine w_iconst dX10_newMessage_5 ?_
  refine w_istore (lv' := [_, _, _, _, _, _]) dX10_newMessage_6 (Nat.le_of_ble_eq_true rfl) rfl rfl ?_
  refine up_ind (N := C) (P := fun k => wp mX10_newMessage 8 [.ref r, .int (zI (c : Int)), .int (zI (j : Int)), .int (zI (nmS (okc (shA A) L c) q j k).1), .int (zI (bI ((nmS (okc (shA A) L c) q j k).2 = true))), .int (zI (k : Int))] [] (RH r A ia la fi fl h0) 0 0 (pd (some (.int (zI (nmV (okc (shA A) L c) q j C (A 6) (A 7))))) (RH r A ia la fi fl h0))) (fun k hk ih => ?_) 0 (Nat.zero_le _)
  have hg := nmS_rng (ok := okc (shA A) L c) (q := q) (j := j) (k := k) (fun i hi => hr0 i (by omega))
  refine w_iload dX10_newMessage_8 rfl ?_
  refine w_aload_n dX10_newMessage_10 rfl rfl ?_
  refine w_getf fX10_7 dX10_newMessage_11 RH0 rfl ?_
  refine w_iconst dX10_newMessage_14 ?_
  refine w_iald 5 RH1 rfl (by decide) (by decide) dX10_newMessage_15 ?_
  rw [v3]
  refine w_icmp_ge 97 dX10_newMessage_16 (by decide) (by unfold ok32; omega) (by unfold ok32; omega) (fun hn => ?_) (fun hn => ?_)
  · have ek : k = C := by omega
    subst ek
    refine w_iload_n dX10_newMessage_97 rfl rfl ?_
    refine w_aload_n dX10_newMessage_98 rfl rfl ?_
    refine w_getf fX10_7 dX10_newMessage_99 RH0 rfl ?_
    refine w_bipush dX10_newMessage_102 (by decide) ?_
    refine w_iald 6 RH1 rfl (by decide) (by decide) dX10_newMessage_104 ?_
    refine w_isub dX10_newMessage_105 ?_
    refine w_iconst dX10_newMessage_106 ?_
    refine w_aload_n dX10_newMessage_107 rfl rfl ?_
    refine w_getf fX10_7 dX10_newMessage_108 RH0 rfl ?_
    refine w_bipush dX10_newMessage_111 (by decide) ?_
    refine w_iald 7 RH1 rfl (by decide) (by decide) dX10_newMessage_113 ?_
    refine wc_S (Z := mX10_held) (As := [_, _, _]) (c_held (by unfold ok32; omega) (by unfold ok32; omega) (by unfold ok32; omega)) kX10_held lX10_169 sX10_held dX10_newMessage_114 rfl rfl rfl (Nat.le_of_ble_eq_true rfl) ⟨Nat.le_of_ble_eq_true rfl, Nat.le_of_ble_eq_true rfl⟩ ?_
    refine w_istore (lv' := [_, _, _, _, _, _]) dX10_newMessage_117 (Nat.le_of_ble_eq_true rfl) rfl rfl ?_
    refine w_iload dX10_newMessage_119 rfl ?_
    refine w_ifb_eq 130 dX10_newMessage_121 (by decide) (fun hb => ?_) (fun hb => ?_)
    · refine w_iload dX10_newMessage_130 rfl ?_
      refine x_iret rfl rfl dX10_newMessage_132 ⟨?_, rfl⟩
      rw [nmV, if_neg hb]
    · refine w_iload dX10_newMessage_124 rfl ?_
      refine w_ineg dX10_newMessage_126 ?_
      refine w_goto 132 dX10_newMessage_127 (by decide) ?_
      refine x_iret rfl rfl dX10_newMessage_132 ⟨?_, rfl⟩
      rw [nmV, if_pos hb]
  · have hbn := bitN_le (sh := shA A) (L := L) (C := C) (c := c) (j := k) v4 (by omega) v6.2 (v7 _ (by omega)).1
    have skip : k = j ∨ okc (shA A) L c k = false → wp mX10_newMessage 91 [.ref r, .int (zI (c : Int)), .int (zI (j : Int)), .int (zI (nmS (okc (shA A) L c) q j k).1), .int (zI (bI ((nmS (okc (shA A) L c) q j k).2 = true))), .int (zI (k : Int))] [] (RH r A ia la fi fl h0) 0 0 (pd (some (.int (zI (nmV (okc (shA A) L c) q j C (A 6) (A 7))))) (RH r A ia la fi fl h0)) := by
      intro hs
      refine w_iinc (lv' := [_, _, _, _, _, _]) dX10_newMessage_91 rfl rfl rfl ?_
      refine w_goto 8 dX10_newMessage_94 (by decide) ?_
      refine w_cast ?_ rfl rfl (ih (by omega))
      rw [nmS, if_pos hs]
      rfl
    refine w_iload dX10_newMessage_19 rfl ?_
    refine w_iload_n dX10_newMessage_21 rfl rfl ?_
    refine w_icmp_eq 91 dX10_newMessage_22 (by decide) (by unfold ok32; omega) (by unfold ok32; omega) (fun hkj => ?_) (fun hkj => ?_)
    · exact skip (Or.inl (by omega))
    · refine w_aload_n dX10_newMessage_25 rfl rfl ?_
      refine w_iload_n dX10_newMessage_26 rfl rfl ?_
      refine w_iload dX10_newMessage_27 rfl ?_
      refine wc_V (Z := mX10_bitOf) (As := [_, _]) (c_bitOf hV hc (by omega)) RH0 rfl kX10_bitOf lX10_77 iX10_bitOf vX10_bitOf dX10_newMessage_29 rfl rfl rfl (Nat.le_of_ble_eq_true rfl) ⟨Nat.le_of_ble_eq_true rfl, Nat.le_of_ble_eq_true rfl⟩ ?_
      refine w_iconst dX10_newMessage_32 ?_
      refine w_icmp_ne 39 dX10_newMessage_33 (by decide) (by unfold ok32; omega) (by unfold ok32; omega) (fun hbt => ?_) (fun hbt => ?_)
      rotate_left
      · refine w_goto 91 dX10_newMessage_36 (by decide) ?_
        exact skip (Or.inr (by simp [okc, hbt]))
      · have hok : okc (shA A) L c k = true := by simp [okc, hbt]
        have hqk := hq k (by omega) hok
        have hqr := hr0 k (by omega) hok
        have hsz := szd_rng hqr
        have hno : ¬ (k = j ∨ okc (shA A) L c k = false) := by rw [hok]; simp; omega
        have tail : wp mX10_newMessage 69 [.ref r, .int (zI (c : Int)), .int (zI (j : Int)), .int (zI (nmS (okc (shA A) L c) q j (k + 1)).1), .int (zI (bI ((nmS (okc (shA A) L c) q j k).2 = true))), .int (zI (k : Int))] [] (RH r A ia la fi fl h0) 0 0 (pd (some (.int (zI (nmV (okc (shA A) L c) q j C (A 6) (A 7))))) (RH r A ia la fi fl h0)) := by
          refine w_aload_n dX10_newMessage_69 rfl rfl ?_
          refine w_getf fX10_29 dX10_newMessage_70 RH0 rfl ?_
          refine w_iload dX10_newMessage_73 rfl ?_
          refine w_iald k RH5 rfl (by omega) (by decide) dX10_newMessage_75 ?_
          rw [hqk]
          refine w_if_ge 91 dX10_newMessage_76 (by decide) (by unfold ok32; omega) (fun hlt => ?_) (fun hlt => ?_)
          · refine w_iinc (lv' := [_, _, _, _, _, _]) dX10_newMessage_91 rfl rfl rfl ?_
            refine w_goto 8 dX10_newMessage_94 (by decide) ?_
            refine w_cast ?_ rfl rfl (ih (by omega))
            rw [show (nmS (okc (shA A) L c) q j (k + 1)).2 = (nmS (okc (shA A) L c) q j k).2 by rw [nmS, if_neg hno]; exact if_neg (by omega)]
            rfl
          · refine w_iload dX10_newMessage_79 rfl ?_
            refine w_ifb_ne 88 dX10_newMessage_81 (by decide) (fun hbb => ?_) (fun hbb => ?_)
            · refine w_iconst dX10_newMessage_88 ?_
              refine w_istore (lv' := [_, _, _, _, _, _]) dX10_newMessage_89 (Nat.le_of_ble_eq_true rfl) rfl rfl ?_
              refine w_iinc (lv' := [_, _, _, _, _, _]) dX10_newMessage_91 rfl rfl rfl ?_
              refine w_goto 8 dX10_newMessage_94 (by decide) ?_
              refine w_cast ?_ rfl rfl (ih (by omega))
              rw [show (nmS (okc (shA A) L c) q j (k + 1)).2 = !(nmS (okc (shA A) L c) q j k).2 by rw [nmS, if_neg hno]; exact if_pos (by omega), hbb, bI_f (by decide)]
              rfl
            · refine w_iconst dX10_newMessage_84 ?_
              refine w_goto 89 dX10_newMessage_85 (by decide) ?_
              refine w_istore (lv' := [_, _, _, _, _, _]) dX10_newMessage_89 (Nat.le_of_ble_eq_true rfl) rfl rfl ?_
              refine w_iinc (lv' := [_, _, _, _, _, _]) dX10_newMessage_91 rfl rfl rfl ?_
              refine w_goto 8 dX10_newMessage_94 (by decide) ?_
              refine w_cast ?_ rfl rfl (ih (by omega))
              rw [show (nmS (okc (shA A) L c) q j (k + 1)).2 = !(nmS (okc (shA A) L c) q j k).2 by rw [nmS, if_neg hno]; exact if_pos (by omega), bI_t (show (!(nmS (okc (shA A) L c) q j k).2) = true by simpa using hbb)]
              rfl
        have take : (nmS (okc (shA A) L c) q j k).1 = -1 ∨ szd (q k) < (nmS (okc (shA A) L c) q j k).1 → wp mX10_newMessage 58 [.ref r, .int (zI (c : Int)), .int (zI (j : Int)), .int (zI (nmS (okc (shA A) L c) q j k).1), .int (zI (bI ((nmS (okc (shA A) L c) q j k).2 = true))), .int (zI (k : Int))] [] (RH r A ia la fi fl h0) 0 0 (pd (some (.int (zI (nmV (okc (shA A) L c) q j C (A 6) (A 7))))) (RH r A ia la fi fl h0)) := by
          intro ht
          refine w_aload_n dX10_newMessage_58 rfl rfl ?_
          refine w_getf fX10_29 dX10_newMessage_59 RH0 rfl ?_
          refine w_iload dX10_newMessage_62 rfl ?_
          refine w_iald k RH5 rfl (by omega) (by decide) dX10_newMessage_64 ?_
          rw [hqk]
          refine wc_S (Z := mX10_sized) (As := [_]) (c_sized (by unfold ok32; omega)) kX10_sized lX10_166 sX10_sized dX10_newMessage_65 rfl rfl rfl (Nat.le_of_ble_eq_true rfl) ⟨Nat.le_of_ble_eq_true rfl, Nat.le_of_ble_eq_true rfl⟩ ?_
          refine w_istore_n (lv' := [_, _, _, _, _, _]) dX10_newMessage_68 rfl (Nat.le_of_ble_eq_true rfl) rfl rfl ?_
          refine w_cast ?_ rfl rfl tail
          rw [show (nmS (okc (shA A) L c) q j (k + 1)).1 = szd (q k) by rw [nmS, if_neg hno]; exact if_pos ht]
        refine w_iload_n dX10_newMessage_39 rfl rfl ?_
        refine w_iconst dX10_newMessage_40 ?_
        refine w_icmp_eq 58 dX10_newMessage_41 (by decide) (by unfold ok32; omega) (by unfold ok32; omega) (fun hl1 => ?_) (fun hl1 => ?_)
        · exact take (Or.inl hl1)
        · refine w_aload_n dX10_newMessage_44 rfl rfl ?_
          refine w_getf fX10_29 dX10_newMessage_45 RH0 rfl ?_
          refine w_iload dX10_newMessage_48 rfl ?_
          refine w_iald k RH5 rfl (by omega) (by decide) dX10_newMessage_50 ?_
          rw [hqk]
          refine wc_S (Z := mX10_sized) (As := [_]) (c_sized (by unfold ok32; omega)) kX10_sized lX10_166 sX10_sized dX10_newMessage_51 rfl rfl rfl (Nat.le_of_ble_eq_true rfl) ⟨Nat.le_of_ble_eq_true rfl, Nat.le_of_ble_eq_true rfl⟩ ?_
          refine w_iload_n dX10_newMessage_54 rfl rfl ?_
          refine w_icmp_ge 69 dX10_newMessage_55 (by decide) (by unfold ok32; omega) (by unfold ok32; omega) (fun hl2 => ?_) (fun hl2 => ?_)
          · refine w_cast ?_ rfl rfl tail
            rw [show (nmS (okc (shA A) L c) q j (k + 1)).1 = (nmS (okc (shA A) L c) q j k).1 by rw [nmS, if_neg hno]; exact if_neg (by omega)]
          · exact take (Or.inr (by omega))

