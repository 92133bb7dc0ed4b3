/-- the i-th bit of a check from column C - d on, or how many there are -/
def hasG (sh : Nat → Int) (L c C : Nat) (i : Int) : Nat → Int
  | 0 => if i = -1 then ((pn (okc sh L c) C : Nat) : Int) else -1
  | d + 1 => if okc sh L c (C - (d + 1)) = true ∧ ((pn (okc sh L c) (C - (d + 1)) : Nat) : Int) = i then bitN sh L c (C - (d + 1)) else hasG sh L c C i d

set_option maxRecDepth 4000 in
theorem c_has {r : Nat} {A : Nat → Int} {ia : Nat → Nat → Int} {la : Nat → Nat → BitVec 64} {fi : Nat → Int} {fl : Nat → BitVec 64} {h0 : HP} {L R C : Nat} {z x : Int} (hT : TOP A L R C) (hz : ok32 z) (hx : ok32 x) : sp mX10_has [.ref r, .int (zI z), .int (zI x)] (RH r A ia la fi fl h0) 0 0 (pr (some (.int (zI (if (0 ≤ z ∧ z ≤ (L : Int) * R - 1) ∧ -1 ≤ x then hasG (shA A) L z.toNat C x C else -1)))) r A ia fi h0) := by
  obtain ⟨hI, hV, hS, h2⟩ := id hT
  obtain ⟨v1, v2, v3, v4, v5, v6, v7⟩ := id hV
  have h1 : 0 ≤ A 1 ∧ A 1 ≤ 20 := hI 1
  have h20 : 0 ≤ A 2 ∧ A 2 ≤ 20 := hI 2
  have hLC : (L : Int) * C ≤ 48 := by exact_mod_cast mulLe (a := L) (b := C) (x := 6) (y := 8) (by omega) (by omega)
  have hLC0 : (0 : Int) ≤ (L : Int) * C := by exact_mod_cast Nat.zero_le (L * C)
  have hLR : (L : Int) * R ≤ 24 := by exact_mod_cast mulLe (a := L) (b := R) (x := 6) (y := 4) (by omega) (by omega)
  have hLR0 : (0 : Int) ≤ (L : Int) * R := by exact_mod_cast Nat.zero_le (L * R)
  refine sp_wp rfl (lv := [_, _, _, _, _, _]) rfl (Nat.le_of_ble_eq_true rfl) ?_
  refine w_aload_n dX10_has_0 rfl rfl ?_
  refine w_iload_n dX10_has_1 rfl rfl ?_
  refine wc_V (Z := mX10_isCheck) (As := [_]) (c_isCheck hV hz) RH0 rfl kX10_isCheck lX10_249 iX10_isCheck vX10_isCheck dX10_has_2 rfl rfl rfl (Nat.le_of_ble_eq_true rfl) ⟨Nat.le_of_ble_eq_true rfl, Nat.le_of_ble_eq_true rfl⟩ ?_
  refine w_ifb_eq 13 dX10_has_5 (by decide) (fun hc1 => ?_) (fun hc1 => ?_)
  · refine w_iconst dX10_has_13 ?_
    refine x_iret rfl rfl dX10_has_14 (pr_end ?_ rfl rfl rfl rfl rfl rfl rfl)
    rw [if_neg (by omega)]
  · refine w_iload_n dX10_has_8 rfl rfl ?_
    refine w_iconst dX10_has_9 ?_
    refine w_icmp_ge 15 dX10_has_10 (by decide) hx (by unfold ok32; omega) (fun hc2 => ?_) (fun hc2 => ?_)
    rotate_left
    · refine w_iconst dX10_has_13 ?_
      refine x_iret rfl rfl dX10_has_14 (pr_end ?_ rfl rfl rfl rfl rfl rfl rfl)
      rw [if_neg (by omega)]
    · rw [if_pos ⟨hc1, hc2⟩]
      obtain ⟨c, hc⟩ : ∃ c : Nat, z = (c : Int) := ⟨z.toNat, by omega⟩
      subst hc
      rw [Int.toNat_natCast]
      have hcl : c < L * R := by have h5 := hc1.2; have h6 : ((L * R : Nat) : Int) = (L : Int) * R := by push_cast; rfl
                                 omega
      have hrow := rowLt hcl v4.1
      refine w_iconst dX10_has_15 ?_
      refine w_istore_n (lv' := [_, _, _, _, _, _]) dX10_has_16 rfl (Nat.le_of_ble_eq_true rfl) rfl rfl ?_
      refine w_iconst dX10_has_17 ?_
      refine w_istore (lv' := [_, _, _, _, _, _]) dX10_has_18 (Nat.le_of_ble_eq_true rfl) rfl rfl ?_
      have key : ∀ k : Nat, k ≤ C → ∀ x5 : Value, hasG (shA A) L c C x (C - k) = hasG (shA A) L c C x C → wp mX10_has 20 [.ref r, .int (zI (c : Int)), .int (zI x), .int (zI ((pn (okc (shA A) L c) k : Nat) : Int)), .int (zI (k : Int)), x5] [] (RH r A ia la fi fl h0) 0 0 (pr (some (.int (zI (hasG (shA A) L c C x C)))) r A ia fi h0) := by
        refine up_ind (N := C) (fun k hk ih => ?_)
        intro x5 hg
        have hpl := pn_le (okc (shA A) L c) k
        refine w_iload dX10_has_20 rfl ?_
        refine w_aload_n dX10_has_22 rfl rfl ?_
        refine w_getf fX10_7 dX10_has_23 RH0 rfl ?_
        refine w_iconst dX10_has_26 ?_
        refine w_iald 5 RH1 rfl (by decide) (by decide) dX10_has_27 ?_
        rw [v3]
        refine w_icmp_ge 66 dX10_has_28 (by decide) (by unfold ok32; omega) (by unfold ok32; omega) (fun hn => ?_) (fun hn => ?_)
        · have ek : k = C := by omega
          subst ek
          rw [Nat.sub_self] at hg
          refine w_iload_n dX10_has_66 rfl rfl ?_
          refine w_iconst dX10_has_67 ?_
          refine w_icmp_ne 75 dX10_has_68 (by decide) hx (by unfold ok32; omega) (fun hx1 => ?_) (fun hx1 => ?_)
          · refine w_iconst dX10_has_75 ?_
            refine x_iret rfl rfl dX10_has_76 (pr_end ?_ rfl rfl rfl rfl rfl rfl rfl)
            rw [← hg, hasG, if_neg hx1]
          · refine w_iload_n dX10_has_71 rfl rfl ?_
            refine w_goto 76 dX10_has_72 (by decide) ?_
            refine x_iret rfl rfl dX10_has_76 (pr_end ?_ rfl rfl rfl rfl rfl rfl rfl)
            rw [← hg, hasG, if_pos hx1]
        · have hb := bitN_le (sh := shA A) (L := L) (C := C) (c := c) (j := k) v4 (by omega) v6.2 (v7 _ (by omega)).1
          rw [show C - k = (C - (k + 1)) + 1 by omega, hasG, show C - (C - (k + 1) + 1) = k by omega] at hg
          refine w_aload_n dX10_has_31 rfl rfl ?_
          refine w_iload_n dX10_has_32 rfl rfl ?_
          refine w_iload dX10_has_33 rfl ?_
          refine wc_V (Z := mX10_bitOf) (As := [_, _]) (c_bitOf hV hcl (by omega)) RH0 rfl kX10_bitOf lX10_77 iX10_bitOf vX10_bitOf dX10_has_35 rfl rfl rfl (Nat.le_of_ble_eq_true rfl) ⟨Nat.le_of_ble_eq_true rfl, Nat.le_of_ble_eq_true rfl⟩ ?_
          refine w_istore (lv' := [_, _, _, _, _, _]) dX10_has_38 (Nat.le_of_ble_eq_true rfl) rfl rfl ?_
          refine w_iload dX10_has_40 rfl ?_
          refine w_iconst dX10_has_42 ?_
          refine w_icmp_ne 49 dX10_has_43 (by decide) (by unfold ok32; omega) (by unfold ok32; omega) (fun hbt => ?_) (fun hbt => ?_)
          · have hok : okc (shA A) L c k = true := by simp [okc, hbt]
            refine w_iload_n dX10_has_49 rfl rfl ?_
            refine w_iload_n dX10_has_50 rfl rfl ?_
            refine w_icmp_ne 57 dX10_has_51 (by decide) (by unfold ok32; omega) hx (fun hi => ?_) (fun hi => ?_)
            · refine w_iinc (lv' := [_, _, _, _, _, _]) dX10_has_57 rfl rfl rfl ?_
              refine w_iinc (lv' := [_, _, _, _, _, _]) dX10_has_60 rfl rfl rfl ?_
              refine w_goto 20 dX10_has_63 (by decide) ?_
              refine w_cast ?_ rfl rfl (ih (by omega) (.int (zI (bitN (shA A) L c k))) (by rw [if_neg (fun q => hi q.2)] at hg; exact hg))
              rw [show pn (okc (shA A) L c) (k + 1) = pn (okc (shA A) L c) k + 1 by show _ + (if _ then _ else _) = _; rw [if_pos hok]]
              rfl
            · refine w_iload dX10_has_54 rfl ?_
              refine x_iret rfl rfl dX10_has_56 (pr_end ?_ rfl rfl rfl rfl rfl rfl rfl)
              rw [← hg, if_pos ⟨hok, hi⟩]
          · have hok : okc (shA A) L c k = false := by simp [okc, hbt]
            refine w_goto 60 dX10_has_46 (by decide) ?_
            refine w_iinc (lv' := [_, _, _, _, _, _]) dX10_has_60 rfl rfl rfl ?_
            refine w_goto 20 dX10_has_63 (by decide) ?_
            refine w_cast ?_ rfl rfl (ih (by omega) (.int (zI (bitN (shA A) L c k))) (by rw [if_neg (fun q => by rw [hok] at q; cases q.1)] at hg; exact hg))
            rw [show pn (okc (shA A) L c) (k + 1) = pn (okc (shA A) L c) k by show _ + (if _ then _ else _) = _; rw [hok]; rfl]
            rfl
      exact key 0 (Nat.zero_le _) jk (by rw [Nat.sub_zero])
def dgN (sh : Nat → Int) (L b n : Nat) : Nat := pn (fun c => decide (bitN sh L c (b / L) = (b : Int))) n

set_option maxRecDepth 4000 in
theorem c_degree {r : Nat} {A : Nat → Int} {ia : Nat → Nat → Int} {la : Nat → Nat → BitVec 64} {fi : Nat → Int} {fl : Nat → BitVec 64} {h0 : HP} {L R C : Nat} {z : Int} (hT : TOP A L R C) (hz : ok32 z) : sp mX10_degree [.ref r, .int (zI z)] (RH r A ia la fi fl h0) 0 0 (pd (some (.int (zI (if 0 ≤ z ∧ z ≤ (L : Int) * C - 1 then ((dgN (shA A) L z.toNat (L * R) : Nat) : Int) else -1)))) (RH r A ia la fi fl h0)) := by
  obtain ⟨hI, hV, hS, h2⟩ := id hT
  obtain ⟨v1, v2, v3, v4, v5, v6, v7⟩ := id hV
  have h1 : 0 ≤ A 1 ∧ A 1 ≤ 20 := hI 1
  have h20 : 0 ≤ A 2 ∧ A 2 ≤ 20 := hI 2
  have hLC : (L : Int) * C ≤ 48 := by exact_mod_cast mulLe (a := L) (b := C) (x := 6) (y := 8) (by omega) (by omega)
  have hLC0 : (0 : Int) ≤ (L : Int) * C := by exact_mod_cast Nat.zero_le (L * C)
  have hLR : (L : Int) * R ≤ 24 := by exact_mod_cast mulLe (a := L) (b := R) (x := 6) (y := 4) (by omega) (by omega)
  have hLR0 : (0 : Int) ≤ (L : Int) * R := by exact_mod_cast Nat.zero_le (L * R)
  refine sp_wp rfl (lv := [_, _, _, _]) rfl (Nat.le_of_ble_eq_true rfl) ?_
  refine w_aload_n dX10_degree_0 rfl rfl ?_
  refine w_iload_n dX10_degree_1 rfl rfl ?_
  refine wc_V (Z := mX10_isBit) (As := [_]) (c_isBit hV hz) RH0 rfl kX10_isBit lX10_237 iX10_isBit vX10_isBit dX10_degree_2 rfl rfl rfl (Nat.le_of_ble_eq_true rfl) ⟨Nat.le_of_ble_eq_true rfl, Nat.le_of_ble_eq_true rfl⟩ ?_
  refine w_ifb_ne 10 dX10_degree_5 (by decide) (fun hc1 => ?_) (fun hc1 => ?_)
  rotate_left
  · refine w_iconst dX10_degree_8 ?_
    refine x_iret rfl rfl dX10_degree_9 ⟨?_, rfl⟩
    rw [if_neg hc1]
  · rw [if_pos hc1]
    obtain ⟨b, hb⟩ : ∃ b : Nat, z = (b : Int) := ⟨z.toNat, by omega⟩
    subst hb
    rw [Int.toNat_natCast]
    have hbl : b < L * C := by have h5 := hc1.2; have h6 : ((L * C : Nat) : Int) = (L : Int) * C := by push_cast; rfl
                               omega
    have hLRn := mulLe (a := L) (b := R) (x := 6) (y := 4) (by omega) (by omega)
    refine w_iconst dX10_degree_10 ?_
    refine w_istore_n (lv' := [_, _, _, _]) dX10_degree_11 rfl (Nat.le_of_ble_eq_true rfl) rfl rfl ?_
    refine w_iconst dX10_degree_12 ?_
    refine w_istore_n (lv' := [_, _, _, _]) dX10_degree_13 rfl (Nat.le_of_ble_eq_true rfl) rfl rfl ?_
    refine up_ind (N := L * R) (P := fun c => wp mX10_degree 14 [.ref r, .int (zI (b : Int)), .int (zI ((dgN (shA A) L b c : Nat) : Int)), .int (zI (c : Int))] [] (RH r A ia la fi fl h0) 0 0 (pd (some (.int (zI ((dgN (shA A) L b (L * R) : Nat) : Int)))) (RH r A ia la fi fl h0))) (fun c hc ih => ?_) 0 (Nat.zero_le _)
    refine w_iload_n dX10_degree_14 rfl rfl ?_
    refine w_aload_n dX10_degree_15 rfl rfl ?_
    refine wc_V (Z := mX10_checks) (As := []) c_checks RH0 rfl kX10_checks lX10_74 iX10_checks vX10_checks dX10_degree_16 rfl rfl rfl (Nat.le_of_ble_eq_true rfl) ⟨Nat.le_of_ble_eq_true rfl, Nat.le_of_ble_eq_true rfl⟩ ?_
    rw [v1, v2]
    refine w_icmp_ge 45 dX10_degree_19 (by decide) (by unfold ok32; omega) (by unfold ok32; omega) (fun hn => ?_) (fun hn => ?_)
    · refine w_iload_n dX10_degree_45 rfl rfl ?_
      refine x_iret rfl rfl dX10_degree_46 ⟨?_, rfl⟩
      rw [show c = L * R by omega]
    · refine w_iload_n dX10_degree_22 rfl rfl ?_
      refine w_aload_n dX10_degree_23 rfl rfl ?_
      refine w_iload_n dX10_degree_24 rfl rfl ?_
      refine w_iload_n dX10_degree_25 rfl rfl ?_
      refine wc_V (Z := mX10_hasBit) (As := [_, _]) (c_hasBit hV (by omega) hbl) RH0 rfl kX10_hasBit lX10_184 iX10_hasBit vX10_hasBit dX10_degree_26 rfl rfl rfl (Nat.le_of_ble_eq_true rfl) ⟨Nat.le_of_ble_eq_true rfl, Nat.le_of_ble_eq_true rfl⟩ ?_
      refine w_ifb_eq 36 dX10_degree_29 (by decide) (fun hh => ?_) (fun hh => ?_)
      · refine w_iconst dX10_degree_36 ?_
        refine w_iadd dX10_degree_37 ?_
        refine w_istore_n (lv' := [_, _, _, _]) dX10_degree_38 rfl (Nat.le_of_ble_eq_true rfl) rfl rfl ?_
        refine w_iinc (lv' := [_, _, _, _]) dX10_degree_39 rfl rfl rfl ?_
        refine w_goto 14 dX10_degree_42 (by decide) ?_
        refine w_cast ?_ rfl rfl (ih (by omega))
        rw [show dgN (shA A) L b (c + 1) = dgN (shA A) L b c by show _ + (if _ then _ else _) = _; rw [if_neg (by simpa using hh)]; rfl, show ((dgN (shA A) L b c : Nat) : Int) + 0 = ((dgN (shA A) L b c : Nat) : Int) by omega]
        rfl
      · refine w_iconst dX10_degree_32 ?_
        refine w_goto 37 dX10_degree_33 (by decide) ?_
        refine w_iadd dX10_degree_37 ?_
        refine w_istore_n (lv' := [_, _, _, _]) dX10_degree_38 rfl (Nat.le_of_ble_eq_true rfl) rfl rfl ?_
        refine w_iinc (lv' := [_, _, _, _]) dX10_degree_39 rfl rfl rfl ?_
        refine w_goto 14 dX10_degree_42 (by decide) ?_
        refine w_cast ?_ rfl rfl (ih (by omega))
        rw [show dgN (shA A) L b (c + 1) = dgN (shA A) L b c + 1 by show _ + (if _ then _ else _) = _; rw [if_pos (by simpa using hh)]; rfl]
        rfl

set_option maxRecDepth 4000 in
theorem c_message {r : Nat} {A : Nat → Int} {ia : Nat → Nat → Int} {la : Nat → Nat → BitVec 64} {fi : Nat → Int} {fl : Nat → BitVec 64} {h0 : HP} {L R C : Nat} {z x : Int} (hT : TOP A L R C) (hz : ok32 z) (hx : ok32 x) : sp mX10_message [.ref r, .int (zI z), .int (zI x)] (RH r A ia la fi fl h0) 0 0 (pr (some (.int (zI (if (0 ≤ z ∧ z ≤ (L : Int) * R - 1) ∧ (0 ≤ x ∧ x ≤ (L : Int) * C - 1) ∧ bitN (shA A) L z.toNat (x.toNat / L) = x then A (144 + 8 * z.toNat + x.toNat / L) else -100)))) r A ia fi h0) := by
  obtain ⟨hI, hV, hS, h2⟩ := id hT
  obtain ⟨v1, v2, v3, v4, v5, v6, v7⟩ := id hV
  have h1 : 0 ≤ A 1 ∧ A 1 ≤ 20 := hI 1
  have h20 : 0 ≤ A 2 ∧ A 2 ≤ 20 := hI 2
  have hLC : (L : Int) * C ≤ 48 := by exact_mod_cast mulLe (a := L) (b := C) (x := 6) (y := 8) (by omega) (by omega)
  have hLC0 : (0 : Int) ≤ (L : Int) * C := by exact_mod_cast Nat.zero_le (L * C)
  have hLR : (L : Int) * R ≤ 24 := by exact_mod_cast mulLe (a := L) (b := R) (x := 6) (y := 4) (by omega) (by omega)
  have hLR0 : (0 : Int) ≤ (L : Int) * R := by exact_mod_cast Nat.zero_le (L * R)
  refine sp_wp rfl (lv := [_, _, _]) rfl (Nat.le_of_ble_eq_true rfl) ?_
  refine w_aload_n dX10_message_0 rfl rfl ?_
  refine w_iload_n dX10_message_1 rfl rfl ?_
  refine wc_V (Z := mX10_isCheck) (As := [_]) (c_isCheck hV hz) RH0 rfl kX10_isCheck lX10_249 iX10_isCheck vX10_isCheck dX10_message_2 rfl rfl rfl (Nat.le_of_ble_eq_true rfl) ⟨Nat.le_of_ble_eq_true rfl, Nat.le_of_ble_eq_true rfl⟩ ?_
  refine w_ifb_eq 45 dX10_message_5 (by decide) (fun hc1 => ?_) (fun hc1 => ?_)
  · refine w_bipush dX10_message_45 (by decide) ?_
    refine x_iret rfl rfl dX10_message_47 (pr_end ?_ rfl rfl rfl rfl rfl rfl rfl)
    rw [if_neg (by omega)]
  · refine w_aload_n dX10_message_8 rfl rfl ?_
    refine w_iload_n dX10_message_9 rfl rfl ?_
    refine wc_V (Z := mX10_isBit) (As := [_]) (c_isBit hV hx) RH0 rfl kX10_isBit lX10_237 iX10_isBit vX10_isBit dX10_message_10 rfl rfl rfl (Nat.le_of_ble_eq_true rfl) ⟨Nat.le_of_ble_eq_true rfl, Nat.le_of_ble_eq_true rfl⟩ ?_
    refine w_ifb_eq 45 dX10_message_13 (by decide) (fun hc2 => ?_) (fun hc2 => ?_)
    · refine w_bipush dX10_message_45 (by decide) ?_
      refine x_iret rfl rfl dX10_message_47 (pr_end ?_ rfl rfl rfl rfl rfl rfl rfl)
      rw [if_neg (by omega)]
    · obtain ⟨c, hc⟩ : ∃ c : Nat, z = (c : Int) := ⟨z.toNat, by omega⟩
      subst hc
      obtain ⟨b, hb⟩ : ∃ b : Nat, x = (b : Int) := ⟨x.toNat, by omega⟩
      subst hb
      have hcl : c < L * R := by have h5 := hc1.2; have h6 : ((L * R : Nat) : Int) = (L : Int) * R := by push_cast; rfl
                                 omega
      have hbl : b < L * C := by have h5 := hc2.2; have h6 : ((L * C : Nat) : Int) = (L : Int) * C := by push_cast; rfl
                                 omega
      have hj := rowLt hbl v4.1
      rw [Int.toNat_natCast, Int.toNat_natCast]
      refine w_aload_n dX10_message_16 rfl rfl ?_
      refine w_iload_n dX10_message_17 rfl rfl ?_
      refine w_iload_n dX10_message_18 rfl rfl ?_
      refine wc_V (Z := mX10_hasBit) (As := [_, _]) (c_hasBit hV hcl hbl) RH0 rfl kX10_hasBit lX10_184 iX10_hasBit vX10_hasBit dX10_message_19 rfl rfl rfl (Nat.le_of_ble_eq_true rfl) ⟨Nat.le_of_ble_eq_true rfl, Nat.le_of_ble_eq_true rfl⟩ ?_
      refine w_ifb_eq 45 dX10_message_22 (by decide) (fun hh => ?_) (fun hh => ?_)
      · refine w_bipush dX10_message_45 (by decide) ?_
        refine x_iret rfl rfl dX10_message_47 (pr_end ?_ rfl rfl rfl rfl rfl rfl rfl)
        rw [if_neg (fun q => hh q.2.2)]
      · refine w_aload_n dX10_message_25 rfl rfl ?_
        refine w_getf fX10_7 dX10_message_26 RH0 rfl ?_
        refine w_iload_n dX10_message_29 rfl rfl ?_
        refine w_iload_n dX10_message_30 rfl rfl ?_
        refine w_aload_n dX10_message_31 rfl rfl ?_
        refine w_getf fX10_7 dX10_message_32 RH0 rfl ?_
        refine w_iconst dX10_message_35 ?_
        refine w_iald 3 RH1 rfl (by decide) (by decide) dX10_message_36 ?_
        rw [v1]
        refine w_idiv dX10_message_37 (by unfold ok32; omega) (by omega) (by omega) (by unfold ok32; omega) ?_
        refine wc_S (Z := mX10_messageAt) (As := [_, _]) (c_messageAt (b := ((b / L : Nat) : Int))) kX10_messageAt lX10_163 sX10_messageAt dX10_message_38 rfl rfl rfl (Nat.le_of_ble_eq_true rfl) ⟨Nat.le_of_ble_eq_true rfl, Nat.le_of_ble_eq_true rfl⟩ ?_
        refine w_iald (144 + 8 * c + b / L) RH1 (by push_cast; omega) (by omega) (by decide) dX10_message_41 ?_
        refine w_goto 47 dX10_message_42 (by decide) ?_
        refine x_iret rfl rfl dX10_message_47 (pr_end ?_ rfl rfl rfl rfl rfl rfl rfl)
        rw [if_pos ⟨hc1, hc2, hh⟩]

set_option maxRecDepth 4000 in
theorem c_odd {r : Nat} {A : Nat → Int} {ia : Nat → Nat → Int} {la : Nat → Nat → BitVec 64} {fi : Nat → Int} {fl : Nat → BitVec 64} {h0 : HP} {L R C : Nat} {z : Int} (hT : TOP A L R C) (hz : ok32 z) : sp mX10_odd [.ref r, .int (zI z)] (RH r A ia la fi fl h0) 0 0 (pr (some (.int (zI (bI ((0 ≤ z ∧ z ≤ (L : Int) * R - 1) ∧ pop (cs A L C z.toNat &&& gA A (L * C)) % 2 = 1))))) r A ia fi h0) := by
  obtain ⟨hI, hV, hS, h2⟩ := id hT
  obtain ⟨v1, v2, v3, v4, v5, v6, v7⟩ := id hV
  have h1 : 0 ≤ A 1 ∧ A 1 ≤ 20 := hI 1
  have h20 : 0 ≤ A 2 ∧ A 2 ≤ 20 := hI 2
  have hLC : (L : Int) * C ≤ 48 := by exact_mod_cast mulLe (a := L) (b := C) (x := 6) (y := 8) (by omega) (by omega)
  have hLC0 : (0 : Int) ≤ (L : Int) * C := by exact_mod_cast Nat.zero_le (L * C)
  have hLR : (L : Int) * R ≤ 24 := by exact_mod_cast mulLe (a := L) (b := R) (x := 6) (y := 4) (by omega) (by omega)
  have hLR0 : (0 : Int) ≤ (L : Int) * R := by exact_mod_cast Nat.zero_le (L * R)
  refine sp_wp rfl (lv := [_, _]) rfl (Nat.le_of_ble_eq_true rfl) ?_
  refine w_aload_n dX10_odd_0 rfl rfl ?_
  refine w_iload_n dX10_odd_1 rfl rfl ?_
  refine wc_V (Z := mX10_isCheck) (As := [_]) (c_isCheck hV hz) RH0 rfl kX10_isCheck lX10_249 iX10_isCheck vX10_isCheck dX10_odd_2 rfl rfl rfl (Nat.le_of_ble_eq_true rfl) ⟨Nat.le_of_ble_eq_true rfl, Nat.le_of_ble_eq_true rfl⟩ ?_
  refine w_ifb_eq 31 dX10_odd_5 (by decide) (fun hc1 => ?_) (fun hc1 => ?_)
  · refine w_iconst dX10_odd_31 ?_
    refine x_iret rfl (by rfl) dX10_odd_32 (pr_end ?_ rfl rfl rfl rfl rfl rfl rfl)
    rw [bI_f (fun q => hc1 q.1)]
  · obtain ⟨c, hc⟩ : ∃ c : Nat, z = (c : Int) := ⟨z.toNat, by omega⟩
    subst hc
    have hcl : c < L * R := by have h5 := hc1.2; have h6 : ((L * R : Nat) : Int) = (L : Int) * R := by push_cast; rfl
                               omega
    rw [Int.toNat_natCast]
    refine w_aload_n dX10_odd_8 rfl rfl ?_
    refine w_iload_n dX10_odd_9 rfl rfl ?_
    refine wc_V (Z := mX10_checkSet) (As := [_]) (c_checkSet hV hcl) RH0 rfl kX10_checkSet lX10_83 iX10_checkSet vX10_checkSet dX10_odd_10 rfl rfl rfl (Nat.le_of_ble_eq_true rfl) ⟨Nat.le_of_ble_eq_true rfl, Nat.le_of_ble_eq_true rfl⟩ ?_
    refine w_aload_n dX10_odd_13 rfl rfl ?_
    refine wc_V (Z := mX10_guessed) (As := []) (c_guessed hV hI.ok) RH0 rfl kX10_guessed lX10_156 iX10_guessed vX10_guessed dX10_odd_14 rfl rfl rfl (Nat.le_of_ble_eq_true rfl) ⟨Nat.le_of_ble_eq_true rfl, Nat.le_of_ble_eq_true rfl⟩ ?_
    refine w_land dX10_odd_17 ?_
    refine wc_S (Z := mX10_many) (As := [_]) c_many kX10_many lX10_87 sX10_many dX10_odd_18 rfl rfl rfl (Nat.le_of_ble_eq_true rfl) ⟨Nat.le_of_ble_eq_true rfl, Nat.le_of_ble_eq_true rfl⟩ ?_
    have hp := pop_le (csetN (shA A) L c C &&& gset (fun b => A (96 + b)) (L * C))
    refine w_iconst dX10_odd_21 ?_
    refine w_irem dX10_odd_22 (by unfold ok32; omega) (by omega) (by omega) (by unfold ok32; omega) ?_
    refine w_iconst dX10_odd_23 ?_
    refine w_icmp_ne 31 dX10_odd_24 (by decide) (by unfold ok32; omega) (by unfold ok32; omega) (fun hh => ?_) (fun hh => ?_)
    · refine w_iconst dX10_odd_31 ?_
      refine x_iret rfl (by rfl) dX10_odd_32 (pr_end ?_ rfl rfl rfl rfl rfl rfl rfl)
      rw [bI_f (fun q => hh (by have := q.2; unfold cs gA at this; omega))]
    · refine w_iconst dX10_odd_27 ?_
      refine w_goto 32 dX10_odd_28 (by decide) ?_
      refine x_iret rfl (by rfl) dX10_odd_32 (pr_end ?_ rfl rfl rfl rfl rfl rfl rfl)
      rw [bI_t ⟨hc1, by unfold cs gA; omega⟩]

set_option maxRecDepth 4000 in
theorem c_book {r : Nat} {A : Nat → Int} {ia : Nat → Nat → Int} {la : Nat → Nat → BitVec 64} {fi : Nat → Int} {fl : Nat → BitVec 64} {h0 : HP} {L R C : Nat} {z x : Int} (hT : TOP A L R C) (hz : ok32 z) (hx : ok32 x) : sp mX10_book [.ref r, .int (zI z), .int (zI x)] (RH r A ia la fi fl h0) 0 0 (pr (some (.int (zI (if z = -1 then A 384 else if (0 ≤ z ∧ z ≤ A 384 - 1) ∧ 0 ≤ x ∧ x ≤ 2 then A (336 + 3 * z.toNat + x.toNat) else -2)))) r A ia fi h0) := by
  obtain ⟨hI, hV, hS, h2⟩ := id hT
  obtain ⟨v1, v2, v3, v4, v5, v6, v7⟩ := id hV
  have h1 : 0 ≤ A 1 ∧ A 1 ≤ 20 := hI 1
  have h20 : 0 ≤ A 2 ∧ A 2 ≤ 20 := hI 2
  have hLC : (L : Int) * C ≤ 48 := by exact_mod_cast mulLe (a := L) (b := C) (x := 6) (y := 8) (by omega) (by omega)
  have hLC0 : (0 : Int) ≤ (L : Int) * C := by exact_mod_cast Nat.zero_le (L * C)
  have hLR : (L : Int) * R ≤ 24 := by exact_mod_cast mulLe (a := L) (b := R) (x := 6) (y := 4) (by omega) (by omega)
  have hLR0 : (0 : Int) ≤ (L : Int) * R := by exact_mod_cast Nat.zero_le (L * R)
  have h384 : 0 ≤ A 384 ∧ A 384 ≤ 16 := hI 384
  refine sp_wp rfl (lv := [_, _, _]) rfl (Nat.le_of_ble_eq_true rfl) ?_
  refine w_iload_n dX10_book_0 rfl rfl ?_
  refine w_iconst dX10_book_1 ?_
  refine w_icmp_ne 14 dX10_book_2 (by decide) hz (by unfold ok32; omega) (fun hz1 => ?_) (fun hz1 => ?_)
  · rw [if_neg hz1]
    refine w_iload_n dX10_book_14 rfl rfl ?_
    refine w_iconst dX10_book_15 ?_
    refine w_aload_n dX10_book_16 rfl rfl ?_
    refine w_getf fX10_7 dX10_book_17 RH0 rfl ?_
    refine w_sipush dX10_book_20 (by decide) ?_
    refine w_iald 384 RH1 rfl (by decide) (by decide) dX10_book_23 ?_
    refine w_iconst dX10_book_24 ?_
    refine w_isub dX10_book_25 ?_
    refine wc_S (Z := mX10_isIn) (As := [_, _, _]) (c_isIn hz (by unfold ok32; omega) (by unfold ok32; omega)) kX10_isIn lX10_70 sX10_isIn dX10_book_26 rfl rfl rfl (Nat.le_of_ble_eq_true rfl) ⟨Nat.le_of_ble_eq_true rfl, Nat.le_of_ble_eq_true rfl⟩ ?_
    refine w_ifb_eq 58 dX10_book_29 (by decide) (fun hc1 => ?_) (fun hc1 => ?_)
    · refine w_bipush dX10_book_58 (by decide) ?_
      refine x_iret rfl rfl dX10_book_60 (pr_end ?_ rfl rfl rfl rfl rfl rfl rfl)
      rw [if_neg (fun q => hc1 q.1)]
    · refine w_iload_n dX10_book_32 rfl rfl ?_
      refine w_iconst dX10_book_33 ?_
      refine w_iconst dX10_book_34 ?_
      refine wc_S (Z := mX10_isIn) (As := [_, _, _]) (c_isIn hx (by unfold ok32; omega) (by unfold ok32; omega)) kX10_isIn lX10_70 sX10_isIn dX10_book_35 rfl rfl rfl (Nat.le_of_ble_eq_true rfl) ⟨Nat.le_of_ble_eq_true rfl, Nat.le_of_ble_eq_true rfl⟩ ?_
      refine w_ifb_eq 58 dX10_book_38 (by decide) (fun hc2 => ?_) (fun hc2 => ?_)
      · refine w_bipush dX10_book_58 (by decide) ?_
        refine x_iret rfl rfl dX10_book_60 (pr_end ?_ rfl rfl rfl rfl rfl rfl rfl)
        rw [if_neg (fun q => hc2 q.2)]
      · refine w_aload_n dX10_book_41 rfl rfl ?_
        refine w_getf fX10_7 dX10_book_42 RH0 rfl ?_
        refine w_sipush dX10_book_45 (by decide) ?_
        refine w_iconst dX10_book_48 ?_
        refine w_iload_n dX10_book_49 rfl rfl ?_
        refine w_imul dX10_book_50 ?_
        refine w_iadd dX10_book_51 ?_
        refine w_iload_n dX10_book_52 rfl rfl ?_
        refine w_iadd dX10_book_53 ?_
        refine w_iald (336 + 3 * z.toNat + x.toNat) RH1 (by omega) (by omega) (by decide) dX10_book_54 ?_
        refine w_goto 60 dX10_book_55 (by decide) ?_
        refine x_iret rfl rfl dX10_book_60 (pr_end ?_ rfl rfl rfl rfl rfl rfl rfl)
        rw [if_pos ⟨hc1, hc2⟩]
  · refine w_aload_n dX10_book_5 rfl rfl ?_
    refine w_getf fX10_7 dX10_book_6 RH0 rfl ?_
    refine w_sipush dX10_book_9 (by decide) ?_
    refine w_iald 384 RH1 rfl (by decide) (by decide) dX10_book_12 ?_
    refine x_iret rfl rfl dX10_book_13 (pr_end ?_ rfl rfl rfl rfl rfl rfl rfl)
    rw [if_pos hz1]

set_option maxRecDepth 4000 in
theorem c_turned {r : Nat} {A : Nat → Int} {ia : Nat → Nat → Int} {la : Nat → Nat → BitVec 64} {fi : Nat → Int} {fl : Nat → BitVec 64} {h0 : HP} {L R C : Nat} {z : Int} (hT : TOP A L R C) (hz : ok32 z) : sp mX10_turned [.ref r, .int (zI z)] (RH r A ia la fi fl h0) 0 0 (pr (some (.int (zI (if 0 ≤ z ∧ z ≤ (L : Int) * C - 1 then A (385 + z.toNat) else -1)))) r A ia fi h0) := by
  obtain ⟨hI, hV, hS, h2⟩ := id hT
  obtain ⟨v1, v2, v3, v4, v5, v6, v7⟩ := id hV
  have h1 : 0 ≤ A 1 ∧ A 1 ≤ 20 := hI 1
  have h20 : 0 ≤ A 2 ∧ A 2 ≤ 20 := hI 2
  have hLC : (L : Int) * C ≤ 48 := by exact_mod_cast mulLe (a := L) (b := C) (x := 6) (y := 8) (by omega) (by omega)
  have hLC0 : (0 : Int) ≤ (L : Int) * C := by exact_mod_cast Nat.zero_le (L * C)
  have hLR : (L : Int) * R ≤ 24 := by exact_mod_cast mulLe (a := L) (b := R) (x := 6) (y := 4) (by omega) (by omega)
  have hLR0 : (0 : Int) ≤ (L : Int) * R := by exact_mod_cast Nat.zero_le (L * R)
  refine sp_wp rfl (lv := [_, _]) rfl (Nat.le_of_ble_eq_true rfl) ?_
  refine w_aload_n dX10_turned_0 rfl rfl ?_
  refine w_iload_n dX10_turned_1 rfl rfl ?_
  refine wc_V (Z := mX10_isBit) (As := [_]) (c_isBit hV hz) RH0 rfl kX10_isBit lX10_237 iX10_isBit vX10_isBit dX10_turned_2 rfl rfl rfl (Nat.le_of_ble_eq_true rfl) ⟨Nat.le_of_ble_eq_true rfl, Nat.le_of_ble_eq_true rfl⟩ ?_
  refine w_ifb_eq 21 dX10_turned_5 (by decide) (fun hc1 => ?_) (fun hc1 => ?_)
  · refine w_iconst dX10_turned_21 ?_
    refine x_iret rfl rfl dX10_turned_22 (pr_end ?_ rfl rfl rfl rfl rfl rfl rfl)
    rw [if_neg hc1]
  · refine w_aload_n dX10_turned_8 rfl rfl ?_
    refine w_getf fX10_7 dX10_turned_9 RH0 rfl ?_
    refine w_sipush dX10_turned_12 (by decide) ?_
    refine w_iload_n dX10_turned_15 rfl rfl ?_
    refine w_iadd dX10_turned_16 ?_
    refine w_iald (385 + z.toNat) RH1 (by omega) (by omega) (by decide) dX10_turned_17 ?_
    refine w_goto 22 dX10_turned_18 (by decide) ?_
    refine x_iret rfl rfl dX10_turned_22 (pr_end ?_ rfl rfl rfl rfl rfl rfl rfl)
    rw [if_pos hc1]
/-- the bit that turned most, the first of them -/
def rlN (f : Nat → Int) : Nat → Int
  | 0 => -1
  | b + 1 => if (if rlN f b = -1 then 0 else f (rlN f b).toNat) < f b then (b : Int) else rlN f b
theorem rlN_rng {f : Nat → Int} : ∀ {n : Nat}, -1 ≤ rlN f n ∧ rlN f n < n
  | 0 => ⟨by show (-1 : Int) ≤ -1; decide, by show (-1 : Int) < 0; decide⟩
  | n + 1 => by
    have ih := rlN_rng (f := f) (n := n)
    unfold rlN
    split <;> omega

set_option maxRecDepth 4000 in
theorem c_restless {r : Nat} {A : Nat → Int} {ia : Nat → Nat → Int} {la : Nat → Nat → BitVec 64} {fi : Nat → Int} {fl : Nat → BitVec 64} {h0 : HP} {L R C : Nat}  (hT : TOP A L R C) : sp mX10_restless [.ref r] (RH r A ia la fi fl h0) 0 0 (pr (some (.int (zI (rlN (fun b => A (385 + b)) (L * C))))) r A ia fi h0) := by
  obtain ⟨hI, hV, hS, h2⟩ := id hT
  obtain ⟨v1, v2, v3, v4, v5, v6, v7⟩ := id hV
  have h1 : 0 ≤ A 1 ∧ A 1 ≤ 20 := hI 1
  have h20 : 0 ≤ A 2 ∧ A 2 ≤ 20 := hI 2
  have hLC : (L : Int) * C ≤ 48 := by exact_mod_cast mulLe (a := L) (b := C) (x := 6) (y := 8) (by omega) (by omega)
  have hLC0 : (0 : Int) ≤ (L : Int) * C := by exact_mod_cast Nat.zero_le (L * C)
  have hLR : (L : Int) * R ≤ 24 := by exact_mod_cast mulLe (a := L) (b := R) (x := 6) (y := 4) (by omega) (by omega)
  have hLR0 : (0 : Int) ≤ (L : Int) * R := by exact_mod_cast Nat.zero_le (L * R)
  have hLCn := mulLe (a := L) (b := C) (x := 6) (y := 8) (by omega) (by omega)
  have hok : ∀ b, ok32 (A (385 + b)) := fun b => hI.ok _
  refine sp_wp rfl (lv := [_, _, _]) rfl (Nat.le_of_ble_eq_true rfl) ?_
  refine w_iconst dX10_restless_0 ?_
  refine w_istore_n (lv' := [_, _, _]) dX10_restless_1 rfl (Nat.le_of_ble_eq_true rfl) rfl rfl ?_
  refine w_iconst dX10_restless_2 ?_
  refine w_istore_n (lv' := [_, _, _]) dX10_restless_3 rfl (Nat.le_of_ble_eq_true rfl) rfl rfl ?_
  refine up_ind (N := L * C) (P := fun b => wp mX10_restless 4 [.ref r, .int (zI (rlN (fun b => A (385 + b)) b)), .int (zI (b : Int))] [] (RH r A ia la fi fl h0) 0 0 (pr (some (.int (zI (rlN (fun b => A (385 + b)) (L * C))))) r A ia fi h0)) (fun b hb ih => ?_) 0 (Nat.zero_le _)
  have hr0 := rlN_rng (f := fun b => A (385 + b)) (n := b)
  refine w_iload_n dX10_restless_4 rfl rfl ?_
  refine w_aload_n dX10_restless_5 rfl rfl ?_
  refine wc_V (Z := mX10_bits) (As := []) c_bits RH0 rfl kX10_bits lX10_66 iX10_bits vX10_bits dX10_restless_6 rfl rfl rfl (Nat.le_of_ble_eq_true rfl) ⟨Nat.le_of_ble_eq_true rfl, Nat.le_of_ble_eq_true rfl⟩ ?_
  rw [v1, v3]
  refine w_icmp_ge 52 dX10_restless_9 (by decide) (by unfold ok32; omega) (by unfold ok32; omega) (fun hn => ?_) (fun hn => ?_)
  · refine w_iload_n dX10_restless_52 rfl rfl ?_
    refine x_iret rfl rfl dX10_restless_53 (pr_end ?_ rfl rfl rfl rfl rfl rfl rfl)
    rw [show b = L * C by omega]
  · refine w_aload_n dX10_restless_12 rfl rfl ?_
    refine w_getf fX10_7 dX10_restless_13 RH0 rfl ?_
    refine w_sipush dX10_restless_16 (by decide) ?_
    refine w_iload_n dX10_restless_19 rfl rfl ?_
    refine w_iadd dX10_restless_20 ?_
    refine w_iald (385 + b) RH1 (by omega) (by omega) (by decide) dX10_restless_21 ?_
    refine w_iload_n dX10_restless_22 rfl rfl ?_
    refine w_iconst dX10_restless_23 ?_
    refine w_icmp_ne 31 dX10_restless_24 (by decide) (by unfold ok32; omega) (by unfold ok32; omega) (fun hm => ?_) (fun hm => ?_)
    · refine w_aload_n dX10_restless_31 rfl rfl ?_
      refine w_getf fX10_7 dX10_restless_32 RH0 rfl ?_
      refine w_sipush dX10_restless_35 (by decide) ?_
      refine w_iload_n dX10_restless_38 rfl rfl ?_
      refine w_iadd dX10_restless_39 ?_
      refine w_iald (385 + (rlN (fun b => A (385 + b)) b).toNat) RH1 (by omega) (by omega) (by decide) dX10_restless_40 ?_
      refine w_icmp_le 46 dX10_restless_41 (by decide) (hok _) (hok _) (fun hq => ?_) (fun hq => ?_)
      · refine w_iinc (lv' := [_, _, _]) dX10_restless_46 rfl rfl rfl ?_
        refine w_goto 4 dX10_restless_49 (by decide) ?_
        refine w_cast ?_ rfl rfl (ih (by omega))
        rw [rlN, if_neg hm, if_neg (by omega)]
        rfl
      · refine w_iload_n dX10_restless_44 rfl rfl ?_
        refine w_istore_n (lv' := [_, _, _]) dX10_restless_45 rfl (Nat.le_of_ble_eq_true rfl) rfl rfl ?_
        refine w_iinc (lv' := [_, _, _]) dX10_restless_46 rfl rfl rfl ?_
        refine w_goto 4 dX10_restless_49 (by decide) ?_
        refine w_cast ?_ rfl rfl (ih (by omega))
        rw [rlN, if_neg hm, if_pos (by omega)]
        rfl
    · refine w_iconst dX10_restless_27 ?_
      refine w_goto 41 dX10_restless_28 (by decide) ?_
      refine w_icmp_le 46 dX10_restless_41 (by decide) (hok _) ok32_0 (fun hq => ?_) (fun hq => ?_)
      · refine w_iinc (lv' := [_, _, _]) dX10_restless_46 rfl rfl rfl ?_
        refine w_goto 4 dX10_restless_49 (by decide) ?_
        refine w_cast ?_ rfl rfl (ih (by omega))
        rw [rlN, if_pos hm, if_neg (by omega)]
        rfl
      · refine w_iload_n dX10_restless_44 rfl rfl ?_
        refine w_istore_n (lv' := [_, _, _]) dX10_restless_45 rfl (Nat.le_of_ble_eq_true rfl) rfl rfl ?_
        refine w_iinc (lv' := [_, _, _]) dX10_restless_46 rfl rfl rfl ?_
        refine w_goto 4 dX10_restless_49 (by decide) ?_
        refine w_cast ?_ rfl rfl (ih (by omega))
        rw [rlN, if_pos hm, if_pos (by omega)]
        rfl

set_option maxRecDepth 4000 in
theorem c_guess {r : Nat} {A : Nat → Int} {ia : Nat → Nat → Int} {la : Nat → Nat → BitVec 64} {fi : Nat → Int} {fl : Nat → BitVec 64} {h0 : HP} {L R C : Nat}  (hT : TOP A L R C) : sp mX10_guess [.ref r] (RH r A ia la fi fl h0) 0 0 (pr (some (.long (lB (gA A (L * C))))) r A ia fi h0) := by
  obtain ⟨hI, hV, hS, h2⟩ := id hT
  obtain ⟨v1, v2, v3, v4, v5, v6, v7⟩ := id hV
  have h1 : 0 ≤ A 1 ∧ A 1 ≤ 20 := hI 1
  have h20 : 0 ≤ A 2 ∧ A 2 ≤ 20 := hI 2
  have hLC : (L : Int) * C ≤ 48 := by exact_mod_cast mulLe (a := L) (b := C) (x := 6) (y := 8) (by omega) (by omega)
  have hLC0 : (0 : Int) ≤ (L : Int) * C := by exact_mod_cast Nat.zero_le (L * C)
  have hLR : (L : Int) * R ≤ 24 := by exact_mod_cast mulLe (a := L) (b := R) (x := 6) (y := 4) (by omega) (by omega)
  have hLR0 : (0 : Int) ≤ (L : Int) * R := by exact_mod_cast Nat.zero_le (L * R)
  refine sp_wp rfl (lv := [_]) rfl (Nat.le_of_ble_eq_true rfl) ?_
  refine w_aload_n dX10_guess_0 rfl rfl ?_
  refine wc_V (Z := mX10_guessed) (As := []) (c_guessed hV hI.ok) RH0 rfl kX10_guessed lX10_156 iX10_guessed vX10_guessed dX10_guess_1 rfl rfl rfl (Nat.le_of_ble_eq_true rfl) ⟨Nat.le_of_ble_eq_true rfl, Nat.le_of_ble_eq_true rfl⟩ ?_
  exact x_lret rfl dX10_guess_4 (pr_end rfl rfl rfl rfl rfl rfl rfl rfl)

set_option maxRecDepth 4000 in
theorem c_sent {r : Nat} {A : Nat → Int} {ia : Nat → Nat → Int} {la : Nat → Nat → BitVec 64} {fi : Nat → Int} {fl : Nat → BitVec 64} {h0 : HP} {L R C : Nat}  (hT : TOP A L R C) : sp mX10_sent [.ref r] (RH r A ia la fi fl h0) 0 0 (pr (some (.long (lB (sentB A)))) r A ia fi h0) := by
  obtain ⟨hI, hV, hS, h2⟩ := id hT
  obtain ⟨v1, v2, v3, v4, v5, v6, v7⟩ := id hV
  have h1 : 0 ≤ A 1 ∧ A 1 ≤ 20 := hI 1
  have h20 : 0 ≤ A 2 ∧ A 2 ≤ 20 := hI 2
  have hLC : (L : Int) * C ≤ 48 := by exact_mod_cast mulLe (a := L) (b := C) (x := 6) (y := 8) (by omega) (by omega)
  have hLC0 : (0 : Int) ≤ (L : Int) * C := by exact_mod_cast Nat.zero_le (L * C)
  have hLR : (L : Int) * R ≤ 24 := by exact_mod_cast mulLe (a := L) (b := R) (x := 6) (y := 4) (by omega) (by omega)
  have hLR0 : (0 : Int) ≤ (L : Int) * R := by exact_mod_cast Nat.zero_le (L * R)
  refine sp_wp rfl (lv := [_]) rfl (Nat.le_of_ble_eq_true rfl) ?_
  refine w_aload_n dX10_sent_0 rfl rfl ?_
  refine wc_V (Z := mX10_sentSet) (As := []) (c_sentSet (hI.ok 46) (hI.ok 47)) RH0 rfl kX10_sentSet lX10_234 iX10_sentSet vX10_sentSet dX10_sent_1 rfl rfl rfl (Nat.le_of_ble_eq_true rfl) ⟨Nat.le_of_ble_eq_true rfl, Nat.le_of_ble_eq_true rfl⟩ ?_
  exact x_lret rfl dX10_sent_4 (pr_end rfl rfl rfl rfl rfl rfl rfl rfl)

set_option maxRecDepth 4000 in
theorem c_wrong {r : Nat} {A : Nat → Int} {ia : Nat → Nat → Int} {la : Nat → Nat → BitVec 64} {fi : Nat → Int} {fl : Nat → BitVec 64} {h0 : HP} {L R C : Nat}  (hT : TOP A L R C) : sp mX10_wrong [.ref r] (RH r A ia la fi fl h0) 0 0 (pr (some (.int (zI (((pop (gA A (L * C) ^^^ sentB A) : Nat) : Int))))) r A ia fi h0) := by
  obtain ⟨hI, hV, hS, h2⟩ := id hT
  obtain ⟨v1, v2, v3, v4, v5, v6, v7⟩ := id hV
  have h1 : 0 ≤ A 1 ∧ A 1 ≤ 20 := hI 1
  have h20 : 0 ≤ A 2 ∧ A 2 ≤ 20 := hI 2
  have hLC : (L : Int) * C ≤ 48 := by exact_mod_cast mulLe (a := L) (b := C) (x := 6) (y := 8) (by omega) (by omega)
  have hLC0 : (0 : Int) ≤ (L : Int) * C := by exact_mod_cast Nat.zero_le (L * C)
  have hLR : (L : Int) * R ≤ 24 := by exact_mod_cast mulLe (a := L) (b := R) (x := 6) (y := 4) (by omega) (by omega)
  have hLR0 : (0 : Int) ≤ (L : Int) * R := by exact_mod_cast Nat.zero_le (L * R)
  refine sp_wp rfl (lv := [_]) rfl (Nat.le_of_ble_eq_true rfl) ?_
  refine w_aload_n dX10_wrong_0 rfl rfl ?_
  refine wc_V (Z := mX10_guessed) (As := []) (c_guessed hV hI.ok) RH0 rfl kX10_guessed lX10_156 iX10_guessed vX10_guessed dX10_wrong_1 rfl rfl rfl (Nat.le_of_ble_eq_true rfl) ⟨Nat.le_of_ble_eq_true rfl, Nat.le_of_ble_eq_true rfl⟩ ?_
  refine w_aload_n dX10_wrong_4 rfl rfl ?_
  refine wc_V (Z := mX10_sentSet) (As := []) (c_sentSet (hI.ok 46) (hI.ok 47)) RH0 rfl kX10_sentSet lX10_234 iX10_sentSet vX10_sentSet dX10_wrong_5 rfl rfl rfl (Nat.le_of_ble_eq_true rfl) ⟨Nat.le_of_ble_eq_true rfl, Nat.le_of_ble_eq_true rfl⟩ ?_
  refine w_lxor dX10_wrong_8 ?_
  refine wc_S (Z := mX10_many) (As := [_]) c_many kX10_many lX10_87 sX10_many dX10_wrong_9 rfl rfl rfl (Nat.le_of_ble_eq_true rfl) ⟨Nat.le_of_ble_eq_true rfl, Nat.le_of_ble_eq_true rfl⟩ ?_
  exact x_iret rfl rfl dX10_wrong_12 (pr_end rfl rfl rfl rfl rfl rfl rfl rfl)

set_option maxRecDepth 4000 in
theorem c_about {r : Nat} {A : Nat → Int} {ia : Nat → Nat → Int} {la : Nat → Nat → BitVec 64} {fi : Nat → Int} {fl : Nat → BitVec 64} {h0 : HP} {L R C : Nat} {z : Int} (hT : TOP A L R C) (hz : ok32 z) : sp mX10_about [.ref r, .int (zI z)] (RH r A ia la fi fl h0) 0 0 (pr (some (.int (zI (if z = 0 then A 0 else if z = 1 then A 1 else if z = 2 then fi 4 else if z = 3 then ((fac R : Nat) : Int) else -2)))) r A ia fi h0) := by
  obtain ⟨hI, hV, hS, h2⟩ := id hT
  obtain ⟨v1, v2, v3, v4, v5, v6, v7⟩ := id hV
  have h1 : 0 ≤ A 1 ∧ A 1 ≤ 20 := hI 1
  have h20 : 0 ≤ A 2 ∧ A 2 ≤ 20 := hI 2
  have hLC : (L : Int) * C ≤ 48 := by exact_mod_cast mulLe (a := L) (b := C) (x := 6) (y := 8) (by omega) (by omega)
  have hLC0 : (0 : Int) ≤ (L : Int) * C := by exact_mod_cast Nat.zero_le (L * C)
  have hLR : (L : Int) * R ≤ 24 := by exact_mod_cast mulLe (a := L) (b := R) (x := 6) (y := 4) (by omega) (by omega)
  have hLR0 : (0 : Int) ≤ (L : Int) * R := by exact_mod_cast Nat.zero_le (L * R)
  refine sp_wp rfl (lv := [_, _]) rfl (Nat.le_of_ble_eq_true rfl) ?_
  refine w_iload_n dX10_about_0 rfl rfl ?_
  by_cases hq : z < 0 ∨ 3 < z
  · refine w_tsw_out 56 dX10_about_1 hz hq (by decide) ?_
    refine w_bipush dX10_about_56 (by decide) ?_
    refine x_iret rfl rfl dX10_about_58 (pr_end ?_ rfl rfl rfl rfl rfl rfl rfl)
    rw [if_neg (by omega), if_neg (by omega), if_neg (by omega), if_neg (by omega)]
  · rcases (show z = 0 ∨ z = 1 ∨ z = 2 ∨ z = 3 by omega) with rfl | rfl | rfl | rfl
    · refine w_tsw_in 32 dX10_about_1 hz (by decide) (by decide) rfl (by decide) ?_
      refine w_aload_n dX10_about_32 rfl rfl ?_
      refine w_getf fX10_7 dX10_about_33 RH0 rfl ?_
      refine w_iconst dX10_about_36 ?_
      refine w_iald 0 RH1 rfl (by decide) (by decide) dX10_about_37 ?_
      exact x_iret rfl rfl dX10_about_38 (pr_end rfl rfl rfl rfl rfl rfl rfl rfl)
    · refine w_tsw_in 39 dX10_about_1 hz (by decide) (by decide) rfl (by decide) ?_
      refine w_aload_n dX10_about_39 rfl rfl ?_
      refine w_getf fX10_7 dX10_about_40 RH0 rfl ?_
      refine w_iconst dX10_about_43 ?_
      refine w_iald 1 RH1 rfl (by decide) (by decide) dX10_about_44 ?_
      exact x_iret rfl rfl dX10_about_45 (pr_end rfl rfl rfl rfl rfl rfl rfl rfl)
    · refine w_tsw_in 46 dX10_about_1 hz (by decide) (by decide) rfl (by decide) ?_
      refine w_aload_n dX10_about_46 rfl rfl ?_
      refine w_getf fX10_91 dX10_about_47 RH0 rfl ?_
      exact x_iret rfl rfl dX10_about_50 (pr_end rfl rfl rfl rfl rfl rfl rfl rfl)
    · refine w_tsw_in 51 dX10_about_1 hz (by decide) (by decide) rfl (by decide) ?_
      refine w_aload_n dX10_about_51 rfl rfl ?_
      refine wc_V (Z := mX10_orders) (As := []) (c_orders v2 v5) RH0 rfl kX10_orders lX10_153 iX10_orders vX10_orders dX10_about_52 rfl rfl rfl (Nat.le_of_ble_eq_true rfl) ⟨Nat.le_of_ble_eq_true rfl, Nat.le_of_ble_eq_true rfl⟩ ?_
      exact x_iret rfl rfl dX10_about_55 (pr_end rfl rfl rfl rfl rfl rfl rfl rfl)
