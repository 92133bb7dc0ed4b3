/-! a step of the class -/
set_option maxRecDepth 4000 in
theorem c8_note {a c : Nat} {sa : Nat → Nat → Int} {si : Nat → Int} {sl : Nat → BitVec 64} {h0 : HP} {y : Int} {x : BitVec 64} {n : Nat} (hn : si 7 = (n : Int)) (hn2 : n ≤ 1000) (hx : ∀ i, x.getLsbD i = true → i < 48) : sp mX8_note [.ref a, .int (zI y), .long (lB x)] (SH a (c) (sa) (si) (sl) h0) 0 0 (px none (fun tn : Nat → Int => ∀ b, b < 48 → tn b = sa 3 b + bI (x.getLsbD b = true)) (fun tn => (SH a (c) (u1 (u1 sa 3 tn) 5 (u1 (u1 (u1 (sa 5) (n % 16 * 3) y) (n % 16 * 3 + 1) ((pop x : Nat) : Int)) (n % 16 * 3 + 2) (si 9))) (u1 si 7 ((n : Int) + 1)) (sl) h0))) := by
  have hp := pop_le x
  refine sp_wp rfl (lv := [_, _, _, _, _, _, _, _]) rfl (Nat.le_of_ble_eq_true rfl) ?_
  refine w_lload_n dX8_note_0 rfl rfl ?_
  refine wc_S (Z := mJ13_bitCount_95d88) (As := [_]) c_bitCount kJ13_bitCount_95d88 lX8_114 sJ13_bitCount_95d88 dX8_note_1 rfl rfl rfl (Nat.le_of_ble_eq_true rfl) ⟨Nat.le_of_ble_eq_true rfl, Nat.le_of_ble_eq_true rfl⟩ ?_
  refine w_istore (lv' := [_, _, _, _, _, _, _, _]) dX8_note_4 (Nat.le_of_ble_eq_true rfl) rfl rfl ?_
  refine w_lload_n dX8_note_6 rfl rfl ?_
  refine w_lstore (lv' := [_, _, _, _, _, _, _, _]) dX8_note_7 (Nat.le_of_ble_eq_true rfl) rfl rfl ?_
  refine w_iconst dX8_note_9 ?_
  refine w_istore (lv' := [_, _, _, _, _, _, _, _]) dX8_note_10 (Nat.le_of_ble_eq_true rfl) rfl rfl ?_
  have key : ∀ k, k ≤ pop x → ∀ tn : Nat → Int, (∀ b, b < 48 → tn b = sa 3 b + bI (x.getLsbD b = true ∧ pn x.getLsbD b < k)) → wp mX8_note 12 [.ref a, .int (zI y), .long (lB x), jk, .int (zI ((pop x : Nat) : Int)), .long (lB (rstB x k)), jk, .int (zI (k : Int))] [] (SH a (c) (u1 sa 3 tn) (si) (sl) h0) 0 0 (px none (fun tn : Nat → Int => ∀ b, b < 48 → tn b = sa 3 b + bI (x.getLsbD b = true)) (fun tn => (SH a (c) (u1 (u1 sa 3 tn) 5 (u1 (u1 (u1 (sa 5) (n % 16 * 3) y) (n % 16 * 3 + 1) ((pop x : Nat) : Int)) (n % 16 * 3 + 2) (si 9))) (u1 si 7 ((n : Int) + 1)) (sl) h0))) := by
    refine up_ind (P := fun k => ∀ tn : Nat → Int, (∀ b, b < 48 → tn b = sa 3 b + bI (x.getLsbD b = true ∧ pn x.getLsbD b < k)) → wp mX8_note 12 [.ref a, .int (zI y), .long (lB x), jk, .int (zI ((pop x : Nat) : Int)), .long (lB (rstB x k)), jk, .int (zI (k : Int))] [] (SH a (c) (u1 sa 3 tn) (si) (sl) h0) 0 0 (px none (fun tn : Nat → Int => ∀ b, b < 48 → tn b = sa 3 b + bI (x.getLsbD b = true)) (fun tn => (SH a (c) (u1 (u1 sa 3 tn) 5 (u1 (u1 (u1 (sa 5) (n % 16 * 3) y) (n % 16 * 3 + 1) ((pop x : Nat) : Int)) (n % 16 * 3 + 2) (si 9))) (u1 si 7 ((n : Int) + 1)) (sl) h0)))) (fun k hk ih tn htn => ?_)
    refine w_iload dX8_note_12 rfl ?_
    refine w_iload dX8_note_14 rfl ?_
    refine w_icmp_ge 48 dX8_note_16 (by decide) (by first | assumption | (unfold ok32 at *; omega)) (by first | assumption | (unfold ok32 at *; omega)) (fun hc => ?_) (fun hc => ?_)
    · refine w_aload_n dX8_note_48 rfl rfl ?_
      refine w_getf fX8_57 dX8_note_49 SC0 rfl ?_
      rw [hn]
      refine w_bipush dX8_note_52 (by decide) ?_
      refine w_irem dX8_note_54 (by unfold ok32; omega) (by omega) (by omega) (by unfold ok32; omega) ?_
      refine w_iconst dX8_note_55 ?_
      refine w_imul dX8_note_56 ?_
      rw [show (n : Int) % 16 * 3 = ((n % 16 * 3 : Nat) : Int) by omega]
      refine w_istore (lv' := [_, _, _, _, _, _, _, _]) dX8_note_57 (Nat.le_of_ble_eq_true rfl) rfl rfl ?_
      refine w_aload_n dX8_note_59 rfl rfl ?_
      refine w_getf fX8_28 dX8_note_60 SC0 rfl ?_
      refine w_iload dX8_note_63 rfl ?_
      refine w_iload_n dX8_note_65 rfl rfl ?_
      refine sc_ist5 (n % 16 * 3) (by first | rfl | omega | (push_cast; rfl) | (push_cast; omega)) (by omega) dX8_note_66 ?_
      refine w_aload_n dX8_note_67 rfl rfl ?_
      refine w_getf fX8_28 dX8_note_68 SC0 rfl ?_
      refine w_iload dX8_note_71 rfl ?_
      refine w_iconst dX8_note_73 ?_
      refine w_iadd dX8_note_74 ?_
      refine w_iload dX8_note_75 rfl ?_
      refine sc_ist5 (n % 16 * 3 + 1) (by first | rfl | omega | (push_cast; rfl) | (push_cast; omega)) (by omega) dX8_note_77 ?_
      rw [u1_u1, u1_s]
      refine w_aload_n dX8_note_78 rfl rfl ?_
      refine w_getf fX8_28 dX8_note_79 SC0 rfl ?_
      refine w_iload dX8_note_82 rfl ?_
      refine w_iconst dX8_note_84 ?_
      refine w_iadd dX8_note_85 ?_
      refine w_aload_n dX8_note_86 rfl rfl ?_
      refine w_getf fX8_63 dX8_note_87 SC0 rfl ?_
      refine sc_ist5 (n % 16 * 3 + 2) (by first | rfl | omega | (push_cast; rfl) | (push_cast; omega)) (by omega) dX8_note_90 ?_
      rw [u1_u1, u1_s]
      refine w_aload_n dX8_note_91 rfl rfl ?_
      refine w_dup dX8_note_92 rfl ?_
      refine w_getf fX8_57 dX8_note_93 SC0 rfl ?_
      rw [hn]
      refine w_iconst dX8_note_96 ?_
      refine w_iadd dX8_note_97 ?_
      refine sc_pf7 fX8_57 dX8_note_98 ?_
      refine x_vret rfl dX8_note_101 ⟨rfl, tn, fun b hb => ?_, rfl⟩
      rw [htn b hb]
      congr 1
      refine bI_c ⟨fun h => h.1, fun h => ⟨h, ?_⟩⟩
      have h1 : pn x.getLsbD (b + 1) ≤ pop x := pn_mono (by omega)
      rw [pn, h] at h1
      simp at h1
      omega
    · obtain ⟨t, ht1, ht2, ht3⟩ := nth_ex (x := x) (i := k) (by omega)
      have ht48 := hx t ht2
      refine w_aload_n dX8_note_19 rfl rfl ?_
      refine w_getf fX8_22 dX8_note_20 SC0 rfl ?_
      refine w_lload dX8_note_23 rfl ?_
      refine wc_SN (Z := mX9_lowest) (As := [_]) (c9_lowest (nth_low ht1 ht2 ht3)) kX9_lowest lX8_119 sX9_lowest dX8_note_25 rfl rfl rfl (Nat.le_of_ble_eq_true rfl) ⟨Nat.le_of_ble_eq_true rfl, Nat.le_of_ble_eq_true rfl⟩ ?_
      refine w_dup2 dX8_note_28 rfl rfl ?_
      refine w_iald t SC3 rfl (by omega) (by decide) dX8_note_29 ?_
      refine w_iconst dX8_note_30 ?_
      refine w_iadd dX8_note_31 ?_
      refine sc_ist3 (t) (by first | rfl | omega | (push_cast; rfl) | (push_cast; omega)) (by omega) dX8_note_32 ?_
      rw [u1_u1, u1_s]
      refine w_lload dX8_note_33 rfl ?_
      refine w_lload dX8_note_35 rfl ?_
      refine w_lconst1 dX8_note_37 ?_
      refine w_lsub dX8_note_38 ?_
      refine w_land dX8_note_39 ?_
      refine w_lstore (lv' := [_, _, _, _, _, _, _, _]) dX8_note_40 (Nat.le_of_ble_eq_true rfl) rfl rfl ?_
      refine w_iinc (lv' := [_, _, _, _, _, _, _, _]) dX8_note_42 rfl rfl rfl ?_
      refine w_goto 12 dX8_note_45 (by decide) ?_
      refine ih (by omega) (u1 tn t (tn t + 1)) (fun b hb => ?_)
      by_cases hbt : b = t
      · rw [hbt, u1_s, htn t ht48, bI_f (fun z => by omega), bI_t ⟨ht2, by omega⟩]
        omega
      · rw [u1_n hbt, htn b hb]
        congr 1
        refine bI_c ⟨fun h => ⟨h.1, by omega⟩, fun h => ⟨h.1, ?_⟩⟩
        by_cases he : pn x.getLsbD b = k
        · exfalso
          rcases Nat.lt_trichotomy b t with q | q | q
          · have : pn x.getLsbD (b + 1) ≤ pn x.getLsbD t := pn_mono (by omega)
            rw [pn, h.1] at this
            simp at this
            omega
          · exact hbt q
          · have : pn x.getLsbD (t + 1) ≤ pn x.getLsbD b := pn_mono (by omega)
            rw [pn, ht2] at this
            simp at this
            omega
        · have := h.2
          omega
  refine w_cast rfl rfl ?_ (key 0 (Nat.zero_le _) (sa 3) (fun b hb => ?_))
  · rw [u1_id]
  · rw [bI_f (fun z => absurd z.2 (Nat.not_lt_zero _))]
    omega

