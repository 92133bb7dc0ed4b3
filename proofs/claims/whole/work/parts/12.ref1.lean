set_option maxRecDepth 4000 in
theorem c_isIn {v a b : Int} {h : HP} (hv : ok32 v) (ha : ok32 a) (hb : ok32 b) : sp mX10_isIn [.int (zI v), .int (zI a), .int (zI b)] h 0 0 (pd (some (.int (zI (bI (a ≤ v ∧ v ≤ b))))) h) := by
  refine sp_wp rfl (lv := [_, _, _]) rfl (Nat.le_of_ble_eq_true rfl) ?_
  refine w_iload_n dX10_isIn_0 rfl rfl ?_
  refine w_iload_n dX10_isIn_1 rfl rfl ?_
  refine w_icmp_lt 14 dX10_isIn_2 (by decide) hv ha (fun hc => ?_) (fun hc => ?_)
  · refine w_iconst dX10_isIn_14 ?_
    refine x_iret rfl (by first | rfl | exact bI_nar _) dX10_isIn_15 ⟨?_, rfl⟩
    rw [bI_f (by omega)]
  · refine w_iload_n dX10_isIn_5 rfl rfl ?_
    refine w_iload_n dX10_isIn_6 rfl rfl ?_
    refine w_icmp_gt 14 dX10_isIn_7 (by decide) hv hb (fun hc => ?_) (fun hc => ?_)
    · refine w_iconst dX10_isIn_14 ?_
      refine x_iret rfl (by first | rfl | exact bI_nar _) dX10_isIn_15 ⟨?_, rfl⟩
      rw [bI_f (by omega)]
    · refine w_iconst dX10_isIn_10 ?_
      refine w_goto 15 dX10_isIn_11 (by decide) ?_
      refine x_iret rfl (by first | rfl | exact bI_nar _) dX10_isIn_15 ⟨?_, rfl⟩
      rw [bI_t (by omega)]
def hld (v a b : Int) : Int := if v < a then a else if b < v then b else v
theorem c_held {v a b : Int} {h : HP} (hv : ok32 v) (ha : ok32 a) (hb : ok32 b) : sp mX10_held [.int (zI v), .int (zI a), .int (zI b)] h 0 0 (pd (some (.int (zI (hld v a b)))) h) := by
  refine sp_wp rfl (lv := [_, _, _]) rfl (Nat.le_of_ble_eq_true rfl) ?_
  refine w_iload_n dX10_held_0 rfl rfl ?_
  refine w_iload_n dX10_held_1 rfl rfl ?_
  refine w_icmp_ge 9 dX10_held_2 (by decide) hv ha (fun hc => ?_) (fun hc => ?_)
  · refine w_iload_n dX10_held_9 rfl rfl ?_
    refine w_iload_n dX10_held_10 rfl rfl ?_
    refine w_icmp_le 18 dX10_held_11 (by decide) hv hb (fun hc => ?_) (fun hc => ?_)
    · refine w_iload_n dX10_held_18 rfl rfl ?_
      refine x_iret rfl rfl dX10_held_19 ⟨?_, rfl⟩
      rw [hld, if_neg (by omega), if_neg (by omega)]
    · refine w_iload_n dX10_held_14 rfl rfl ?_
      refine w_goto 19 dX10_held_15 (by decide) ?_
      refine x_iret rfl rfl dX10_held_19 ⟨?_, rfl⟩
      rw [hld, if_neg (by omega), if_pos (by omega)]
  · refine w_iload_n dX10_held_5 rfl rfl ?_
    refine w_goto 19 dX10_held_6 (by decide) ?_
    refine x_iret rfl rfl dX10_held_19 ⟨?_, rfl⟩
    rw [hld, if_pos (by omega)]
def szd (v : Int) : Int := if v < 0 then -v else v
theorem c_sized {v : Int} {h : HP} (hv : ok32 v) : sp mX10_sized [.int (zI v)] h 0 0 (pd (some (.int (zI (szd v)))) h) := by
  refine sp_wp rfl (lv := [_]) rfl (Nat.le_of_ble_eq_true rfl) ?_
  refine w_iload_n dX10_sized_0 rfl rfl ?_
  refine w_if_ge 9 dX10_sized_1 (by decide) hv (fun hc => ?_) (fun hc => ?_)
  · refine w_iload_n dX10_sized_9 rfl rfl ?_
    refine x_iret rfl rfl dX10_sized_10 ⟨?_, rfl⟩
    rw [szd, if_neg (by omega)]
  · refine w_iload_n dX10_sized_4 rfl rfl ?_
    refine w_ineg dX10_sized_5 ?_
    refine w_goto 10 dX10_sized_6 (by decide) ?_
    refine x_iret rfl rfl dX10_sized_10 ⟨?_, rfl⟩
    rw [szd, if_pos (by omega)]
theorem c_many {x : BitVec 64} {h : HP} : sp mX10_many [.long (lB x)] h 0 0 (pd (some (.int (zI (pop x : Nat)))) h) := by
  refine sp_wp rfl (lv := [_, _, _, _, _]) rfl (Nat.le_of_ble_eq_true rfl) ?_
  refine w_iconst dX10_many_0 ?_
  refine w_istore_n (lv' := [_, _, _, _, _]) dX10_many_1 rfl (Nat.le_of_ble_eq_true rfl) rfl rfl ?_
  refine w_lload_n dX10_many_2 rfl rfl ?_
  refine w_lstore_n (lv' := [_, _, _, _, _]) dX10_many_3 rfl (Nat.le_of_ble_eq_true rfl) rfl rfl ?_
  have key : ∀ (n : Nat) (y : BitVec 64) (k : Nat), pop y = n → k + pop y = pop x → wp mX10_many 4 [.long (lB x), jk, .int (zI (k : Int)), .long (lB y), jk] [] h 0 0 (pd (some (.int (zI (pop x : Nat)))) h) := by
    intro n
    induction n with
    | zero =>
      intro y k hy hk
      refine w_lload_n dX10_many_4 rfl rfl ?_
      refine w_lconst0 dX10_many_5 ?_
      refine w_lc_eq 22 dX10_many_6 dX10_many_7 (by decide) (fun hc => ?_) (fun hc => ?_)
      · refine w_iload_n dX10_many_22 rfl rfl ?_
        refine x_iret rfl rfl dX10_many_23 ⟨?_, rfl⟩
        rw [show k = pop x by omega]
      · have := pop_clr hc
        omega
    | succ n ih =>
      intro y k hy hk
      refine w_lload_n dX10_many_4 rfl rfl ?_
      refine w_lconst0 dX10_many_5 ?_
      refine w_lc_eq 22 dX10_many_6 dX10_many_7 (by decide) (fun hc => ?_) (fun hc => ?_)
      · rw [hc, pop_0] at hy; omega
      · refine w_iinc (lv' := [_, _, _, _, _]) dX10_many_10 rfl rfl rfl ?_
        refine w_lload_n dX10_many_13 rfl rfl ?_
        refine w_lload_n dX10_many_14 rfl rfl ?_
        refine w_lconst1 dX10_many_15 ?_
        refine w_lsub dX10_many_16 ?_
        refine w_land dX10_many_17 ?_
        refine w_lstore_n (lv' := [_, _, _, _, _]) dX10_many_18 rfl (Nat.le_of_ble_eq_true rfl) rfl rfl ?_
        refine w_goto 4 dX10_many_19 (by decide) ?_
        have h2 := pop_clr hc
        exact ih _ (k + 1) (by omega) (by omega)
  exact key (pop x) x 0 rfl (by omega)
theorem c_hasIt {x : BitVec 64} {k : Nat} {h : HP} (hk : k < 64) : sp mX10_hasIt [.long (lB x), .int (zI (k : Int))] h 0 0 (pd (some (.int (zI (bI (x.getLsbD k = true))))) h) := by
  refine sp_wp rfl (lv := [_, _, _]) rfl (Nat.le_of_ble_eq_true rfl) ?_
  refine w_lload_n dX10_hasIt_0 rfl rfl ?_
  refine w_iload_n dX10_hasIt_1 rfl rfl ?_
  refine w_lshr _ rfl (by omega) dX10_hasIt_2 ?_
  refine w_lconst1 dX10_hasIt_3 ?_
  refine w_land dX10_hasIt_4 ?_
  refine w_lconst1 dX10_hasIt_5 ?_
  rw [sshr_bit hk]
  refine w_lc_ne 14 dX10_hasIt_6 dX10_hasIt_7 (by decide) (fun hc => ?_) (fun hc => ?_)
  · refine w_iconst dX10_hasIt_14 ?_
    refine x_iret rfl (by first | rfl | exact bI_nar _) dX10_hasIt_15 ⟨?_, rfl⟩
    rw [bI_f (fun q => by rw [if_pos q] at hc; exact hc rfl)]
  · refine w_iconst dX10_hasIt_10 ?_
    refine w_goto 15 dX10_hasIt_11 (by decide) ?_
    refine x_iret rfl (by first | rfl | exact bI_nar _) dX10_hasIt_15 ⟨?_, rfl⟩
    by_cases hb : x.getLsbD k = true
    · rw [bI_t hb]
    · rw [if_neg hb] at hc; exact absurd hc (by decide)
/-- the lowest bit of a set that has one -/
def isLow (x : BitVec 64) (t : Nat) : Prop := t < 64 ∧ x.getLsbD t = true ∧ ∀ j, j < t → x.getLsbD j = false
theorem c_lowest {x : BitVec 64} {t : Nat} {h : HP} (ht : isLow x t) : sp mX10_lowest [.long (lB x)] h 0 0 (pd (some (.int (zI (t : Int)))) h) := by
  obtain ⟨h1, h2, h3⟩ := ht
  refine sp_wp rfl (lv := [_, _, _]) rfl (Nat.le_of_ble_eq_true rfl) ?_
  refine w_iconst dX10_lowest_0 ?_
  refine w_istore_n (lv' := [_, _, _]) dX10_lowest_1 rfl (Nat.le_of_ble_eq_true rfl) rfl rfl ?_
  refine up_ind (N := t) (P := fun k => wp mX10_lowest 2 [.long (lB x), jk, .int (zI (k : Int))] [] h 0 0 (pd (some (.int (zI (t : Int)))) h)) (fun k hk ih => ?_) 0 (Nat.zero_le _)
  refine w_lload_n dX10_lowest_2 rfl rfl ?_
  refine w_iload_n dX10_lowest_3 rfl rfl ?_
  refine wc_S (Z := mX10_hasIt) (As := [_, _]) (c_hasIt (by omega)) kX10_hasIt lX10_62 sX10_hasIt dX10_lowest_4 rfl rfl rfl (Nat.le_of_ble_eq_true rfl) ⟨Nat.le_of_ble_eq_true rfl, Nat.le_of_ble_eq_true rfl⟩ ?_
  refine w_ifb_ne 16 dX10_lowest_7 (by decide) (fun hb => ?_) (fun hb => ?_)
  · refine w_iload_n dX10_lowest_16 rfl rfl ?_
    refine x_iret rfl rfl dX10_lowest_17 ⟨?_, rfl⟩
    by_cases hkt : k < t
    · rw [h3 k hkt] at hb; cases hb
    · rw [show k = t by omega]
  · refine w_iinc (lv' := [_, _, _]) dX10_lowest_10 rfl rfl rfl ?_
    refine w_goto 2 dX10_lowest_13 (by decide) ?_
    by_cases hkt : k < t
    · exact ih hkt
    · rw [show k = t by omega] at hb; exact absurd h2 hb
theorem c_bits {r : Nat} {A : Nat → Int} {ia : Nat → Nat → Int} {la : Nat → Nat → BitVec 64} {fi : Nat → Int} {fl : Nat → BitVec 64} {h0 : HP} : sp mX10_bits [.ref r] (RH r A ia la fi fl h0) 0 0 (pd (some (.int (zI (A 3 * A 5)))) (RH r A ia la fi fl h0)) := by
  refine sp_wp rfl (lv := [_]) rfl (Nat.le_of_ble_eq_true rfl) ?_
  refine w_aload_n dX10_bits_0 rfl rfl ?_
  refine w_getf fX10_7 dX10_bits_1 RH0 rfl ?_
  refine w_iconst dX10_bits_4 ?_
  refine w_iald 3 RH1 rfl (by decide) (by decide) dX10_bits_5 ?_
  refine w_aload_n dX10_bits_6 rfl rfl ?_
  refine w_getf fX10_7 dX10_bits_7 RH0 rfl ?_
  refine w_iconst dX10_bits_10 ?_
  refine w_iald 5 RH1 rfl (by decide) (by decide) dX10_bits_11 ?_
  refine w_imul dX10_bits_12 ?_
  refine x_iret rfl rfl dX10_bits_13 ?_
  exact ⟨rfl, rfl⟩
theorem c_checks {r : Nat} {A : Nat → Int} {ia : Nat → Nat → Int} {la : Nat → Nat → BitVec 64} {fi : Nat → Int} {fl : Nat → BitVec 64} {h0 : HP} : sp mX10_checks [.ref r] (RH r A ia la fi fl h0) 0 0 (pd (some (.int (zI (A 3 * A 4)))) (RH r A ia la fi fl h0)) := by
  refine sp_wp rfl (lv := [_]) rfl (Nat.le_of_ble_eq_true rfl) ?_
  refine w_aload_n dX10_checks_0 rfl rfl ?_
  refine w_getf fX10_7 dX10_checks_1 RH0 rfl ?_
  refine w_iconst dX10_checks_4 ?_
  refine w_iald 3 RH1 rfl (by decide) (by decide) dX10_checks_5 ?_
  refine w_aload_n dX10_checks_6 rfl rfl ?_
  refine w_getf fX10_7 dX10_checks_7 RH0 rfl ?_
  refine w_iconst dX10_checks_10 ?_
  refine w_iald 4 RH1 rfl (by decide) (by decide) dX10_checks_11 ?_
  refine w_imul dX10_checks_12 ?_
  refine x_iret rfl rfl dX10_checks_13 ?_
  exact ⟨rfl, rfl⟩

