/-! the class: its static helpers -/
theorem c9_isMany {z : Int} {h : HP} (hz : ok32 z) : sp mX9_isMany [.int (zI z)] h 0 0 (pd (some (.int (zI (bI (1 ≤ z ∧ z ≤ 4))))) h) := by
  refine sp_wp rfl (lv := [_]) rfl (Nat.le_of_ble_eq_true rfl) ?_
  refine w_iload_n dX9_isMany_0 rfl rfl ?_
  refine w_iconst dX9_isMany_1 ?_
  refine w_icmp_lt 14 dX9_isMany_2 (by decide) (by first | assumption | (unfold ok32 at *; omega)) (by first | assumption | (unfold ok32 at *; omega)) (fun h1 => ?_) (fun h1 => ?_)
  · refine w_iconst dX9_isMany_14 ?_
    refine x_iret rfl (by first | rfl | exact bI_nar _) dX9_isMany_15 ⟨?_, rfl⟩
    rw [bI_f (by omega)]
  · refine w_iload_n dX9_isMany_5 rfl rfl ?_
    refine w_iconst dX9_isMany_6 ?_
    refine w_icmp_gt 14 dX9_isMany_7 (by decide) (by first | assumption | (unfold ok32 at *; omega)) (by first | assumption | (unfold ok32 at *; omega)) (fun h2 => ?_) (fun h2 => ?_)
    · refine w_iconst dX9_isMany_14 ?_
      refine x_iret rfl (by first | rfl | exact bI_nar _) dX9_isMany_15 ⟨?_, rfl⟩
      rw [bI_f (by omega)]
    · refine w_iconst dX9_isMany_10 ?_
      refine w_goto 15 dX9_isMany_11 (by decide) ?_
      refine x_iret rfl (by first | rfl | exact bI_nar _) dX9_isMany_15 ⟨?_, rfl⟩
      rw [bI_t (by omega)]
theorem c9_isLevel {z : Int} {h : HP} (hz : ok32 z) : sp mX9_isLevel [.int (zI z)] h 0 0 (pd (some (.int (zI (bI (1 ≤ z ∧ z ≤ 31))))) h) := by
  refine sp_wp rfl (lv := [_]) rfl (Nat.le_of_ble_eq_true rfl) ?_
  refine w_iload_n dX9_isLevel_0 rfl rfl ?_
  refine w_iconst dX9_isLevel_1 ?_
  refine w_icmp_lt 15 dX9_isLevel_2 (by decide) (by first | assumption | (unfold ok32 at *; omega)) (by first | assumption | (unfold ok32 at *; omega)) (fun h1 => ?_) (fun h1 => ?_)
  · refine w_iconst dX9_isLevel_15 ?_
    refine x_iret rfl (by first | rfl | exact bI_nar _) dX9_isLevel_16 ⟨?_, rfl⟩
    rw [bI_f (by omega)]
  · refine w_iload_n dX9_isLevel_5 rfl rfl ?_
    refine w_bipush dX9_isLevel_6 (by decide) ?_
    refine w_icmp_gt 15 dX9_isLevel_8 (by decide) (by first | assumption | (unfold ok32 at *; omega)) (by first | assumption | (unfold ok32 at *; omega)) (fun h2 => ?_) (fun h2 => ?_)
    · refine w_iconst dX9_isLevel_15 ?_
      refine x_iret rfl (by first | rfl | exact bI_nar _) dX9_isLevel_16 ⟨?_, rfl⟩
      rw [bI_f (by omega)]
    · refine w_iconst dX9_isLevel_11 ?_
      refine w_goto 16 dX9_isLevel_12 (by decide) ?_
      refine x_iret rfl (by first | rfl | exact bI_nar _) dX9_isLevel_16 ⟨?_, rfl⟩
      rw [bI_t (by omega)]
theorem c9_isSpoil {z : Int} {h : HP} (hz : ok32 z) : sp mX9_isSpoil [.int (zI z)] h 0 0 (pd (some (.int (zI (bI (0 ≤ z ∧ z ≤ 100))))) h) := by
  refine sp_wp rfl (lv := [_]) rfl (Nat.le_of_ble_eq_true rfl) ?_
  refine w_iload_n dX9_isSpoil_0 rfl rfl ?_
  refine w_if_lt 14 dX9_isSpoil_1 (by decide) (by first | assumption | (unfold ok32 at *; omega)) (fun h1 => ?_) (fun h1 => ?_)
  · refine w_iconst dX9_isSpoil_14 ?_
    refine x_iret rfl (by first | rfl | exact bI_nar _) dX9_isSpoil_15 ⟨?_, rfl⟩
    rw [bI_f (by omega)]
  · refine w_iload_n dX9_isSpoil_4 rfl rfl ?_
    refine w_bipush dX9_isSpoil_5 (by decide) ?_
    refine w_icmp_gt 14 dX9_isSpoil_7 (by decide) (by first | assumption | (unfold ok32 at *; omega)) (by first | assumption | (unfold ok32 at *; omega)) (fun h2 => ?_) (fun h2 => ?_)
    · refine w_iconst dX9_isSpoil_14 ?_
      refine x_iret rfl (by first | rfl | exact bI_nar _) dX9_isSpoil_15 ⟨?_, rfl⟩
      rw [bI_f (by omega)]
    · refine w_iconst dX9_isSpoil_10 ?_
      refine w_goto 15 dX9_isSpoil_11 (by decide) ?_
      refine x_iret rfl (by first | rfl | exact bI_nar _) dX9_isSpoil_15 ⟨?_, rfl⟩
      rw [bI_t (by omega)]
theorem c9_isSteps {z : Int} {h : HP} (hz : ok32 z) : sp mX9_isSteps [.int (zI z)] h 0 0 (pd (some (.int (zI (bI (1 ≤ z ∧ z ≤ 80))))) h) := by
  refine sp_wp rfl (lv := [_]) rfl (Nat.le_of_ble_eq_true rfl) ?_
  refine w_iload_n dX9_isSteps_0 rfl rfl ?_
  refine w_iconst dX9_isSteps_1 ?_
  refine w_icmp_lt 15 dX9_isSteps_2 (by decide) (by first | assumption | (unfold ok32 at *; omega)) (by first | assumption | (unfold ok32 at *; omega)) (fun h1 => ?_) (fun h1 => ?_)
  · refine w_iconst dX9_isSteps_15 ?_
    refine x_iret rfl (by first | rfl | exact bI_nar _) dX9_isSteps_16 ⟨?_, rfl⟩
    rw [bI_f (by omega)]
  · refine w_iload_n dX9_isSteps_5 rfl rfl ?_
    refine w_bipush dX9_isSteps_6 (by decide) ?_
    refine w_icmp_gt 15 dX9_isSteps_8 (by decide) (by first | assumption | (unfold ok32 at *; omega)) (by first | assumption | (unfold ok32 at *; omega)) (fun h2 => ?_) (fun h2 => ?_)
    · refine w_iconst dX9_isSteps_15 ?_
      refine x_iret rfl (by first | rfl | exact bI_nar _) dX9_isSteps_16 ⟨?_, rfl⟩
      rw [bI_f (by omega)]
    · refine w_iconst dX9_isSteps_11 ?_
      refine w_goto 16 dX9_isSteps_12 (by decide) ?_
      refine x_iret rfl (by first | rfl | exact bI_nar _) dX9_isSteps_16 ⟨?_, rfl⟩
      rw [bI_t (by omega)]
theorem c9_isLatency {z : Int} {h : HP} (hz : ok32 z) : sp mX9_isLatency [.int (zI z)] h 0 0 (pd (some (.int (zI (bI (1 ≤ z ∧ z ≤ 9))))) h) := by
  refine sp_wp rfl (lv := [_]) rfl (Nat.le_of_ble_eq_true rfl) ?_
  refine w_iload_n dX9_isLatency_0 rfl rfl ?_
  refine w_iconst dX9_isLatency_1 ?_
  refine w_icmp_lt 15 dX9_isLatency_2 (by decide) (by first | assumption | (unfold ok32 at *; omega)) (by first | assumption | (unfold ok32 at *; omega)) (fun h1 => ?_) (fun h1 => ?_)
  · refine w_iconst dX9_isLatency_15 ?_
    refine x_iret rfl (by first | rfl | exact bI_nar _) dX9_isLatency_16 ⟨?_, rfl⟩
    rw [bI_f (by omega)]
  · refine w_iload_n dX9_isLatency_5 rfl rfl ?_
    refine w_bipush dX9_isLatency_6 (by decide) ?_
    refine w_icmp_gt 15 dX9_isLatency_8 (by decide) (by first | assumption | (unfold ok32 at *; omega)) (by first | assumption | (unfold ok32 at *; omega)) (fun h2 => ?_) (fun h2 => ?_)
    · refine w_iconst dX9_isLatency_15 ?_
      refine x_iret rfl (by first | rfl | exact bI_nar _) dX9_isLatency_16 ⟨?_, rfl⟩
      rw [bI_f (by omega)]
    · refine w_iconst dX9_isLatency_11 ?_
      refine w_goto 16 dX9_isLatency_12 (by decide) ?_
      refine x_iret rfl (by first | rfl | exact bI_nar _) dX9_isLatency_16 ⟨?_, rfl⟩
      rw [bI_t (by omega)]
theorem and1_tab : ((List.range 65).all fun n => decide (zI (n : Int) &&& zI 1 = zI ((n % 2 : Nat) : Int))) = true := by decide +kernel
theorem and1 {n : Nat} (h : n ≤ 64) : zI (n : Int) &&& zI 1 = zI ((n % 2 : Nat) : Int) := by
  have := List.all_eq_true.mp and1_tab n (List.mem_range.mpr (by omega))
  simpa using this
theorem c9_isOdd {x : BitVec 64} {h : HP} : sp mX9_isOdd [.long (lB x)] h 0 0 (pd (some (.int (zI (bI (pop x % 2 = 1))))) h) := by
  have hp := pop_le x
  refine sp_wp rfl (lv := [_, _]) rfl (Nat.le_of_ble_eq_true rfl) ?_
  refine w_lload_n dX9_isOdd_0 rfl rfl ?_
  refine wc_S (Z := mJ13_bitCount_95d88) (As := [_]) c_bitCount kJ13_bitCount_95d88 lX9_113 sJ13_bitCount_95d88 dX9_isOdd_1 rfl rfl rfl (Nat.le_of_ble_eq_true rfl) ⟨Nat.le_of_ble_eq_true rfl, Nat.le_of_ble_eq_true rfl⟩ ?_
  refine w_iconst dX9_isOdd_4 ?_
  refine w_iandR dX9_isOdd_5 ?_
  rw [and1 hp]
  refine w_if_eq 13 dX9_isOdd_6 (by decide) (by first | assumption | (unfold ok32 at *; omega)) (fun h1 => ?_) (fun h1 => ?_)
  · refine w_iconst dX9_isOdd_13 ?_
    refine x_iret rfl (by first | rfl | exact bI_nar _) dX9_isOdd_14 ⟨?_, rfl⟩
    rw [bI_f (by omega)]
  · refine w_iconst dX9_isOdd_9 ?_
    refine w_goto 14 dX9_isOdd_10 (by decide) ?_
    refine x_iret rfl (by first | rfl | exact bI_nar _) dX9_isOdd_14 ⟨?_, rfl⟩
    rw [bI_t (by omega)]
theorem pop_low {x : BitVec 64} {t : Nat} (ht : isLow x t) : pop ((x &&& -x) - 1#64) = t := by
  rw [low_eq ht]
  have h1 : ∀ n, n ≤ 64 → pn ((1#64 <<< t) - 1#64).getLsbD n = min n t := by
    intro n
    induction n with
    | zero => intro _; rw [Nat.zero_min]; rfl
    | succ n ih =>
      intro hn
      rw [pn, ih (by omega), bitm ht.1 (by omega)]
      by_cases h : n < t
      · simp [h]; omega
      · simp [h]; omega
  have h2 := h1 64 (Nat.le_refl _)
  have := ht.1
  unfold pop
  omega
theorem c9_lowest {x : BitVec 64} {t : Nat} {h : HP} (ht : isLow x t) : sp mX9_lowest [.long (lB x)] h 0 0 (pd (some (.int (zI (t : Int)))) h) := by
  refine sp_wp rfl (lv := [_, _]) rfl (Nat.le_of_ble_eq_true rfl) ?_
  refine w_lload_n dX9_lowest_0 rfl rfl ?_
  refine w_lload_n dX9_lowest_1 rfl rfl ?_
  refine w_lneg dX9_lowest_2 ?_
  refine w_land dX9_lowest_3 ?_
  refine w_lconst1 dX9_lowest_4 ?_
  refine w_lsub dX9_lowest_5 ?_
  refine wc_S (Z := mJ13_bitCount_95d88) (As := [_]) c_bitCount kJ13_bitCount_95d88 lX9_113 sJ13_bitCount_95d88 dX9_lowest_6 rfl rfl rfl (Nat.le_of_ble_eq_true rfl) ⟨Nat.le_of_ble_eq_true rfl, Nat.le_of_ble_eq_true rfl⟩ ?_
  refine x_iret rfl rfl dX9_lowest_9 ⟨?_, rfl⟩
  rw [pop_low ht]
/-- the bits of a set but the first n -/
def rstB (x : BitVec 64) : Nat → BitVec 64
  | 0 => x
  | n + 1 => rstB x n &&& (rstB x n - 1#64)
theorem pn_mono {f : Nat → Bool} {a b : Nat} (h : a ≤ b) : pn f a ≤ pn f b := by
  induction b with
  | zero => rw [Nat.le_zero.mp h]; exact Nat.le_refl _
  | succ b ih =>
    rcases Nat.lt_or_ge a (b + 1) with h1 | h1
    · refine Nat.le_trans (ih (by omega)) ?_
      show pn f b ≤ pn f b + _
      omega
    · rw [Nat.le_antisymm h h1]; exact Nat.le_refl _
theorem rstB_bit {x : BitVec 64} : ∀ {n : Nat}, ∀ i, i < 64 → (rstB x n).getLsbD i = (x.getLsbD i && decide (n ≤ pn x.getLsbD i))
  | 0, i, hi => by simp [rstB]
  | n + 1, i, hi => by
    have ih := @rstB_bit x n
    unfold rstB
    by_cases h0 : rstB x n = 0#64
    · rw [h0]
      have h1 := ih i hi
      rw [h0] at h1
      simp at h1 ⊢
      intro hx
      have := h1 hx
      omega
    · obtain ⟨t, ht1, ht2, ht3⟩ := isLow_ex h0
      rw [clr_bit ht1 hi ht2 ht3, ih i hi]
      have h2 := ih t ht1
      rw [ht2] at h2
      simp at h2
      obtain ⟨hxt, hnt⟩ := h2
      have hEq : pn x.getLsbD t = n := by
        by_cases hlt : n < pn x.getLsbD t
        · exfalso
          -- the last bit below t has rank n or more
          have key : ∀ m, m ≤ 64 → n < pn x.getLsbD m → ∃ j, j < m ∧ x.getLsbD j = true ∧ n ≤ pn x.getLsbD j := by
            intro m
            induction m with
            | zero => intro _ h; exact absurd h (Nat.not_lt_zero _)
            | succ m ihm =>
              intro hm h
              cases hb : x.getLsbD m with
              | true =>
                refine ⟨m, by omega, hb, ?_⟩
                rw [pn, hb] at h
                simp at h
                omega
              | false =>
                rw [pn, hb] at h
                simp at h
                obtain ⟨j, a, b, c⟩ := ihm (by omega) h
                exact ⟨j, by omega, b, c⟩
          obtain ⟨j, a, b, c⟩ := key t (by omega) hlt
          have h3 := ht3 j a
          rw [ih j (by omega), b] at h3
          simp at h3
          omega
        · omega
      by_cases hit : i = t
      · subst hit
        simp [hEq]
      · cases hx : x.getLsbD i with
        | false => simp
        | true =>
          by_cases hi2 : i < t
          · have h3 := ht3 i hi2
            rw [ih i hi, hx] at h3
            simp at h3
            simp [hit]
            omega
          · have h4 : pn x.getLsbD (t + 1) ≤ pn x.getLsbD i := pn_mono (by omega)
            rw [pn, hxt] at h4
            simp at h4
            simp [hit]
            omega
def mbr (x : BitVec 64) (z : Int) (y : Int) : Prop := (z < 0 ∧ y = -1) ∨ ((pop x : Int) ≤ z ∧ y = -1) ∨ ∃ t : Nat, t < 64 ∧ x.getLsbD t = true ∧ (pn x.getLsbD t : Int) = z ∧ y = (t : Int)
theorem nth_ex {x : BitVec 64} {i : Nat} (h : i < pop x) : ∃ t : Nat, t < 64 ∧ x.getLsbD t = true ∧ pn x.getLsbD t = i := by
  have key : ∀ m, i < pn x.getLsbD m → ∃ t : Nat, t < m ∧ x.getLsbD t = true ∧ pn x.getLsbD t = i := by
    intro m
    induction m with
    | zero => intro h; exact absurd h (Nat.not_lt_zero _)
    | succ m ih =>
      intro h
      by_cases h1 : i < pn x.getLsbD m
      · obtain ⟨t, a, b, c⟩ := ih h1
        exact ⟨t, by omega, b, c⟩
      · rw [pn] at h
        cases hb : x.getLsbD m with
        | false => rw [hb] at h; simp at h; omega
        | true => rw [hb] at h; simp at h; exact ⟨m, by omega, hb, by omega⟩
  exact key 64 h
theorem nth_low {x : BitVec 64} {i t : Nat} (ht : t < 64) (hx : x.getLsbD t = true) (hi : pn x.getLsbD t = i) : isLow (rstB x i) t := by
  refine ⟨ht, ?_, fun j hj => ?_⟩
  · rw [rstB_bit t ht, hx]; simp [hi]
  · rw [rstB_bit j (by omega)]
    cases hb : x.getLsbD j with
    | false => rfl
    | true =>
      have h1 : pn x.getLsbD (j + 1) ≤ pn x.getLsbD t := pn_mono (by omega)
      rw [pn, hb] at h1
      simp at h1 ⊢
      omega
theorem c9_memberOf {x : BitVec 64} {z y : Int} {h : HP} (hz : ok32 z) (hy : mbr x z y) : sp mX9_memberOf [.long (lB x), .int (zI z)] h 0 0 (pd (some (.int (zI y))) h) := by
  have hp := pop_le x
  refine sp_wp rfl (lv := [_, _, _, _, _, _]) rfl (Nat.le_of_ble_eq_true rfl) ?_
  refine w_iload_n dX9_memberOf_0 rfl rfl ?_
  refine w_if_lt 12 dX9_memberOf_1 (by decide) (by first | assumption | (unfold ok32 at *; omega)) (fun h1 => ?_) (fun h1 => ?_)
  · refine w_iconst dX9_memberOf_12 ?_
    refine x_iret rfl rfl dX9_memberOf_13 ⟨?_, rfl⟩
    rcases hy with q | q | ⟨t, -, -, q, -⟩
    · rw [q.2]
    · omega
    · omega
  · refine w_iload_n dX9_memberOf_4 rfl rfl ?_
    refine w_lload_n dX9_memberOf_5 rfl rfl ?_
    refine wc_S (Z := mJ13_bitCount_95d88) (As := [_]) c_bitCount kJ13_bitCount_95d88 lX9_113 sJ13_bitCount_95d88 dX9_memberOf_6 rfl rfl rfl (Nat.le_of_ble_eq_true rfl) ⟨Nat.le_of_ble_eq_true rfl, Nat.le_of_ble_eq_true rfl⟩ ?_
    refine w_icmp_lt 14 dX9_memberOf_9 (by decide) (by first | assumption | (unfold ok32 at *; omega)) (by first | assumption | (unfold ok32 at *; omega)) (fun h2 => ?_) (fun h2 => ?_)
    rotate_left
    · refine w_iconst dX9_memberOf_12 ?_
      refine x_iret rfl rfl dX9_memberOf_13 ⟨?_, rfl⟩
      rcases hy with q | q | ⟨t, h64, hx, q, -⟩
      · omega
      · rw [q.2]
      · exfalso
        have : pn x.getLsbD (t + 1) ≤ pop x := pn_mono (by omega)
        rw [pn, hx] at this
        simp at this
        omega
    · obtain ⟨t, h64, hx, q, hyt⟩ : ∃ t : Nat, t < 64 ∧ x.getLsbD t = true ∧ (pn x.getLsbD t : Int) = z ∧ y = (t : Int) := by
        rcases hy with q | q | q
        · omega
        · omega
        · exact q
      subst hyt
      subst q
      refine w_lload_n dX9_memberOf_14 rfl rfl ?_
      refine w_lstore_n (lv' := [_, _, _, _, _, _]) dX9_memberOf_15 rfl (Nat.le_of_ble_eq_true rfl) rfl rfl ?_
      refine w_iconst dX9_memberOf_16 ?_
      refine w_istore (lv' := [_, _, _, _, _, _]) dX9_memberOf_17 (Nat.le_of_ble_eq_true rfl) rfl rfl ?_
      have key : ∀ n, n ≤ pn x.getLsbD t → wp mX9_memberOf 19 [.long (lB x), jk, .int (zI (pn x.getLsbD t : Nat)), .long (lB (rstB x n)), jk, .int (zI (n : Int))] [] h 0 0 (pd (some (.int (zI (t : Int)))) h) := by
        refine up_ind (fun n hn ih => ?_)
        refine w_iload dX9_memberOf_19 rfl ?_
        refine w_iload_n dX9_memberOf_21 rfl rfl ?_
        refine w_icmp_ge 37 dX9_memberOf_22 (by decide) (by first | assumption | (unfold ok32 at *; omega)) (by first | assumption | (unfold ok32 at *; omega)) (fun hc => ?_) (fun hc => ?_)
        · refine w_lload_n dX9_memberOf_37 rfl rfl ?_
          have he : n = pn x.getLsbD t := by omega
          rw [he]
          refine wc_S (Z := mX9_lowest) (As := [_]) (c9_lowest (nth_low h64 hx rfl)) kX9_lowest lX9_374 sX9_lowest dX9_memberOf_38 rfl rfl rfl (Nat.le_of_ble_eq_true rfl) ⟨Nat.le_of_ble_eq_true rfl, Nat.le_of_ble_eq_true rfl⟩ ?_
          exact x_iret rfl rfl dX9_memberOf_41 ⟨rfl, rfl⟩
        · refine w_lload_n dX9_memberOf_25 rfl rfl ?_
          refine w_lload_n dX9_memberOf_26 rfl rfl ?_
          refine w_lconst1 dX9_memberOf_27 ?_
          refine w_lsub dX9_memberOf_28 ?_
          refine w_land dX9_memberOf_29 ?_
          refine w_lstore_n (lv' := [_, _, _, _, _, _]) dX9_memberOf_30 rfl (Nat.le_of_ble_eq_true rfl) rfl rfl ?_
          refine w_iinc (lv' := [_, _, _, _, _, _]) dX9_memberOf_31 rfl rfl rfl ?_
          refine w_goto 19 dX9_memberOf_34 (by decide) ?_
          exact ih (by omega)
      exact key 0 (Nat.zero_le _)
theorem c9_countOrders {R : Nat} {h : HP} (hR : R ≤ 4) : sp mX9_countOrders [.int (zI (R : Int))] h 0 0 (pd (some (.int (zI (fac R : Nat)))) h) := by
  refine sp_wp rfl (lv := [_, _, _]) rfl (Nat.le_of_ble_eq_true rfl) ?_
  refine w_iconst dX9_countOrders_0 ?_
  refine w_istore_n (lv' := [_, _, _]) dX9_countOrders_1 rfl (Nat.le_of_ble_eq_true rfl) rfl rfl ?_
  refine w_iconst dX9_countOrders_2 ?_
  refine w_istore_n (lv' := [_, _, _]) dX9_countOrders_3 rfl (Nat.le_of_ble_eq_true rfl) rfl rfl ?_
  by_cases h0 : R = 0
  · subst h0
    refine w_iload_n dX9_countOrders_4 rfl rfl ?_
    refine w_iload_n dX9_countOrders_5 rfl rfl ?_
    refine w_icmp_gt 19 dX9_countOrders_6 (by decide) (by first | assumption | (unfold ok32 at *; omega)) (by first | assumption | (unfold ok32 at *; omega)) (fun hc => ?_) (fun hc => ?_)
    · refine w_iload_n dX9_countOrders_19 rfl rfl ?_
      exact x_iret rfl rfl dX9_countOrders_20 ⟨rfl, rfl⟩
    · omega
  have key : ∀ k, k ≤ R → 1 ≤ k → wp mX9_countOrders 4 [.int (zI (R : Int)), .int (zI (fac k : Nat)), .int (zI ((k + 1 : Nat) : Int))] [] h 0 0 (pd (some (.int (zI (fac R : Nat)))) h) := by
    refine up_ind (P := fun k => 1 ≤ k → wp mX9_countOrders 4 [.int (zI (R : Int)), .int (zI (fac k : Nat)), .int (zI ((k + 1 : Nat) : Int))] [] h 0 0 (pd (some (.int (zI (fac R : Nat)))) h)) (fun k hk ih h1 => ?_)
    refine w_iload_n dX9_countOrders_4 rfl rfl ?_
    refine w_iload_n dX9_countOrders_5 rfl rfl ?_
    refine w_icmp_gt 19 dX9_countOrders_6 (by decide) (by first | assumption | (unfold ok32 at *; omega)) (by first | assumption | (unfold ok32 at *; omega)) (fun hc => ?_) (fun hc => ?_)
    · refine w_iload_n dX9_countOrders_19 rfl rfl ?_
      refine x_iret rfl rfl dX9_countOrders_20 ⟨?_, rfl⟩
      rw [show k = R by omega]
    · refine w_iload_n dX9_countOrders_9 rfl rfl ?_
      refine w_iload_n dX9_countOrders_10 rfl rfl ?_
      refine w_imul dX9_countOrders_11 ?_
      refine w_istore_n (lv' := [_, _, _]) dX9_countOrders_12 rfl (Nat.le_of_ble_eq_true rfl) rfl rfl ?_
      refine w_iinc (lv' := [_, _, _]) dX9_countOrders_13 rfl rfl rfl ?_
      refine w_goto 4 dX9_countOrders_16 (by decide) ?_
      refine w_cast ?_ rfl rfl (ih (by omega) (by omega))
      rw [show ((fac k : Nat) : Int) * ((k + 1 : Nat) : Int) = ((fac (k + 1) : Nat) : Int) by rw [fac]; push_cast; rw [Int.mul_comm]]
      rfl
  exact key 1 (by omega) (Nat.le_refl _)

