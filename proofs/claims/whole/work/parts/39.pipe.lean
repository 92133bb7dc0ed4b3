/-! columns of a layer as a mask -/
def clN (sh : Nat → Int) (y : Nat) : Nat → Nat
  | 0 => 0
  | j + 1 => if sh (8 * y + j) = -1 then clN sh y j else clN sh y j ||| (1 <<< j)
theorem sset8_tab : ((List.range 256).all fun u => (List.range 8).all fun l => decide (zI (u : Int) ||| zI 1 <<< (zI (l : Int) &&& 31) = zI ((u ||| 1 <<< l : Nat) : Int))) = true := by decide +kernel
theorem sset8 {u l : Nat} (hu : u < 256) (hl : l < 8) : zI (u : Int) ||| zI 1 <<< (zI (l : Int) &&& 31) = zI ((u ||| 1 <<< l : Nat) : Int) := by
  have h := List.all_eq_true.mp sset8_tab u (List.mem_range.mpr hu)
  exact of_decide_eq_true (List.all_eq_true.mp h l (List.mem_range.mpr hl))
def clr (u c : Nat) : Nat := if u.testBit c then u - 2 ^ c else u
theorem clr8_tab : ((List.range 256).all fun u => (List.range 8).all fun l => decide (zI (u : Int) &&& ((zI 1 <<< (zI (l : Int) &&& 31)) ^^^ zI (-1)) = zI ((clr u l : Nat) : Int)) && (decide (clr u l < 256) && (List.range 8).all fun i => ((clr u l).testBit i == (u.testBit i && !decide (i = l))))) = true := by decide +kernel
theorem clr8 {u l : Nat} (hu : u < 256) (hl : l < 8) : zI (u : Int) &&& ((zI 1 <<< (zI (l : Int) &&& 31)) ^^^ zI (-1)) = zI ((clr u l : Nat) : Int) ∧ clr u l < 256 ∧ ∀ i, i < 8 → (clr u l).testBit i = (u.testBit i && !decide (i = l)) := by
  have h := List.all_eq_true.mp clr8_tab u (List.mem_range.mpr hu)
  have h2 := List.all_eq_true.mp h l (List.mem_range.mpr hl)
  rw [Bool.and_eq_true, Bool.and_eq_true] at h2
  refine ⟨of_decide_eq_true h2.1, of_decide_eq_true h2.2.1, fun i hi => ?_⟩
  exact eq_of_beq (List.all_eq_true.mp h2.2.2 i (List.mem_range.mpr hi))
theorem sbit8_tab : ((List.range 256).all fun u => (List.range 8).all fun l => decide (zI (u : Int) >>> (zI (l : Int) &&& 31) &&& zI 1 = zI (bI (u.testBit l = true)))) = true := by decide +kernel
theorem sbit8 {u l : Nat} (hu : u < 256) (hl : l < 8) : zI (u : Int) >>> (zI (l : Int) &&& 31) &&& zI 1 = zI (bI (u.testBit l = true)) := by
  have h := List.all_eq_true.mp sbit8_tab u (List.mem_range.mpr hu)
  exact of_decide_eq_true (List.all_eq_true.mp h l (List.mem_range.mpr hl))
theorem or8_tab : ((List.range 256).all fun u => (List.range 8).all fun l => decide (u ||| 1 <<< l < 256) && ((List.range 8).all fun i => ((u ||| 1 <<< l).testBit i == (u.testBit i || decide (i = l))))) = true := by decide +kernel
theorem or8 {u l : Nat} (hu : u < 256) (hl : l < 8) : u ||| 1 <<< l < 256 ∧ ∀ i, i < 8 → (u ||| 1 <<< l).testBit i = (u.testBit i || decide (i = l)) := by
  have h := List.all_eq_true.mp or8_tab u (List.mem_range.mpr hu)
  have h2 := List.all_eq_true.mp h l (List.mem_range.mpr hl)
  rw [Bool.and_eq_true] at h2
  exact ⟨of_decide_eq_true h2.1, fun i hi => eq_of_beq (List.all_eq_true.mp h2.2 i (List.mem_range.mpr hi))⟩
theorem clN_lt {sh : Nat → Int} {y : Nat} : ∀ {j : Nat}, j ≤ 8 → clN sh y j < 256
  | 0, _ => by unfold clN; omega
  | j + 1, h => by
    have ih := clN_lt (sh := sh) (y := y) (j := j) (by omega)
    unfold clN
    split
    · exact ih
    · exact (or8 ih (by omega)).1
theorem clN_hi {sh : Nat → Int} {y i : Nat} (hi : i < 8) : ∀ {j : Nat}, j ≤ 8 → j ≤ i → (clN sh y j).testBit i = false
  | 0, _, _ => by unfold clN; simp
  | j + 1, h, h2 => by
    have ih := clN_hi (sh := sh) (y := y) hi (j := j) (by omega) (by omega)
    unfold clN
    split
    · exact ih
    · rw [(or8 (clN_lt (by omega)) (by omega)).2 i hi, ih]
      simp; omega
theorem c_columnsOf {r : Nat} {A : Nat → Int} {ia : Nat → Nat → Int} {la : Nat → Nat → BitVec 64} {fi : Nat → Int} {fl : Nat → BitVec 64} {h0 : HP} {L R C : Nat} {y : Nat} (hV : VC A L R C) (hA : ∀ k, ok32 (A k)) (hy : y < 4) : sp mX10_columnsOf [.ref r, .int (zI (y : Int))] (RH r A ia la fi fl h0) 0 0 (pd (some (.int (zI ((clN (shA A) y C : Nat) : Int)))) (RH r A ia la fi fl h0)) := by
  obtain ⟨v1, v2, v3, v4, v5, v6, v7⟩ := id hV
  refine sp_wp rfl (lv := [_, _, _, _]) rfl (Nat.le_of_ble_eq_true rfl) ?_
  refine w_iconst dX10_columnsOf_0 ?_
  refine w_istore_n (lv' := [_, _, _, _]) dX10_columnsOf_1 rfl (Nat.le_of_ble_eq_true rfl) rfl rfl ?_
  refine w_iconst dX10_columnsOf_2 ?_
  refine w_istore_n (lv' := [_, _, _, _]) dX10_columnsOf_3 rfl (Nat.le_of_ble_eq_true rfl) rfl rfl ?_
  refine up_ind (N := C) (P := fun j => wp mX10_columnsOf 4 [.ref r, .int (zI (y : Int)), .int (zI ((clN (shA A) y j : Nat) : Int)), .int (zI (j : Int))] [] (RH r A ia la fi fl h0) 0 0 (pd (some (.int (zI ((clN (shA A) y C : Nat) : Int)))) (RH r A ia la fi fl h0))) (fun j hj ih => ?_) 0 (Nat.zero_le _)
  have hlt := clN_lt (sh := shA A) (y := y) (j := j) (by omega)
  refine w_iload_n dX10_columnsOf_4 rfl rfl ?_
  refine w_aload_n dX10_columnsOf_5 rfl rfl ?_
  refine w_getf fX10_7 dX10_columnsOf_6 RH0 rfl ?_
  refine w_iconst dX10_columnsOf_9 ?_
  refine w_iald 5 RH1 rfl (by decide) (by decide) dX10_columnsOf_10 ?_
  rw [v3]
  refine w_icmp_ge 48 dX10_columnsOf_11 (by decide) (by first | assumption | (unfold ok32 at *; omega)) (by first | assumption | (unfold ok32 at *; omega)) (fun hn => ?_) (fun hn => ?_)
  · refine w_iload_n dX10_columnsOf_48 rfl rfl ?_
    refine x_iret rfl rfl dX10_columnsOf_49 ⟨?_, rfl⟩
    rw [show j = C by omega]
  · have h5 := ih (by omega)
    rw [clN] at h5
    have hs : -1 ≤ A (14 + (8 * y + j)) ∧ A (14 + (8 * y + j)) ≤ 5 := v7 _ (by omega)
    have hsh : shA A (8 * y + j) = A (14 + (8 * y + j)) := rfl
    refine w_iload_n dX10_columnsOf_14 rfl rfl ?_
    refine w_aload_n dX10_columnsOf_15 rfl rfl ?_
    refine w_getf fX10_7 dX10_columnsOf_16 RH0 rfl ?_
    refine w_bipush dX10_columnsOf_19 (by decide) ?_
    refine w_bipush dX10_columnsOf_21 (by decide) ?_
    refine w_iload_n dX10_columnsOf_23 rfl rfl ?_
    refine w_imul dX10_columnsOf_24 ?_
    refine w_iadd dX10_columnsOf_25 ?_
    refine w_iload_n dX10_columnsOf_26 rfl rfl ?_
    refine w_iadd dX10_columnsOf_27 ?_
    refine w_iald (14 + (8 * y + j)) RH1 (by omega) (by omega) (by decide) dX10_columnsOf_28 ?_
    refine w_iconst dX10_columnsOf_29 ?_
    refine w_icmp_ne 37 dX10_columnsOf_30 (by decide) (by first | assumption | (unfold ok32 at *; omega)) (by first | assumption | (unfold ok32 at *; omega)) (fun hc => ?_) (fun hc => ?_)
    · rw [if_neg (by rw [hsh]; exact hc)] at h5
      refine w_iconst dX10_columnsOf_37 ?_
      refine w_iload_n dX10_columnsOf_38 rfl rfl ?_
      refine w_ishlR dX10_columnsOf_39 ?_
      refine w_iorR dX10_columnsOf_40 ?_
      rw [sset8 hlt (by omega)]
      refine w_istore_n (lv' := [_, _, _, _]) dX10_columnsOf_41 rfl (Nat.le_of_ble_eq_true rfl) rfl rfl ?_
      refine w_iinc (lv' := [_, _, _, _]) dX10_columnsOf_42 rfl rfl rfl ?_
      refine w_goto 4 dX10_columnsOf_45 (by decide) ?_
      exact h5
    · rw [if_pos (by rw [hsh]; exact hc)] at h5
      refine w_iconst dX10_columnsOf_33 ?_
      refine w_goto 40 dX10_columnsOf_34 (by decide) ?_
      refine w_iorR dX10_columnsOf_40 ?_
      rw [show zI ((clN (shA A) y j : Nat) : Int) ||| zI 0 = zI ((clN (shA A) y j : Nat) : Int) from Int32.or_zero]
      refine w_istore_n (lv' := [_, _, _, _]) dX10_columnsOf_41 rfl (Nat.le_of_ble_eq_true rfl) rfl rfl ?_
      refine w_iinc (lv' := [_, _, _, _]) dX10_columnsOf_42 rfl rfl rfl ?_
      refine w_goto 4 dX10_columnsOf_45 (by decide) ?_
      exact h5
/-- the lowest column that is ready -/
def rdN (u : Nat) (q : Nat → Int) (s t : Int) (C : Nat) : Nat → Int
  | 0 => -1
  | d + 1 => if u.testBit (C - (d + 1)) = true ∧ (q (C - (d + 1)) = -1 ∨ t ≤ s - q (C - (d + 1))) then ((C - (d + 1) : Nat) : Int) else rdN u q s t C d
theorem rdN_rng {u : Nat} {q : Nat → Int} {s t : Int} {C : Nat} : ∀ {d : Nat}, d ≤ C → rdN u q s t C d = -1 ∨ ∃ c, c < C ∧ rdN u q s t C d = (c : Int) ∧ u.testBit c = true
  | 0, _ => Or.inl rfl
  | d + 1, h => by
    unfold rdN
    split
    · rename_i hc
      exact Or.inr ⟨C - (d + 1), by omega, rfl, hc.1⟩
    · exact rdN_rng (by omega)
theorem rdN_no {u : Nat} {q : Nat → Int} {s t : Int} {C : Nat} : ∀ {d : Nat}, d ≤ C → rdN u q s t C d = -1 → ∀ c, C - d ≤ c → c < C → u.testBit c = true → ¬ (q c = -1 ∨ t ≤ s - q c)
  | 0, _, _, c, h1, h2, _ => by omega
  | d + 1, h, h0, c, h1, h2, h3 => by
    unfold rdN at h0
    split at h0
    · omega
    · rename_i hc
      by_cases he : c = C - (d + 1)
      · intro z
        exact hc ⟨by rw [← he]; exact h3, by rw [← he]; exact z⟩
      · exact rdN_no (by omega) h0 c (by omega) h2 h3
theorem c_readyAt {r : Nat} {A : Nat → Int} {ia : Nat → Nat → Int} {la : Nat → Nat → BitVec 64} {fi : Nat → Int} {fl : Nat → BitVec 64} {h0 : HP} {L R C : Nat} {u : Nat} {s t : Int} (hV : VC A L R C) (hu : u < 256) (hs : 0 ≤ s ∧ s ≤ 10000) (ht : 1 ≤ t ∧ t ≤ 9) (hq : ∀ c, c < 8 → -1 ≤ ia 11 c ∧ ia 11 c ≤ 10000) : sp mX10_readyAt [.ref r, .int (zI (u : Int)), .int (zI s), .int (zI t)] (RH r A ia la fi fl h0) 0 0 (pd (some (.int (zI (rdN u (ia 11) s t C C)))) (RH r A ia la fi fl h0)) := by
  obtain ⟨v1, v2, v3, v4, v5, v6, v7⟩ := id hV
  obtain ⟨V0, hV0⟩ : ∃ V0, rdN u (ia 11) s t C C = V0 := ⟨_, rfl⟩
  rw [hV0]
  refine sp_wp rfl (lv := [_, _, _, _, _]) rfl (Nat.le_of_ble_eq_true rfl) ?_
  refine w_iconst dX10_readyAt_0 ?_
  refine w_istore (lv' := [_, _, _, _, _]) dX10_readyAt_1 (Nat.le_of_ble_eq_true rfl) rfl rfl ?_
  have key : ∀ d : Nat, d ≤ C → rdN u (ia 11) s t C d = V0 → wp mX10_readyAt 3 [.ref r, .int (zI (u : Int)), .int (zI s), .int (zI t), .int (zI ((C - d : Nat) : Int))] [] (RH r A ia la fi fl h0) 0 0 (pd (some (.int (zI V0))) (RH r A ia la fi fl h0)) := by
    intro d
    induction d with
    | zero =>
      intro _ hv
      refine w_iload dX10_readyAt_3 rfl ?_
      refine w_aload_n dX10_readyAt_5 rfl rfl ?_
      refine w_getf fX10_7 dX10_readyAt_6 RH0 rfl ?_
      refine w_iconst dX10_readyAt_9 ?_
      refine w_iald 5 RH1 rfl (by decide) (by decide) dX10_readyAt_10 ?_
      rw [v3]
      refine w_icmp_ge 57 dX10_readyAt_11 (by decide) (by first | assumption | (unfold ok32 at *; omega)) (by first | assumption | (unfold ok32 at *; omega)) (fun hn => ?_) (fun hn => ?_)
      · refine w_iconst dX10_readyAt_57 ?_
        refine x_iret rfl rfl dX10_readyAt_58 ⟨?_, rfl⟩
        rw [← hv]
        rfl
      · omega
    | succ d ih =>
      intro hd hv
      unfold rdN at hv
      have hqc := hq (C - (d + 1)) (by omega)
      have next : wp mX10_readyAt 51 [.ref r, .int (zI (u : Int)), .int (zI s), .int (zI t), .int (zI ((C - (d + 1) : Nat) : Int))] [] (RH r A ia la fi fl h0) 0 0 (pd (some (.int (zI V0))) (RH r A ia la fi fl h0)) ∨ (u.testBit (C - (d + 1)) = true ∧ (ia 11 (C - (d + 1)) = -1 ∨ t ≤ s - ia 11 (C - (d + 1)))) := by
        by_cases hc : u.testBit (C - (d + 1)) = true ∧ (ia 11 (C - (d + 1)) = -1 ∨ t ≤ s - ia 11 (C - (d + 1)))
        · exact Or.inr hc
        · rw [if_neg hc] at hv
          refine Or.inl ?_
          refine w_iinc (lv' := [_, _, _, _, _]) dX10_readyAt_51 rfl rfl rfl ?_
          refine w_goto 3 dX10_readyAt_54 (by decide) ?_
          rw [show ((C - (d + 1) : Nat) : Int) + 1 = ((C - d : Nat) : Int) by omega]
          exact ih (by omega) hv
      have found : (u.testBit (C - (d + 1)) = true ∧ (ia 11 (C - (d + 1)) = -1 ∨ t ≤ s - ia 11 (C - (d + 1)))) → wp mX10_readyAt 48 [.ref r, .int (zI (u : Int)), .int (zI s), .int (zI t), .int (zI ((C - (d + 1) : Nat) : Int))] [] (RH r A ia la fi fl h0) 0 0 (pd (some (.int (zI V0))) (RH r A ia la fi fl h0)) := by
        intro hc
        rw [if_pos hc] at hv
        refine w_iload dX10_readyAt_48 rfl ?_
        refine x_iret rfl rfl dX10_readyAt_50 ⟨?_, rfl⟩
        rw [hv]
      refine w_iload dX10_readyAt_3 rfl ?_
      refine w_aload_n dX10_readyAt_5 rfl rfl ?_
      refine w_getf fX10_7 dX10_readyAt_6 RH0 rfl ?_
      refine w_iconst dX10_readyAt_9 ?_
      refine w_iald 5 RH1 rfl (by decide) (by decide) dX10_readyAt_10 ?_
      rw [v3]
      refine w_icmp_ge 57 dX10_readyAt_11 (by decide) (by first | assumption | (unfold ok32 at *; omega)) (by first | assumption | (unfold ok32 at *; omega)) (fun hn => ?_) (fun hn => ?_)
      · omega
      · refine w_iload_n dX10_readyAt_14 rfl rfl ?_
        refine w_iload dX10_readyAt_15 rfl ?_
        refine w_ishrR dX10_readyAt_17 ?_
        refine w_iconst dX10_readyAt_18 ?_
        refine w_iandR dX10_readyAt_19 ?_
        rw [sbit8 hu (by omega)]
        refine w_iconst dX10_readyAt_20 ?_
        refine w_icmp_ne 51 dX10_readyAt_21 (by decide) (bI_ok _) (by unfold ok32; omega) (fun hb => ?_) (fun hb => ?_)
        · refine next.resolve_right (fun q => hb ?_)
          rw [bI_t q.1]
        · have hb2 : u.testBit (C - (d + 1)) = true := by
            refine Classical.byContradiction fun z => ?_
            rw [bI_f z] at hb
            omega
          refine w_aload_n dX10_readyAt_24 rfl rfl ?_
          refine w_getf fX10_48 dX10_readyAt_25 RH0 rfl ?_
          refine w_iload dX10_readyAt_28 rfl ?_
          refine w_iald (C - (d + 1)) RH11 rfl (by omega) (by decide) dX10_readyAt_30 ?_
          refine w_iconst dX10_readyAt_31 ?_
          refine w_icmp_eq 48 dX10_readyAt_32 (by decide) (by first | assumption | (unfold ok32 at *; omega)) (by first | assumption | (unfold ok32 at *; omega)) (fun h1 => ?_) (fun h1 => ?_)
          · exact found ⟨hb2, Or.inl h1⟩
          · refine w_iload_n dX10_readyAt_35 rfl rfl ?_
            refine w_aload_n dX10_readyAt_36 rfl rfl ?_
            refine w_getf fX10_48 dX10_readyAt_37 RH0 rfl ?_
            refine w_iload dX10_readyAt_40 rfl ?_
            refine w_iald (C - (d + 1)) RH11 rfl (by omega) (by decide) dX10_readyAt_42 ?_
            refine w_isub dX10_readyAt_43 ?_
            refine w_iload_n dX10_readyAt_44 rfl rfl ?_
            refine w_icmp_lt 51 dX10_readyAt_45 (by decide) (by first | assumption | (unfold ok32 at *; omega)) (by first | assumption | (unfold ok32 at *; omega)) (fun h3 => ?_) (fun h3 => ?_)
            · exact next.resolve_right (fun q => by omega)
            · exact found ⟨hb2, Or.inr (by omega)⟩
  have h6 := key C (Nat.le_refl _) hV0
  rw [Nat.sub_self] at h6
  exact h6
/-! the pipe -/
abbrev PS : Type := Nat × (Nat → Int) × Nat
def lyF (t : Int) (C : Nat) : Nat → Nat → PS → PS
  | 0, _, x => x
  | f + 1, u, x => if u = 0 then x else if rdN u x.2.1 (x.1 : Int) t C C = -1 then lyF t C f u (x.1 + 1, x.2.1, x.2.2 + 1) else lyF t C f (clr u (rdN u x.2.1 (x.1 : Int) t C C).toNat) (x.1 + 1, u1 x.2.1 (rdN u x.2.1 (x.1 : Int) t C C).toNat (x.1 : Int), x.2.2)
def rwF (sh : Nat → Int) (R C o : Nat) (t : Int) : Nat → PS → PS
  | 0, x => x
  | k + 1, x => lyF t C 100 (clN sh (lay R o k) C) (rwF sh R C o t k x)
abbrev PX : Type := Nat × (Nat → Int) × Nat × Nat
def swF (sh : Nat → Int) (R C o : Nat) (t : Int) : Nat → PX
  | 0 => (0, fun _ => -1, 0, 0)
  | s + 1 => ((rwF sh R C o t R ((swF sh R C o t s).1, (swF sh R C o t s).2.1, 0)).1, (rwF sh R C o t R ((swF sh R C o t s).1, (swF sh R C o t s).2.1, 0)).2.1, (rwF sh R C o t R ((swF sh R C o t s).1, (swF sh R C o t s).2.1, 0)).1 - (swF sh R C o t s).1, (rwF sh R C o t R ((swF sh R C o t s).1, (swF sh R C o t s).2.1, 0)).2.2)
def PQ (x : PS) : Prop := ∀ c, c < 8 → -1 ≤ x.2.1 c ∧ x.2.1 c < (x.1 : Int)
theorem mask0 {u : Nat} (hu : u < 256) (h : ∀ i, i < 8 → u.testBit i = false) : u = 0 := by
  apply Nat.eq_of_testBit_eq
  intro i
  rw [Nat.zero_testBit]
  by_cases hi : i < 8
  · exact h i hi
  · exact Nat.testBit_lt_two_pow (Nat.lt_of_lt_of_le hu (show 256 ≤ 2 ^ i from Nat.pow_le_pow_right (n := 2) (by omega) (show 8 ≤ i by omega)))
theorem mask1 {u : Nat} (hu : u < 256) (h : ¬ u = 0) : ∃ i, i < 8 ∧ u.testBit i = true := by
  refine Classical.byContradiction fun z => h (mask0 hu (fun i hi => ?_))
  cases hb : u.testBit i with
  | false => rfl
  | true => exact absurd ⟨i, hi, hb⟩ z
set_option maxRecDepth 4000 in
theorem c_pipeNow_in {r : Nat} {A : Nat → Int} {ia : Nat → Nat → Int} {la : Nat → Nat → BitVec 64} {fi : Nat → Int} {fl : Nat → BitVec 64} {h0 : HP} {L R C : Nat} {o : Nat} {t : Int} {x4 x5 x6 : Value} {x7 : Int32} {Φ : Option Value → HP → Prop} (hV : VC A L R C) (ht : 1 ≤ t ∧ t ≤ 9) (X : PS) (K : ∀ (q : Nat → Int) (x9 : Value), (∀ c, c < 8 → q c = X.2.1 c) → wp mX10_pipeNow 133 [.ref r, .int (zI (o : Int)), .int (zI t), .int (zI (X.1 : Int)), x4, x5, x6, .int x7, .int (zI 0), x9] [] (RH r A (u1 ia 11 q) la (u1 fi 26 ((X.2.2 : Nat) : Int)) fl h0) 0 0 Φ) : ∀ (f u w : Nat) (x : PS) (q : Nat → Int) (x9 : Value), u < 256 → (∀ i, i < 8 → u.testBit i = true → i < C) → w ≤ 9 → (u = 0 ∨ ∃ c, c < C ∧ u.testBit c = true ∧ x.2.1 c + t ≤ (x.1 : Int) + w) → 10 * pn u.testBit 8 + w < f → PQ x → x.1 + f ≤ 5000 → lyF t C f u x = X → (∀ c, c < 8 → q c = x.2.1 c) → wp mX10_pipeNow 74 [.ref r, .int (zI (o : Int)), .int (zI t), .int (zI (x.1 : Int)), x4, x5, x6, .int x7, .int (zI (u : Int)), x9] [] (RH r A (u1 ia 11 q) la (u1 fi 26 ((x.2.2 : Nat) : Int)) fl h0) 0 0 Φ := by
  obtain ⟨v1, v2, v3, v4, v5, v6, v7⟩ := id hV
  intro f
  induction f with
  | zero => intro u w x q x9 _ _ _ _ h; omega
  | succ f ih =>
    intro u w x q x9 hu huC hw hwt hf hP hx hX hq
    unfold lyF at hX
    refine w_iload dX10_pipeNow_74 rfl ?_
    refine w_if_eq 133 dX10_pipeNow_76 (by decide) (by first | assumption | (unfold ok32 at *; omega)) (fun hz => ?_) (fun hz => ?_)
    · have e : u = 0 := by omega
      subst e
      rw [if_pos rfl] at hX
      subst hX
      exact K q x9 hq
    · have hu0 : ¬ u = 0 := by omega
      rw [if_neg hu0] at hX
      have rdq : rdN u q (x.1 : Int) t C C = rdN u x.2.1 (x.1 : Int) t C C := by
        have key : ∀ d, d ≤ C → rdN u q (x.1 : Int) t C d = rdN u x.2.1 (x.1 : Int) t C d := by
          intro d
          induction d with
          | zero => intro _; rfl
          | succ d ihd => intro h; unfold rdN; rw [hq (C - (d + 1)) (by omega), ihd (by omega)]
        exact key C (Nat.le_refl _)
      refine w_aload_n dX10_pipeNow_79 rfl rfl ?_
      refine w_iload dX10_pipeNow_80 rfl ?_
      refine w_iload_n dX10_pipeNow_82 rfl rfl ?_
      refine w_iload_n dX10_pipeNow_83 rfl rfl ?_
      refine wc_V (Z := mX10_readyAt) (As := [_, _, _]) (c_readyAt hV hu (by omega) ht (fun c hc => by rw [u1_s, hq c hc]; have := hP c hc; omega)) RH0 rfl kX10_readyAt lX10_343 iX10_readyAt vX10_readyAt dX10_pipeNow_84 rfl rfl rfl (Nat.le_of_ble_eq_true rfl) ⟨Nat.le_of_ble_eq_true rfl, Nat.le_of_ble_eq_true rfl⟩ ?_
      rw [u1_s, rdq]
      refine w_istore (lv' := [_, _, _, _, _, _, _, _, _, _]) dX10_pipeNow_87 (Nat.le_of_ble_eq_true rfl) rfl rfl ?_
      refine w_iload dX10_pipeNow_89 rfl ?_
      refine w_iconst dX10_pipeNow_91 ?_
      rcases rdN_rng (u := u) (q := x.2.1) (s := (x.1 : Int)) (t := t) (C := C) (d := C) (Nat.le_refl _) with hr | ⟨c, c1, c2, c3⟩
      · rw [if_pos hr] at hX
        rw [hr]
        refine w_icmp_ne 108 dX10_pipeNow_92 (by decide) (by first | assumption | (unfold ok32 at *; omega)) (by first | assumption | (unfold ok32 at *; omega)) (fun hne => ?_) (fun hne => ?_)
        · exact absurd rfl hne
        · obtain ⟨c, c1, c2, c3⟩ := hwt.resolve_left hu0
          have hno := rdN_no (Nat.le_refl _) hr c (by omega) c1 c2
          have hw1 : 1 ≤ w := by
            refine Classical.byContradiction fun z => hno (Or.inr ?_)
            omega
          refine w_aload_n dX10_pipeNow_95 rfl rfl ?_
          refine w_dup dX10_pipeNow_96 rfl ?_
          refine w_getf fX10_337 dX10_pipeNow_97 RH0 rfl ?_
          refine w_iconst dX10_pipeNow_100 ?_
          refine w_iadd dX10_pipeNow_101 ?_
          rw [u1_s, show ((x.2.2 : Nat) : Int) + 1 = ((x.2.2 + 1 : Nat) : Int) by omega]
          refine r_pf26 fX10_337 dX10_pipeNow_102 ?_
          rw [u1_u1]
          refine w_goto 127 dX10_pipeNow_105 (by decide) ?_
          refine w_iinc (lv' := [_, _, _, _, _, _, _, _, _, _]) dX10_pipeNow_127 rfl rfl rfl ?_
          refine w_goto 74 dX10_pipeNow_130 (by decide) ?_
          rw [show ((x.1 : Nat) : Int) + 1 = ((x.1 + 1 : Nat) : Int) by omega]
          refine ih u (w - 1) (x.1 + 1, x.2.1, x.2.2 + 1) q _ hu huC (by omega) (Or.inr ⟨c, c1, c2, ?_⟩) (by omega) (fun c hc => ?_) (by show x.1 + 1 + f ≤ 5000; omega) hX hq
          · show x.2.1 c + t ≤ ((x.1 + 1 : Nat) : Int) + ((w - 1 : Nat) : Int)
            omega
          · have := hP c hc
            show -1 ≤ x.2.1 c ∧ x.2.1 c < ((x.1 + 1 : Nat) : Int)
            omega
      · rw [if_neg (by rw [c2]; omega), c2, Int.toNat_natCast] at hX
        rw [c2]
        obtain ⟨e1, e2, e3⟩ := clr8 hu (show c < 8 by omega)
        refine w_icmp_ne 108 dX10_pipeNow_92 (by decide) (by first | assumption | (unfold ok32 at *; omega)) (by first | assumption | (unfold ok32 at *; omega)) (fun hne => ?_) (fun hne => ?_)
        rotate_left
        · omega
        · refine w_aload_n dX10_pipeNow_108 rfl rfl ?_
          refine w_getf fX10_48 dX10_pipeNow_109 RH0 rfl ?_
          refine w_iload dX10_pipeNow_112 rfl ?_
          refine w_iload_n dX10_pipeNow_114 rfl rfl ?_
          refine r_ist11K c rfl (by omega) dX10_pipeNow_115 ?_
          rw [u1_u1, u1_s]
          refine w_iload dX10_pipeNow_116 rfl ?_
          refine w_iconst dX10_pipeNow_118 ?_
          refine w_iload dX10_pipeNow_119 rfl ?_
          refine w_ishlR dX10_pipeNow_121 ?_
          refine w_iconst dX10_pipeNow_122 ?_
          refine w_ixorR dX10_pipeNow_123 ?_
          refine w_iandR dX10_pipeNow_124 ?_
          rw [e1]
          refine w_istore (lv' := [_, _, _, _, _, _, _, _, _, _]) dX10_pipeNow_125 (Nat.le_of_ble_eq_true rfl) rfl rfl ?_
          refine w_iinc (lv' := [_, _, _, _, _, _, _, _, _, _]) dX10_pipeNow_127 rfl rfl rfl ?_
          refine w_goto 74 dX10_pipeNow_130 (by decide) ?_
          rw [show ((x.1 : Nat) : Int) + 1 = ((x.1 + 1 : Nat) : Int) by omega]
          have hpn : pn u.testBit 8 = pn (clr u c).testBit 8 + 1 := pn_off (t := c) (by omega) c3 (by rw [e3 c (by omega)]; simp) (fun i hi hne => by rw [e3 i hi]; simp [hne])
          have hPn : PQ (x.1 + 1, u1 x.2.1 c (x.1 : Int), x.2.2) := fun i hi => by
            show -1 ≤ u1 x.2.1 c (x.1 : Int) i ∧ u1 x.2.1 c (x.1 : Int) i < ((x.1 + 1 : Nat) : Int)
            by_cases h : i = c
            · subst h; rw [u1_s]; omega
            · rw [u1_n h]; have := hP i hi; omega
          have hsub : ∀ i, i < 8 → (clr u c).testBit i = true → i < C := fun i hi h => by
            rw [e3 i hi] at h
            simp at h
            exact huC i hi h.1
          refine ih (clr u c) 9 (x.1 + 1, u1 x.2.1 c (x.1 : Int), x.2.2) _ _ e2 hsub (by omega) ?_ (by omega) hPn (by show x.1 + 1 + f ≤ 5000; omega) hX (fun i hi => ?_)
          · by_cases h0c : clr u c = 0
            · exact Or.inl h0c
            · obtain ⟨i, i1, i2⟩ := mask1 e2 h0c
              refine Or.inr ⟨i, hsub i i1 i2, i2, ?_⟩
              have := hPn i i1
              show u1 x.2.1 c (x.1 : Int) i + t ≤ ((x.1 + 1 : Nat) : Int) + ((9 : Nat) : Int)
              have h2 : u1 x.2.1 c (x.1 : Int) i < ((x.1 + 1 : Nat) : Int) := this.2
              omega
          · show u1 q c (x.1 : Int) i = u1 x.2.1 c (x.1 : Int) i
            by_cases h : i = c
            · subst h; rw [u1_s, u1_s]
            · rw [u1_n h, u1_n h]; exact hq i hi
theorem lyF_ok {t : Int} {C : Nat} (hC : C ≤ 8) : ∀ {f u : Nat} {x : PS}, PQ x → PQ (lyF t C f u x) ∧ (lyF t C f u x).1 ≤ x.1 + f ∧ x.1 ≤ (lyF t C f u x).1
  | 0, u, x, h => ⟨h, Nat.le_refl _, Nat.le_refl _⟩
  | f + 1, u, x, h => by
    unfold lyF
    split
    · exact ⟨h, by omega, Nat.le_refl _⟩
    · split
      · have := lyF_ok (t := t) (C := C) hC (f := f) (u := u) (x := (x.1 + 1, x.2.1, x.2.2 + 1)) (fun c hc => by
          have := h c hc
          show -1 ≤ x.2.1 c ∧ x.2.1 c < ((x.1 + 1 : Nat) : Int)
          omega)
        refine ⟨this.1, Nat.le_trans this.2.1 ?_, Nat.le_trans ?_ this.2.2⟩
        · show x.1 + 1 + f ≤ x.1 + (f + 1); omega
        · show x.1 ≤ x.1 + 1; omega
      · rename_i hne
        have := lyF_ok (t := t) (C := C) hC (f := f) (u := clr u (rdN u x.2.1 (x.1 : Int) t C C).toNat) (x := (x.1 + 1, u1 x.2.1 (rdN u x.2.1 (x.1 : Int) t C C).toNat (x.1 : Int), x.2.2)) (fun c hc => by
          have := h c hc
          show -1 ≤ u1 x.2.1 (rdN u x.2.1 (x.1 : Int) t C C).toNat (x.1 : Int) c ∧ u1 x.2.1 (rdN u x.2.1 (x.1 : Int) t C C).toNat (x.1 : Int) c < ((x.1 + 1 : Nat) : Int)
          by_cases h2 : c = (rdN u x.2.1 (x.1 : Int) t C C).toNat
          · rw [h2, u1_s]; omega
          · rw [u1_n h2]; omega)
        refine ⟨this.1, Nat.le_trans this.2.1 ?_, Nat.le_trans ?_ this.2.2⟩
        · show x.1 + 1 + f ≤ x.1 + (f + 1); omega
        · show x.1 ≤ x.1 + 1; omega
theorem rwF_ok {sh : Nat → Int} {R C o : Nat} {t : Int} (hC : C ≤ 8) : ∀ {k : Nat} {x : PS}, PQ x → PQ (rwF sh R C o t k x) ∧ (rwF sh R C o t k x).1 ≤ x.1 + 100 * k ∧ x.1 ≤ (rwF sh R C o t k x).1
  | 0, x, h => ⟨h, Nat.le_refl _, Nat.le_refl _⟩
  | k + 1, x, h => by
    have ih := rwF_ok (sh := sh) (R := R) (o := o) (t := t) hC (k := k) h
    have := lyF_ok (t := t) hC (f := 100) (u := clN sh (lay R o k) C) ih.1
    unfold rwF
    exact ⟨this.1, by omega, by omega⟩
theorem swF_ok {sh : Nat → Int} {R C o : Nat} {t : Int} (hC : C ≤ 8) (hR : R ≤ 4) : ∀ {s : Nat}, PQ ((swF sh R C o t s).1, (swF sh R C o t s).2.1, 0) ∧ (swF sh R C o t s).1 ≤ 400 * s
  | 0 => ⟨fun c _ => by show -1 ≤ (-1 : Int) ∧ (-1 : Int) < ((0 : Nat) : Int); omega, Nat.le_refl _⟩
  | s + 1 => by
    have ih := swF_ok (sh := sh) (R := R) (C := C) (o := o) (t := t) hC hR (s := s)
    have := rwF_ok (sh := sh) (R := R) (o := o) (t := t) hC (k := R) ih.1
    refine ⟨this.1, ?_⟩
    have h2 : (rwF sh R C o t R ((swF sh R C o t s).1, (swF sh R C o t s).2.1, 0)).1 ≤ (swF sh R C o t s).1 + 100 * R := this.2.1
    show (rwF sh R C o t R ((swF sh R C o t s).1, (swF sh R C o t s).2.1, 0)).1 ≤ _
    omega

