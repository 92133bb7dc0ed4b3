set_option maxRecDepth 4000 in
theorem c_knot {r : Nat} {A : Nat → Int} {ia : Nat → Nat → Int} {la : Nat → Nat → BitVec 64} {fi : Nat → Int} {fl : Nat → BitVec 64} {h0 : HP} {L R C : Nat} {x : BitVec 64} (hT : TOP A L R C) : sp mX10_knot [.ref r, .long (lB x)] (RH r A ia la fi fl h0) 0 0 (pr (some (.int (zI (bI (x.sshiftRight (L * C) = 0#64 ∧ (1 ≤ pop x ∧ pop x ≤ 4) ∧ dP (kntP (fun b => hgB (cs A L C) b (L * R)) x) = true))))) r A ia fi h0) := by
  obtain ⟨hI, hV, hS, h2⟩ := id hT
  obtain ⟨v1, v2, v3, v4, v5, v6, v7⟩ := id hV
  have h1 : 0 ≤ A 1 ∧ A 1 ≤ 20 := hI 1
  have h20 : 0 ≤ A 2 ∧ A 2 ≤ 20 := hI 2
  have hLCn := mulLe (a := L) (b := C) (x := 6) (y := 8) (by omega) (by omega)
  have hLRn := mulLe (a := L) (b := R) (x := 6) (y := 4) (by omega) (by omega)
  have hLC : (L : Int) * C ≤ 48 := by exact_mod_cast hLCn
  have hLC0 : (0 : Int) ≤ (L : Int) * C := by exact_mod_cast Nat.zero_le (L * C)
  have hLR : (L : Int) * R ≤ 24 := by exact_mod_cast hLRn
  have hLR0 : (0 : Int) ≤ (L : Int) * R := by exact_mod_cast Nat.zero_le (L * R)
  have hpl := pop_le x
  refine sp_wp rfl (lv := [_, _, _]) rfl (Nat.le_of_ble_eq_true rfl) ?_
  refine w_aload_n dX10_knot_0 rfl rfl ?_
  refine wx_Vv (Z := mX10_laySets) (As := []) (c_laySets hV) RH0 rfl kX10_laySets lX10_280 iX10_laySets vX10_laySets dX10_knot_1 rfl rfl rfl (Nat.le_of_ble_eq_true rfl) ⟨Nat.le_of_ble_eq_true rfl, Nat.le_of_ble_eq_true rfl⟩ (fun q hq => ?_)
  refine w_aload_n dX10_knot_4 rfl rfl ?_
  refine w_lload_n dX10_knot_5 rfl rfl ?_
  refine wc_V (Z := mX10_isSet) (As := [_]) (c_isSet hV) RH0 rfl kX10_isSet lX10_273 iX10_isSet vX10_isSet dX10_knot_6 rfl rfl rfl (Nat.le_of_ble_eq_true rfl) ⟨Nat.le_of_ble_eq_true rfl, Nat.le_of_ble_eq_true rfl⟩ ?_
  refine w_ifb_eq 36 dX10_knot_9 (by decide) (fun h1 => ?_) (fun h1 => ?_)
  · refine w_iconst dX10_knot_36 ?_
    refine x_iret rfl (by rfl) dX10_knot_37 (pr_end ?_ rfl rfl rfl rfl rfl rfl rfl)
    rw [bI_f (fun z => h1 z.1)]
  · refine w_lload_n dX10_knot_12 rfl rfl ?_
    refine wc_S (Z := mX10_many) (As := [_]) c_many kX10_many lX10_87 sX10_many dX10_knot_13 rfl rfl rfl (Nat.le_of_ble_eq_true rfl) ⟨Nat.le_of_ble_eq_true rfl, Nat.le_of_ble_eq_true rfl⟩ ?_
    refine w_iconst dX10_knot_16 ?_
    refine w_iconst dX10_knot_17 ?_
    refine wc_S (Z := mX10_isIn) (As := [_, _, _]) (c_isIn (by first | assumption | (unfold ok32 at *; omega)) (by first | assumption | (unfold ok32 at *; omega)) (by first | assumption | (unfold ok32 at *; omega))) kX10_isIn lX10_70 sX10_isIn dX10_knot_18 rfl rfl rfl (Nat.le_of_ble_eq_true rfl) ⟨Nat.le_of_ble_eq_true rfl, Nat.le_of_ble_eq_true rfl⟩ ?_
    refine w_ifb_eq 36 dX10_knot_21 (by decide) (fun h3 => ?_) (fun h3 => ?_)
    · refine w_iconst dX10_knot_36 ?_
      refine x_iret rfl (by rfl) dX10_knot_37 (pr_end ?_ rfl rfl rfl rfl rfl rfl rfl)
      rw [bI_f (fun z => h3 ⟨by omega, by omega⟩)]
    · refine w_aload_n dX10_knot_24 rfl rfl ?_
      refine w_lload_n dX10_knot_25 rfl rfl ?_
      have hx : ∀ i, x.getLsbD i = true → i < L * C := by
        intro i hi
        refine Classical.byContradiction fun hn => ?_
        have h5 : i < 64 := by
          refine Classical.byContradiction fun h => ?_
          rw [BitVec.getLsbD_of_ge _ _ (by omega)] at hi
          cases hi
        have h6 : (x.sshiftRight (L * C)).getLsbD (i - L * C) = true := by
          rw [BitVec.getLsbD_sshiftRight, if_pos (by omega), show L * C + (i - L * C) = i by omega, hi]
          simp
          omega
        rw [h1] at h6
        simp at h6
      refine wc_V (Z := mX10_isKnot) (As := [_]) (@c_isKnot _ _ _ _ _ _ _ L R C x (Classical.propDecidable _) hq.2 hLCn hx) RH0 rfl kX10_isKnot lX10_277 iX10_isKnot vX10_isKnot dX10_knot_26 rfl rfl rfl (Nat.le_of_ble_eq_true rfl) ⟨Nat.le_of_ble_eq_true rfl, Nat.le_of_ble_eq_true rfl⟩ ?_
      refine @w_ifb_eq _ _ _ _ _ _ _ _ (kntP (fun b => hgB (cs A L C) b (L * R)) x) (Classical.propDecidable _) _ 36 dX10_knot_29 (by decide) (fun hk => ?_) (fun hk => ?_)
      · refine w_iconst dX10_knot_36 ?_
        refine x_iret rfl (by rfl) dX10_knot_37 (pr_end ?_ rfl rfl rfl rfl rfl rfl rfl)
        rw [bI_f (fun z => hk (dP_iff.mp z.2.2))]
      · refine w_iconst dX10_knot_32 ?_
        refine w_goto 37 dX10_knot_33 (by decide) ?_
        refine x_iret rfl (by rfl) dX10_knot_37 (pr_end ?_ rfl rfl rfl rfl rfl rfl rfl)
        rw [bI_t ⟨h1, ⟨by omega, by omega⟩, dP_iff.mpr hk⟩]
/-- the least knots of so many bits -/
noncomputable def lkL (M : Nat → BitVec 32) (n k : Nat) : List (BitVec 64) := (cm n 0 k 0#64).filter (fun x => dP (lstP M x))
set_option maxRecDepth 4000 in
theorem c_least {r : Nat} {A : Nat → Int} {ia : Nat → Nat → Int} {la : Nat → Nat → BitVec 64} {fi : Nat → Int} {fl : Nat → BitVec 64} {h0 : HP} {L R C : Nat} {z x : Int} (hT : TOP A L R C) (hz : ok32 z) (hx : ok32 x) : sp mX10_least [.ref r, .int (zI z), .int (zI x)] (RH r A ia la fi fl h0) 0 0 (pr (some (.long (lB (if (1 ≤ z ∧ z ≤ 4) ∧ 0 ≤ x then ((lkL (fun b => hgB (cs A L C) b (L * R)) (L * C) z.toNat)[x.toNat]?).getD 0#64 else 0#64)))) r A ia fi h0) := by
  obtain ⟨hI, hV, hS, h2⟩ := id hT
  obtain ⟨v1, v2, v3, v4, v5, v6, v7⟩ := id hV
  have h1 : 0 ≤ A 1 ∧ A 1 ≤ 20 := hI 1
  have h20 : 0 ≤ A 2 ∧ A 2 ≤ 20 := hI 2
  have hLCn := mulLe (a := L) (b := C) (x := 6) (y := 8) (by omega) (by omega)
  have hLRn := mulLe (a := L) (b := R) (x := 6) (y := 4) (by omega) (by omega)
  have hLC : (L : Int) * C ≤ 48 := by exact_mod_cast hLCn
  have hLC0 : (0 : Int) ≤ (L : Int) * C := by exact_mod_cast Nat.zero_le (L * C)
  have hLR : (L : Int) * R ≤ 24 := by exact_mod_cast hLRn
  have hLR0 : (0 : Int) ≤ (L : Int) * R := by exact_mod_cast Nat.zero_le (L * R)
  refine sp_wp rfl (lv := [_, _, _, _, _]) rfl (Nat.le_of_ble_eq_true rfl) ?_
  refine w_iload_n dX10_least_0 rfl rfl ?_
  refine w_iconst dX10_least_1 ?_
  refine w_iconst dX10_least_2 ?_
  refine wc_S (Z := mX10_isIn) (As := [_, _, _]) (c_isIn hz (by first | assumption | (unfold ok32 at *; omega)) (by first | assumption | (unfold ok32 at *; omega))) kX10_isIn lX10_70 sX10_isIn dX10_least_3 rfl rfl rfl (Nat.le_of_ble_eq_true rfl) ⟨Nat.le_of_ble_eq_true rfl, Nat.le_of_ble_eq_true rfl⟩ ?_
  refine w_ifb_eq 13 dX10_least_6 (by decide) (fun hc => ?_) (fun hc => ?_)
  · refine w_lconst0 dX10_least_13 ?_
    refine x_lret rfl dX10_least_14 (pr_end ?_ rfl rfl rfl rfl rfl rfl rfl)
    rw [if_neg (fun q => hc q.1)]
  · refine w_iload_n dX10_least_9 rfl rfl ?_
    refine w_if_ge 15 dX10_least_10 (by decide) (by first | assumption | (unfold ok32 at *; omega)) (fun hx0 => ?_) (fun hx0 => ?_)
    rotate_left
    · refine w_lconst0 dX10_least_13 ?_
      refine x_lret rfl dX10_least_14 (pr_end ?_ rfl rfl rfl rfl rfl rfl rfl)
      rw [if_neg (fun q => hx0 q.2)]
    · rw [if_pos ⟨hc, hx0⟩]
      obtain ⟨k, hk⟩ : ∃ k : Nat, z = (k : Int) := ⟨z.toNat, by omega⟩
      subst hk
      obtain ⟨t, ht⟩ : ∃ t : Nat, x = (t : Int) := ⟨x.toNat, by omega⟩
      subst ht
      rw [Int.toNat_natCast, Int.toNat_natCast]
      obtain ⟨V0, hV0⟩ : ∃ V0, ((lkL (fun b => hgB (cs A L C) b (L * R)) (L * C) k)[t]?).getD 0#64 = V0 := ⟨_, rfl⟩
      rw [hV0]
      have key : ∀ (l : List (BitVec 64)) (cnt : Nat) (ia1 : Nat → Nat → Int) (la1 : Nat → Nat → BitVec 64), keep3 ia ia1 → SETS A ia1 la1 L R C → PK (L * C) k (ia1 9) l → cnt ≤ t → (((l.filter (fun x => dP (lstP (fun b => hgB (cs A L C) b (L * R)) x)))[t - cnt]?).getD 0#64) = V0 → wp mX10_least 28 [.ref r, .int (zI (k : Int)), .int (zI (t : Int)), .int (zI (cnt : Int)), .int (zI (bI (¬ l = [])))] [] (RH r A ia1 la1 fi fl h0) 0 0 (pr (some (.long (lB (V0)))) r A ia fi h0) := by
        intro l
        induction l with
        | nil =>
          intro cnt ia1 la1 k3 hS1 hP hct hcnt
          refine w_iload dX10_least_28 rfl ?_
          refine w_ifb_eq 72 dX10_least_30 (by decide) (fun hne => ?_) (fun hne => ?_)
          · refine w_lconst0 dX10_least_72 ?_
            refine x_lret rfl dX10_least_73 (pr_end3 ?_ rfl k3 rfl rfl rfl)
            rw [← hcnt]
            rfl
          · exact absurd rfl hne
        | cons y l ih =>
          intro cnt ia1 la1 k3 hS1 hP hct hcnt
          obtain ⟨p, p1, p2, p3⟩ := hP.resolve_left (List.cons_ne_nil _ _)
          have hn : ∀ i, i < k → p i < L * C := fun i hi => by have := p2 i hi; omega
          have ey : y = pks p k := (List.cons.inj p3).1
          have el : l = rsL (L * C) k p k := (List.cons.inj p3).2
          have hp64 : ∀ i, i < k → p i < 64 := fun i hi => by have := hn i hi; omega
          refine w_iload dX10_least_28 rfl ?_
          refine w_ifb_eq 72 dX10_least_30 (by decide) (fun hne => ?_) (fun hne => ?_)
          · exact absurd (List.cons_ne_nil _ _) hne
          · refine w_aload_n dX10_least_33 rfl rfl ?_
            refine w_aload_n dX10_least_34 rfl rfl ?_
            refine w_iload_n dX10_least_35 rfl rfl ?_
            refine wc_V (Z := mX10_pickedSet) (As := [_]) (c_pickedSet (by omega) p1 hp64) RH0 rfl kX10_pickedSet lX10_292 iX10_pickedSet vX10_pickedSet dX10_least_36 rfl rfl rfl (Nat.le_of_ble_eq_true rfl) ⟨Nat.le_of_ble_eq_true rfl, Nat.le_of_ble_eq_true rfl⟩ ?_
            refine wc_V (Z := mX10_isLeast) (As := [_]) (c_isLeast hS1.2 hLCn (pks_hi (by omega) hn)) RH0 rfl kX10_isLeast lX10_283 iX10_isLeast vX10_isLeast dX10_least_39 rfl rfl rfl (Nat.le_of_ble_eq_true rfl) ⟨Nat.le_of_ble_eq_true rfl, Nat.le_of_ble_eq_true rfl⟩ ?_
            have tail : ∀ cnt2 : Nat, cnt2 ≤ t → (((l.filter (fun x => dP (lstP (fun b => hgB (cs A L C) b (L * R)) x)))[t - cnt2]?).getD 0#64) = V0 → wp mX10_least 62 [.ref r, .int (zI (k : Int)), .int (zI (t : Int)), .int (zI (cnt2 : Int)), .int (zI (bI (¬ y :: l = [])))] [] (RH r A ia1 la1 fi fl h0) 0 0 (pr (some (.long (lB (V0)))) r A ia fi h0) := by
              intro cnt2 hct2 hc2
              refine w_aload_n dX10_least_62 rfl rfl ?_
              refine w_iload_n dX10_least_63 rfl rfl ?_
              refine wx_V (Z := mX10_isNext) (As := [_]) (c_isNext hV (by omega) p1 p2) RH0 rfl kX10_isNext lX10_298 iX10_isNext vX10_isNext dX10_least_64 rfl rfl rfl (Nat.le_of_ble_eq_true rfl) ⟨Nat.le_of_ble_eq_true rfl, Nat.le_of_ble_eq_true rfl⟩ (fun q hq => ?_)
              rw [← el] at hq ⊢
              refine w_istore (lv' := [_, _, _, _, _]) dX10_least_67 (Nat.le_of_ble_eq_true rfl) rfl rfl ?_
              refine w_goto 28 dX10_least_69 (by decide) ?_
              exact ih cnt2 _ _ (k3.u (by omega)) ⟨hS1.1, fun b hb => by rw [u1_n (by omega)]; exact hS1.2 b hb⟩ (by rw [u1_s]; exact hq) hct2 hc2
            refine w_ifb_ne 48 dX10_least_42 (by decide) (fun hd => ?_) (fun hd => ?_)
            · rw [List.filter_cons_of_pos (by rw [ey]; exact hd)] at hcnt
              refine w_iload_n dX10_least_48 rfl rfl ?_
              refine w_iload_n dX10_least_49 rfl rfl ?_
              refine w_icmp_ne 59 dX10_least_50 (by decide) (by first | assumption | (unfold ok32 at *; omega)) (by first | assumption | (unfold ok32 at *; omega)) (fun hct3 => ?_) (fun hct3 => ?_)
              · refine w_iinc (lv' := [_, _, _, _, _]) dX10_least_59 rfl rfl rfl ?_
                refine tail (cnt + 1) (by omega) ?_
                rw [show t - cnt = t - (cnt + 1) + 1 by omega, List.getElem?_cons_succ] at hcnt
                exact hcnt
              · refine w_aload_n dX10_least_53 rfl rfl ?_
                refine w_iload_n dX10_least_54 rfl rfl ?_
                refine wc_V (Z := mX10_pickedSet) (As := [_]) (c_pickedSet (by omega) p1 hp64) RH0 rfl kX10_pickedSet lX10_292 iX10_pickedSet vX10_pickedSet dX10_least_55 rfl rfl rfl (Nat.le_of_ble_eq_true rfl) ⟨Nat.le_of_ble_eq_true rfl, Nat.le_of_ble_eq_true rfl⟩ ?_
                refine x_lret rfl dX10_least_58 (pr_end3 ?_ rfl k3 rfl rfl rfl)
                rw [show t - cnt = 0 by omega, List.getElem?_cons_zero] at hcnt
                rw [← hcnt, ey]
                rfl
            · refine w_goto 62 dX10_least_45 (by decide) ?_
              rw [List.filter_cons_of_neg (by rw [ey]; exact hd)] at hcnt
              exact tail cnt hct hcnt
      refine w_aload_n dX10_least_15 rfl rfl ?_
      refine wx_Vv (Z := mX10_laySets) (As := []) (c_laySets hV) RH0 rfl kX10_laySets lX10_280 iX10_laySets vX10_laySets dX10_least_16 rfl rfl rfl (Nat.le_of_ble_eq_true rfl) ⟨Nat.le_of_ble_eq_true rfl, Nat.le_of_ble_eq_true rfl⟩ (fun q hq => ?_)
      refine w_iconst dX10_least_19 ?_
      refine w_istore_n (lv' := [_, _, _, _, _]) dX10_least_20 rfl (Nat.le_of_ble_eq_true rfl) rfl rfl ?_
      refine w_aload_n dX10_least_21 rfl rfl ?_
      refine w_iload_n dX10_least_22 rfl rfl ?_
      refine wx_V (Z := mX10_isFirst) (As := [_]) (c_isFirst hV (by omega)) RH0 rfl kX10_isFirst lX10_289 iX10_isFirst vX10_isFirst dX10_least_23 rfl rfl rfl (Nat.le_of_ble_eq_true rfl) ⟨Nat.le_of_ble_eq_true rfl, Nat.le_of_ble_eq_true rfl⟩ (fun q2 hq2 => ?_)
      refine w_istore (lv' := [_, _, _, _, _]) dX10_least_26 (Nat.le_of_ble_eq_true rfl) rfl rfl ?_
      refine key _ 0 _ _ ?_ ⟨hq.1, fun b hb => by rw [u1_n (by omega)]; exact hq.2 b hb⟩ (by rw [u1_s]; exact hq2) (Nat.zero_le _) hV0
      exact keep3.u (keep3.u ⟨rfl, rfl, rfl⟩ (by omega)) (by omega)
/-! how a knot ends -/
theorem stpN_n {A : Nat → Int} {L R C k : Nat} (hI : INV A) (hV : VC A L R C) (hS : SCN A R) (hk : k < 3 ∨ 433 ≤ k) : ∀ n, stpN A L R C n k = A k
  | 0 => rfl
  | n + 1 => by
    unfold stpN
    split
    · rename_i h9
      obtain ⟨i1, i2, i3⟩ := stpN_ok hI hV hS n
      rw [stepF_n i1 (i2.vc hV) i3 h9 (by omega) (by omega) (by omega) (by omega)]
      exact stpN_n hI hV hS hk n
    · exact stpN_n hI hV hS hk n
theorem rest_eq {A D : Nat → Int} (h : ∀ k, k < 3 ∨ 433 ≤ k → D k = A k) : fillR D 3 430 (fun k => A (3 + k)) = A := by
  funext k
  unfold fillR
  by_cases hk : 3 ≤ k ∧ k < 3 + 430
  · rw [if_pos hk]; show A (3 + (k - 3)) = A k; rw [show 3 + (k - 3) = k by omega]
  · rw [if_neg hk]; exact h k (by omega)
/-- a knot is heard wrong -/
def hrA (A : Nat → Int) (x : BitVec 64) (lv : Int) (n : Nat) : Nat → Int := fillR A 48 n (fun b => if x.getLsbD b = true then -lv else lv)
theorem hrA_ok {A : Nat → Int} {x : BitVec 64} {lv : Int} {L R C n : Nat} (hT : TOP A L R C) (hl : 1 ≤ lv ∧ lv ≤ 31) (hn : n ≤ 48) : INV (hrA A x lv n) ∧ VC (hrA A x lv n) L R C ∧ TOP (bgA (hrA A x lv n) 0 L R C) L R C := by
  obtain ⟨hI, hV, hS, h2⟩ := hT
  have i1 : INV (hrA A x lv n) := INV.fill hI (fun i hi => by
    rw [loE (by omega), hiE (by omega)]
    by_cases h : x.getLsbD i = true
    · simp only [if_pos h]; omega
    · simp only [if_neg h]; omega)
  have i2 : VC (hrA A x lv n) L R C := hV.of (fun k a b c => fillR_n (by omega))
  have e13 : hrA A x lv n 13 = A 13 := fillR_n (by omega)
  have e2 : hrA A x lv n 2 = A 2 := fillR_n (by omega)
  exact ⟨i1, i2, bgA_top i1 i2 (by rw [e13]; exact hS.1) (by rw [e2]; exact h2) (by omega)⟩
def endD (A : Nat → Int) (L R C : Nat) (x : BitVec 64) (lv : Int) : Nat → Int := stpN (bgA (hrA A x lv (L * C)) 0 L R C) L R C 80
def endV (A : Nat → Int) (L R C : Nat) (x : BitVec 64) (lv : Int) : Int := if endD A L R C x lv 9 = 2 then 2 else if gA (endD A L R C x lv) (L * C) = 0#64 then 0 else 1
set_option maxRecDepth 4000 in
theorem c_endOf {r : Nat} {A : Nat → Int} {ia : Nat → Nat → Int} {la : Nat → Nat → BitVec 64} {fi : Nat → Int} {fl : Nat → BitVec 64} {h0 : HP} {L R C : Nat} {x : BitVec 64} {z : Int} (hT : TOP A L R C) (hz : 1 ≤ z ∧ z ≤ 31) : sp mX10_endOf [.ref r, .long (lB x), .int (zI z)] (RH r A ia la fi fl h0) 0 0 (px (some (.int (zI (endV A L R C x z)))) (fun q : (Nat → Int) × (Nat → Int) => True) (fun q => (RH r A (u1 (u1 ia 7 q.1) 5 q.2) la fi fl h0))) := by
  obtain ⟨hI, hV, hS, h2⟩ := id hT
  obtain ⟨v1, v2, v3, v4, v5, v6, v7⟩ := id hV
  have h1 : 0 ≤ A 1 ∧ A 1 ≤ 20 := hI 1
  have h20 : 0 ≤ A 2 ∧ A 2 ≤ 20 := hI 2
  have hLCn := mulLe (a := L) (b := C) (x := 6) (y := 8) (by omega) (by omega)
  have hLRn := mulLe (a := L) (b := R) (x := 6) (y := 4) (by omega) (by omega)
  have hLC : (L : Int) * C ≤ 48 := by exact_mod_cast hLCn
  have hLC0 : (0 : Int) ≤ (L : Int) * C := by exact_mod_cast Nat.zero_le (L * C)
  have hLR : (L : Int) * R ≤ 24 := by exact_mod_cast hLRn
  have hLR0 : (0 : Int) ≤ (L : Int) * R := by exact_mod_cast Nat.zero_le (L * R)
  obtain ⟨g1, g2, g3⟩ := hrA_ok (x := x) hT hz hLCn
  obtain ⟨t1, t2, t3, t4⟩ := g3
  obtain ⟨s1, s2, s3⟩ := stpN_ok t1 t2 t3 80
  have hres : ∀ k, k < 3 ∨ 433 ≤ k → endD A L R C x z k = A k := fun k hk => by
    unfold endD
    rw [stpN_n t1 t2 t3 hk, bgA_n (by omega) (by omega) (by omega) (by omega) (by omega)]
    exact fillR_n (by omega)
  refine sp_wp rfl (lv := [_, _, _, _, _]) rfl (Nat.le_of_ble_eq_true rfl) ?_
  refine w_aload_n dX10_endOf_0 rfl rfl ?_
  refine wx_Vv (Z := mX10_putAside) (As := []) c_putAside RH0 rfl kX10_putAside lX10_304 iX10_putAside vX10_putAside dX10_endOf_1 rfl rfl rfl (Nat.le_of_ble_eq_true rfl) ⟨Nat.le_of_ble_eq_true rfl, Nat.le_of_ble_eq_true rfl⟩ (fun q hq => ?_)
  refine w_iconst dX10_endOf_4 ?_
  refine w_istore (lv' := [_, _, _, _, _]) dX10_endOf_5 (Nat.le_of_ble_eq_true rfl) rfl rfl ?_
  have key : ∀ b : Nat, b ≤ L * C → wp mX10_endOf 7 [.ref r, .long (lB x), jk, .int (zI z), .int (zI (b : Int))] [] (RH r (hrA A x z b) (u1 ia 7 q) la fi fl h0) 0 0 (px (some (.int (zI (endV A L R C x z)))) (fun q : (Nat → Int) × (Nat → Int) => True) (fun q => (RH r A (u1 (u1 ia 7 q.1) 5 q.2) la fi fl h0))) := by
    refine up_ind (N := L * C) (fun b hb ih => ?_)
    refine w_iload dX10_endOf_7 rfl ?_
    refine w_aload_n dX10_endOf_9 rfl rfl ?_
    refine wc_V (Z := mX10_bits) (As := []) c_bits RH0 rfl kX10_bits lX10_66 iX10_bits vX10_bits dX10_endOf_10 rfl rfl rfl (Nat.le_of_ble_eq_true rfl) ⟨Nat.le_of_ble_eq_true rfl, Nat.le_of_ble_eq_true rfl⟩ ?_
    have e3 : hrA A x z b 3 = A 3 := fillR_n (by omega)
    have e5 : hrA A x z b 5 = A 5 := fillR_n (by omega)
    rw [e3, e5, v1, v3]
    refine w_icmp_ge 47 dX10_endOf_13 (by decide) (by first | assumption | (unfold ok32 at *; omega)) (by first | assumption | (unfold ok32 at *; omega)) (fun hn => ?_) (fun hn => ?_)
    · have eb : b = L * C := by omega
      subst eb
      refine w_aload_n dX10_endOf_47 rfl rfl ?_
      refine w_iconst dX10_endOf_48 ?_
      refine wc_Vv (Z := mX10_beginNow) (As := [_]) (c_beginNow g2 g1.ok (by first | assumption | (unfold ok32 at *; omega))) RH0 rfl kX10_beginNow lX10_54 iX10_beginNow vX10_beginNow dX10_endOf_49 rfl rfl rfl (Nat.le_of_ble_eq_true rfl) ⟨Nat.le_of_ble_eq_true rfl, Nat.le_of_ble_eq_true rfl⟩ ?_
      refine w_aload_n dX10_endOf_52 rfl rfl ?_
      refine w_bipush dX10_endOf_53 (by decide) ?_
      refine wx_V (Z := mX10_stepsNow) (As := [_]) (c_stepsNow (n := 80) t1 t2 t3 (by omega)) RH0 rfl kX10_stepsNow lX10_246 iX10_stepsNow vX10_stepsNow dX10_endOf_55 rfl rfl rfl (Nat.le_of_ble_eq_true rfl) ⟨Nat.le_of_ble_eq_true rfl, Nat.le_of_ble_eq_true rfl⟩ (fun q2 hq2 => ?_)
      refine w_pop dX10_endOf_58 rfl ?_
      refine w_aload_n dX10_endOf_59 rfl rfl ?_
      refine w_getf fX10_7 dX10_endOf_60 RH0 rfl ?_
      refine w_bipush dX10_endOf_63 (by decide) ?_
      refine w_iald 9 RH1 rfl (by decide) (by decide) dX10_endOf_65 ?_
      refine w_iconst dX10_endOf_66 ?_
      have fin : ∀ v : Int, v = endV A L R C x z → wp mX10_endOf 90 [.ref r, .long (lB x), jk, .int (zI z), .int (zI v)] [] (RH r (endD A L R C x z) (u1 (u1 ia 7 q) 5 q2) la fi fl h0) 0 0 (px (some (.int (zI (endV A L R C x z)))) (fun q : (Nat → Int) × (Nat → Int) => True) (fun q => (RH r A (u1 (u1 ia 7 q.1) 5 q.2) la fi fl h0))) := by
        intro v hv
        refine w_aload_n dX10_endOf_90 rfl rfl ?_
        refine wc_Vv (Z := mX10_bringBack) (As := []) (c_bringBack (B := A) (fun k hk => by rw [u1_n (by omega), u1_s]; exact hq k hk)) RH0 rfl kX10_bringBack lX10_307 iX10_bringBack vX10_bringBack dX10_endOf_91 rfl rfl rfl (Nat.le_of_ble_eq_true rfl) ⟨Nat.le_of_ble_eq_true rfl, Nat.le_of_ble_eq_true rfl⟩ ?_
        refine w_iload dX10_endOf_94 rfl ?_
        refine x_iret rfl rfl dX10_endOf_96 ⟨by rw [hv], (q, q2), trivial, ?_⟩
        rw [rest_eq hres]
      have h9 := s1 9
      have l9 : loA 9 = 0 := rfl
      have u9 : hiA 9 = 2 := rfl
      rw [l9, u9] at h9
      refine w_icmp_ne 74 dX10_endOf_67 (by decide) (by first | assumption | (unfold ok32 at *; omega)) (by first | assumption | (unfold ok32 at *; omega)) (fun hc => ?_) (fun hc => ?_)
      · refine w_aload_n dX10_endOf_74 rfl rfl ?_
        refine wc_V (Z := mX10_guessed) (As := []) (c_guessed (s2.vc t2) s1.ok) RH0 rfl kX10_guessed lX10_156 iX10_guessed vX10_guessed dX10_endOf_75 rfl rfl rfl (Nat.le_of_ble_eq_true rfl) ⟨Nat.le_of_ble_eq_true rfl, Nat.le_of_ble_eq_true rfl⟩ ?_
        refine w_lconst0 dX10_endOf_78 ?_
        refine w_lc_ne 87 dX10_endOf_79 dX10_endOf_80 (by decide) (fun hg => ?_) (fun hg => ?_)
        · refine w_iconst dX10_endOf_87 ?_
          refine w_istore (lv' := [_, _, _, _, _]) dX10_endOf_88 (Nat.le_of_ble_eq_true rfl) rfl rfl ?_
          refine fin 1 ?_
          unfold endV endD gA
          rw [if_neg hc, if_neg hg]
        · refine w_iconst dX10_endOf_83 ?_
          refine w_goto 88 dX10_endOf_84 (by decide) ?_
          refine w_istore (lv' := [_, _, _, _, _]) dX10_endOf_88 (Nat.le_of_ble_eq_true rfl) rfl rfl ?_
          refine fin 0 ?_
          unfold endV endD gA
          rw [if_neg hc, if_pos hg]
      · refine w_iconst dX10_endOf_70 ?_
        refine w_goto 88 dX10_endOf_71 (by decide) ?_
        refine w_istore (lv' := [_, _, _, _, _]) dX10_endOf_88 (Nat.le_of_ble_eq_true rfl) rfl rfl ?_
        refine fin 2 ?_
        unfold endV endD gA
        rw [if_pos hc]
    · refine w_aload_n dX10_endOf_16 rfl rfl ?_
      refine w_getf fX10_7 dX10_endOf_17 RH0 rfl ?_
      refine w_bipush dX10_endOf_20 (by decide) ?_
      refine w_iload dX10_endOf_22 rfl ?_
      refine w_iadd dX10_endOf_24 ?_
      refine w_lload_n dX10_endOf_25 rfl rfl ?_
      refine w_iload dX10_endOf_26 rfl ?_
      refine wc_S (Z := mX10_hasIt) (As := [_, _]) (c_hasIt (by omega)) kX10_hasIt lX10_62 sX10_hasIt dX10_endOf_28 rfl rfl rfl (Nat.le_of_ble_eq_true rfl) ⟨Nat.le_of_ble_eq_true rfl, Nat.le_of_ble_eq_true rfl⟩ ?_
      refine w_ifb_eq 39 dX10_endOf_31 (by decide) (fun hbt => ?_) (fun hbt => ?_)
      · refine w_iload_n dX10_endOf_39 rfl rfl ?_
        refine r_ist1K (48 + b) (by omega) (by omega) dX10_endOf_40 ?_
        unfold hrA
        rw [fillR_s (by rw [if_neg hbt])]
        refine w_iinc (lv' := [_, _, _, _, _]) dX10_endOf_41 rfl rfl rfl ?_
        refine w_goto 7 dX10_endOf_44 (by decide) ?_
        exact ih (by omega)
      · refine w_iload_n dX10_endOf_34 rfl rfl ?_
        refine w_ineg dX10_endOf_35 ?_
        refine w_goto 40 dX10_endOf_36 (by decide) ?_
        refine r_ist1K (48 + b) (by omega) (by omega) dX10_endOf_40 ?_
        unfold hrA
        rw [fillR_s (by rw [if_pos hbt])]
        refine w_iinc (lv' := [_, _, _, _, _]) dX10_endOf_41 rfl rfl rfl ?_
        refine w_goto 7 dX10_endOf_44 (by decide) ?_
        exact ih (by omega)
  have h6 := key 0 (Nat.zero_le _)
  unfold hrA at h6
  rw [fillR_0] at h6
  exact h6
set_option maxRecDepth 4000 in
theorem c_trapped {r : Nat} {A : Nat → Int} {ia : Nat → Nat → Int} {la : Nat → Nat → BitVec 64} {fi : Nat → Int} {fl : Nat → BitVec 64} {h0 : HP} {L R C : Nat} {z x y : Int} (hT : TOP A L R C) (hz : ok32 z) (hx : ok32 x) (hy : ok32 y) : sp mX10_trapped [.ref r, .int (zI z), .int (zI x), .int (zI y)] (RH r A ia la fi fl h0) 0 0 (pr (some (.int (zI (if ¬ (if (1 ≤ z ∧ z ≤ 4) ∧ 0 ≤ x then ((lkL (fun b => hgB (cs A L C) b (L * R)) (L * C) z.toNat)[x.toNat]?).getD 0#64 else 0#64) = 0#64 ∧ 1 ≤ y ∧ y ≤ 31 then endV A L R C (if (1 ≤ z ∧ z ≤ 4) ∧ 0 ≤ x then ((lkL (fun b => hgB (cs A L C) b (L * R)) (L * C) z.toNat)[x.toNat]?).getD 0#64 else 0#64) y else -1)))) r A ia fi h0) := by
  obtain ⟨hI, hV, hS, h2⟩ := id hT
  obtain ⟨v1, v2, v3, v4, v5, v6, v7⟩ := id hV
  have h1 : 0 ≤ A 1 ∧ A 1 ≤ 20 := hI 1
  have h20 : 0 ≤ A 2 ∧ A 2 ≤ 20 := hI 2
  have hLCn := mulLe (a := L) (b := C) (x := 6) (y := 8) (by omega) (by omega)
  have hLRn := mulLe (a := L) (b := R) (x := 6) (y := 4) (by omega) (by omega)
  have hLC : (L : Int) * C ≤ 48 := by exact_mod_cast hLCn
  have hLC0 : (0 : Int) ≤ (L : Int) * C := by exact_mod_cast Nat.zero_le (L * C)
  have hLR : (L : Int) * R ≤ 24 := by exact_mod_cast hLRn
  have hLR0 : (0 : Int) ≤ (L : Int) * R := by exact_mod_cast Nat.zero_le (L * R)
  have hl := c_least (ia := ia) (la := la) (fi := fi) (fl := fl) (h0 := h0) (r := r) hT hz hx
  generalize (if (1 ≤ z ∧ z ≤ 4) ∧ 0 ≤ x then ((lkL (fun b => hgB (cs A L C) b (L * R)) (L * C) z.toNat)[x.toNat]?).getD 0#64 else 0#64) = K at *
  refine sp_wp rfl (lv := [_, _, _, _, _, _]) rfl (Nat.le_of_ble_eq_true rfl) ?_
  refine w_aload_n dX10_trapped_0 rfl rfl ?_
  refine w_iload_n dX10_trapped_1 rfl rfl ?_
  refine w_iload_n dX10_trapped_2 rfl rfl ?_
  refine wx_VP (Z := mX10_least) (As := [_, _]) hl RH0 rfl kX10_least lX10_310 iX10_least vX10_least dX10_trapped_3 rfl rfl rfl (Nat.le_of_ble_eq_true rfl) ⟨Nat.le_of_ble_eq_true rfl, Nat.le_of_ble_eq_true rfl⟩ (fun ia1 la1 fi1 fl1 hk => ?_)
  refine w_lstore (lv' := [_, _, _, _, _, _]) dX10_trapped_6 (Nat.le_of_ble_eq_true rfl) rfl rfl ?_
  refine w_lload dX10_trapped_8 rfl ?_
  refine w_lconst0 dX10_trapped_10 ?_
  refine w_lc_eq 25 dX10_trapped_11 dX10_trapped_12 (by decide) (fun h0k => ?_) (fun h0k => ?_)
  · refine w_iconst dX10_trapped_25 ?_
    refine w_goto 36 dX10_trapped_26 (by decide) ?_
    refine x_iret rfl rfl dX10_trapped_36 (pr_end ?_ rfl hk.1 hk.2.1 hk.2.2.1 hk.2.2.2.1 hk.2.2.2.2.1 hk.2.2.2.2.2)
    rw [if_neg (fun q => q.1 h0k)]
  · refine w_iload_n dX10_trapped_15 rfl rfl ?_
    refine w_iconst dX10_trapped_16 ?_
    refine w_bipush dX10_trapped_17 (by decide) ?_
    refine wc_S (Z := mX10_isIn) (As := [_, _, _]) (c_isIn hy (by first | assumption | (unfold ok32 at *; omega)) (by first | assumption | (unfold ok32 at *; omega))) kX10_isIn lX10_70 sX10_isIn dX10_trapped_19 rfl rfl rfl (Nat.le_of_ble_eq_true rfl) ⟨Nat.le_of_ble_eq_true rfl, Nat.le_of_ble_eq_true rfl⟩ ?_
    refine w_ifb_ne 29 dX10_trapped_22 (by decide) (fun hc => ?_) (fun hc => ?_)
    · refine w_aload_n dX10_trapped_29 rfl rfl ?_
      refine w_lload dX10_trapped_30 rfl ?_
      refine w_iload_n dX10_trapped_32 rfl rfl ?_
      refine wx_V (Z := mX10_endOf) (As := [_, _]) (c_endOf hT hc) RH0 rfl kX10_endOf lX10_314 iX10_endOf vX10_endOf dX10_trapped_33 rfl rfl rfl (Nat.le_of_ble_eq_true rfl) ⟨Nat.le_of_ble_eq_true rfl, Nat.le_of_ble_eq_true rfl⟩ (fun q hq => ?_)
      refine x_iret rfl rfl dX10_trapped_36 (pr_end ?_ rfl hk.1 hk.2.1 hk.2.2.1 hk.2.2.2.1 hk.2.2.2.2.1 hk.2.2.2.2.2)
      rw [if_pos ⟨h0k, hc⟩]
    · refine w_iconst dX10_trapped_25 ?_
      refine w_goto 36 dX10_trapped_26 (by decide) ?_
      refine x_iret rfl rfl dX10_trapped_36 (pr_end ?_ rfl hk.1 hk.2.1 hk.2.2.1 hk.2.2.2.1 hk.2.2.2.2.1 hk.2.2.2.2.2)
      rw [if_neg (fun q => hc q.2)]

