/-- of the first twenty least knots those that trap -/
noncomputable def trL (A : Nat → Int) (L R C k : Nat) (lv : Int) : List (BitVec 64) := ((lkL (fun b => hgB (cs A L C) b (L * R)) (L * C) k).take 20).filter (fun x => decide (¬ endV A L R C x lv = 0))
theorem endV_rng {A : Nat → Int} {L R C : Nat} {x : BitVec 64} {lv : Int} : 0 ≤ endV A L R C x lv ∧ endV A L R C x lv ≤ 2 := by
  unfold endV
  split
  · omega
  · split <;> omega
set_option maxRecDepth 4000 in
theorem c_layTraps {r : Nat} {A : Nat → Int} {ia : Nat → Nat → Int} {la : Nat → Nat → BitVec 64} {fi : Nat → Int} {fl : Nat → BitVec 64} {h0 : HP} {L R C : Nat} {k : Nat} {z : Int} (hT : TOP A L R C) (hk : 1 ≤ k ∧ k ≤ 4) (hz : 1 ≤ z ∧ z ≤ 31) : sp mX10_layTraps [.ref r, .int (zI (k : Int)), .int (zI z)] (RH r A ia la fi fl h0) 0 0 (px none (fun q : (Nat → Nat → Int) × (Nat → Nat → BitVec 64) => keep3 ia q.1) (fun q => (RH r A q.1 q.2 (u1 fi 22 (((trL A L R C k z).length : Nat) : Int)) (u1 fl 23 ((trL A L R C k z).head?.getD 0#64)) h0))) := by
  obtain ⟨hI, hV, hS, h2⟩ := id hT
  obtain ⟨v1, v2, v3, v4, v5, v6, v7⟩ := id hV
  have h1 : 0 ≤ A 1 ∧ A 1 ≤ 20 := hI 1
  have h20 : 0 ≤ A 2 ∧ A 2 ≤ 20 := hI 2
  have hLCn := mulLe (a := L) (b := C) (x := 6) (y := 8) (by omega) (by omega)
  have hLRn := mulLe (a := L) (b := R) (x := 6) (y := 4) (by omega) (by omega)
  have hLC : (L : Int) * C ≤ 48 := by exact_mod_cast hLCn
  have hLC0 : (0 : Int) ≤ (L : Int) * C := by exact_mod_cast Nat.zero_le (L * C)
  have hLR : (L : Int) * R ≤ 24 := by exact_mod_cast hLRn
  have hLR0 : (0 : Int) ≤ (L : Int) * R := by exact_mod_cast Nat.zero_le (L * R)
  obtain ⟨T, hTT⟩ : ∃ T, (trL A L R C k z).length = T := ⟨_, rfl⟩
  obtain ⟨F, hF⟩ : ∃ F, (trL A L R C k z).head?.getD 0#64 = F := ⟨_, rfl⟩
  rw [hTT, hF]
  have key : ∀ (l : List (BitVec 64)) (cnt T0 : Nat) (F0 : BitVec 64) (ia1 : Nat → Nat → Int) (la1 : Nat → Nat → BitVec 64) (x5 : Value), keep3 ia ia1 → SETS A ia1 la1 L R C → PK (L * C) k (ia1 9) l → cnt ≤ 20 → T0 ≤ cnt → T0 + (((l.filter (fun x => dP (lstP (fun b => hgB (cs A L C) b (L * R)) x))).take (20 - cnt)).filter (fun x => decide (¬ endV A L R C x z = 0))).length = T → (if T0 = 0 then F0 = 0#64 ∧ (((l.filter (fun x => dP (lstP (fun b => hgB (cs A L C) b (L * R)) x))).take (20 - cnt)).filter (fun x => decide (¬ endV A L R C x z = 0))).head?.getD 0#64 = F else F0 = F) → wp mX10_layTraps 23 [.ref r, .int (zI (k : Int)), .int (zI z), .int (zI (cnt : Int)), .int (zI (bI (¬ l = []))), x5, jk] [] (RH r A ia1 la1 (u1 fi 22 (T0 : Int)) (u1 fl 23 F0) h0) 0 0 (px none (fun q : (Nat → Nat → Int) × (Nat → Nat → BitVec 64) => keep3 ia q.1) (fun q => (RH r A q.1 q.2 (u1 fi 22 (T : Int)) (u1 fl 23 F) h0))) := by
    intro l
    induction l with
    | nil =>
      intro cnt T0 F0 ia1 la1 x5 k3 hS1 hP hct hTc e1 e2
      refine w_iload dX10_layTraps_23 rfl ?_
      refine w_ifb_eq 102 dX10_layTraps_25 (by decide) (fun hne => ?_) (fun hne => ?_)
      · refine x_vret rfl dX10_layTraps_102 ⟨rfl, (ia1, la1), k3, ?_⟩
        simp at e1 e2
        have eF : F0 = F := by
          by_cases h : T0 = 0
          · rw [if_pos h] at e2; rw [e2.1, e2.2]
          · rw [if_neg h] at e2; exact e2
        rw [e1, eF]
      · exact absurd rfl hne
    | cons y l ih =>
      intro cnt T0 F0 ia1 la1 x5 k3 hS1 hP hct hTc e1 e2
      obtain ⟨p, p1, p2, p3⟩ := hP.resolve_left (List.cons_ne_nil _ _)
      have hn : ∀ i, i < k → p i < L * C := fun i hi => by have := p2 i hi; omega
      have ey : y = pks p k := (List.cons.inj p3).1
      have el : l = rsL (L * C) k p k := (List.cons.inj p3).2
      have hp64 : ∀ i, i < k → p i < 64 := fun i hi => by have := hn i hi; omega
      refine w_iload dX10_layTraps_23 rfl ?_
      refine w_ifb_eq 102 dX10_layTraps_25 (by decide) (fun hne => ?_) (fun hne => ?_)
      · exact absurd (List.cons_ne_nil _ _) hne
      · refine w_iload_n dX10_layTraps_28 rfl rfl ?_
        refine w_bipush dX10_layTraps_29 (by decide) ?_
        refine w_icmp_ge 102 dX10_layTraps_31 (by decide) (by first | assumption | (unfold ok32 at *; omega)) (by first | assumption | (unfold ok32 at *; omega)) (fun h20 => ?_) (fun h20 => ?_)
        · refine x_vret rfl dX10_layTraps_102 ⟨rfl, (ia1, la1), k3, ?_⟩
          rw [show 20 - cnt = 0 by omega, List.take_zero] at e1 e2
          simp at e1 e2
          have eF : F0 = F := by
            by_cases h : T0 = 0
            · rw [if_pos h] at e2; rw [e2.1, e2.2]
            · rw [if_neg h] at e2; exact e2
          rw [e1, eF]
        · refine w_aload_n dX10_layTraps_34 rfl rfl ?_
          refine w_iload_n dX10_layTraps_35 rfl rfl ?_
          refine wc_V (Z := mX10_pickedSet) (As := [_]) (c_pickedSet (by omega) p1 hp64) RH0 rfl kX10_pickedSet lX10_292 iX10_pickedSet vX10_pickedSet dX10_layTraps_36 rfl rfl rfl (Nat.le_of_ble_eq_true rfl) ⟨Nat.le_of_ble_eq_true rfl, Nat.le_of_ble_eq_true rfl⟩ ?_
          refine w_lstore (lv' := [_, _, _, _, _, _, _]) dX10_layTraps_39 (Nat.le_of_ble_eq_true rfl) rfl rfl ?_
          refine w_aload_n dX10_layTraps_41 rfl rfl ?_
          refine w_lload dX10_layTraps_42 rfl ?_
          refine wc_V (Z := mX10_isLeast) (As := [_]) (c_isLeast hS1.2 hLCn (pks_hi (by omega) hn)) RH0 rfl kX10_isLeast lX10_283 iX10_isLeast vX10_isLeast dX10_layTraps_44 rfl rfl rfl (Nat.le_of_ble_eq_true rfl) ⟨Nat.le_of_ble_eq_true rfl, Nat.le_of_ble_eq_true rfl⟩ ?_
          have tail : ∀ (cnt2 T2 : Nat) (F2 : BitVec 64) (ia2 : Nat → Nat → Int), (∀ j, j ≠ 5 → j ≠ 7 → ia2 j = ia1 j) → cnt2 ≤ 20 → T2 ≤ cnt2 → T2 + (((l.filter (fun x => dP (lstP (fun b => hgB (cs A L C) b (L * R)) x))).take (20 - cnt2)).filter (fun x => decide (¬ endV A L R C x z = 0))).length = T → (if T2 = 0 then F2 = 0#64 ∧ (((l.filter (fun x => dP (lstP (fun b => hgB (cs A L C) b (L * R)) x))).take (20 - cnt2)).filter (fun x => decide (¬ endV A L R C x z = 0))).head?.getD 0#64 = F else F2 = F) → wp mX10_layTraps 92 [.ref r, .int (zI (k : Int)), .int (zI z), .int (zI (cnt2 : Int)), .int (zI (bI (¬ y :: l = []))), .long (lB (pks p k)), jk] [] (RH r A ia2 la1 (u1 fi 22 (T2 : Int)) (u1 fl 23 F2) h0) 0 0 (px none (fun q : (Nat → Nat → Int) × (Nat → Nat → BitVec 64) => keep3 ia q.1) (fun q => (RH r A q.1 q.2 (u1 fi 22 (T : Int)) (u1 fl 23 F) h0))) := by
            intro cnt2 T2 F2 ia2 hia a1 a2 a3 a4
            have k4 : keep3 ia ia2 := ⟨(hia 2 (by omega) (by omega)).trans k3.1, (hia 3 (by omega) (by omega)).trans k3.2.1, (hia 4 (by omega) (by omega)).trans k3.2.2⟩
            refine w_aload_n dX10_layTraps_92 rfl rfl ?_
            refine w_iload_n dX10_layTraps_93 rfl rfl ?_
            refine wx_V (Z := mX10_isNext) (As := [_]) (c_isNext hV (by omega) (fun i hi => by rw [hia 9 (by omega) (by omega)]; exact p1 i hi) p2) RH0 rfl kX10_isNext lX10_298 iX10_isNext vX10_isNext dX10_layTraps_94 rfl rfl rfl (Nat.le_of_ble_eq_true rfl) ⟨Nat.le_of_ble_eq_true rfl, Nat.le_of_ble_eq_true rfl⟩ (fun q hq => ?_)
            rw [← el] at hq ⊢
            refine w_istore (lv' := [_, _, _, _, _, _, _]) dX10_layTraps_97 (Nat.le_of_ble_eq_true rfl) rfl rfl ?_
            refine w_goto 23 dX10_layTraps_99 (by decide) ?_
            exact ih cnt2 T2 F2 _ _ _ (k4.u (by omega)) ⟨hS1.1, fun b hb => by rw [u1_n (by omega), hia 10 (by omega) (by omega)]; exact hS1.2 b hb⟩ (by rw [u1_s]; exact hq) a1 a2 a3 a4
          refine w_ifb_ne 53 dX10_layTraps_47 (by decide) (fun hd => ?_) (fun hd => ?_)
          · rw [List.filter_cons_of_pos (by rw [ey]; exact hd), show 20 - cnt = 20 - (cnt + 1) + 1 by omega, List.take_succ_cons] at e1 e2
            have hr := endV_rng (A := A) (L := L) (R := R) (C := C) (x := pks p k) (lv := z)
            refine w_iinc (lv' := [_, _, _, _, _, _, _]) dX10_layTraps_53 rfl rfl rfl ?_
            refine w_aload_n dX10_layTraps_56 rfl rfl ?_
            refine w_lload dX10_layTraps_57 rfl ?_
            refine w_iload_n dX10_layTraps_59 rfl rfl ?_
            refine wx_V (Z := mX10_endOf) (As := [_, _]) (c_endOf hT hz) RH0 rfl kX10_endOf lX10_314 iX10_endOf vX10_endOf dX10_layTraps_60 rfl rfl rfl (Nat.le_of_ble_eq_true rfl) ⟨Nat.le_of_ble_eq_true rfl, Nat.le_of_ble_eq_true rfl⟩ (fun q hq => ?_)
            have hia : ∀ j, j ≠ 5 → j ≠ 7 → u1 (u1 ia1 7 q.1) 5 q.2 j = ia1 j := fun j a b => by rw [u1_n a, u1_n b]
            refine w_if_ne 69 dX10_layTraps_63 (by decide) (by first | assumption | (unfold ok32 at *; omega)) (fun he => ?_) (fun he => ?_)
            · rw [List.filter_cons_of_pos (by rw [ey]; exact decide_eq_true he)] at e1 e2
              rw [List.length_cons] at e1
              refine w_aload_n dX10_layTraps_69 rfl rfl ?_
              refine w_getf fX10_318 dX10_layTraps_70 RH0 rfl ?_
              rw [u1_s]
              refine w_if_ne 82 dX10_layTraps_73 (by decide) (by first | assumption | (unfold ok32 at *; omega)) (fun hT0 => ?_) (fun hT0 => ?_)
              · have hT0' : ¬ T0 = 0 := by omega
                rw [if_neg hT0'] at e2
                refine w_aload_n dX10_layTraps_82 rfl rfl ?_
                refine w_dup dX10_layTraps_83 rfl ?_
                refine w_getf fX10_318 dX10_layTraps_84 RH0 rfl ?_
                refine w_iconst dX10_layTraps_87 ?_
                refine w_iadd dX10_layTraps_88 ?_
                rw [u1_s, show ((T0 : Int) + 1) = ((T0 + 1 : Nat) : Int) by omega]
                refine r_pf22 fX10_318 dX10_layTraps_89 ?_
                rw [u1_u1]
                exact tail (cnt + 1) (T0 + 1) F0 _ hia (by omega) (by omega) (by omega) (by rw [if_neg (by omega)]; exact e2)
              · have hT0' : T0 = 0 := by omega
                rw [if_pos hT0'] at e2
                have hFy : F = pks p k := by
                  rw [← e2.2, ey]
                  rfl
                refine w_aload_n dX10_layTraps_76 rfl rfl ?_
                refine w_lload dX10_layTraps_77 rfl ?_
                refine r_pf23 fX10_321 dX10_layTraps_79 ?_
                rw [u1_u1]
                refine w_aload_n dX10_layTraps_82 rfl rfl ?_
                refine w_dup dX10_layTraps_83 rfl ?_
                refine w_getf fX10_318 dX10_layTraps_84 RH0 rfl ?_
                refine w_iconst dX10_layTraps_87 ?_
                refine w_iadd dX10_layTraps_88 ?_
                rw [u1_s, show ((T0 : Int) + 1) = ((T0 + 1 : Nat) : Int) by omega]
                refine r_pf22 fX10_318 dX10_layTraps_89 ?_
                rw [u1_u1]
                exact tail (cnt + 1) (T0 + 1) _ _ hia (by omega) (by omega) (by omega) (by rw [if_neg (by omega)]; exact hFy.symm)
            · rw [List.filter_cons_of_neg (by rw [ey]; simpa using he)] at e1 e2
              refine w_goto 92 dX10_layTraps_66 (by decide) ?_
              exact tail (cnt + 1) T0 F0 _ hia (by omega) (by omega) e1 e2
          · rw [List.filter_cons_of_neg (by rw [ey]; exact hd)] at e1 e2
            refine w_goto 92 dX10_layTraps_50 (by decide) ?_
            exact tail cnt T0 F0 _ (fun j _ _ => rfl) hct hTc e1 e2
  refine sp_wp rfl (lv := [_, _, _, _, _, _, _]) rfl (Nat.le_of_ble_eq_true rfl) ?_
  refine w_aload_n dX10_layTraps_0 rfl rfl ?_
  refine w_iconst dX10_layTraps_1 ?_
  refine r_pf22 fX10_318 dX10_layTraps_2 ?_
  refine w_aload_n dX10_layTraps_5 rfl rfl ?_
  refine w_lconst0 dX10_layTraps_6 ?_
  refine r_pf23 fX10_321 dX10_layTraps_7 ?_
  refine w_aload_n dX10_layTraps_10 rfl rfl ?_
  refine wx_Vv (Z := mX10_laySets) (As := []) (c_laySets hV) RH0 rfl kX10_laySets lX10_280 iX10_laySets vX10_laySets dX10_layTraps_11 rfl rfl rfl (Nat.le_of_ble_eq_true rfl) ⟨Nat.le_of_ble_eq_true rfl, Nat.le_of_ble_eq_true rfl⟩ (fun q hq => ?_)
  refine w_iconst dX10_layTraps_14 ?_
  refine w_istore_n (lv' := [_, _, _, _, _, _, _]) dX10_layTraps_15 rfl (Nat.le_of_ble_eq_true rfl) rfl rfl ?_
  refine w_aload_n dX10_layTraps_16 rfl rfl ?_
  refine w_iload_n dX10_layTraps_17 rfl rfl ?_
  refine wx_V (Z := mX10_isFirst) (As := [_]) (c_isFirst hV hk) RH0 rfl kX10_isFirst lX10_289 iX10_isFirst vX10_isFirst dX10_layTraps_18 rfl rfl rfl (Nat.le_of_ble_eq_true rfl) ⟨Nat.le_of_ble_eq_true rfl, Nat.le_of_ble_eq_true rfl⟩ (fun q2 hq2 => ?_)
  refine w_istore (lv' := [_, _, _, _, _, _, _]) dX10_layTraps_21 (Nat.le_of_ble_eq_true rfl) rfl rfl ?_
  refine key _ 0 0 _ _ _ jk ?_ ⟨hq.1, fun b hb => by rw [u1_n (by omega)]; exact hq.2 b hb⟩ (by rw [u1_s]; exact hq2) (by omega) (Nat.le_refl _) (by rw [Nat.zero_add]; exact hTT) (by rw [if_pos rfl]; exact ⟨rfl, hF⟩)
  exact keep3.u (keep3.u ⟨rfl, rfl, rfl⟩ (by omega)) (by omega)
set_option maxRecDepth 4000 in
theorem c_traps {r : Nat} {A : Nat → Int} {ia : Nat → Nat → Int} {la : Nat → Nat → BitVec 64} {fi : Nat → Int} {fl : Nat → BitVec 64} {h0 : HP} {L R C : Nat} {z x : Int} (hT : TOP A L R C) (hz : ok32 z) (hx : ok32 x) : sp mX10_traps [.ref r, .int (zI z), .int (zI x)] (RH r A ia la fi fl h0) 0 0 (pr (some (.int (zI (if (1 ≤ z ∧ z ≤ 4) ∧ 1 ≤ x ∧ x ≤ 31 then (((trL A L R C z.toNat x).length : Nat) : Int) else -1)))) r A ia fi h0) := by
  obtain ⟨hI, hV, hS, h2⟩ := id hT
  obtain ⟨v1, v2, v3, v4, v5, v6, v7⟩ := id hV
  have h1 : 0 ≤ A 1 ∧ A 1 ≤ 20 := hI 1
  have h20 : 0 ≤ A 2 ∧ A 2 ≤ 20 := hI 2
  have hLCn := mulLe (a := L) (b := C) (x := 6) (y := 8) (by omega) (by omega)
  have hLRn := mulLe (a := L) (b := R) (x := 6) (y := 4) (by omega) (by omega)
  have hLC : (L : Int) * C ≤ 48 := by exact_mod_cast hLCn
  have hLC0 : (0 : Int) ≤ (L : Int) * C := by exact_mod_cast Nat.zero_le (L * C)
  have hLR : (L : Int) * R ≤ 24 := by exact_mod_cast hLRn
  have hLR0 : (0 : Int) ≤ (L : Int) * R := by exact_mod_cast Nat.zero_le (L * R)
  refine sp_wp rfl (lv := [_, _, _]) rfl (Nat.le_of_ble_eq_true rfl) ?_
  refine w_iload_n dX10_traps_0 rfl rfl ?_
  refine w_iconst dX10_traps_1 ?_
  refine w_iconst dX10_traps_2 ?_
  refine wc_S (Z := mX10_isIn) (As := [_, _, _]) (c_isIn hz (by first | assumption | (unfold ok32 at *; omega)) (by first | assumption | (unfold ok32 at *; omega))) kX10_isIn lX10_70 sX10_isIn dX10_traps_3 rfl rfl rfl (Nat.le_of_ble_eq_true rfl) ⟨Nat.le_of_ble_eq_true rfl, Nat.le_of_ble_eq_true rfl⟩ ?_
  refine w_ifb_eq 19 dX10_traps_6 (by decide) (fun h3 => ?_) (fun h3 => ?_)
  · refine w_iconst dX10_traps_19 ?_
    refine x_iret rfl rfl dX10_traps_20 (pr_end ?_ rfl rfl rfl rfl rfl rfl rfl)
    rw [if_neg (fun q => h3 q.1)]
  · refine w_iload_n dX10_traps_9 rfl rfl ?_
    refine w_iconst dX10_traps_10 ?_
    refine w_bipush dX10_traps_11 (by decide) ?_
    refine wc_S (Z := mX10_isIn) (As := [_, _, _]) (c_isIn hx (by first | assumption | (unfold ok32 at *; omega)) (by first | assumption | (unfold ok32 at *; omega))) kX10_isIn lX10_70 sX10_isIn dX10_traps_13 rfl rfl rfl (Nat.le_of_ble_eq_true rfl) ⟨Nat.le_of_ble_eq_true rfl, Nat.le_of_ble_eq_true rfl⟩ ?_
    refine w_ifb_ne 21 dX10_traps_16 (by decide) (fun h4 => ?_) (fun h4 => ?_)
    rotate_left
    · refine w_iconst dX10_traps_19 ?_
      refine x_iret rfl rfl dX10_traps_20 (pr_end ?_ rfl rfl rfl rfl rfl rfl rfl)
      rw [if_neg (fun q => h4 q.2)]
    · rw [if_pos ⟨h3, h4⟩]
      obtain ⟨k, hk⟩ : ∃ k : Nat, z = (k : Int) := ⟨z.toNat, by omega⟩
      subst hk
      rw [Int.toNat_natCast]
      refine w_aload_n dX10_traps_21 rfl rfl ?_
      refine w_iload_n dX10_traps_22 rfl rfl ?_
      refine w_iload_n dX10_traps_23 rfl rfl ?_
      refine wx_Vv (Z := mX10_layTraps) (As := [_, _]) (c_layTraps hT (by omega) h4) RH0 rfl kX10_layTraps lX10_324 iX10_layTraps vX10_layTraps dX10_traps_24 rfl rfl rfl (Nat.le_of_ble_eq_true rfl) ⟨Nat.le_of_ble_eq_true rfl, Nat.le_of_ble_eq_true rfl⟩ (fun q hq => ?_)
      refine w_aload_n dX10_traps_27 rfl rfl ?_
      refine w_getf fX10_318 dX10_traps_28 RH0 rfl ?_
      refine x_iret rfl rfl dX10_traps_31 (pr_end3 ?_ rfl hq rfl rfl rfl)
      rfl
/-- the weakest of sizes from 5 - d on -/
def wkN (g : Nat → List (BitVec 64)) : Nat → BitVec 64
  | 0 => 0#64
  | d + 1 => if (g (4 - d)).length = 0 then wkN g d else (g (4 - d)).head?.getD 0#64
set_option maxRecDepth 4000 in
theorem c_weakest {r : Nat} {A : Nat → Int} {ia : Nat → Nat → Int} {la : Nat → Nat → BitVec 64} {fi : Nat → Int} {fl : Nat → BitVec 64} {h0 : HP} {L R C : Nat} {z : Int} (hT : TOP A L R C) (hz : ok32 z) : sp mX10_weakest [.ref r, .int (zI z)] (RH r A ia la fi fl h0) 0 0 (pr (some (.long (lB (if 1 ≤ z ∧ z ≤ 31 then wkN (fun k => trL A L R C k z) 4 else 0#64)))) r A ia fi h0) := by
  refine sp_wp rfl (lv := [_, _, _]) rfl (Nat.le_of_ble_eq_true rfl) ?_
  refine w_iload_n dX10_weakest_0 rfl rfl ?_
  refine w_iconst dX10_weakest_1 ?_
  refine w_bipush dX10_weakest_2 (by decide) ?_
  refine wc_S (Z := mX10_isIn) (As := [_, _, _]) (c_isIn hz (by first | assumption | (unfold ok32 at *; omega)) (by first | assumption | (unfold ok32 at *; omega))) kX10_isIn lX10_70 sX10_isIn dX10_weakest_4 rfl rfl rfl (Nat.le_of_ble_eq_true rfl) ⟨Nat.le_of_ble_eq_true rfl, Nat.le_of_ble_eq_true rfl⟩ ?_
  refine w_ifb_ne 12 dX10_weakest_7 (by decide) (fun h3 => ?_) (fun h3 => ?_)
  rotate_left
  · refine w_lconst0 dX10_weakest_10 ?_
    refine x_lret rfl dX10_weakest_11 (pr_end ?_ rfl rfl rfl rfl rfl rfl rfl)
    rw [if_neg h3]
  · rw [if_pos h3]
    refine w_iconst dX10_weakest_12 ?_
    refine w_istore_n (lv' := [_, _, _]) dX10_weakest_13 rfl (Nat.le_of_ble_eq_true rfl) rfl rfl ?_
    obtain ⟨V0, hV0⟩ : ∃ V0, wkN (fun k => trL A L R C k z) 4 = V0 := ⟨_, rfl⟩
    rw [hV0]
    have key : ∀ (d : Nat) (ia1 : Nat → Nat → Int) (la1 : Nat → Nat → BitVec 64) (t : Int) (f : BitVec 64), d ≤ 4 → keep3 ia ia1 → wkN (fun k => trL A L R C k z) d = V0 → wp mX10_weakest 14 [.ref r, .int (zI z), .int (zI ((5 - d : Nat) : Int))] [] (RH r A ia1 la1 (u1 fi 22 t) (u1 fl 23 f) h0) 0 0 (pr (some (.long (lB (V0)))) r A ia fi h0) := by
      intro d
      induction d with
      | zero =>
        intro ia1 la1 t f _ k3 hv
        refine w_iload_n dX10_weakest_14 rfl rfl ?_
        refine w_iconst dX10_weakest_15 ?_
        refine w_icmp_gt 43 dX10_weakest_16 (by decide) (by first | assumption | (unfold ok32 at *; omega)) (by first | assumption | (unfold ok32 at *; omega)) (fun hn => ?_) (fun hn => ?_)
        · refine w_lconst0 dX10_weakest_43 ?_
          refine x_lret rfl dX10_weakest_44 (pr_end3 ?_ rfl k3 rfl rfl rfl)
          rw [← hv]
          rfl
        · omega
      | succ d ih =>
        intro ia1 la1 t f hd k3 hv
        rw [show 5 - (d + 1) = 4 - d by omega]
        refine w_iload_n dX10_weakest_14 rfl rfl ?_
        refine w_iconst dX10_weakest_15 ?_
        refine w_icmp_gt 43 dX10_weakest_16 (by decide) (by first | assumption | (unfold ok32 at *; omega)) (by first | assumption | (unfold ok32 at *; omega)) (fun hn => ?_) (fun hn => ?_)
        · omega
        · refine w_aload_n dX10_weakest_19 rfl rfl ?_
          refine w_iload_n dX10_weakest_20 rfl rfl ?_
          refine w_iload_n dX10_weakest_21 rfl rfl ?_
          have hk5 : 1 ≤ 4 - d ∧ 4 - d ≤ 4 := by omega
          refine wx_Vv (Z := mX10_layTraps) (As := [_, _]) (c_layTraps hT hk5 h3) RH0 rfl kX10_layTraps lX10_324 iX10_layTraps vX10_layTraps dX10_weakest_22 rfl rfl rfl (Nat.le_of_ble_eq_true rfl) ⟨Nat.le_of_ble_eq_true rfl, Nat.le_of_ble_eq_true rfl⟩ (fun q hq => ?_)
          rw [u1_u1, u1_u1]
          unfold wkN at hv
          have hlen : (trL A L R C (4 - d) z).length ≤ 20 := by
            unfold trL
            refine Nat.le_trans (List.length_filter_le _ _) ?_
            rw [List.length_take]
            omega
          have k4 : keep3 ia q.1 := ⟨hq.1.trans k3.1, hq.2.1.trans k3.2.1, hq.2.2.trans k3.2.2⟩
          refine w_aload_n dX10_weakest_25 rfl rfl ?_
          refine w_getf fX10_318 dX10_weakest_26 RH0 rfl ?_
          rw [u1_s]
          refine w_if_le 37 dX10_weakest_29 (by decide) (by first | assumption | (unfold ok32 at *; omega)) (fun h5 => ?_) (fun h5 => ?_)
          · rw [if_pos (by omega)] at hv
            refine w_iinc (lv' := [_, _, _]) dX10_weakest_37 rfl rfl rfl ?_
            refine w_goto 14 dX10_weakest_40 (by decide) ?_
            rw [show ((4 - d : Nat) : Int) + 1 = ((5 - d : Nat) : Int) by omega]
            exact ih q.1 q.2 _ _ (by omega) k4 hv
          · rw [if_neg (by omega)] at hv
            refine w_aload_n dX10_weakest_32 rfl rfl ?_
            refine w_getf fX10_321 dX10_weakest_33 RH0 rfl ?_
            refine x_lret rfl dX10_weakest_36 (pr_end3 ?_ rfl k4 rfl rfl rfl)
            rw [← hv]
            rfl
    have h6 := key 4 ia la (fi 22) (fl 23) (Nat.le_refl _) ⟨rfl, rfl, rfl⟩ hV0
    rw [u1_id, u1_id] at h6
    exact h6
theorem c_peel {r : Nat} {A : Nat → Int} {ia : Nat → Nat → Int} {la : Nat → Nat → BitVec 64} {fi : Nat → Int} {fl : Nat → BitVec 64} {h0 : HP} {L R C : Nat} {x : BitVec 64} (hV : VC A L R C) : sp mX10_peel [.ref r, .long (lB x)] (RH r A ia la fi fl h0) 0 0 (px (some (.long (lB (plF (cs A L C) (L * R) 65 x)))) (fun q : (Nat → Int) × (Nat → BitVec 64) => True) (fun q => (RH r A (u1 ia 10 q.1) (u1 la 8 q.2) fi fl h0))) := by
  refine sp_wp rfl (lv := [_, _, _]) rfl (Nat.le_of_ble_eq_true rfl) ?_
  refine w_aload_n dX10_peel_0 rfl rfl ?_
  refine wx_Vv (Z := mX10_laySets) (As := []) (c_laySets hV) RH0 rfl kX10_laySets lX10_280 iX10_laySets vX10_laySets dX10_peel_1 rfl rfl rfl (Nat.le_of_ble_eq_true rfl) ⟨Nat.le_of_ble_eq_true rfl, Nat.le_of_ble_eq_true rfl⟩ (fun q hq => ?_)
  refine w_aload_n dX10_peel_4 rfl rfl ?_
  refine w_lload_n dX10_peel_5 rfl rfl ?_
  refine wc_V (Z := mX10_peelLaid) (As := [_]) (c_peelLaid hV hq.1) RH0 rfl kX10_peelLaid lX10_286 iX10_peelLaid vX10_peelLaid dX10_peel_6 rfl rfl rfl (Nat.le_of_ble_eq_true rfl) ⟨Nat.le_of_ble_eq_true rfl, Nat.le_of_ble_eq_true rfl⟩ ?_
  exact x_lret rfl dX10_peel_9 ⟨rfl, q, trivial, rfl⟩
theorem c_peeled {r : Nat} {A : Nat → Int} {ia : Nat → Nat → Int} {la : Nat → Nat → BitVec 64} {fi : Nat → Int} {fl : Nat → BitVec 64} {h0 : HP} {L R C : Nat} {x : BitVec 64} (hT : TOP A L R C) : sp mX10_peeled [.ref r, .long (lB x)] (RH r A ia la fi fl h0) 0 0 (pr (some (.long (lB (if x.sshiftRight (L * C) = 0#64 then plF (cs A L C) (L * R) 65 x else -1#64)))) r A ia fi h0) := by
  obtain ⟨hI, hV, hS, h2⟩ := id hT
  obtain ⟨v1, v2, v3, v4, v5, v6, v7⟩ := id hV
  have h1 : 0 ≤ A 1 ∧ A 1 ≤ 20 := hI 1
  have h20 : 0 ≤ A 2 ∧ A 2 ≤ 20 := hI 2
  have hLCn := mulLe (a := L) (b := C) (x := 6) (y := 8) (by omega) (by omega)
  have hLRn := mulLe (a := L) (b := R) (x := 6) (y := 4) (by omega) (by omega)
  have hLC : (L : Int) * C ≤ 48 := by exact_mod_cast hLCn
  have hLC0 : (0 : Int) ≤ (L : Int) * C := by exact_mod_cast Nat.zero_le (L * C)
  have hLR : (L : Int) * R ≤ 24 := by exact_mod_cast hLRn
  have hLR0 : (0 : Int) ≤ (L : Int) * R := by exact_mod_cast Nat.zero_le (L * R)
  refine sp_wp rfl (lv := [_, _, _]) rfl (Nat.le_of_ble_eq_true rfl) ?_
  refine w_aload_n dX10_peeled_0 rfl rfl ?_
  refine w_lload_n dX10_peeled_1 rfl rfl ?_
  refine wc_V (Z := mX10_isSet) (As := [_]) (c_isSet hV) RH0 rfl kX10_isSet lX10_273 iX10_isSet vX10_isSet dX10_peeled_2 rfl rfl rfl (Nat.le_of_ble_eq_true rfl) ⟨Nat.le_of_ble_eq_true rfl, Nat.le_of_ble_eq_true rfl⟩ ?_
  refine w_ifb_eq 16 dX10_peeled_5 (by decide) (fun h1s => ?_) (fun h1s => ?_)
  · refine w_ldc2B (-1#64) qX10_255 (by decide) dX10_peeled_16 ?_
    refine x_lret rfl dX10_peeled_19 (pr_end ?_ rfl rfl rfl rfl rfl rfl rfl)
    rw [if_neg h1s]
  · refine w_aload_n dX10_peeled_8 rfl rfl ?_
    refine w_lload_n dX10_peeled_9 rfl rfl ?_
    refine wx_V (Z := mX10_peel) (As := [_]) (c_peel hV) RH0 rfl kX10_peel lX10_328 iX10_peel vX10_peel dX10_peeled_10 rfl rfl rfl (Nat.le_of_ble_eq_true rfl) ⟨Nat.le_of_ble_eq_true rfl, Nat.le_of_ble_eq_true rfl⟩ (fun q hq => ?_)
    refine w_goto 19 dX10_peeled_13 (by decide) ?_
    refine x_lret rfl dX10_peeled_19 (pr_end ?_ rfl rfl rfl rfl rfl rfl rfl)
    rw [if_pos h1s]
theorem c_known {r : Nat} {A : Nat → Int} {ia : Nat → Nat → Int} {la : Nat → Nat → BitVec 64} {fi : Nat → Int} {fl : Nat → BitVec 64} {h0 : HP} {L R C : Nat} {x : BitVec 64} (hT : TOP A L R C) : sp mX10_known [.ref r, .long (lB x)] (RH r A ia la fi fl h0) 0 0 (pr (some (.int (zI (if x.sshiftRight (L * C) = 0#64 then ((pop x : Nat) : Int) - ((pop (plF (cs A L C) (L * R) 65 x) : Nat) : Int) else -1)))) r A ia fi h0) := by
  obtain ⟨hI, hV, hS, h2⟩ := id hT
  obtain ⟨v1, v2, v3, v4, v5, v6, v7⟩ := id hV
  have h1 : 0 ≤ A 1 ∧ A 1 ≤ 20 := hI 1
  have h20 : 0 ≤ A 2 ∧ A 2 ≤ 20 := hI 2
  have hLCn := mulLe (a := L) (b := C) (x := 6) (y := 8) (by omega) (by omega)
  have hLRn := mulLe (a := L) (b := R) (x := 6) (y := 4) (by omega) (by omega)
  have hLC : (L : Int) * C ≤ 48 := by exact_mod_cast hLCn
  have hLC0 : (0 : Int) ≤ (L : Int) * C := by exact_mod_cast Nat.zero_le (L * C)
  have hLR : (L : Int) * R ≤ 24 := by exact_mod_cast hLRn
  have hLR0 : (0 : Int) ≤ (L : Int) * R := by exact_mod_cast Nat.zero_le (L * R)
  refine sp_wp rfl (lv := [_, _, _]) rfl (Nat.le_of_ble_eq_true rfl) ?_
  refine w_aload_n dX10_known_0 rfl rfl ?_
  refine w_lload_n dX10_known_1 rfl rfl ?_
  refine wc_V (Z := mX10_isSet) (As := [_]) (c_isSet hV) RH0 rfl kX10_isSet lX10_273 iX10_isSet vX10_isSet dX10_known_2 rfl rfl rfl (Nat.le_of_ble_eq_true rfl) ⟨Nat.le_of_ble_eq_true rfl, Nat.le_of_ble_eq_true rfl⟩ ?_
  refine w_ifb_eq 24 dX10_known_5 (by decide) (fun h1s => ?_) (fun h1s => ?_)
  · refine w_iconst dX10_known_24 ?_
    refine x_iret rfl rfl dX10_known_25 (pr_end ?_ rfl rfl rfl rfl rfl rfl rfl)
    rw [if_neg h1s]
  · refine w_lload_n dX10_known_8 rfl rfl ?_
    refine wc_S (Z := mX10_many) (As := [_]) c_many kX10_many lX10_87 sX10_many dX10_known_9 rfl rfl rfl (Nat.le_of_ble_eq_true rfl) ⟨Nat.le_of_ble_eq_true rfl, Nat.le_of_ble_eq_true rfl⟩ ?_
    refine w_aload_n dX10_known_12 rfl rfl ?_
    refine w_lload_n dX10_known_13 rfl rfl ?_
    refine wx_V (Z := mX10_peel) (As := [_]) (c_peel hV) RH0 rfl kX10_peel lX10_328 iX10_peel vX10_peel dX10_known_14 rfl rfl rfl (Nat.le_of_ble_eq_true rfl) ⟨Nat.le_of_ble_eq_true rfl, Nat.le_of_ble_eq_true rfl⟩ (fun q hq => ?_)
    refine wc_S (Z := mX10_many) (As := [_]) c_many kX10_many lX10_87 sX10_many dX10_known_17 rfl rfl rfl (Nat.le_of_ble_eq_true rfl) ⟨Nat.le_of_ble_eq_true rfl, Nat.le_of_ble_eq_true rfl⟩ ?_
    refine w_isub dX10_known_20 ?_
    refine w_goto 25 dX10_known_21 (by decide) ?_
    refine x_iret rfl rfl dX10_known_25 (pr_end ?_ rfl rfl rfl rfl rfl rfl rfl)
    rw [if_pos h1s]
/-- what a set costs -/
def cstN (A : Nat → Int) (x : BitVec 64) : Nat → Int
  | 0 => 0
  | b + 1 => if (x.getLsbD b = true ∧ 0 < A (48 + b)) ∨ (¬ x.getLsbD b = true ∧ A (48 + b) < 0) then cstN A x b + szd (A (48 + b)) else cstN A x b
theorem cstN_rng {A : Nat → Int} {x : BitVec 64} (hI : INV A) : ∀ {n : Nat}, n ≤ 48 → 0 ≤ cstN A x n ∧ cstN A x n ≤ 31 * n
  | 0, _ => by unfold cstN; omega
  | n + 1, h => by
    have ih := cstN_rng (x := x) hI (n := n) (by omega)
    have h2 := hI.he (k := n) (by omega)
    have h3 : 0 ≤ szd (A (48 + n)) ∧ szd (A (48 + n)) ≤ 31 := by unfold szd; split <;> omega
    unfold cstN
    split <;> omega
set_option maxRecDepth 4000 in
theorem c_costOf {r : Nat} {A : Nat → Int} {ia : Nat → Nat → Int} {la : Nat → Nat → BitVec 64} {fi : Nat → Int} {fl : Nat → BitVec 64} {h0 : HP} {L R C : Nat} {x : BitVec 64} (hI : INV A) (hV : VC A L R C) : sp mX10_costOf [.ref r, .long (lB x)] (RH r A ia la fi fl h0) 0 0 (pd (some (.int (zI (cstN A x (L * C))))) (RH r A ia la fi fl h0)) := by
  obtain ⟨v1, v2, v3, v4, v5, v6, v7⟩ := id hV
  have hLCn := mulLe (a := L) (b := C) (x := 6) (y := 8) (by omega) (by omega)
  have hLC : (L : Int) * C = ((L * C : Nat) : Int) := by push_cast; rfl
  refine sp_wp rfl (lv := [_, _, _, _, _, _]) rfl (Nat.le_of_ble_eq_true rfl) ?_
  refine w_iconst dX10_costOf_0 ?_
  refine w_istore_n (lv' := [_, _, _, _, _, _]) dX10_costOf_1 rfl (Nat.le_of_ble_eq_true rfl) rfl rfl ?_
  refine w_iconst dX10_costOf_2 ?_
  refine w_istore (lv' := [_, _, _, _, _, _]) dX10_costOf_3 (Nat.le_of_ble_eq_true rfl) rfl rfl ?_
  have key : ∀ b : Nat, b ≤ L * C → ∀ x5 : Value, wp mX10_costOf 5 [.ref r, .long (lB x), jk, .int (zI (cstN A x b)), .int (zI (b : Int)), x5] [] (RH r A ia la fi fl h0) 0 0 (pd (some (.int (zI (cstN A x (L * C))))) (RH r A ia la fi fl h0)) := by
    refine up_ind (N := L * C) (fun b hb ih => ?_)
    intro x5
    refine w_iload dX10_costOf_5 rfl ?_
    refine w_aload_n dX10_costOf_7 rfl rfl ?_
    refine wc_V (Z := mX10_bits) (As := []) c_bits RH0 rfl kX10_bits lX10_66 iX10_bits vX10_bits dX10_costOf_8 rfl rfl rfl (Nat.le_of_ble_eq_true rfl) ⟨Nat.le_of_ble_eq_true rfl, Nat.le_of_ble_eq_true rfl⟩ ?_
    rw [v1, v3, hLC]
    refine w_icmp_ge 62 dX10_costOf_11 (by decide) (by first | assumption | (unfold ok32 at *; omega)) (by first | assumption | (unfold ok32 at *; omega)) (fun hn => ?_) (fun hn => ?_)
    · refine w_iload_n dX10_costOf_62 rfl rfl ?_
      refine x_iret rfl rfl dX10_costOf_63 ⟨?_, rfl⟩
      rw [show b = L * C by omega]
    · have hhe := hI.he (k := b) (by omega)
      have add : ((x.getLsbD b = true ∧ 0 < A (48 + b)) ∨ (¬ x.getLsbD b = true ∧ A (48 + b) < 0)) → wp mX10_costOf 48 [.ref r, .long (lB x), jk, .int (zI (cstN A x b)), .int (zI (b : Int)), .int (zI (A (48 + b)))] [] (RH r A ia la fi fl h0) 0 0 (pd (some (.int (zI (cstN A x (L * C))))) (RH r A ia la fi fl h0)) := by
        intro hy
        refine w_iload_n dX10_costOf_48 rfl rfl ?_
        refine w_iload dX10_costOf_49 rfl ?_
        refine wc_S (Z := mX10_sized) (As := [_]) (c_sized (by first | assumption | (unfold ok32 at *; omega))) kX10_sized lX10_166 sX10_sized dX10_costOf_51 rfl rfl rfl (Nat.le_of_ble_eq_true rfl) ⟨Nat.le_of_ble_eq_true rfl, Nat.le_of_ble_eq_true rfl⟩ ?_
        refine w_iadd dX10_costOf_54 ?_
        refine w_istore_n (lv' := [_, _, _, _, _, _]) dX10_costOf_55 rfl (Nat.le_of_ble_eq_true rfl) rfl rfl ?_
        refine w_iinc (lv' := [_, _, _, _, _, _]) dX10_costOf_56 rfl rfl rfl ?_
        refine w_goto 5 dX10_costOf_59 (by decide) ?_
        have h6 := ih (by omega) (.int (zI (A (48 + b))))
        rw [cstN, if_pos hy] at h6
        exact h6
      have skip : ¬ ((x.getLsbD b = true ∧ 0 < A (48 + b)) ∨ (¬ x.getLsbD b = true ∧ A (48 + b) < 0)) → wp mX10_costOf 56 [.ref r, .long (lB x), jk, .int (zI (cstN A x b)), .int (zI (b : Int)), .int (zI (A (48 + b)))] [] (RH r A ia la fi fl h0) 0 0 (pd (some (.int (zI (cstN A x (L * C))))) (RH r A ia la fi fl h0)) := by
        intro hy
        refine w_iinc (lv' := [_, _, _, _, _, _]) dX10_costOf_56 rfl rfl rfl ?_
        refine w_goto 5 dX10_costOf_59 (by decide) ?_
        have h6 := ih (by omega) (.int (zI (A (48 + b))))
        rw [cstN, if_neg hy] at h6
        exact h6
      refine w_aload_n dX10_costOf_14 rfl rfl ?_
      refine w_getf fX10_7 dX10_costOf_15 RH0 rfl ?_
      refine w_bipush dX10_costOf_18 (by decide) ?_
      refine w_iload dX10_costOf_20 rfl ?_
      refine w_iadd dX10_costOf_22 ?_
      refine w_iald (48 + b) RH1 (by omega) (by omega) (by decide) dX10_costOf_23 ?_
      refine w_istore (lv' := [_, _, _, _, _, _]) dX10_costOf_24 (Nat.le_of_ble_eq_true rfl) rfl rfl ?_
      refine w_lload_n dX10_costOf_26 rfl rfl ?_
      refine w_iload dX10_costOf_27 rfl ?_
      refine wc_S (Z := mX10_hasIt) (As := [_, _]) (c_hasIt (by omega)) kX10_hasIt lX10_62 sX10_hasIt dX10_costOf_29 rfl rfl rfl (Nat.le_of_ble_eq_true rfl) ⟨Nat.le_of_ble_eq_true rfl, Nat.le_of_ble_eq_true rfl⟩ ?_
      refine w_ifb_eq 43 dX10_costOf_32 (by decide) (fun hbt => ?_) (fun hbt => ?_)
      · refine w_iload dX10_costOf_43 rfl ?_
        refine w_if_ge 56 dX10_costOf_45 (by decide) (by first | assumption | (unfold ok32 at *; omega)) (fun h5 => ?_) (fun h5 => ?_)
        · exact skip (fun q => q.elim (fun q => hbt q.1) (fun q => by omega))
        · exact add (Or.inr ⟨hbt, by omega⟩)
      · refine w_iload dX10_costOf_35 rfl ?_
        refine w_if_le 56 dX10_costOf_37 (by decide) (by first | assumption | (unfold ok32 at *; omega)) (fun h5 => ?_) (fun h5 => ?_)
        · exact skip (fun q => q.elim (fun q => by omega) (fun q => q.1 hbt))
        · refine w_goto 48 dX10_costOf_40 (by decide) ?_
          exact add (Or.inl ⟨hbt, by omega⟩)
  exact key 0 (Nat.zero_le _) jk
theorem c_cost {r : Nat} {A : Nat → Int} {ia : Nat → Nat → Int} {la : Nat → Nat → BitVec 64} {fi : Nat → Int} {fl : Nat → BitVec 64} {h0 : HP} {L R C : Nat} {x : BitVec 64} (hT : TOP A L R C) : sp mX10_cost [.ref r, .long (lB x)] (RH r A ia la fi fl h0) 0 0 (pr (some (.int (zI (if x.sshiftRight (L * C) = 0#64 then cstN A x (L * C) else -1)))) r A ia fi h0) := by
  obtain ⟨hI, hV, hS, h2⟩ := id hT
  obtain ⟨v1, v2, v3, v4, v5, v6, v7⟩ := id hV
  have h1 : 0 ≤ A 1 ∧ A 1 ≤ 20 := hI 1
  have h20 : 0 ≤ A 2 ∧ A 2 ≤ 20 := hI 2
  have hLCn := mulLe (a := L) (b := C) (x := 6) (y := 8) (by omega) (by omega)
  have hLRn := mulLe (a := L) (b := R) (x := 6) (y := 4) (by omega) (by omega)
  have hLC : (L : Int) * C ≤ 48 := by exact_mod_cast hLCn
  have hLC0 : (0 : Int) ≤ (L : Int) * C := by exact_mod_cast Nat.zero_le (L * C)
  have hLR : (L : Int) * R ≤ 24 := by exact_mod_cast hLRn
  have hLR0 : (0 : Int) ≤ (L : Int) * R := by exact_mod_cast Nat.zero_le (L * R)
  refine sp_wp rfl (lv := [_, _, _]) rfl (Nat.le_of_ble_eq_true rfl) ?_
  refine w_aload_n dX10_cost_0 rfl rfl ?_
  refine w_lload_n dX10_cost_1 rfl rfl ?_
  refine wc_V (Z := mX10_isSet) (As := [_]) (c_isSet hV) RH0 rfl kX10_isSet lX10_273 iX10_isSet vX10_isSet dX10_cost_2 rfl rfl rfl (Nat.le_of_ble_eq_true rfl) ⟨Nat.le_of_ble_eq_true rfl, Nat.le_of_ble_eq_true rfl⟩ ?_
  refine w_ifb_eq 16 dX10_cost_5 (by decide) (fun h1s => ?_) (fun h1s => ?_)
  · refine w_iconst dX10_cost_16 ?_
    refine x_iret rfl rfl dX10_cost_17 (pr_end ?_ rfl rfl rfl rfl rfl rfl rfl)
    rw [if_neg h1s]
  · refine w_aload_n dX10_cost_8 rfl rfl ?_
    refine w_lload_n dX10_cost_9 rfl rfl ?_
    refine wc_V (Z := mX10_costOf) (As := [_]) (c_costOf hI hV) RH0 rfl kX10_costOf lX10_331 iX10_costOf vX10_costOf dX10_cost_10 rfl rfl rfl (Nat.le_of_ble_eq_true rfl) ⟨Nat.le_of_ble_eq_true rfl, Nat.le_of_ble_eq_true rfl⟩ ?_
    refine w_goto 17 dX10_cost_13 (by decide) ?_
    refine x_iret rfl rfl dX10_cost_17 (pr_end ?_ rfl rfl rfl rfl rfl rfl rfl)
    rw [if_pos h1s]

