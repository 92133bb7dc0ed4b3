/-! the face: what is played ahead -/
theorem step_pg {A : Nat → Int} {L R C : Nat} (hI : INV A) (hV : VC A L R C) (hS : SCN A R) (h9 : A 9 = 0) (h8 : A 8 = 0) : (R : Int) * stepF A L R C 10 + stepF A L R C 11 = (R : Int) * A 10 + A 11 + 1 := by
  have e11 : stepF A L R C 11 = st1 A L R C 11 := by
    unfold stepF
    split
    · rw [u1_n (by omega), st3_n hI hV hS h9 (by omega)]
    · split
      · rw [u1_n (by omega), st3_n hI hV hS h9 (by omega)]
      · rw [st3_n hI hV hS h9 (by omega)]
  have e10 : stepF A L R C 10 = st1 A L R C 10 := by
    unfold stepF
    split
    · rw [u1_n (by omega), st3_n hI hV hS h9 (by omega)]
    · split
      · rw [u1_n (by omega), st3_n hI hV hS h9 (by omega)]
      · rw [st3_n hI hV hS h9 (by omega)]
  obtain ⟨v1, v2, v3, v4, v5, v6, v7⟩ := id hV
  have h13 : 0 ≤ A 13 ∧ A 13 ≤ 23 := hI 13
  have h11 : 0 ≤ A 11 ∧ A 11 ≤ 3 := hI 11
  have hs2 := hS.2.1
  have hy := lay_lt (R := R) (o := (A 13).toNat) (p := (A 11).toNat) v5 (by have := hS.1; omega) (by omega)
  rw [e10, e11]
  unfold st1
  rw [if_pos h8]
  unfold stL
  split
  · rw [u1_s, u1_n (by omega), slN_n hV hy (by omega) (Nat.le_refl _)]
    omega
  · rw [u1_s, u1_n (by omega), u1_s]
    have e : A 11 = (R : Int) - 1 := by omega
    rw [e]
    rcases (show R = 1 ∨ R = 2 ∨ R = 3 ∨ R = 4 by omega) with w | w | w | w <;> subst w <;> omega
theorem stp_8 {A : Nat → Int} {L R C : Nat} (hT : TOP A L R C) : ∀ n, stpN A L R C n 8 = A 8
  | 0 => rfl
  | n + 1 => by
    have ih := stp_8 hT n
    obtain ⟨t1, t2, t3, t4⟩ := stp_top hT n
    unfold stpN
    split
    · rename_i h9
      rw [stepF_n t1 t2 t3 h9 (by omega) (by omega) (by omega) (by omega)]
      exact ih
    · exact ih
theorem stp_pg {A : Nat → Int} {L R C : Nat} (hT : TOP A L R C) (h8 : A 8 = 0) : ∀ n, stpN A L R C n 9 = 0 → (R : Int) * stpN A L R C n 10 + stpN A L R C n 11 = (R : Int) * A 10 + A 11 + n
  | 0, _ => by
    show (R : Int) * A 10 + A 11 = (R : Int) * A 10 + A 11 + ((0 : Nat) : Int)
    omega
  | n + 1, h => by
    obtain ⟨t1, t2, t3, t4⟩ := stp_top hT n
    have hn : stpN A L R C n 9 = 0 := by
      refine Classical.byContradiction fun hc => ?_
      unfold stpN at h
      rw [if_neg hc] at h
      exact hc h
    have ih := stp_pg hT h8 n hn
    have e : stpN A L R C (n + 1) = stepF (stpN A L R C n) L R C := if_pos hn
    rw [e, step_pg t1 t2 t3 hn ((stp_8 hT n).trans h8), ih]
    omega
theorem stp_ends {A : Nat → Int} {L R C : Nat} (hT : TOP A L R C) (h8 : A 8 = 0) : ¬ stpN A L R C 80 9 = 0 := fun h => by
  have hp := stp_pg hT h8 80 h
  obtain ⟨t1, t2, t3, t4⟩ := stp_top hT 80
  have h10 := t3.2.2.1 h
  have h11 := t3.2.1
  have a10 : 0 ≤ A 10 := (hT.1 10).1
  have a11 : 0 ≤ A 11 := (hT.1 11).1
  obtain ⟨v1, v2, v3, v4, v5, v6, v7⟩ := id hT.2.1
  generalize stpN A L R C 80 10 = x at *
  generalize stpN A L R C 80 11 = y at *
  rcases (show R = 1 ∨ R = 2 ∨ R = 3 ∨ R = 4 by omega) with w | w | w | w <;> subst w <;> omega
theorem oddN_0 {c : Nat → BitVec 64} : ∀ {n : Nat}, oddN c 0#64 n = 0
  | 0 => rfl
  | n + 1 => by
    unfold oddN
    rw [oddN_0 (n := n), BitVec.and_zero, pop_0]
theorem step_lost {A : Nat → Int} {L R C : Nat} (hI : INV A) (hV : VC A L R C) (hS : SCN A R) (h9 : A 9 = 0) (h : stepF A L R C 9 = 2) : ¬ gA (stepF A L R C) (L * C) = 0#64 := fun hg => by
  obtain ⟨v1, v2, v3, v4, v5, v6, v7⟩ := id hV
  have hLC := mulLe (a := L) (b := C) (x := 6) (y := 8) (by omega) (by omega)
  have h384 := st2_i hI hV hS h9 384
  have e96 : ∀ b, b < L * C → stepF A L R C (96 + b) = st1 A L R C (96 + b) := fun b hb => by
    have e3 : st3 A L R C (96 + b) = st1 A L R C (96 + b) := by
      unfold st3
      rw [wdA_n h384 (by omega)]
      unfold st2
      rw [fillR_n (by omega)]
    unfold stepF
    split
    · rw [u1_n (by omega), e3]
    · split
      · rw [u1_n (by omega), e3]
      · exact e3
  have e : gA (stepF A L R C) (L * C) = gA (st1 A L R C) (L * C) := gset_c e96
  have ho : odA A L R C = 0 := by
    unfold odA
    rw [← e, hg]
    exact oddN_0
  unfold stepF at h
  rw [if_pos ho, u1_s] at h
  exact absurd h (by decide)
theorem stp_lost {A : Nat → Int} {L R C : Nat} (hT : TOP A L R C) (h0 : ¬ A 9 = 2) : ∀ n, stpN A L R C n 9 = 2 → ¬ gA (stpN A L R C n) (L * C) = 0#64
  | 0, h => absurd h h0
  | n + 1, h => by
    obtain ⟨t1, t2, t3, t4⟩ := stp_top hT n
    unfold stpN at h ⊢
    split at h
    · rename_i h9
      rw [if_pos h9]
      exact step_lost t1 t2 t3 h9 h
    · rename_i h9
      rw [if_neg h9]
      exact stp_lost hT h0 n h
abbrev TR4 : Type := Nat × (Nat → Nat → Int) × (Nat → Int) × (Nat → BitVec 64)
theorem cdq_bg {P : Nat → Prop} {h : HP} {c : Nat} {B : Nat → Int} {L R C : Nat} {m : Int} (H : CDQ P h c B L R C) : CDQ P h c (bgA B m L R C) L R C := H.same (fun k h1 h2 h3 => bgA_n (by omega) (by omega) (by omega) (by omega) (by omega))
theorem x_foretold {o c : Nat} {sa : Nat → Nat → Int} {si : Nat → Int} {sl : Nat → BitVec 64} {h : HP} {A : Nat → Int} {L R C : Nat} {c1 : Nat} {sb : Nat → Nat → Int} {sj : Nat → Int} {sm : Nat → BitVec 64} {z : Int} (hX : VX h o c sa si sl A L R C) (hz : ok32 z) : sp mX9_foretold [.ref o, .int (zI z)] (SH (o + 35) c1 sb sj sm h) 0 0 (px (some (.int (zI (if 1 ≤ z ∧ z ≤ 80 then stpN A L R C z.toNat 9 else -1)))) (fun _ : TR4 => True) (fun q => SH (o + 35) q.1 q.2.1 q.2.2.1 q.2.2.2 h)) := by
  obtain ⟨o_o0, ⟨nh, o_h0⟩, hS0, hR, hQ, hT⟩ := id hX
  have o_o : ∀ {c1 : Nat} {sb : Nat → Nat → Int} {sj : Nat → Int} {sm : Nat → BitVec 64}, (SH (o + 35) c1 sb sj sm h).2 o = some (.inr (8, xfs o)) := SHo (by unfold outS; omega) o_o0
  have o_h : ∀ {c1 : Nat} {sb : Nat → Nat → Int} {sj : Nat → Int} {sm : Nat → BitVec 64}, (SH (o + 35) c1 sb sj sm h).2 (o + 8) = some (.inr (4, hfs (o + 8) nh)) := SHo (by unfold outS; omega) o_h0
  have o_n : ∀ {c1 : Nat} {sb : Nat → Nat → Int} {sj : Nat → Int} {sm : Nat → BitVec 64}, (SH (o + 35) c1 sb sj sm h).2 (o + 8 + 4) = some (.inr (7, sfs (o + 8 + 4) c si sl)) := SHo (by unfold outS; omega) (hS0 0 (by omega))
  have hV := hQ.vc
  have hQP : CDQ (outS (o + 35)) h c A L R C := hQ.mono (fun x hx z => hx (by unfold stZ; omega)) (fun _ _ => rfl)
  obtain ⟨v1, v2, v3, v4, v5, v6, v7⟩ := id hV
  obtain ⟨hI, -, hSN, hA2⟩ := id hT
  have hLC := mulLe (a := L) (b := C) (x := 6) (y := 8) (by omega) (by omega)
  have hcf := fun (c1 : Nat) (sb : Nat → Nat → Int) (sj : Nat → Int) (sm : Nat → BitVec 64) => c8_copyFrom (a := o + 35) (a2 := o + 8 + 4) (c := c1) (sa := sb) (si := sj) (sl := sm) hS0 (fun j hj => by unfold outS; omega)
  refine sp_wp rfl (lv := [_, _]) rfl (Nat.le_of_ble_eq_true rfl) ?_
  refine w_iload_n dX9_foretold_0 rfl rfl ?_
  refine wc_S (Z := mX9_isSteps) (As := [_]) (c9_isSteps hz) kX9_isSteps lX9_166 sX9_isSteps dX9_foretold_1 rfl rfl rfl (Nat.le_of_ble_eq_true rfl) ⟨Nat.le_of_ble_eq_true rfl, Nat.le_of_ble_eq_true rfl⟩ ?_
  refine w_ifb_ne 9 dX9_foretold_4 (by decide) (fun h1 => ?_) (fun h1 => ?_)
  rotate_left
  · rw [if_neg h1]
    refine w_iconst dX9_foretold_7 ?_
    exact x_iret rfl rfl dX9_foretold_8 ⟨rfl, (c1, sb, sj, sm), trivial, rfl⟩
  · rw [if_pos h1]
    refine w_aload_n dX9_foretold_9 rfl rfl ?_
    refine w_getf fX9_36 dX9_foretold_10 o_o rfl ?_
    refine w_aload_n dX9_foretold_13 rfl rfl ?_
    refine w_getf fX9_19 dX9_foretold_14 o_o rfl ?_
    refine w_getf fX9_89 dX9_foretold_17 o_h rfl ?_
    refine wx_Vv (Z := mX8_copyFrom) (As := [_]) (hcf c1 sb sj sm) SC0 rfl kX8_copyFrom lX9_347 iX8_copyFrom vX8_copyFrom dX9_foretold_20 rfl rfl rfl (Nat.le_of_ble_eq_true rfl) ⟨Nat.le_of_ble_eq_true rfl, Nat.le_of_ble_eq_true rfl⟩ (fun s2 hs2 => ?_)
    refine w_aload_n dX9_foretold_23 rfl rfl ?_
    refine w_getf fX9_36 dX9_foretold_24 o_o rfl ?_
    refine w_iload_n dX9_foretold_27 rfl rfl ?_
    obtain ⟨n, hn⟩ : ∃ n : Nat, z = (n : Int) := ⟨z.toNat, by omega⟩
    subst hn
    rw [Int.toNat_natCast]
    refine wx_V (Z := mX8_go) (As := [_]) (c8_go hQP hI hSN (by omega) (hR.copy hs2 hV)) SC0 rfl kX8_go lX9_169 iX8_go vX8_go dX9_foretold_28 rfl rfl rfl (Nat.le_of_ble_eq_true rfl) ⟨Nat.le_of_ble_eq_true rfl, Nat.le_of_ble_eq_true rfl⟩ (fun q hq => ?_)
    refine w_pop dX9_foretold_31 rfl ?_
    refine w_aload_n dX9_foretold_32 rfl rfl ?_
    refine w_getf fX9_36 dX9_foretold_33 o_o rfl ?_
    refine w_getf fX9_150 dX9_foretold_36 SC0 rfl ?_
    refine x_iret rfl rfl dX9_foretold_39 ⟨?_, (c, q.1, q.2.1, q.2.2), trivial, rfl⟩
    rw [hq.1.2.2.2.1]
theorem x_believed {o c : Nat} {sa : Nat → Nat → Int} {si : Nat → Int} {sl : Nat → BitVec 64} {h : HP} {A : Nat → Int} {L R C : Nat} {c1 : Nat} {sb : Nat → Nat → Int} {sj : Nat → Int} {sm : Nat → BitVec 64} {z x : Int} (hX : VX h o c sa si sl A L R C) (hz : ok32 z) (hx : ok32 x) : sp mX9_believed [.ref o, .int (zI z), .int (zI x)] (SH (o + 35) c1 sb sj sm h) 0 0 (px (some (.int (zI (if (1 ≤ z ∧ z ≤ 80) ∧ 0 ≤ x ∧ x ≤ (L : Int) * C - 1 then stpN A L R C z.toNat (96 + x.toNat) else -100)))) (fun _ : TR4 => True) (fun q => SH (o + 35) q.1 q.2.1 q.2.2.1 q.2.2.2 h)) := by
  obtain ⟨o_o0, ⟨nh, o_h0⟩, hS0, hR, hQ, hT⟩ := id hX
  have o_o : ∀ {c1 : Nat} {sb : Nat → Nat → Int} {sj : Nat → Int} {sm : Nat → BitVec 64}, (SH (o + 35) c1 sb sj sm h).2 o = some (.inr (8, xfs o)) := SHo (by unfold outS; omega) o_o0
  have o_h : ∀ {c1 : Nat} {sb : Nat → Nat → Int} {sj : Nat → Int} {sm : Nat → BitVec 64}, (SH (o + 35) c1 sb sj sm h).2 (o + 8) = some (.inr (4, hfs (o + 8) nh)) := SHo (by unfold outS; omega) o_h0
  have o_n : ∀ {c1 : Nat} {sb : Nat → Nat → Int} {sj : Nat → Int} {sm : Nat → BitVec 64}, (SH (o + 35) c1 sb sj sm h).2 (o + 8 + 4) = some (.inr (7, sfs (o + 8 + 4) c si sl)) := SHo (by unfold outS; omega) (hS0 0 (by omega))
  have hV := hQ.vc
  have hQP : CDQ (outS (o + 35)) h c A L R C := hQ.mono (fun x hx z => hx (by unfold stZ; omega)) (fun _ _ => rfl)
  obtain ⟨v1, v2, v3, v4, v5, v6, v7⟩ := id hV
  obtain ⟨hI, -, hSN, hA2⟩ := id hT
  have hLC := mulLe (a := L) (b := C) (x := 6) (y := 8) (by omega) (by omega)
  have hcf := fun (c1 : Nat) (sb : Nat → Nat → Int) (sj : Nat → Int) (sm : Nat → BitVec 64) => c8_copyFrom (a := o + 35) (a2 := o + 8 + 4) (c := c1) (sa := sb) (si := sj) (sl := sm) hS0 (fun j hj => by unfold outS; omega)
  have hLCi : (L : Int) * C = ((L * C : Nat) : Int) := by push_cast; rfl
  have no : ¬ ((1 ≤ z ∧ z ≤ 80) ∧ 0 ≤ x ∧ x ≤ (L : Int) * C - 1) → wp mX9_believed 15 [.ref o, .int (zI z), .int (zI x)] [] (SH (o + 35) c1 sb sj sm h) 0 0 (px (some (.int (zI (if (1 ≤ z ∧ z ≤ 80) ∧ 0 ≤ x ∧ x ≤ (L : Int) * C - 1 then stpN A L R C z.toNat (96 + x.toNat) else -100)))) (fun _ : TR4 => True) (fun q => SH (o + 35) q.1 q.2.1 q.2.2.1 q.2.2.2 h)) := by
    intro hn
    rw [if_neg hn]
    refine w_bipush dX9_believed_15 (by decide) ?_
    exact x_iret rfl rfl dX9_believed_17 ⟨rfl, (c1, sb, sj, sm), trivial, rfl⟩
  refine sp_wp rfl (lv := [_, _, _]) rfl (Nat.le_of_ble_eq_true rfl) ?_
  refine w_iload_n dX9_believed_0 rfl rfl ?_
  refine wc_S (Z := mX9_isSteps) (As := [_]) (c9_isSteps hz) kX9_isSteps lX9_166 sX9_isSteps dX9_believed_1 rfl rfl rfl (Nat.le_of_ble_eq_true rfl) ⟨Nat.le_of_ble_eq_true rfl, Nat.le_of_ble_eq_true rfl⟩ ?_
  refine w_ifb_eq 15 dX9_believed_4 (by decide) (fun h1 => ?_) (fun h1 => ?_)
  · exact no (fun q => h1 q.1)
  · refine w_aload_n dX9_believed_7 rfl rfl ?_
    refine w_iload_n dX9_believed_8 rfl rfl ?_
    refine wc_V (Z := mX9_isBit) (As := [_]) (x_isBit hX.pl.vw hx) o_o rfl kX9_isBit lX9_129 iX9_isBit vX9_isBit dX9_believed_9 rfl rfl rfl (Nat.le_of_ble_eq_true rfl) ⟨Nat.le_of_ble_eq_true rfl, Nat.le_of_ble_eq_true rfl⟩ ?_
    refine w_ifb_ne 18 dX9_believed_12 (by decide) (fun h2 => ?_) (fun h2 => ?_)
    rotate_left
    · exact no (fun q => h2 q.2)
    · rw [if_pos ⟨h1, h2⟩]
      refine w_aload_n dX9_believed_18 rfl rfl ?_
      refine w_getf fX9_36 dX9_believed_19 o_o rfl ?_
      refine w_aload_n dX9_believed_22 rfl rfl ?_
      refine w_getf fX9_19 dX9_believed_23 o_o rfl ?_
      refine w_getf fX9_89 dX9_believed_26 o_h rfl ?_
      refine wx_Vv (Z := mX8_copyFrom) (As := [_]) (hcf c1 sb sj sm) SC0 rfl kX8_copyFrom lX9_347 iX8_copyFrom vX8_copyFrom dX9_believed_29 rfl rfl rfl (Nat.le_of_ble_eq_true rfl) ⟨Nat.le_of_ble_eq_true rfl, Nat.le_of_ble_eq_true rfl⟩ (fun s2 hs2 => ?_)
      refine w_aload_n dX9_believed_32 rfl rfl ?_
      refine w_getf fX9_36 dX9_believed_33 o_o rfl ?_
      refine w_iload_n dX9_believed_36 rfl rfl ?_
      obtain ⟨n, hn⟩ : ∃ n : Nat, z = (n : Int) := ⟨z.toNat, by omega⟩
      subst hn
      rw [Int.toNat_natCast]
      refine wx_V (Z := mX8_go) (As := [_]) (c8_go hQP hI hSN (by omega) (hR.copy hs2 hV)) SC0 rfl kX8_go lX9_169 iX8_go vX8_go dX9_believed_37 rfl rfl rfl (Nat.le_of_ble_eq_true rfl) ⟨Nat.le_of_ble_eq_true rfl, Nat.le_of_ble_eq_true rfl⟩ (fun q hq => ?_)
      refine w_pop dX9_believed_40 rfl ?_
      refine w_aload_n dX9_believed_41 rfl rfl ?_
      refine w_getf fX9_36 dX9_believed_42 o_o rfl ?_
      refine w_getf fX9_226 dX9_believed_45 SC0 rfl ?_
      refine w_iload_n dX9_believed_48 rfl rfl ?_
      refine w_iald x.toNat SC2 (by omega) (by omega) (by decide) dX9_believed_49 ?_
      refine x_iret rfl rfl dX9_believed_50 ⟨?_, (c, q.1, q.2.1, q.2.2), trivial, rfl⟩
      rw [hq.2.2.2.2.1 x.toNat (by omega)]
theorem x_till {o c : Nat} {sa : Nat → Nat → Int} {si : Nat → Int} {sl : Nat → BitVec 64} {h : HP} {A : Nat → Int} {L R C : Nat} {c1 : Nat} {sb : Nat → Nat → Int} {sj : Nat → Int} {sm : Nat → BitVec 64} (hX : VX h o c sa si sl A L R C) : sp mX9_till [.ref o] (SH (o + 35) c1 sb sj sm h) 0 0 (px (some (.int (zI (((stpC A L R C 80 : Nat) : Int))))) (fun _ : TR4 => True) (fun q => SH (o + 35) q.1 q.2.1 q.2.2.1 q.2.2.2 h)) := by
  obtain ⟨o_o0, ⟨nh, o_h0⟩, hS0, hR, hQ, hT⟩ := id hX
  have o_o : ∀ {c1 : Nat} {sb : Nat → Nat → Int} {sj : Nat → Int} {sm : Nat → BitVec 64}, (SH (o + 35) c1 sb sj sm h).2 o = some (.inr (8, xfs o)) := SHo (by unfold outS; omega) o_o0
  have o_h : ∀ {c1 : Nat} {sb : Nat → Nat → Int} {sj : Nat → Int} {sm : Nat → BitVec 64}, (SH (o + 35) c1 sb sj sm h).2 (o + 8) = some (.inr (4, hfs (o + 8) nh)) := SHo (by unfold outS; omega) o_h0
  have o_n : ∀ {c1 : Nat} {sb : Nat → Nat → Int} {sj : Nat → Int} {sm : Nat → BitVec 64}, (SH (o + 35) c1 sb sj sm h).2 (o + 8 + 4) = some (.inr (7, sfs (o + 8 + 4) c si sl)) := SHo (by unfold outS; omega) (hS0 0 (by omega))
  have hV := hQ.vc
  have hQP : CDQ (outS (o + 35)) h c A L R C := hQ.mono (fun x hx z => hx (by unfold stZ; omega)) (fun _ _ => rfl)
  obtain ⟨v1, v2, v3, v4, v5, v6, v7⟩ := id hV
  obtain ⟨hI, -, hSN, hA2⟩ := id hT
  have hLC := mulLe (a := L) (b := C) (x := 6) (y := 8) (by omega) (by omega)
  have hcf := fun (c1 : Nat) (sb : Nat → Nat → Int) (sj : Nat → Int) (sm : Nat → BitVec 64) => c8_copyFrom (a := o + 35) (a2 := o + 8 + 4) (c := c1) (sa := sb) (si := sj) (sl := sm) hS0 (fun j hj => by unfold outS; omega)
  refine sp_wp rfl (lv := [_]) rfl (Nat.le_of_ble_eq_true rfl) ?_
  refine w_aload_n dX9_till_0 rfl rfl ?_
  refine w_getf fX9_36 dX9_till_1 o_o rfl ?_
  refine w_aload_n dX9_till_4 rfl rfl ?_
  refine w_getf fX9_19 dX9_till_5 o_o rfl ?_
  refine w_getf fX9_89 dX9_till_8 o_h rfl ?_
  refine wx_Vv (Z := mX8_copyFrom) (As := [_]) (hcf c1 sb sj sm) SC0 rfl kX8_copyFrom lX9_347 iX8_copyFrom vX8_copyFrom dX9_till_11 rfl rfl rfl (Nat.le_of_ble_eq_true rfl) ⟨Nat.le_of_ble_eq_true rfl, Nat.le_of_ble_eq_true rfl⟩ (fun s2 hs2 => ?_)
  refine w_aload_n dX9_till_14 rfl rfl ?_
  refine w_getf fX9_36 dX9_till_15 o_o rfl ?_
  refine w_bipush dX9_till_18 (by decide) ?_
  refine wx_V (Z := mX8_go) (As := [_]) (c8_go (m := 80) hQP hI hSN (by omega) (hR.copy hs2 hV)) SC0 rfl kX8_go lX9_169 iX8_go vX8_go dX9_till_20 rfl rfl rfl (Nat.le_of_ble_eq_true rfl) ⟨Nat.le_of_ble_eq_true rfl, Nat.le_of_ble_eq_true rfl⟩ (fun q hq => ?_)
  exact x_iret rfl rfl dX9_till_23 ⟨rfl, (c, q.1, q.2.1, q.2.2), trivial, rfl⟩
theorem x_sweepsBy {o c : Nat} {sa : Nat → Nat → Int} {si : Nat → Int} {sl : Nat → BitVec 64} {h : HP} {A : Nat → Int} {L R C : Nat} {c1 : Nat} {sb : Nat → Nat → Int} {sj : Nat → Int} {sm : Nat → BitVec 64} {z : Int} (hX : VX h o c sa si sl A L R C) (hz : 0 ≤ z ∧ z ≤ 1) : sp mX9_sweepsBy [.ref o, .int (zI z)] (SH (o + 35) c1 sb sj sm h) 0 0 (px (some (.int (zI (swV A L R C z)))) (fun _ : TR4 => True) (fun q => SH (o + 35) q.1 q.2.1 q.2.2.1 q.2.2.2 h)) := by
  obtain ⟨o_o0, ⟨nh, o_h0⟩, hS0, hR, hQ, hT⟩ := id hX
  have o_o : ∀ {c1 : Nat} {sb : Nat → Nat → Int} {sj : Nat → Int} {sm : Nat → BitVec 64}, (SH (o + 35) c1 sb sj sm h).2 o = some (.inr (8, xfs o)) := SHo (by unfold outS; omega) o_o0
  have o_h : ∀ {c1 : Nat} {sb : Nat → Nat → Int} {sj : Nat → Int} {sm : Nat → BitVec 64}, (SH (o + 35) c1 sb sj sm h).2 (o + 8) = some (.inr (4, hfs (o + 8) nh)) := SHo (by unfold outS; omega) o_h0
  have o_n : ∀ {c1 : Nat} {sb : Nat → Nat → Int} {sj : Nat → Int} {sm : Nat → BitVec 64}, (SH (o + 35) c1 sb sj sm h).2 (o + 8 + 4) = some (.inr (7, sfs (o + 8 + 4) c si sl)) := SHo (by unfold outS; omega) (hS0 0 (by omega))
  have hV := hQ.vc
  have hQP : CDQ (outS (o + 35)) h c A L R C := hQ.mono (fun x hx z => hx (by unfold stZ; omega)) (fun _ _ => rfl)
  obtain ⟨v1, v2, v3, v4, v5, v6, v7⟩ := id hV
  obtain ⟨hI, -, hSN, hA2⟩ := id hT
  have hLC := mulLe (a := L) (b := C) (x := 6) (y := 8) (by omega) (by omega)
  have hcf := fun (c1 : Nat) (sb : Nat → Nat → Int) (sj : Nat → Int) (sm : Nat → BitVec 64) => c8_copyFrom (a := o + 35) (a2 := o + 8 + 4) (c := c1) (sa := sb) (si := sj) (sl := sm) hS0 (fun j hj => by unfold outS; omega)
  obtain ⟨t1, t2, t3, t4⟩ := bg_top hT hz
  refine sp_wp rfl (lv := [_, _]) rfl (Nat.le_of_ble_eq_true rfl) ?_
  refine w_aload_n dX9_sweepsBy_0 rfl rfl ?_
  refine w_getf fX9_36 dX9_sweepsBy_1 o_o rfl ?_
  refine w_aload_n dX9_sweepsBy_4 rfl rfl ?_
  refine w_getf fX9_19 dX9_sweepsBy_5 o_o rfl ?_
  refine w_getf fX9_89 dX9_sweepsBy_8 o_h rfl ?_
  refine wx_Vv (Z := mX8_copyFrom) (As := [_]) (hcf c1 sb sj sm) SC0 rfl kX8_copyFrom lX9_347 iX8_copyFrom vX8_copyFrom dX9_sweepsBy_11 rfl rfl rfl (Nat.le_of_ble_eq_true rfl) ⟨Nat.le_of_ble_eq_true rfl, Nat.le_of_ble_eq_true rfl⟩ (fun s2 hs2 => ?_)
  refine w_aload_n dX9_sweepsBy_14 rfl rfl ?_
  refine w_getf fX9_36 dX9_sweepsBy_15 o_o rfl ?_
  refine w_iload_n dX9_sweepsBy_18 rfl rfl ?_
  refine wx_Vv (Z := mX8_start) (As := [_]) (c8_start (m := z) hQP hI.ok (hR.copy hs2 hV).pre) SC0 rfl kX8_start lX9_147 iX8_start vX8_start dX9_sweepsBy_19 rfl rfl rfl (Nat.le_of_ble_eq_true rfl) ⟨Nat.le_of_ble_eq_true rfl, Nat.le_of_ble_eq_true rfl⟩ (fun q hq => ?_)
  refine w_aload_n dX9_sweepsBy_22 rfl rfl ?_
  refine w_getf fX9_36 dX9_sweepsBy_23 o_o rfl ?_
  refine w_bipush dX9_sweepsBy_26 (by decide) ?_
  refine wx_V (Z := mX8_go) (As := [_]) (c8_go (m := 80) (cdq_bg hQP) t1 t3 (by omega) hq) SC0 rfl kX8_go lX9_169 iX8_go vX8_go dX9_sweepsBy_28 rfl rfl rfl (Nat.le_of_ble_eq_true rfl) ⟨Nat.le_of_ble_eq_true rfl, Nat.le_of_ble_eq_true rfl⟩ (fun p hp => ?_)
  obtain ⟨u1', u2', u3', u4'⟩ := stp_top (bg_top hT hz) 80
  have k9 : 0 ≤ swD A L R C z 9 ∧ swD A L R C z 9 ≤ 2 := u1' 9
  have e4 : p.2.1 4 = swD A L R C z 9 := hp.1.2.2.2.1
  have e5 : p.2.1 5 = swD A L R C z 10 := hp.1.2.2.2.2.1
  refine w_pop dX9_sweepsBy_31 rfl ?_
  refine w_aload_n dX9_sweepsBy_32 rfl rfl ?_
  refine w_getf fX9_36 dX9_sweepsBy_33 o_o rfl ?_
  refine w_getf fX9_150 dX9_sweepsBy_36 SC0 rfl ?_
  rw [e4]
  refine w_iconst dX9_sweepsBy_39 ?_
  refine w_icmp_ne 53 dX9_sweepsBy_40 (by decide) (by unfold ok32; omega) (by unfold ok32; omega) (fun h1 => ?_) (fun h1 => ?_)
  · unfold swV
    rw [if_neg h1]
    refine w_iconst dX9_sweepsBy_53 ?_
    exact x_iret rfl rfl dX9_sweepsBy_54 ⟨rfl, (c, p.1, p.2.1, p.2.2), trivial, rfl⟩
  · unfold swV
    rw [if_pos (by omega), ← e5]
    refine w_aload_n dX9_sweepsBy_43 rfl rfl ?_
    refine w_getf fX9_36 dX9_sweepsBy_44 o_o rfl ?_
    refine w_getf fX9_196 dX9_sweepsBy_47 SC0 rfl ?_
    refine w_goto 54 dX9_sweepsBy_50 (by decide) ?_
    exact x_iret rfl rfl dX9_sweepsBy_54 ⟨rfl, (c, p.1, p.2.1, p.2.2), trivial, rfl⟩
theorem x_fewer {o c : Nat} {sa : Nat → Nat → Int} {si : Nat → Int} {sl : Nat → BitVec 64} {h : HP} {A : Nat → Int} {L R C : Nat} {c1 : Nat} {sb : Nat → Nat → Int} {sj : Nat → Int} {sm : Nat → BitVec 64} (hX : VX h o c sa si sl A L R C) : sp mX9_fewer [.ref o] (SH (o + 35) c1 sb sj sm h) 0 0 (px (some (.int (zI (if swV A L R C 0 = -1 then (if swV A L R C 1 = -1 then -1 else 1) else if ¬ swV A L R C 1 = -1 ∧ swV A L R C 1 < swV A L R C 0 then 1 else 0)))) (fun _ : TR4 => True) (fun q => SH (o + 35) q.1 q.2.1 q.2.2.1 q.2.2.2 h)) := by
  obtain ⟨o_o0, ⟨nh, o_h0⟩, hS0, hR, hQ, hT⟩ := id hX
  have o_o : ∀ {c1 : Nat} {sb : Nat → Nat → Int} {sj : Nat → Int} {sm : Nat → BitVec 64}, (SH (o + 35) c1 sb sj sm h).2 o = some (.inr (8, xfs o)) := SHo (by unfold outS; omega) o_o0
  have o_h : ∀ {c1 : Nat} {sb : Nat → Nat → Int} {sj : Nat → Int} {sm : Nat → BitVec 64}, (SH (o + 35) c1 sb sj sm h).2 (o + 8) = some (.inr (4, hfs (o + 8) nh)) := SHo (by unfold outS; omega) o_h0
  have o_n : ∀ {c1 : Nat} {sb : Nat → Nat → Int} {sj : Nat → Int} {sm : Nat → BitVec 64}, (SH (o + 35) c1 sb sj sm h).2 (o + 8 + 4) = some (.inr (7, sfs (o + 8 + 4) c si sl)) := SHo (by unfold outS; omega) (hS0 0 (by omega))
  have hV := hQ.vc
  have hQP : CDQ (outS (o + 35)) h c A L R C := hQ.mono (fun x hx z => hx (by unfold stZ; omega)) (fun _ _ => rfl)
  obtain ⟨v1, v2, v3, v4, v5, v6, v7⟩ := id hV
  obtain ⟨hI, -, hSN, hA2⟩ := id hT
  have hLC := mulLe (a := L) (b := C) (x := 6) (y := 8) (by omega) (by omega)
  have hcf := fun (c1 : Nat) (sb : Nat → Nat → Int) (sj : Nat → Int) (sm : Nat → BitVec 64) => c8_copyFrom (a := o + 35) (a2 := o + 8 + 4) (c := c1) (sa := sb) (si := sj) (sl := sm) hS0 (fun j hj => by unfold outS; omega)
  have r0 := sw_rng (m := 0) hT (by decide)
  have r1 := sw_rng (m := 1) hT (by decide)
  refine sp_wp rfl (lv := [_, _, _]) rfl (Nat.le_of_ble_eq_true rfl) ?_
  refine w_aload_n dX9_fewer_0 rfl rfl ?_
  refine w_iconst dX9_fewer_1 ?_
  refine wx_V (Z := mX9_sweepsBy) (As := [_]) (x_sweepsBy hX (by decide)) o_o rfl kX9_sweepsBy lX9_351 iX9_sweepsBy vX9_sweepsBy dX9_fewer_2 rfl rfl rfl (Nat.le_of_ble_eq_true rfl) ⟨Nat.le_of_ble_eq_true rfl, Nat.le_of_ble_eq_true rfl⟩ (fun q hq => ?_)
  refine w_istore_n (lv' := [_, _, _]) dX9_fewer_5 rfl (Nat.le_of_ble_eq_true rfl) rfl rfl ?_
  refine w_aload_n dX9_fewer_6 rfl rfl ?_
  refine w_iconst dX9_fewer_7 ?_
  refine wx_V (Z := mX9_sweepsBy) (As := [_]) (x_sweepsBy hX (by decide)) o_o rfl kX9_sweepsBy lX9_351 iX9_sweepsBy vX9_sweepsBy dX9_fewer_8 rfl rfl rfl (Nat.le_of_ble_eq_true rfl) ⟨Nat.le_of_ble_eq_true rfl, Nat.le_of_ble_eq_true rfl⟩ (fun p hp => ?_)
  refine w_istore_n (lv' := [_, _, _]) dX9_fewer_11 rfl (Nat.le_of_ble_eq_true rfl) rfl rfl ?_
  refine w_iload_n dX9_fewer_12 rfl rfl ?_
  refine w_iconst dX9_fewer_13 ?_
  have fin : ∀ v : Int, v = (if swV A L R C 0 = -1 then (if swV A L R C 1 = -1 then -1 else 1) else if ¬ swV A L R C 1 = -1 ∧ swV A L R C 1 < swV A L R C 0 then 1 else 0) → px (some (.int (zI (if swV A L R C 0 = -1 then (if swV A L R C 1 = -1 then -1 else 1) else if ¬ swV A L R C 1 = -1 ∧ swV A L R C 1 < swV A L R C 0 then 1 else 0)))) (fun _ : TR4 => True) (fun q => SH (o + 35) q.1 q.2.1 q.2.2.1 q.2.2.2 h) (some (.int (zI v))) (SH (o + 35) p.1 p.2.1 p.2.2.1 p.2.2.2 h) := fun v hv => ⟨by rw [hv], p, trivial, rfl⟩
  refine w_icmp_ne 24 dX9_fewer_14 (by decide) (by unfold ok32; omega) (by unfold ok32; omega) (fun h1 => ?_) (fun h1 => ?_)
  · refine w_iload_n dX9_fewer_24 rfl rfl ?_
    refine w_iconst dX9_fewer_25 ?_
    refine w_icmp_ne 31 dX9_fewer_26 (by decide) (by unfold ok32; omega) (by unfold ok32; omega) (fun h2 => ?_) (fun h2 => ?_)
    · refine w_iload_n dX9_fewer_31 rfl rfl ?_
      refine w_iconst dX9_fewer_32 ?_
      refine w_icmp_eq 45 dX9_fewer_33 (by decide) (by unfold ok32; omega) (by unfold ok32; omega) (fun h3 => ?_) (fun h3 => ?_)
      · refine w_iconst dX9_fewer_45 ?_
        exact x_iret rfl rfl dX9_fewer_46 (fin 0 (by rw [if_neg h1, if_neg (fun q => q.1 h3)]))
      · refine w_iload_n dX9_fewer_36 rfl rfl ?_
        refine w_iload_n dX9_fewer_37 rfl rfl ?_
        refine w_icmp_ge 45 dX9_fewer_38 (by decide) (by unfold ok32; omega) (by unfold ok32; omega) (fun h4 => ?_) (fun h4 => ?_)
        · refine w_iconst dX9_fewer_45 ?_
          exact x_iret rfl rfl dX9_fewer_46 (fin 0 (by rw [if_neg h1, if_neg (by omega)]))
        · refine w_iconst dX9_fewer_41 ?_
          refine w_goto 46 dX9_fewer_42 (by decide) ?_
          exact x_iret rfl rfl dX9_fewer_46 (fin 1 (by rw [if_neg h1, if_pos ⟨h3, by omega⟩]))
    · exact absurd h2 h1
  · refine w_iload_n dX9_fewer_17 rfl rfl ?_
    refine w_iconst dX9_fewer_18 ?_
    refine w_icmp_ne 24 dX9_fewer_19 (by decide) (by unfold ok32; omega) (by unfold ok32; omega) (fun h2 => ?_) (fun h2 => ?_)
    · refine w_iload_n dX9_fewer_24 rfl rfl ?_
      refine w_iconst dX9_fewer_25 ?_
      refine w_icmp_ne 31 dX9_fewer_26 (by decide) (by unfold ok32; omega) (by unfold ok32; omega) (fun h3 => ?_) (fun h3 => ?_)
      · exact absurd h1 h3
      · refine w_iconst dX9_fewer_29 ?_
        exact x_iret rfl rfl dX9_fewer_30 (fin 1 (by rw [if_pos h1, if_neg h2]))
    · refine w_iconst dX9_fewer_22 ?_
      exact x_iret rfl rfl dX9_fewer_23 (fin (-1) (by rw [if_pos h1, if_pos h2]))
theorem pre_hr {sa : Nat → Nat → Int} {si : Nat → Int} {sl : Nat → BitVec 64} {A : Nat → Int} {L R C : Nat} {x : BitVec 64} {lv : Int} {g : Nat → Int} (h : REL sa si sl A L R C) (hn : L * C ≤ 48) (hg : ∀ b, b < L * C → g b = if x.getLsbD b = true then -lv else lv) : PRE (u1 sa 1 g) si sl (hrA A x lv (L * C)) L R C := by
  obtain ⟨⟨s1, s2, s3, s4, s5, s6⟩, -, -, b1, b2, b3, b4, b6⟩ := h
  refine ⟨?_, ?_, fun b hb => ?_, fun p hp => ?_⟩
  · rw [s1]
    unfold sentB hrA
    rw [fillR_n (by omega), fillR_n (by omega)]
  · rw [s2]
    unfold hrA
    rw [fillR_n (by omega)]
  · rw [u1_s, hg b hb]
    unfold hrA
    rw [fillR_i hb]
  · rw [u1_n (by decide), b6 p hp]
    unfold hrA
    rw [fillR_n (by omega)]

theorem x_trap {o c : Nat} {sa : Nat → Nat → Int} {si : Nat → Int} {sl : Nat → BitVec 64} {h : HP} {A : Nat → Int} {L R C : Nat} {c1 : Nat} {sb : Nat → Nat → Int} {sj : Nat → Int} {sm : Nat → BitVec 64} {x : BitVec 64} {z : Int} (hX : VX h o c sa si sl A L R C) (hz : 1 ≤ z ∧ z ≤ 31) : sp mX9_trap [.ref o, .long (lB x), .int (zI z)] (SH (o + 35) c1 sb sj sm h) 0 0 (px (some (.int (zI (endV A L R C x z)))) (fun _ : TR4 => True) (fun q => SH (o + 35) q.1 q.2.1 q.2.2.1 q.2.2.2 h)) := by
  obtain ⟨o_o0, ⟨nh, o_h0⟩, hS0, hR, hQ, hT⟩ := id hX
  have o_o : ∀ {c1 : Nat} {sb : Nat → Nat → Int} {sj : Nat → Int} {sm : Nat → BitVec 64}, (SH (o + 35) c1 sb sj sm h).2 o = some (.inr (8, xfs o)) := SHo (by unfold outS; omega) o_o0
  have o_h : ∀ {c1 : Nat} {sb : Nat → Nat → Int} {sj : Nat → Int} {sm : Nat → BitVec 64}, (SH (o + 35) c1 sb sj sm h).2 (o + 8) = some (.inr (4, hfs (o + 8) nh)) := SHo (by unfold outS; omega) o_h0
  have o_n : ∀ {c1 : Nat} {sb : Nat → Nat → Int} {sj : Nat → Int} {sm : Nat → BitVec 64}, (SH (o + 35) c1 sb sj sm h).2 (o + 8 + 4) = some (.inr (7, sfs (o + 8 + 4) c si sl)) := SHo (by unfold outS; omega) (hS0 0 (by omega))
  have hV := hQ.vc
  have hQP : CDQ (outS (o + 35)) h c A L R C := hQ.mono (fun x hx z => hx (by unfold stZ; omega)) (fun _ _ => rfl)
  obtain ⟨v1, v2, v3, v4, v5, v6, v7⟩ := id hV
  obtain ⟨hI, -, hSN, hA2⟩ := id hT
  have hLC := mulLe (a := L) (b := C) (x := 6) (y := 8) (by omega) (by omega)
  have hcf := fun (c1 : Nat) (sb : Nat → Nat → Int) (sj : Nat → Int) (sm : Nat → BitVec 64) => c8_copyFrom (a := o + 35) (a2 := o + 8 + 4) (c := c1) (sa := sb) (si := sj) (sl := sm) hS0 (fun j hj => by unfold outS; omega)
  obtain ⟨j1, j2, j3⟩ := hrA_ok (x := x) (n := L * C) hT hz (by omega)
  obtain ⟨t1, t2, t3, t4⟩ := id j3
  have hQH : CDQ (outS (o + 35)) h c (hrA A x z (L * C)) L R C := hQP.same (fun k h1 h2 h3 => fillR_n (by omega))
  obtain ⟨ad, f7, f8, f10, f9, f11, rk, cr, -, h6, h7, o_c0, r70, r80, r90, r100, r110, e7, e8, e9, e10, hRD, p0, p7, p8, p9, p10, p11⟩ := id hQP
  have o_c : ∀ {c1 : Nat} {sb : Nat → Nat → Int} {sj : Nat → Int} {sm : Nat → BitVec 64}, (SH (o + 35) c1 sb sj sm h).2 c = some (.inr (2, cfs L R C (A 6) (A 7) ad rk cr)) := SHo p0 o_c0
  refine sp_wp rfl (lv := [_, _, _, _, _]) rfl (Nat.le_of_ble_eq_true rfl) ?_
  refine w_aload_n dX9_trap_0 rfl rfl ?_
  refine w_getf fX9_36 dX9_trap_1 o_o rfl ?_
  refine w_aload_n dX9_trap_4 rfl rfl ?_
  refine w_getf fX9_19 dX9_trap_5 o_o rfl ?_
  refine w_getf fX9_89 dX9_trap_8 o_h rfl ?_
  refine wx_Vv (Z := mX8_copyFrom) (As := [_]) (hcf c1 sb sj sm) SC0 rfl kX8_copyFrom lX9_347 iX8_copyFrom vX8_copyFrom dX9_trap_11 rfl rfl rfl (Nat.le_of_ble_eq_true rfl) ⟨Nat.le_of_ble_eq_true rfl, Nat.le_of_ble_eq_true rfl⟩ (fun s2 hs2 => ?_)
  have hR2 := hR.copy hs2 hV
  refine w_iconst dX9_trap_14 ?_
  refine w_istore (lv' := [_, _, _, _, _]) dX9_trap_15 (Nat.le_of_ble_eq_true rfl) rfl rfl ?_
  have key : ∀ b, b ≤ L * C → ∀ g : Nat → Int, (∀ i, i < b → g i = if x.getLsbD i = true then -z else z) → wp mX9_trap 17 [.ref o, .long (lB x), jk, .int (zI z), .int (zI (b : Int))] [] (SH (o + 35) c (u1 s2 1 g) si sl h) 0 0 (px (some (.int (zI (endV A L R C x z)))) (fun _ : TR4 => True) (fun q => SH (o + 35) q.1 q.2.1 q.2.2.1 q.2.2.2 h)) := by
    refine up_ind (fun b hb ih g hg => ?_)
    refine w_iload dX9_trap_17 rfl ?_
    refine w_aload_n dX9_trap_19 rfl rfl ?_
    refine w_getf fX9_36 dX9_trap_20 o_o rfl ?_
    refine w_getf fX9_98 dX9_trap_23 SC0 rfl ?_
    refine w_getf fX9_95 dX9_trap_26 o_c rfl ?_
    refine w_icmp_ge 65 dX9_trap_29 (by decide) (by first | assumption | (unfold ok32 at *; omega)) (by first | assumption | (unfold ok32 at *; omega)) (fun hc => ?_) (fun hc => ?_)
    · have hbe : b = L * C := by omega
      subst hbe
      refine w_aload_n dX9_trap_65 rfl rfl ?_
      refine w_getf fX9_36 dX9_trap_66 o_o rfl ?_
      refine w_iconst dX9_trap_69 ?_
      refine wx_Vv (Z := mX8_start) (As := [_]) (c8_start (m := 0) hQH j1.ok (pre_hr hR2 (by omega) hg)) SC0 rfl kX8_start lX9_147 iX8_start vX8_start dX9_trap_70 rfl rfl rfl (Nat.le_of_ble_eq_true rfl) ⟨Nat.le_of_ble_eq_true rfl, Nat.le_of_ble_eq_true rfl⟩ (fun q hq => ?_)
      refine w_aload_n dX9_trap_73 rfl rfl ?_
      refine w_getf fX9_36 dX9_trap_74 o_o rfl ?_
      refine w_bipush dX9_trap_77 (by decide) ?_
      refine wx_V (Z := mX8_go) (As := [_]) (c8_go (m := 80) (cdq_bg hQH) t1 t3 (by omega) hq) SC0 rfl kX8_go lX9_169 iX8_go vX8_go dX9_trap_79 rfl rfl rfl (Nat.le_of_ble_eq_true rfl) ⟨Nat.le_of_ble_eq_true rfl, Nat.le_of_ble_eq_true rfl⟩ (fun p hp => ?_)
      have e4 : p.2.1 4 = endD A L R C x z 9 := hp.1.2.2.2.1
      have e8' : p.2.2 8 = gA (endD A L R C x z) (L * C) := hp.2.1.1
      have nz : ¬ endD A L R C x z 9 = 0 := stp_ends j3 (by
        show bgA (hrA A x z (L * C)) 0 L R C 8 = 0
        unfold bgA bg0
        rw [u1_n (by decide), if_pos rfl])
      have nl : endD A L R C x z 9 = 2 → ¬ gA (endD A L R C x z) (L * C) = 0#64 := stp_lost j3 (by
        show ¬ bgA (hrA A x z (L * C)) 0 L R C 9 = 2
        unfold bgA
        rw [u1_s]
        have := bI_rng (oddN (cs (hrA A x z (L * C)) L C) (gset (fun b => hrA A x z (L * C) (48 + b)) (L * C)) (L * R) = 0)
        omega) 80
      obtain ⟨w1, -, -, -⟩ := stp_top j3 80
      have k9 : 0 ≤ endD A L R C x z 9 ∧ endD A L R C x z 9 ≤ 2 := w1 9
      refine w_pop dX9_trap_82 rfl ?_
      refine w_aload_n dX9_trap_83 rfl rfl ?_
      refine w_getf fX9_36 dX9_trap_84 o_o rfl ?_
      refine w_getf fX9_229 dX9_trap_87 SC0 rfl ?_
      rw [e8']
      refine w_lconst0 dX9_trap_90 ?_
      refine w_lc_ne 97 dX9_trap_91 dX9_trap_92 (by decide) (fun hg0 => ?_) (fun hg0 => ?_)
      · refine w_aload_n dX9_trap_97 rfl rfl ?_
        refine w_getf fX9_36 dX9_trap_98 o_o rfl ?_
        refine w_getf fX9_150 dX9_trap_101 SC0 rfl ?_
        refine x_iret rfl rfl dX9_trap_104 ⟨?_, (c, p.1, p.2.1, p.2.2), trivial, rfl⟩
        rw [e4]
        unfold endV
        by_cases h2 : endD A L R C x z 9 = 2
        · rw [if_pos h2, h2]
        · rw [if_neg h2, if_neg hg0, show endD A L R C x z 9 = 1 by omega]
      · have hg1 : gA (endD A L R C x z) (L * C) = 0#64 := hg0
        refine w_iconst dX9_trap_95 ?_
        refine x_iret rfl rfl dX9_trap_96 ⟨?_, (c, p.1, p.2.1, p.2.2), trivial, rfl⟩
        unfold endV
        rw [if_neg (fun q => nl q hg1), if_pos hg1]
    · have hbl : b < L * C := by omega
      have st : ∀ v : Int, v = (if x.getLsbD b = true then -z else z) → wp mX9_trap 58 [.ref o, .long (lB x), jk, .int (zI z), .int (zI (b : Int))] [.int (zI v), .int (zI (b : Int)), .ref (o + 35 + 1)] (SH (o + 35) c (u1 s2 1 g) si sl h) 0 0 (px (some (.int (zI (endV A L R C x z)))) (fun _ : TR4 => True) (fun q => SH (o + 35) q.1 q.2.1 q.2.2.1 q.2.2.2 h)) := by
        intro v hv
        refine sc_ist1 b rfl (by omega) dX9_trap_58 ?_
        refine w_cast rfl rfl (show _ = SH (o + 35) c (u1 s2 1 (u1 g b v)) si sl h from by rw [u1_s, u1_u1]) ?_
        refine w_iinc (lv' := [_, _, _, _, _]) dX9_trap_59 rfl rfl rfl ?_
        refine w_goto 17 dX9_trap_62 (by decide) ?_
        have := ih hbl (u1 g b v) (fun i hi => by
          by_cases hib : i = b
          · rw [hib, u1_s, hv]
          · rw [u1_n hib]; exact hg i (by omega))
        push_cast at this
        exact this
      refine w_aload_n dX9_trap_32 rfl rfl ?_
      refine w_getf fX9_36 dX9_trap_33 o_o rfl ?_
      refine w_getf fX9_133 dX9_trap_36 SC0 rfl ?_
      refine w_iload dX9_trap_39 rfl ?_
      refine w_lload_n dX9_trap_41 rfl rfl ?_
      refine w_iload dX9_trap_42 rfl ?_
      refine w_lshr b rfl (by omega) dX9_trap_44 ?_
      refine w_lconst1 dX9_trap_45 ?_
      refine w_land dX9_trap_46 ?_
      rw [sshr_bit (show b < 64 by omega)]
      refine w_lconst0 dX9_trap_47 ?_
      refine w_lc_eq 57 dX9_trap_48 dX9_trap_49 (by decide) (fun hzz => ?_) (fun hzz => ?_)
      · refine w_iload_n dX9_trap_57 rfl rfl ?_
        exact st z (by rw [if_neg (fun q => by rw [if_pos q] at hzz; exact absurd hzz (by decide))])
      · have hxb : x.getLsbD b = true := Classical.byContradiction fun q => by rw [if_neg q] at hzz; exact hzz rfl
        refine w_iload_n dX9_trap_52 rfl rfl ?_
        refine w_ineg dX9_trap_53 ?_
        refine w_goto 58 dX9_trap_54 (by decide) ?_
        exact st (-z) (by rw [if_pos hxb])
  have := key 0 (Nat.zero_le _) (s2 1) (fun i hi => absurd hi (Nat.not_lt_zero _))
  rw [u1_id] at this
  exact this
theorem sentB_c {A D : Nat → Int} (h1 : D 46 = A 46) (h2 : D 47 = A 47) : sentB D = sentB A := by unfold sentB; rw [h1, h2]
theorem pre_sn {sa : Nat → Nat → Int} {si : Nat → Int} {sl : Nat → BitVec 64} {A : Nat → Int} {L R C : Nat} {lv sp : Int} {g : Nat → Int} (h : REL sa si sl A L R C) (hn : L * C ≤ 48) (hg : ∀ b, b < L * C → g b = snN A (sentB A) lv sp (L * C) (48 + b)) : PRE (u1 sa 1 g) (u1 si 2 (snN A (sentB A) lv sp (L * C) 12)) sl (snN A (sentB A) lv sp (L * C)) L R C := by
  obtain ⟨⟨s1, s2, s3, s4, s5, s6⟩, -, -, b1, b2, b3, b4, b6⟩ := h
  refine ⟨?_, u1_s, fun b hb => ?_, fun p hp => ?_⟩
  · rw [s1]
    exact (sentB_c (snN_n (by omega) (by omega)) (snN_n (by omega) (by omega))).symm
  · rw [u1_s]; exact hg b hb
  · rw [u1_n (by decide), b6 p hp, snN_n (by omega) (by omega)]
theorem trC_3 {A : Nat → Int} {L R C : Nat} {lv sp : Int} {k : Nat} : trC A L R C lv sp (k + 1) 3 = trC A L R C lv sp k 3 + trA A L R C lv sp (k + 1) 10 := by
  have hw : ¬ (3 : Nat) = trW (trA A L R C lv sp (k + 1)) (L * C) := by unfold trW; split <;> (try split) <;> omega
  show u1 _ 3 _ 3 = _
  rw [u1_s, u1_n hw]
theorem trC_w {A : Nat → Int} {L R C : Nat} {lv sp : Int} {k w : Nat} (hw : w < 3) : trC A L R C lv sp (k + 1) w = trC A L R C lv sp k w + if trW (trA A L R C lv sp (k + 1)) (L * C) = w then 1 else 0 := by
  show u1 _ 3 _ w = _
  rw [u1_n (by omega)]
  by_cases h : trW (trA A L R C lv sp (k + 1)) (L * C) = w
  · rw [if_pos h, h, u1_s]
  · rw [if_neg h, u1_n (fun e => h e.symm)]
    omega
theorem trA_cdq {P : Nat → Prop} {h : HP} {c : Nat} {A : Nat → Int} {L R C : Nat} {lv sp : Int} (H : CDQ P h c A L R C) (hT : TOP A L R C) (hl : 1 ≤ lv ∧ lv ≤ 31) (hn : L * C ≤ 48) : ∀ k, CDQ P h c (trA A L R C lv sp k) L R C
  | 0 => H
  | k + 1 => by
    have ih := trA_cdq (sp := sp) H hT hl hn k
    have j1 : TOP (trB (trA A L R C lv sp k) L C lv sp) L R C := snN_top (trA_ok (sp := sp) hT hl hn k).1 hl hn
    have h1 : CDQ P h c (trB (trA A L R C lv sp k) L C lv sp) L R C := ih.same (fun i h1 h2 h3 => snN_n (by omega) (by omega))
    have j3 : 0 ≤ trB (trA A L R C lv sp k) L C lv sp 8 ∧ trB (trA A L R C lv sp k) L C lv sp 8 ≤ 1 := j1.1 8
    obtain ⟨t1, t2, t3, t4⟩ := bg_top j1 j3
    exact (cdq_bg h1).sm (stpN_ok t1 t2 t3 80).2.1
set_option maxRecDepth 8000 in
theorem x_trials {o c : Nat} {sa : Nat → Nat → Int} {si : Nat → Int} {sl : Nat → BitVec 64} {h : HP} {A : Nat → Int} {L R C : Nat} {c1 : Nat} {sb : Nat → Nat → Int} {sj : Nat → Int} {sm : Nat → BitVec 64} {z x y w : Int} (hX : VX h o c sa si sl A L R C) (hz : ok32 z) (hx : ok32 x) (hy : ok32 y) (hw : ok32 w) : sp mX9_trials [.ref o, .int (zI z), .int (zI x), .int (zI y), .int (zI w)] (SH (o + 35) c1 sb sj sm h) 0 0 (px (some (.int (zI (if ((1 ≤ z ∧ z ≤ 31) ∧ 0 ≤ x ∧ x ≤ 100) ∧ (1 ≤ y ∧ y ≤ 20) ∧ 0 ≤ w ∧ w ≤ 3 then trC A L R C z x y.toNat w.toNat else -1)))) (fun _ : TR4 => True) (fun q => SH (o + 35) q.1 q.2.1 q.2.2.1 q.2.2.2 h)) := by
  obtain ⟨o_o0, ⟨nh, o_h0⟩, hS0, hR, hQ, hT⟩ := id hX
  have o_o : ∀ {c1 : Nat} {sb : Nat → Nat → Int} {sj : Nat → Int} {sm : Nat → BitVec 64}, (SH (o + 35) c1 sb sj sm h).2 o = some (.inr (8, xfs o)) := SHo (by unfold outS; omega) o_o0
  have o_h : ∀ {c1 : Nat} {sb : Nat → Nat → Int} {sj : Nat → Int} {sm : Nat → BitVec 64}, (SH (o + 35) c1 sb sj sm h).2 (o + 8) = some (.inr (4, hfs (o + 8) nh)) := SHo (by unfold outS; omega) o_h0
  have o_n : ∀ {c1 : Nat} {sb : Nat → Nat → Int} {sj : Nat → Int} {sm : Nat → BitVec 64}, (SH (o + 35) c1 sb sj sm h).2 (o + 8 + 4) = some (.inr (7, sfs (o + 8 + 4) c si sl)) := SHo (by unfold outS; omega) (hS0 0 (by omega))
  have hV := hQ.vc
  have hQP : CDQ (outS (o + 35)) h c A L R C := hQ.mono (fun x hx z => hx (by unfold stZ; omega)) (fun _ _ => rfl)
  obtain ⟨v1, v2, v3, v4, v5, v6, v7⟩ := id hV
  obtain ⟨hI, -, hSN, hA2⟩ := id hT
  have hLC := mulLe (a := L) (b := C) (x := 6) (y := 8) (by omega) (by omega)
  have hcf := fun (c1 : Nat) (sb : Nat → Nat → Int) (sj : Nat → Int) (sm : Nat → BitVec 64) => c8_copyFrom (a := o + 35) (a2 := o + 8 + 4) (c := c1) (sa := sb) (si := sj) (sl := sm) hS0 (fun j hj => by unfold outS; omega)
  have no : ¬ (((1 ≤ z ∧ z ≤ 31) ∧ 0 ≤ x ∧ x ≤ 100) ∧ (1 ≤ y ∧ y ≤ 20) ∧ 0 ≤ w ∧ w ≤ 3) → ∀ x5 x6 : Value, wp mX9_trials 36 [.ref o, .int (zI z), .int (zI x), .int (zI y), .int (zI w), x5, x6] [] (SH (o + 35) c1 sb sj sm h) 0 0 (px (some (.int (zI (if ((1 ≤ z ∧ z ≤ 31) ∧ 0 ≤ x ∧ x ≤ 100) ∧ (1 ≤ y ∧ y ≤ 20) ∧ 0 ≤ w ∧ w ≤ 3 then trC A L R C z x y.toNat w.toNat else -1)))) (fun _ : TR4 => True) (fun q => SH (o + 35) q.1 q.2.1 q.2.2.1 q.2.2.2 h)) := by
    intro hn x5 x6
    rw [if_neg hn]
    refine w_iconst dX9_trials_36 ?_
    exact x_iret rfl rfl dX9_trials_37 ⟨rfl, (c1, sb, sj, sm), trivial, rfl⟩
  refine sp_wp rfl (lv := [_, _, _, _, _, _, _]) rfl (Nat.le_of_ble_eq_true rfl) ?_
  refine w_iload_n dX9_trials_0 rfl rfl ?_
  refine wc_S (Z := mX9_isLevel) (As := [_]) (c9_isLevel hz) kX9_isLevel lX9_137 sX9_isLevel dX9_trials_1 rfl rfl rfl (Nat.le_of_ble_eq_true rfl) ⟨Nat.le_of_ble_eq_true rfl, Nat.le_of_ble_eq_true rfl⟩ ?_
  refine w_ifb_eq 36 dX9_trials_4 (by decide) (fun h1 => ?_) (fun h1 => ?_)
  · exact no (fun q => h1 q.1.1) _ _
  refine w_iload_n dX9_trials_7 rfl rfl ?_
  refine wc_S (Z := mX9_isSpoil) (As := [_]) (c9_isSpoil hx) kX9_isSpoil lX9_140 sX9_isSpoil dX9_trials_8 rfl rfl rfl (Nat.le_of_ble_eq_true rfl) ⟨Nat.le_of_ble_eq_true rfl, Nat.le_of_ble_eq_true rfl⟩ ?_
  refine w_ifb_eq 36 dX9_trials_11 (by decide) (fun h2 => ?_) (fun h2 => ?_)
  · exact no (fun q => h2 q.1.2) _ _
  refine w_iload_n dX9_trials_14 rfl rfl ?_
  refine w_iconst dX9_trials_15 ?_
  refine w_icmp_lt 36 dX9_trials_16 (by decide) (by first | assumption | (unfold ok32 at *; omega)) (by first | assumption | (unfold ok32 at *; omega)) (fun h3 => ?_) (fun h3 => ?_)
  · exact no (by omega) _ _
  refine w_iload_n dX9_trials_19 rfl rfl ?_
  refine w_bipush dX9_trials_20 (by decide) ?_
  refine w_icmp_gt 36 dX9_trials_22 (by decide) (by first | assumption | (unfold ok32 at *; omega)) (by first | assumption | (unfold ok32 at *; omega)) (fun h4 => ?_) (fun h4 => ?_)
  · exact no (by omega) _ _
  refine w_iload dX9_trials_25 rfl ?_
  refine w_if_lt 36 dX9_trials_27 (by decide) (by first | assumption | (unfold ok32 at *; omega)) (fun h5 => ?_) (fun h5 => ?_)
  · exact no (by omega) _ _
  refine w_iload dX9_trials_30 rfl ?_
  refine w_iconst dX9_trials_32 ?_
  refine w_icmp_le 38 dX9_trials_33 (by decide) (by first | assumption | (unfold ok32 at *; omega)) (by first | assumption | (unfold ok32 at *; omega)) (fun h6 => ?_) (fun h6 => ?_)
  rotate_left
  · exact no (by omega) _ _
  rw [if_pos ⟨⟨h1, h2⟩, by omega, by omega⟩]
  obtain ⟨n, hn⟩ : ∃ n : Nat, y = (n : Int) := ⟨y.toNat, by omega⟩
  subst hn
  obtain ⟨t, ht⟩ : ∃ t : Nat, w = (t : Int) := ⟨w.toNat, by omega⟩
  subst ht
  rw [Int.toNat_natCast, Int.toNat_natCast]
  have aLL := trA_ok (sp := x) hT h1 (by omega)
  have aQQ := trA_cdq (sp := x) hQP hT h1 (by omega)
  refine w_iconst dX9_trials_38 ?_
  refine w_istore (lv' := [_, _, _, _, _, _, _]) dX9_trials_39 (Nat.le_of_ble_eq_true rfl) rfl rfl ?_
  refine w_aload_n dX9_trials_41 rfl rfl ?_
  refine w_getf fX9_36 dX9_trials_42 o_o rfl ?_
  refine w_aload_n dX9_trials_45 rfl rfl ?_
  refine w_getf fX9_19 dX9_trials_46 o_o rfl ?_
  refine w_getf fX9_89 dX9_trials_49 o_h rfl ?_
  refine wx_Vv (Z := mX8_copyFrom) (As := [_]) (hcf c1 sb sj sm) SC0 rfl kX8_copyFrom lX9_347 iX8_copyFrom vX8_copyFrom dX9_trials_52 rfl rfl rfl (Nat.le_of_ble_eq_true rfl) ⟨Nat.le_of_ble_eq_true rfl, Nat.le_of_ble_eq_true rfl⟩ (fun s2 hs2 => ?_)
  have hR2 := hR.copy hs2 hV
  refine w_iconst dX9_trials_55 ?_
  refine w_istore (lv' := [_, _, _, _, _, _, _]) dX9_trials_56 (Nat.le_of_ble_eq_true rfl) rfl rfl ?_
  have key : ∀ k, k ≤ n → ∀ (sb : Nat → Nat → Int) (sj : Nat → Int) (sm : Nat → BitVec 64), REL sb sj sm (trA A L R C z x k) L R C → 0 ≤ trC A L R C z x k t → trC A L R C z x k t ≤ 20 * k → wp mX9_trials 58 [.ref o, .int (zI z), .int (zI x), .int (zI (n : Int)), .int (zI (t : Int)), .int (zI (trC A L R C z x k t)), .int (zI (k : Int))] [] (SH (o + 35) c sb sj sm h) 0 0 (px (some (.int (zI (trC A L R C z x n t)))) (fun _ : TR4 => True) (fun q => SH (o + 35) q.1 q.2.1 q.2.2.1 q.2.2.2 h)) := by
    refine up_ind (fun k hk ih sb sj sm hRk c0 c20 => ?_)
    refine w_iload dX9_trials_58 rfl ?_
    refine w_iload_n dX9_trials_60 rfl rfl ?_
    refine w_icmp_ge 140 dX9_trials_61 (by decide) (by first | assumption | (unfold ok32 at *; omega)) (by first | assumption | (unfold ok32 at *; omega)) (fun hkn => ?_) (fun hkn => ?_)
    · rw [show k = n by omega]
      refine w_iload dX9_trials_140 rfl ?_
      exact x_iret rfl rfl dX9_trials_142 ⟨rfl, (c, sb, sj, sm), trivial, rfl⟩
    · have hkl : k < n := by omega
      obtain ⟨T1, T2, T3, T4⟩ := (aLL k).1
      have j1 : TOP (trB (trA A L R C z x k) L C z x) L R C := snN_top (aLL k).1 h1 (by omega)
      have j3 : 0 ≤ trB (trA A L R C z x k) L C z x 8 ∧ trB (trA A L R C z x k) L C z x 8 ≤ 1 := j1.1 8
      have hQb : CDQ (outS (o + 35)) h c (trB (trA A L R C z x k) L C z x) L R C := (aQQ k).same (fun i h1 h2 h3 => snN_n (by omega) (by omega))
      obtain ⟨t1, t2, t3, t4⟩ := bg_top j1 j3
      have e8 : trB (trA A L R C z x k) L C z x 8 = trA A L R C z x k 8 := snN_n (by omega) (by omega)
      have hsi : sj 3 = trB (trA A L R C z x k) L C z x 8 := by rw [e8]; exact hRk.1.2.2.1
      refine w_aload_n dX9_trials_64 rfl rfl ?_
      refine w_getf fX9_36 dX9_trials_65 o_o rfl ?_
      refine w_iload_n dX9_trials_68 rfl rfl ?_
      refine w_iload_n dX9_trials_69 rfl rfl ?_
      refine wx_V (Z := mX8_draw) (As := [_, _]) (c8_draw (aQQ k) h1 h2 hRk.1.1 hRk.1.2.1 (T1 12)) SC0 rfl kX8_draw lX9_143 iX8_draw vX8_draw dX9_trials_70 rfl rfl rfl (Nat.le_of_ble_eq_true rfl) ⟨Nat.le_of_ble_eq_true rfl, Nat.le_of_ble_eq_true rfl⟩ (fun g hg => ?_)
      refine w_pop dX9_trials_73 rfl ?_
      refine w_aload_n dX9_trials_74 rfl rfl ?_
      refine w_getf fX9_36 dX9_trials_75 o_o rfl ?_
      refine w_aload_n dX9_trials_78 rfl rfl ?_
      refine w_getf fX9_36 dX9_trials_79 o_o rfl ?_
      refine w_getf fX9_163 dX9_trials_82 SC0 rfl ?_
      rw [show (u1 sj 2 (snN (trA A L R C z x k) (sentB (trA A L R C z x k)) z x (L * C) 12)) 3 = sj 3 from u1_n (by decide), hsi]
      refine wx_Vv (Z := mX8_start) (As := [_]) (c8_start (m := trB (trA A L R C z x k) L C z x 8) hQb j1.1.ok (pre_sn hRk (by omega) hg)) SC0 rfl kX8_start lX9_147 iX8_start vX8_start dX9_trials_85 rfl rfl rfl (Nat.le_of_ble_eq_true rfl) ⟨Nat.le_of_ble_eq_true rfl, Nat.le_of_ble_eq_true rfl⟩ (fun q hq => ?_)
      refine w_aload_n dX9_trials_88 rfl rfl ?_
      refine w_getf fX9_36 dX9_trials_89 o_o rfl ?_
      refine w_bipush dX9_trials_92 (by decide) ?_
      refine wx_V (Z := mX8_go) (As := [_]) (c8_go (m := 80) (cdq_bg hQb) t1 t3 (by omega) hq) SC0 rfl kX8_go lX9_169 iX8_go vX8_go dX9_trials_94 rfl rfl rfl (Nat.le_of_ble_eq_true rfl) ⟨Nat.le_of_ble_eq_true rfl, Nat.le_of_ble_eq_true rfl⟩ (fun p hp => ?_)
      have hp2 : REL p.1 p.2.1 p.2.2 (trA A L R C z x (k + 1)) L R C := hp
      obtain ⟨S1, S2, S3, S4⟩ := (aLL (k + 1)).1
      have k9 : 0 ≤ trA A L R C z x (k + 1) 9 ∧ trA A L R C z x (k + 1) 9 ≤ 2 := S1 9
      have k10 : 0 ≤ trA A L R C z x (k + 1) 10 ∧ trA A L R C z x (k + 1) 10 ≤ 20 := S1 10
      have nxt : ∀ v : Int, v = trC A L R C z x (k + 1) t → 0 ≤ v → v ≤ 20 * (k + 1) → wp mX9_trials 134 [.ref o, .int (zI z), .int (zI x), .int (zI (n : Int)), .int (zI (t : Int)), .int (zI v), .int (zI (k : Int))] [] (SH (o + 35) c p.1 p.2.1 p.2.2 h) 0 0 (px (some (.int (zI (trC A L R C z x n t)))) (fun _ : TR4 => True) (fun q => SH (o + 35) q.1 q.2.1 q.2.2.1 q.2.2.2 h)) := by
        intro v hv v0 v1
        refine w_iinc (lv' := [_, _, _, _, _, _, _]) dX9_trials_134 rfl rfl rfl ?_
        refine w_goto 58 dX9_trials_137 (by decide) ?_
        have := ih hkl p.1 p.2.1 p.2.2 hp2 (by rw [← hv]; exact v0) (by rw [← hv]; push_cast; exact v1)
        rw [← hv] at this
        push_cast at this
        exact this
      refine w_pop dX9_trials_97 rfl ?_
      refine w_iload dX9_trials_98 rfl ?_
      refine w_iconst dX9_trials_100 ?_
      refine w_icmp_ne 119 dX9_trials_101 (by decide) (by unfold ok32; omega) (by unfold ok32; omega) (fun h7 => ?_) (fun h7 => ?_)
      · have hout : (if p.2.2 8 = p.2.2 1 then (0 : Int) else if p.2.1 4 = 1 then 1 else 2) = ((trW (trA A L R C z x (k + 1)) (L * C) : Nat) : Int) := by
          rw [hp2.2.1.1, hp2.1.1, hp2.1.2.2.2.1]
          unfold trW
          split
          · rfl
          · split <;> rfl
        have hwr : trW (trA A L R C z x (k + 1)) (L * C) ≤ 2 := by unfold trW; split <;> (try split) <;> omega
        refine w_aload_n dX9_trials_119 rfl rfl ?_
        refine w_getf fX9_36 dX9_trials_120 o_o rfl ?_
        refine wc_V (Z := mX8_outcome) (As := []) (c8_outcome (by rw [hp2.1.2.2.2.1]; unfold ok32; omega)) SC0 rfl kX8_outcome lX9_354 iX8_outcome vX8_outcome dX9_trials_123 rfl rfl rfl (Nat.le_of_ble_eq_true rfl) ⟨Nat.le_of_ble_eq_true rfl, Nat.le_of_ble_eq_true rfl⟩ ?_
        rw [hout]
        refine w_iload dX9_trials_126 rfl ?_
        refine w_icmp_ne 134 dX9_trials_128 (by decide) (by unfold ok32; omega) (by unfold ok32; omega) (fun h8 => ?_) (fun h8 => ?_)
        · exact nxt _ (by rw [trC_w (by omega), if_neg (by omega)]; omega) c0 (by omega)
        · refine w_iinc (lv' := [_, _, _, _, _, _, _]) dX9_trials_131 rfl rfl rfl ?_
          exact nxt _ (by rw [trC_w (by omega), if_pos (by omega)]) (by omega) (by omega)
      · have ht3 : t = 3 := by omega
        subst ht3
        refine w_iload dX9_trials_104 rfl ?_
        refine w_aload_n dX9_trials_106 rfl rfl ?_
        refine w_getf fX9_36 dX9_trials_107 o_o rfl ?_
        refine w_getf fX9_196 dX9_trials_110 SC0 rfl ?_
        rw [show p.2.1 5 = trA A L R C z x (k + 1) 10 from hp2.1.2.2.2.2.1]
        refine w_iadd dX9_trials_113 ?_
        refine w_istore (lv' := [_, _, _, _, _, _, _]) dX9_trials_114 (Nat.le_of_ble_eq_true rfl) rfl rfl ?_
        refine w_goto 134 dX9_trials_116 (by decide) ?_
        exact nxt _ (by rw [trC_3]) (by omega) (by omega)
  exact key 0 (Nat.zero_le _) s2 si sl hR2 (Int.le_refl _) (Int.le_refl _)

