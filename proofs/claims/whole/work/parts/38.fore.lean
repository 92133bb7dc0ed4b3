/-! what is foretold -/
theorem stp_rest {A : Nat → Int} {L R C : Nat} (hT : TOP A L R C) (n : Nat) : fillR (stpN A L R C n) 3 430 (fun k => A (3 + k)) = A := rest_eq (fun k hk => stpN_n hT.1 hT.2.1 hT.2.2.1 hk n)
theorem stp_top {A : Nat → Int} {L R C : Nat} (hT : TOP A L R C) (n : Nat) : TOP (stpN A L R C n) L R C := by
  obtain ⟨i1, i2, i3⟩ := stpN_ok hT.1 hT.2.1 hT.2.2.1 n
  refine ⟨i1, i2.vc hT.2.1, i3, ?_⟩
  rw [stpN_n hT.1 hT.2.1 hT.2.2.1 (by omega) n]
  exact hT.2.2.2
set_option maxRecDepth 4000 in
theorem c_foretold {r : Nat} {A : Nat → Int} {ia : Nat → Nat → Int} {la : Nat → Nat → BitVec 64} {fi : Nat → Int} {fl : Nat → BitVec 64} {h0 : HP} {L R C : Nat} {z : Int} (hT : TOP A L R C) (hz : ok32 z) : sp mX10_foretold [.ref r, .int (zI z)] (RH r A ia la fi fl h0) 0 0 (pr (some (.int (zI (if 1 ≤ z ∧ z ≤ 80 then stpN A L R C z.toNat 9 else -1)))) r A ia fi h0) := by
  obtain ⟨hI, hV, hS, h2⟩ := id hT
  refine sp_wp rfl (lv := [_, _, _]) rfl (Nat.le_of_ble_eq_true rfl) ?_
  refine w_iload_n dX10_foretold_0 rfl rfl ?_
  refine w_iconst dX10_foretold_1 ?_
  refine w_bipush dX10_foretold_2 (by decide) ?_
  refine wc_S (Z := mX10_isIn) (As := [_, _, _]) (c_isIn hz (by first | assumption | (unfold ok32 at *; omega)) (by first | assumption | (unfold ok32 at *; omega))) kX10_isIn lX10_70 sX10_isIn dX10_foretold_4 rfl rfl rfl (Nat.le_of_ble_eq_true rfl) ⟨Nat.le_of_ble_eq_true rfl, Nat.le_of_ble_eq_true rfl⟩ ?_
  refine w_ifb_ne 12 dX10_foretold_7 (by decide) (fun hc => ?_) (fun hc => ?_)
  rotate_left
  · refine w_iconst dX10_foretold_10 ?_
    refine x_iret rfl rfl dX10_foretold_11 (pr_end ?_ rfl rfl rfl rfl rfl rfl rfl)
    rw [if_neg hc]
  · rw [if_pos hc]
    obtain ⟨n, hn⟩ : ∃ n : Nat, z = (n : Int) := ⟨z.toNat, by omega⟩
    subst hn
    rw [Int.toNat_natCast]
    refine w_aload_n dX10_foretold_12 rfl rfl ?_
    refine wx_Vv (Z := mX10_putAside) (As := []) c_putAside RH0 rfl kX10_putAside lX10_304 iX10_putAside vX10_putAside dX10_foretold_13 rfl rfl rfl (Nat.le_of_ble_eq_true rfl) ⟨Nat.le_of_ble_eq_true rfl, Nat.le_of_ble_eq_true rfl⟩ (fun q hq => ?_)
    refine w_aload_n dX10_foretold_16 rfl rfl ?_
    refine w_iload_n dX10_foretold_17 rfl rfl ?_
    refine wx_V (Z := mX10_stepsNow) (As := [_]) (c_stepsNow hI hV hS (by omega)) RH0 rfl kX10_stepsNow lX10_246 iX10_stepsNow vX10_stepsNow dX10_foretold_18 rfl rfl rfl (Nat.le_of_ble_eq_true rfl) ⟨Nat.le_of_ble_eq_true rfl, Nat.le_of_ble_eq_true rfl⟩ (fun q2 hq2 => ?_)
    refine w_pop dX10_foretold_21 rfl ?_
    refine w_aload_n dX10_foretold_22 rfl rfl ?_
    refine w_getf fX10_7 dX10_foretold_23 RH0 rfl ?_
    refine w_bipush dX10_foretold_26 (by decide) ?_
    refine w_iald 9 RH1 rfl (by decide) (by decide) dX10_foretold_28 ?_
    refine w_istore_n (lv' := [_, _, _]) dX10_foretold_29 rfl (Nat.le_of_ble_eq_true rfl) rfl rfl ?_
    refine w_aload_n dX10_foretold_30 rfl rfl ?_
    refine wc_Vv (Z := mX10_bringBack) (As := []) (c_bringBack (B := A) (fun k hk => by rw [u1_n (by omega), u1_s]; exact hq k hk)) RH0 rfl kX10_bringBack lX10_307 iX10_bringBack vX10_bringBack dX10_foretold_31 rfl rfl rfl (Nat.le_of_ble_eq_true rfl) ⟨Nat.le_of_ble_eq_true rfl, Nat.le_of_ble_eq_true rfl⟩ ?_
    refine w_iload_n dX10_foretold_34 rfl rfl ?_
    exact x_iret rfl rfl dX10_foretold_35 (pr_end rfl (stp_rest hT n) rfl rfl rfl rfl rfl rfl)
set_option maxRecDepth 4000 in
theorem c_believed {r : Nat} {A : Nat → Int} {ia : Nat → Nat → Int} {la : Nat → Nat → BitVec 64} {fi : Nat → Int} {fl : Nat → BitVec 64} {h0 : HP} {L R C : Nat} {z x : Int} (hT : TOP A L R C) (hz : ok32 z) (hx : ok32 x) : sp mX10_believed [.ref r, .int (zI z), .int (zI x)] (RH r A ia la fi fl h0) 0 0 (pr (some (.int (zI (if (1 ≤ z ∧ z ≤ 80) ∧ 0 ≤ x ∧ x ≤ (L : Int) * C - 1 then stpN A L R C z.toNat (96 + x.toNat) else -100)))) r A ia fi h0) := by
  obtain ⟨hI, hV, hS, h2⟩ := id hT
  obtain ⟨v1, v2, v3, v4, v5, v6, v7⟩ := id hV
  have h1 : 0 ≤ A 1 ∧ A 1 ≤ 20 := hI 1
  have h20 : 0 ≤ A 2 ∧ A 2 ≤ 20 := hI 2
  have hLCn := mulLe (a := L) (b := C) (x := 6) (y := 8) (by omega) (by omega)
  have hLRn := mulLe (a := L) (b := R) (x := 6) (y := 4) (by omega) (by omega)
  have hLC : (L : Int) * C ≤ 48 := by exact_mod_cast hLCn
  have hLC0 : (0 : Int) ≤ (L : Int) * C := by exact_mod_cast Nat.zero_le (L * C)
  have hLR : (L : Int) * R ≤ 24 := by exact_mod_cast hLRn
  have hLR0 : (0 : Int) ≤ (L : Int) * R := by exact_mod_cast Nat.zero_le (L * R)
  refine sp_wp rfl (lv := [_, _, _, _]) rfl (Nat.le_of_ble_eq_true rfl) ?_
  refine w_iload_n dX10_believed_0 rfl rfl ?_
  refine w_iconst dX10_believed_1 ?_
  refine w_bipush dX10_believed_2 (by decide) ?_
  refine wc_S (Z := mX10_isIn) (As := [_, _, _]) (c_isIn hz (by first | assumption | (unfold ok32 at *; omega)) (by first | assumption | (unfold ok32 at *; omega))) kX10_isIn lX10_70 sX10_isIn dX10_believed_4 rfl rfl rfl (Nat.le_of_ble_eq_true rfl) ⟨Nat.le_of_ble_eq_true rfl, Nat.le_of_ble_eq_true rfl⟩ ?_
  refine w_ifb_eq 18 dX10_believed_7 (by decide) (fun hc => ?_) (fun hc => ?_)
  · refine w_bipush dX10_believed_18 (by decide) ?_
    refine x_iret rfl rfl dX10_believed_20 (pr_end ?_ rfl rfl rfl rfl rfl rfl rfl)
    rw [if_neg (fun q => hc q.1)]
  · refine w_aload_n dX10_believed_10 rfl rfl ?_
    refine w_iload_n dX10_believed_11 rfl rfl ?_
    refine wc_V (Z := mX10_isBit) (As := [_]) (c_isBit hV hx) RH0 rfl kX10_isBit lX10_237 iX10_isBit vX10_isBit dX10_believed_12 rfl rfl rfl (Nat.le_of_ble_eq_true rfl) ⟨Nat.le_of_ble_eq_true rfl, Nat.le_of_ble_eq_true rfl⟩ ?_
    refine w_ifb_ne 21 dX10_believed_15 (by decide) (fun hd => ?_) (fun hd => ?_)
    rotate_left
    · refine w_bipush dX10_believed_18 (by decide) ?_
      refine x_iret rfl rfl dX10_believed_20 (pr_end ?_ rfl rfl rfl rfl rfl rfl rfl)
      rw [if_neg (fun q => hd q.2)]
    · rw [if_pos ⟨hc, hd⟩]
      obtain ⟨n, hn⟩ : ∃ n : Nat, z = (n : Int) := ⟨z.toNat, by omega⟩
      subst hn
      obtain ⟨b, hb⟩ : ∃ b : Nat, x = (b : Int) := ⟨x.toNat, by omega⟩
      subst hb
      rw [Int.toNat_natCast, Int.toNat_natCast]
      refine w_aload_n dX10_believed_21 rfl rfl ?_
      refine wx_Vv (Z := mX10_putAside) (As := []) c_putAside RH0 rfl kX10_putAside lX10_304 iX10_putAside vX10_putAside dX10_believed_22 rfl rfl rfl (Nat.le_of_ble_eq_true rfl) ⟨Nat.le_of_ble_eq_true rfl, Nat.le_of_ble_eq_true rfl⟩ (fun q hq => ?_)
      refine w_aload_n dX10_believed_25 rfl rfl ?_
      refine w_iload_n dX10_believed_26 rfl rfl ?_
      refine wx_V (Z := mX10_stepsNow) (As := [_]) (c_stepsNow hI hV hS (by omega)) RH0 rfl kX10_stepsNow lX10_246 iX10_stepsNow vX10_stepsNow dX10_believed_27 rfl rfl rfl (Nat.le_of_ble_eq_true rfl) ⟨Nat.le_of_ble_eq_true rfl, Nat.le_of_ble_eq_true rfl⟩ (fun q2 hq2 => ?_)
      refine w_pop dX10_believed_30 rfl ?_
      refine w_aload_n dX10_believed_31 rfl rfl ?_
      refine w_getf fX10_7 dX10_believed_32 RH0 rfl ?_
      refine w_bipush dX10_believed_35 (by decide) ?_
      refine w_iload_n dX10_believed_37 rfl rfl ?_
      refine w_iadd dX10_believed_38 ?_
      refine w_iald (96 + b) RH1 (by omega) (by omega) (by decide) dX10_believed_39 ?_
      refine w_istore_n (lv' := [_, _, _, _]) dX10_believed_40 rfl (Nat.le_of_ble_eq_true rfl) rfl rfl ?_
      refine w_aload_n dX10_believed_41 rfl rfl ?_
      refine wc_Vv (Z := mX10_bringBack) (As := []) (c_bringBack (B := A) (fun k hk => by rw [u1_n (by omega), u1_s]; exact hq k hk)) RH0 rfl kX10_bringBack lX10_307 iX10_bringBack vX10_bringBack dX10_believed_42 rfl rfl rfl (Nat.le_of_ble_eq_true rfl) ⟨Nat.le_of_ble_eq_true rfl, Nat.le_of_ble_eq_true rfl⟩ ?_
      refine w_iload_n dX10_believed_45 rfl rfl ?_
      exact x_iret rfl rfl dX10_believed_46 (pr_end rfl (stp_rest hT n) rfl rfl rfl rfl rfl rfl)
theorem c_till {r : Nat} {A : Nat → Int} {ia : Nat → Nat → Int} {la : Nat → Nat → BitVec 64} {fi : Nat → Int} {fl : Nat → BitVec 64} {h0 : HP} {L R C : Nat} (hT : TOP A L R C) : sp mX10_till [.ref r] (RH r A ia la fi fl h0) 0 0 (pr (some (.int (zI (((stpC A L R C 80 : Nat) : Int))))) r A ia fi h0) := by
  obtain ⟨hI, hV, hS, h2⟩ := id hT
  refine sp_wp rfl (lv := [_, _]) rfl (Nat.le_of_ble_eq_true rfl) ?_
  refine w_aload_n dX10_till_0 rfl rfl ?_
  refine wx_Vv (Z := mX10_putAside) (As := []) c_putAside RH0 rfl kX10_putAside lX10_304 iX10_putAside vX10_putAside dX10_till_1 rfl rfl rfl (Nat.le_of_ble_eq_true rfl) ⟨Nat.le_of_ble_eq_true rfl, Nat.le_of_ble_eq_true rfl⟩ (fun q hq => ?_)
  refine w_aload_n dX10_till_4 rfl rfl ?_
  refine w_bipush dX10_till_5 (by decide) ?_
  refine wx_V (Z := mX10_stepsNow) (As := [_]) (c_stepsNow (n := 80) hI hV hS (by omega)) RH0 rfl kX10_stepsNow lX10_246 iX10_stepsNow vX10_stepsNow dX10_till_7 rfl rfl rfl (Nat.le_of_ble_eq_true rfl) ⟨Nat.le_of_ble_eq_true rfl, Nat.le_of_ble_eq_true rfl⟩ (fun q2 hq2 => ?_)
  refine w_istore_n (lv' := [_, _]) dX10_till_10 rfl (Nat.le_of_ble_eq_true rfl) rfl rfl ?_
  refine w_aload_n dX10_till_11 rfl rfl ?_
  refine wc_Vv (Z := mX10_bringBack) (As := []) (c_bringBack (B := A) (fun k hk => by rw [u1_n (by omega), u1_s]; exact hq k hk)) RH0 rfl kX10_bringBack lX10_307 iX10_bringBack vX10_bringBack dX10_till_12 rfl rfl rfl (Nat.le_of_ble_eq_true rfl) ⟨Nat.le_of_ble_eq_true rfl, Nat.le_of_ble_eq_true rfl⟩ ?_
  refine w_iload_n dX10_till_15 rfl rfl ?_
  exact x_iret rfl rfl dX10_till_16 (pr_end rfl (stp_rest hT 80) rfl rfl rfl rfl rfl rfl)
def swD (A : Nat → Int) (L R C : Nat) (m : Int) : Nat → Int := stpN (bgA A m L R C) L R C 80
def swV (A : Nat → Int) (L R C : Nat) (m : Int) : Int := if swD A L R C m 9 = 1 then swD A L R C m 10 else -1
theorem bg_top {A : Nat → Int} {L R C : Nat} {m : Int} (hT : TOP A L R C) (hm : 0 ≤ m ∧ m ≤ 1) : TOP (bgA A m L R C) L R C := bgA_top hT.1 hT.2.1 hT.2.2.1.1 hT.2.2.2 hm
theorem sw_rng {A : Nat → Int} {L R C : Nat} {m : Int} (hT : TOP A L R C) (hm : 0 ≤ m ∧ m ≤ 1) : -1 ≤ swV A L R C m ∧ swV A L R C m ≤ 20 := by
  have h := (stp_top (bg_top hT hm) 80).1 10
  have l9 : loA 10 = 0 := rfl
  have u9 : hiA 10 = 20 := rfl
  rw [l9, u9] at h
  unfold swV swD
  split <;> omega
set_option maxRecDepth 4000 in
theorem c_sweepsBy {r : Nat} {A : Nat → Int} {ia : Nat → Nat → Int} {la : Nat → Nat → BitVec 64} {fi : Nat → Int} {fl : Nat → BitVec 64} {h0 : HP} {L R C : Nat} {z : Int} (hT : TOP A L R C) (hm : 0 ≤ z ∧ z ≤ 1) : sp mX10_sweepsBy [.ref r, .int (zI z)] (RH r A ia la fi fl h0) 0 0 (px (some (.int (zI (swV A L R C z)))) (fun q : (Nat → Int) × (Nat → Int) => True) (fun q => (RH r A (u1 (u1 ia 7 q.1) 5 q.2) la fi fl h0))) := by
  obtain ⟨hI, hV, hS, h2⟩ := id hT
  obtain ⟨t1, t2, t3, t4⟩ := bg_top hT hm
  have s1 := (stp_top ⟨t1, t2, t3, t4⟩ 80).1
  have hres : fillR (swD A L R C z) 3 430 (fun k => A (3 + k)) = A := rest_eq (fun k hk => by
    unfold swD
    rw [stpN_n t1 t2 t3 hk, bgA_n (by omega) (by omega) (by omega) (by omega) (by omega)])
  refine sp_wp rfl (lv := [_, _, _]) rfl (Nat.le_of_ble_eq_true rfl) ?_
  refine w_aload_n dX10_sweepsBy_0 rfl rfl ?_
  refine wx_Vv (Z := mX10_putAside) (As := []) c_putAside RH0 rfl kX10_putAside lX10_304 iX10_putAside vX10_putAside dX10_sweepsBy_1 rfl rfl rfl (Nat.le_of_ble_eq_true rfl) ⟨Nat.le_of_ble_eq_true rfl, Nat.le_of_ble_eq_true rfl⟩ (fun q hq => ?_)
  refine w_aload_n dX10_sweepsBy_4 rfl rfl ?_
  refine w_iload_n dX10_sweepsBy_5 rfl rfl ?_
  refine wc_Vv (Z := mX10_beginNow) (As := [_]) (c_beginNow hV hI.ok (by first | assumption | (unfold ok32 at *; omega))) RH0 rfl kX10_beginNow lX10_54 iX10_beginNow vX10_beginNow dX10_sweepsBy_6 rfl rfl rfl (Nat.le_of_ble_eq_true rfl) ⟨Nat.le_of_ble_eq_true rfl, Nat.le_of_ble_eq_true rfl⟩ ?_
  refine w_aload_n dX10_sweepsBy_9 rfl rfl ?_
  refine w_bipush dX10_sweepsBy_10 (by decide) ?_
  refine wx_V (Z := mX10_stepsNow) (As := [_]) (c_stepsNow (n := 80) t1 t2 t3 (by omega)) RH0 rfl kX10_stepsNow lX10_246 iX10_stepsNow vX10_stepsNow dX10_sweepsBy_12 rfl rfl rfl (Nat.le_of_ble_eq_true rfl) ⟨Nat.le_of_ble_eq_true rfl, Nat.le_of_ble_eq_true rfl⟩ (fun q2 hq2 => ?_)
  refine w_pop dX10_sweepsBy_15 rfl ?_
  refine w_aload_n dX10_sweepsBy_16 rfl rfl ?_
  refine w_getf fX10_7 dX10_sweepsBy_17 RH0 rfl ?_
  refine w_bipush dX10_sweepsBy_20 (by decide) ?_
  refine w_iald 9 RH1 rfl (by decide) (by decide) dX10_sweepsBy_22 ?_
  refine w_iconst dX10_sweepsBy_23 ?_
  have fin : ∀ v : Int, v = swV A L R C z → wp mX10_sweepsBy 39 [.ref r, .int (zI z), .int (zI v)] [] (RH r (swD A L R C z) (u1 (u1 ia 7 q) 5 q2) la fi fl h0) 0 0 (px (some (.int (zI (swV A L R C z)))) (fun q : (Nat → Int) × (Nat → Int) => True) (fun q => (RH r A (u1 (u1 ia 7 q.1) 5 q.2) la fi fl h0))) := by
    intro v hv
    refine w_aload_n dX10_sweepsBy_39 rfl rfl ?_
    refine wc_Vv (Z := mX10_bringBack) (As := []) (c_bringBack (B := A) (fun k hk => by rw [u1_n (by omega), u1_s]; exact hq k hk)) RH0 rfl kX10_bringBack lX10_307 iX10_bringBack vX10_bringBack dX10_sweepsBy_40 rfl rfl rfl (Nat.le_of_ble_eq_true rfl) ⟨Nat.le_of_ble_eq_true rfl, Nat.le_of_ble_eq_true rfl⟩ ?_
    refine w_iload_n dX10_sweepsBy_43 rfl rfl ?_
    refine x_iret rfl rfl dX10_sweepsBy_44 ⟨by rw [hv], (q, q2), trivial, ?_⟩
    rw [hres]
  have h9 := s1 9
  have l9 : loA 9 = 0 := rfl
  have u9 : hiA 9 = 2 := rfl
  rw [l9, u9] at h9
  refine w_icmp_ne 37 dX10_sweepsBy_24 (by decide) (by first | assumption | (unfold ok32 at *; omega)) (by first | assumption | (unfold ok32 at *; omega)) (fun hc => ?_) (fun hc => ?_)
  · refine w_iconst dX10_sweepsBy_37 ?_
    refine w_istore_n (lv' := [_, _, _]) dX10_sweepsBy_38 rfl (Nat.le_of_ble_eq_true rfl) rfl rfl ?_
    refine fin (-1) ?_
    unfold swV swD
    rw [if_neg hc]
  · refine w_aload_n dX10_sweepsBy_27 rfl rfl ?_
    refine w_getf fX10_7 dX10_sweepsBy_28 RH0 rfl ?_
    refine w_bipush dX10_sweepsBy_31 (by decide) ?_
    refine w_iald 10 RH1 rfl (by decide) (by decide) dX10_sweepsBy_33 ?_
    refine w_goto 38 dX10_sweepsBy_34 (by decide) ?_
    refine w_istore_n (lv' := [_, _, _]) dX10_sweepsBy_38 rfl (Nat.le_of_ble_eq_true rfl) rfl rfl ?_
    refine fin _ ?_
    unfold swV swD
    rw [if_pos hc]
set_option maxRecDepth 4000 in
theorem c_fewer {r : Nat} {A : Nat → Int} {ia : Nat → Nat → Int} {la : Nat → Nat → BitVec 64} {fi : Nat → Int} {fl : Nat → BitVec 64} {h0 : HP} {L R C : Nat} (hT : TOP A L R C) : sp mX10_fewer [.ref r] (RH r A ia la fi fl h0) 0 0 (pr (some (.int (zI (if swV A L R C 0 = -1 then (if swV A L R C 1 = -1 then -1 else 1) else if ¬ swV A L R C 1 = -1 ∧ swV A L R C 1 < swV A L R C 0 then 1 else 0)))) r A ia fi h0) := by
  have r0 := sw_rng (m := 0) hT (by omega)
  have r1 := sw_rng (m := 1) hT (by omega)
  refine sp_wp rfl (lv := [_, _, _]) rfl (Nat.le_of_ble_eq_true rfl) ?_
  refine w_aload_n dX10_fewer_0 rfl rfl ?_
  refine w_iconst dX10_fewer_1 ?_
  refine wx_V (Z := mX10_sweepsBy) (As := [_]) (c_sweepsBy hT (by omega)) RH0 rfl kX10_sweepsBy lX10_355 iX10_sweepsBy vX10_sweepsBy dX10_fewer_2 rfl rfl rfl (Nat.le_of_ble_eq_true rfl) ⟨Nat.le_of_ble_eq_true rfl, Nat.le_of_ble_eq_true rfl⟩ (fun q hq => ?_)
  refine w_istore_n (lv' := [_, _, _]) dX10_fewer_5 rfl (Nat.le_of_ble_eq_true rfl) rfl rfl ?_
  refine w_aload_n dX10_fewer_6 rfl rfl ?_
  refine w_iconst dX10_fewer_7 ?_
  refine wx_V (Z := mX10_sweepsBy) (As := [_]) (c_sweepsBy hT (by omega)) RH0 rfl kX10_sweepsBy lX10_355 iX10_sweepsBy vX10_sweepsBy dX10_fewer_8 rfl rfl rfl (Nat.le_of_ble_eq_true rfl) ⟨Nat.le_of_ble_eq_true rfl, Nat.le_of_ble_eq_true rfl⟩ (fun q2 hq2 => ?_)
  refine w_istore_n (lv' := [_, _, _]) dX10_fewer_11 rfl (Nat.le_of_ble_eq_true rfl) rfl rfl ?_
  refine w_iload_n dX10_fewer_12 rfl rfl ?_
  refine w_iconst dX10_fewer_13 ?_
  refine w_icmp_ne 28 dX10_fewer_14 (by decide) (by first | assumption | (unfold ok32 at *; omega)) (by first | assumption | (unfold ok32 at *; omega)) (fun h1 => ?_) (fun h1 => ?_)
  · rw [if_neg h1]
    refine w_iload_n dX10_fewer_28 rfl rfl ?_
    refine w_iconst dX10_fewer_29 ?_
    refine w_icmp_eq 42 dX10_fewer_30 (by decide) (by first | assumption | (unfold ok32 at *; omega)) (by first | assumption | (unfold ok32 at *; omega)) (fun h2 => ?_) (fun h2 => ?_)
    · refine w_iconst dX10_fewer_42 ?_
      refine x_iret rfl rfl dX10_fewer_43 (pr_end ?_ rfl rfl rfl rfl rfl rfl rfl)
      rw [if_neg (fun q => q.1 h2)]
    · refine w_iload_n dX10_fewer_33 rfl rfl ?_
      refine w_iload_n dX10_fewer_34 rfl rfl ?_
      refine w_icmp_ge 42 dX10_fewer_35 (by decide) (by first | assumption | (unfold ok32 at *; omega)) (by first | assumption | (unfold ok32 at *; omega)) (fun h3 => ?_) (fun h3 => ?_)
      · refine w_iconst dX10_fewer_42 ?_
        refine x_iret rfl rfl dX10_fewer_43 (pr_end ?_ rfl rfl rfl rfl rfl rfl rfl)
        rw [if_neg (fun q => by omega)]
      · refine w_iconst dX10_fewer_38 ?_
        refine w_goto 43 dX10_fewer_39 (by decide) ?_
        refine x_iret rfl rfl dX10_fewer_43 (pr_end ?_ rfl rfl rfl rfl rfl rfl rfl)
        rw [if_pos ⟨h2, by omega⟩]
  · rw [if_pos h1]
    refine w_iload_n dX10_fewer_17 rfl rfl ?_
    refine w_iconst dX10_fewer_18 ?_
    refine w_icmp_ne 26 dX10_fewer_19 (by decide) (by first | assumption | (unfold ok32 at *; omega)) (by first | assumption | (unfold ok32 at *; omega)) (fun h2 => ?_) (fun h2 => ?_)
    · refine w_iconst dX10_fewer_26 ?_
      refine x_iret rfl rfl dX10_fewer_27 (pr_end ?_ rfl rfl rfl rfl rfl rfl rfl)
      rw [if_neg h2]
    · refine w_iconst dX10_fewer_22 ?_
      refine w_goto 27 dX10_fewer_23 (by decide) ?_
      refine x_iret rfl rfl dX10_fewer_27 (pr_end ?_ rfl rfl rfl rfl rfl rfl rfl)
      rw [if_pos h2]
/-! trials -/
def trB (A : Nat → Int) (L C : Nat) (lv sp : Int) : Nat → Int := snN A (sentB A) lv sp (L * C)
def trA (A : Nat → Int) (L R C : Nat) (lv sp : Int) : Nat → Nat → Int
  | 0 => A
  | k + 1 => stpN (bgA (trB (trA A L R C lv sp k) L C lv sp) (trB (trA A L R C lv sp k) L C lv sp 8) L R C) L R C 80
def trW (D : Nat → Int) (n : Nat) : Nat := if gA D n = sentB D then 0 else if D 9 = 1 then 1 else 2
def trC (A : Nat → Int) (L R C : Nat) (lv sp : Int) : Nat → Nat → Int
  | 0 => fun _ => 0
  | k + 1 => u1 (u1 (trC A L R C lv sp k) (trW (trA A L R C lv sp (k + 1)) (L * C)) (trC A L R C lv sp k (trW (trA A L R C lv sp (k + 1)) (L * C)) + 1)) 3 (u1 (trC A L R C lv sp k) (trW (trA A L R C lv sp (k + 1)) (L * C)) (trC A L R C lv sp k (trW (trA A L R C lv sp (k + 1)) (L * C)) + 1) 3 + trA A L R C lv sp (k + 1) 10)
theorem trA_ok {A : Nat → Int} {L R C : Nat} {lv sp : Int} (hT : TOP A L R C) (hl : 1 ≤ lv ∧ lv ≤ 31) (hn : L * C ≤ 48) : ∀ k, TOP (trA A L R C lv sp k) L R C ∧ ∀ i, i < 3 ∨ 433 ≤ i → trA A L R C lv sp k i = A i
  | 0 => ⟨hT, fun _ _ => rfl⟩
  | k + 1 => by
    obtain ⟨i1, i2⟩ := trA_ok (sp := sp) hT hl hn k
    have j1 : TOP (trB (trA A L R C lv sp k) L C lv sp) L R C := snN_top i1 hl hn
    have j3 := j1.1 8
    have l9 : loA 8 = 0 := rfl
    have u9 : hiA 8 = 1 := rfl
    rw [l9, u9] at j3
    have j2 := bg_top j1 j3
    refine ⟨stp_top j2 80, fun i hi => ?_⟩
    unfold trA
    rw [stpN_n j2.1 j2.2.1 j2.2.2.1 hi, bgA_n (by omega) (by omega) (by omega) (by omega) (by omega)]
    unfold trB
    rw [snN_n (by omega) (by omega)]
    exact i2 i hi
set_option maxRecDepth 6000 in
theorem c_trials {r : Nat} {A : Nat → Int} {ia : Nat → Nat → Int} {la : Nat → Nat → BitVec 64} {fi : Nat → Int} {fl : Nat → BitVec 64} {h0 : HP} {L R C : Nat} {z x y w : Int} (hT : TOP A L R C) (hz : ok32 z) (hx : ok32 x) (hy : ok32 y) (hw : ok32 w) : sp mX10_trials [.ref r, .int (zI z), .int (zI x), .int (zI y), .int (zI w)] (RH r A ia la fi fl h0) 0 0 (pr (some (.int (zI (if ((1 ≤ z ∧ z ≤ 31) ∧ 0 ≤ x ∧ x ≤ 100) ∧ (1 ≤ y ∧ y ≤ 20) ∧ 0 ≤ w ∧ w ≤ 3 then trC A L R C z x y.toNat w.toNat else -1)))) r A ia fi h0) := by
  obtain ⟨hI, hV, hS, h2⟩ := id hT
  obtain ⟨v1, v2, v3, v4, v5, v6, v7⟩ := id hV
  have h1 : 0 ≤ A 1 ∧ A 1 ≤ 20 := hI 1
  have h20 : 0 ≤ A 2 ∧ A 2 ≤ 20 := hI 2
  have hLCn := mulLe (a := L) (b := C) (x := 6) (y := 8) (by omega) (by omega)
  have hLRn := mulLe (a := L) (b := R) (x := 6) (y := 4) (by omega) (by omega)
  have hLC : (L : Int) * C ≤ 48 := by exact_mod_cast hLCn
  have hLC0 : (0 : Int) ≤ (L : Int) * C := by exact_mod_cast Nat.zero_le (L * C)
  have hLR : (L : Int) * R ≤ 24 := by exact_mod_cast hLRn
  have hLR0 : (0 : Int) ≤ (L : Int) * R := by exact_mod_cast Nat.zero_le (L * R)
  refine sp_wp rfl (lv := [_, _, _, _, _, _, _, _, _]) rfl (Nat.le_of_ble_eq_true rfl) ?_
  refine w_iload_n dX10_trials_0 rfl rfl ?_
  refine w_iload_n dX10_trials_1 rfl rfl ?_
  refine wc_S (Z := mX10_isSending) (As := [_, _]) (c_isSending hz hx) kX10_isSending lX10_240 sX10_isSending dX10_trials_2 rfl rfl rfl (Nat.le_of_ble_eq_true rfl) ⟨Nat.le_of_ble_eq_true rfl, Nat.le_of_ble_eq_true rfl⟩ ?_
  refine w_ifb_eq 28 dX10_trials_5 (by decide) (fun c1 => ?_) (fun c1 => ?_)
  · refine w_iconst dX10_trials_28 ?_
    refine x_iret rfl rfl dX10_trials_29 (pr_end ?_ rfl rfl rfl rfl rfl rfl rfl)
    rw [if_neg (fun q => c1 q.1)]
  · refine w_iload_n dX10_trials_8 rfl rfl ?_
    refine w_iconst dX10_trials_9 ?_
    refine w_bipush dX10_trials_10 (by decide) ?_
    refine wc_S (Z := mX10_isIn) (As := [_, _, _]) (c_isIn hy (by first | assumption | (unfold ok32 at *; omega)) (by first | assumption | (unfold ok32 at *; omega))) kX10_isIn lX10_70 sX10_isIn dX10_trials_12 rfl rfl rfl (Nat.le_of_ble_eq_true rfl) ⟨Nat.le_of_ble_eq_true rfl, Nat.le_of_ble_eq_true rfl⟩ ?_
    refine w_ifb_eq 28 dX10_trials_15 (by decide) (fun c2 => ?_) (fun c2 => ?_)
    · refine w_iconst dX10_trials_28 ?_
      refine x_iret rfl rfl dX10_trials_29 (pr_end ?_ rfl rfl rfl rfl rfl rfl rfl)
      rw [if_neg (fun q => c2 q.2.1)]
    · refine w_iload dX10_trials_18 rfl ?_
      refine w_iconst dX10_trials_20 ?_
      refine w_iconst dX10_trials_21 ?_
      refine wc_S (Z := mX10_isIn) (As := [_, _, _]) (c_isIn hw (by first | assumption | (unfold ok32 at *; omega)) (by first | assumption | (unfold ok32 at *; omega))) kX10_isIn lX10_70 sX10_isIn dX10_trials_22 rfl rfl rfl (Nat.le_of_ble_eq_true rfl) ⟨Nat.le_of_ble_eq_true rfl, Nat.le_of_ble_eq_true rfl⟩ ?_
      refine w_ifb_ne 30 dX10_trials_25 (by decide) (fun c3 => ?_) (fun c3 => ?_)
      rotate_left
      · refine w_iconst dX10_trials_28 ?_
        refine x_iret rfl rfl dX10_trials_29 (pr_end ?_ rfl rfl rfl rfl rfl rfl rfl)
        rw [if_neg (fun q => c3 q.2.2)]
      · rw [if_pos ⟨c1, c2, c3⟩]
        obtain ⟨n, hn⟩ : ∃ n : Nat, y = (n : Int) := ⟨y.toNat, by omega⟩
        subst hn
        obtain ⟨t, ht⟩ : ∃ t : Nat, w = (t : Int) := ⟨w.toNat, by omega⟩
        subst ht
        rw [Int.toNat_natCast, Int.toNat_natCast]
        have aLL := trA_ok (sp := x) hT c1.1 hLCn
        refine w_aload_n dX10_trials_30 rfl rfl ?_
        refine wx_Vv (Z := mX10_putAside) (As := []) c_putAside RH0 rfl kX10_putAside lX10_304 iX10_putAside vX10_putAside dX10_trials_31 rfl rfl rfl (Nat.le_of_ble_eq_true rfl) ⟨Nat.le_of_ble_eq_true rfl, Nat.le_of_ble_eq_true rfl⟩ (fun q hq => ?_)
        have main : ∀ k : Nat, k ≤ n → ∀ (ia1 : Nat → Nat → Int) (x6 x7 x8 : Value), keep3 ia ia1 → ia1 7 = q → (∀ i, i < 4 → ia1 12 i = trC A L R C z x k i) → wp mX10_trials 60 [.ref r, .int (zI z), .int (zI x), .int (zI (n : Int)), .int (zI (t : Int)), .int (zI (k : Int)), x6, x7, x8] [] (RH r (trA A L R C z x k) ia1 la fi fl h0) 0 0 (pr (some (.int (zI (trC A L R C z x n t)))) r A ia fi h0) := by
          refine up_ind (N := n) (fun k hk ih => ?_)
          intro ia1 x6 x7 x8 k3 h7 h12
          refine w_iload dX10_trials_60 rfl ?_
          refine w_iload_n dX10_trials_62 rfl rfl ?_
          refine w_icmp_ge 168 dX10_trials_63 (by decide) (by first | assumption | (unfold ok32 at *; omega)) (by first | assumption | (unfold ok32 at *; omega)) (fun hn2 => ?_) (fun hn2 => ?_)
          · have ek : k = n := by omega
            subst ek
            refine w_aload_n dX10_trials_168 rfl rfl ?_
            refine wc_Vv (Z := mX10_bringBack) (As := []) (c_bringBack (B := A) (fun k hk => by rw [h7]; exact hq k hk)) RH0 rfl kX10_bringBack lX10_307 iX10_bringBack vX10_bringBack dX10_trials_169 rfl rfl rfl (Nat.le_of_ble_eq_true rfl) ⟨Nat.le_of_ble_eq_true rfl, Nat.le_of_ble_eq_true rfl⟩ ?_
            refine w_aload_n dX10_trials_172 rfl rfl ?_
            refine w_getf fX10_51 dX10_trials_173 RH0 rfl ?_
            refine w_iload dX10_trials_176 rfl ?_
            refine w_iald t RH12 rfl (by omega) (by decide) dX10_trials_178 ?_
            rw [h12 t (by omega)]
            exact x_iret rfl rfl dX10_trials_179 (pr_end3 rfl (rest_eq (aLL k).2) k3 rfl rfl rfl)
          · obtain ⟨T1, T2, T3, T4⟩ := (aLL k).1
            have j1 : TOP (trB (trA A L R C z x k) L C z x) L R C := snN_top (aLL k).1 c1.1 hLCn
            have j3 := j1.1 8
            have l9 : loA 8 = 0 := rfl
            have u9 : hiA 8 = 1 := rfl
            rw [l9, u9] at j3
            have j2 := bg_top j1 j3
            have s1 := (aLL (k + 1)).1
            refine w_aload_n dX10_trials_66 rfl rfl ?_
            refine w_iload_n dX10_trials_67 rfl rfl ?_
            refine w_iload_n dX10_trials_68 rfl rfl ?_
            refine wc_V (Z := mX10_sendNow) (As := [_, _]) (c_sendNow (aLL k).1 c1.1 c1.2) RH0 rfl kX10_sendNow lX10_243 iX10_sendNow vX10_sendNow dX10_trials_69 rfl rfl rfl (Nat.le_of_ble_eq_true rfl) ⟨Nat.le_of_ble_eq_true rfl, Nat.le_of_ble_eq_true rfl⟩ ?_
            refine w_istore (lv' := [_, _, _, _, _, _, _, _, _]) dX10_trials_72 (Nat.le_of_ble_eq_true rfl) rfl rfl ?_
            refine w_aload_n dX10_trials_74 rfl rfl ?_
            refine w_aload_n dX10_trials_75 rfl rfl ?_
            refine w_getf fX10_7 dX10_trials_76 RH0 rfl ?_
            refine w_bipush dX10_trials_79 (by decide) ?_
            refine w_iald 8 RH1 rfl (by decide) (by decide) dX10_trials_81 ?_
            refine wc_Vv (Z := mX10_beginNow) (As := [_]) (c_beginNow j1.2.1 j1.1.ok (j1.1.ok 8)) RH0 rfl kX10_beginNow lX10_54 iX10_beginNow vX10_beginNow dX10_trials_82 rfl rfl rfl (Nat.le_of_ble_eq_true rfl) ⟨Nat.le_of_ble_eq_true rfl, Nat.le_of_ble_eq_true rfl⟩ ?_
            refine w_aload_n dX10_trials_85 rfl rfl ?_
            refine w_bipush dX10_trials_86 (by decide) ?_
            refine wx_V (Z := mX10_stepsNow) (As := [_]) (c_stepsNow (n := 80) j2.1 j2.2.1 j2.2.2.1 (by omega)) RH0 rfl kX10_stepsNow lX10_246 iX10_stepsNow vX10_stepsNow dX10_trials_88 rfl rfl rfl (Nat.le_of_ble_eq_true rfl) ⟨Nat.le_of_ble_eq_true rfl, Nat.le_of_ble_eq_true rfl⟩ (fun q2 hq2 => ?_)
            refine w_istore (lv' := [_, _, _, _, _, _, _, _, _]) dX10_trials_91 (Nat.le_of_ble_eq_true rfl) rfl rfl ?_
            refine w_cast rfl rfl (h' := (RH r (trA A L R C z x (k + 1)) (u1 ia1 5 q2) la fi fl h0)) rfl ?_
            refine w_aload_n dX10_trials_93 rfl rfl ?_
            refine wc_V (Z := mX10_guessed) (As := []) (c_guessed s1.2.1 s1.1.ok) RH0 rfl kX10_guessed lX10_156 iX10_guessed vX10_guessed dX10_trials_94 rfl rfl rfl (Nat.le_of_ble_eq_true rfl) ⟨Nat.le_of_ble_eq_true rfl, Nat.le_of_ble_eq_true rfl⟩ ?_
            refine w_aload_n dX10_trials_97 rfl rfl ?_
            refine wc_V (Z := mX10_sentSet) (As := []) (c_sentSet (s1.1.ok 46) (s1.1.ok 47)) RH0 rfl kX10_sentSet lX10_234 iX10_sentSet vX10_sentSet dX10_trials_98 rfl rfl rfl (Nat.le_of_ble_eq_true rfl) ⟨Nat.le_of_ble_eq_true rfl, Nat.le_of_ble_eq_true rfl⟩ ?_
            have tail : ∀ (v : Nat) (x6 x7 x8 : Value), v = trW (trA A L R C z x (k + 1)) (L * C) → wp mX10_trials 141 [.ref r, .int (zI z), .int (zI x), .int (zI (n : Int)), .int (zI (t : Int)), .int (zI (k : Int)), x6, x7, x8] [.int (zI (v : Int)), .ref (r + 12)] (RH r (trA A L R C z x (k + 1)) (u1 ia1 5 q2) la fi fl h0) 0 0 (pr (some (.int (zI (trC A L R C z x n t)))) r A ia fi h0) := by
              intro v x6 x7 x8 hv
              have hv3 : v < 3 := by rw [hv]; unfold trW; split; omega; split <;> omega
              refine w_dup2 dX10_trials_141 rfl rfl ?_
              refine w_iald v RH12 rfl (by omega) (by decide) dX10_trials_142 ?_
              refine w_iconst dX10_trials_143 ?_
              refine w_iadd dX10_trials_144 ?_
              refine r_ist12K v rfl (by omega) dX10_trials_145 ?_
              refine w_aload_n dX10_trials_146 rfl rfl ?_
              refine w_getf fX10_51 dX10_trials_147 RH0 rfl ?_
              refine w_iconst dX10_trials_150 ?_
              refine w_dup2 dX10_trials_151 rfl rfl ?_
              refine w_iald 3 RH12 rfl (by omega) (by decide) dX10_trials_152 ?_
              refine w_aload_n dX10_trials_153 rfl rfl ?_
              refine w_getf fX10_7 dX10_trials_154 RH0 rfl ?_
              refine w_bipush dX10_trials_157 (by decide) ?_
              refine w_iald 10 RH1 rfl (by decide) (by decide) dX10_trials_159 ?_
              refine w_iadd dX10_trials_160 ?_
              refine r_ist12K 3 rfl (by omega) dX10_trials_161 ?_
              rw [u1_u1, u1_s, u1_n (show (12 : Nat) ≠ 5 by omega)]
              refine w_iinc (lv' := [_, _, _, _, _, _, _, _, _]) dX10_trials_162 rfl rfl rfl ?_
              refine w_goto 60 dX10_trials_165 (by decide) ?_
              refine ih (by omega) _ _ _ _ (keep3.u (k3.u (by omega)) (by omega)) (by rw [u1_n (by omega), u1_n (by omega)]; exact h7) (fun i hi => ?_)
              rw [u1_s]
              have key2 : ∀ i, i < 4 → u1 (ia1 12) v (ia1 12 v + 1) i = u1 (trC A L R C z x k) v (trC A L R C z x k v + 1) i := fun i hi => by
                by_cases h : i = v
                · subst h; rw [u1_s, u1_s, h12 i hi]
                · rw [u1_n h, u1_n h, h12 i hi]
              show _ = u1 (u1 (trC A L R C z x k) (trW (trA A L R C z x (k + 1)) (L * C)) (trC A L R C z x k (trW (trA A L R C z x (k + 1)) (L * C)) + 1)) 3 _ i
              rw [← hv]
              by_cases h : i = 3
              · subst h; rw [u1_s, u1_s, key2 3 (by omega)]
              · rw [u1_n h, u1_n h, key2 i hi]
            have h9 := s1.1 9
            have l99 : loA 9 = 0 := rfl
            have u99 : hiA 9 = 2 := rfl
            rw [l99, u99] at h9
            refine w_lc_ne 109 dX10_trials_101 dX10_trials_102 (by decide) (fun hg => ?_) (fun hg => ?_)
            · refine w_iconst dX10_trials_109 ?_
              refine w_istore (lv' := [_, _, _, _, _, _, _, _, _]) dX10_trials_110 (Nat.le_of_ble_eq_true rfl) rfl rfl ?_
              refine w_aload_n dX10_trials_112 rfl rfl ?_
              refine w_getf fX10_51 dX10_trials_113 RH0 rfl ?_
              refine w_iload dX10_trials_116 rfl ?_
              refine w_if_eq 125 dX10_trials_118 (by decide) (by first | assumption | (unfold ok32 at *; omega)) (fun hb => ?_) (fun hb => ?_)
              · refine w_aload_n dX10_trials_125 rfl rfl ?_
                refine w_getf fX10_7 dX10_trials_126 RH0 rfl ?_
                refine w_bipush dX10_trials_129 (by decide) ?_
                refine w_iald 9 RH1 rfl (by decide) (by decide) dX10_trials_131 ?_
                refine w_iconst dX10_trials_132 ?_
                refine w_icmp_ne 140 dX10_trials_133 (by decide) (by first | assumption | (unfold ok32 at *; omega)) (by first | assumption | (unfold ok32 at *; omega)) (fun hst => ?_) (fun hst => ?_)
                · refine w_iconst dX10_trials_140 ?_
                  refine tail 2 _ _ _ ?_
                  unfold trW gA
                  rw [if_neg hg, if_neg hst]
                · refine w_iconst dX10_trials_136 ?_
                  refine w_goto 141 dX10_trials_137 (by decide) ?_
                  refine tail 1 _ _ _ ?_
                  unfold trW gA
                  rw [if_neg hg, if_pos hst]
              · exact absurd rfl hb
            · refine w_iconst dX10_trials_105 ?_
              refine w_goto 110 dX10_trials_106 (by decide) ?_
              refine w_istore (lv' := [_, _, _, _, _, _, _, _, _]) dX10_trials_110 (Nat.le_of_ble_eq_true rfl) rfl rfl ?_
              refine w_aload_n dX10_trials_112 rfl rfl ?_
              refine w_getf fX10_51 dX10_trials_113 RH0 rfl ?_
              refine w_iload dX10_trials_116 rfl ?_
              refine w_if_eq 125 dX10_trials_118 (by decide) (by first | assumption | (unfold ok32 at *; omega)) (fun hb => ?_) (fun hb => ?_)
              · exact absurd hb (by decide)
              · refine w_iconst dX10_trials_121 ?_
                refine w_goto 141 dX10_trials_122 (by decide) ?_
                refine tail 0 _ _ _ ?_
                unfold trW gA
                rw [if_pos hg]
        refine w_iconst dX10_trials_34 ?_
        refine w_istore (lv' := [_, _, _, _, _, _, _, _, _]) dX10_trials_35 (Nat.le_of_ble_eq_true rfl) rfl rfl ?_
        have zero : ∀ k : Nat, k ≤ 4 → ∀ p : Nat → Int, (∀ i, i < k → p i = 0) → wp mX10_trials 37 [.ref r, .int (zI z), .int (zI x), .int (zI (n : Int)), .int (zI (t : Int)), .int (zI (k : Int)), jk, jk, jk] [] (RH r A (u1 (u1 ia 7 q) 12 p) la fi fl h0) 0 0 (pr (some (.int (zI (trC A L R C z x n t)))) r A ia fi h0) := by
          refine up_ind (N := 4) (fun k hk ih => ?_)
          intro p hp
          refine w_iload dX10_trials_37 rfl ?_
          refine w_iconst dX10_trials_39 ?_
          refine w_icmp_ge 57 dX10_trials_40 (by decide) (by first | assumption | (unfold ok32 at *; omega)) (by first | assumption | (unfold ok32 at *; omega)) (fun hk4 => ?_) (fun hk4 => ?_)
          · refine w_iconst dX10_trials_57 ?_
            refine w_istore (lv' := [_, _, _, _, _, _, _, _, _]) dX10_trials_58 (Nat.le_of_ble_eq_true rfl) rfl rfl ?_
            refine main 0 (Nat.zero_le _) _ _ _ _ (keep3.u (keep3.u ⟨rfl, rfl, rfl⟩ (by omega)) (by omega)) (by rw [u1_n (by omega), u1_s]) (fun i hi => ?_)
            rw [u1_s, hp i (by omega)]
            rfl
          · refine w_aload_n dX10_trials_43 rfl rfl ?_
            refine w_getf fX10_51 dX10_trials_44 RH0 rfl ?_
            refine w_iload dX10_trials_47 rfl ?_
            refine w_iconst dX10_trials_49 ?_
            refine r_ist12K k rfl (by omega) dX10_trials_50 ?_
            rw [u1_u1, u1_s]
            refine w_iinc (lv' := [_, _, _, _, _, _, _, _, _]) dX10_trials_51 rfl rfl rfl ?_
            refine w_goto 37 dX10_trials_54 (by decide) ?_
            refine ih (by omega) _ (fun i hi => ?_)
            by_cases h : i = k
            · subst h; rw [u1_s]
            · rw [u1_n h]; exact hp i (by omega)
        have h6 := zero 0 (Nat.zero_le _) (u1 ia 7 q 12) (fun i hi => absurd hi (by omega))
        rw [u1_id] at h6
        exact h6

