/-! the law: its loop -/
set_option maxRecDepth 4000 in
theorem law_turn {sb L0 : Nat} {xs : Nat → Int32} {nm : String} {o i m : Nat} {Φ : Option Value → HP → Prop} {h : HP} {cap : Nat → Nat} {A : Nat → Int} {ia : Nat → Nat → Int} {la : Nat → Nat → BitVec 64} {fi : Nat → Int} {fl : Nat → BitVec 64} {L R C rc rs : Nat} (hL : L0 ≤ 3072) (hi : i + 6 ≤ L0) (N : NX sb L0 xs nm o i m Φ) (I : LI o h cap A ia la fi fl L R C) (r1 : 200 * (m + 1) + (426168 - smC cap) ≤ rc) (r2 : 8300 * (m + 1) + 2 * (426168 - smC cap) ≤ rs) {x : Int32} : wl sb L0 xs (mLaw nm) 33 [.ref sb, .ref o, .ref (o + 60), .int (zI (i : Int))] [.int x] h rc rs Φ := by
  by_cases hout : x.toInt < 0 ∨ 67 < x.toInt
  · refine v_tout 2113 dL_law_33 hout (by decide) ?_
    exact N h cap A ia la fi fl L R C rc rs I (by omega) (by omega)
  · obtain ⟨k, hk⟩ : ∃ k : Nat, x.toInt = (k : Int) := ⟨x.toInt.toNat, by omega⟩
    have hk67 : k ≤ 67 := by omega
    have h1 : ¬ x.toInt < 0 := by omega
    have h2 : ¬ 67 < x.toInt := by omega
    clear hout
    match k, hk, hk67 with
    | 0, hk, _ => exact v_tin 320 dL_law_33 h1 h2 (by rw [hk]; rfl) (by decide) (lc_feed hL hi N I r1 r2)
    | 1, hk, _ => exact v_tin 383 dL_law_33 h1 h2 (by rw [hk]; rfl) (by decide) (lc_end hL hi N I r1 r2)
    | 2, hk, _ => exact v_tin 406 dL_law_33 h1 h2 (by rw [hk]; rfl) (by decide) (lc_text hL hi N I r1 r2)
    | 3, hk, _ => exact v_tin 419 dL_law_33 h1 h2 (by rw [hk]; rfl) (by decide) (lc_fault hL hi N I r1 r2)
    | 4, hk, _ => exact v_tin 442 dL_law_33 h1 h2 (by rw [hk]; rfl) (by decide) (lc_load hL hi N I r1 r2)
    | 5, hk, _ => exact v_tin 465 dL_law_33 h1 h2 (by rw [hk]; rfl) (by decide) (lc_encode hL hi N I r1 r2)
    | 6, hk, _ => exact v_tin 518 dL_law_33 h1 h2 (by rw [hk]; rfl) (by decide) (lc_raise hL hi N I r1 r2)
    | 7, hk, _ => exact v_tin 551 dL_law_33 h1 h2 (by rw [hk]; rfl) (by decide) (lc_slide hL hi N I r1 r2)
    | 8, hk, _ => exact v_tin 584 dL_law_33 h1 h2 (by rw [hk]; rfl) (by decide) (lc_hear hL hi N I r1 r2)
    | 9, hk, _ => exact v_tin 617 dL_law_33 h1 h2 (by rw [hk]; rfl) (by decide) (lc_send hL hi N I r1 r2)
    | 10, hk, _ => exact v_tin 650 dL_law_33 h1 h2 (by rw [hk]; rfl) (by decide) (lc_begin hL hi N I r1 r2)
    | 11, hk, _ => exact v_tin 673 dL_law_33 h1 h2 (by rw [hk]; rfl) (by decide) (lc_order hL hi N I r1 r2)
    | 12, hk, _ => exact v_tin 696 dL_law_33 h1 h2 (by rw [hk]; rfl) (by decide) (lc_step hL hi N I r1 r2)
    | 13, hk, _ => exact v_tin 719 dL_law_33 h1 h2 (by rw [hk]; rfl) (by decide) (lc_undo hL hi N I r1 r2)
    | 14, hk, _ => exact v_tin 732 dL_law_33 h1 h2 (by rw [hk]; rfl) (by decide) (lc_tell hL hi N I r1 r2)
    | 15, hk, _ => exact v_tin 755 dL_law_33 h1 h2 (by rw [hk]; rfl) (by decide) (lc_is hL hi N I r1 r2)
    | 16, hk, _ => exact v_tin 778 dL_law_33 h1 h2 (by rw [hk]; rfl) (by decide) (lc_shift hL hi N I r1 r2)
    | 17, hk, _ => exact v_tin 811 dL_law_33 h1 h2 (by rw [hk]; rfl) (by decide) (lc_layer hL hi N I r1 r2)
    | 18, hk, _ => exact v_tin 834 dL_law_33 h1 h2 (by rw [hk]; rfl) (by decide) (lc_has hL hi N I r1 r2)
    | 19, hk, _ => exact v_tin 867 dL_law_33 h1 h2 (by rw [hk]; rfl) (by decide) (lc_both hL hi N I r1 r2)
    | 20, hk, _ => exact v_tin 900 dL_law_33 h1 h2 (by rw [hk]; rfl) (by decide) (lc_loose hL hi N I r1 r2)
    | 21, hk, _ => exact v_tin 914 dL_law_33 h1 h2 (by rw [hk]; rfl) (by decide) (lc_degree hL hi N I r1 r2)
    | 22, hk, _ => exact v_tin 937 dL_law_33 h1 h2 (by rw [hk]; rfl) (by decide) (lc_bit hL hi N I r1 r2)
    | 23, hk, _ => exact v_tin 970 dL_law_33 h1 h2 (by rw [hk]; rfl) (by decide) (lc_message hL hi N I r1 r2)
    | 24, hk, _ => exact v_tin 1003 dL_law_33 h1 h2 (by rw [hk]; rfl) (by decide) (lc_odd hL hi N I r1 r2)
    | 25, hk, _ => exact v_tin 1026 dL_law_33 h1 h2 (by rw [hk]; rfl) (by decide) (lc_book hL hi N I r1 r2)
    | 26, hk, _ => exact v_tin 1059 dL_law_33 h1 h2 (by rw [hk]; rfl) (by decide) (lc_turned hL hi N I r1 r2)
    | 27, hk, _ => exact v_tin 1082 dL_law_33 h1 h2 (by rw [hk]; rfl) (by decide) (lc_restless hL hi N I r1 r2)
    | 28, hk, _ => exact v_tin 1095 dL_law_33 h1 h2 (by rw [hk]; rfl) (by decide) (lc_guess hL hi N I r1 r2)
    | 29, hk, _ => exact v_tin 1109 dL_law_33 h1 h2 (by rw [hk]; rfl) (by decide) (lc_sent hL hi N I r1 r2)
    | 30, hk, _ => exact v_tin 1123 dL_law_33 h1 h2 (by rw [hk]; rfl) (by decide) (lc_wrong hL hi N I r1 r2)
    | 31, hk, _ => exact v_tin 1136 dL_law_33 h1 h2 (by rw [hk]; rfl) (by decide) (lc_rank hL hi N I r1 r2)
    | 32, hk, _ => exact v_tin 1149 dL_law_33 h1 h2 (by rw [hk]; rfl) (by decide) (lc_carrier hL hi N I r1 r2)
    | 33, hk, _ => exact v_tin 1172 dL_law_33 h1 h2 (by rw [hk]; rfl) (by decide) (lc_girth hL hi N I r1 r2)
    | 34, hk, _ => exact v_tin 1185 dL_law_33 h1 h2 (by rw [hk]; rfl) (by decide) (lc_fours hL hi N I r1 r2)
    | 35, hk, _ => exact v_tin 1198 dL_law_33 h1 h2 (by rw [hk]; rfl) (by decide) (lc_sixes hL hi N I r1 r2)
    | 36, hk, _ => exact v_tin 1211 dL_law_33 h1 h2 (by rw [hk]; rfl) (by decide) (lc_path hL hi N I r1 r2)
    | 37, hk, _ => exact v_tin 1244 dL_law_33 h1 h2 (by rw [hk]; rfl) (by decide) (lc_pieces hL hi N I r1 r2)
    | 38, hk, _ => exact v_tin 1257 dL_law_33 h1 h2 (by rw [hk]; rfl) (by decide) (lc_odds hL hi N I r1 r2)
    | 39, hk, _ => exact v_tin 1310 dL_law_33 h1 h2 (by rw [hk]; rfl) (by decide) (lc_knot hL hi N I r1 r2)
    | 40, hk, _ => exact v_tin 1363 dL_law_33 h1 h2 (by rw [hk]; rfl) (by decide) (lc_knots hL hi N I r1 r2)
    | 41, hk, _ => exact v_tin 1386 dL_law_33 h1 h2 (by rw [hk]; rfl) (by decide) (lc_least hL hi N I r1 r2)
    | 42, hk, _ => exact v_tin 1420 dL_law_33 h1 h2 (by rw [hk]; rfl) (by decide) (lc_stoppers hL hi N I r1 r2)
    | 43, hk, _ => exact v_tin 1443 dL_law_33 h1 h2 (by rw [hk]; rfl) (by decide) (lc_words hL hi N I r1 r2)
    | 44, hk, _ => exact v_tin 1466 dL_law_33 h1 h2 (by rw [hk]; rfl) (by decide) (lc_trapped hL hi N I r1 r2)
    | 45, hk, _ => exact v_tin 1509 dL_law_33 h1 h2 (by rw [hk]; rfl) (by decide) (lc_traps hL hi N I r1 r2)
    | 46, hk, _ => exact v_tin 1542 dL_law_33 h1 h2 (by rw [hk]; rfl) (by decide) (lc_weakest hL hi N I r1 r2)
    | 47, hk, _ => exact v_tin 1566 dL_law_33 h1 h2 (by rw [hk]; rfl) (by decide) (lc_peeled hL hi N I r1 r2)
    | 48, hk, _ => exact v_tin 1620 dL_law_33 h1 h2 (by rw [hk]; rfl) (by decide) (lc_known hL hi N I r1 r2)
    | 49, hk, _ => exact v_tin 1673 dL_law_33 h1 h2 (by rw [hk]; rfl) (by decide) (lc_erasable hL hi N I r1 r2)
    | 50, hk, _ => exact v_tin 1696 dL_law_33 h1 h2 (by rw [hk]; rfl) (by decide) (lc_cost hL hi N I r1 r2)
    | 51, hk, _ => exact v_tin 1749 dL_law_33 h1 h2 (by rw [hk]; rfl) (by decide) (lc_likeliest hL hi N I r1 r2)
    | 52, hk, _ => exact v_tin 1763 dL_law_33 h1 h2 (by rw [hk]; rfl) (by decide) (lc_lightest hL hi N I r1 r2)
    | 53, hk, _ => exact v_tin 1776 dL_law_33 h1 h2 (by rw [hk]; rfl) (by decide) (lc_spectrum hL hi N I r1 r2)
    | 54, hk, _ => exact v_tin 1799 dL_law_33 h1 h2 (by rw [hk]; rfl) (by decide) (lc_nearest hL hi N I r1 r2)
    | 55, hk, _ => exact v_tin 1813 dL_law_33 h1 h2 (by rw [hk]; rfl) (by decide) (lc_pipe hL hi N I r1 r2)
    | 56, hk, _ => exact v_tin 1856 dL_law_33 h1 h2 (by rw [hk]; rfl) (by decide) (lc_quietest hL hi N I r1 r2)
    | 57, hk, _ => exact v_tin 1879 dL_law_33 h1 h2 (by rw [hk]; rfl) (by decide) (lc_clashes hL hi N I r1 r2)
    | 58, hk, _ => exact v_tin 1902 dL_law_33 h1 h2 (by rw [hk]; rfl) (by decide) (lc_calmest hL hi N I r1 r2)
    | 59, hk, _ => exact v_tin 1915 dL_law_33 h1 h2 (by rw [hk]; rfl) (by decide) (lc_foretold hL hi N I r1 r2)
    | 60, hk, _ => exact v_tin 1938 dL_law_33 h1 h2 (by rw [hk]; rfl) (by decide) (lc_believed hL hi N I r1 r2)
    | 61, hk, _ => exact v_tin 1971 dL_law_33 h1 h2 (by rw [hk]; rfl) (by decide) (lc_till hL hi N I r1 r2)
    | 62, hk, _ => exact v_tin 1984 dL_law_33 h1 h2 (by rw [hk]; rfl) (by decide) (lc_fewer hL hi N I r1 r2)
    | 63, hk, _ => exact v_tin 1997 dL_law_33 h1 h2 (by rw [hk]; rfl) (by decide) (lc_trials hL hi N I r1 r2)
    | 64, hk, _ => exact v_tin 2050 dL_law_33 h1 h2 (by rw [hk]; rfl) (by decide) (lc_mean hL hi N I r1 r2)
    | 65, hk, _ => exact v_tin 2064 dL_law_33 h1 h2 (by rw [hk]; rfl) (by decide) (lc_image hL hi N I r1 r2)
    | 66, hk, _ => exact v_tin 2077 dL_law_33 h1 h2 (by rw [hk]; rfl) (by decide) (lc_back hL hi N I r1 r2)
    | 67, hk, _ => exact v_tin 2090 dL_law_33 h1 h2 (by rw [hk]; rfl) (by decide) (lc_about hL hi N I r1 r2)
    | k + 68, _, hq => exact absurd hq (by omega)
theorem law_loop {sb L0 : Nat} {xs : Nat → Int32} {nm : String} {o : Nat} (hL : L0 ≤ 3072) : ∀ (m i : Nat), i ≤ 4000 → L0 < i + 6 * m + 6 → ∀ (h : HP) (cap : Nat → Nat) (A : Nat → Int) (ia : Nat → Nat → Int) (la : Nat → Nat → BitVec 64) (fi : Nat → Int) (fl : Nat → BitVec 64) (L R C rc rs : Nat), LI o h cap A ia la fi fl L R C → 200 * m + (426168 - smC cap) ≤ rc → 8300 * m + 2 * (426168 - smC cap) ≤ rs → wl sb L0 xs (mLaw nm) 18 [.ref sb, .ref o, .ref (o + 60), .int (zI (i : Int))] [] h rc rs (fun v _ => v = some (.int 1)) := by
  intro m
  induction m with
  | zero =>
    intro i hi hlt h cap A ia la fi fl L R C rc rs I r1 r2
    refine vw_iload_n dL_law_18 rfl rfl ?_
    refine vw_aload_n dL_law_19 rfl rfl ?_
    refine v_slen hL dL_law_20 ?_
    refine vw_bipush dL_law_21 (by decide) ?_
    refine vw_isub dL_law_23 ?_
    refine vw_icmp_gt 2119 dL_law_24 (by decide) (by unfold ok32; omega) (by unfold ok32; omega) (fun _ => ?_) (fun hc => absurd hc (by omega))
    refine vw_iconst dL_law_2119 ?_
    exact vx_iret (ty := .boolean) rfl rfl dL_law_2120 rfl
  | succ m ih =>
    intro i hi hlt h cap A ia la fi fl L R C rc rs I r1 r2
    refine vw_iload_n dL_law_18 rfl rfl ?_
    refine vw_aload_n dL_law_19 rfl rfl ?_
    refine v_slen hL dL_law_20 ?_
    refine vw_bipush dL_law_21 (by decide) ?_
    refine vw_isub dL_law_23 ?_
    refine vw_icmp_gt 2119 dL_law_24 (by decide) (by unfold ok32; omega) (by unfold ok32; omega) (fun _ => ?_) (fun hc => ?_)
    · refine vw_iconst dL_law_2119 ?_
      exact vx_iret (ty := .boolean) rfl rfl dL_law_2120 rfl
    · have hi6 : i + 6 ≤ L0 := by omega
      have N : NX sb L0 xs nm o i m (fun v _ => v = some (.int 1)) := by
        intro h2 cap2 A2 ia2 la2 fi2 fl2 L2 R2 C2 rc2 rs2 I2 q1 q2
        refine vw_iinc (lv' := [_, _, _, _]) dL_law_2113 rfl rfl rfl ?_
        refine vw_goto 18 dL_law_2116 (by decide) ?_
        rw [show (i : Int) + 6 = ((i + 6 : Nat) : Int) by omega]
        exact ih (i + 6) (by omega) (by omega) h2 cap2 A2 ia2 la2 fi2 fl2 L2 R2 C2 rc2 rs2 I2 q1 q2
      refine vw_aload_n dL_law_27 rfl rfl ?_
      refine vw_iload_n dL_law_28 rfl rfl ?_
      refine v_sld i rfl (by omega) hL dL_law_29 ?_
      refine vw_bipush dL_law_30 (by decide) ?_
      refine vw_iandR dL_law_32 ?_
      exact law_turn hL hi6 N I r1 r2
set_option maxRecDepth 8000 in
theorem law_start {sb L0 : Nat} {xs : Nat → Int32} {nm : String} {o : Nat} {f : Nat → Option CE} {rc rs : Nat} (hL : L0 ≤ 3072) (r1 : 528577 ≤ rc) (r2 : 5123063 ≤ rs) : wl sb L0 xs (mLaw nm) 0 [.ref sb, jk, jk, jk] [] (o, f) rc rs (fun v _ => v = some (.int 1)) := by
  refine vw_new nL_7 (by omega) (by omega) dL_law_0 ?_
  refine vw_dup dL_law_3 rfl ?_
  refine vw_callI (Z := mX9_init) (As := []) (c9_init (o := o) rfl up_s) kX9_init rfl lL_9 iX9_init rfl dL_law_4 rfl rfl rfl (Nat.le_of_ble_eq_true rfl) ⟨Nat.le_of_ble_eq_true rfl, Nat.le_of_ble_eq_true rfl⟩ (by omega) (by omega) (fun v1 g1 q => ?_)
  obtain ⟨rfl, hc⟩ := q
  obtain ⟨n1, f1⟩ := g1
  have e1 : n1 = o + 60 := hc.1
  subst e1
  refine vw_astore_n (lv' := [_, _, _, _]) dL_law_7 rfl (Nat.le_of_ble_eq_true rfl) rfl rfl ?_
  refine vw_new nL_10 (by omega) (by omega) dL_law_8 ?_
  refine vw_dup dL_law_11 rfl ?_
  refine vw_callI (Z := mX10_init) (As := []) (c_init (r := o + 60) rfl up_s) kX10_init rfl lL_12 iX10_init rfl dL_law_12 rfl rfl rfl (Nat.le_of_ble_eq_true rfl) ⟨Nat.le_of_ble_eq_true rfl, Nat.le_of_ble_eq_true rfl⟩ (by omega) (by omega) (fun v2 g2 q => ?_)
  obtain ⟨rfl, rfl⟩ := q
  refine vw_astore_n (lv' := [_, _, _, _]) dL_law_15 rfl (Nat.le_of_ble_eq_true rfl) rfl rfl ?_
  refine vw_iconst dL_law_16 ?_
  refine vw_istore_n (lv' := [_, _, _, _]) dL_law_17 rfl (Nat.le_of_ble_eq_true rfl) rfl rfl ?_
  have hsm : smC cap0 = 64 := rfl
  refine law_loop hL 512 0 (by omega) (by omega) _ cap0 A0 _ _ _ _ 1 1 2 _ _ ⟨?_, RHP.rh⟩ (by omega) (by omega)
  have key := cls_0 (h' := RH (o + 60) A0 (u1 (fun _ _ => 0) 2 (fillR (fun _ => 0) 0 9033 A0)) (fun _ _ => 0) (u1 (u1 (fun _ => 0) 5 (-1)) 6 (-1)) (fun _ => 0) (o + 60 + 13, up f1 (o + 60) (.inr (9, [.null, .null, .null, .null, .int 0, .int 0, .int 0, .int 0, .int 0, .int 0, .int 0, .int 0, .int 0, .int 0, .null, .null, .long 0, .int 0, .null, .null, .null, .null, .int 0, .long 0, .null, .int 0, .int 0, .null])))) hc rfl (fun x hx => (RHn (by omega)).trans (up_n (by omega)))
  rw [show u1 (fun _ _ => 0) 2 (fillR (fun _ => 0) 0 9033 A0) 2 = A0 from im_0]
  exact key
