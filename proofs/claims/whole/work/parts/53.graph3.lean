/-! the class's graph -/
set_option maxRecDepth 4000 in
theorem c4_way {h : HP} {c : Nat} {B : Nat → Int} {L R C b : Nat} {g : BitVec 64} {z : Int} {cc : Nat → BitVec 64} (hC : CDP h c B L R C) (hb : b < L * C) (hz : ok32 z) (hcc : ∀ i, i < L * R → cc i = if (i : Int) = z then 0#64 else cs B L C i) : sp mX4_way [.ref c, .int (zI (b : Int)), .long (lB g), .int (zI z)] h 0 0 (pd (some (.int (zI (wyV cc (L * R) b g)))) h) := by
  obtain ⟨ad, f7, f8, f10, f9, f11, rk, cr, hV, h6, h7, o_c, r_c_shifts, r_c_edges, r_c_bitsOf, r_c_checksOf, r_c_sums, e7, e8, e9, e10, hRD⟩ := id hC
  obtain ⟨v1, v2, v3, v4, v5, v6, v7⟩ := id hV
  have hLC := mulLe (a := L) (b := C) (x := 6) (y := 8) (by omega) (by omega)
  have hLR := mulLe (a := L) (b := R) (x := 6) (y := 4) (by omega) (by omega)
  have hm : L * R ≤ 24 := by omega
  refine sp_wp rfl (lv := [_, _, _, _, _, _, _, _, _, _, _]) rfl (Nat.le_of_ble_eq_true rfl) ?_
  refine w_lconst1 dX4_way_0 ?_
  refine w_iload_n dX4_way_1 rfl rfl ?_
  refine w_lshl b rfl (by omega) dX4_way_2 ?_
  refine w_lstore (lv' := [_, _, _, _, _, _, _, _, _, _, _]) dX4_way_3 (Nat.le_of_ble_eq_true rfl) rfl rfl ?_
  refine w_lload dX4_way_5 rfl ?_
  refine w_lload_n dX4_way_7 rfl rfl ?_
  refine w_land dX4_way_8 ?_
  refine w_lconst0 dX4_way_9 ?_
  refine w_lc_eq 16 dX4_way_10 dX4_way_11 (by decide) (fun h0 => ?_) (fun h0 => ?_)
  rotate_left
  · refine w_iconst dX4_way_14 ?_
    refine x_iret rfl rfl dX4_way_15 ⟨?_, rfl⟩
    unfold wyV
    rw [if_neg h0]
  · refine w_iconst dX4_way_16 ?_
    refine w_istore (lv' := [_, _, _, _, _, _, _, _, _, _, _]) dX4_way_17 (Nat.le_of_ble_eq_true rfl) rfl rfl ?_
    have hV0 : wyV cc (L * R) b g = wyF cc (L * R) g (L * R) (1#64 <<< b) 1 := if_pos h0
    rw [hV0]
    obtain ⟨V0, hV1⟩ : ∃ V0, wyF cc (L * R) g (L * R) (1#64 <<< b) 1 = V0 := ⟨_, rfl⟩
    rw [hV1]
    have key : ∀ (f l : Nat) (x : BitVec 64) (x8 x9 x10 : Value), f + l = L * R + 1 → 1 ≤ l → wyF cc (L * R) g f x l = V0 → wp mX4_way 19 [.ref c, .int (zI (b : Int)), .long (lB g), jk, .int (zI z), .long (lB x), jk, .int (zI (l : Int)), x8, x9, x10] [] h 0 0 (pd (some (.int (zI V0))) h) := by
      intro f
      induction f with
      | zero =>
        intro l x x8 x9 x10 hl hl1 hv
        refine w_iload dX4_way_19 rfl ?_
        refine w_aload_n dX4_way_21 rfl rfl ?_
        refine w_getf fX4_9 dX4_way_22 o_c rfl ?_
        refine w_icmp_gt 116 dX4_way_25 (by decide) (by first | assumption | (unfold ok32 at *; omega)) (by first | assumption | (unfold ok32 at *; omega)) (fun hc => ?_) (fun hc => ?_)
        · refine w_iconst dX4_way_116 ?_
          refine x_iret rfl rfl dX4_way_117 ⟨?_, rfl⟩
          rw [← hv]; rfl
        · omega
      | succ f ih =>
        intro l x x8 x9 x10 hl hl1 hv
        unfold wyF at hv
        refine w_iload dX4_way_19 rfl ?_
        refine w_aload_n dX4_way_21 rfl rfl ?_
        refine w_getf fX4_9 dX4_way_22 o_c rfl ?_
        refine w_icmp_gt 116 dX4_way_25 (by decide) (by first | assumption | (unfold ok32 at *; omega)) (by first | assumption | (unfold ok32 at *; omega)) (fun hc => ?_) (fun hc => ?_)
        · omega
        · refine w_lload dX4_way_28 rfl ?_
          refine w_lstore (lv' := [_, _, _, _, _, _, _, _, _, _, _]) dX4_way_30 (Nat.le_of_ble_eq_true rfl) rfl rfl ?_
          refine w_iconst dX4_way_32 ?_
          refine w_istore (lv' := [_, _, _, _, _, _, _, _, _, _, _]) dX4_way_33 (Nat.le_of_ble_eq_true rfl) rfl rfl ?_
          have key2 : ∀ k, k ≤ L * R → wp mX4_way 35 [.ref c, .int (zI (b : Int)), .long (lB g), jk, .int (zI z), .long (lB x), jk, .int (zI (l : Int)), .long (lB (bsN cc x k)), jk, .int (zI (k : Int))] [] h 0 0 (pd (some (.int (zI V0))) h) := by
            refine up_ind (fun k hk ih2 => ?_)
            refine w_iload dX4_way_35 rfl ?_
            refine w_aload_n dX4_way_37 rfl rfl ?_
            refine w_getf fX4_9 dX4_way_38 o_c rfl ?_
            refine w_icmp_ge 84 dX4_way_41 (by decide) (by first | assumption | (unfold ok32 at *; omega)) (by first | assumption | (unfold ok32 at *; omega)) (fun hd => ?_) (fun hd => ?_)
            · rw [show k = L * R by omega]
              refine w_lload dX4_way_84 rfl ?_
              refine w_lload_n dX4_way_86 rfl rfl ?_
              refine w_land dX4_way_87 ?_
              refine w_lconst0 dX4_way_88 ?_
              refine w_lc_eq 96 dX4_way_89 dX4_way_90 (by decide) (fun h2 => ?_) (fun h2 => ?_)
              · rw [if_pos h2] at hv
                refine w_lload dX4_way_96 rfl ?_
                refine w_lload dX4_way_98 rfl ?_
                refine w_lc_ne 106 dX4_way_100 dX4_way_101 (by decide) (fun h3 => ?_) (fun h3 => ?_)
                · rw [if_neg h3] at hv
                  refine w_lload dX4_way_106 rfl ?_
                  refine w_lstore (lv' := [_, _, _, _, _, _, _, _, _, _, _]) dX4_way_108 (Nat.le_of_ble_eq_true rfl) rfl rfl ?_
                  refine w_iinc (lv' := [_, _, _, _, _, _, _, _, _, _, _]) dX4_way_110 rfl rfl rfl ?_
                  refine w_goto 19 dX4_way_113 (by decide) ?_
                  exact ih (l + 1) (bsN cc x (L * R)) _ _ _ (by omega) (by omega) hv
                · rw [if_pos h3] at hv
                  refine w_iconst dX4_way_104 ?_
                  refine x_iret rfl rfl dX4_way_105 ⟨?_, rfl⟩
                  rw [← hv]
              · rw [if_neg h2] at hv
                refine w_iload dX4_way_93 rfl ?_
                refine x_iret rfl rfl dX4_way_95 ⟨?_, rfl⟩
                rw [← hv]
            · refine w_iload dX4_way_44 rfl ?_
              refine w_iload dX4_way_46 rfl ?_
              refine w_icmp_eq 78 dX4_way_48 (by decide) (by first | assumption | (unfold ok32 at *; omega)) (by first | assumption | (unfold ok32 at *; omega)) (fun h4 => ?_) (fun h4 => ?_)
              · refine w_iinc (lv' := [_, _, _, _, _, _, _, _, _, _, _]) dX4_way_78 rfl rfl rfl ?_
                refine w_goto 35 dX4_way_81 (by decide) ?_
                refine w_cast ?_ rfl rfl (ih2 (by omega))
                rw [bsN, if_pos (by rw [hcc k (by omega), if_pos h4]; simp)]
                rfl
              · have he : cc k = cs B L C k := by rw [hcc k (by omega), if_neg h4]
                refine w_aload_n dX4_way_51 rfl rfl ?_
                refine w_getf fX4_15 dX4_way_52 o_c rfl ?_
                refine w_iload dX4_way_55 rfl ?_
                refine w_lald (k) r_c_bitsOf (by first | rfl | omega | (push_cast; rfl) | (push_cast; omega)) (by omega) (by decide) dX4_way_57 ?_
                rw [e9 k (by omega)]
                refine w_lload dX4_way_58 rfl ?_
                refine w_land dX4_way_60 ?_
                refine w_lconst0 dX4_way_61 ?_
                refine w_lc_eq 78 dX4_way_62 dX4_way_63 (by decide) (fun h5 => ?_) (fun h5 => ?_)
                · refine w_iinc (lv' := [_, _, _, _, _, _, _, _, _, _, _]) dX4_way_78 rfl rfl rfl ?_
                  refine w_goto 35 dX4_way_81 (by decide) ?_
                  refine w_cast ?_ rfl rfl (ih2 (by omega))
                  rw [bsN, if_pos (by rw [he]; exact h5)]
                  rfl
                · refine w_lload dX4_way_66 rfl ?_
                  refine w_aload_n dX4_way_68 rfl rfl ?_
                  refine w_getf fX4_15 dX4_way_69 o_c rfl ?_
                  refine w_iload dX4_way_72 rfl ?_
                  refine w_lald (k) r_c_bitsOf (by first | rfl | omega | (push_cast; rfl) | (push_cast; omega)) (by omega) (by decide) dX4_way_74 ?_
                  rw [e9 k (by omega)]
                  refine w_lor dX4_way_75 ?_
                  refine w_lstore (lv' := [_, _, _, _, _, _, _, _, _, _, _]) dX4_way_76 (Nat.le_of_ble_eq_true rfl) rfl rfl ?_
                  refine w_iinc (lv' := [_, _, _, _, _, _, _, _, _, _, _]) dX4_way_78 rfl rfl rfl ?_
                  refine w_goto 35 dX4_way_81 (by decide) ?_
                  refine w_cast ?_ rfl rfl (ih2 (by omega))
                  rw [bsN, if_neg (by rw [he]; exact h5), he]
                  rfl
          exact key2 0 (Nat.zero_le _)
    exact key (L * R) 1 _ jk jk jk (by omega) (by omega) hV1
theorem cWo_z {c : Nat → BitVec 64} {k i : Nat} : cWo c k i = if (i : Int) = (k : Int) then 0#64 else c i := by
  unfold cWo
  by_cases q : i = k
  · rw [if_pos q, if_pos (by omega)]
  · rw [if_neg q, if_neg (by omega)]
set_option maxRecDepth 4000 in
theorem c4_shortestRing {h : HP} {c : Nat} {B : Nat → Int} {L R C : Nat} (hC : CDP h c B L R C) : sp mX4_shortestRing [.ref c] h 0 0 (pd (some (.int (zI (gr1 (ringV B L R C) C (L * R))))) h) := by
  obtain ⟨ad, f7, f8, f10, f9, f11, rk, cr, hV, h6, h7, o_c, r_c_shifts, r_c_edges, r_c_bitsOf, r_c_checksOf, r_c_sums, e7, e8, e9, e10, hRD⟩ := id hC
  obtain ⟨v1, v2, v3, v4, v5, v6, v7⟩ := id hV
  have hLC := mulLe (a := L) (b := C) (x := 6) (y := 8) (by omega) (by omega)
  have hLR := mulLe (a := L) (b := R) (x := 6) (y := 4) (by omega) (by omega)
  refine sp_wp rfl (lv := [_, _, _, _, _, _]) rfl (Nat.le_of_ble_eq_true rfl) ?_
  refine w_iconst dX4_shortestRing_0 ?_
  refine w_istore_n (lv' := [_, _, _, _, _, _]) dX4_shortestRing_1 rfl (Nat.le_of_ble_eq_true rfl) rfl rfl ?_
  refine w_iconst dX4_shortestRing_2 ?_
  refine w_istore_n (lv' := [_, _, _, _, _, _]) dX4_shortestRing_3 rfl (Nat.le_of_ble_eq_true rfl) rfl rfl ?_
  have key : ∀ k, k ≤ L * R → ∀ x3 x4 x5 : Value, wp mX4_shortestRing 4 [.ref c, .int (zI (gr1 (ringV B L R C) C k)), .int (zI (k : Int)), x3, x4, x5] [] h 0 0 (pd (some (.int (zI (gr1 (ringV B L R C) C (L * R))))) h) := by
    refine up_ind (P := fun k => ∀ x3 x4 x5 : Value, wp mX4_shortestRing 4 [.ref c, .int (zI (gr1 (ringV B L R C) C k)), .int (zI (k : Int)), x3, x4, x5] [] h 0 0 (pd (some (.int (zI (gr1 (ringV B L R C) C (L * R))))) h)) (fun k hk ih x3 x4 x5 => ?_)
    have hg1 := gr1_rng (g := ringV B L R C) (C := C) (c := k) (fun i _ j _ => ringV_rng)
    refine w_iload_n dX4_shortestRing_4 rfl rfl ?_
    refine w_aload_n dX4_shortestRing_5 rfl rfl ?_
    refine w_getf fX4_9 dX4_shortestRing_6 o_c rfl ?_
    refine w_icmp_ge 107 dX4_shortestRing_9 (by decide) (by first | assumption | (unfold ok32 at *; omega)) (by first | assumption | (unfold ok32 at *; omega)) (fun hc => ?_) (fun hc => ?_)
    · refine w_iload_n dX4_shortestRing_107 rfl rfl ?_
      refine x_iret rfl rfl dX4_shortestRing_108 ⟨?_, rfl⟩
      rw [show k = L * R by omega]
    · refine w_iconst dX4_shortestRing_12 ?_
      refine w_istore_n (lv' := [_, _, _, _, _, _]) dX4_shortestRing_13 rfl (Nat.le_of_ble_eq_true rfl) rfl rfl ?_
      have key2 : ∀ j, j ≤ C → ∀ x4 x5 : Value, wp mX4_shortestRing 14 [.ref c, .int (zI (gr2 (ringV B L R C) k j (gr1 (ringV B L R C) C k))), .int (zI (k : Int)), .int (zI (j : Int)), x4, x5] [] h 0 0 (pd (some (.int (zI (gr1 (ringV B L R C) C (L * R))))) h) := by
        refine up_ind (P := fun j => ∀ x4 x5 : Value, wp mX4_shortestRing 14 [.ref c, .int (zI (gr2 (ringV B L R C) k j (gr1 (ringV B L R C) C k))), .int (zI (k : Int)), .int (zI (j : Int)), x4, x5] [] h 0 0 (pd (some (.int (zI (gr1 (ringV B L R C) C (L * R))))) h)) (fun j hj ih2 x4 x5 => ?_)
        have hg2 := gr2_rng (g := ringV B L R C) (c := k) (l := gr1 (ringV B L R C) C k) hg1 (j := j) (fun i _ => ringV_rng)
        obtain ⟨G, hG⟩ : ∃ G, gr2 (ringV B L R C) k j (gr1 (ringV B L R C) C k) = G := ⟨_, rfl⟩
        have hrv := @ringV_rng B L R C k j
        refine w_iload_n dX4_shortestRing_14 rfl rfl ?_
        refine w_aload_n dX4_shortestRing_15 rfl rfl ?_
        refine w_getf fX4_19 dX4_shortestRing_16 o_c rfl ?_
        refine w_icmp_ge 101 dX4_shortestRing_19 (by decide) (by first | assumption | (unfold ok32 at *; omega)) (by first | assumption | (unfold ok32 at *; omega)) (fun hd => ?_) (fun hd => ?_)
        · refine w_iinc (lv' := [_, _, _, _, _, _]) dX4_shortestRing_101 rfl rfl rfl ?_
          refine w_goto 4 dX4_shortestRing_104 (by decide) ?_
          refine w_cast ?_ rfl rfl (ih (by omega) (.int (zI (j : Int))) x4 x5)
          rw [gr1, show j = C by omega]
          rfl
        · have hbr := bitN_le (sh := shA B) (c := k) v4 (show j < C by omega) (by omega) (v7 _ (by have := rowLt (show k < L * R by omega) v4.1; omega)).1
          refine w_aload_n dX4_shortestRing_22 rfl rfl ?_
          refine w_getf fX4_22 dX4_shortestRing_23 o_c rfl ?_
          refine w_iload_n dX4_shortestRing_26 rfl rfl ?_
          refine w_bipush dX4_shortestRing_27 (by decide) ?_
          refine w_imul dX4_shortestRing_29 ?_
          refine w_iload_n dX4_shortestRing_30 rfl rfl ?_
          refine w_iadd dX4_shortestRing_31 ?_
          refine w_iald (8 * k + j) r_c_edges (by first | rfl | omega | (push_cast; rfl) | (push_cast; omega)) (by omega) (by decide) dX4_shortestRing_32 ?_
          rw [e8 k (by omega) j (by omega)]
          obtain ⟨bb, hbb⟩ : ∃ bb, bitN (shA B) L k j = bb := ⟨_, rfl⟩
          rw [hbb] at hbr ⊢
          refine w_istore (lv' := [_, _, _, _, _, _]) dX4_shortestRing_33 (Nat.le_of_ble_eq_true rfl) rfl rfl ?_
          refine w_iload dX4_shortestRing_35 rfl ?_
          refine w_if_ge 43 dX4_shortestRing_37 (by decide) (by first | assumption | (unfold ok32 at *; omega)) (fun h1 => ?_) (fun h1 => ?_)
          rotate_left
          · refine w_goto 95 dX4_shortestRing_40 (by decide) ?_
            refine w_iinc (lv' := [_, _, _, _, _, _]) dX4_shortestRing_95 rfl rfl rfl ?_
            refine w_goto 14 dX4_shortestRing_98 (by decide) ?_
            refine w_cast ?_ rfl rfl (ih2 (by omega) (.int (zI bb)) x5)
            rw [gr2, if_neg (fun q => q.1 (by unfold ringV; rw [hbb, if_pos (by omega)]))]
            rfl
          · obtain ⟨t, ht⟩ : ∃ t : Nat, bb = (t : Int) := ⟨bb.toNat, by omega⟩
            subst ht
            have ht48 : t < L * C := by have := hbr.2.1; push_cast; omega
            have hW := way_ring (c := cs B L C) (m := L * R) (w := k) (b := t) (by omega) (by omega) (by omega)
            have hrg : ringV B L R C k j = if wyV (cWo (cs B L C) k) (L * R) t (cs B L C k &&& ~~~(1#64 <<< t)) = -1 then -1 else 2 + 2 * wyV (cWo (cs B L C) k) (L * R) t (cs B L C k &&& ~~~(1#64 <<< t)) := by
              unfold ringV
              rw [hbb, if_neg (by omega), Int.toNat_natCast]
              exact hW
            rw [hG]
            refine w_aload_n dX4_shortestRing_43 rfl rfl ?_
            refine w_iload dX4_shortestRing_44 rfl ?_
            refine w_aload_n dX4_shortestRing_46 rfl rfl ?_
            refine w_getf fX4_15 dX4_shortestRing_47 o_c rfl ?_
            refine w_iload_n dX4_shortestRing_50 rfl rfl ?_
            refine w_lald (k) r_c_bitsOf (by first | rfl | omega | (push_cast; rfl) | (push_cast; omega)) (by omega) (by decide) dX4_shortestRing_51 ?_
            rw [e9 k (by omega)]
            refine w_lconst1 dX4_shortestRing_52 ?_
            refine w_iload dX4_shortestRing_53 rfl ?_
            refine w_lshl t rfl (by omega) dX4_shortestRing_55 ?_
            refine w_ldc2B (-1#64) qX4_26 (by decide) dX4_shortestRing_56 ?_
            refine w_lxor dX4_shortestRing_59 ?_
            rw [nx]
            refine w_land dX4_shortestRing_60 ?_
            refine w_iload_n dX4_shortestRing_61 rfl rfl ?_
            refine wc_S (Z := mX4_way) (As := [_, _, _, _]) (c4_way (z := (k : Int)) hC ht48 (by unfold ok32; omega) (cc := cWo (cs B L C) k) (fun i _ => cWo_z)) kX4_way lX4_28 sX4_way dX4_shortestRing_62 rfl rfl rfl (Nat.le_of_ble_eq_true rfl) ⟨Nat.le_of_ble_eq_true rfl, Nat.le_of_ble_eq_true rfl⟩ ?_
            obtain ⟨w, hw⟩ : ∃ w, wyV (cWo (cs B L C) k) (L * R) t (cs B L C k &&& ~~~(1#64 <<< t)) = w := ⟨_, rfl⟩
            rw [hw] at hrg ⊢
            have hwr : -1 ≤ w ∧ w ≤ 100 := by
              by_cases q : w = -1
              · omega
              · rw [if_neg q] at hrg; omega
            rw [hG] at hg2
            refine w_istore (lv' := [_, _, _, _, _, _]) dX4_shortestRing_65 (Nat.le_of_ble_eq_true rfl) rfl rfl ?_
            refine w_iload dX4_shortestRing_67 rfl ?_
            refine w_iconst dX4_shortestRing_69 ?_
            refine w_icmp_eq 95 dX4_shortestRing_70 (by decide) (by first | assumption | (unfold ok32 at *; omega)) (by first | assumption | (unfold ok32 at *; omega)) (fun h2 => ?_) (fun h2 => ?_)
            · refine w_iinc (lv' := [_, _, _, _, _, _]) dX4_shortestRing_95 rfl rfl rfl ?_
              refine w_goto 14 dX4_shortestRing_98 (by decide) ?_
              refine w_cast ?_ rfl rfl (ih2 (by omega) (.int (zI (t : Int))) (.int (zI w)))
              rw [gr2, hG, if_neg (fun q => q.1 (by rw [hrg, if_pos h2]))]
              rfl
            · rw [if_neg h2] at hrg
              have hfin : gr2 (ringV B L R C) k (j + 1) (gr1 (ringV B L R C) C k) = if G = -1 ∨ 2 + 2 * w < G then 2 + 2 * w else G := by
                rw [gr2, hG, hrg]
                by_cases q : G = -1 ∨ 2 + 2 * w < G
                · rw [if_pos ⟨by omega, q⟩, if_pos q]
                · rw [if_neg (fun r => q r.2), if_neg q]
              refine w_iload_n dX4_shortestRing_73 rfl rfl ?_
              refine w_iconst dX4_shortestRing_74 ?_
              refine w_icmp_eq 88 dX4_shortestRing_75 (by decide) (by first | assumption | (unfold ok32 at *; omega)) (by first | assumption | (unfold ok32 at *; omega)) (fun h3 => ?_) (fun h3 => ?_)
              · refine w_iconst dX4_shortestRing_88 ?_
                refine w_iload dX4_shortestRing_89 rfl ?_
                refine w_imul dX4_shortestRing_91 ?_
                refine w_iconst dX4_shortestRing_92 ?_
                refine w_iadd dX4_shortestRing_93 ?_
                refine w_istore_n (lv' := [_, _, _, _, _, _]) dX4_shortestRing_94 rfl (Nat.le_of_ble_eq_true rfl) rfl rfl ?_
                refine w_iinc (lv' := [_, _, _, _, _, _]) dX4_shortestRing_95 rfl rfl rfl ?_
                refine w_goto 14 dX4_shortestRing_98 (by decide) ?_
                refine w_cast ?_ rfl rfl (ih2 (by omega) (.int (zI (t : Int))) (.int (zI w)))
                rw [hfin, if_pos (Or.inl h3), Int.add_comm (2 * w) 2]
                rfl
              · refine w_iconst dX4_shortestRing_78 ?_
                refine w_iload dX4_shortestRing_79 rfl ?_
                refine w_imul dX4_shortestRing_81 ?_
                refine w_iconst dX4_shortestRing_82 ?_
                refine w_iadd dX4_shortestRing_83 ?_
                refine w_iload_n dX4_shortestRing_84 rfl rfl ?_
                refine w_icmp_ge 95 dX4_shortestRing_85 (by decide) (by first | assumption | (unfold ok32 at *; omega)) (by first | assumption | (unfold ok32 at *; omega)) (fun h4 => ?_) (fun h4 => ?_)
                · refine w_iinc (lv' := [_, _, _, _, _, _]) dX4_shortestRing_95 rfl rfl rfl ?_
                  refine w_goto 14 dX4_shortestRing_98 (by decide) ?_
                  refine w_cast ?_ rfl rfl (ih2 (by omega) (.int (zI (t : Int))) (.int (zI w)))
                  rw [hfin, if_neg (by omega)]
                  rfl
                · refine w_iconst dX4_shortestRing_88 ?_
                  refine w_iload dX4_shortestRing_89 rfl ?_
                  refine w_imul dX4_shortestRing_91 ?_
                  refine w_iconst dX4_shortestRing_92 ?_
                  refine w_iadd dX4_shortestRing_93 ?_
                  refine w_istore_n (lv' := [_, _, _, _, _, _]) dX4_shortestRing_94 rfl (Nat.le_of_ble_eq_true rfl) rfl rfl ?_
                  refine w_iinc (lv' := [_, _, _, _, _, _]) dX4_shortestRing_95 rfl rfl rfl ?_
                  refine w_goto 14 dX4_shortestRing_98 (by decide) ?_
                  refine w_cast ?_ rfl rfl (ih2 (by omega) (.int (zI (t : Int))) (.int (zI w)))
                  rw [hfin, if_pos (Or.inr (by omega)), Int.add_comm (2 * w) 2]
                  rfl
      exact key2 0 (Nat.zero_le _) _ _
  exact key 0 (Nat.zero_le _) jk jk jk

