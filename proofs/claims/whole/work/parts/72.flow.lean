/-! the class's pipe -/
def RLT (lt q : Nat → Int) (t : Int) : Prop := ∀ c, c < 8 → (q c = -1 ∧ lt c = -t) ∨ (0 ≤ q c ∧ lt c = q c)
def FREL (ba : Nat → Nat → Int) (bi : Nat → Int) (x : PS) (s0 : Nat) (t : Int) : Prop := bi 2 = (x.1 : Int) ∧ bi 3 = (x.1 : Int) - s0 ∧ bi 4 = (x.2.2 : Int) ∧ RLT (ba 2) x.2.1 t
set_option maxRecDepth 4000 in
theorem c3_readyOf {a : Nat} {ba : Nat → Nat → Int} {bi : Nat → Int} {h0 : HP} {u C s : Nat} {q : Nat → Int} {t : Int} (hu : u < 256) (hC : C ≤ 8) (huC : ∀ i, i < 8 → u.testBit i = true → i < C) (hs : bi 2 = (s : Int)) (hs2 : s ≤ 10000) (hq : ∀ c, c < 8 → -1 ≤ q c ∧ q c < (s : Int)) (ht : 1 ≤ t ∧ t ≤ 9) (hR : RLT (ba 2) q t) : sp mX3_readyOf [.ref a, .int (zI (u : Int)), .int (zI t)] (FLH a ba bi h0) 0 0 (pd (some (.int (zI (rdN u q (s : Int) t C C)))) (FLH a ba bi h0)) := by
  obtain ⟨V, hV⟩ : ∃ V, rdN u q (s : Int) t C C = V := ⟨_, rfl⟩
  rw [hV]
  refine sp_wp rfl (lv := [_, _, _, _]) rfl (Nat.le_of_ble_eq_true rfl) ?_
  refine w_iconst dX3_readyOf_0 ?_
  refine w_istore_n (lv' := [_, _, _, _]) dX3_readyOf_1 rfl (Nat.le_of_ble_eq_true rfl) rfl rfl ?_
  have key : ∀ c, c ≤ 8 → rdN u q (s : Int) t C (C - c) = V → wp mX3_readyOf 2 [.ref a, .int (zI (u : Int)), .int (zI t), .int (zI (c : Int))] [] (FLH a ba bi h0) 0 0 (pd (some (.int (zI V))) (FLH a ba bi h0)) := by
    refine up_ind (P := fun c => rdN u q (s : Int) t C (C - c) = V → wp mX3_readyOf 2 [.ref a, .int (zI (u : Int)), .int (zI t), .int (zI (c : Int))] [] (FLH a ba bi h0) 0 0 (pd (some (.int (zI V))) (FLH a ba bi h0))) (fun c hc ih hv => ?_)
    refine w_iload_n dX3_readyOf_2 rfl rfl ?_
    refine w_bipush dX3_readyOf_3 (by decide) ?_
    refine w_icmp_ge 39 dX3_readyOf_5 (by decide) (by first | assumption | (unfold ok32 at *; omega)) (by first | assumption | (unfold ok32 at *; omega)) (fun hd => ?_) (fun hd => ?_)
    · refine w_iconst dX3_readyOf_39 ?_
      refine x_iret rfl rfl dX3_readyOf_40 ⟨?_, rfl⟩
      rw [← hv, show C - c = 0 by omega]
      rfl
    · have hqc := hq c (by omega)
      have hrc := hR c (by omega)
      refine w_iload_n dX3_readyOf_8 rfl rfl ?_
      refine w_iload_n dX3_readyOf_9 rfl rfl ?_
      refine w_ishrR dX3_readyOf_10 ?_
      refine w_iconst dX3_readyOf_11 ?_
      refine w_iandR dX3_readyOf_12 ?_
      rw [sbit8 hu (by omega)]
      refine w_ifb_eq 33 dX3_readyOf_13 (by decide) (fun hb => ?_) (fun hb => ?_)
      · refine w_iinc (lv' := [_, _, _, _]) dX3_readyOf_33 rfl rfl rfl ?_
        refine w_goto 2 dX3_readyOf_36 (by decide) ?_
        refine ih (by omega) ?_
        by_cases hcC : c < C
        · rw [← hv, show C - c = (C - (c + 1)) + 1 by omega, rdN, show C - (C - (c + 1) + 1) = c by omega, if_neg (fun z => hb z.1)]
        · rw [← hv, show C - (c + 1) = C - c by omega]
      · have hcC := huC c (by omega) hb
        have hst : rdN u q (s : Int) t C (C - c) = if q c = -1 ∨ t ≤ (s : Int) - q c then (c : Int) else rdN u q (s : Int) t C (C - (c + 1)) := by
          rw [show C - c = (C - (c + 1)) + 1 by omega, rdN, show C - (C - (c + 1) + 1) = c by omega]
          by_cases hz : q c = -1 ∨ t ≤ (s : Int) - q c
          · rw [if_pos ⟨hb, hz⟩, if_pos hz]
          · rw [if_neg (fun z => hz z.2), if_neg hz]
        rw [hst] at hv
        refine w_aload_n dX3_readyOf_16 rfl rfl ?_
        refine w_getf fX3_34 dX3_readyOf_17 FL0 rfl ?_
        rw [hs]
        refine w_aload_n dX3_readyOf_20 rfl rfl ?_
        refine w_getf fX3_15 dX3_readyOf_21 FL0 rfl ?_
        refine w_iload_n dX3_readyOf_24 rfl rfl ?_
        refine w_iald (c) FL2 (by first | rfl | omega | (push_cast; rfl) | (push_cast; omega)) (by omega) (by decide) dX3_readyOf_25 ?_
        refine w_isub dX3_readyOf_26 ?_
        refine w_iload_n dX3_readyOf_27 rfl rfl ?_
        refine w_icmp_lt 33 dX3_readyOf_28 (by decide) (by first | assumption | (unfold ok32 at *; omega)) (by first | assumption | (unfold ok32 at *; omega)) (fun hl => ?_) (fun hl => ?_)
        · refine w_iinc (lv' := [_, _, _, _]) dX3_readyOf_33 rfl rfl rfl ?_
          refine w_goto 2 dX3_readyOf_36 (by decide) ?_
          refine ih (by omega) ?_
          rw [← hv, if_neg (by omega)]
        · refine w_iload_n dX3_readyOf_31 rfl rfl ?_
          refine x_iret rfl rfl dX3_readyOf_32 ⟨?_, rfl⟩
          rw [← hv, if_pos (by omega)]
  exact key 0 (by omega) (by rw [Nat.sub_zero]; exact hV)
set_option maxRecDepth 8000 in
theorem c3_runLayer {a : Nat} {ba : Nat → Nat → Int} {bi : Nat → Int} {h0 : HP} {u C s0 : Nat} {x : PS} {t : Int} (hu : u < 256) (hC : C ≤ 8) (huC : ∀ i, i < 8 → u.testBit i = true → i < C) (ht : 1 ≤ t ∧ t ≤ 9) (hP : PQ x) (hx : x.1 ≤ 4000) (hR : FREL ba bi x s0 t) : sp mX3_runLayer [.ref a, .int (zI (u : Int)), .int (zI t)] (FLH a ba bi h0) 0 0 (px none (fun z : (Nat → Nat → Int) × (Nat → Int) => FREL z.1 z.2 (lyF t C 100 u x) s0 t ∧ z.1 1 = ba 1) (fun z => FLH a z.1 z.2 h0)) := by
  obtain ⟨X, hX0⟩ : ∃ X, lyF t C 100 u x = X := ⟨_, rfl⟩
  rw [hX0]
  refine sp_wp rfl (lv := [_, _, _, _, _, _]) rfl (Nat.le_of_ble_eq_true rfl) ?_
  refine w_iload_n dX3_runLayer_0 rfl rfl ?_
  refine w_istore_n (lv' := [_, _, _, _, _, _]) dX3_runLayer_1 rfl (Nat.le_of_ble_eq_true rfl) rfl rfl ?_
  refine w_iconst dX3_runLayer_2 ?_
  refine w_istore (lv' := [_, _, _, _, _, _]) dX3_runLayer_3 (Nat.le_of_ble_eq_true rfl) rfl rfl ?_
  have key : ∀ (f v w n : Nat) (y : PS) (bb : Nat → Nat → Int) (bj : Nat → Int) (x5 : Value), f + n = 100 → v < 256 → (∀ i, i < 8 → v.testBit i = true → i < C) → w ≤ 9 → (v = 0 ∨ ∃ c, c < C ∧ v.testBit c = true ∧ y.2.1 c + t ≤ (y.1 : Int) + w) → 10 * pn v.testBit 8 + w < f + 10 → PQ y → y.1 + f ≤ 4200 → lyF t C f v y = X → FREL bb bj y s0 t → bb 1 = ba 1 → wp mX3_runLayer 5 [.ref a, .int (zI (u : Int)), .int (zI t), .int (zI (v : Int)), .int (zI (n : Int)), x5] [] (FLH a bb bj h0) 0 0 (px none (fun z : (Nat → Nat → Int) × (Nat → Int) => FREL z.1 z.2 X s0 t ∧ z.1 1 = ba 1) (fun z => FLH a z.1 z.2 h0)) := by
    intro f
    induction f with
    | zero =>
      intro v w n y bb bj x5 hn hv hvC hw hwt hf hPy hyf hX hRy hb1
      have hv0 : v = 0 := by
        refine Classical.byContradiction fun h0v => ?_
        obtain ⟨i, i1, i2⟩ := mask1 hv h0v
        have := pn_pos (f := v.testBit) (n := 8) i1 i2
        omega
      subst hv0
      refine w_iload dX3_runLayer_5 rfl ?_
      refine w_sipush dX3_runLayer_7 (by decide) ?_
      refine w_icmp_ge 90 dX3_runLayer_10 (by decide) (by first | assumption | (unfold ok32 at *; omega)) (by first | assumption | (unfold ok32 at *; omega)) (fun hc => ?_) (fun hc => ?_)
      · omega
      · refine w_iload_n dX3_runLayer_13 rfl rfl ?_
        refine w_if_eq 90 dX3_runLayer_14 (by decide) (by first | assumption | (unfold ok32 at *; omega)) (fun hz => ?_) (fun hz => ?_)
        · exact x_vret rfl dX3_runLayer_90 ⟨rfl, (bb, bj), ⟨by rw [← hX]; exact hRy, hb1⟩, rfl⟩
        · exact absurd rfl hz
    | succ f ih =>
      intro v w n y bb bj x5 hn hv hvC hw hwt hf hPy hyf hX hRy hb1
      unfold lyF at hX
      obtain ⟨r2, r3, r4, rl⟩ := id hRy
      refine w_iload dX3_runLayer_5 rfl ?_
      refine w_sipush dX3_runLayer_7 (by decide) ?_
      refine w_icmp_ge 90 dX3_runLayer_10 (by decide) (by first | assumption | (unfold ok32 at *; omega)) (by first | assumption | (unfold ok32 at *; omega)) (fun hc => ?_) (fun hc => ?_)
      · omega
      · refine w_iload_n dX3_runLayer_13 rfl rfl ?_
        refine w_if_eq 90 dX3_runLayer_14 (by decide) (by first | assumption | (unfold ok32 at *; omega)) (fun hz => ?_) (fun hz => ?_)
        · have e : v = 0 := by omega
          rw [if_pos e] at hX
          exact x_vret rfl dX3_runLayer_90 ⟨rfl, (bb, bj), ⟨by rw [← hX]; exact hRy, hb1⟩, rfl⟩
        · have hv0 : ¬ v = 0 := by omega
          rw [if_neg hv0] at hX
          refine w_aload_n dX3_runLayer_17 rfl rfl ?_
          refine w_iload_n dX3_runLayer_18 rfl rfl ?_
          refine w_iload_n dX3_runLayer_19 rfl rfl ?_
          refine wc_V (Z := mX3_readyOf) (As := [_, _]) (c3_readyOf (s := y.1) (q := y.2.1) (C := C) hv hC hvC r2 (by omega) hPy ht rl) FL0 rfl kX3_readyOf lX3_51 iX3_readyOf vX3_readyOf dX3_runLayer_20 rfl rfl rfl (Nat.le_of_ble_eq_true rfl) ⟨Nat.le_of_ble_eq_true rfl, Nat.le_of_ble_eq_true rfl⟩ ?_
          rcases rdN_rng (u := v) (q := y.2.1) (s := (y.1 : Int)) (t := t) (C := C) (d := C) (Nat.le_refl _) with hr | ⟨c, c1, c2, c3⟩
          · rw [if_pos hr] at hX
            rw [hr]
            refine w_istore (lv' := [_, _, _, _, _, _]) dX3_runLayer_23 (Nat.le_of_ble_eq_true rfl) rfl rfl ?_
            refine w_iload dX3_runLayer_25 rfl ?_
            refine w_iconst dX3_runLayer_27 ?_
            refine w_icmp_ne 44 dX3_runLayer_28 (by decide) (by first | assumption | (unfold ok32 at *; omega)) (by first | assumption | (unfold ok32 at *; omega)) (fun hne => ?_) (fun hne => ?_)
            · exact absurd rfl hne
            · obtain ⟨c, c1, c2, c3⟩ := hwt.resolve_left hv0
              have hno := rdN_no (Nat.le_refl _) hr c (by omega) c1 c2
              have hw1 : 1 ≤ w := by
                refine Classical.byContradiction fun z => hno (Or.inr ?_)
                omega
              refine w_aload_n dX3_runLayer_31 rfl rfl ?_
              refine w_dup dX3_runLayer_32 rfl ?_
              refine w_getf fX3_40 dX3_runLayer_33 FL0 rfl ?_
              rw [r4]
              refine w_iconst dX3_runLayer_36 ?_
              refine w_iadd dX3_runLayer_37 ?_
              refine fl_pf4 fX3_40 dX3_runLayer_38 ?_
              refine w_goto 64 dX3_runLayer_41 (by decide) ?_
              refine w_aload_n dX3_runLayer_64 rfl rfl ?_
              refine w_dup dX3_runLayer_65 rfl ?_
              refine w_getf fX3_37 dX3_runLayer_66 FL0 rfl ?_
              rw [show (u1 bj 4 ((y.2.2 : Int) + 1)) 3 = bj 3 from rfl, r3]
              refine w_iconst dX3_runLayer_69 ?_
              refine w_iadd dX3_runLayer_70 ?_
              refine fl_pf3 fX3_37 dX3_runLayer_71 ?_
              refine w_aload_n dX3_runLayer_74 rfl rfl ?_
              refine w_dup dX3_runLayer_75 rfl ?_
              refine w_getf fX3_34 dX3_runLayer_76 FL0 rfl ?_
              rw [show (u1 (u1 bj 4 ((y.2.2 : Int) + 1)) 3 ((y.1 : Int) - s0 + 1)) 2 = bj 2 from rfl, r2]
              refine w_iconst dX3_runLayer_79 ?_
              refine w_iadd dX3_runLayer_80 ?_
              refine fl_pf2 fX3_34 dX3_runLayer_81 ?_
              refine w_iinc (lv' := [_, _, _, _, _, _]) dX3_runLayer_84 rfl rfl rfl ?_
              refine w_goto 5 dX3_runLayer_87 (by decide) ?_
              refine ih v (w - 1) (n + 1) (y.1 + 1, y.2.1, y.2.2 + 1) bb _ _ (by omega) hv hvC (by omega) (Or.inr ⟨c, c1, c2, ?_⟩) (by omega) (fun i hi => ?_) (by show y.1 + 1 + f ≤ 4200; omega) hX ⟨?_, ?_, ?_, rl⟩ hb1
              · show y.2.1 c + t ≤ ((y.1 + 1 : Nat) : Int) + ((w - 1 : Nat) : Int)
                omega
              · have := hPy i hi
                show -1 ≤ y.2.1 i ∧ y.2.1 i < ((y.1 + 1 : Nat) : Int)
                omega
              · show (y.1 : Int) + 1 = ((y.1 + 1 : Nat) : Int)
                omega
              · show (y.1 : Int) - s0 + 1 = ((y.1 + 1 : Nat) : Int) - s0
                omega
              · show (y.2.2 : Int) + 1 = ((y.2.2 + 1 : Nat) : Int)
                omega
          · rw [if_neg (by rw [c2]; omega), c2, Int.toNat_natCast] at hX
            rw [c2]
            obtain ⟨e1, e2, e3⟩ := clr8 hv (show c < 8 by omega)
            refine w_istore (lv' := [_, _, _, _, _, _]) dX3_runLayer_23 (Nat.le_of_ble_eq_true rfl) rfl rfl ?_
            refine w_iload dX3_runLayer_25 rfl ?_
            refine w_iconst dX3_runLayer_27 ?_
            refine w_icmp_ne 44 dX3_runLayer_28 (by decide) (by first | assumption | (unfold ok32 at *; omega)) (by first | assumption | (unfold ok32 at *; omega)) (fun hne => ?_) (fun hne => ?_)
            rotate_left
            · omega
            · refine w_aload_n dX3_runLayer_44 rfl rfl ?_
              refine w_getf fX3_15 dX3_runLayer_45 FL0 rfl ?_
              refine w_iload dX3_runLayer_48 rfl ?_
              refine w_aload_n dX3_runLayer_50 rfl rfl ?_
              refine w_getf fX3_34 dX3_runLayer_51 FL0 rfl ?_
              rw [r2]
              refine fl_ist2 (c) (by first | rfl | omega | (push_cast; rfl) | (push_cast; omega)) (by omega) dX3_runLayer_54 ?_
              refine w_iload_n dX3_runLayer_55 rfl rfl ?_
              refine w_iconst dX3_runLayer_56 ?_
              refine w_iload dX3_runLayer_57 rfl ?_
              refine w_ishlR dX3_runLayer_59 ?_
              refine w_iconst dX3_runLayer_60 ?_
              refine w_ixorR dX3_runLayer_61 ?_
              refine w_iandR dX3_runLayer_62 ?_
              rw [e1]
              refine w_istore_n (lv' := [_, _, _, _, _, _]) dX3_runLayer_63 rfl (Nat.le_of_ble_eq_true rfl) rfl rfl ?_
              refine w_aload_n dX3_runLayer_64 rfl rfl ?_
              refine w_dup dX3_runLayer_65 rfl ?_
              refine w_getf fX3_37 dX3_runLayer_66 FL0 rfl ?_
              rw [r3]
              refine w_iconst dX3_runLayer_69 ?_
              refine w_iadd dX3_runLayer_70 ?_
              refine fl_pf3 fX3_37 dX3_runLayer_71 ?_
              refine w_aload_n dX3_runLayer_74 rfl rfl ?_
              refine w_dup dX3_runLayer_75 rfl ?_
              refine w_getf fX3_34 dX3_runLayer_76 FL0 rfl ?_
              rw [show (u1 bj 3 ((y.1 : Int) - s0 + 1)) 2 = bj 2 from rfl, r2]
              refine w_iconst dX3_runLayer_79 ?_
              refine w_iadd dX3_runLayer_80 ?_
              refine fl_pf2 fX3_34 dX3_runLayer_81 ?_
              refine w_iinc (lv' := [_, _, _, _, _, _]) dX3_runLayer_84 rfl rfl rfl ?_
              refine w_goto 5 dX3_runLayer_87 (by decide) ?_
              have hpn : pn v.testBit 8 = pn (clr v c).testBit 8 + 1 := pn_off (t := c) (by omega) c3 (by rw [e3 c (by omega)]; simp) (fun i hi hne => by rw [e3 i hi]; simp [hne])
              have hPn : PQ (y.1 + 1, u1 y.2.1 c (y.1 : Int), y.2.2) := fun i hi => by
                show -1 ≤ u1 y.2.1 c (y.1 : Int) i ∧ u1 y.2.1 c (y.1 : Int) i < ((y.1 + 1 : Nat) : Int)
                by_cases h : i = c
                · subst h; rw [u1_s]; omega
                · rw [u1_n h]; have := hPy i hi; omega
              have hsub : ∀ i, i < 8 → (clr v c).testBit i = true → i < C := fun i hi h => by
                rw [e3 i hi] at h
                simp at h
                exact hvC i hi h.1
              refine ih (clr v c) 9 (n + 1) (y.1 + 1, u1 y.2.1 c (y.1 : Int), y.2.2) _ _ _ (by omega) e2 hsub (by omega) ?_ (by omega) hPn (by show y.1 + 1 + f ≤ 4200; omega) hX ⟨?_, ?_, ?_, fun i hi => ?_⟩ hb1
              · by_cases h0c : clr v c = 0
                · exact Or.inl h0c
                · obtain ⟨i, i1, i2⟩ := mask1 e2 h0c
                  refine Or.inr ⟨i, hsub i i1 i2, i2, ?_⟩
                  have h2 : u1 y.2.1 c (y.1 : Int) i < ((y.1 + 1 : Nat) : Int) := (hPn i i1).2
                  show u1 y.2.1 c (y.1 : Int) i + t ≤ ((y.1 + 1 : Nat) : Int) + ((9 : Nat) : Int)
                  omega
              · show (y.1 : Int) + 1 = ((y.1 + 1 : Nat) : Int)
                omega
              · show (y.1 : Int) - s0 + 1 = ((y.1 + 1 : Nat) : Int) - s0
                omega
              · exact r4
              · show (u1 y.2.1 c (y.1 : Int) i = -1 ∧ u1 (bb 2) c (y.1 : Int) i = -t) ∨ (0 ≤ u1 y.2.1 c (y.1 : Int) i ∧ u1 (bb 2) c (y.1 : Int) i = u1 y.2.1 c (y.1 : Int) i)
                by_cases h : i = c
                · subst h; right; rw [u1_s, u1_s]; exact ⟨by omega, rfl⟩
                · rw [u1_n h, u1_n h]; exact rl i hi
  have hp8 := pn_le u.testBit 8
  refine key 100 u 9 0 x ba bi jk (by omega) hu huC (by omega) ?_ (by omega) hP (by omega) hX0 hR rfl
  by_cases h0u : u = 0
  · exact Or.inl h0u
  · obtain ⟨i, i1, i2⟩ := mask1 hu h0u
    have := hP i i1
    exact Or.inr ⟨i, huC i i1 i2, i2, by omega⟩
set_option maxRecDepth 8000 in
theorem c3_run {a c : Nat} {ba : Nat → Nat → Int} {bi : Nat → Int} {h0 : HP} {B : Nat → Int} {L R C o : Nat} {t : Int} (hC : CDQ (fun x => ¬ (a ≤ x ∧ x ≤ a + 2)) h0 c B L R C) (ho : o < fac R) (ht : 1 ≤ t ∧ t ≤ 9) : sp mX3_run [.ref a, .ref c, .int (zI (o : Int)), .int (zI t)] (FLH a ba bi h0) 0 0 (px none (fun z : (Nat → Nat → Int) × (Nat → Int) => z.2 3 = (((swF (shA B) R C o t 3).2.2.1 : Nat) : Int) ∧ z.2 4 = (((swF (shA B) R C o t 3).2.2.2 : Nat) : Int)) (fun z => FLH a z.1 z.2 h0)) := by
  obtain ⟨ad, f7, f8, f10, f9, f11, rk, cr, hV, h6, h7, o_c0, r70, r80, r90, r100, r110, e7, e8, e9, e10, hRD, p0, p7, p8, p9, p10, p11⟩ := id hC
  obtain ⟨v1, v2, v3, v4, v5, v6, v7⟩ := id hV
  have o_c : ∀ {ba : Nat → Nat → Int} {bi : Nat → Int}, (FLH a ba bi h0).2 c = some (.inr (2, cfs L R C (B 6) (B 7) ad rk cr)) := FLo p0 o_c0
  have hcd : ∀ (ba : Nat → Nat → Int) (bi : Nat → Int), CDP (FLH a ba bi h0) c B L R C := fun ba bi => (hC.mono (P' := fun _ => True) (fun _ _ => trivial) (fun x hx => FLn hx)).cdp
  have hlt : ∀ k, k < R → lay R o k < R := fun k hk => lay_lt v5 ho hk
  refine sp_wp rfl (lv := [_, _, _, _, _, _]) rfl (Nat.le_of_ble_eq_true rfl) ?_
  refine w_aload_n dX3_run_0 rfl rfl ?_
  refine w_getf fX3_18 dX3_run_1 o_c rfl ?_
  refine w_iload_n dX3_run_4 rfl rfl ?_
  refine w_aload_n dX3_run_5 rfl rfl ?_
  refine w_getf fX3_9 dX3_run_6 FL0 rfl ?_
  refine wx_SNv (Z := mX9_fillOrder) (As := [_, _, _]) (c9_fillOrder v5 ho FL1) kX9_fillOrder lX3_24 sX9_fillOrder dX3_run_9 rfl rfl rfl (Nat.le_of_ble_eq_true rfl) ⟨Nat.le_of_ble_eq_true rfl, Nat.le_of_ble_eq_true rfl⟩ (fun g hg => ?_)
  rw [FLu1]
  refine w_aload_n dX3_run_12 rfl rfl ?_
  refine w_getf fX3_15 dX3_run_13 FL0 rfl ?_
  refine w_iload_n dX3_run_16 rfl rfl ?_
  refine w_ineg dX3_run_17 ?_
  refine wc_Sv (Z := mJ7_fill_53178) (As := [_, _]) (cJ_fill FL2 (by decide)) kJ7_fill_53178 lX3_28 sJ7_fill_53178 dX3_run_18 rfl rfl rfl (Nat.le_of_ble_eq_true rfl) ⟨Nat.le_of_ble_eq_true rfl, Nat.le_of_ble_eq_true rfl⟩ ?_
  rw [FLu2]
  refine w_aload_n dX3_run_21 rfl rfl ?_
  refine w_iconst dX3_run_22 ?_
  refine fl_pf2 fX3_34 dX3_run_23 ?_
  refine w_iconst dX3_run_26 ?_
  refine w_istore (lv' := [_, _, _, _, _, _]) dX3_run_27 (Nat.le_of_ble_eq_true rfl) rfl rfl ?_
  have key : ∀ s, s ≤ 3 → ∀ (bb : Nat → Nat → Int) (bj : Nat → Int) (x5 : Value), bb 1 = g → bj 2 = ((swF (shA B) R C o t s).1 : Int) → RLT (bb 2) (swF (shA B) R C o t s).2.1 t → (s = 3 → bj 3 = (((swF (shA B) R C o t 3).2.2.1 : Nat) : Int) ∧ bj 4 = (((swF (shA B) R C o t 3).2.2.2 : Nat) : Int)) → wp mX3_run 29 [.ref a, .ref c, .int (zI (o : Int)), .int (zI t), .int (zI (s : Int)), x5] [] (FLH a bb bj h0) 0 0 (px none (fun z : (Nat → Nat → Int) × (Nat → Int) => z.2 3 = (((swF (shA B) R C o t 3).2.2.1 : Nat) : Int) ∧ z.2 4 = (((swF (shA B) R C o t 3).2.2.2 : Nat) : Int)) (fun z => FLH a z.1 z.2 h0)) := by
    refine up_ind (P := fun s => ∀ (bb : Nat → Nat → Int) (bj : Nat → Int) (x5 : Value), bb 1 = g → bj 2 = ((swF (shA B) R C o t s).1 : Int) → RLT (bb 2) (swF (shA B) R C o t s).2.1 t → (s = 3 → bj 3 = (((swF (shA B) R C o t 3).2.2.1 : Nat) : Int) ∧ bj 4 = (((swF (shA B) R C o t 3).2.2.2 : Nat) : Int)) → wp mX3_run 29 [.ref a, .ref c, .int (zI (o : Int)), .int (zI t), .int (zI (s : Int)), x5] [] (FLH a bb bj h0) 0 0 (px none (fun z : (Nat → Nat → Int) × (Nat → Int) => z.2 3 = (((swF (shA B) R C o t 3).2.2.1 : Nat) : Int) ∧ z.2 4 = (((swF (shA B) R C o t 3).2.2.2 : Nat) : Int)) (fun z => FLH a z.1 z.2 h0))) (fun s hs ih bb bj x5 hb1 hb2 hbl hb3 => ?_)
    have hok := swF_ok (sh := shA B) (R := R) (C := C) (o := o) (t := t) v6.2 v5.2 (s := s)
    refine w_iload dX3_run_29 rfl ?_
    refine w_iconst dX3_run_31 ?_
    refine w_icmp_ge 85 dX3_run_32 (by decide) (by first | assumption | (unfold ok32 at *; omega)) (by first | assumption | (unfold ok32 at *; omega)) (fun hc => ?_) (fun hc => ?_)
    · exact x_vret rfl dX3_run_85 ⟨rfl, (bb, bj), hb3 (by omega), rfl⟩
    · have hs1 : swF (shA B) R C o t (s + 1) = _ := rfl
      rw [swF] at hs1
      obtain ⟨w, hw⟩ : ∃ w, swF (shA B) R C o t s = w := ⟨_, rfl⟩
      rw [hw] at hok hb2 hbl
      have hnx : swF (shA B) R C o t (s + 1) = ((rwF (shA B) R C o t R (w.1, w.2.1, 0)).1, (rwF (shA B) R C o t R (w.1, w.2.1, 0)).2.1, (rwF (shA B) R C o t R (w.1, w.2.1, 0)).1 - w.1, (rwF (shA B) R C o t R (w.1, w.2.1, 0)).2.2) := by rw [swF, hw]
      refine w_aload_n dX3_run_35 rfl rfl ?_
      refine w_iconst dX3_run_36 ?_
      refine fl_pf3 fX3_37 dX3_run_37 ?_
      refine w_aload_n dX3_run_40 rfl rfl ?_
      refine w_iconst dX3_run_41 ?_
      refine fl_pf4 fX3_40 dX3_run_42 ?_
      refine w_iconst dX3_run_45 ?_
      refine w_istore (lv' := [_, _, _, _, _, _]) dX3_run_46 (Nat.le_of_ble_eq_true rfl) rfl rfl ?_
      have lp : ∀ k, k ≤ R → ∀ (bb : Nat → Nat → Int) (bj : Nat → Int), bb 1 = g → FREL bb bj (rwF (shA B) R C o t k (w.1, w.2.1, 0)) w.1 t → wp mX3_run 48 [.ref a, .ref c, .int (zI (o : Int)), .int (zI t), .int (zI (s : Int)), .int (zI (k : Int))] [] (FLH a bb bj h0) 0 0 (px none (fun z : (Nat → Nat → Int) × (Nat → Int) => z.2 3 = (((swF (shA B) R C o t 3).2.2.1 : Nat) : Int) ∧ z.2 4 = (((swF (shA B) R C o t 3).2.2.2 : Nat) : Int)) (fun z => FLH a z.1 z.2 h0)) := by
        refine up_ind (P := fun k => ∀ (bb : Nat → Nat → Int) (bj : Nat → Int), bb 1 = g → FREL bb bj (rwF (shA B) R C o t k (w.1, w.2.1, 0)) w.1 t → wp mX3_run 48 [.ref a, .ref c, .int (zI (o : Int)), .int (zI t), .int (zI (s : Int)), .int (zI (k : Int))] [] (FLH a bb bj h0) 0 0 (px none (fun z : (Nat → Nat → Int) × (Nat → Int) => z.2 3 = (((swF (shA B) R C o t 3).2.2.1 : Nat) : Int) ∧ z.2 4 = (((swF (shA B) R C o t 3).2.2.2 : Nat) : Int)) (fun z => FLH a z.1 z.2 h0))) (fun k hk ih2 bb bj hb1 hf => ?_)
        have hrw := rwF_ok (sh := shA B) (R := R) (C := C) (o := o) (t := t) v6.2 (k := k) hok.1
        refine w_iload dX3_run_48 rfl ?_
        refine w_aload_n dX3_run_50 rfl rfl ?_
        refine w_getf fX3_18 dX3_run_51 o_c rfl ?_
        refine w_icmp_ge 79 dX3_run_54 (by decide) (by first | assumption | (unfold ok32 at *; omega)) (by first | assumption | (unfold ok32 at *; omega)) (fun hd => ?_) (fun hd => ?_)
        · refine w_iinc (lv' := [_, _, _, _, _, _]) dX3_run_79 rfl rfl rfl ?_
          refine w_goto 29 dX3_run_82 (by decide) ?_
          have hkR : k = R := by omega
          rw [hkR] at hf hrw
          obtain ⟨q2, q3, q4, ql⟩ := hf
          refine ih (by omega) bb bj _ hb1 (by rw [hnx]; exact q2) (by rw [hnx]; exact ql) (fun h3 => ?_)
          have hn3 : swF (shA B) R C o t 3 = _ := (congrArg (swF (shA B) R C o t) h3.symm).trans hnx
          rw [hn3]
          refine ⟨?_, q4⟩
          rw [q3]
          have := hrw.2.2
          show _ = (((rwF (shA B) R C o t R (w.1, w.2.1, 0)).1 - w.1 : Nat) : Int)
          have h5 : w.1 ≤ (rwF (shA B) R C o t R (w.1, w.2.1, 0)).1 := this
          omega
        · have hkR : k < R := by omega
          have hlk := hlt k hkR
          refine w_aload_n dX3_run_57 rfl rfl ?_
          refine w_aload_n dX3_run_58 rfl rfl ?_
          refine w_aload_n dX3_run_59 rfl rfl ?_
          refine w_getf fX3_9 dX3_run_60 FL0 rfl ?_
          refine w_iload dX3_run_63 rfl ?_
          refine w_iald (k) FL1 (by first | rfl | omega | (push_cast; rfl) | (push_cast; omega)) (by omega) (by decide) dX3_run_65 ?_
          rw [hb1, hg k hkR]
          refine wc_V (Z := mX2_columnsOf) (As := [_]) (c2_columnsOf (hcd _ _) hlk) o_c rfl kX2_columnsOf lX3_43 iX2_columnsOf vX2_columnsOf dX3_run_66 rfl rfl rfl (Nat.le_of_ble_eq_true rfl) ⟨Nat.le_of_ble_eq_true rfl, Nat.le_of_ble_eq_true rfl⟩ ?_
          refine w_iload_n dX3_run_69 rfl rfl ?_
          refine wx_Vv (Z := mX3_runLayer) (As := [_, _]) (c3_runLayer (C := C) (s0 := w.1) (x := rwF (shA B) R C o t k (w.1, w.2.1, 0)) (clN_lt v6.2) v6.2 (fun i hi hbit => ?_) ht hrw.1 ?_ hf) FL0 rfl kX3_runLayer lX3_47 iX3_runLayer vX3_runLayer dX3_run_70 rfl rfl rfl (Nat.le_of_ble_eq_true rfl) ⟨Nat.le_of_ble_eq_true rfl, Nat.le_of_ble_eq_true rfl⟩ (fun z hz => ?_)
          · refine Classical.byContradiction fun hn => ?_
            rw [clN_hi hi v6.2 (by omega)] at hbit
            cases hbit
          · have h5 := hrw.2.1
            have h6' := hok.2
            have h7' : (rwF (shA B) R C o t k (w.1, w.2.1, 0)).1 ≤ w.1 + 100 * k := h5
            omega
          · refine w_iinc (lv' := [_, _, _, _, _, _]) dX3_run_73 rfl rfl rfl ?_
            refine w_goto 48 dX3_run_76 (by decide) ?_
            refine ih2 hkR z.1 z.2 (hz.2.trans hb1) ?_
            rw [rwF]
            exact hz.1
      refine lp 0 (Nat.zero_le _) bb _ hb1 ⟨?_, ?_, rfl, hbl⟩
      · show bj 2 = _
        exact hb2
      · show (0 : Int) = (w.1 : Int) - w.1
        omega
  refine key 0 (by omega) _ _ jk rfl rfl (fun i hi => Or.inl ⟨rfl, ?_⟩) (fun h => absurd h (by decide))
  show (if i < 8 then -t else _) = -t
  rw [if_pos hi]

