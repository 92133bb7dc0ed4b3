/-! the class's reader: a row -/
def RSX (bj sh X : Nat → Int) (x : Nat) : Prop := bj 8 = X x ∧ bj 9 = X (x + 1) ∧ (1 ≤ X (x + 1) → bj 10 = X (x + 2)) ∧ ∀ r c : Nat, r < 4 → c < 8 → (r : Int) < X (x + 1) → (c : Int) < X (x + 2) → sh (8 * r + c) = X (x + 5 + (8 * r + c))
def RRP (bi : Nat → Int) (x : Nat) (Z : Int × (Nat → Int) × LX) (q : (Nat → Int) × (Nat → Int)) : Prop := q.2 2 = Z.1 ∧ (¬ Z.1 = 0 → q.2 3 = (Z.2.2.2.1 : Int)) ∧ (Z.1 = 0 → RSX q.2 q.1 Z.2.1 x ∧ q.2 4 = (Z.2.2.1 : Int) ∧ 0 ≤ q.2 10 ∧ q.2 10 ≤ 8) ∧ ∀ j, j = 1 ∨ 11 ≤ j ∨ (j = 3 ∧ Z.1 = 0) → q.2 j = bi j
theorem RRP.re {T : Nat → Int} {n : Nat} {bi b0 bj sh X : Nat → Int} {x : Nat} {y : LX} {e : Int} (h : TKP T n b0 bj y) (h2 : bj 2 = 0) (he : ¬ e = 0) (ho : ∀ j, j = 1 ∨ 11 ≤ j → bj j = bi j) : RRP bi x (e, X, y) (sh, rfF e bj) := by
  refine ⟨rfF_2 h2, fun _ => (rfF_3 h2 he).trans h.2.1, fun z => absurd z he, fun j hj => ?_⟩
  replace hj : j = 1 ∨ 11 ≤ j ∨ (j = 3 ∧ e = 0) := hj
  show rfF e bj j = bi j
  rw [rfF_n (by omega) (by omega)]
  exact ho j (by omega)
set_option maxRecDepth 8000 in
theorem c7_readRow {a : Nat} {ba : Nat → Nat → Int} {bi : Nat → Int} {h0 : HP} {n x : Nat} {X : Nat → Int} {y : LX} (h1 : bi 1 = (n : Int)) (hn : n ≤ 300) (h4 : bi 4 = (y.1 : Int)) (hy : y.1 ≤ n) (h6 : bi 6 = (y.2.1 : Int)) (hT : TB (ba 1)) (h2 : bi 2 = 0) (hX : RSX bi (ba 2) X x) (x0 : 1 ≤ X x ∧ X x ≤ 6) (x1 : 0 ≤ X (x + 1) ∧ X (x + 1) ≤ 4) (x2 : 0 ≤ X (x + 2) ∧ X (x + 2) ≤ 8) (h10 : ok32 (bi 10)) : sp mX7_readRow [.ref a] (RDH a ba bi h0) 0 0 (px none (fun q : (Nat → Int) × (Nat → Int) => RRP bi x (rwC (ba 1) n x X y) q) (fun q => RDH a (u1 ba 2 q.1) q.2 h0)) := by
  obtain ⟨X8, X9, X10, XS⟩ := hX
  refine sp_wp rfl (lv := [_, _, _]) rfl (Nat.le_of_ble_eq_true rfl) ?_
  unfold rwC
  refine w_aload_n dX7_readRow_0 rfl rfl ?_
  refine w_getf fX7_34 dX7_readRow_1 RD0 rfl ?_
  refine w_iconst dX7_readRow_4 ?_
  refine w_icmp_lt 14 dX7_readRow_5 (by decide) (by first | assumption | (unfold ok32 at *; omega)) (by first | assumption | (unfold ok32 at *; omega)) (fun hc => ?_) (fun hc => ?_)
  rotate_left
  · rw [if_pos (by omega)]
    refine w_aload_n dX7_readRow_8 rfl rfl ?_
    refine w_iconst dX7_readRow_9 ?_
    refine wc_Vv (Z := mX7_refuse) (As := [_]) (c7_refuse (by unfold ok32; omega) (by rw [h2]; unfold ok32; omega)) RD0 rfl kX7_refuse lX7_65 iX7_refuse vX7_refuse dX7_readRow_10 rfl rfl rfl (Nat.le_of_ble_eq_true rfl) ⟨Nat.le_of_ble_eq_true rfl, Nat.le_of_ble_eq_true rfl⟩ ?_
    refine x_vret rfl dX7_readRow_13 ⟨rfl, (ba 2, rfF 3 bi), ⟨rfF_2 h2, fun _ => (rfF_3 h2 (by omega)).trans h6, fun z => absurd z (by show ¬ (3 : Int) = 0; omega), fun j hj => by
      replace hj : j = 1 ∨ 11 ≤ j ∨ (j = 3 ∧ (3 : Int) = 0) := hj
      exact rfF_n (by omega) (by omega)⟩, ?_⟩
    show _ = RDH a (u1 ba 2 (ba 2)) _ h0
    rw [u1_id]
  · rw [if_neg (by omega)]
    obtain ⟨r0, hr0⟩ : ∃ r0 : Nat, X (x + 1) = (r0 : Int) := ⟨(X (x + 1)).toNat, by omega⟩
    rw [show (X (x + 1)).toNat = r0 by omega]
    have lp : ∀ (f c p : Nat) (X1 sh bj : Nat → Int) (x3 : Value), f + c = 10 → c ≤ 8 → p ≤ n → bj 2 = 0 → bj 4 = (p : Int) → (∀ j, j = 1 ∨ j = 3 ∨ 8 ≤ j → bj j = bi j) → (∀ j, ¬ (x + 5 + 8 * r0 ≤ j ∧ j < x + 5 + 8 * r0 + 8) → X1 j = u1 X (x + 1) (X (x + 1) + 1) j) → (∀ j, ¬ (8 * r0 ≤ j ∧ j < 8 * r0 + 8) → sh j = ba 2 j) → (∀ i, i < c → sh (8 * r0 + i) = X1 (x + 5 + (8 * r0 + i))) → wp mX7_readRow 16 [.ref a, .int (zI (c : Int)), x3] [] (RDH a (u1 ba 2 sh) bj h0) 0 0 (px none (fun q : (Nat → Int) × (Nat → Int) => RRP bi x (rwL (ba 1) n x (x + 5 + 8 * r0) f c X1 (nt (ba 1) n p)) q) (fun q => RDH a (u1 ba 2 q.1) q.2 h0)) := by
      intro f
      induction f with
      | zero => intro c p X1 sh bj x3 hf hc8; omega
      | succ f ih =>
        intro c p X1 sh bj x3 hf hc8 hp b2 b4 bo hX1 hsh hrow
        unfold rwL
        obtain ⟨g1, g2, g3, g4, g5⟩ := nt_rng (n := n) (a := p) hT hp
        have b1 : bj 1 = (n : Int) := (bo 1 (Or.inl rfl)).trans h1
        refine w_iload_n dX7_readRow_16 rfl rfl ?_
        refine w_bipush dX7_readRow_17 (by decide) ?_
        refine w_icmp_gt 92 dX7_readRow_19 (by decide) (by first | assumption | (unfold ok32 at *; omega)) (by first | assumption | (unfold ok32 at *; omega)) (fun hcc => ?_) (fun hcc => ?_)
        · omega
        · refine w_aload_n dX7_readRow_22 rfl rfl ?_
          refine wx_Vv (Z := mX7_readToken) (As := []) (c7_readToken (ba := u1 ba 2 sh) b1 hn b4 hp hT) RD0 rfl kX7_readToken lX7_59 iX7_readToken vX7_readToken dX7_readRow_23 rfl rfl rfl (Nat.le_of_ble_eq_true rfl) ⟨Nat.le_of_ble_eq_true rfl, Nat.le_of_ble_eq_true rfl⟩ (fun bk tk => ?_)
          replace tk : TKP (ba 1) n bj bk (nt (ba 1) n p) := tk
          obtain ⟨y1, hy1⟩ : ∃ y1, nt (ba 1) n p = y1 := ⟨_, rfl⟩
          rw [hy1] at tk g1 g2 g3 g4 g5 ⊢
          obtain ⟨d0, d1, d2, d3, d4, d5⟩ := tk.2.2.1.is
          have k2 : bk 2 = 0 := (tk.2.2.2 2 (by omega) (by omega) (by omega) (by omega)).trans b2
          have ko : ∀ j, j = 1 ∨ j = 3 ∨ 8 ≤ j → bk j = bi j := fun j hj => (tk.2.2.2 j (by omega) (by omega) (by omega) (by omega)).trans (bo j hj)
          have k8 : bk 8 = X x := (ko 8 (by omega)).trans X8
          have k9 : bk 9 = (r0 : Int) := ((ko 9 (by omega)).trans X9).trans hr0
          have k10 : bk 10 = bi 10 := ko 10 (by omega)
          have e0 : X1 x = X x := (hX1 x (by omega)).trans (u1_n (by omega))
          have e1 : X1 (x + 1) = (r0 : Int) + 1 := (hX1 (x + 1) (by omega)).trans (by rw [u1_s, hr0])
          have e2 : X1 (x + 2) = X (x + 2) := (hX1 (x + 2) (by omega)).trans (u1_n (by omega))
          have o5 : ok32 (bk 5) := by unfold ok32; omega
          have o2 : ok32 (bk 2) := by rw [k2]; unfold ok32; omega
          have o8 : ok32 (bk 8) := by rw [k8]; unfold ok32; omega
          have o9 : ok32 (bk 9) := by rw [k9]; unfold ok32; omega
          have o10 : ok32 (bk 10) := by rw [k10]; exact h10
          have koo : ∀ j, j = 1 ∨ 11 ≤ j → bk j = bi j := fun j hj => ko j (by omega)
          have ko3 : ∀ j, j = 1 ∨ j = 3 ∨ 11 ≤ j → bk j = bi j := fun j hj => ko j (by omega)
          refine w_aload_n dX7_readRow_26 rfl rfl ?_
          refine w_getf fX7_62 dX7_readRow_27 RD0 rfl ?_
          refine w_iconst dX7_readRow_30 ?_
          refine w_icmp_ne 40 dX7_readRow_31 (by decide) (by first | assumption | (unfold ok32 at *; omega)) (by first | assumption | (unfold ok32 at *; omega)) (fun hk => ?_) (fun hk => ?_)
          · -- an entry, or not
            have h59 : ¬ y1.2.2.1 = 59 := fun z => hk (d4.2 z)
            have o7 : bk 5 = 2 → ok32 (bk 7) := fun z => by have := d5 z; unfold VR at this; unfold ok32; omega
            refine w_aload_n dX7_readRow_40 rfl rfl ?_
            refine w_iload_n dX7_readRow_41 rfl rfl ?_
            refine wc_V (Z := mX7_entryFault) (As := [_]) (c7_entryFault hc8 o5 o7 o8) RD0 rfl kX7_entryFault lX7_95 iX7_entryFault vX7_entryFault dX7_readRow_42 rfl rfl rfl (Nat.le_of_ble_eq_true rfl) ⟨Nat.le_of_ble_eq_true rfl, Nat.le_of_ble_eq_true rfl⟩ ?_
            have refu : ∀ e : Int, ¬ e = 0 → ok32 e → wp mX7_readRow 45 [.ref a, .int (zI (c : Int)), x3] [.int (zI e)] (RDH a (u1 ba 2 sh) bk h0) 0 0 (px none (fun q : (Nat → Int) × (Nat → Int) => RRP bi x (e, X1, y1) q) (fun q => RDH a (u1 ba 2 q.1) q.2 h0)) := by
              intro e he hoe
              refine w_istore_n (lv' := [_, _, _]) dX7_readRow_45 rfl (Nat.le_of_ble_eq_true rfl) rfl rfl ?_
              refine w_iload_n dX7_readRow_46 rfl rfl ?_
              refine w_if_eq 56 dX7_readRow_47 (by decide) (by first | assumption | (unfold ok32 at *; omega)) (fun hz => ?_) (fun hz => ?_)
              · omega
              · refine w_aload_n dX7_readRow_50 rfl rfl ?_
                refine w_iload_n dX7_readRow_51 rfl rfl ?_
                refine wc_Vv (Z := mX7_refuse) (As := [_]) (c7_refuse hoe o2) RD0 rfl kX7_refuse lX7_65 iX7_refuse vX7_refuse dX7_readRow_52 rfl rfl rfl (Nat.le_of_ble_eq_true rfl) ⟨Nat.le_of_ble_eq_true rfl, Nat.le_of_ble_eq_true rfl⟩ ?_
                exact x_vret rfl dX7_readRow_55 ⟨rfl, (sh, rfF e bk), RRP.re tk k2 he koo, rfl⟩
            unfold eFt
            by_cases hkk : bk 5 = 2 ∨ bk 5 = 3
            · rw [if_neg (fun z => z hkk), if_pos (show y1.2.2.1 = 1 ∨ y1.2.2.1 = 46 from hkk.elim (fun z => Or.inl (d2.1 z)) (fun z => Or.inr (d3.1 z)))]
              by_cases hbig : bk 5 = 2 ∧ bk 8 ≤ bk 7
              · have hv := d5 hbig.1
                rw [if_pos hbig, if_pos (show y1.2.2.1 = 1 ∧ X1 x ≤ y1.2.2.2 by unfold VR at hv; exact ⟨d2.1 hbig.1, by omega⟩)]
                exact refu 2 (by omega) (by unfold ok32; omega)
              · have hnb : ¬ (y1.2.2.1 = 1 ∧ X1 x ≤ y1.2.2.2) := fun z => by
                  have hv := d5 (d2.2 z.1)
                  have := d2.2 z.1
                  unfold VR at hv
                  omega
                rw [if_neg hbig, if_neg hnb]
                by_cases h8 : c = 8
                · rw [if_pos (by omega), if_pos h8]
                  exact refu 3 (by omega) (by unfold ok32; omega)
                · rw [if_neg (by omega), if_neg h8]
                  refine w_istore_n (lv' := [_, _, _]) dX7_readRow_45 rfl (Nat.le_of_ble_eq_true rfl) rfl rfl ?_
                  refine w_iload_n dX7_readRow_46 rfl rfl ?_
                  refine w_if_eq 56 dX7_readRow_47 (by decide) (by first | assumption | (unfold ok32 at *; omega)) (fun hz => ?_) (fun hz => ?_)
                  · have fin : ∀ w : Int, w = (if y1.2.2.1 = 46 then -1 else y1.2.2.2) → ok32 w → wp mX7_readRow 85 [.ref a, .int (zI (c : Int)), .int (zI 0)] [.int (zI w), .int (zI (bk 9 * 8 + (c : Int))), .ref (a + 2)] (RDH a (u1 ba 2 sh) bk h0) 0 0 (px none (fun q : (Nat → Int) × (Nat → Int) => RRP bi x (rwL (ba 1) n x (x + 5 + 8 * r0) f (c + 1) (u1 X1 (x + 5 + 8 * r0 + c) (if y1.2.2.1 = 46 then -1 else y1.2.2.2)) (nt (ba 1) n y1.1)) q) (fun q => RDH a (u1 ba 2 q.1) q.2 h0)) := by
                      intro w hw how
                      rw [← hw]
                      refine rd_ist2 (8 * r0 + c) (by omega) (by omega) dX7_readRow_85 ?_
                      rw [u1_u1, u1_s]
                      refine w_iinc (lv' := [_, _, _]) dX7_readRow_86 rfl rfl rfl ?_
                      refine w_goto 16 dX7_readRow_89 (by decide) ?_
                      have := ih (c + 1) y1.1 (u1 X1 (x + 5 + 8 * r0 + c) w) (u1 sh (8 * r0 + c) w) bk (.int (zI 0)) (by omega) (by omega) g3 k2 tk.1 ko (fun j hj => (u1_n (by omega)).trans (hX1 j hj)) (fun j hj => (u1_n (by omega)).trans (hsh j hj)) (fun i hi => by
                        by_cases hic : i = c
                        · rw [hic, u1_s, show x + 5 + (8 * r0 + c) = x + 5 + 8 * r0 + c by omega, u1_s]
                        · rw [u1_n (by omega), u1_n (by omega)]
                          exact hrow i (by omega))
                      push_cast at this
                      exact this
                    refine w_aload_n dX7_readRow_56 rfl rfl ?_
                    refine w_getf fX7_22 dX7_readRow_57 RD0 rfl ?_
                    refine w_aload_n dX7_readRow_60 rfl rfl ?_
                    refine w_getf fX7_34 dX7_readRow_61 RD0 rfl ?_
                    refine w_bipush dX7_readRow_64 (by decide) ?_
                    refine w_imul dX7_readRow_66 ?_
                    refine w_iload_n dX7_readRow_67 rfl rfl ?_
                    refine w_iadd dX7_readRow_68 ?_
                    refine w_aload_n dX7_readRow_69 rfl rfl ?_
                    refine w_getf fX7_62 dX7_readRow_70 RD0 rfl ?_
                    refine w_iconst dX7_readRow_73 ?_
                    refine w_icmp_ne 81 dX7_readRow_74 (by decide) (by first | assumption | (unfold ok32 at *; omega)) (by first | assumption | (unfold ok32 at *; omega)) (fun hdot => ?_) (fun hdot => ?_)
                    · have h2k : bk 5 = 2 := by omega
                      have hv := d5 h2k
                      have := d2.1 h2k
                      refine w_aload_n dX7_readRow_81 rfl rfl ?_
                      refine w_getf fX7_89 dX7_readRow_82 RD0 rfl ?_
                      exact fin (bk 7) (by rw [if_neg (by omega)]; unfold VR at hv; omega) (o7 h2k)
                    · refine w_iconst dX7_readRow_77 ?_
                      refine w_goto 85 dX7_readRow_78 (by decide) ?_
                      exact fin (-1) (by rw [if_pos (d3.1 hdot)]) (by unfold ok32; omega)
                  · omega
            · rw [if_pos hkk, if_neg (show ¬ (y1.2.2.1 = 1 ∨ y1.2.2.1 = 46) from fun z => hkk (z.elim (fun q => Or.inl (d2.2 q)) (fun q => Or.inr (d3.2 q)))), if_pos (Or.inl h59)]
              exact refu 1 (by omega) (by unfold ok32; omega)
          · -- the row ends
            have h59 : y1.2.2.1 = 59 := d4.1 hk
            rw [if_neg (show ¬ (y1.2.2.1 = 1 ∨ y1.2.2.1 = 46) by omega)]
            refine w_aload_n dX7_readRow_34 rfl rfl ?_
            refine w_iload_n dX7_readRow_35 rfl rfl ?_
            refine wc_Vv (Z := mX7_endRow) (As := [_]) (c7_endRow hc8 o2 o9 o10) RD0 rfl kX7_endRow lX7_92 iX7_endRow vX7_endRow dX7_readRow_36 rfl rfl rfl (Nat.le_of_ble_eq_true rfl) ⟨Nat.le_of_ble_eq_true rfl, Nat.le_of_ble_eq_true rfl⟩ ?_
            unfold eRw
            by_cases hc0 : c = 0
            · rw [if_pos hc0, if_pos (Or.inr hc0)]
              exact x_vret rfl dX7_readRow_39 ⟨rfl, (sh, rfF 1 bk), RRP.re tk k2 (by omega) koo, rfl⟩
            · rw [if_neg hc0, if_neg (show ¬ (¬ y1.2.2.1 = 59 ∨ c = 0) from fun z => z.elim (fun q => q h59) hc0)]
              by_cases hr : r0 = 0
              · rw [if_pos (show X1 (x + 1) = 1 by omega), u1_s, if_pos rfl, if_neg (show ¬ (0 < bk 9 ∧ ¬ (c : Int) = bk 10) by omega)]
                refine x_vret rfl dX7_readRow_39 ⟨rfl, (sh, u1 (u1 bk 10 (c : Int)) 9 (bk 9 + 1)), ⟨k2, fun z => absurd rfl z, fun _ => ⟨⟨?_, ?_, fun _ => ?_, fun r i hr4 hi8 hri hic => ?_⟩, tk.1, show (0 : Int) ≤ (c : Int) by omega, show (c : Int) ≤ 8 by omega⟩, fun j hj => ?_⟩, rfl⟩
                · show bk 8 = u1 X1 (x + 2) (c : Int) x
                  rw [u1_n (by omega), e0, k8]
                · show bk 9 + 1 = u1 X1 (x + 2) (c : Int) (x + 1)
                  rw [u1_n (by omega), e1, k9]
                · show (c : Int) = u1 X1 (x + 2) (c : Int) (x + 2)
                  rw [u1_s]
                · replace hri : (r : Int) < u1 X1 (x + 2) (c : Int) (x + 1) := hri
                  replace hic : (i : Int) < u1 X1 (x + 2) (c : Int) (x + 2) := hic
                  rw [u1_n (by omega), e1] at hri
                  rw [u1_s] at hic
                  show sh (8 * r + i) = u1 X1 (x + 2) (c : Int) (x + 5 + (8 * r + i))
                  rw [u1_n (by omega)]
                  have := hrow i (by omega)
                  rw [show r = r0 by omega]
                  exact this
                · show u1 (u1 bk 10 (c : Int)) 9 (bk 9 + 1) j = bi j
                  rw [u1_n (by omega), u1_n (by omega)]
                  exact ko3 j (by omega)
              · rw [if_neg (show ¬ X1 (x + 1) = 1 by omega), e2]
                have hb10 : bk 10 = X (x + 2) := k10.trans (X10 (by omega))
                by_cases hq : (c : Int) = X (x + 2)
                · rw [if_pos hq, if_neg (show ¬ (0 < bk 9 ∧ ¬ (c : Int) = bk 10) by omega)]
                  refine x_vret rfl dX7_readRow_39 ⟨rfl, (sh, u1 (u1 bk 10 (c : Int)) 9 (bk 9 + 1)), ⟨k2, fun z => absurd rfl z, fun _ => ⟨⟨?_, ?_, fun _ => ?_, fun r i hr4 hi8 hri hic => ?_⟩, tk.1, show (0 : Int) ≤ (c : Int) by omega, show (c : Int) ≤ 8 by omega⟩, fun j hj => ?_⟩, rfl⟩
                  · show bk 8 = X1 x
                    rw [e0, k8]
                  · show bk 9 + 1 = X1 (x + 1)
                    rw [e1, k9]
                  · show (c : Int) = X1 (x + 2)
                    rw [e2, hq]
                  · replace hri : (r : Int) < X1 (x + 1) := hri
                    replace hic : (i : Int) < X1 (x + 2) := hic
                    rw [e1] at hri
                    rw [e2] at hic
                    show sh (8 * r + i) = X1 (x + 5 + (8 * r + i))
                    by_cases hrr : r = r0
                    · rw [hrr]
                      exact hrow i (by omega)
                    · rw [hsh _ (by omega), hX1 _ (by omega), u1_n (by omega)]
                      exact XS r i hr4 hi8 (by omega) hic
                  · show u1 (u1 bk 10 (c : Int)) 9 (bk 9 + 1) j = bi j
                    rw [u1_n (by omega), u1_n (by omega)]
                    exact ko3 j (by omega)
                · rw [if_neg hq, if_pos (show (0 < bk 9 ∧ ¬ (c : Int) = bk 10) by omega)]
                  exact x_vret rfl dX7_readRow_39 ⟨rfl, (sh, rfF 5 bk), RRP.re tk k2 (by omega) koo, rfl⟩
    refine w_iconst dX7_readRow_14 ?_
    refine w_istore_n (lv' := [_, _, _]) dX7_readRow_15 rfl (Nat.le_of_ble_eq_true rfl) rfl rfl ?_
    refine w_cast rfl rfl ?_ (lp 10 0 y.1 (u1 X (x + 1) (X (x + 1) + 1)) (ba 2) bi jk (by omega) (by omega) hy h2 h4 (fun j _ => rfl) (fun j _ => rfl) (fun j _ => rfl) (fun i hi => by omega))
    rw [u1_id]

