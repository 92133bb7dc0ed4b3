/-! the class's reader: numbers and rows -/
theorem wdO_in {T : Nat → Int} {n p l : Nat} : wdO T n p l = 2 ∨ (200 ≤ wdO T n p l ∧ wdO T n p l ≤ 203) := by
  unfold wdO
  split
  · omega
  · split
    · omega
    · split
      · omega
      · split <;> omega
theorem KD.is {T : Nat → Int} {n : Nat} {k v : Int} {y : LX} (h : KD T n k v y) : (0 ≤ k ∧ k ≤ 5) ∧ (k = 0 ↔ y.2.2.1 = 0) ∧ (k = 2 ↔ y.2.2.1 = 1) ∧ (k = 3 ↔ y.2.2.1 = 46) ∧ (k = 4 ↔ y.2.2.1 = 59) ∧ (k = 2 → VR v y.2.2.2) := by
  have hw := wdO_in (T := T) (n := n) (p := y.2.1) (l := y.1 - y.2.1)
  unfold KD at h
  rcases h with q | q | q | q | q | q
  · refine ⟨?_, ?_, ?_, ?_, ?_, ?_⟩ <;> omega
  · refine ⟨?_, ?_, ?_, ?_, ?_, ?_⟩ <;> omega
  · exact ⟨by omega, by omega, by omega, by omega, by omega, fun _ => q.2.2⟩
  · refine ⟨?_, ?_, ?_, ?_, ?_, ?_⟩ <;> omega
  · refine ⟨?_, ?_, ?_, ?_, ?_, ?_⟩ <;> omega
  · refine ⟨?_, ?_, ?_, ?_, ?_, ?_⟩ <;> omega
noncomputable def nmVl (T : Nat → Int) (n : Nat) (lo hi : Int) (k : Nat) : Int := if (nt T n k).2.2.1 = 1 ∧ lo ≤ (nt T n k).2.2.2 ∧ (nt T n k).2.2.2 ≤ hi then (nt T n k).2.2.2 else lo
def NMP (bi bj : Nat → Int) (Z : Int × (Nat → Int) × LX) : Prop := bj 2 = Z.1 ∧ (¬ Z.1 = 0 → bj 3 = (Z.2.2.2.1 : Int)) ∧ bj 4 = (Z.2.2.1 : Int) ∧ ∀ j, j = 1 ∨ 8 ≤ j ∨ (j = 3 ∧ Z.1 = 0) → bj j = bi j
theorem NMP.re {T : Nat → Int} {n : Nat} {bi bj : Nat → Int} {X : Nat → Int} {y : LX} {e : Int} (h : TKP T n bi bj y) (h2 : bj 2 = 0) (he : ¬ e = 0) : NMP bi (rfF e bj) (e, X, y) := by
  refine ⟨rfF_2 h2, fun _ => (rfF_3 h2 he).trans h.2.1, ?_, fun j hj => ?_⟩
  · rw [rfF_n (by omega) (by omega)]; exact h.1
  · replace hj : j = 1 ∨ 8 ≤ j ∨ (j = 3 ∧ e = 0) := hj
    rw [rfF_n (by omega) (by omega)]; exact h.2.2.2 j (by omega) (by omega) (by omega) (by omega)
theorem c7_readNumber {a : Nat} {ba : Nat → Nat → Int} {bi : Nat → Int} {h0 : HP} {n k x : Nat} {lo hi : Int} {X : Nat → Int} (h1 : bi 1 = (n : Int)) (hn : n ≤ 300) (h4 : bi 4 = (k : Int)) (hk : k ≤ n) (hT : TB (ba 1)) (h2 : bi 2 = 0) (hlo : 0 ≤ lo) (hhi : hi ≤ 100) (hlh : lo ≤ hi) : sp mX7_readNumber [.ref a, .int (zI lo), .int (zI hi)] (RDH a ba bi h0) 0 0 (px (some (.int (zI (nmVl (ba 1) n lo hi k)))) (fun bj : Nat → Int => NMP bi bj (nmT (ba 1) n x lo hi X k)) (fun bj => RDH a ba bj h0)) := by
  obtain ⟨g1, g2, g3, g4, g5⟩ := nt_rng (n := n) (a := k) hT hk
  refine sp_wp rfl (lv := [_, _, _, _]) rfl (Nat.le_of_ble_eq_true rfl) ?_
  refine w_aload_n dX7_readNumber_0 rfl rfl ?_
  refine wx_Vv (Z := mX7_readToken) (As := []) (c7_readToken h1 hn h4 hk hT) RD0 rfl kX7_readToken lX7_59 iX7_readToken vX7_readToken dX7_readNumber_1 rfl rfl rfl (Nat.le_of_ble_eq_true rfl) ⟨Nat.le_of_ble_eq_true rfl, Nat.le_of_ble_eq_true rfl⟩ (fun bj tk => ?_)
  unfold nmVl nmT
  generalize nt (ba 1) n k = y at *
  have hkd := tk.2.2.1.is
  obtain ⟨d0, d1, d2, d3, d4, d5⟩ := hkd
  have b2 : bj 2 = 0 := (tk.2.2.2 2 (by omega) (by omega) (by omega) (by omega)).trans h2
  have b1 : bj 1 = (n : Int) := (tk.2.2.2 1 (by omega) (by omega) (by omega) (by omega)).trans h1
  refine w_aload_n dX7_readNumber_4 rfl rfl ?_
  refine w_getf fX7_62 dX7_readNumber_5 RD0 rfl ?_
  refine w_iconst dX7_readNumber_8 ?_
  refine w_icmp_eq 19 dX7_readNumber_9 (by decide) (by first | assumption | (unfold ok32 at *; omega)) (by first | assumption | (unfold ok32 at *; omega)) (fun hc => ?_) (fun hc => ?_)
  · rw [if_neg (show ¬ ¬ y.2.2.1 = 1 from fun z => z (d2.1 hc))]
    have hv := d5 hc
    have hvr : 0 ≤ bj 7 ∧ bj 7 ≤ 1000 := by unfold VR at hv; omega
    have bad : ¬ (lo ≤ bj 7 ∧ bj 7 ≤ hi) → wp mX7_readNumber 35 [.ref a, .int (zI lo), .int (zI hi), jk] [] (RDH a ba bj h0) 0 0 (px (some (.int (zI (if y.2.2.1 = 1 ∧ lo ≤ y.2.2.2 ∧ y.2.2.2 ≤ hi then y.2.2.2 else lo)))) (fun bj : Nat → Int => NMP bi bj (if ¬ (lo ≤ y.2.2.2 ∧ y.2.2.2 ≤ hi) then (2, X, y) else (if (nt (ba 1) n y.1).2.2.1 = 59 then 0 else 1, u1 X x y.2.2.2, nt (ba 1) n y.1))) (fun bj => RDH a ba bj h0)) := by
      intro hb
      have hb2 : ¬ (lo ≤ y.2.2.2 ∧ y.2.2.2 ≤ hi) := by unfold VR at hv; omega
      rw [if_neg (fun z => hb2 z.2), if_pos hb2]
      refine w_aload_n dX7_readNumber_35 rfl rfl ?_
      refine w_iconst dX7_readNumber_36 ?_
      refine wc_Vv (Z := mX7_refuse) (As := [_]) (c7_refuse (by unfold ok32; omega) (by rw [b2]; unfold ok32; omega)) RD0 rfl kX7_refuse lX7_65 iX7_refuse vX7_refuse dX7_readNumber_37 rfl rfl rfl (Nat.le_of_ble_eq_true rfl) ⟨Nat.le_of_ble_eq_true rfl, Nat.le_of_ble_eq_true rfl⟩ ?_
      refine w_iload_n dX7_readNumber_40 rfl rfl ?_
      exact x_iret rfl rfl dX7_readNumber_41 ⟨rfl, rfF 2 bj, NMP.re tk b2 (by omega), rfl⟩
    refine w_aload_n dX7_readNumber_19 rfl rfl ?_
    refine w_getf fX7_89 dX7_readNumber_20 RD0 rfl ?_
    refine w_iload_n dX7_readNumber_23 rfl rfl ?_
    refine w_icmp_lt 35 dX7_readNumber_24 (by decide) (by first | assumption | (unfold ok32 at *; omega)) (by first | assumption | (unfold ok32 at *; omega)) (fun hd => ?_) (fun hd => ?_)
    · exact bad (fun z => by omega)
    · refine w_aload_n dX7_readNumber_27 rfl rfl ?_
      refine w_getf fX7_89 dX7_readNumber_28 RD0 rfl ?_
      refine w_iload_n dX7_readNumber_31 rfl rfl ?_
      refine w_icmp_le 42 dX7_readNumber_32 (by decide) (by first | assumption | (unfold ok32 at *; omega)) (by first | assumption | (unfold ok32 at *; omega)) (fun hq => ?_) (fun hq => ?_)
      · have hin : lo ≤ y.2.2.2 ∧ y.2.2.2 ≤ hi := by unfold VR at hv; omega
        have hve : bj 7 = y.2.2.2 := by unfold VR at hv; omega
        rw [if_pos ⟨d2.1 hc, hin⟩, if_neg (fun z => z hin)]
        refine w_aload_n dX7_readNumber_42 rfl rfl ?_
        refine w_getf fX7_89 dX7_readNumber_43 RD0 rfl ?_
        rw [hve]
        refine w_istore_n (lv' := [_, _, _, _]) dX7_readNumber_46 rfl (Nat.le_of_ble_eq_true rfl) rfl rfl ?_
        refine w_aload_n dX7_readNumber_47 rfl rfl ?_
        refine wx_Vv (Z := mX7_readToken) (As := []) (c7_readToken b1 hn tk.1 g3 hT) RD0 rfl kX7_readToken lX7_59 iX7_readToken vX7_readToken dX7_readNumber_48 rfl rfl rfl (Nat.le_of_ble_eq_true rfl) ⟨Nat.le_of_ble_eq_true rfl, Nat.le_of_ble_eq_true rfl⟩ (fun bk tl => ?_)
        generalize nt (ba 1) n y.1 = z at *
        have hld := tl.2.2.1.is
        have c2 : bk 2 = 0 := (tl.2.2.2 2 (by omega) (by omega) (by omega) (by omega)).trans b2
        have oth : ∀ j, j = 1 ∨ 8 ≤ j ∨ j = 3 → bk j = bi j := fun j hj => (tl.2.2.2 j (by omega) (by omega) (by omega) (by omega)).trans (tk.2.2.2 j (by omega) (by omega) (by omega) (by omega))
        have k5 : ok32 (bk 5) := by unfold ok32; omega
        refine w_aload_n dX7_readNumber_51 rfl rfl ?_
        refine w_getf fX7_62 dX7_readNumber_52 RD0 rfl ?_
        refine w_iconst dX7_readNumber_55 ?_
        refine w_icmp_eq 64 dX7_readNumber_56 (by decide) (by first | assumption | (unfold ok32 at *; omega)) (by first | assumption | (unfold ok32 at *; omega)) (fun hs => ?_) (fun hs => ?_)
        · rw [if_pos (hld.2.2.2.2.1.1 hs)]
          refine w_iload_n dX7_readNumber_64 rfl rfl ?_
          exact x_iret rfl rfl dX7_readNumber_65 ⟨rfl, bk, ⟨c2, fun h => absurd rfl h, tl.1, fun j hj => oth j (hj.imp_right (Or.imp_right And.left))⟩, rfl⟩
        · rw [if_neg (fun z => hs (hld.2.2.2.2.1.2 z))]
          refine w_aload_n dX7_readNumber_59 rfl rfl ?_
          refine w_iconst dX7_readNumber_60 ?_
          refine wc_Vv (Z := mX7_refuse) (As := [_]) (c7_refuse (by unfold ok32; omega) (by rw [c2]; unfold ok32; omega)) RD0 rfl kX7_refuse lX7_65 iX7_refuse vX7_refuse dX7_readNumber_61 rfl rfl rfl (Nat.le_of_ble_eq_true rfl) ⟨Nat.le_of_ble_eq_true rfl, Nat.le_of_ble_eq_true rfl⟩ ?_
          refine w_iload_n dX7_readNumber_64 rfl rfl ?_
          refine x_iret rfl rfl dX7_readNumber_65 ⟨rfl, rfF 1 bk, ?_, rfl⟩
          have := NMP.re (X := u1 X x y.2.2.2) (e := 1) tl c2 (by omega)
          exact ⟨this.1, this.2.1, this.2.2.1, fun j hj => (this.2.2.2 j hj).trans (tk.2.2.2 j (by omega) (by omega) (by omega) (by omega))⟩
      · exact bad (fun z => by omega)
  · have hn1 : ¬ y.2.2.1 = 1 := fun z => hc (d2.2 z)
    rw [if_neg (fun z => hn1 z.1), if_pos hn1]
    refine w_aload_n dX7_readNumber_12 rfl rfl ?_
    refine w_iconst dX7_readNumber_13 ?_
    refine wc_Vv (Z := mX7_refuse) (As := [_]) (c7_refuse (by unfold ok32; omega) (by rw [b2]; unfold ok32; omega)) RD0 rfl kX7_refuse lX7_65 iX7_refuse vX7_refuse dX7_readNumber_14 rfl rfl rfl (Nat.le_of_ble_eq_true rfl) ⟨Nat.le_of_ble_eq_true rfl, Nat.le_of_ble_eq_true rfl⟩ ?_
    refine w_iload_n dX7_readNumber_17 rfl rfl ?_
    exact x_iret rfl rfl dX7_readNumber_18 ⟨rfl, rfF 1 bj, NMP.re tk b2 (by omega), rfl⟩

