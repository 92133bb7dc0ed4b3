/-! the face: what costs, orders of layers -/
def stZ (o x : Nat) : Prop := x ≤ o ∨ (o + 8 ≤ x ∧ x ≤ o + 45) ∨ (o + 51 ≤ x ∧ x ≤ o + 72)
def xfs (o : Nat) : List Value := [.ref (o + 8), .ref (o + 20), .ref (o + 32), .ref (o + 35), .ref (o + 43), .ref (o + 55), .ref (o + 57)]
/-- the class at o with all that belongs to it where it was made -/
def VX (h : HP) (o c : Nat) (sa : Nat → Nat → Int) (si : Nat → Int) (sl : Nat → BitVec 64) (A : Nat → Int) (L R C : Nat) : Prop := h.2 o = some (.inr (8, xfs o)) ∧ (∃ n : Int, h.2 (o + 8) = some (.inr (4, hfs (o + 8) n))) ∧ SCP h (o + 8 + 4) c sa si sl ∧ REL sa si sl A L R C ∧ CDQ (fun x => ¬ stZ o x) h c A L R C ∧ TOP A L R C
theorem VX.vw {h : HP} {o c : Nat} {sa : Nat → Nat → Int} {si : Nat → Int} {sl : Nat → BitVec 64} {A : Nat → Int} {L R C : Nat} (H : VX h o c sa si sl A L R C) : VW h o (o + 8) c sa si sl A L R C := ⟨⟨_, _, _, _, _, _, H.1⟩, H.2.1, H.2.2.1, H.2.2.2.1, H.2.2.2.2.1.cdp, H.2.2.2.2.2⟩
theorem VX.go {h h' : HP} {o c : Nat} {sa : Nat → Nat → Int} {si : Nat → Int} {sl : Nat → BitVec 64} {A : Nat → Int} {L R C : Nat} (H : VX h o c sa si sl A L R C) (hh : ∀ x, x = o ∨ x = o + 8 ∨ (o + 12 ≤ x ∧ x ≤ o + 19) ∨ ¬ stZ o x → h'.2 x = h.2 x) : VX h' o c sa si sl A L R C := by
  obtain ⟨h1, ⟨n, h2⟩, h3, h4, h5, h6⟩ := H
  exact ⟨(hh _ (Or.inl rfl)).trans h1, ⟨n, (hh _ (Or.inr (Or.inl rfl))).trans h2⟩, fun j hj => (hh _ (by omega)).trans (h3 j hj), h4, h5.mono (fun _ z => z) (fun x hx => hh x (Or.inr (Or.inr (Or.inr hx)))), h6⟩
theorem VX.fl {h : HP} {o c : Nat} {sa : Nat → Nat → Int} {si : Nat → Int} {sl : Nat → BitVec 64} {A : Nat → Int} {L R C : Nat} {ba : Nat → Nat → Int} {bi : Nat → Int} (H : VX h o c sa si sl A L R C) : VX (FLH (o + 57) ba bi h) o c sa si sl A L R C := H.go (fun x hx => FLn (fun z => by
  rcases hx with w | w | w | w
  · omega
  · omega
  · omega
  · exact w (by unfold stZ; omega)))
theorem VX.aw {h : HP} {o c : Nat} {sa : Nat → Nat → Int} {si : Nat → Int} {sl : Nat → BitVec 64} {A : Nat → Int} {L R C : Nat} {bl : Nat → Nat → BitVec 64} {bi : Nat → Int} {bq : Nat → BitVec 64} (H : VX h o c sa si sl A L R C) : VX (AWH (o + 55) bl bi bq h) o c sa si sl A L R C := H.go (fun x hx => AWn (fun z => by
  rcases hx with w | w | w | w
  · omega
  · omega
  · omega
  · exact w (by unfold stZ; omega)))
theorem VX.pl {h : HP} {o c c' : Nat} {sa sb : Nat → Nat → Int} {si sj : Nat → Int} {sl sm : Nat → BitVec 64} {A : Nat → Int} {L R C : Nat} (H : VX h o c sa si sl A L R C) : VX (SH (o + 35) c' sb sj sm h) o c sa si sl A L R C := H.go (fun x hx => SHn (fun z => by
  rcases hx with w | w | w | w
  · omega
  · omega
  · omega
  · exact w (by unfold stZ; omega)))
theorem x_cost {o c : Nat} {sa : Nat → Nat → Int} {si : Nat → Int} {sl : Nat → BitVec 64} {h : HP} {A : Nat → Int} {L R C : Nat} {x : BitVec 64} (hX : VX h o c sa si sl A L R C) : sp mX9_cost [.ref o, .long (lB x)] h 0 0 (pd (some (.int (zI (if x.sshiftRight (L * C) = 0#64 then cstN A x (L * C) else -1)))) h) := by
  have hW := hX.vw
  have hQ : CDQ (outS (o + 8 + 4)) h c A L R C := hX.2.2.2.2.1.mono (fun x hx z => hx (by unfold stZ; omega)) (fun _ _ => rfl)
  have hself : SH (o + 8 + 4) c sa si sl h = h := SCP.self hX.2.2.1
  obtain ⟨hd, hhd⟩ : ∃ hd, o + 8 = hd := ⟨_, rfl⟩
  rw [hhd] at hW hQ hself
  obtain ⟨⟨kd, rd, pl, cu, aw, fw, o_o⟩, ⟨nh, o_h⟩, hS, hR, hC, hT⟩ := id hW
  have o_n : h.2 (hd + 4) = some (.inr (7, sfs (hd + 4) c si sl)) := hS 0 (by omega)
  have r_heard : h.2 (hd + 4 + 1) = some (aI 48 (sa 1)) := hS 1 (by omega)
  have r_belief : h.2 (hd + 4 + 2) = some (aI 48 (sa 2)) := hS 2 (by omega)
  have r_turned : h.2 (hd + 4 + 3) = some (aI 48 (sa 3)) := hS 3 (by omega)
  have r_message : h.2 (hd + 4 + 4) = some (aI 192 (sa 4)) := hS 4 (by omega)
  have r_book : h.2 (hd + 4 + 5) = some (aI 48 (sa 5)) := hS 5 (by omega)
  have r_order : h.2 (hd + 4 + 6) = some (aI 4 (sa 6)) := hS 6 (by omega)
  obtain ⟨ad, f7, f8, f10, f9, f11, rk, cr, hV, h6, h7, o_c, r_c_shifts, r_c_edges, r_c_bitsOf, r_c_checksOf, r_c_sums, e7, e8, e9, e10, hRD⟩ := id hC
  obtain ⟨v1, v2, v3, v4, v5, v6, v7⟩ := id hV
  obtain ⟨hI, -, hSN, hA2⟩ := id hT
  obtain ⟨⟨s1, s2, s3, s4, s5, s6⟩, ⟨g8, g9⟩, ⟨nl, l7, lb, hBK⟩, b1, b2, b3, b4, b6⟩ := id hR
  have hLC := mulLe (a := L) (b := C) (x := 6) (y := 8) (by omega) (by omega)
  have hLR := mulLe (a := L) (b := R) (x := 6) (y := 4) (by omega) (by omega)
  have hLCi : (L : Int) * C = ((L * C : Nat) : Int) := by push_cast; rfl
  have hLRi : (L : Int) * R = ((L * R : Nat) : Int) := by push_cast; rfl
  refine sp_wp rfl (lv := [_, _, _]) rfl (Nat.le_of_ble_eq_true rfl) ?_
  refine w_aload_n dX9_cost_0 rfl rfl ?_
  refine w_lload_n dX9_cost_1 rfl rfl ?_
  refine wc_V (Z := mX9_isSet) (As := [_]) (x_isSet hW) o_o rfl kX9_isSet lX9_278 iX9_isSet vX9_isSet dX9_cost_2 rfl rfl rfl (Nat.le_of_ble_eq_true rfl) ⟨Nat.le_of_ble_eq_true rfl, Nat.le_of_ble_eq_true rfl⟩ ?_
  refine w_ifb_eq 22 dX9_cost_5 (by decide) (fun hc => ?_) (fun hc => ?_)
  · rw [if_neg hc]
    refine w_iconst dX9_cost_22 ?_
    refine x_iret rfl rfl dX9_cost_23 ⟨?_, rfl⟩
    rfl
  · rw [if_pos hc]
    have hco := c8_costOf (si := si) (sl := sl) (x := x) hQ hI b1
    rw [hself] at hco
    refine w_aload_n dX9_cost_8 rfl rfl ?_
    refine w_getf fX9_19 dX9_cost_9 o_o rfl ?_
    refine w_getf fX9_89 dX9_cost_12 o_h rfl ?_
    refine w_lload_n dX9_cost_15 rfl rfl ?_
    refine wc_V (Z := mX8_costOf) (As := [_]) hco o_n rfl kX8_costOf lX9_311 iX8_costOf vX8_costOf dX9_cost_16 rfl rfl rfl (Nat.le_of_ble_eq_true rfl) ⟨Nat.le_of_ble_eq_true rfl, Nat.le_of_ble_eq_true rfl⟩ ?_
    refine w_goto 23 dX9_cost_19 (by decide) ?_
    refine x_iret rfl rfl dX9_cost_23 ⟨?_, rfl⟩
    rfl
theorem x_clashes {o c : Nat} {sa : Nat → Nat → Int} {si : Nat → Int} {sl : Nat → BitVec 64} {h : HP} {A : Nat → Int} {L R C : Nat} {ba : Nat → Nat → Int} {bi : Nat → Int} {z : Int} (hX : VX h o c sa si sl A L R C) (hz : ok32 z) : sp mX9_clashes [.ref o, .int (zI z)] (FLH (o + 57) ba bi h) 0 0 (px (some (.int (zI (if 0 ≤ z ∧ z ≤ (fac R : Int) - 1 then ((clhV (shA A) R C z.toNat : Nat) : Int) else -1)))) (fun _ : (Nat → Nat → Int) × (Nat → Int) => True) (fun q => FLH (o + 57) q.1 q.2 h)) := by
  obtain ⟨o_o0, ⟨nh, o_h0⟩, hS0, hR, hQ, hT⟩ := id hX
  have o_o : ∀ {ba : Nat → Nat → Int} {bi : Nat → Int}, (FLH (o + 57) ba bi h).2 o = some (.inr (8, xfs o)) := FLo (by omega) o_o0
  have o_h : ∀ {ba : Nat → Nat → Int} {bi : Nat → Int}, (FLH (o + 57) ba bi h).2 (o + 8) = some (.inr (4, hfs (o + 8) nh)) := FLo (by omega) o_h0
  have o_n : ∀ {ba : Nat → Nat → Int} {bi : Nat → Int}, (FLH (o + 57) ba bi h).2 (o + 8 + 4) = some (.inr (7, sfs (o + 8 + 4) c si sl)) := FLo (by omega) (hS0 0 (by omega))
  obtain ⟨ad, f7, f8, f10, f9, f11, rk, cr, hV, h6, h7, o_c0, r70, r80, r90, r100, r110, e7, e8, e9, e10, hRD, p0, p7, p8, p9, p10, p11⟩ := id hQ
  have o_c : ∀ {ba : Nat → Nat → Int} {bi : Nat → Int}, (FLH (o + 57) ba bi h).2 c = some (.inr (2, cfs L R C (A 6) (A 7) ad rk cr)) := FLo (fun z => p0 (by unfold stZ; omega)) o_c0
  have hQF : CDQ (fun x => ¬ (o + 57 ≤ x ∧ x ≤ o + 57 + 2)) h c A L R C := hQ.mono (fun x hx z => hx (by unfold stZ; omega)) (fun _ _ => rfl)
  obtain ⟨v1, v2, v3, v4, v5, v6, v7⟩ := id hV
  have hfR : fac R ≤ 24 := fac_le (by omega)
  have hfp := fac_pos R
  refine sp_wp rfl (lv := [_, _]) rfl (Nat.le_of_ble_eq_true rfl) ?_
  refine w_aload_n dX9_clashes_0 rfl rfl ?_
  refine w_iload_n dX9_clashes_1 rfl rfl ?_
  refine wc_V (Z := mX9_isOrder) (As := [_]) (x_isOrder hX.fl.vw hz) o_o rfl kX9_isOrder lX9_153 iX9_isOrder vX9_isOrder dX9_clashes_2 rfl rfl rfl (Nat.le_of_ble_eq_true rfl) ⟨Nat.le_of_ble_eq_true rfl, Nat.le_of_ble_eq_true rfl⟩ ?_
  refine w_ifb_eq 29 dX9_clashes_5 (by decide) (fun hc => ?_) (fun hc => ?_)
  · rw [if_neg hc]
    refine w_iconst dX9_clashes_29 ?_
    exact x_iret rfl rfl dX9_clashes_30 ⟨rfl, (ba, bi), trivial, rfl⟩
  · rw [if_pos hc]
    obtain ⟨zn, hzn⟩ : ∃ zn : Nat, z = (zn : Int) := ⟨z.toNat, by omega⟩
    subst hzn
    rw [Int.toNat_natCast]
    refine w_aload_n dX9_clashes_8 rfl rfl ?_
    refine w_getf fX9_57 dX9_clashes_9 o_o rfl ?_
    refine w_aload_n dX9_clashes_12 rfl rfl ?_
    refine w_getf fX9_19 dX9_clashes_13 o_o rfl ?_
    refine w_getf fX9_89 dX9_clashes_16 o_h rfl ?_
    refine w_getf fX9_98 dX9_clashes_19 o_n rfl ?_
    refine w_iload_n dX9_clashes_22 rfl rfl ?_
    refine wx_V (Z := mX3_countClashes) (As := [_, _]) (c3_countClashes hQF (by omega)) FL0 rfl kX3_countClashes lX9_343 iX3_countClashes vX3_countClashes dX9_clashes_23 rfl rfl rfl (Nat.le_of_ble_eq_true rfl) ⟨Nat.le_of_ble_eq_true rfl, Nat.le_of_ble_eq_true rfl⟩ (fun g hg => ?_)
    refine w_goto 30 dX9_clashes_26 (by decide) ?_
    exact x_iret rfl rfl dX9_clashes_30 ⟨rfl, (g, bi), trivial, rfl⟩
theorem x_pipe {o c : Nat} {sa : Nat → Nat → Int} {si : Nat → Int} {sl : Nat → BitVec 64} {h : HP} {A : Nat → Int} {L R C : Nat} {ba : Nat → Nat → Int} {bi : Nat → Int} {z x y : Int} (hX : VX h o c sa si sl A L R C) (hz : ok32 z) (hx : ok32 x) (hy : ok32 y) : sp mX9_pipe [.ref o, .int (zI z), .int (zI x), .int (zI y)] (FLH (o + 57) ba bi h) 0 0 (px (some (.int (zI (if (0 ≤ z ∧ z ≤ (fac R : Int) - 1) ∧ (1 ≤ x ∧ x ≤ 9) ∧ 0 ≤ y ∧ y ≤ 1 then (if y = 0 then (((swF (shA A) R C z.toNat x 3).2.2.1 : Nat) : Int) else (((swF (shA A) R C z.toNat x 3).2.2.2 : Nat) : Int)) else -1)))) (fun _ : (Nat → Nat → Int) × (Nat → Int) => True) (fun q => FLH (o + 57) q.1 q.2 h)) := by
  obtain ⟨o_o0, ⟨nh, o_h0⟩, hS0, hR, hQ, hT⟩ := id hX
  have o_o : ∀ {ba : Nat → Nat → Int} {bi : Nat → Int}, (FLH (o + 57) ba bi h).2 o = some (.inr (8, xfs o)) := FLo (by omega) o_o0
  have o_h : ∀ {ba : Nat → Nat → Int} {bi : Nat → Int}, (FLH (o + 57) ba bi h).2 (o + 8) = some (.inr (4, hfs (o + 8) nh)) := FLo (by omega) o_h0
  have o_n : ∀ {ba : Nat → Nat → Int} {bi : Nat → Int}, (FLH (o + 57) ba bi h).2 (o + 8 + 4) = some (.inr (7, sfs (o + 8 + 4) c si sl)) := FLo (by omega) (hS0 0 (by omega))
  obtain ⟨ad, f7, f8, f10, f9, f11, rk, cr, hV, h6, h7, o_c0, r70, r80, r90, r100, r110, e7, e8, e9, e10, hRD, p0, p7, p8, p9, p10, p11⟩ := id hQ
  have o_c : ∀ {ba : Nat → Nat → Int} {bi : Nat → Int}, (FLH (o + 57) ba bi h).2 c = some (.inr (2, cfs L R C (A 6) (A 7) ad rk cr)) := FLo (fun z => p0 (by unfold stZ; omega)) o_c0
  have hQF : CDQ (fun x => ¬ (o + 57 ≤ x ∧ x ≤ o + 57 + 2)) h c A L R C := hQ.mono (fun x hx z => hx (by unfold stZ; omega)) (fun _ _ => rfl)
  obtain ⟨v1, v2, v3, v4, v5, v6, v7⟩ := id hV
  have hfR : fac R ≤ 24 := fac_le (by omega)
  have hfp := fac_pos R
  have no : ¬ ((0 ≤ z ∧ z ≤ (fac R : Int) - 1) ∧ (1 ≤ x ∧ x ≤ 9) ∧ 0 ≤ y ∧ y ≤ 1) → wp mX9_pipe 24 [.ref o, .int (zI z), .int (zI x), .int (zI y)] [] (FLH (o + 57) ba bi h) 0 0 (px (some (.int (zI (if (0 ≤ z ∧ z ≤ (fac R : Int) - 1) ∧ (1 ≤ x ∧ x ≤ 9) ∧ 0 ≤ y ∧ y ≤ 1 then (if y = 0 then (((swF (shA A) R C z.toNat x 3).2.2.1 : Nat) : Int) else (((swF (shA A) R C z.toNat x 3).2.2.2 : Nat) : Int)) else -1)))) (fun _ : (Nat → Nat → Int) × (Nat → Int) => True) (fun q => FLH (o + 57) q.1 q.2 h)) := by
    intro hn
    rw [if_neg hn]
    refine w_iconst dX9_pipe_24 ?_
    exact x_iret rfl rfl dX9_pipe_25 ⟨rfl, (ba, bi), trivial, rfl⟩
  refine sp_wp rfl (lv := [_, _, _, _]) rfl (Nat.le_of_ble_eq_true rfl) ?_
  refine w_aload_n dX9_pipe_0 rfl rfl ?_
  refine w_iload_n dX9_pipe_1 rfl rfl ?_
  refine wc_V (Z := mX9_isOrder) (As := [_]) (x_isOrder hX.fl.vw hz) o_o rfl kX9_isOrder lX9_153 iX9_isOrder vX9_isOrder dX9_pipe_2 rfl rfl rfl (Nat.le_of_ble_eq_true rfl) ⟨Nat.le_of_ble_eq_true rfl, Nat.le_of_ble_eq_true rfl⟩ ?_
  refine w_ifb_eq 24 dX9_pipe_5 (by decide) (fun h1 => ?_) (fun h1 => ?_)
  · exact no (fun q => h1 q.1)
  · refine w_iload_n dX9_pipe_8 rfl rfl ?_
    refine wc_S (Z := mX9_isLatency) (As := [_]) (c9_isLatency hx) kX9_isLatency lX9_327 sX9_isLatency dX9_pipe_9 rfl rfl rfl (Nat.le_of_ble_eq_true rfl) ⟨Nat.le_of_ble_eq_true rfl, Nat.le_of_ble_eq_true rfl⟩ ?_
    refine w_ifb_eq 24 dX9_pipe_12 (by decide) (fun h2 => ?_) (fun h2 => ?_)
    · exact no (fun q => h2 q.2.1)
    · refine w_iload_n dX9_pipe_15 rfl rfl ?_
      refine w_if_lt 24 dX9_pipe_16 (by decide) (by first | assumption | (unfold ok32 at *; omega)) (fun h3 => ?_) (fun h3 => ?_)
      · exact no (by omega)
      · refine w_iload_n dX9_pipe_19 rfl rfl ?_
        refine w_iconst dX9_pipe_20 ?_
        refine w_icmp_le 26 dX9_pipe_21 (by decide) (by first | assumption | (unfold ok32 at *; omega)) (by first | assumption | (unfold ok32 at *; omega)) (fun h4 => ?_) (fun h4 => ?_)
        rotate_left
        · exact no (by omega)
        · rw [if_pos ⟨h1, h2, by omega, by omega⟩]
          obtain ⟨zn, hzn⟩ : ∃ zn : Nat, z = (zn : Int) := ⟨z.toNat, by omega⟩
          subst hzn
          rw [Int.toNat_natCast]
          refine w_aload_n dX9_pipe_26 rfl rfl ?_
          refine w_getf fX9_57 dX9_pipe_27 o_o rfl ?_
          refine w_aload_n dX9_pipe_30 rfl rfl ?_
          refine w_getf fX9_19 dX9_pipe_31 o_o rfl ?_
          refine w_getf fX9_89 dX9_pipe_34 o_h rfl ?_
          refine w_getf fX9_98 dX9_pipe_37 o_n rfl ?_
          refine w_iload_n dX9_pipe_40 rfl rfl ?_
          refine w_iload_n dX9_pipe_41 rfl rfl ?_
          refine wx_Vv (Z := mX3_run) (As := [_, _, _]) (c3_run hQF (by omega) h2) FL0 rfl kX3_run lX9_330 iX3_run vX3_run dX9_pipe_42 rfl rfl rfl (Nat.le_of_ble_eq_true rfl) ⟨Nat.le_of_ble_eq_true rfl, Nat.le_of_ble_eq_true rfl⟩ (fun g hg => ?_)
          refine w_iload_n dX9_pipe_45 rfl rfl ?_
          refine w_if_ne 59 dX9_pipe_46 (by decide) (by first | assumption | (unfold ok32 at *; omega)) (fun h5 => ?_) (fun h5 => ?_)
          · rw [if_neg (by omega), ← hg.2]
            refine w_aload_n dX9_pipe_59 rfl rfl ?_
            refine w_getf fX9_57 dX9_pipe_60 o_o rfl ?_
            refine w_getf fX9_337 dX9_pipe_63 FL0 rfl ?_
            exact x_iret rfl rfl dX9_pipe_66 ⟨rfl, g, trivial, rfl⟩
          · rw [if_pos (by omega), ← hg.1]
            refine w_aload_n dX9_pipe_49 rfl rfl ?_
            refine w_getf fX9_57 dX9_pipe_50 o_o rfl ?_
            refine w_getf fX9_334 dX9_pipe_53 FL0 rfl ?_
            refine w_goto 66 dX9_pipe_56 (by decide) ?_
            exact x_iret rfl rfl dX9_pipe_66 ⟨rfl, g, trivial, rfl⟩
theorem sl_400 {sh : Nat → Int} {R C o : Nat} {t : Int} (hC : C ≤ 8) (hR : R ≤ 4) : (swF sh R C o t 3).2.2.1 ≤ 400 := by
  have ih := swF_ok (sh := sh) (R := R) (C := C) (o := o) (t := t) hC hR (s := 2)
  have := (rwF_ok (sh := sh) (R := R) (o := o) (t := t) hC (k := R) ih.1).2.1
  show (rwF sh R C o t R ((swF sh R C o t 2).1, (swF sh R C o t 2).2.1, 0)).1 - (swF sh R C o t 2).1 ≤ 400
  replace this : (rwF sh R C o t R ((swF sh R C o t 2).1, (swF sh R C o t 2).2.1, 0)).1 ≤ (swF sh R C o t 2).1 + 100 * R := this
  omega
theorem x_quietest {o c : Nat} {sa : Nat → Nat → Int} {si : Nat → Int} {sl : Nat → BitVec 64} {h : HP} {A : Nat → Int} {L R C : Nat} {ba : Nat → Nat → Int} {bi : Nat → Int} {z : Int} (hX : VX h o c sa si sl A L R C) (hz : ok32 z) : sp mX9_quietest [.ref o, .int (zI z)] (FLH (o + 57) ba bi h) 0 0 (px (some (.int (zI (if 1 ≤ z ∧ z ≤ 9 then (qtN (fun o => (swF (shA A) R C o z 3).2.2.1) (fac R)).1 else -1)))) (fun _ : (Nat → Nat → Int) × (Nat → Int) => True) (fun q => FLH (o + 57) q.1 q.2 h)) := by
  obtain ⟨o_o0, ⟨nh, o_h0⟩, hS0, hR, hQ, hT⟩ := id hX
  have o_o : ∀ {ba : Nat → Nat → Int} {bi : Nat → Int}, (FLH (o + 57) ba bi h).2 o = some (.inr (8, xfs o)) := FLo (by omega) o_o0
  have o_h : ∀ {ba : Nat → Nat → Int} {bi : Nat → Int}, (FLH (o + 57) ba bi h).2 (o + 8) = some (.inr (4, hfs (o + 8) nh)) := FLo (by omega) o_h0
  have o_n : ∀ {ba : Nat → Nat → Int} {bi : Nat → Int}, (FLH (o + 57) ba bi h).2 (o + 8 + 4) = some (.inr (7, sfs (o + 8 + 4) c si sl)) := FLo (by omega) (hS0 0 (by omega))
  obtain ⟨ad, f7, f8, f10, f9, f11, rk, cr, hV, h6, h7, o_c0, r70, r80, r90, r100, r110, e7, e8, e9, e10, hRD, p0, p7, p8, p9, p10, p11⟩ := id hQ
  have o_c : ∀ {ba : Nat → Nat → Int} {bi : Nat → Int}, (FLH (o + 57) ba bi h).2 c = some (.inr (2, cfs L R C (A 6) (A 7) ad rk cr)) := FLo (fun z => p0 (by unfold stZ; omega)) o_c0
  have hQF : CDQ (fun x => ¬ (o + 57 ≤ x ∧ x ≤ o + 57 + 2)) h c A L R C := hQ.mono (fun x hx z => hx (by unfold stZ; omega)) (fun _ _ => rfl)
  obtain ⟨v1, v2, v3, v4, v5, v6, v7⟩ := id hV
  have hfR : fac R ≤ 24 := fac_le (by omega)
  have hfp := fac_pos R
  refine sp_wp rfl (lv := [_, _, _, _, _, _]) rfl (Nat.le_of_ble_eq_true rfl) ?_
  refine w_iload_n dX9_quietest_0 rfl rfl ?_
  refine wc_S (Z := mX9_isLatency) (As := [_]) (c9_isLatency hz) kX9_isLatency lX9_327 sX9_isLatency dX9_quietest_1 rfl rfl rfl (Nat.le_of_ble_eq_true rfl) ⟨Nat.le_of_ble_eq_true rfl, Nat.le_of_ble_eq_true rfl⟩ ?_
  refine w_ifb_ne 9 dX9_quietest_4 (by decide) (fun h1 => ?_) (fun h1 => ?_)
  rotate_left
  · rw [if_neg h1]
    refine w_iconst dX9_quietest_7 ?_
    exact x_iret rfl rfl dX9_quietest_8 ⟨rfl, (ba, bi), trivial, rfl⟩
  · rw [if_pos h1]
    obtain ⟨G, hG⟩ : ∃ G : Nat → Nat, (fun o => (swF (shA A) R C o z 3).2.2.1) = G := ⟨_, rfl⟩
    have hGo : ∀ o, (swF (shA A) R C o z 3).2.2.1 = G o := fun o => by rw [← hG]
    have hGb : ∀ o, G o ≤ 400 := fun o => by rw [← hGo]; exact sl_400 (by omega) (by omega)
    rw [hG]
    refine w_aload_n dX9_quietest_9 rfl rfl ?_
    refine w_getf fX9_19 dX9_quietest_10 o_o rfl ?_
    refine w_getf fX9_89 dX9_quietest_13 o_h rfl ?_
    refine w_getf fX9_98 dX9_quietest_16 o_n rfl ?_
    refine w_astore_n (lv' := [_, _, _, _, _, _]) dX9_quietest_19 rfl (Nat.le_of_ble_eq_true rfl) rfl rfl ?_
    refine w_iconst dX9_quietest_20 ?_
    refine w_istore_n (lv' := [_, _, _, _, _, _]) dX9_quietest_21 rfl (Nat.le_of_ble_eq_true rfl) rfl rfl ?_
    refine w_sipush dX9_quietest_22 (by decide) ?_
    refine w_istore (lv' := [_, _, _, _, _, _]) dX9_quietest_25 (Nat.le_of_ble_eq_true rfl) rfl rfl ?_
    refine w_iconst dX9_quietest_27 ?_
    refine w_istore (lv' := [_, _, _, _, _, _]) dX9_quietest_28 (Nat.le_of_ble_eq_true rfl) rfl rfl ?_
    have key : ∀ n, n ≤ fac R → ∀ (ba : Nat → Nat → Int) (bi : Nat → Int), wp mX9_quietest 30 [.ref o, .int (zI z), .ref c, .int (zI (if n = 0 then 0 else (qtN G n).1)), .int (zI (if n = 0 then 1000 else (qtN G n).2)), .int (zI (n : Int))] [] (FLH (o + 57) ba bi h) 0 0 (px (some (.int (zI ((qtN G (fac R)).1)))) (fun _ : (Nat → Nat → Int) × (Nat → Int) => True) (fun q => FLH (o + 57) q.1 q.2 h)) := by
      refine up_ind (fun n hn ih ba bi => ?_)
      have hr := qtN_rng hGb (n := n)
      have hgn := hGb n
      refine w_iload dX9_quietest_30 rfl ?_
      refine w_aload_n dX9_quietest_32 rfl rfl ?_
      refine w_getf fX9_126 dX9_quietest_33 o_c rfl ?_
      refine wc_S (Z := mX9_countOrders) (As := [_]) (c9_countOrders (by omega)) kX9_countOrders lX9_340 sX9_countOrders dX9_quietest_36 rfl rfl rfl (Nat.le_of_ble_eq_true rfl) ⟨Nat.le_of_ble_eq_true rfl, Nat.le_of_ble_eq_true rfl⟩ ?_
      refine w_icmp_ge 83 dX9_quietest_39 (by decide) (by first | assumption | (unfold ok32 at *; omega)) (by first | assumption | (unfold ok32 at *; omega)) (fun h2 => ?_) (fun h2 => ?_)
      · have e : n = fac R := by omega
        rw [e, if_neg (by omega)]
        refine w_iload_n dX9_quietest_83 rfl rfl ?_
        exact x_iret rfl rfl dX9_quietest_84 ⟨rfl, (ba, bi), trivial, rfl⟩
      · have hnl : n < fac R := by omega
        refine w_aload_n dX9_quietest_42 rfl rfl ?_
        refine w_getf fX9_57 dX9_quietest_43 o_o rfl ?_
        refine w_aload_n dX9_quietest_46 rfl rfl ?_
        refine w_iload dX9_quietest_47 rfl ?_
        refine w_iload_n dX9_quietest_49 rfl rfl ?_
        refine wx_Vv (Z := mX3_run) (As := [_, _, _]) (c3_run hQF hnl h1) FL0 rfl kX3_run lX9_330 iX3_run vX3_run dX9_quietest_50 rfl rfl rfl (Nat.le_of_ble_eq_true rfl) ⟨Nat.le_of_ble_eq_true rfl, Nat.le_of_ble_eq_true rfl⟩ (fun g hg => ?_)
        obtain ⟨hg1, hg2⟩ := hg
        rw [hGo] at hg1
        refine w_aload_n dX9_quietest_53 rfl rfl ?_
        refine w_getf fX9_57 dX9_quietest_54 o_o rfl ?_
        refine w_getf fX9_334 dX9_quietest_57 FL0 rfl ?_
        rw [hg1]
        refine w_iload dX9_quietest_60 rfl ?_
        have hfw : ok32 (if n = 0 then 1000 else (qtN G n).2) := by unfold ok32; split <;> omega
        refine w_icmp_ge 77 dX9_quietest_62 (by decide) (by unfold ok32; omega) hfw (fun h3 => ?_) (fun h3 => ?_)
        · have hn0 : ¬ n = 0 := fun e => by rw [if_pos e] at h3; omega
          rw [if_neg hn0] at h3
          have hne : ¬ (qtN G n).1 = -1 := by
            cases n with
            | zero => exact absurd rfl hn0
            | succ m =>
              have hr2 := qtN_rng hGb (n := m)
              unfold qtN
              split
              · rename_i q; exact q.1
              · show ¬ (m : Int) = -1; omega
          refine w_iinc (lv' := [_, _, _, _, _, _]) dX9_quietest_77 rfl rfl rfl ?_
          refine w_goto 30 dX9_quietest_80 (by decide) ?_
          refine w_cast ?_ rfl rfl (ih hnl g.1 g.2)
          rw [if_neg (show ¬ n + 1 = 0 by omega), if_neg (show ¬ n + 1 = 0 by omega), if_neg hn0, if_neg hn0, show qtN G (n + 1) = qtN G n from if_pos ⟨hne, by omega⟩]
          rfl
        · refine w_aload_n dX9_quietest_65 rfl rfl ?_
          refine w_getf fX9_57 dX9_quietest_66 o_o rfl ?_
          refine w_getf fX9_334 dX9_quietest_69 FL0 rfl ?_
          rw [hg1]
          refine w_istore (lv' := [_, _, _, _, _, _]) dX9_quietest_72 (Nat.le_of_ble_eq_true rfl) rfl rfl ?_
          refine w_iload dX9_quietest_74 rfl ?_
          refine w_istore_n (lv' := [_, _, _, _, _, _]) dX9_quietest_76 rfl (Nat.le_of_ble_eq_true rfl) rfl rfl ?_
          refine w_iinc (lv' := [_, _, _, _, _, _]) dX9_quietest_77 rfl rfl rfl ?_
          refine w_goto 30 dX9_quietest_80 (by decide) ?_
          refine w_cast ?_ rfl rfl (ih hnl g.1 g.2)
          rw [if_neg (show ¬ n + 1 = 0 by omega), if_neg (show ¬ n + 1 = 0 by omega), show qtN G (n + 1) = ((n : Int), (G n : Int)) from if_neg (fun q => by
            by_cases hn0 : n = 0
            · subst hn0; exact q.1 rfl
            · rw [if_neg hn0] at h3; omega)]
          rfl
    exact key 0 (Nat.zero_le _) ba bi
theorem x_calmest {o c : Nat} {sa : Nat → Nat → Int} {si : Nat → Int} {sl : Nat → BitVec 64} {h : HP} {A : Nat → Int} {L R C : Nat} {ba : Nat → Nat → Int} {bi : Nat → Int} (hX : VX h o c sa si sl A L R C) : sp mX9_calmest [.ref o] (FLH (o + 57) ba bi h) 0 0 (px (some (.int (zI (((cmN (clhV (shA A) R C) (fac R - 1) : Nat) : Int))))) (fun _ : (Nat → Nat → Int) × (Nat → Int) => True) (fun q => FLH (o + 57) q.1 q.2 h)) := by
  obtain ⟨o_o0, ⟨nh, o_h0⟩, hS0, hR, hQ, hT⟩ := id hX
  have o_o : ∀ {ba : Nat → Nat → Int} {bi : Nat → Int}, (FLH (o + 57) ba bi h).2 o = some (.inr (8, xfs o)) := FLo (by omega) o_o0
  have o_h : ∀ {ba : Nat → Nat → Int} {bi : Nat → Int}, (FLH (o + 57) ba bi h).2 (o + 8) = some (.inr (4, hfs (o + 8) nh)) := FLo (by omega) o_h0
  have o_n : ∀ {ba : Nat → Nat → Int} {bi : Nat → Int}, (FLH (o + 57) ba bi h).2 (o + 8 + 4) = some (.inr (7, sfs (o + 8 + 4) c si sl)) := FLo (by omega) (hS0 0 (by omega))
  obtain ⟨ad, f7, f8, f10, f9, f11, rk, cr, hV, h6, h7, o_c0, r70, r80, r90, r100, r110, e7, e8, e9, e10, hRD, p0, p7, p8, p9, p10, p11⟩ := id hQ
  have o_c : ∀ {ba : Nat → Nat → Int} {bi : Nat → Int}, (FLH (o + 57) ba bi h).2 c = some (.inr (2, cfs L R C (A 6) (A 7) ad rk cr)) := FLo (fun z => p0 (by unfold stZ; omega)) o_c0
  have hQF : CDQ (fun x => ¬ (o + 57 ≤ x ∧ x ≤ o + 57 + 2)) h c A L R C := hQ.mono (fun x hx z => hx (by unfold stZ; omega)) (fun _ _ => rfl)
  obtain ⟨v1, v2, v3, v4, v5, v6, v7⟩ := id hV
  have hfR : fac R ≤ 24 := fac_le (by omega)
  have hfp := fac_pos R
  obtain ⟨G, hG⟩ : ∃ G : Nat → Nat, clhV (shA A) R C = G := ⟨_, rfl⟩
  have hGb : ∀ o, G o ≤ 256 := fun o => by rw [← hG]; exact clhV_le (by omega)
  rw [hG]
  refine sp_wp rfl (lv := [_, _, _, _, _, _]) rfl (Nat.le_of_ble_eq_true rfl) ?_
  refine w_aload_n dX9_calmest_0 rfl rfl ?_
  refine w_getf fX9_19 dX9_calmest_1 o_o rfl ?_
  refine w_getf fX9_89 dX9_calmest_4 o_h rfl ?_
  refine w_getf fX9_98 dX9_calmest_7 o_n rfl ?_
  refine w_astore_n (lv' := [_, _, _, _, _, _]) dX9_calmest_10 rfl (Nat.le_of_ble_eq_true rfl) rfl rfl ?_
  refine w_iconst dX9_calmest_11 ?_
  refine w_istore_n (lv' := [_, _, _, _, _, _]) dX9_calmest_12 rfl (Nat.le_of_ble_eq_true rfl) rfl rfl ?_
  refine w_sipush dX9_calmest_13 (by decide) ?_
  refine w_istore_n (lv' := [_, _, _, _, _, _]) dX9_calmest_16 rfl (Nat.le_of_ble_eq_true rfl) rfl rfl ?_
  refine w_iconst dX9_calmest_17 ?_
  refine w_istore (lv' := [_, _, _, _, _, _]) dX9_calmest_18 (Nat.le_of_ble_eq_true rfl) rfl rfl ?_
  have key : ∀ n, n ≤ fac R → ∀ (ba : Nat → Nat → Int) (bi : Nat → Int) (x5 : Value), wp mX9_calmest 20 [.ref o, .ref c, .int (zI ((cmN G (n - 1) : Nat) : Int)), .int (zI (if n = 0 then 1000 else ((G (cmN G (n - 1)) : Nat) : Int))), .int (zI (n : Int)), x5] [] (FLH (o + 57) ba bi h) 0 0 (px (some (.int (zI (((cmN G (fac R - 1) : Nat) : Int))))) (fun _ : (Nat → Nat → Int) × (Nat → Int) => True) (fun q => FLH (o + 57) q.1 q.2 h)) := by
    refine up_ind (fun n hn ih ba bi x5 => ?_)
    have hgn := hGb n
    have hgc := hGb (cmN G (n - 1))
    refine w_iload dX9_calmest_20 rfl ?_
    refine w_aload_n dX9_calmest_22 rfl rfl ?_
    refine w_getf fX9_126 dX9_calmest_23 o_c rfl ?_
    refine wc_S (Z := mX9_countOrders) (As := [_]) (c9_countOrders (by omega)) kX9_countOrders lX9_340 sX9_countOrders dX9_calmest_26 rfl rfl rfl (Nat.le_of_ble_eq_true rfl) ⟨Nat.le_of_ble_eq_true rfl, Nat.le_of_ble_eq_true rfl⟩ ?_
    refine w_icmp_ge 62 dX9_calmest_29 (by decide) (by first | assumption | (unfold ok32 at *; omega)) (by first | assumption | (unfold ok32 at *; omega)) (fun h2 => ?_) (fun h2 => ?_)
    · have e : n = fac R := by omega
      rw [e]
      refine w_iload_n dX9_calmest_62 rfl rfl ?_
      exact x_iret rfl rfl dX9_calmest_63 ⟨rfl, (ba, bi), trivial, rfl⟩
    · have hnl : n < fac R := by omega
      refine w_aload_n dX9_calmest_32 rfl rfl ?_
      refine w_getf fX9_57 dX9_calmest_33 o_o rfl ?_
      refine w_aload_n dX9_calmest_36 rfl rfl ?_
      refine w_iload dX9_calmest_37 rfl ?_
      refine wx_V (Z := mX3_countClashes) (As := [_, _]) (c3_countClashes hQF hnl) FL0 rfl kX3_countClashes lX9_343 iX3_countClashes vX3_countClashes dX9_calmest_39 rfl rfl rfl (Nat.le_of_ble_eq_true rfl) ⟨Nat.le_of_ble_eq_true rfl, Nat.le_of_ble_eq_true rfl⟩ (fun g hg => ?_)
      rw [hG]
      refine w_istore (lv' := [_, _, _, _, _, _]) dX9_calmest_42 (Nat.le_of_ble_eq_true rfl) rfl rfl ?_
      refine w_iload dX9_calmest_44 rfl ?_
      refine w_iload_n dX9_calmest_46 rfl rfl ?_
      have hfw : ok32 (if n = 0 then 1000 else ((G (cmN G (n - 1)) : Nat) : Int)) := by unfold ok32; split <;> omega
      refine w_icmp_ge 56 dX9_calmest_47 (by decide) (by unfold ok32; omega) hfw (fun h3 => ?_) (fun h3 => ?_)
      · have hn0 : ¬ n = 0 := fun e => by rw [if_pos e] at h3; omega
        rw [if_neg hn0] at h3
        obtain ⟨m, hm⟩ : ∃ m, n = m + 1 := ⟨n - 1, by omega⟩
        subst hm
        refine w_iinc (lv' := [_, _, _, _, _, _]) dX9_calmest_56 rfl rfl rfl ?_
        refine w_goto 20 dX9_calmest_59 (by decide) ?_
        refine w_cast ?_ rfl rfl (ih hnl g bi (.int (zI ((G (m + 1) : Nat) : Int))))
        rw [if_neg (show ¬ m + 1 + 1 = 0 by omega), if_neg hn0, show m + 1 + 1 - 1 = m + 1 by omega, show m + 1 - 1 = m by omega, show cmN G (m + 1) = cmN G m from if_neg (by rw [show m + 1 - 1 = m by omega] at h3; omega)]
        rfl
      · refine w_iload dX9_calmest_50 rfl ?_
        refine w_istore_n (lv' := [_, _, _, _, _, _]) dX9_calmest_52 rfl (Nat.le_of_ble_eq_true rfl) rfl rfl ?_
        refine w_iload dX9_calmest_53 rfl ?_
        refine w_istore_n (lv' := [_, _, _, _, _, _]) dX9_calmest_55 rfl (Nat.le_of_ble_eq_true rfl) rfl rfl ?_
        refine w_iinc (lv' := [_, _, _, _, _, _]) dX9_calmest_56 rfl rfl rfl ?_
        refine w_goto 20 dX9_calmest_59 (by decide) ?_
        refine w_cast ?_ rfl rfl (ih hnl g bi (.int (zI ((G n : Nat) : Int))))
        have e : cmN G (n + 1 - 1) = n := by
          cases n with
          | zero => rfl
          | succ m =>
            rw [if_neg (by omega)] at h3
            rw [show m + 1 - 1 = m by omega] at h3
            show cmN G (m + 1) = m + 1
            exact if_pos (by omega)
        rw [if_neg (show ¬ n + 1 = 0 by omega), e]
        rfl
  exact key 0 (Nat.zero_le _) ba bi _

