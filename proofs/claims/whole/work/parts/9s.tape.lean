/-! the face: the tape, texts, steps taken back -/
theorem REST.rd {o : Nat} {h : HP} {cap : Nat → Nat} {A im tx tp : Nat → Int} {f4 f5 f6 : Int} {ow : Nat → Nat} {cd : Nat → Prop} {cb : Nat → CBK} {da : Nat → Nat → Int} {di : Nat → Int} (H : REST o h cap A im tx tp f4 f5 f6 ow cd cb) (hT : TB (da 1)) (h4 : 0 ≤ di 1 ∧ di 1 ≤ 300) (h5 : ok32 (di 2)) (h6 : ok32 (di 3)) : REST o (RDH (o + 32) da di h) cap A im tx (da 1) (di 1) (di 2) (di 3) ow cd cb := by
  obtain ⟨⟨a1, a2⟩, a3, a4, ⟨a5, a6⟩, ⟨a7, a8, L', R', C', c', a9⟩, ⟨ba, bi, r1, r2⟩, ⟨pc, psa, psi, psl, p1⟩, a10, ⟨⟨bl, bi2, bq, w1⟩, fa, fb, w2⟩, a11⟩ := H
  obtain ⟨u1', u2, u3, u4, u5⟩ := a11
  have n3 : ∀ x, ¬ (o + 32 ≤ x ∧ x ≤ o + 32 + 2) → (RDH (o + 32) da di h).2 x = h.2 x := fun x hx => RDn hx
  have g1 : h.1 ≤ (RDH (o + 32) da di h).1 := Nat.le_refl _
  have hn : ∀ x, 1 ≤ ow x → (RDH (o + 32) da di h).2 x = h.2 x := fun x ho => n3 x (fun z => by have := a2 x (by unfold stZ; omega); omega)
  refine ⟨⟨a1, a2⟩, a3.go g1 (fun _ _ => rfl) (fun x _ ho => hn x (by omega)), (n3 o (by omega)).trans a4, ⟨?_, ?_⟩, ⟨?_, ?_, L', R', C', c', ?_⟩, ⟨da, di, RDP.sh, rfl, rfl, rfl, rfl⟩, ⟨pc, psa, psi, psl, fun j hj => (n3 _ (by omega)).trans (p1 j hj)⟩, ?_, ⟨⟨bl, bi2, bq, fun j hj => (n3 _ (by omega)).trans (w1 j hj)⟩, fa, fb, fun j hj => (n3 _ (by omega)).trans (w2 j hj)⟩, u1', u2, u3, hT, h4, h5, h6⟩
  · exact a5.go g1 (fun _ _ => rfl) (fun x _ ho => hn x (by omega)) ⟨n3 _ (by omega), n3 _ (by omega)⟩ (fun _ z => z)
  · exact a6.go g1 (fun _ _ => rfl) (fun x _ ho => hn x (by omega)) ⟨n3 _ (by omega), n3 _ (by omega)⟩ (fun _ z => z) rfl (fun _ _ => rfl)
  · exact a7.go g1 (fun _ _ => rfl) (fun x _ ho => hn x (by omega)) ⟨n3 _ (by omega), n3 _ (by omega)⟩ (fun _ z => z)
  · exact a8.go g1 (fun _ _ => rfl) (fun x _ ho => hn x (by omega)) ⟨n3 _ (by omega), n3 _ (by omega)⟩ (fun _ z => z) rfl (fun _ _ => rfl)
  · exact a9.go g1 (fun _ _ => rfl) (fun x _ ho => hn x (by omega)) (fun j hj => n3 _ (by omega))
  · exact a10.go g1 (fun _ _ => rfl) (fun x _ ho => hn x (by omega)) (fun x hx2 => n3 x (by omega)) (fun c hc => ⟨hc, rfl⟩)
theorem SCB.rd {o : Nat} {h : HP} {ow : Nat → Nat} {cd : Nat → Prop} {B : Nat → Int} {L R C c : Nat} {da : Nat → Nat → Int} {di : Nat → Int} (H : SCB h ow cd (o + 8 + 4) B L R C c) (hz : ∀ x, stZ o x → ow x = 0) : SCB (RDH (o + 32) da di h) ow cd (o + 8 + 4) B L R C c := H.go (Nat.le_refl _) (fun _ _ => rfl) (fun x _ ho => RDn (fun z => by have := hz x (by unfold stZ; omega); omega)) (fun j hj => RDn (by omega))
theorem frm_rd {o : Nat} {h : HP} {da : Nat → Nat → Int} {di : Nat → Int} : FRM o h (RDH (o + 32) da di h) := ⟨Nat.le_refl _, fun x hx => RDn (by omega)⟩
def XPT (o : Nat) (h : HP) (cap : Nat → Nat) (w : Option Value) (A im tx tp : Nat → Int) (f4 f5 f6 : Int) : Option Value → HP → Prop := fun v h' => v = w ∧ FRM o h h' ∧ ∃ L R C, CLS o h' cap A im tx tp f4 f5 f6 L R C
theorem four_tb {T : Nat → Int} {n : Nat} {v : Int} (h : TB T) : TB (fourT T n v) := by
  unfold fourT
  have p : ∀ {T : Nat → Int} {i : Nat} {x : Int}, TB T → (0 ≤ x ∧ x ≤ 255) → TB (u1 T i x) := fun {T i x} h hx k => by
    by_cases hk : k = i
    · rw [hk, u1_s]; exact hx
    · rw [u1_n hk]; exact h k
  exact p (p (p (p h (byI_rng _ _)) (byI_rng _ _)) (byI_rng _ _)) (byI_rng _ _)
set_option maxRecDepth 4000 in
theorem x_feed {o : Nat} {h : HP} {cap : Nat → Nat} {A im tx tp : Nat → Int} {f4 f5 f6 : Int} {L R C : Nat} {n : Nat} {a b c d e : Int} (H : CLS o h cap A im tx tp f4 f5 f6 L R C) (h4 : f4 = (n : Int)) : sp mX9_feed [.ref o, .int (zI a), .int (zI b), .int (zI c), .int (zI d), .int (zI e)] h 0 0 (XPT o h cap (some (.int (zI (if n + 20 ≤ 300 then ((n + 20 : Nat) : Int) else -1)))) A im tx (if n + 20 ≤ 300 then feedT tp n a b c d e else tp) (if n + 20 ≤ 300 then ((n + 20 : Nat) : Int) else f4) f5 f6) := by
  obtain ⟨ow, cd, cb, c9, hRs, hSb⟩ := id H
  obtain ⟨⟨a1, a2⟩, -, o_o0, ⟨⟨txs, o_h0, t2, t3, t4⟩, f, sc, a6, a6b⟩, -, ⟨ba, bi, r1, r2, r3, r4, r5⟩, -, -, -, ⟨⟨u1', u2, u3⟩, u4, u5, uT, uf, uk5, uk6⟩⟩ := id hRs
  have hself : RDH (o + 32) ba bi h = h := RDP.self r1
  have o_o : ∀ {ba : Nat → Nat → Int} {bi : Nat → Int}, (RDH (o + 32) ba bi h).2 o = some (.inr (8, xfs o)) := RDo (by omega) o_o0
  have o_h : ∀ {ba : Nat → Nat → Int} {bi : Nat → Int}, (RDH (o + 32) ba bi h).2 (o + 8) = some (.inr (4, hfs (o + 8) (A 0))) := RDo (by omega) o_h0
  have b1 : bi 1 = (n : Int) := r3.trans h4
  refine sp_wp rfl (lv := [_, _, _, _, _, _]) rfl (Nat.le_of_ble_eq_true rfl) ?_
  refine w_cast rfl rfl hself.symm ?_
  refine w_aload_n dX9_feed_0 rfl rfl ?_
  refine w_getf fX9_29 dX9_feed_1 o_o rfl ?_
  refine w_getf fX9_61 dX9_feed_4 RD0 rfl ?_
  rw [b1]
  refine w_bipush dX9_feed_7 (by decide) ?_
  refine w_iadd dX9_feed_9 ?_
  refine w_sipush dX9_feed_10 (by decide) ?_
  refine w_icmp_le 18 dX9_feed_13 (by decide) (by unfold ok32; omega) (by unfold ok32; omega) (fun w1 => ?_) (fun w1 => ?_)
  rotate_left
  · rw [if_neg (by omega), if_neg (by omega), if_neg (by omega)]
    refine w_iconst dX9_feed_16 ?_
    exact x_iret rfl rfl dX9_feed_17 ⟨rfl, frm_rd, L, R, C, by rw [hself]; exact H⟩
  · rw [if_pos (by omega), if_pos (by omega), if_pos (by omega)]
    refine w_aload_n dX9_feed_18 rfl rfl ?_
    refine w_getf fX9_29 dX9_feed_19 o_o rfl ?_
    refine w_iload_n dX9_feed_22 rfl rfl ?_
    refine wc_Vv (Z := mX7_take) (As := [_]) (c7_take b1 (by omega)) RD0 rfl kX7_take lX9_65 iX7_take vX7_take dX9_feed_23 rfl rfl rfl (Nat.le_of_ble_eq_true rfl) ⟨Nat.le_of_ble_eq_true rfl, Nat.le_of_ble_eq_true rfl⟩ ?_
    refine w_aload_n dX9_feed_26 rfl rfl ?_
    refine w_getf fX9_29 dX9_feed_27 o_o rfl ?_
    refine w_iload_n dX9_feed_30 rfl rfl ?_
    refine wc_Vv (Z := mX7_take) (As := [_]) (c7_take (n := n + 4) u1_s (by omega)) RD0 rfl kX7_take lX9_65 iX7_take vX7_take dX9_feed_31 rfl rfl rfl (Nat.le_of_ble_eq_true rfl) ⟨Nat.le_of_ble_eq_true rfl, Nat.le_of_ble_eq_true rfl⟩ ?_
    refine w_aload_n dX9_feed_34 rfl rfl ?_
    refine w_getf fX9_29 dX9_feed_35 o_o rfl ?_
    refine w_iload_n dX9_feed_38 rfl rfl ?_
    refine wc_Vv (Z := mX7_take) (As := [_]) (c7_take (n := n + 4 + 4) u1_s (by omega)) RD0 rfl kX7_take lX9_65 iX7_take vX7_take dX9_feed_39 rfl rfl rfl (Nat.le_of_ble_eq_true rfl) ⟨Nat.le_of_ble_eq_true rfl, Nat.le_of_ble_eq_true rfl⟩ ?_
    refine w_aload_n dX9_feed_42 rfl rfl ?_
    refine w_getf fX9_29 dX9_feed_43 o_o rfl ?_
    refine w_iload dX9_feed_46 rfl ?_
    refine wc_Vv (Z := mX7_take) (As := [_]) (c7_take (n := n + 4 + 4 + 4) u1_s (by omega)) RD0 rfl kX7_take lX9_65 iX7_take vX7_take dX9_feed_48 rfl rfl rfl (Nat.le_of_ble_eq_true rfl) ⟨Nat.le_of_ble_eq_true rfl, Nat.le_of_ble_eq_true rfl⟩ ?_
    refine w_aload_n dX9_feed_51 rfl rfl ?_
    refine w_getf fX9_29 dX9_feed_52 o_o rfl ?_
    refine w_iload dX9_feed_55 rfl ?_
    refine wc_Vv (Z := mX7_take) (As := [_]) (c7_take (n := n + 4 + 4 + 4 + 4) u1_s (by omega)) RD0 rfl kX7_take lX9_65 iX7_take vX7_take dX9_feed_57 rfl rfl rfl (Nat.le_of_ble_eq_true rfl) ⟨Nat.le_of_ble_eq_true rfl, Nat.le_of_ble_eq_true rfl⟩ ?_
    rw [u1_s, u1_s, u1_s, u1_s, u1_u1, u1_u1, u1_u1, u1_u1, u1_u1, u1_u1, u1_u1, u1_u1, r2]
    have ef : fourT (fourT (fourT (fourT (fourT tp n a) (n + 4) b) (n + 4 + 4) c) (n + 4 + 4 + 4) d) (n + 4 + 4 + 4 + 4) e = feedT tp n a b c d e := rfl
    rw [ef]
    refine w_aload_n dX9_feed_60 rfl rfl ?_
    refine w_getf fX9_29 dX9_feed_61 o_o rfl ?_
    refine w_getf fX9_61 dX9_feed_64 RD0 rfl ?_
    refine x_iret rfl rfl dX9_feed_67 ⟨by rw [u1_s], frm_rd, L, R, C, ow, cd, cb, c9, ?_, hSb.rd a2⟩
    have hTf : TB (feedT tp n a b c d e) := four_tb (four_tb (four_tb (four_tb (four_tb uT))))
    have := hRs.rd (da := u1 ba 1 (feedT tp n a b c d e)) (di := u1 bi 1 ((n + 4 + 4 + 4 + 4 + 4 : Nat) : Int)) (by rw [u1_s]; exact hTf) (by rw [u1_s]; omega) (by rw [u1_n (by decide), r4]; exact uk5) (by rw [u1_n (by decide), r5]; exact uk6)
    rw [u1_s, u1_s, u1_n (by decide), u1_n (by decide), r4, r5] at this
    exact this
theorem x_end {o : Nat} {h : HP} {cap : Nat → Nat} {A im tx tp : Nat → Int} {f4 f5 f6 : Int} {L R C : Nat} {z : Int} (H : CLS o h cap A im tx tp f4 f5 f6 L R C) (hz : ok32 z) : sp mX9_end [.ref o, .int (zI z)] h 0 0 (XPT o h cap (some (.int (zI (if 0 ≤ z ∧ z ≤ f4 then z else -1)))) A im tx (tp) (if 0 ≤ z ∧ z ≤ f4 then z else f4) f5 f6) := by
  obtain ⟨ow, cd, cb, c, hRs, hSb⟩ := id H
  obtain ⟨⟨a1, a2⟩, -, o_o0, ⟨⟨txs, o_h0, t2, t3, t4⟩, f, sc, a6, a6b⟩, -, ⟨ba, bi, r1, r2, r3, r4, r5⟩, -, -, -, ⟨⟨u1', u2, u3⟩, u4, u5, uT, uf, uk5, uk6⟩⟩ := id hRs
  have hself : RDH (o + 32) ba bi h = h := RDP.self r1
  have o_o : ∀ {ba : Nat → Nat → Int} {bi : Nat → Int}, (RDH (o + 32) ba bi h).2 o = some (.inr (8, xfs o)) := RDo (by omega) o_o0
  have o_h : ∀ {ba : Nat → Nat → Int} {bi : Nat → Int}, (RDH (o + 32) ba bi h).2 (o + 8) = some (.inr (4, hfs (o + 8) (A 0))) := RDo (by omega) o_h0
  have no : ¬ (0 ≤ z ∧ z ≤ f4) → wp mX9_end 15 [.ref o, .int (zI z)] [] (RDH (o + 32) ba bi h) 0 0 (XPT o h cap (some (.int (zI (if 0 ≤ z ∧ z ≤ f4 then z else -1)))) A im tx (tp) (if 0 ≤ z ∧ z ≤ f4 then z else f4) f5 f6) := by
    intro hn
    rw [if_neg hn, if_neg hn]
    refine w_iconst dX9_end_15 ?_
    exact x_iret rfl rfl dX9_end_16 ⟨rfl, frm_rd, L, R, C, by rw [hself]; exact H⟩
  refine sp_wp rfl (lv := [_, _]) rfl (Nat.le_of_ble_eq_true rfl) ?_
  refine w_cast rfl rfl hself.symm ?_
  refine w_iload_n dX9_end_0 rfl rfl ?_
  refine w_if_lt 15 dX9_end_1 (by decide) (by first | assumption | (unfold ok32 at *; omega)) (fun w1 => ?_) (fun w1 => ?_)
  · exact no (by omega)
  refine w_iload_n dX9_end_4 rfl rfl ?_
  refine w_aload_n dX9_end_5 rfl rfl ?_
  refine w_getf fX9_29 dX9_end_6 o_o rfl ?_
  refine w_getf fX9_61 dX9_end_9 RD0 rfl ?_
  rw [r3]
  refine w_icmp_le 17 dX9_end_12 (by decide) hz (by unfold ok32; omega) (fun w2 => ?_) (fun w2 => no (by omega))
  rw [if_pos (by omega), if_pos (by omega)]
  refine w_aload_n dX9_end_17 rfl rfl ?_
  refine w_getf fX9_29 dX9_end_18 o_o rfl ?_
  refine w_iload_n dX9_end_21 rfl rfl ?_
  refine rd_pf1 fX9_61 dX9_end_22 ?_
  refine w_iload_n dX9_end_25 rfl rfl ?_
  refine x_iret rfl rfl dX9_end_26 ⟨rfl, frm_rd, L, R, C, ow, cd, cb, c, ?_, hSb.rd a2⟩
  have := hRs.rd (da := ba) (di := u1 bi 1 z) (by rw [r2]; exact uT) (by rw [u1_s]; omega) (by rw [u1_n (by decide), r4]; exact uk5) (by rw [u1_n (by decide), r5]; exact uk6)
  rw [u1_s, u1_n (by decide), u1_n (by decide), r2, r4, r5] at this
  exact this
theorem x_fault {o : Nat} {h : HP} {cap : Nat → Nat} {A im tx tp : Nat → Int} {f4 f5 f6 : Int} {L R C : Nat} {z : Int} (H : CLS o h cap A im tx tp f4 f5 f6 L R C) (hz : ok32 z) : sp mX9_fault [.ref o, .int (zI z)] h 0 0 (pd (some (.int (zI (if z = 0 then f5 else if z = 1 then f6 else -1)))) h) := by
  obtain ⟨ow, cd, cb, c, hRs, hSb⟩ := id H
  obtain ⟨⟨a1, a2⟩, -, o_o0, ⟨⟨txs, o_h0, t2, t3, t4⟩, f, sc, a6, a6b⟩, -, ⟨ba, bi, r1, r2, r3, r4, r5⟩, -, -, -, ⟨⟨u1', u2, u3⟩, u4, u5, uT, uf, uk5, uk6⟩⟩ := id hRs
  have hself : RDH (o + 32) ba bi h = h := RDP.self r1
  have o_o : ∀ {ba : Nat → Nat → Int} {bi : Nat → Int}, (RDH (o + 32) ba bi h).2 o = some (.inr (8, xfs o)) := RDo (by omega) o_o0
  have o_h : ∀ {ba : Nat → Nat → Int} {bi : Nat → Int}, (RDH (o + 32) ba bi h).2 (o + 8) = some (.inr (4, hfs (o + 8) (A 0))) := RDo (by omega) o_h0
  refine sp_wp rfl (lv := [_, _]) rfl (Nat.le_of_ble_eq_true rfl) ?_
  refine w_cast rfl rfl hself.symm ?_
  refine w_iload_n dX9_fault_0 rfl rfl ?_
  by_cases h0 : z = 0
  · subst h0
    rw [if_pos rfl]
    refine w_lsw 28 dX9_fault_1 (by decide) hz rfl (by decide) ?_
    refine w_aload_n dX9_fault_28 rfl rfl ?_
    refine w_getf fX9_29 dX9_fault_29 o_o rfl ?_
    refine w_getf fX9_80 dX9_fault_32 RD0 rfl ?_
    rw [r4]
    exact x_iret rfl rfl dX9_fault_35 ⟨rfl, hself⟩
  · by_cases h1 : z = 1
    · subst h1
      rw [if_neg (by decide), if_pos rfl]
      refine w_lsw 36 dX9_fault_1 (by decide) hz rfl (by decide) ?_
      refine w_aload_n dX9_fault_36 rfl rfl ?_
      refine w_getf fX9_29 dX9_fault_37 o_o rfl ?_
      refine w_getf fX9_83 dX9_fault_40 RD0 rfl ?_
      rw [r5]
      exact x_iret rfl rfl dX9_fault_43 ⟨rfl, hself⟩
    · rw [if_neg h0, if_neg h1]
      refine w_lsw 44 (off := 43) dX9_fault_1 (by decide) hz (by simp [Op.lookupswitch.offset, Ne.symm h0, Ne.symm h1]) (by decide) ?_
      refine w_iconst dX9_fault_44 ?_
      exact x_iret rfl rfl dX9_fault_45 ⟨rfl, hself⟩
theorem x_about {o : Nat} {h : HP} {cap : Nat → Nat} {A im tx tp : Nat → Int} {f4 f5 f6 : Int} {L R C : Nat} {z : Int} (H : CLS o h cap A im tx tp f4 f5 f6 L R C) (hz : ok32 z) : sp mX9_about [.ref o, .int (zI z)] h 0 0 (pd (some (.int (zI (if z = 0 then A 0 else if z = 1 then A 1 else if z = 2 then f4 else if z = 3 then ((fac R : Nat) : Int) else -2)))) h) := by
  obtain ⟨ow, cd, cb, c, hRs, sa, si, sl, b1, b2, b3, b4, b5⟩ := id H
  have hX := hRs.vx b1 b3 b4 b5
  have hW := hX.vw
  have hT := hRs.top b5
  have hTk := kpA_top hT
  obtain ⟨hI, hV, hSN, hA2⟩ := id hT
  obtain ⟨v1, v2, v3, v4, v5, v6, v7⟩ := id hV
  have hLC := mulLe (a := L) (b := C) (x := 6) (y := 8) (by omega) (by omega)
  have hLR := mulLe (a := L) (b := R) (x := 6) (y := 4) (by omega) (by omega)
  have hLCi : (L : Int) * C = ((L * C : Nat) : Int) := by push_cast; rfl
  have hoo := hRs.1.1
  obtain ⟨o_o, ⟨nh, o_h⟩, -⟩ := id hX
  have o_n : h.2 (o + 8 + 4) = some (.inr (7, sfs (o + 8 + 4) c si sl)) := b1 0 (by omega)
  obtain ⟨-, -, -, ⟨⟨txs, o_h2, -⟩, f, sc, a6, a6b⟩, -, ⟨ba, bi, r1, r2, r3, r4, r5⟩, -⟩ := id hRs
  obtain ⟨ad, f7, f8, f10, f9, f11, rk, cr, -, h6, h7, o_c, r70, r80, r90, r100, r110, e7', e8', e9, e10, hRD, p0, p7, p8, p9, p10, p11⟩ := id b4
  have h1 : 0 ≤ A 1 ∧ A 1 ≤ 20 := hI 1
  refine sp_wp rfl (lv := [_, _]) rfl (Nat.le_of_ble_eq_true rfl) ?_
  refine w_iload_n dX9_about_0 rfl rfl ?_
  by_cases hq : z < 0 ∨ 3 < z
  · refine w_tsw_out 76 dX9_about_1 hz hq (by decide) ?_
    rw [if_neg (by omega), if_neg (by omega), if_neg (by omega), if_neg (by omega)]
    refine w_bipush dX9_about_76 (by decide) ?_
    exact x_iret rfl rfl dX9_about_78 ⟨rfl, rfl⟩
  · rcases (show z = 0 ∨ z = 1 ∨ z = 2 ∨ z = 3 by omega) with e | e | e | e <;> subst e
    · refine w_tsw_in 32 dX9_about_1 hz (by decide) (by decide) rfl (by decide) ?_
      rw [if_pos rfl]
      refine w_aload_n dX9_about_32 rfl rfl ?_
      refine w_getf fX9_19 dX9_about_33 o_o rfl ?_
      refine w_getf fX9_69 dX9_about_36 o_h2 rfl ?_
      exact x_iret rfl rfl dX9_about_39 ⟨rfl, rfl⟩
    · refine w_tsw_in 40 dX9_about_1 hz (by decide) (by decide) rfl (by decide) ?_
      rw [if_neg (by decide), if_pos rfl]
      refine w_aload_n dX9_about_40 rfl rfl ?_
      refine w_getf fX9_19 dX9_about_41 o_o rfl ?_
      refine w_getf fX9_173 dX9_about_44 o_h rfl ?_
      refine w_getf fX9_183 dX9_about_47 a6.1 rfl ?_
      refine x_iret rfl rfl dX9_about_50 ⟨?_, rfl⟩
      rw [show (((A 1).toNat : Nat) : Int) = A 1 by omega]
    · refine w_tsw_in 51 dX9_about_1 hz (by decide) (by decide) rfl (by decide) ?_
      rw [if_neg (by decide), if_neg (by decide), if_pos rfl, ← r3]
      refine w_aload_n dX9_about_51 rfl rfl ?_
      refine w_getf fX9_29 dX9_about_52 o_o rfl ?_
      refine w_getf fX9_61 dX9_about_55 (r1 0 (by omega)) rfl ?_
      exact x_iret rfl rfl dX9_about_58 ⟨rfl, rfl⟩
    · refine w_tsw_in 59 dX9_about_1 hz (by decide) (by decide) rfl (by decide) ?_
      rw [if_neg (by decide), if_neg (by decide), if_neg (by decide), if_pos rfl]
      refine w_aload_n dX9_about_59 rfl rfl ?_
      refine w_getf fX9_19 dX9_about_60 o_o rfl ?_
      refine w_getf fX9_89 dX9_about_63 o_h rfl ?_
      refine w_getf fX9_98 dX9_about_66 o_n rfl ?_
      refine w_getf fX9_126 dX9_about_69 o_c rfl ?_
      refine wc_S (Z := mX9_countOrders) (As := [_]) (c9_countOrders (by omega)) kX9_countOrders lX9_340 sX9_countOrders dX9_about_72 rfl rfl rfl (Nat.le_of_ble_eq_true rfl) ⟨Nat.le_of_ble_eq_true rfl, Nat.le_of_ble_eq_true rfl⟩ ?_
      exact x_iret rfl rfl dX9_about_75 ⟨rfl, rfl⟩
theorem ud_bk {A : Nat → Int} {i : Nat} : bkA (udA A) i = bkA A i := funext fun k => by
  unfold bkA udA
  rw [fillR_n (by omega), fillR_n (by omega), u1_n (by omega), u1_n (by omega)]
theorem ud_now {A : Nat → Int} {k : Nat} (h1 : 1 ≤ A 1 ∧ A 1 ≤ 20) (h2 : 0 ≤ A 2) (k1 : 3 ≤ k) (k2 : k < 433) : udA A k = bkA A ((A 1).toNat - 1) k := by
  unfold udA bkA
  rw [show k = 3 + (k - 3) by omega, fillR_i (by omega), show (A 2 + A 1 - 1).toNat = (A 2).toNat + ((A 1).toNat - 1) by omega, show 3 + (k - 3) - 3 = k - 3 by omega]
set_option maxRecDepth 4000 in
theorem x_undo {o : Nat} {h : HP} {cap : Nat → Nat} {A im tx tp : Nat → Int} {f4 f5 f6 : Int} {L R C : Nat} (H : CLS o h cap A im tx tp f4 f5 f6 L R C) : sp mX9_undo [.ref o] h 0 0 (XPE o h cap im tx tp f4 f5 f6 (some (.int (zI (if A 1 = 0 then -1 else A 1 - 1)))) (if A 1 = 0 then A else udA A)) := by
  obtain ⟨ow, cd, cb, c, hRs, sa, si, sl, b1, b2, b3, b4, b5⟩ := id H
  have hX := hRs.vx b1 b3 b4 b5
  have hW := hX.vw
  have hT := hRs.top b5
  have hTk := kpA_top hT
  obtain ⟨hI, hV, hSN, hA2⟩ := id hT
  obtain ⟨v1, v2, v3, v4, v5, v6, v7⟩ := id hV
  have hLC := mulLe (a := L) (b := C) (x := 6) (y := 8) (by omega) (by omega)
  have hLR := mulLe (a := L) (b := R) (x := 6) (y := 4) (by omega) (by omega)
  have hLCi : (L : Int) * C = ((L * C : Nat) : Int) := by push_cast; rfl
  have hoo := hRs.1.1
  obtain ⟨o_o, ⟨nh, o_h⟩, -⟩ := id hX
  have o_n : h.2 (o + 8 + 4) = some (.inr (7, sfs (o + 8 + 4) c si sl)) := b1 0 (by omega)
  obtain ⟨⟨a1, a2⟩, a3, a4, ⟨⟨txs, o_h2, t2, t3, t4⟩, f, sc, a6, a6b⟩, ⟨a7, a8, L', R', C', c', a9⟩, ⟨ba, bi, r1, r2⟩, ⟨pc, psa, psi, psl, p1⟩, a10, ⟨⟨bl, bi2, bq, w1⟩, fa, fb, w2⟩, a11⟩ := id hRs
  have a5 : HTX h ow cd (o + 8) (A 0) tx := ⟨txs, o_h2, t2, t3, t4⟩
  have h1 : 0 ≤ A 1 ∧ A 1 ≤ 20 := hI 1
  have h2 : 0 ≤ A 2 := (hI 2).1
  have z0 : ∀ x, stZ o x → ow x < 100 := fun x hx => by rw [a2 x hx]; omega
  have ex : ∃ (a c2 : Nat) (sb : Nat → Nat → Int) (sj : Nat → Int) (sm : Nat → BitVec 64) (L2 R2 C2 : Nat), 1 ≤ (A 1).toNat → (sc ((f + (A 1).toNat - 1) % 20) = some a ∧ SCP h a c2 sb sj sm) ∧ cd c2 ∧ REL sb sj sm (bkA A ((A 1).toNat - 1)) L2 R2 C2 ∧ CDQ (CK ow h) h c2 (bkA A ((A 1).toNat - 1)) L2 R2 C2 ∧ BOK (bkA A ((A 1).toNat - 1)) L2 R2 C2 := by
    by_cases hn : 1 ≤ (A 1).toNat
    · obtain ⟨a, c2, L2, R2, C2, e1, sb, sj, sm, e2, e3, e4, e5, e6⟩ := a6b ((A 1).toNat - 1) (by omega)
      refine ⟨a, c2, sb, sj, sm, L2, R2, C2, fun _ => ⟨⟨?_, e2⟩, e3, e4, e5, e6⟩⟩
      rw [show f + (A 1).toNat - 1 = f + ((A 1).toNat - 1) by omega]
      exact e1
    · exact ⟨0, 0, sa, si, sl, 0, 0, 0, fun z => absurd z hn⟩
  obtain ⟨a, c2, sb, sj, sm, L2, R2, C2, hex⟩ := ex
  have tb := c6_takeBack (a := a) (c2 := c2) (sa := sb) (si := sj) (sl := sm) a6 b1 (fun j hj => z0 _ (by unfold stZ; omega)) ⟨by unfold outS; omega, by unfold outS; omega⟩ (fun hn => (hex hn).1)
  refine sp_wp rfl (lv := [_]) rfl (Nat.le_of_ble_eq_true rfl) ?_
  refine w_aload_n dX9_undo_0 rfl rfl ?_
  refine w_getf fX9_19 dX9_undo_1 o_o rfl ?_
  refine w_getf fX9_173 dX9_undo_4 o_h rfl ?_
  refine w_aload_n dX9_undo_7 rfl rfl ?_
  refine w_getf fX9_19 dX9_undo_8 o_o rfl ?_
  refine w_getf fX9_89 dX9_undo_11 o_h rfl ?_
  refine w_callV (Z := mX6_takeBack) (As := [_]) tb a6.1 rfl kX6_takeBack lX9_177 iX6_takeBack vX6_takeBack dX9_undo_14 rfl rfl rfl (Nat.le_of_ble_eq_true rfl) ⟨Nat.le_of_ble_eq_true rfl, Nat.le_of_ble_eq_true rfl⟩ (by omega) (by omega) (fun v h' q => ?_)
  obtain ⟨rfl, q1, q2⟩ := q
  refine w_ifb_eq 33 dX9_undo_17 (by decide) (fun hn => ?_) (fun hn => ?_)
  · have e0 : (A 1).toNat = 0 := by omega
    have e1 : A 1 = 0 := by omega
    rw [q1 e0, if_pos e1, if_pos e1]
    refine w_iconst dX9_undo_33 ?_
    exact x_iret rfl rfl dX9_undo_34 ⟨rfl, FRM.refl, L, R, C, H⟩
  · have e1 : ¬ A 1 = 0 := by omega
    obtain ⟨sz, hcp, hh⟩ := q2 hn
    obtain ⟨-, x3, x4, x5, x6⟩ := hex hn
    rw [if_neg e1, if_neg e1]
    obtain ⟨m, hm⟩ : ∃ m, (A 1).toNat - 1 = m := ⟨_, rfl⟩
    rw [hm] at hh x4 x5 x6
    have hud : ∀ k, 3 ≤ k → k < 433 → udA A k = bkA A m k := fun k k1 k2 => by rw [← hm]; exact ud_now (by omega) h2 k1 k2
    have hs : ∀ x, x ≠ o + 8 + 1 → outS (o + 8 + 4) x → h'.2 x = h.2 x := fun x n1 n2 => by
      rw [hh]
      exact (up_n n1).trans (SHn n2)
    have hp9 : h'.2 (o + 8 + 1) = some (.inr (5, pfs (o + 8 + 1) (f : Int) (m : Int))) := by rw [hh]; exact up_s
    have hsn : SCP h' (o + 8 + 4) c2 sz sj sm := fun j hj => by
      rw [hh]
      exact (up_n (by omega)).trans (SHg hj)
    have e1' : h'.1 = h.1 := by rw [hh]
    have hn1 : ∀ x, 1 ≤ ow x → h'.2 x = h.2 x := fun x ho => hs x (fun e => by have := a2 x (by unfold stZ; omega); omega) (fun z => by have := a2 x (by unfold stZ; omega); omega)
    have g1 : h.1 ≤ h'.1 := by omega
    have u0 : udA A 0 = A 0 := by unfold udA; rw [fillR_n (by omega), u1_n (by omega)]
    have u1n : udA A 1 = A 1 - 1 := by unfold udA; rw [fillR_n (by omega), u1_s]
    have u2n : udA A 2 = A 2 := by unfold udA; rw [fillR_n (by omega), u1_n (by omega)]
    have hIu : INV (udA A) := fun k => by
      by_cases hk : 3 ≤ k ∧ k < 433
      · rw [hud k hk.1 hk.2]; exact x6.1 k hk.1 hk.2
      · by_cases hk1 : k = 1
        · rw [hk1, u1n]; exact ⟨show (0 : Int) ≤ A 1 - 1 by omega, show A 1 - 1 ≤ 20 by omega⟩
        · have : udA A k = A k := by unfold udA; rw [fillR_n (by omega), u1_n hk1]
          rw [this]; exact hI k
    have x4' := (x4.copy hcp x6.2.1).same x6.2.1 hud
    have x6' := x6.same hud
    have x5' : CDQ (CK ow h') h' c2 (udA A) L2 R2 C2 := (cdq_go x5 g1 (fun _ _ => rfl) (fun x _ ho => hn1 x (by omega))).same (fun k k1 k2 _ => hud k k1 (by omega))
    have o_h' : h'.2 (o + 8) = some (.inr (4, hfs (o + 8) (A 0))) := (hs _ (by omega) (by unfold outS; omega)).trans o_h2
    have o_o' : h'.2 o = some (.inr (8, xfs o)) := (hs _ (by omega) (by unfold outS; omega)).trans a4
    refine w_aload_n dX9_undo_20 rfl rfl ?_
    refine w_getf fX9_19 dX9_undo_21 o_o' rfl ?_
    refine w_getf fX9_173 dX9_undo_24 o_h' rfl ?_
    refine w_getf fX9_183 dX9_undo_27 hp9 rfl ?_
    refine w_goto 34 dX9_undo_30 (by decide) ?_
    have st : ∀ x, x ≠ o + 8 + 1 → ¬ (o + 12 ≤ x ∧ x ≤ o + 19) → h'.2 x = h.2 x := fun x n1 n2 => hs x n1 (by unfold outS; omega)
    refine x_iret rfl rfl dX9_undo_34 ⟨by rw [show (m : Int) = A 1 - 1 by omega], ⟨g1, fun x hx => st x (by omega) (by omega)⟩, L2, R2, C2, ow, cd, cb, c2, ⟨⟨by omega, a2⟩, a3.go g1 (fun _ _ => rfl) (fun x _ ho => hn1 x (by omega)), o_o', ⟨?_, f, sc, ?_, fun i hi => ?_⟩, ⟨?_, ?_, L', R', C', c', ?_⟩, ⟨ba, bi, fun j hj => (st _ (by omega) (by omega)).trans (r1 j hj), r2⟩, ⟨pc, psa, psi, psl, fun j hj => (st _ (by omega) (by omega)).trans (p1 j hj)⟩, ?_, ⟨⟨bl, bi2, bq, fun j hj => (st _ (by omega) (by omega)).trans (w1 j hj)⟩, fa, fb, fun j hj => (st _ (by omega) (by omega)).trans (w2 j hj)⟩, ?_⟩, sz, sj, sm, hsn, x3, x4', x5', x6'⟩
    · rw [u0]
      exact a5.go g1 (fun _ _ => rfl) (fun x _ ho => hn1 x (by omega)) ⟨st _ (by omega) (by omega), st _ (by omega) (by omega)⟩ (fun _ z => z)
    · obtain ⟨y1, y2, y3, y4, ⟨y5, y6, y7⟩, y8⟩ := id a6
      rw [u1n, show (A 1 - 1).toNat = m by omega]
      refine ⟨hp9, (st _ (by omega) (by omega)).trans y2, y3, by omega, ⟨by omega, y6, y7⟩, fun s hs' ax hax => ?_⟩
      obtain ⟨d1, d2, cx, sx, ix, lx, d3⟩ := y8 s hs' ax hax
      exact ⟨by omega, d2, cx, sx, ix, lx, fun j hj => (hn1 _ (by rw [d2 j hj]; omega)).trans (d3 j hj)⟩
    · rw [u1n] at hi
      obtain ⟨ax, cx, Lx, Rx, Cx, d1, d2⟩ := a6b i (by omega)
      have hsx := a6.2.2.2.2.2 ((f + i) % 20) (Nat.mod_lt _ (by omega)) ax d1
      refine ⟨ax, cx, Lx, Rx, Cx, d1, ?_⟩
      rw [ud_bk]
      exact d2.go g1 (fun _ _ => rfl) (fun x _ ho => hn1 x (by omega)) (fun j hj => hn1 _ (by rw [hsx.2.1 j hj]; omega))
    · exact a7.go g1 (fun _ _ => rfl) (fun x _ ho => hn1 x (by omega)) ⟨st _ (by omega) (by omega), st _ (by omega) (by omega)⟩ (fun _ z => z)
    · exact a8.go g1 (fun _ _ => rfl) (fun x _ ho => hn1 x (by omega)) ⟨st _ (by omega) (by omega), st _ (by omega) (by omega)⟩ (fun _ z => z) rfl (fun _ _ => rfl)
    · exact a9.go g1 (fun _ _ => rfl) (fun x _ ho => hn1 x (by omega)) (fun j hj => st _ (by omega) (by omega))
    · exact a10.go g1 (fun _ _ => rfl) (fun x _ ho => hn1 x (by omega)) (fun x hx2 => st x (by omega) (by omega)) (fun c hc => ⟨hc, rfl⟩)
    · obtain ⟨⟨y1, y2, y3⟩, y4, y5⟩ := a11
      exact ⟨⟨hIu, by rw [u0]; exact y2, by rw [u2n]; exact y3⟩, by rw [u0]; exact y4, by rw [u0]; exact y5⟩

