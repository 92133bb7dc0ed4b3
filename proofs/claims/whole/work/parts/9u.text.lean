/-! the face: a text is read -/
theorem rdi_of {tp tx : Nat → Int} {n t : Nat} (hn : n ≤ 300) (hT : TB tp) (ht : t < 4) (hX : TXO tx t) : RDI n t tx (rdT tp n (37 * t) tx) := (c_readText (r := 0) (A := fun _ => (t : Int)) (ia := fun k => if k = 3 then tx else tp) (la := fun _ _ => 0#64) (fi := fun _ => (n : Int)) (fl := fun _ => 0#64) (h0 := (0, fun _ => none)) (n := n) (t := t) rfl hn hT rfl ht hX).1
theorem rds_of {tp tx : Nat → Int} {n t : Nat} (hT : TB tp) (ht : t < 4) (hX : TXO tx t) : (rdT tp n (37 * t) tx).1 = 0 → SLX (rdT tp n (37 * t) tx).2.1 (37 * t) := by
  obtain ⟨p0, -, p1⟩ := rd0_ok hX ht
  obtain ⟨r0, r1, r3, r4⟩ := rd0_at (X := tx) (x := 37 * t)
  exact rdL_sl hT ht 302 0 _ _ 0 0 p0 (nt_lxi hT (Nat.zero_le n)).1 ⟨by omega, by omega⟩ ⟨by omega, by omega⟩ (fun r c _ _ z _ => by rw [r1] at z; omega) (fun _ => r1)
theorem txB_c {X Y : Nat → Int} {i k : Nat} (hs : ∀ j, j < 37 * i + 37 → Y j = X j) (h1 : 3 ≤ k) (h2 : k < 46) : txB Y (37 * i) k = txB X (37 * i) k := by
  unfold txB
  split
  · exact hs _ (by omega)
  · exact hs _ (by omega)
theorem HTX.tx {h : HP} {ow : Nat → Nat} {cd : Nat → Prop} {hd : Nat} {n : Int} {tx ty : Nat → Int} (H : HTX h ow cd hd n tx) (hs : ∀ i : Nat, (i : Int) < n → ∀ j, j < 37 * i + 37 → ty j = tx j) : HTX h ow cd hd n ty := by
  obtain ⟨txs, a1, a2, a3, a4⟩ := H
  refine ⟨txs, a1, a2, a3, fun i hi => ?_⟩
  obtain ⟨b0, c, L, R, C, b1, b2, b3⟩ := a4 i hi
  exact ⟨b0, c, L, R, C, b1, b2.same (fun k k1 k2 _ => txB_c (hs i hi) k1 k2), b3.same b2.vc (fun k k1 k2 => txB_c (hs i hi) (by omega) k2)⟩
theorem REST.tx {o : Nat} {h : HP} {cap : Nat → Nat} {A im tx tp : Nat → Int} {f4 f5 f6 : Int} {ow : Nat → Nat} {cd : Nat → Prop} {cb : Nat → CBK} {ty : Nat → Int} {t : Nat} (H : REST o h cap A im tx tp f4 f5 f6 ow cd cb) (hA : A 0 = (t : Int)) (hs : ∀ j, j < 37 * t → ty j = tx j) (hX : TXO ty t) : REST o h cap A im ty tp f4 f5 f6 ow cd cb := by
  obtain ⟨a1, a3, a4, ⟨a5, a6⟩, ⟨a7, a8⟩, r, p, a10, w, ⟨⟨u1', u2, u3⟩, ⟨u4, u5, u6⟩, u7, u8⟩⟩ := H
  exact ⟨a1, a3, a4, ⟨a5.tx (fun i hi j hj => hs j (by omega)), a6⟩, ⟨a7.tx (fun i hi j hj => hs j (by omega)), a8⟩, r, p, a10, w, ⟨u1', u2, u3⟩, ⟨u4, u5, u6⟩, by rw [hA]; exact hX, u8⟩
theorem REST.txt {o : Nat} {h : HP} {cap : Nat → Nat} {A im tx tp : Nat → Int} {f4 f5 f6 : Int} {ow : Nat → Nat} {cd : Nat → Prop} {cb : Nat → CBK} {ty : Nat → Int} {t c L R C : Nat} {txs : Nat → Option Nat} (H : REST o h cap A im tx tp f4 f5 f6 ow cd cb) (hA : A 0 = (t : Int)) (ht : t < 4) (hc : cd c) (q : CDQ (CK ow h) h c (txB ty (37 * t)) L R C) (sl : SLT (txB ty (37 * t)) L R C) (hs : ∀ j, j < 37 * t → ty j = tx j) (hX : TXO ty (t + 1)) (e : h.2 (o + 8 + 3) = some (aR 2 4 txs)) : REST o (h.1, up (up h.2 (o + 8 + 3) (aR 2 4 (u1 txs t (some c)))) (o + 8) (.inr (4, hfs (o + 8) ((t : Int) + 1)))) cap (u1 A 0 ((t : Int) + 1)) im ty tp f4 f5 f6 ow cd cb := by
  obtain ⟨⟨a1, a2⟩, a3, a4, ⟨⟨txo, o_h2, t2, t3, t4⟩, a6⟩, ⟨a7, a8, L', R', C', c', a9⟩, ⟨ba, bi, r1, r2⟩, ⟨pc, psa, psi, psl, p1⟩, a10, ⟨⟨bl, bi2, bq, w1⟩, fa, fb, w2⟩, a11⟩ := H
  obtain ⟨⟨u1', u2, u3⟩, ⟨u4, u5, u6⟩, u7, u8⟩ := a11
  have et : txo = txs := by
    rw [t2] at e
    have e2 := Sum.inl.inj (Option.some.inj e)
    have e3 := (Prod.mk.inj (Prod.mk.inj e2).2).2
    exact Sum.inr.inj (Sum.inr.inj (Sum.inr.inj (Sum.inr.inj e3)))
  subst et
  obtain ⟨h', hh⟩ : ∃ h' : HP, ((h.1, up (up h.2 (o + 8 + 3) (aR 2 4 (u1 txo t (some c)))) (o + 8) (.inr (4, hfs (o + 8) ((t : Int) + 1)))) : HP) = h' := ⟨_, rfl⟩
  rw [hh]
  have n3 : ∀ x, x ≠ o + 8 → x ≠ o + 8 + 3 → h'.2 x = h.2 x := fun x n1 n2 => by rw [← hh]; exact (up_n n1).trans (up_n n2)
  have e1 : h'.1 = h.1 := by rw [← hh]
  have g1 : h.1 ≤ h'.1 := by omega
  have hn : ∀ x, 1 ≤ ow x → h'.2 x = h.2 x := fun x ho => n3 x (fun z => by have := a2 x (by unfold stZ; omega); omega) (fun z => by have := a2 x (by unfold stZ; omega); omega)
  have b0 : ∀ k, k ≠ 0 → u1 A 0 ((t : Int) + 1) k = A k := fun k hk => u1_n hk
  have hb : ∀ i, bkA (u1 A 0 ((t : Int) + 1)) i = bkA A i := fun i => funext fun k => by
    unfold bkA
    rw [b0 2 (by omega), b0 _ (by omega)]
  refine ⟨⟨by omega, a2⟩, a3.go g1 (fun _ _ => rfl) (fun x _ ho => hn x (by omega)), (n3 o (by omega) (by omega)).trans a4, ⟨⟨u1 txo t (some c), ?_, ?_, fun i x hi hx => ?_, fun i hi => ?_⟩, ?_⟩, ⟨?_, ?_, L', R', C', c', ?_⟩, ⟨ba, bi, fun j hj => (n3 _ (by omega) (by omega)).trans (r1 j hj), r2⟩, ⟨pc, psa, psi, psl, fun j hj => (n3 _ (by omega) (by omega)).trans (p1 j hj)⟩, ?_, ⟨⟨bl, bi2, bq, fun j hj => (n3 _ (by omega) (by omega)).trans (w1 j hj)⟩, fa, fb, fun j hj => (n3 _ (by omega) (by omega)).trans (w2 j hj)⟩, ⟨u1'.put (show (0 : Int) ≤ (t : Int) + 1 ∧ (t : Int) + 1 ≤ 20 by omega), by rw [u1_s]; omega, by rw [b0 2 (by omega)]; exact u3⟩, ⟨u4, u5, by rw [u1_s]; omega⟩, by rw [u1_s, show ((t : Int) + 1).toNat = t + 1 by omega]; exact hX, u8⟩
  · rw [u1_s, ← hh]; exact up_s
  · rw [← hh]; exact (up_n (by omega)).trans up_s
  · by_cases hit : i = t
    · rw [hit, u1_s] at hx
      cases hx
      exact hc
    · rw [u1_n hit] at hx
      exact t3 i x hi hx
  · rw [u1_s] at hi
    by_cases hit : i = t
    · subst hit
      exact ⟨ht, c, L, R, C, u1_s, cdq_go q g1 (fun _ _ => rfl) (fun x _ ho => hn x (by omega)), sl⟩
    · obtain ⟨d0, cx, Lx, Rx, Cx, d1, d2, d3⟩ := t4 i (by omega)
      exact ⟨d0, cx, Lx, Rx, Cx, (u1_n hit).trans d1, (cdq_go d2 g1 (fun _ _ => rfl) (fun x _ ho => hn x (by omega))).same (fun k k1 k2 _ => txB_c (fun j hj => hs j (by omega)) k1 k2), d3.same d2.vc (fun k k1 k2 => txB_c (fun j hj => hs j (by omega)) (by omega) k2)⟩
  · exact a6.go g1 (fun _ _ => rfl) (fun x _ ho => hn x (by omega)) ⟨n3 _ (by omega) (by omega), n3 _ (by omega) (by omega)⟩ (fun _ z => z) (b0 1 (by omega)) (fun i _ => hb i)
  · exact (a7.go g1 (fun _ _ => rfl) (fun x _ ho => hn x (by omega)) ⟨n3 _ (by omega) (by omega), n3 _ (by omega) (by omega)⟩ (fun _ z => z)).tx (fun i hi j hj => hs j (by omega))
  · exact a8.go g1 (fun _ _ => rfl) (fun x _ ho => hn x (by omega)) ⟨n3 _ (by omega) (by omega), n3 _ (by omega) (by omega)⟩ (fun _ z => z) rfl (fun _ _ => rfl)
  · exact a9.go g1 (fun _ _ => rfl) (fun x _ ho => hn x (by omega)) (fun j hj => n3 _ (by omega) (by omega))
  · exact a10.go g1 (fun _ _ => rfl) (fun x _ ho => hn x (by omega)) (fun x hx2 => n3 x (by omega) (by omega)) (fun c hc => ⟨hc, rfl⟩)
set_option maxRecDepth 8000 in
theorem x_text {o : Nat} {h : HP} {cap : Nat → Nat} {A im tx tp : Nat → Int} {f4 f5 f6 : Int} {L R C : Nat} {n t : Nat} (H : CLS o h cap A im tx tp f4 f5 f6 L R C) (h4 : f4 = (n : Int)) (hA0 : A 0 = (t : Int)) : sp mX9_text [.ref o] h 7 351 (fun v h' => (t = 4 → v = some (.int (zI (-1))) ∧ h' = h) ∧ (t < 4 → XPT o h cap (some (.int (zI (if (rdT tp n (37 * t) tx).1 = 0 then (t : Int) else -1)))) (if (rdT tp n (37 * t) tx).1 = 0 then u1 A 0 ((t : Int) + 1) else A) im (rdT tp n (37 * t) tx).2.1 tp 0 (rdT tp n (37 * t) tx).1 (if (rdT tp n (37 * t) tx).1 = 0 then -1 else (((rdT tp n (37 * t) tx).2.2.1.2.1 : Nat) : Int)) v h')) := by
  obtain ⟨ow, cd, cb, c, hRs, hSb⟩ := id H
  obtain ⟨⟨a1, a2⟩, -, o_o0, ⟨⟨txs, o_h0, t2, t3, t4⟩, f, sc, a6, a6b⟩, -, ⟨ba, bi, r1, r2, r3, r4, r5⟩, -, -, -, ⟨⟨u1', u2, u3⟩, u4, u5, uT, uf, uk5, uk6⟩⟩ := id hRs
  have hself : RDH (o + 32) ba bi h = h := RDP.self r1
  have o_o : ∀ {ba : Nat → Nat → Int} {bi : Nat → Int}, (RDH (o + 32) ba bi h).2 o = some (.inr (8, xfs o)) := RDo (by omega) o_o0
  have o_h : ∀ {ba : Nat → Nat → Int} {bi : Nat → Int}, (RDH (o + 32) ba bi h).2 (o + 8) = some (.inr (4, hfs (o + 8) (A 0))) := RDo (by omega) o_h0
  have b1 : bi 1 = (n : Int) := r3.trans h4
  obtain ⟨Φ, hΦ⟩ : ∃ Φ, (fun v h' => (t = 4 → v = some (.int (zI (-1))) ∧ h' = h) ∧ (t < 4 → XPT o h cap (some (.int (zI (if (rdT tp n (37 * t) tx).1 = 0 then (t : Int) else -1)))) (if (rdT tp n (37 * t) tx).1 = 0 then u1 A 0 ((t : Int) + 1) else A) im (rdT tp n (37 * t) tx).2.1 tp 0 (rdT tp n (37 * t) tx).1 (if (rdT tp n (37 * t) tx).1 = 0 then -1 else (((rdT tp n (37 * t) tx).2.2.1.2.1 : Nat) : Int)) v h')) = Φ := ⟨_, rfl⟩
  rw [hΦ]
  refine sp_wp rfl (lv := [_, _]) rfl (Nat.le_of_ble_eq_true rfl) ?_
  refine w_cast rfl rfl hself.symm ?_
  refine w_aload_n dX9_text_0 rfl rfl ?_
  refine w_getf fX9_19 dX9_text_1 o_o rfl ?_
  refine w_getf fX9_69 dX9_text_4 o_h rfl ?_
  rw [hA0]
  refine w_iconst dX9_text_7 ?_
  refine w_icmp_lt 13 dX9_text_8 (by decide) (by unfold ok32; omega) (by unfold ok32; omega) (fun w1 => ?_) (fun w1 => ?_)
  rotate_left
  · refine w_iconst dX9_text_11 ?_
    refine x_iret rfl rfl dX9_text_12 ?_
    rw [← hΦ]
    exact ⟨fun _ => ⟨rfl, hself⟩, fun q => by omega⟩
  · have ht : t < 4 := by omega
    rw [hA0, Int.toNat_natCast] at u5
    have hRI := rdi_of (n := n) (by omega) uT ht u5
    have hSX := rds_of (n := n) uT ht u5
    have rd := c7_read (a := o + 32) (ba := ba) (bi := bi) (h0 := h) (X := tx) (by omega) ht b1 (by omega) (by rw [r2]; exact uT) u5 (by rw [r2]; exact hRI)
    rw [r2] at rd
    obtain ⟨Z, hZ⟩ : ∃ Z, (rdT tp n (37 * t) tx) = Z := ⟨_, rfl⟩
    rw [hZ] at rd hRI hSX hΦ
    obtain ⟨z1, z2, z3, z4, z5⟩ := id hRI
    refine w_aload_n dX9_text_13 rfl rfl ?_
    refine w_getf fX9_29 dX9_text_14 o_o rfl ?_
    refine w_callV (Z := mX7_read) (As := []) rd RD0 rfl kX7_read lX9_72 iX7_read vX7_read dX9_text_17 rfl rfl rfl (Nat.le_of_ble_eq_true rfl) ⟨Nat.le_of_ble_eq_true rfl, Nat.le_of_ble_eq_true rfl⟩ (by omega) (by omega) (fun v h1 q => ?_)
    obtain ⟨q, q1, q2, q3, hcase⟩ := q
    have hTd : TB ((u1 ba 2 q.1) 1) := by rw [u1_n (by decide), r2]; exact uT
    have k3 : ok32 (q.2 3) := by
      rw [q3]
      split
      · exact ⟨by omega, by omega⟩
      · have := z3.2; unfold ok32; omega
    have k2 : ok32 (q.2 2) := by rw [q2]; unfold ok32; omega
    rcases hcase with ⟨c1, rfl, rfl⟩ | ⟨c1, rfl, Lc, Rc, Cc, hN⟩
    · rw [if_neg c1] at q3
      refine w_astore_nN (lv' := [_, _]) dX9_text_20 rfl (Nat.le_of_ble_eq_true rfl) rfl rfl ?_
      refine w_aload_n dX9_text_21 rfl rfl ?_
      refine w_getf fX9_29 dX9_text_22 o_o rfl ?_
      refine w_iconst dX9_text_25 ?_
      refine rd_pf1 fX9_61 dX9_text_26 ?_
      refine w_aload_nN dX9_text_29 rfl rfl ?_
      refine w_ifnonnullN dX9_text_30 ?_
      refine w_iconst dX9_text_33 ?_
      refine x_iret rfl rfl dX9_text_34 ?_
      rw [← hΦ]
      refine ⟨fun q => by omega, fun _ => ?_⟩
      rw [if_neg c1, if_neg c1, if_neg c1]
      refine ⟨rfl, frm_rd, L, R, C, ow, cd, cb, c, ?_, hSb.rd a2⟩
      have := (hRs.rd (da := u1 ba 2 q.1) (di := u1 q.2 1 0) hTd (by rw [u1_s]; omega) (by rw [u1_n (by decide)]; exact k2) (by rw [u1_n (by decide)]; exact k3)).tx (t := t) hA0 (fun j hj => z2 j (Or.inl hj)) z1.1
      rw [u1_s, u1_n (by decide), u1_n (by decide), u1_n (by decide), r2, q2, q3] at this
      exact this
    · rw [if_pos c1] at q3
      have hR0 := hRs.rd (da := u1 ba 2 q.1) (di := q.2) hTd (by rw [q1, b1]; omega) k2 k3
      obtain ⟨ow2, hR2, hw2, hQ2⟩ := hR0.nwc hN ⟨Nat.le_refl _, by show h.1 < h.1 + 6; omega⟩
      have hS0 := hSb.rd (da := u1 ba 2 q.1) (di := q.2) a2
      have n1 : h1.1 = h.1 + 7 := hN.1
      have same : ∀ x, x < h.1 → h1.2 x = (RDH (o + 32) (u1 ba 2 q.1) q.2 h).2 x := hN.2.2.2.2
      have hS1 : SCB h1 ow2 (fun x => cd x ∨ x = h.1) (o + 8 + 4) A L R C c := (hS0.go (by show h.1 ≤ h1.1; omega) hw2 (fun x hx _ => same x hx) (fun j hj => same _ (by omega))).cd (fun _ z => Or.inl z)
      have hrd1 : RDP h1 (o + 32) (u1 ba 2 q.1) q.2 := fun j hj => (same _ (by omega)).trans (RDg hj)
      have o_o1 : ∀ {ba : Nat → Nat → Int} {bi : Nat → Int}, (RDH (o + 32) ba bi h1).2 o = some (.inr (8, xfs o)) := RDo (by omega) ((same _ (by omega)).trans o_o)
      have o_h1 : ∀ {ba : Nat → Nat → Int} {bi : Nat → Int}, (RDH (o + 32) ba bi h1).2 (o + 8) = some (.inr (4, hfs (o + 8) (A 0))) := RDo (by omega) ((same _ (by omega)).trans o_h)
      have t1 : ∀ {ba : Nat → Nat → Int} {bi : Nat → Int}, (RDH (o + 32) ba bi h1).2 (o + 8 + 3) = some (aR 2 4 txs) := RDo (by omega) ((same _ (by omega)).trans (RDo (by omega) t2))
      obtain ⟨fs, hcf⟩ : ∃ fs, h1.2 h.1 = some (.inr (2, fs)) := by
        obtain ⟨-, -, ⟨fs, e, -⟩, -⟩ := hN
        exact ⟨fs, e⟩
      have o_c1 : ∀ {ba : Nat → Nat → Int} {bi : Nat → Int}, (RDH (o + 32) ba bi h1).2 h.1 = some (.inr (2, fs)) := RDo (by omega) hcf
      have hVt := hQ2.vc
      obtain ⟨y1, y2, y3, y4, y5, y6, y7⟩ := id hVt
      have ey1 : Z.2.1 (37 * t) = (Lc : Int) := y1
      have ey2 : Z.2.1 (37 * t + 1) = (Rc : Int) := y2
      have ey3 : Z.2.1 (37 * t + 2) = (Cc : Int) := y3
      have sE : SLT (txB Z.2.1 (37 * t)) Lc Rc Cc := fun i hi j hj => by
        rw [show 14 + 8 * i + j = 14 + (8 * i + j) by omega, txB_s, ← ey1]
        exact hSX c1 i j (by omega) (by omega) (by omega) (by omega)
      have hXt : TXO Z.2.1 (t + 1) := ⟨z1.1.1, fun i hi => by
        by_cases hit : i = t
        · subst hit
          obtain ⟨-, g1, g2, g3, g4, g5⟩ := z1
          have := z5 c1
          exact ⟨g1, ⟨this.1, g2.2⟩, ⟨this.2, g3.2⟩, g4, g5⟩
        · exact z1.1.2 i (by omega)⟩
      refine w_cast rfl rfl hrd1.self.symm ?_
      clear o_o o_h
      have o_o := @o_o1
      have o_h := @o_h1
      refine w_astore_n (lv' := [_, _]) dX9_text_20 rfl (Nat.le_of_ble_eq_true rfl) rfl rfl ?_
      refine w_aload_n dX9_text_21 rfl rfl ?_
      refine w_getf fX9_29 dX9_text_22 o_o rfl ?_
      refine w_iconst dX9_text_25 ?_
      refine rd_pf1 fX9_61 dX9_text_26 ?_
      refine w_aload_n dX9_text_29 rfl rfl ?_
      refine w_ifnonnull 35 dX9_text_30 (by decide) ?_
      refine w_aload_n dX9_text_35 rfl rfl ?_
      refine w_getf fX9_19 dX9_text_36 o_o rfl ?_
      refine w_getf fX9_76 dX9_text_39 o_h rfl ?_
      refine w_aload_n dX9_text_42 rfl rfl ?_
      refine w_getf fX9_19 dX9_text_43 o_o rfl ?_
      refine w_getf fX9_69 dX9_text_46 o_h rfl ?_
      rw [hA0]
      refine w_aload_n dX9_text_49 rfl rfl ?_
      refine w_aast2 t t1 o_c1 rfl ht (by decide) dX9_text_50 ?_
      have p_o : ((RDH (o + 32) (u1 ba 2 q.1) (u1 q.2 1 0) h1).1, up (RDH (o + 32) (u1 ba 2 q.1) (u1 q.2 1 0) h1).2 (o + 8 + 3) (aR 2 4 (u1 txs t (some h.1)))).2 o = some (.inr (8, xfs o)) := (up_n (by omega)).trans o_o
      have p_h : ((RDH (o + 32) (u1 ba 2 q.1) (u1 q.2 1 0) h1).1, up (RDH (o + 32) (u1 ba 2 q.1) (u1 q.2 1 0) h1).2 (o + 8 + 3) (aR 2 4 (u1 txs t (some h.1)))).2 (o + 8) = some (.inr (4, hfs (o + 8) (A 0))) := (up_n (by omega)).trans o_h
      refine w_aload_n dX9_text_51 rfl rfl ?_
      refine w_getf fX9_19 dX9_text_52 p_o rfl ?_
      refine w_dup dX9_text_55 rfl ?_
      refine w_getf fX9_69 dX9_text_56 p_h rfl ?_
      rw [hA0]
      refine w_iconst dX9_text_59 ?_
      refine w_iadd dX9_text_60 ?_
      refine w_putf fX9_69 dX9_text_61 p_h (Nat.le_of_ble_eq_true rfl) rfl rfl ?_
      refine w_aload_n dX9_text_64 rfl rfl ?_
      refine w_getf fX9_19 dX9_text_65 ((up_n (show o ≠ o + 8 by omega)).trans p_o) rfl ?_
      refine w_getf fX9_69 dX9_text_68 up_s rfl ?_
      refine w_iconst dX9_text_71 ?_
      refine w_isub dX9_text_72 ?_
      refine x_iret rfl rfl dX9_text_73 ?_
      rw [← hΦ]
      have hR3 := hR2.rd (da := u1 ba 2 q.1) (di := u1 q.2 1 0) hTd (by rw [u1_s]; omega) (by rw [u1_n (by decide)]; exact k2) (by rw [u1_n (by decide)]; exact k3)
      rw [u1_s, u1_n (by decide), u1_n (by decide), u1_n (by decide), r2, q2, q3] at hR3
      have a22 := hR2.1.2
      have hQ3 : CDQ (CK ow2 (RDH (o + 32) (u1 ba 2 q.1) (u1 q.2 1 0) h1)) (RDH (o + 32) (u1 ba 2 q.1) (u1 q.2 1 0) h1) h.1 (txB Z.2.1 (37 * t)) Lc Rc Cc := hQ2.mono (fun _ z => z) (fun x hx => RDn (fun z => by have := a22 x (by unfold stZ; omega); have := hx.2; omega))
      have hR4 := hR3.txt (ty := Z.2.1) (t := t) (c := h.1) hA0 ht (Or.inr rfl) hQ3 sE (fun j hj => z2 j (Or.inl hj)) hXt t1
      have hS3 := hS1.rd (da := u1 ba 2 q.1) (di := u1 q.2 1 0) a22
      have one : ∀ x, ow2 x = 1 → x ≠ o + 8 ∧ x ≠ o + 8 + 3 := fun x ho => ⟨fun z => by have := a22 x (by unfold stZ; omega); omega, fun z => by have := a22 x (by unfold stZ; omega); omega⟩
      refine ⟨fun q => by omega, fun _ => ?_⟩
      rw [if_pos c1, if_pos c1, if_pos c1]
      refine ⟨by rw [show (t : Int) + 1 - 1 = (t : Int) by omega], ⟨by show h.1 ≤ h1.1; omega, fun x hx => ?_⟩, L, R, C, ow2, _, _, c, hR4, ?_⟩
      · exact (up_n (by omega)).trans ((up_n (by omega)).trans ((RDn (by omega)).trans ((same x (by omega)).trans (RDn (by omega)))))
      · refine SCB.same (hS3.go (Nat.le_refl _) (fun _ _ => rfl) (fun x _ ho => (up_n (one x ho).1).trans (up_n (one x ho).2)) (fun j hj => (up_n (by omega)).trans (up_n (by omega)))) (fun k h1 h2 => u1_n (by omega))

