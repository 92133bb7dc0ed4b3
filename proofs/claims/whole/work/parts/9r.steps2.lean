/-! the face: more steps -/
def XPE (o : Nat) (h : HP) (cap : Nat → Nat) (im tx tp : Nat → Int) (f4 f5 f6 : Int) (w : Option Value) (D : Nat → Int) : Option Value → HP → Prop := fun v h' => v = w ∧ FRM o h h' ∧ ∃ L R C, CLS o h' cap D im tx tp f4 f5 f6 L R C
theorem rel_sent {sa : Nat → Nat → Int} {si : Nat → Int} {sl : Nat → BitVec 64} {B : Nat → Int} {L R C : Nat} {x : BitVec 64} (H : REL sa si sl B L R C) (hV : VC B L R C) : REL sa si (u1 sl 1 x) (putS B x) L R C := by
  obtain ⟨⟨s1, s2, s3, s4, s5, s6⟩, ⟨g8, g9⟩, ⟨n, l7, lb, hBK⟩, b1, b2, b3, b4, b6⟩ := H
  obtain ⟨v1, v2, v3, v4, v5, v6, v7⟩ := id hV
  have hLC := mulLe (a := L) (b := C) (x := 6) (y := 8) (by omega) (by omega)
  have hLR := mulLe (a := L) (b := R) (x := 6) (y := 4) (by omega) (by omega)
  have hs : ∀ k, k ≠ 46 → k ≠ 47 → putS B x k = B k := fun k h1 h2 => by unfold putS; rw [u1_n h2, u1_n h1]
  have hsh : ∀ k, k < 32 → shA (putS B x) k = shA B k := fun k hk => hs (14 + k) (by omega) (by omega)
  have hg : gA (putS B x) (L * C) = gA B (L * C) := gset_c (fun b hb => hs (96 + b) (by omega) (by omega))
  have hcs : ∀ i, i < L * R → cs (putS B x) L C i = cs B L C i := fun i hi => csetN_sh (fun j hj => hsh _ (by have := rowLt hi v4.1; omega))
  refine ⟨⟨by rw [u1_s, sentB_put], s2.trans (hs 12 (by omega) (by omega)).symm, s3.trans (hs 8 (by omega) (by omega)).symm, s4.trans (hs 9 (by omega) (by omega)).symm, s5.trans (hs 10 (by omega) (by omega)).symm, s6.trans (hs 11 (by omega) (by omega)).symm⟩, ⟨by rw [hg, u1_n (by decide)]; exact g8, by rw [hg, oddN_c hcs]; exact g9⟩, ⟨n, l7, by rw [hs 10 (by omega) (by omega), hs 11 (by omega) (by omega)]; exact lb, hBK.same (fun _ _ => rfl) (fun k h1 h2 => hs k (by omega) (by omega))⟩, fun b hb => ?_, fun b hb => ?_, fun b hb => ?_, fun k hk j hj hok => ?_, fun p hp => ?_⟩
  · rw [b1 b hb, hs _ (by omega) (by omega)]
  · rw [b2 b hb, hs _ (by omega) (by omega)]
  · rw [b3 b hb, hs _ (by omega) (by omega)]
  · have e : okc (shA (putS B x)) L k j = okc (shA B) L k j := by
      unfold okc bitN
      rw [hsh _ (by have := rowLt hk v4.1; omega)]
    rw [e] at hok
    rw [b4 k hk j hj hok, hs _ (by omega) (by omega)]
  · rw [b6 p hp, hs 13 (by omega) (by omega)]
/-- a code that was made belongs to the world -/
theorem REST.nwc {o : Nat} {h h' : HP} {cap : Nat → Nat} {A im tx tp : Nat → Int} {f4 f5 f6 : Int} {ow : Nat → Nat} {cd : Nat → Prop} {cb : Nat → CBK} {a : Nat} {D : Nat → Int} {L R C : Nat} (H : REST o h cap A im tx tp f4 f5 f6 ow cd cb) (N : CNEW h h' a D L R C) (ha : h.1 ≤ a ∧ a < h.1 + 6) : ∃ ow', REST o h' cap A im tx tp f4 f5 f6 ow' (fun x => cd x ∨ x = a) (u1 cb a (D, L, R, C)) ∧ (∀ x, x < h.1 → ow' x = ow x) ∧ CDQ (CK ow' h') h' a D L R C := by
  obtain ⟨n1, n2, ⟨fs, n3, n4⟩, ⟨T, n5, n6⟩, n7⟩ := N
  obtain ⟨⟨a1, a2⟩, a3, a4, ⟨a5, a6⟩, ⟨a7, a8, L', R', C', c', a9⟩, ⟨ba, bi, r1, r2⟩, ⟨pc, psa, psi, psl, p1⟩, a10, ⟨⟨bl, bi2, bq, w1⟩, fa, fb, w2⟩, a11⟩ := H
  have g1 : h.1 ≤ h'.1 := by omega
  obtain ⟨ow', how⟩ : ∃ ow' : Nat → Nat, ow' = fun x => if x < h.1 then ow x else if x = h.1 + 6 then 1000 + a else 1 := ⟨_, rfl⟩
  have o1 : ∀ x, x < h.1 → ow' x = ow x := fun x hx => by rw [how]; exact if_pos hx
  have o2 : ∀ x, h.1 ≤ x → x ≠ h.1 + 6 → ow' x = 1 := fun x h1 h2 => by rw [how]; show (if _ then _ else if _ then _ else _) = _; rw [if_neg (by omega), if_neg h2]
  have o3 : ow' (h.1 + 6) = 1000 + a := by rw [how]; show (if _ then _ else if _ then _ else _) = _; rw [if_neg (by omega), if_pos rfl]
  have sx : ∀ x, x ≤ o + 72 → h'.2 x = h.2 x := fun x hx => n7 x (by omega)
  have q : CDQ (CK ow' h') h' a D L R C := n2.mono (fun x hx => ⟨by omega, o2 x hx.1 (by omega)⟩) (fun _ _ => rfl)
  have all : ∀ x, x < h.1 → h'.2 x = h.2 x := n7
  refine ⟨ow', ⟨⟨by omega, fun x hx => ?_⟩, fun c hc => ?_, (sx o (by omega)).trans a4, ⟨?_, ?_⟩, ⟨?_, ?_, L', R', C', c', ?_⟩, ⟨ba, bi, fun j hj => (sx _ (by omega)).trans (r1 j hj), r2⟩, ⟨pc, psa, psi, psl, fun j hj => (sx _ (by omega)).trans (p1 j hj)⟩, ?_, ⟨⟨bl, bi2, bq, fun j hj => (sx _ (by omega)).trans (w1 j hj)⟩, fa, fb, fun j hj => (sx _ (by omega)).trans (w2 j hj)⟩, a11⟩, o1, q⟩
  · have hxl : x < h.1 := by unfold stZ at hx; omega
    rw [o1 x hxl]; exact a2 x hx
  · by_cases hca : c = a
    · subst hca
      rw [u1_s]
      exact ⟨q, fs, h.1 + 6, T, n3, n4, ⟨by omega, o3⟩, n5, fun kd k h1 h2 => Or.inl (n6 _ (by omega))⟩
    · rw [u1_n hca]
      rcases hc with hc | hc
      · exact (a3.go g1 o1 (fun x hx _ => all x hx)) c hc
      · exact absurd hc hca
  · exact a5.go g1 o1 (fun x hx _ => all x hx) ⟨sx _ (by omega), sx _ (by omega)⟩ (fun _ z => Or.inl z)
  · exact a6.go g1 o1 (fun x hx _ => all x hx) ⟨sx _ (by omega), sx _ (by omega)⟩ (fun _ z => Or.inl z) rfl (fun _ _ => rfl)
  · exact a7.go g1 o1 (fun x hx _ => all x hx) ⟨sx _ (by omega), sx _ (by omega)⟩ (fun _ z => Or.inl z)
  · exact a8.go g1 o1 (fun x hx _ => all x hx) ⟨sx _ (by omega), sx _ (by omega)⟩ (fun _ z => Or.inl z) rfl (fun _ _ => rfl)
  · exact (a9.go g1 o1 (fun x hx _ => all x hx) (fun j hj => sx _ (by omega))).cd (fun _ z => Or.inl z)
  · exact a10.go g1 o1 (fun x hx _ => all x hx) (fun x hx2 => sx x (by omega)) (fun c hc => ⟨Or.inl hc, u1_n (fun e => by have := (cdq_at (a3 c hc).1).1; omega)⟩)
theorem frm_nwc {o : Nat} {h h' : HP} {a : Nat} {D : Nat → Int} {L R C : Nat} (N : CNEW h h' a D L R C) (ho : o + 72 < h.1) : FRM o h h' := ⟨by have := N.1; omega, fun x hx => N.2.2.2.2 x (by omega)⟩
theorem cm_out {B : Nat → Int} {L R C k : Nat} (hk : k < 3 ∨ 433 ≤ k) : cmA B L R C k = B k := by
  unfold cmA
  rw [bg_out hk]
  unfold cm0 putS
  rw [fillR_n (by omega), u1_n (by omega), u1_n (by omega), u1_n (by omega)]
theorem cm_sh {B : Nat → Int} {L R C k : Nat} (h1 : 3 ≤ k) (h2 : k < 46) (h3 : k < 8 ∨ 14 ≤ k) : cmA B L R C k = B k := by
  unfold cmA
  rw [bgA_n (by omega) (by omega) (by omega) (by omega) (by omega)]
  unfold cm0 putS
  rw [fillR_n (by omega), u1_n (by omega), u1_n (by omega), u1_n (by omega)]
theorem x_order {o : Nat} {h : HP} {cap : Nat → Nat} {A im tx tp : Nat → Int} {f4 f5 f6 : Int} {L R C : Nat} {z : Int} (H : CLS o h cap A im tx tp f4 f5 f6 L R C) (hz : ok32 z) : sp mX9_order [.ref o, .int (zI z)] h 8 413 (XP o h cap im tx tp f4 f5 f6 L R C (some (.int (zI (bI (0 ≤ z ∧ z ≤ (fac R : Int) - 1))))) (if 0 ≤ z ∧ z ≤ (fac R : Int) - 1 then bgA (u1 (kpA A) 13 z) (A 8) L R C else A)) := by
  obtain ⟨ow, cd, cb, c, hRs, sa, si, sl, b1, b2, b3, b4, b5⟩ := id H
  have hX := hRs.vx b1 b3 b4 b5
  have hW := hX.vw
  have hT := hRs.top b5
  have hTk := kpA_top hT
  obtain ⟨hI, hV, hSN, hA2⟩ := id hT
  obtain ⟨v1, v2, v3, v4, v5, v6, v7⟩ := id hV
  have hLC := mulLe (a := L) (b := C) (x := 6) (y := 8) (by omega) (by omega)
  have hLR := mulLe (a := L) (b := R) (x := 6) (y := 4) (by omega) (by omega)
  have hLCi : (L : Int) * C = ((L * C : Nat) : Int) := by push_cast; rfl
  have hoo := hRs.1.1
  obtain ⟨o_o, ⟨nh, o_h⟩, -⟩ := id hX
  have o_n : h.2 (o + 8 + 4) = some (.inr (7, sfs (o + 8 + 4) c si sl)) := b1 0 (by omega)
  have hfR : fac R ≤ 24 := fac_le (by omega)
  have no : ¬ (0 ≤ z ∧ z ≤ (fac R : Int) - 1) → wp mX9_order 8 [.ref o, .int (zI z)] [] h 8 413 (XP o h cap im tx tp f4 f5 f6 L R C (some (.int (zI (bI (0 ≤ z ∧ z ≤ (fac R : Int) - 1))))) (if 0 ≤ z ∧ z ≤ (fac R : Int) - 1 then bgA (u1 (kpA A) 13 z) (A 8) L R C else A)) := by
    intro hn
    rw [bI_f hn, if_neg hn]
    refine w_iconst dX9_order_8 ?_
    exact x_iret rfl rfl dX9_order_9 ⟨rfl, FRM.refl, H⟩
  refine sp_wp rfl (lv := [_, _]) rfl (Nat.le_of_ble_eq_true rfl) ?_
  refine w_aload_n dX9_order_0 rfl rfl ?_
  refine w_iload_n dX9_order_1 rfl rfl ?_
  refine wc_V (Z := mX9_isOrder) (As := [_]) (x_isOrder hW hz) o_o rfl kX9_isOrder lX9_153 iX9_isOrder vX9_isOrder dX9_order_2 rfl rfl rfl (Nat.le_of_ble_eq_true rfl) ⟨Nat.le_of_ble_eq_true rfl, Nat.le_of_ble_eq_true rfl⟩ ?_
  refine w_ifb_ne 10 dX9_order_5 (by decide) (fun hc => ?_) (fun hc => ?_)
  rotate_left
  · exact no hc
  rw [bI_t hc, if_pos hc]
  obtain ⟨zn, hzn⟩ : ∃ zn : Nat, z = (zn : Int) := ⟨z.toNat, by omega⟩
  subst hzn
  have e8 : kpA A 8 = A 8 := kpA_n (by omega) (by omega)
  have hm : 0 ≤ A 8 ∧ A 8 ≤ 1 := hI 8
  refine w_aload_n dX9_order_10 rfl rfl ?_
  refine w_callV (Z := mX9_keep) (As := []) (x_keep hRs ⟨sa, si, sl, b1, b2, b3, b4, b5⟩) o_o rfl kX9_keep lX9_86 iX9_keep vX9_keep dX9_order_11 rfl rfl rfl (Nat.le_of_ble_eq_true rfl) ⟨Nat.le_of_ble_eq_true rfl, Nat.le_of_ble_eq_true rfl⟩ (by omega) (by omega) (fun v h1 q => ?_)
  obtain ⟨rfl, ow1, hK⟩ := q
  obtain ⟨c1, c3, c4, c5⟩ := kp_now hRs b1 b3 b4 b5 hK
  obtain ⟨hR1, hF1, -, -⟩ := hK
  have hQ1 : CDQ (outS (o + 8 + 4)) h1 c (kpA A) L R C := c4.mono (fun x hx z => by have := hR1.1.2 x (by unfold stZ; omega); have := hx.2; omega) (fun _ _ => rfl)
  obtain ⟨o_o1, ⟨nh1, o_h1⟩, -⟩ := id (hR1.vx c1 c3 c4 c5)
  replace o_o : ∀ {c : Nat} {sa : Nat → Nat → Int} {si : Nat → Int} {sl : Nat → BitVec 64}, (SH (o + 8 + 4) c sa si sl h1).2 o = some (.inr (8, xfs o)) := SHo (by unfold outS; omega) o_o1
  replace o_h : ∀ {c : Nat} {sa : Nat → Nat → Int} {si : Nat → Int} {sl : Nat → BitVec 64}, (SH (o + 8 + 4) c sa si sl h1).2 (o + 8) = some (.inr (4, hfs (o + 8) nh1)) := SHo (by unfold outS; omega) o_h1
  refine w_cast rfl rfl (SCP.self c1).symm ?_
  obtain ⟨ad, f7, f8, f10, f9, f11, rk, cr, -, h6, h7, o_c0, r70, r80, r90, r100, r110, e7', e8', e9, e10, hRD, p0, p7, p8, p9, p10, p11⟩ := id hQ1
  have o_c : (SH (o + 8 + 4) c sa si sl h1).2 c = some (.inr (2, cfs L R C (kpA A 6) (kpA A 7) ad rk cr)) := SHo p0 o_c0
  refine w_aload_n dX9_order_14 rfl rfl ?_
  refine w_getf fX9_19 dX9_order_15 o_o rfl ?_
  refine w_getf fX9_89 dX9_order_18 o_h rfl ?_
  refine w_getf fX9_98 dX9_order_21 SC0 rfl ?_
  refine w_getf fX9_126 dX9_order_24 o_c rfl ?_
  refine w_iload_n dX9_order_27 rfl rfl ?_
  refine w_aload_n dX9_order_28 rfl rfl ?_
  refine w_getf fX9_19 dX9_order_29 o_o rfl ?_
  refine w_getf fX9_89 dX9_order_32 o_h rfl ?_
  refine w_getf fX9_156 dX9_order_35 SC0 rfl ?_
  refine wx_Sv (Z := mX9_fillOrder) (As := [_, _, _]) (c9_fillOrder (o := zn) v5 (by omega) SC6) kX9_fillOrder lX9_159 sX9_fillOrder dX9_order_38 rfl rfl rfl (Nat.le_of_ble_eq_true rfl) ⟨Nat.le_of_ble_eq_true rfl, Nat.le_of_ble_eq_true rfl⟩ (fun g hg => ?_)
  rw [SHu6]
  have hI2 : INV (u1 (kpA A) 13 (zn : Int)) := hTk.1.put (show (0 : Int) ≤ (zn : Int) ∧ (zn : Int) ≤ 23 by omega)
  have hT2 : TOP (u1 (kpA A) 13 (zn : Int)) L R C := ⟨hI2, c5.2.1.put (by omega) (by omega), ⟨by rw [u1_s]; omega, by rw [u1_n (by omega)]; exact hTk.2.2.1.2.1, by rw [u1_n (by omega), u1_n (by omega)]; exact hTk.2.2.1.2.2.1, fun b hb => by rw [u1_n (by omega), u1_n (by omega), u1_n (by omega)]; exact hTk.2.2.1.2.2.2 b hb⟩, by rw [u1_n (by omega)]; exact hTk.2.2.2⟩
  have hq2 : CDQ (CK ow1 h1) h1 c (u1 (kpA A) 13 (zn : Int)) L R C := c4.same (fun k k1 k2 k3 => u1_n (by omega))
  have hp2 : PRE (u1 sa 6 g) si sl (u1 (kpA A) 13 (zn : Int)) L R C := ⟨c3.1.1.trans (sentB_c (u1_n (by omega)) (u1_n (by omega))).symm, c3.1.2.1.trans (u1_n (by omega)).symm, fun b hb => by rw [u1_n (by decide), u1_n (by omega)]; exact c3.2.2.2.1 b hb, fun p hp => by rw [u1_s, u1_s, Int.toNat_natCast]; exact hg p hp⟩
  refine w_aload_n dX9_order_41 rfl rfl ?_
  refine w_getf fX9_19 dX9_order_42 o_o rfl ?_
  refine w_getf fX9_89 dX9_order_45 o_h rfl ?_
  refine w_aload_n dX9_order_48 rfl rfl ?_
  refine w_getf fX9_19 dX9_order_49 o_o rfl ?_
  refine w_getf fX9_89 dX9_order_52 o_h rfl ?_
  refine w_getf fX9_163 dX9_order_55 SC0 rfl ?_
  rw [c3.1.2.2.1, e8]
  refine wx_Vv (Z := mX8_start) (As := [_]) (c8_start (m := A 8) (hQ1.same (fun k k1 k2 k3 => u1_n (by omega))) hI2.ok hp2) SC0 rfl kX8_start lX9_147 iX8_start vX8_start dX9_order_58 rfl rfl rfl (Nat.le_of_ble_eq_true rfl) ⟨Nat.le_of_ble_eq_true rfl, Nat.le_of_ble_eq_true rfl⟩ (fun q hq => ?_)
  refine w_iconst dX9_order_61 ?_
  exact x_iret rfl rfl dX9_order_62 ⟨rfl, hF1.trans frm_now, CLS.nw hR1 (fun k hk => (bg_out hk).trans (u1_n (by omega))) (bg_top hT2 hm).1 b2 hq (cdq_bg hq2) (bok_bg hT2 (c5.2.2.2.same c5.2.1 (fun k k1 k2 => u1_n (by omega))) hm)⟩
theorem x_encode {o : Nat} {h : HP} {cap : Nat → Nat} {A im tx tp : Nat → Int} {f4 f5 f6 : Int} {L R C : Nat} {x : BitVec 64} {q0 : Nat → BitVec 64} (H : CLS o h cap A im tx tp f4 f5 f6 L R C) : sp mX9_encode [.ref o, .long (lB x)] h 8 413 (fun v h' => ((0 ≤ x.toInt ∧ x.sshiftRight (L * C - (lsR A q0 L R C).2.2) = 0#64) → XP o h cap im tx tp f4 f5 f6 L R C (some (.int (zI ((pop (wordX (lsR A q0 L R C) (L * C) x) : Nat) : Int)))) (putS (kpA A) (wordX (lsR A q0 L R C) (L * C) x)) v h') ∧ (¬ (0 ≤ x.toInt ∧ x.sshiftRight (L * C - (lsR A q0 L R C).2.2) = 0#64) → XP o h cap im tx tp f4 f5 f6 L R C (some (.int (zI (-1)))) A v h')) := by
  obtain ⟨ow, cd, cb, c, hRs, sa, si, sl, b1, b2, b3, b4, b5⟩ := id H
  have hX := hRs.vx b1 b3 b4 b5
  have hW := hX.vw
  have hT := hRs.top b5
  have hTk := kpA_top hT
  obtain ⟨hI, hV, hSN, hA2⟩ := id hT
  obtain ⟨v1, v2, v3, v4, v5, v6, v7⟩ := id hV
  have hLC := mulLe (a := L) (b := C) (x := 6) (y := 8) (by omega) (by omega)
  have hLR := mulLe (a := L) (b := R) (x := 6) (y := 4) (by omega) (by omega)
  have hLCi : (L : Int) * C = ((L * C : Nat) : Int) := by push_cast; rfl
  have hoo := hRs.1.1
  obtain ⟨o_o, ⟨nh, o_h⟩, -⟩ := id hX
  have o_n : h.2 (o + 8 + 4) = some (.inr (7, sfs (o + 8 + 4) c si sl)) := b1 0 (by omega)
  obtain ⟨ad, f7, f8, f10, f9, f11, rk, cr, -, h6, h7, o_c, r70, r80, r90, r100, r110, e7', e8', e9, e10, hRD, p0, p7, p8, p9, p10, p11⟩ := id b4
  have hrk := (hRD q0).1
  have hle := (red_pop hV hRD).2
  obtain ⟨X, hXe⟩ : ∃ X, lsR A q0 L R C = X := ⟨_, rfl⟩
  have hlk : lsR (kpA A) q0 L R C = X := by rw [← hXe]; exact lsR_kp hV (fun k k1 k2 => kpA_n (by omega) (by omega))
  rw [hXe] at hrk ⊢
  rw [hrk]
  obtain ⟨Φ, hΦ⟩ : ∃ Φ, (fun v h' => ((0 ≤ x.toInt ∧ x.sshiftRight (L * C - rk) = 0#64) → XP o h cap im tx tp f4 f5 f6 L R C (some (.int (zI ((pop (wordX X (L * C) x) : Nat) : Int)))) (putS (kpA A) (wordX X (L * C) x)) v h') ∧ (¬ (0 ≤ x.toInt ∧ x.sshiftRight (L * C - rk) = 0#64) → XP o h cap im tx tp f4 f5 f6 L R C (some (.int (zI (-1)))) A v h')) = Φ := ⟨_, rfl⟩
  rw [hΦ]
  have no : ¬ (0 ≤ x.toInt ∧ x.sshiftRight (L * C - rk) = 0#64) → wp mX9_encode 33 [.ref o, .long (lB x), jk, .ref c] [] h 8 413 Φ := by
    intro hn
    refine w_iconst dX9_encode_33 ?_
    refine x_iret rfl rfl dX9_encode_34 ?_
    rw [← hΦ]
    exact ⟨fun q => absurd q hn, fun _ => ⟨rfl, FRM.refl, H⟩⟩
  refine sp_wp rfl (lv := [_, _, _, _]) rfl (Nat.le_of_ble_eq_true rfl) ?_
  refine w_aload_n dX9_encode_0 rfl rfl ?_
  refine w_getf fX9_19 dX9_encode_1 o_o rfl ?_
  refine w_getf fX9_89 dX9_encode_4 o_h rfl ?_
  refine w_getf fX9_98 dX9_encode_7 o_n rfl ?_
  refine w_astore_n (lv' := [_, _, _, _]) dX9_encode_10 rfl (Nat.le_of_ble_eq_true rfl) rfl rfl ?_
  refine w_lload_n dX9_encode_11 rfl rfl ?_
  refine w_lconst0 dX9_encode_12 ?_
  refine w_lc_lt 33 dX9_encode_13 dX9_encode_14 (by decide) (fun w1 => ?_) (fun w1 => ?_)
  · exact no (fun q => by have := q.1; simp at w1; omega)
  refine w_lload_n dX9_encode_17 rfl rfl ?_
  refine w_aload_n dX9_encode_18 rfl rfl ?_
  refine w_getf fX9_95 dX9_encode_19 o_c rfl ?_
  refine w_aload_n dX9_encode_22 rfl rfl ?_
  refine w_getf fX9_102 dX9_encode_23 o_c rfl ?_
  refine w_isub dX9_encode_26 ?_
  refine w_lshr (L * C - rk) (by omega) (by omega) dX9_encode_27 ?_
  refine w_lconst0 dX9_encode_28 ?_
  refine w_lc_eq 35 dX9_encode_29 dX9_encode_30 (by decide) (fun w2 => ?_) (fun w2 => ?_)
  rotate_left
  · exact no (fun q => w2 q.2)
  have hc : 0 ≤ x.toInt ∧ x.sshiftRight (L * C - rk) = 0#64 := ⟨by simp at w1; exact w1, w2⟩
  refine w_aload_n dX9_encode_35 rfl rfl ?_
  refine w_callV (Z := mX9_keep) (As := []) (x_keep hRs ⟨sa, si, sl, b1, b2, b3, b4, b5⟩) o_o rfl kX9_keep lX9_86 iX9_keep vX9_keep dX9_encode_36 rfl rfl rfl (Nat.le_of_ble_eq_true rfl) ⟨Nat.le_of_ble_eq_true rfl, Nat.le_of_ble_eq_true rfl⟩ (by omega) (by omega) (fun v h1 q => ?_)
  obtain ⟨rfl, ow1, hK⟩ := q
  obtain ⟨c1, c3, c4, c5⟩ := kp_now hRs b1 b3 b4 b5 hK
  obtain ⟨hR1, hF1, -, -⟩ := hK
  have hQ1 : CDQ (outS (o + 8 + 4)) h1 c (kpA A) L R C := c4.mono (fun x hx z => by have := hR1.1.2 x (by unfold stZ; omega); have := hx.2; omega) (fun _ _ => rfl)
  obtain ⟨o_o1, ⟨nh1, o_h1⟩, -⟩ := id (hR1.vx c1 c3 c4 c5)
  replace o_o : ∀ {c : Nat} {sa : Nat → Nat → Int} {si : Nat → Int} {sl : Nat → BitVec 64}, (SH (o + 8 + 4) c sa si sl h1).2 o = some (.inr (8, xfs o)) := SHo (by unfold outS; omega) o_o1
  replace o_h : ∀ {c : Nat} {sa : Nat → Nat → Int} {si : Nat → Int} {sl : Nat → BitVec 64}, (SH (o + 8 + 4) c sa si sl h1).2 (o + 8) = some (.inr (4, hfs (o + 8) nh1)) := SHo (by unfold outS; omega) o_h1
  refine w_cast rfl rfl (SCP.self c1).symm ?_
  have o_c1 : ∀ {c1 : Nat} {sa : Nat → Nat → Int} {si : Nat → Int} {sl : Nat → BitVec 64}, CDP (SH (o + 8 + 4) c1 sa si sl h1) c (kpA A) L R C := hQ1.sh
  obtain ⟨fs', hfs'⟩ : ∃ fs, (SH (o + 8 + 4) c sa si sl h1).2 c = some (.inr (2, fs)) := by
    obtain ⟨ad, f7, f8, f10, f9, f11, rk, cr, -, h6, h7, o_c, -⟩ := o_c1 (c1 := c) (sa := sa) (si := si) (sl := sl)
    exact ⟨_, o_c⟩
  refine w_aload_n dX9_encode_39 rfl rfl ?_
  refine w_getf fX9_19 dX9_encode_40 o_o rfl ?_
  refine w_getf fX9_89 dX9_encode_43 o_h rfl ?_
  refine w_aload_n dX9_encode_46 rfl rfl ?_
  refine w_lload_n dX9_encode_47 rfl rfl ?_
  refine wc_V (Z := mX2_wordOf) (As := [_]) (c2_wordOf q0 o_c1) hfs' rfl kX2_wordOf lX9_105 iX2_wordOf vX2_wordOf dX9_encode_48 rfl rfl rfl (Nat.le_of_ble_eq_true rfl) ⟨Nat.le_of_ble_eq_true rfl, Nat.le_of_ble_eq_true rfl⟩ ?_
  rw [hlk]
  refine sc_pf1 fX9_109 dX9_encode_51 ?_
  refine w_aload_n dX9_encode_54 rfl rfl ?_
  refine w_getf fX9_19 dX9_encode_55 o_o rfl ?_
  refine w_getf fX9_89 dX9_encode_58 o_h rfl ?_
  refine w_getf fX9_109 dX9_encode_61 SC0 rfl ?_
  rw [u1_s]
  refine wc_S (Z := mJ13_bitCount_95d88) (As := [_]) c_bitCount kJ13_bitCount_95d88 lX9_113 sJ13_bitCount_95d88 dX9_encode_64 rfl rfl rfl (Nat.le_of_ble_eq_true rfl) ⟨Nat.le_of_ble_eq_true rfl, Nat.le_of_ble_eq_true rfl⟩ ?_
  have hI2 := putS_i (x := wordX X (L * C) x) hTk.1
  have hsp : ∀ k, k ≠ 46 → k ≠ 47 → putS (kpA A) (wordX X (L * C) x) k = kpA A k := fun k h1 h2 => by unfold putS; rw [u1_n h2, u1_n h1]
  refine x_iret rfl rfl dX9_encode_67 ?_
  rw [← hΦ]
  refine ⟨fun _ => ⟨rfl, hF1.trans frm_now, CLS.nw hR1 (fun k hk => hsp k (by omega) (by omega)) hI2 b2 (rel_sent c3 c5.2.1) (c4.same (fun k k1 k2 _ => hsp k (by omega) (by omega))) (bok_top ⟨hI2, c5.2.1.of (fun k k1 k2 _ => hsp k (by omega) (by omega)), c5.2.2.1.of (fun k k1 k2 _ k4 => hsp k (by omega) (by omega)), by rw [hsp 2 (by omega) (by omega)]; exact hTk.2.2.2⟩ (c5.2.2.2.same c5.2.1 (fun k k1 k2 => hsp k (by omega) (by omega))))⟩, fun q => absurd hc q⟩
theorem x_load {o : Nat} {h : HP} {cap : Nat → Nat} {A im tx tp : Nat → Int} {f4 f5 f6 : Int} {L R C : Nat} {z : Int} (H : CLS o h cap A im tx tp f4 f5 f6 L R C) (hz : ok32 z) : sp mX9_load [.ref o, .int (zI z)] h 8 413 (XPE o h cap im tx tp f4 f5 f6 (some (.int (zI (if 0 ≤ z ∧ z ≤ A 0 - 1 then tx (37 * z.toNat) * tx (37 * z.toNat + 2) else -1)))) (if 0 ≤ z ∧ z ≤ A 0 - 1 then cmA (ldA A tx z.toNat) (tx (37 * z.toNat)).toNat (tx (37 * z.toNat + 1)).toNat (tx (37 * z.toNat + 2)).toNat else A)) := by
  obtain ⟨ow, cd, cb, c, hRs, sa, si, sl, b1, b2, b3, b4, b5⟩ := id H
  have hX := hRs.vx b1 b3 b4 b5
  have hW := hX.vw
  have hT := hRs.top b5
  have hTk := kpA_top hT
  obtain ⟨hI, hV, hSN, hA2⟩ := id hT
  obtain ⟨v1, v2, v3, v4, v5, v6, v7⟩ := id hV
  have hLC := mulLe (a := L) (b := C) (x := 6) (y := 8) (by omega) (by omega)
  have hLR := mulLe (a := L) (b := R) (x := 6) (y := 4) (by omega) (by omega)
  have hLCi : (L : Int) * C = ((L * C : Nat) : Int) := by push_cast; rfl
  have hoo := hRs.1.1
  obtain ⟨o_o, ⟨nh, o_h⟩, -⟩ := id hX
  have o_n : h.2 (o + 8 + 4) = some (.inr (7, sfs (o + 8 + 4) c si sl)) := b1 0 (by omega)
  obtain ⟨⟨-, u2, -⟩, -, u5, -⟩ := id hRs.2.2.2.2.2.2.2.2.2
  have h00 : 0 ≤ A 0 ∧ A 0 ≤ 20 := hI 0
  obtain ⟨txs, o_h2, t2, t3, t4⟩ := id hRs.2.2.2.1.1
  have no : ¬ (0 ≤ z ∧ z ≤ A 0 - 1) → ∀ x2 : Value, wp mX9_load 20 [.ref o, .int (zI z), x2] [] h 8 413 (XPE o h cap im tx tp f4 f5 f6 (some (.int (zI (if 0 ≤ z ∧ z ≤ A 0 - 1 then tx (37 * z.toNat) * tx (37 * z.toNat + 2) else -1)))) (if 0 ≤ z ∧ z ≤ A 0 - 1 then cmA (ldA A tx z.toNat) (tx (37 * z.toNat)).toNat (tx (37 * z.toNat + 1)).toNat (tx (37 * z.toNat + 2)).toNat else A)) := by
    intro hn x2
    rw [if_neg hn, if_neg hn]
    refine w_iconst dX9_load_20 ?_
    exact x_iret rfl rfl dX9_load_21 ⟨rfl, FRM.refl, L, R, C, H⟩
  refine sp_wp rfl (lv := [_, _, _]) rfl (Nat.le_of_ble_eq_true rfl) ?_
  refine w_iload_n dX9_load_0 rfl rfl ?_
  refine w_if_lt 20 dX9_load_1 (by decide) (by first | assumption | (unfold ok32 at *; omega)) (fun w1 => ?_) (fun w1 => ?_)
  · exact no (by omega) _
  refine w_iload_n dX9_load_4 rfl rfl ?_
  refine w_aload_n dX9_load_5 rfl rfl ?_
  refine w_getf fX9_19 dX9_load_6 o_o rfl ?_
  refine w_getf fX9_69 dX9_load_9 o_h2 rfl ?_
  refine w_icmp_ge 20 dX9_load_12 (by decide) hz (by unfold ok32; omega) (fun w2 => no (by omega) _) (fun w2 => ?_)
  refine w_iload_n dX9_load_15 rfl rfl ?_
  refine w_iconst dX9_load_16 ?_
  refine w_icmp_lt 22 dX9_load_17 (by decide) (by unfold ok32; omega) (by unfold ok32; omega) (fun w3 => ?_) (fun w3 => absurd w3 (by omega))
  have hc : 0 ≤ z ∧ z ≤ A 0 - 1 := by omega
  rw [if_pos hc, if_pos hc]
  obtain ⟨zn, hzn⟩ : ∃ zn : Nat, z = (zn : Int) := ⟨z.toNat, by omega⟩
  subst hzn
  rw [Int.toNat_natCast]
  obtain ⟨zn4, c2, L2, R2, C2, x1, x2, x3⟩ := t4 zn (by omega)
  have hVx := x2.vc
  obtain ⟨y1, y2, y3, y4, y5, y6, y7⟩ := id hVx
  have e3 : txB tx (37 * zn) 3 = tx (37 * zn) := rfl
  have e4 : txB tx (37 * zn) 4 = tx (37 * zn + 1) := rfl
  have e5 : txB tx (37 * zn) 5 = tx (37 * zn + 2) := rfl
  have eL : (tx (37 * zn)).toNat = L2 := by omega
  have eR : (tx (37 * zn + 1)).toNat = R2 := by omega
  have eC : (tx (37 * zn + 2)).toNat = C2 := by omega
  rw [eL, eR, eC]
  obtain ⟨d1, d2, d3⟩ := ldA_ok (T := tx) (t := zn) hI hA2 u5 (by omega) (by omega)
  rw [eL, eR, eC] at d2
  have cd2 := t3 zn c2 zn4 x1
  have hld : ∀ k, 3 ≤ k → k < 46 → (k < 8 ∨ 14 ≤ k) → ldA A tx zn k = txB tx (37 * zn) k := fun k k1 k2 k3 => by
    unfold txB
    rcases k3 with k3 | k3
    · rw [if_pos k3, show k = 3 + (k - 3) by omega]
      unfold ldA
      rw [fillR_n (by omega), fillR_i (by omega)]
      congr 1
      omega
    · rw [if_neg (by omega), show k = 14 + (k - 14) by omega]
      unfold ldA
      rw [fillR_i (by omega)]
      congr 1
      omega
  refine w_aload_n dX9_load_22 rfl rfl ?_
  refine w_getf fX9_19 dX9_load_23 o_o rfl ?_
  refine w_getf fX9_76 dX9_load_26 o_h2 rfl ?_
  refine w_iload_n dX9_load_29 rfl rfl ?_
  refine w_aald zn (Or.inl rfl) t2 rfl zn4 (by decide) dX9_load_30 ?_
  rw [x1]
  refine w_astore_n (lv' := [_, _, _]) dX9_load_31 rfl (Nat.le_of_ble_eq_true rfl) rfl rfl ?_
  refine w_aload_n dX9_load_32 rfl rfl ?_
  refine w_ifnonnull 38 dX9_load_33 (by decide) ?_
  refine w_aload_n dX9_load_38 rfl rfl ?_
  refine w_callV (Z := mX9_keep) (As := []) (x_keep hRs ⟨sa, si, sl, b1, b2, b3, b4, b5⟩) o_o rfl kX9_keep lX9_86 iX9_keep vX9_keep dX9_load_39 rfl rfl rfl (Nat.le_of_ble_eq_true rfl) ⟨Nat.le_of_ble_eq_true rfl, Nat.le_of_ble_eq_true rfl⟩ (by omega) (by omega) (fun v h1 q => ?_)
  obtain ⟨rfl, ow1, hK⟩ := q
  obtain ⟨c1, c3, c4, c5⟩ := kp_now hRs b1 b3 b4 b5 hK
  obtain ⟨hR1, hF1, hw1, hs1⟩ := hK
  have hQ1 : CDQ (outS (o + 8 + 4)) h1 c (kpA A) L R C := c4.mono (fun x hx z => by have := hR1.1.2 x (by unfold stZ; omega); have := hx.2; omega) (fun _ _ => rfl)
  obtain ⟨o_o1, ⟨nh1, o_h1⟩, -⟩ := id (hR1.vx c1 c3 c4 c5)
  replace o_o : ∀ {c : Nat} {sa : Nat → Nat → Int} {si : Nat → Int} {sl : Nat → BitVec 64}, (SH (o + 8 + 4) c sa si sl h1).2 o = some (.inr (8, xfs o)) := SHo (by unfold outS; omega) o_o1
  replace o_h : ∀ {c : Nat} {sa : Nat → Nat → Int} {si : Nat → Int} {sl : Nat → BitVec 64}, (SH (o + 8 + 4) c sa si sl h1).2 (o + 8) = some (.inr (4, hfs (o + 8) nh1)) := SHo (by unfold outS; omega) o_h1
  refine w_cast rfl rfl (SCP.self c1).symm ?_
  have x2' : CDQ (CK ow1 h1) h1 c2 (ldA A tx zn) L2 R2 C2 := (cdq_go x2 hF1.1 hw1 (fun x hx ho => hs1 x hx (Or.inl ho))).same hld
  have x2q : CDQ (outS (o + 8 + 4)) h1 c2 (ldA A tx zn) L2 R2 C2 := x2'.mono (fun x hx z => by have := hR1.1.2 x (by unfold stZ; omega); have := hx.2; omega) (fun _ _ => rfl)
  have e12 : ldA A tx zn 12 = kpA A 12 := by unfold ldA; rw [fillR_n (by omega), fillR_n (by omega)]
  refine w_aload_n dX9_load_42 rfl rfl ?_
  refine w_getf fX9_19 dX9_load_43 o_o rfl ?_
  refine w_getf fX9_89 dX9_load_46 o_h rfl ?_
  refine w_aload_n dX9_load_49 rfl rfl ?_
  refine wx_Vv (Z := mX8_come) (As := [_]) (c8_come x2q d1.ok (by rw [e12]; exact c3.1.2.1)) SC0 rfl kX8_come lX9_92 iX8_come vX8_come dX9_load_50 rfl rfl rfl (Nat.le_of_ble_eq_true rfl) ⟨Nat.le_of_ble_eq_true rfl, Nat.le_of_ble_eq_true rfl⟩ (fun q hq => ?_)
  obtain ⟨fs', hfs', hbt⟩ : ∃ fs, (∀ {c1 : Nat} {sa : Nat → Nat → Int} {si : Nat → Int} {sl : Nat → BitVec 64}, (SH (o + 8 + 4) c1 sa si sl h1).2 c2 = some (.inr (2, fs))) ∧ fs[5]? = some (.int (zI ((L2 * C2 : Nat) : Int))) := by
    obtain ⟨ad, f7, f8, f10, f9, f11, rk, cr, -, h6, h7, o_c, r70, r80, r90, r100, r110, e7', e8', e9, e10, hRD, p0, -⟩ := id x2q
    exact ⟨_, SHo p0 o_c, rfl⟩
  refine w_aload_n dX9_load_53 rfl rfl ?_
  refine w_getf fX9_95 dX9_load_54 hfs' hbt ?_
  have hT2 := cmA_top d1 d2 d3
  refine x_iret rfl rfl dX9_load_57 ⟨?_, hF1.trans frm_now, L2, R2, C2, CLS.nw hR1 (fun k hk => (cm_out hk).trans (by unfold ldA; rw [fillR_n (by omega), fillR_n (by omega)])) hT2.1 cd2 hq (x2'.same (fun k k1 k2 k3 => cm_sh k1 k2 k3)) (bok_top hT2 (x3.same hVx (fun k k1 k2 => (cm_sh (by omega) k2 (by omega)).trans (hld k (by omega) k2 (by omega)))))⟩
  rw [show ((L2 * C2 : Nat) : Int) = tx (37 * zn) * tx (37 * zn + 2) by push_cast; rw [← e3, ← e5, y1, y3]]
theorem mr_at {B : Nat → Int} {L i j p q : Nat} {b : Int} (hj : j < 8) (hq : q < 8) : mrA B L i j b (14 + 8 * p + q) = if (p = i ∧ q = j) ∧ ¬ B (14 + 8 * p + q) = -1 then (B (14 + 8 * p + q) + b) % (L : Int) else B (14 + 8 * p + q) := by
  unfold mrA
  by_cases h : p = i ∧ q = j
  · obtain ⟨rfl, rfl⟩ := h
    by_cases h1 : B (14 + 8 * p + q) = -1
    · rw [if_pos h1, if_neg (fun z => z.2 h1)]
    · rw [if_neg h1, if_pos ⟨⟨rfl, rfl⟩, h1⟩, u1_s]
  · refine Eq.trans ?_ (if_neg (fun z => h z.1)).symm
    split
    · rfl
    · rw [u1_n (by omega)]
theorem mr_out {B : Nat → Int} {L i j k : Nat} {b : Int} (hi : i < 4) (hj : j < 8) (hk : k < 14 ∨ 46 ≤ k) : mrA B L i j b k = B k := by
  unfold mrA
  split
  · rfl
  · rw [u1_n (by omega)]
theorem rs_at {B : Nat → Int} {L j p q : Nat} {b : Int} (hj : j < 8) (hq : q < 8) : ∀ {n : Nat}, rsN B L j b n (14 + 8 * p + q) = if (p < n ∧ q = j) ∧ ¬ B (14 + 8 * p + q) = -1 then (B (14 + 8 * p + q) + b) % (L : Int) else B (14 + 8 * p + q)
  | 0 => by
    show B (14 + 8 * p + q) = _
    rw [if_neg (by omega)]
  | n + 1 => by
    have ih := rs_at (B := B) (L := L) (p := p) (b := b) hj hq (n := n)
    show mrA (rsN B L j b n) L n j b (14 + 8 * p + q) = _
    rw [mr_at hj hq]
    by_cases hp : p = n
    · rw [if_neg (by omega)] at ih
      rw [ih]
      by_cases hz : q = j ∧ ¬ B (14 + 8 * p + q) = -1
      · rw [if_pos ⟨⟨hp, hz.1⟩, hz.2⟩, if_pos ⟨⟨by omega, hz.1⟩, hz.2⟩]
      · rw [if_neg (fun z => hz ⟨z.1.2, z.2⟩), if_neg (fun z => hz ⟨z.1.2, z.2⟩)]
    · rw [if_neg (fun z => hp z.1.1), ih]
      by_cases hz : (p < n ∧ q = j) ∧ ¬ B (14 + 8 * p + q) = -1
      · rw [if_pos hz, if_pos ⟨⟨by omega, hz.1.2⟩, hz.2⟩]
      · rw [if_neg hz, if_neg (fun z => hz ⟨⟨by omega, z.1.2⟩, z.2⟩)]
theorem rs_out {B : Nat → Int} {L j k : Nat} {b : Int} (hj : j < 8) (hk : k < 14 ∨ 46 ≤ k) : ∀ {n : Nat}, n ≤ 4 → rsN B L j b n k = B k
  | 0, _ => rfl
  | n + 1, hn => (mr_out (by omega) hj hk).trans (rs_out hj hk (by omega))
theorem sd_at {B : Nat → Int} {L i p q : Nat} {b : Int} (hq : q < 8) : ∀ {n : Nat}, n ≤ 8 → sdN B L i b n (14 + 8 * p + q) = if (p = i ∧ q < n) ∧ ¬ B (14 + 8 * p + q) = -1 then (B (14 + 8 * p + q) + b) % (L : Int) else B (14 + 8 * p + q)
  | 0, _ => by
    show B (14 + 8 * p + q) = _
    rw [if_neg (by omega)]
  | n + 1, hn => by
    have ih := sd_at (B := B) (L := L) (i := i) (p := p) (b := b) hq (n := n) (by omega)
    show mrA (sdN B L i b n) L i n b (14 + 8 * p + q) = _
    rw [mr_at (by omega) hq]
    by_cases hp : q = n
    · rw [if_neg (by omega)] at ih
      rw [ih]
      by_cases hz : p = i ∧ ¬ B (14 + 8 * p + q) = -1
      · rw [if_pos ⟨⟨hz.1, hp⟩, hz.2⟩, if_pos ⟨⟨hz.1, by omega⟩, hz.2⟩]
      · rw [if_neg (fun z => hz ⟨z.1.1, z.2⟩), if_neg (fun z => hz ⟨z.1.1, z.2⟩)]
    · rw [if_neg (fun z => hp z.1.2), ih]
      by_cases hz : (p = i ∧ q < n) ∧ ¬ B (14 + 8 * p + q) = -1
      · rw [if_pos hz, if_pos ⟨⟨hz.1.1, by omega⟩, hz.2⟩]
      · rw [if_neg hz, if_neg (fun z => hz ⟨⟨z.1.1, by omega⟩, z.2⟩)]
theorem sd_out {B : Nat → Int} {L i k : Nat} {b : Int} (hi : i < 4) (hk : k < 14 ∨ 46 ≤ k) : ∀ {n : Nat}, n ≤ 8 → sdN B L i b n k = B k
  | 0, _ => rfl
  | n + 1, hn => (mr_out hi (by omega) hk).trans (sd_out hi hk (by omega))
theorem mv_lt {B : Nat → Int} {L i j : Nat} {z w b : Int} (hL : 1 ≤ L) (h : B (14 + 8 * i + j) < (L : Int)) : mvV B L z w b i j < (L : Int) := by
  unfold mvV
  split
  · exact Int.emod_lt_of_pos _ (by omega)
  · exact h
set_option maxRecDepth 4000 in
theorem x_raise {o : Nat} {h : HP} {cap : Nat → Nat} {A im tx tp : Nat → Int} {f4 f5 f6 : Int} {L R C : Nat} {z x : Int} (H : CLS o h cap A im tx tp f4 f5 f6 L R C) (hz : ok32 z) (hx : ok32 x) : sp mX9_raise [.ref o, .int (zI z), .int (zI x)] h 15 764 (XP o h cap im tx tp f4 f5 f6 L R C (some (.int (zI (bI ((0 ≤ z ∧ z ≤ (C : Int) - 1) ∧ 1 ≤ x ∧ x ≤ 5))))) (raiseA A L R C z x)) := by
  obtain ⟨ow, cd, cb, c, hRs, sa, si, sl, b1, b2, b3, b4, b5⟩ := id H
  have hX := hRs.vx b1 b3 b4 b5
  have hW := hX.vw
  have hT := hRs.top b5
  have hTk := kpA_top hT
  obtain ⟨hI, hV, hSN, hA2⟩ := id hT
  obtain ⟨v1, v2, v3, v4, v5, v6, v7⟩ := id hV
  have hLC := mulLe (a := L) (b := C) (x := 6) (y := 8) (by omega) (by omega)
  have hLR := mulLe (a := L) (b := R) (x := 6) (y := 4) (by omega) (by omega)
  have hLCi : (L : Int) * C = ((L * C : Nat) : Int) := by push_cast; rfl
  have hoo := hRs.1.1
  obtain ⟨o_o, ⟨nh, o_h⟩, -⟩ := id hX
  have o_n : h.2 (o + 8 + 4) = some (.inr (7, sfs (o + 8 + 4) c si sl)) := b1 0 (by omega)
  obtain ⟨ad, f7, f8, f10, f9, f11, rk, cr, -, h6, h7, o_c, r70, r80, r90, r100, r110, e7', e8', e9, e10, hRD, p0, p7, p8, p9, p10, p11⟩ := id b4
  unfold raiseA
  have no : ¬ ((0 ≤ z ∧ z ≤ (C : Int) - 1) ∧ 1 ≤ x ∧ x ≤ 5) → wp mX9_raise 33 [.ref o, .int (zI z), .int (zI x), .ref c] [] h 15 764 (XP o h cap im tx tp f4 f5 f6 L R C (some (.int (zI (bI ((0 ≤ z ∧ z ≤ (C : Int) - 1) ∧ 1 ≤ x ∧ x ≤ 5))))) (if (0 ≤ z ∧ z ≤ (C : Int) - 1) ∧ 1 ≤ x ∧ x ≤ 5 then cmA (rsN (kpA A) L z.toNat x R) L R C else A)) := by
    intro hn
    rw [bI_f hn, if_neg hn]
    refine w_iconst dX9_raise_33 ?_
    exact x_iret rfl rfl dX9_raise_34 ⟨rfl, FRM.refl, H⟩
  refine sp_wp rfl (lv := [_, _, _, _]) rfl (Nat.le_of_ble_eq_true rfl) ?_
  refine w_aload_n dX9_raise_0 rfl rfl ?_
  refine w_getf fX9_19 dX9_raise_1 o_o rfl ?_
  refine w_getf fX9_89 dX9_raise_4 o_h rfl ?_
  refine w_getf fX9_98 dX9_raise_7 o_n rfl ?_
  refine w_astore_n (lv' := [_, _, _, _]) dX9_raise_10 rfl (Nat.le_of_ble_eq_true rfl) rfl rfl ?_
  refine w_iload_n dX9_raise_11 rfl rfl ?_
  refine w_if_lt 33 dX9_raise_12 (by decide) (by first | assumption | (unfold ok32 at *; omega)) (fun w1 => ?_) (fun w1 => ?_)
  · exact no (by omega)
  refine w_iload_n dX9_raise_15 rfl rfl ?_
  refine w_aload_n dX9_raise_16 rfl rfl ?_
  refine w_getf fX9_119 dX9_raise_17 o_c rfl ?_
  refine w_icmp_ge 33 dX9_raise_20 (by decide) (by first | assumption | (unfold ok32 at *; omega)) (by first | assumption | (unfold ok32 at *; omega)) (fun w2 => ?_) (fun w2 => ?_)
  · exact no (by omega)
  refine w_iload_n dX9_raise_23 rfl rfl ?_
  refine w_iconst dX9_raise_24 ?_
  refine w_icmp_lt 33 dX9_raise_25 (by decide) (by first | assumption | (unfold ok32 at *; omega)) (by first | assumption | (unfold ok32 at *; omega)) (fun w3 => ?_) (fun w3 => ?_)
  · exact no (by omega)
  refine w_iload_n dX9_raise_28 rfl rfl ?_
  refine w_iconst dX9_raise_29 ?_
  refine w_icmp_le 35 dX9_raise_30 (by decide) (by first | assumption | (unfold ok32 at *; omega)) (by first | assumption | (unfold ok32 at *; omega)) (fun w4 => ?_) (fun w4 => ?_)
  rotate_left
  · exact no (by omega)
  have hc : (0 ≤ z ∧ z ≤ (C : Int) - 1) ∧ 1 ≤ x ∧ x ≤ 5 := by omega
  rw [bI_t hc, if_pos hc]
  obtain ⟨zn, hzn⟩ : ∃ zn : Nat, z = (zn : Int) := ⟨z.toNat, by omega⟩
  subst hzn
  rw [Int.toNat_natCast]
  refine w_aload_n dX9_raise_35 rfl rfl ?_
  refine w_callV (Z := mX9_keep) (As := []) (x_keep hRs ⟨sa, si, sl, b1, b2, b3, b4, b5⟩) o_o rfl kX9_keep lX9_86 iX9_keep vX9_keep dX9_raise_36 rfl rfl rfl (Nat.le_of_ble_eq_true rfl) ⟨Nat.le_of_ble_eq_true rfl, Nat.le_of_ble_eq_true rfl⟩ (by omega) (by omega) (fun v h1 q => ?_)
  obtain ⟨rfl, ow1, hK⟩ := q
  obtain ⟨c1, c3, c4, c5⟩ := kp_now hRs b1 b3 b4 b5 hK
  obtain ⟨hR1, hF1, -, -⟩ := hK
  have hQ1 : CDQ (outS (o + 8 + 4)) h1 c (kpA A) L R C := c4.mono (fun x hx z => by have := hR1.1.2 x (by unfold stZ; omega); have := hx.2; omega) (fun _ _ => rfl)
  obtain ⟨o_o1, ⟨nh1, o_h1⟩, -⟩ := id (hR1.vx c1 c3 c4 c5)
  replace o_o : h1.2 o = some (.inr (8, xfs o)) := o_o1
  replace o_h : h1.2 (o + 8) = some (.inr (4, hfs (o + 8) nh1)) := o_h1
  replace o_n : h1.2 (o + 8 + 4) = some (.inr (7, sfs (o + 8 + 4) c si sl)) := c1 0 (by omega)
  obtain ⟨i1, i2, i3⟩ := rsN_ok hTk.1 hTk.2.1 hTk.2.2.2 (j := zn) (b := x) (by omega) (n := R) (by omega)
  obtain ⟨E, hE⟩ : ∃ E, rsN (kpA A) L zn x R = E := ⟨_, rfl⟩
  have Eo : ∀ k, k < 14 ∨ 46 ≤ k → E k = kpA A k := fun k hk => by rw [← hE]; exact rs_out (by omega) hk (by omega)
  have Ev : ∀ i, i < R → ∀ j, j < C → E (14 + 8 * i + j) = mvV (kpA A) L (-1) (zn : Int) x i j := fun i hi j hj => by
    rw [← hE]
    rw [rs_at (by omega) (by omega)]
    unfold mvV
    by_cases hq2 : ((i : Int) = -1 ∨ (j : Int) = (zn : Int)) ∧ ¬ kpA A (14 + 8 * i + j) = -1
    · rw [if_pos hq2, if_pos ⟨⟨hi, by omega⟩, hq2.2⟩]
    · rw [if_neg hq2, if_neg (fun q => hq2 ⟨by omega, q.2⟩)]
  rw [hE] at i1 i2 i3 ⊢
  have mv := c2_moved (z := -1) (w := (zn : Int)) (b := x) (D := E) (c4.mono (P' := fun x => x < h1.1) (fun x hx => hx.1) (fun _ _ => rfl)) (by unfold ok32; omega) (by unfold ok32; omega) (by omega) c5.2.2.2 i2 (Eo 6 (by omega)) (Eo 7 (by omega)) Ev
  obtain ⟨ad1, g7, g8', g10, g9', g11, rk1, cr1, -, -, -, o_c1, -⟩ := id c4
  refine w_aload_n dX9_raise_39 rfl rfl ?_
  refine w_getf fX9_19 dX9_raise_40 o_o rfl ?_
  refine w_getf fX9_89 dX9_raise_43 o_h rfl ?_
  refine w_aload_n dX9_raise_46 rfl rfl ?_
  refine w_iconst dX9_raise_47 ?_
  refine w_iload_n dX9_raise_48 rfl rfl ?_
  refine w_iload_n dX9_raise_49 rfl rfl ?_
  refine w_callV (Z := mX2_moved) (As := [_, _, _]) mv o_c1 rfl kX2_moved lX9_122 iX2_moved vX2_moved dX9_raise_50 rfl rfl rfl (Nat.le_of_ble_eq_true rfl) ⟨Nat.le_of_ble_eq_true rfl, Nat.le_of_ble_eq_true rfl⟩ (by omega) (by omega) (fun v h2 q => ?_)
  obtain ⟨rfl, hN⟩ := q
  have sE : SLT E L R C := fun i hi j hj => by rw [Ev i hi j hj]; exact mv_lt (by omega) (c5.2.2.2 i hi j hj)
  obtain ⟨ow2, hR2, hw2, hQ2⟩ := hR1.nwc hN ⟨by omega, by omega⟩
  have ho1 := hR1.1.1
  have hF2 := hF1.trans (frm_nwc hN ho1)
  have hs2 : ∀ x, x < h1.1 → h2.2 x = h1.2 x := hN.2.2.2.2
  have d1 : SCP h2 (o + 8 + 4) c sa si sl := fun j hj => (hs2 _ (by omega)).trans (c1 j hj)
  have hQ2o : CDQ (outS (o + 8 + 4)) h2 (h1.1 + 1) E L R C := hQ2.mono (fun x hx z => by have := hR2.1.2 x (by unfold stZ; omega); have := hx.2; omega) (fun _ _ => rfl)
  refine w_cast rfl rfl (SCP.self d1).symm ?_
  refine wx_Vv (Z := mX8_come) (As := [_]) (c8_come hQ2o i1.ok (by rw [Eo 12 (by omega)]; exact c3.1.2.1)) SC0 rfl kX8_come lX9_92 iX8_come vX8_come dX9_raise_53 rfl rfl rfl (Nat.le_of_ble_eq_true rfl) ⟨Nat.le_of_ble_eq_true rfl, Nat.le_of_ble_eq_true rfl⟩ (fun q hq => ?_)
  refine w_iconst dX9_raise_56 ?_
  have hT2 := cmA_top i1 i2 i3
  exact x_iret rfl rfl dX9_raise_57 ⟨rfl, hF2.trans frm_now, CLS.nw hR2 (fun k hk => (cm_out hk).trans (Eo k (by omega))) hT2.1 (Or.inr rfl) hq (hQ2.same (fun k k1 k2 k3 => cm_sh k1 k2 k3)) (bok_top hT2 (sE.same i2 (fun k k1 k2 => cm_sh (by omega) k2 (by omega))))⟩
set_option maxRecDepth 4000 in
theorem x_slide {o : Nat} {h : HP} {cap : Nat → Nat} {A im tx tp : Nat → Int} {f4 f5 f6 : Int} {L R C : Nat} {z x : Int} (H : CLS o h cap A im tx tp f4 f5 f6 L R C) (hz : ok32 z) (hx : ok32 x) : sp mX9_slide [.ref o, .int (zI z), .int (zI x)] h 15 764 (XP o h cap im tx tp f4 f5 f6 L R C (some (.int (zI (bI ((0 ≤ z ∧ z ≤ (R : Int) - 1) ∧ 1 ≤ x ∧ x ≤ 5))))) (slideA A L R C z x)) := by
  obtain ⟨ow, cd, cb, c, hRs, sa, si, sl, b1, b2, b3, b4, b5⟩ := id H
  have hX := hRs.vx b1 b3 b4 b5
  have hW := hX.vw
  have hT := hRs.top b5
  have hTk := kpA_top hT
  obtain ⟨hI, hV, hSN, hA2⟩ := id hT
  obtain ⟨v1, v2, v3, v4, v5, v6, v7⟩ := id hV
  have hLC := mulLe (a := L) (b := C) (x := 6) (y := 8) (by omega) (by omega)
  have hLR := mulLe (a := L) (b := R) (x := 6) (y := 4) (by omega) (by omega)
  have hLCi : (L : Int) * C = ((L * C : Nat) : Int) := by push_cast; rfl
  have hoo := hRs.1.1
  obtain ⟨o_o, ⟨nh, o_h⟩, -⟩ := id hX
  have o_n : h.2 (o + 8 + 4) = some (.inr (7, sfs (o + 8 + 4) c si sl)) := b1 0 (by omega)
  obtain ⟨ad, f7, f8, f10, f9, f11, rk, cr, -, h6, h7, o_c, r70, r80, r90, r100, r110, e7', e8', e9, e10, hRD, p0, p7, p8, p9, p10, p11⟩ := id b4
  unfold slideA
  have no : ¬ ((0 ≤ z ∧ z ≤ (R : Int) - 1) ∧ 1 ≤ x ∧ x ≤ 5) → wp mX9_slide 33 [.ref o, .int (zI z), .int (zI x), .ref c] [] h 15 764 (XP o h cap im tx tp f4 f5 f6 L R C (some (.int (zI (bI ((0 ≤ z ∧ z ≤ (R : Int) - 1) ∧ 1 ≤ x ∧ x ≤ 5))))) (if (0 ≤ z ∧ z ≤ (R : Int) - 1) ∧ 1 ≤ x ∧ x ≤ 5 then cmA (sdN (kpA A) L z.toNat x C) L R C else A)) := by
    intro hn
    rw [bI_f hn, if_neg hn]
    refine w_iconst dX9_slide_33 ?_
    exact x_iret rfl rfl dX9_slide_34 ⟨rfl, FRM.refl, H⟩
  refine sp_wp rfl (lv := [_, _, _, _]) rfl (Nat.le_of_ble_eq_true rfl) ?_
  refine w_aload_n dX9_slide_0 rfl rfl ?_
  refine w_getf fX9_19 dX9_slide_1 o_o rfl ?_
  refine w_getf fX9_89 dX9_slide_4 o_h rfl ?_
  refine w_getf fX9_98 dX9_slide_7 o_n rfl ?_
  refine w_astore_n (lv' := [_, _, _, _]) dX9_slide_10 rfl (Nat.le_of_ble_eq_true rfl) rfl rfl ?_
  refine w_iload_n dX9_slide_11 rfl rfl ?_
  refine w_if_lt 33 dX9_slide_12 (by decide) (by first | assumption | (unfold ok32 at *; omega)) (fun w1 => ?_) (fun w1 => ?_)
  · exact no (by omega)
  refine w_iload_n dX9_slide_15 rfl rfl ?_
  refine w_aload_n dX9_slide_16 rfl rfl ?_
  refine w_getf fX9_126 dX9_slide_17 o_c rfl ?_
  refine w_icmp_ge 33 dX9_slide_20 (by decide) (by first | assumption | (unfold ok32 at *; omega)) (by first | assumption | (unfold ok32 at *; omega)) (fun w2 => ?_) (fun w2 => ?_)
  · exact no (by omega)
  refine w_iload_n dX9_slide_23 rfl rfl ?_
  refine w_iconst dX9_slide_24 ?_
  refine w_icmp_lt 33 dX9_slide_25 (by decide) (by first | assumption | (unfold ok32 at *; omega)) (by first | assumption | (unfold ok32 at *; omega)) (fun w3 => ?_) (fun w3 => ?_)
  · exact no (by omega)
  refine w_iload_n dX9_slide_28 rfl rfl ?_
  refine w_iconst dX9_slide_29 ?_
  refine w_icmp_le 35 dX9_slide_30 (by decide) (by first | assumption | (unfold ok32 at *; omega)) (by first | assumption | (unfold ok32 at *; omega)) (fun w4 => ?_) (fun w4 => ?_)
  rotate_left
  · exact no (by omega)
  have hc : (0 ≤ z ∧ z ≤ (R : Int) - 1) ∧ 1 ≤ x ∧ x ≤ 5 := by omega
  rw [bI_t hc, if_pos hc]
  obtain ⟨zn, hzn⟩ : ∃ zn : Nat, z = (zn : Int) := ⟨z.toNat, by omega⟩
  subst hzn
  rw [Int.toNat_natCast]
  refine w_aload_n dX9_slide_35 rfl rfl ?_
  refine w_callV (Z := mX9_keep) (As := []) (x_keep hRs ⟨sa, si, sl, b1, b2, b3, b4, b5⟩) o_o rfl kX9_keep lX9_86 iX9_keep vX9_keep dX9_slide_36 rfl rfl rfl (Nat.le_of_ble_eq_true rfl) ⟨Nat.le_of_ble_eq_true rfl, Nat.le_of_ble_eq_true rfl⟩ (by omega) (by omega) (fun v h1 q => ?_)
  obtain ⟨rfl, ow1, hK⟩ := q
  obtain ⟨c1, c3, c4, c5⟩ := kp_now hRs b1 b3 b4 b5 hK
  obtain ⟨hR1, hF1, -, -⟩ := hK
  have hQ1 : CDQ (outS (o + 8 + 4)) h1 c (kpA A) L R C := c4.mono (fun x hx z => by have := hR1.1.2 x (by unfold stZ; omega); have := hx.2; omega) (fun _ _ => rfl)
  obtain ⟨o_o1, ⟨nh1, o_h1⟩, -⟩ := id (hR1.vx c1 c3 c4 c5)
  replace o_o : h1.2 o = some (.inr (8, xfs o)) := o_o1
  replace o_h : h1.2 (o + 8) = some (.inr (4, hfs (o + 8) nh1)) := o_h1
  replace o_n : h1.2 (o + 8 + 4) = some (.inr (7, sfs (o + 8 + 4) c si sl)) := c1 0 (by omega)
  obtain ⟨i1, i2, i3⟩ := sdN_ok hTk.1 hTk.2.1 hTk.2.2.2 (i := zn) (b := x) (by omega) (n := C) (by omega)
  obtain ⟨E, hE⟩ : ∃ E, sdN (kpA A) L zn x C = E := ⟨_, rfl⟩
  have Eo : ∀ k, k < 14 ∨ 46 ≤ k → E k = kpA A k := fun k hk => by rw [← hE]; exact sd_out (by omega) hk (by omega)
  have Ev : ∀ i, i < R → ∀ j, j < C → E (14 + 8 * i + j) = mvV (kpA A) L (zn : Int) (-1) x i j := fun i hi j hj => by
    rw [← hE]
    rw [sd_at (by omega) (by omega)]
    unfold mvV
    by_cases hq2 : ((i : Int) = (zn : Int) ∨ (j : Int) = -1) ∧ ¬ kpA A (14 + 8 * i + j) = -1
    · rw [if_pos hq2, if_pos ⟨⟨by omega, hj⟩, hq2.2⟩]
    · rw [if_neg hq2, if_neg (fun q => hq2 ⟨by omega, q.2⟩)]
  rw [hE] at i1 i2 i3 ⊢
  have mv := c2_moved (z := (zn : Int)) (w := -1) (b := x) (D := E) (c4.mono (P' := fun x => x < h1.1) (fun x hx => hx.1) (fun _ _ => rfl)) (by unfold ok32; omega) (by unfold ok32; omega) (by omega) c5.2.2.2 i2 (Eo 6 (by omega)) (Eo 7 (by omega)) Ev
  obtain ⟨ad1, g7, g8', g10, g9', g11, rk1, cr1, -, -, -, o_c1, -⟩ := id c4
  refine w_aload_n dX9_slide_39 rfl rfl ?_
  refine w_getf fX9_19 dX9_slide_40 o_o rfl ?_
  refine w_getf fX9_89 dX9_slide_43 o_h rfl ?_
  refine w_aload_n dX9_slide_46 rfl rfl ?_
  refine w_iload_n dX9_slide_47 rfl rfl ?_
  refine w_iconst dX9_slide_48 ?_
  refine w_iload_n dX9_slide_49 rfl rfl ?_
  refine w_callV (Z := mX2_moved) (As := [_, _, _]) mv o_c1 rfl kX2_moved lX9_122 iX2_moved vX2_moved dX9_slide_50 rfl rfl rfl (Nat.le_of_ble_eq_true rfl) ⟨Nat.le_of_ble_eq_true rfl, Nat.le_of_ble_eq_true rfl⟩ (by omega) (by omega) (fun v h2 q => ?_)
  obtain ⟨rfl, hN⟩ := q
  have sE : SLT E L R C := fun i hi j hj => by rw [Ev i hi j hj]; exact mv_lt (by omega) (c5.2.2.2 i hi j hj)
  obtain ⟨ow2, hR2, hw2, hQ2⟩ := hR1.nwc hN ⟨by omega, by omega⟩
  have ho1 := hR1.1.1
  have hF2 := hF1.trans (frm_nwc hN ho1)
  have hs2 : ∀ x, x < h1.1 → h2.2 x = h1.2 x := hN.2.2.2.2
  have d1 : SCP h2 (o + 8 + 4) c sa si sl := fun j hj => (hs2 _ (by omega)).trans (c1 j hj)
  have hQ2o : CDQ (outS (o + 8 + 4)) h2 (h1.1 + 1) E L R C := hQ2.mono (fun x hx z => by have := hR2.1.2 x (by unfold stZ; omega); have := hx.2; omega) (fun _ _ => rfl)
  refine w_cast rfl rfl (SCP.self d1).symm ?_
  refine wx_Vv (Z := mX8_come) (As := [_]) (c8_come hQ2o i1.ok (by rw [Eo 12 (by omega)]; exact c3.1.2.1)) SC0 rfl kX8_come lX9_92 iX8_come vX8_come dX9_slide_53 rfl rfl rfl (Nat.le_of_ble_eq_true rfl) ⟨Nat.le_of_ble_eq_true rfl, Nat.le_of_ble_eq_true rfl⟩ (fun q hq => ?_)
  refine w_iconst dX9_slide_56 ?_
  have hT2 := cmA_top i1 i2 i3
  exact x_iret rfl rfl dX9_slide_57 ⟨rfl, hF2.trans frm_now, CLS.nw hR2 (fun k hk => (cm_out hk).trans (Eo k (by omega))) hT2.1 (Or.inr rfl) hq (hQ2.same (fun k k1 k2 k3 => cm_sh k1 k2 k3)) (bok_top hT2 (sE.same i2 (fun k k1 k2 => cm_sh (by omega) k2 (by omega))))⟩

