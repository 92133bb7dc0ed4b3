/-! the face: steps -/
def XP (o : Nat) (h : HP) (cap : Nat → Nat) (im tx tp : Nat → Int) (f4 f5 f6 : Int) (L R C : Nat) (w : Option Value) (D : Nat → Int) : Option Value → HP → Prop := fun v h' => v = w ∧ FRM o h h' ∧ CLS o h' cap D im tx tp f4 f5 f6 L R C
theorem frm_now {o c : Nat} {sa : Nat → Nat → Int} {si : Nat → Int} {sl : Nat → BitVec 64} {h : HP} : FRM o h (SH (o + 8 + 4) c sa si sl h) := ⟨Nat.le_refl _, fun x hx => SHn (by unfold outS; omega)⟩
theorem bok_top {D : Nat → Int} {L R C : Nat} (hT : TOP D L R C) (hS : SLT D L R C) : BOK D L R C := ⟨fun k _ _ => hT.1 k, hT.2.1, hT.2.2.1, hS⟩
theorem SLT.same {B D : Nat → Int} {L R C : Nat} (H : SLT B L R C) (hV : VC B L R C) (hs : ∀ k, 14 ≤ k → k < 46 → D k = B k) : SLT D L R C := fun i hi j hj => by
  have a5 := hV.2.2.2.2.1
  have a6 := hV.2.2.2.2.2.1
  rw [hs _ (by omega) (by omega)]
  exact H i hi j hj
theorem REST.top {o : Nat} {h : HP} {cap : Nat → Nat} {A im tx tp : Nat → Int} {f4 f5 f6 : Int} {ow : Nat → Nat} {cd : Nat → Prop} {cb : Nat → CBK} {L R C : Nat} (H : REST o h cap A im tx tp f4 f5 f6 ow cd cb) (hB : BOK A L R C) : TOP A L R C := by
  obtain ⟨⟨u1', u2, u3⟩, -⟩ := H.2.2.2.2.2.2.2.2.2
  exact ⟨u1', hB.2.1, hB.2.2.1, u3⟩
theorem REST.vx {o : Nat} {h : HP} {cap : Nat → Nat} {A im tx tp : Nat → Int} {f4 f5 f6 : Int} {ow : Nat → Nat} {cd : Nat → Prop} {cb : Nat → CBK} {L R C c : Nat} {sa : Nat → Nat → Int} {si : Nat → Int} {sl : Nat → BitVec 64} (a : REST o h cap A im tx tp f4 f5 f6 ow cd cb) (b1 : SCP h (o + 8 + 4) c sa si sl) (b3 : REL sa si sl A L R C) (b4 : CDQ (CK ow h) h c A L R C) (b5 : BOK A L R C) : VX h o c sa si sl A L R C := by
  obtain ⟨txs, t1, -⟩ := a.2.2.2.1.1
  exact ⟨a.2.2.1, ⟨_, t1⟩, b1, b3, b4.mono (fun x hx z => by have := a.1.2 x z; have := hx.2; omega) (fun _ _ => rfl), a.top b5⟩
theorem CLS.nw {o : Nat} {h : HP} {cap : Nat → Nat} {A D im tx tp : Nat → Int} {f4 f5 f6 : Int} {ow : Nat → Nat} {cd : Nat → Prop} {cb : Nat → CBK} {L R C c : Nat} {sa : Nat → Nat → Int} {si : Nat → Int} {sl : Nat → BitVec 64} (a : REST o h cap A im tx tp f4 f5 f6 ow cd cb) (hD : ∀ k, k < 3 ∨ 433 ≤ k → D k = A k) (hI : INV D) (hc : cd c) (hR : REL sa si sl D L R C) (hQ : CDQ (CK ow h) h c D L R C) (hB : BOK D L R C) : CLS o (SH (o + 8 + 4) c sa si sl h) cap D im tx tp f4 f5 f6 L R C := by
  have hz := a.1.2
  have hn : ∀ x, 1 ≤ ow x → outS (o + 8 + 4) x := fun x ho z => by have := hz x (by unfold stZ; omega); omega
  refine ⟨ow, cd, cb, c, a.go rfl (fun x _ hx => SHn ?_) hD hI, sa, si, sl, SCP.sh, hc, hR, hQ.mono (fun _ z => z) (fun x hx => SHn (hn x (by have := hx.2; omega))), hB⟩
  unfold rsC at hx
  rcases hx with w | w | w | w | w
  · exact hn x w
  · unfold outS; omega
  · unfold outS; omega
  · unfold outS; omega
  · unfold outS; omega
/-- what is now stays when a step is kept -/
theorem kp_now {o : Nat} {h h1 : HP} {cap : Nat → Nat} {A im tx tp : Nat → Int} {f4 f5 f6 : Int} {ow ow1 : Nat → Nat} {cd : Nat → Prop} {cb : Nat → CBK} {L R C c : Nat} {sa : Nat → Nat → Int} {si : Nat → Int} {sl : Nat → BitVec 64} (a : REST o h cap A im tx tp f4 f5 f6 ow cd cb) (b1 : SCP h (o + 8 + 4) c sa si sl) (b3 : REL sa si sl A L R C) (b4 : CDQ (CK ow h) h c A L R C) (b5 : BOK A L R C) (k : KPT o h h1 cap A im tx tp f4 f5 f6 ow ow1 cd cb) : SCP h1 (o + 8 + 4) c sa si sl ∧ REL sa si sl (kpA A) L R C ∧ CDQ (CK ow1 h1) h1 c (kpA A) L R C ∧ BOK (kpA A) L R C := by
  obtain ⟨k1, k2, k3, k4⟩ := k
  have a1 := a.1.1
  refine ⟨fun j hj => (k4 _ (by omega) (Or.inr (by omega))).trans (b1 j hj), b3.same b5.2.1 (fun k h1 h2 => kpA_n h1 h2), (cdq_go b4 k2.1 k3 (fun x hx ho => k4 x hx (Or.inl ho))).same (fun k h1 h2 _ => kpA_n h1 (by omega)), b5.same (fun k h1 h2 => kpA_n h1 h2)⟩
theorem lo48 {k : Nat} (hk : k < 48) : loA (48 + k) = -31 := by unfold loA; (repeat' split) <;> omega
theorem hi48 {k : Nat} (hk : k < 48) : hiA (48 + k) = 31 := by unfold hiA; (repeat' split) <;> omega
theorem rel_hear {sa : Nat → Nat → Int} {si : Nat → Int} {sl : Nat → BitVec 64} {B : Nat → Int} {L R C z : Nat} {x : Int} (H : REL sa si sl B L R C) (hV : VC B L R C) (hz : z < 48) : REL (u1 sa 1 (u1 (sa 1) z x)) si sl (u1 B (48 + z) x) L R C := by
  obtain ⟨⟨s1, s2, s3, s4, s5, s6⟩, ⟨g8, g9⟩, ⟨n, l7, lb, hBK⟩, b1, b2, b3, b4, b6⟩ := H
  obtain ⟨v1, v2, v3, v4, v5, v6, v7⟩ := id hV
  have hLC := mulLe (a := L) (b := C) (x := 6) (y := 8) (by omega) (by omega)
  have hLR := mulLe (a := L) (b := R) (x := 6) (y := 4) (by omega) (by omega)
  have hs : ∀ k, k < 48 ∨ 96 ≤ k → u1 B (48 + z) x k = B k := fun k hk => u1_n (by omega)
  have hsh : ∀ k, k < 32 → shA (u1 B (48 + z) x) k = shA B k := fun k hk => hs (14 + k) (by omega)
  have hg : gA (u1 B (48 + z) x) (L * C) = gA B (L * C) := gset_c (fun b hb => hs (96 + b) (by omega))
  have hcs : ∀ i, i < L * R → cs (u1 B (48 + z) x) L C i = cs B L C i := fun i hi => csetN_sh (fun j hj => hsh _ (by have := rowLt hi v4.1; omega))
  refine ⟨⟨?_, s2.trans (hs 12 (by omega)).symm, s3.trans (hs 8 (by omega)).symm, s4.trans (hs 9 (by omega)).symm, s5.trans (hs 10 (by omega)).symm, s6.trans (hs 11 (by omega)).symm⟩, ⟨by rw [hg]; exact g8, by rw [hg, oddN_c hcs]; exact g9⟩, ⟨n, l7, by rw [hs 10 (by omega), hs 11 (by omega)]; exact lb, hBK.same (fun _ _ => rfl) (fun k h1 h2 => hs k (by omega))⟩, fun b hb => ?_, fun b hb => ?_, fun b hb => ?_, fun k hk j hj hok => ?_, fun p hp => ?_⟩
  · rw [s1]
    exact (sentB_c (hs 46 (by omega)) (hs 47 (by omega))).symm
  · rw [u1_s]
    by_cases hbz : b = z
    · rw [hbz, u1_s, u1_s]
    · rw [u1_n hbz, u1_n (by omega)]; exact b1 b hb
  · rw [u1_n (by decide), b2 b hb, hs _ (by omega)]
  · rw [u1_n (by decide), b3 b hb, hs _ (by omega)]
  · have e : okc (shA (u1 B (48 + z) x)) L k j = okc (shA B) L k j := by
      unfold okc bitN
      rw [hsh _ (by have := rowLt hk v4.1; omega)]
    rw [e] at hok
    rw [u1_n (by decide), b4 k hk j hj hok, hs _ (by omega)]
  · rw [u1_n (by decide), b6 p hp, hs 13 (by omega)]
theorem rel_draw {sa : Nat → Nat → Int} {si : Nat → Int} {sl : Nat → BitVec 64} {B : Nat → Int} {L R C : Nat} {lv sp : Int} {g : Nat → Int} (H : REL sa si sl B L R C) (hV : VC B L R C) (hg0 : ∀ b, b < L * C → g b = snN B (sentB B) lv sp (L * C) (48 + b)) : REL (u1 sa 1 g) (u1 si 2 (snN B (sentB B) lv sp (L * C) 12)) sl (snN B (sentB B) lv sp (L * C)) L R C := by
  obtain ⟨⟨s1, s2, s3, s4, s5, s6⟩, ⟨g8, g9⟩, ⟨n, l7, lb, hBK⟩, b1, b2, b3, b4, b6⟩ := H
  obtain ⟨v1, v2, v3, v4, v5, v6, v7⟩ := id hV
  have hLC := mulLe (a := L) (b := C) (x := 6) (y := 8) (by omega) (by omega)
  have hLR := mulLe (a := L) (b := R) (x := 6) (y := 4) (by omega) (by omega)
  obtain ⟨D, hD⟩ : ∃ D, snN B (sentB B) lv sp (L * C) = D := ⟨_, rfl⟩
  have hs : ∀ k, k ≠ 12 → k < 48 ∨ 96 ≤ k → D k = B k := fun k h1 hk => by rw [← hD]; exact snN_n h1 (by omega)
  rw [hD] at hg0 ⊢
  have hsh : ∀ k, k < 32 → shA D k = shA B k := fun k hk => hs (14 + k) (by omega) (by omega)
  have hg : gA D (L * C) = gA B (L * C) := gset_c (fun b hb => hs (96 + b) (by omega) (by omega))
  have hcs : ∀ i, i < L * R → cs D L C i = cs B L C i := fun i hi => csetN_sh (fun j hj => hsh _ (by have := rowLt hi v4.1; omega))
  refine ⟨⟨?_, u1_s, (u1_n (by decide)).trans (s3.trans (hs 8 (by omega) (by omega)).symm), (u1_n (by decide)).trans (s4.trans (hs 9 (by omega) (by omega)).symm), (u1_n (by decide)).trans (s5.trans (hs 10 (by omega) (by omega)).symm), (u1_n (by decide)).trans (s6.trans (hs 11 (by omega) (by omega)).symm)⟩, ⟨by rw [hg]; exact g8, by rw [hg, oddN_c hcs, u1_n (by decide)]; exact g9⟩, ⟨n, (u1_n (by decide)).trans l7, by rw [hs 10 (by omega) (by omega), hs 11 (by omega) (by omega)]; exact lb, hBK.same (fun k hk => by rw [u1_n (by decide)]) (fun k h1 h2 => hs k (by omega) (by omega))⟩, fun b hb => ?_, fun b hb => ?_, fun b hb => ?_, fun k hk j hj hok => ?_, fun p hp => ?_⟩
  · rw [s1]
    exact (sentB_c (hs 46 (by omega) (by omega)) (hs 47 (by omega) (by omega))).symm
  · rw [u1_s]; exact hg0 b hb
  · rw [u1_n (by decide), b2 b hb, hs _ (by omega) (by omega)]
  · rw [u1_n (by decide), b3 b hb, hs _ (by omega) (by omega)]
  · have e : okc (shA D) L k j = okc (shA B) L k j := by
      unfold okc bitN
      rw [hsh _ (by have := rowLt hk v4.1; omega)]
    rw [e] at hok
    rw [u1_n (by decide), b4 k hk j hj hok, hs _ (by omega) (by omega)]
  · rw [u1_n (by decide), b6 p hp, hs 13 (by omega) (by omega)]
theorem rel_tell {sa : Nat → Nat → Int} {si : Nat → Int} {sl : Nat → BitVec 64} {B : Nat → Int} {L R C : Nat} {x : Int} (H : REL sa si sl B L R C) (hV : VC B L R C) : REL sa (u1 si 2 x) sl (u1 B 12 x) L R C := by
  obtain ⟨⟨s1, s2, s3, s4, s5, s6⟩, ⟨g8, g9⟩, ⟨n, l7, lb, hBK⟩, b1, b2, b3, b4, b6⟩ := H
  obtain ⟨v1, v2, v3, v4, v5, v6, v7⟩ := id hV
  have hLC := mulLe (a := L) (b := C) (x := 6) (y := 8) (by omega) (by omega)
  have hLR := mulLe (a := L) (b := R) (x := 6) (y := 4) (by omega) (by omega)
  have hs : ∀ k, k ≠ 12 → u1 B 12 x k = B k := fun k hk => u1_n hk
  have hsh : ∀ k, k < 32 → shA (u1 B 12 x) k = shA B k := fun k hk => hs (14 + k) (by omega)
  have hg : gA (u1 B 12 x) (L * C) = gA B (L * C) := gset_c (fun b hb => hs (96 + b) (by omega))
  have hcs : ∀ i, i < L * R → cs (u1 B 12 x) L C i = cs B L C i := fun i hi => csetN_sh (fun j hj => hsh _ (by have := rowLt hi v4.1; omega))
  refine ⟨⟨?_, by rw [u1_s, u1_s], (u1_n (by decide)).trans (s3.trans (hs 8 (by omega)).symm), (u1_n (by decide)).trans (s4.trans (hs 9 (by omega)).symm), (u1_n (by decide)).trans (s5.trans (hs 10 (by omega)).symm), (u1_n (by decide)).trans (s6.trans (hs 11 (by omega)).symm)⟩, ⟨by rw [hg]; exact g8, by rw [hg, oddN_c hcs, u1_n (by decide)]; exact g9⟩, ⟨n, (u1_n (by decide)).trans l7, by rw [hs 10 (by omega), hs 11 (by omega)]; exact lb, hBK.same (fun _ _ => rfl) (fun k h1 h2 => hs k (by omega))⟩, fun b hb => ?_, fun b hb => ?_, fun b hb => ?_, fun k hk j hj hok => ?_, fun p hp => ?_⟩
  · rw [s1]
    exact (sentB_c (hs 46 (by omega)) (hs 47 (by omega))).symm
  · rw [b1 b hb, hs _ (by omega)]
  · rw [b2 b hb, hs _ (by omega)]
  · rw [b3 b hb, hs _ (by omega)]
  · have e : okc (shA (u1 B 12 x)) L k j = okc (shA B) L k j := by
      unfold okc bitN
      rw [hsh _ (by have := rowLt hk v4.1; omega)]
    rw [e] at hok
    rw [b4 k hk j hj hok, hs _ (by omega)]
  · rw [b6 p hp, hs 13 (by omega)]
theorem x_hear {o : Nat} {h : HP} {cap : Nat → Nat} {A im tx tp : Nat → Int} {f4 f5 f6 : Int} {L R C : Nat} {z x : Int} (H : CLS o h cap A im tx tp f4 f5 f6 L R C) (hz : ok32 z) (hx : ok32 x) : sp mX9_hear [.ref o, .int (zI z), .int (zI x)] h 8 413 (XP o h cap im tx tp f4 f5 f6 L R C (some (.int (zI (bI ((0 ≤ z ∧ z ≤ (L : Int) * C - 1) ∧ -31 ≤ x ∧ x ≤ 31))))) (if (0 ≤ z ∧ z ≤ (L : Int) * C - 1) ∧ -31 ≤ x ∧ x ≤ 31 then u1 (kpA A) (48 + z.toNat) x else A)) := by
  obtain ⟨ow, cd, cb, c, hRs, sa, si, sl, b1, b2, b3, b4, b5⟩ := id H
  have hX := hRs.vx b1 b3 b4 b5
  have hW := hX.vw
  have hT := hRs.top b5
  have hTk := kpA_top hT
  obtain ⟨hI, hV, hSN, hA2⟩ := id hT
  obtain ⟨v1, v2, v3, v4, v5, v6, v7⟩ := id hV
  have hLC := mulLe (a := L) (b := C) (x := 6) (y := 8) (by omega) (by omega)
  have hLR := mulLe (a := L) (b := R) (x := 6) (y := 4) (by omega) (by omega)
  have hLCi : (L : Int) * C = ((L * C : Nat) : Int) := by push_cast; rfl
  have hoo := hRs.1.1
  obtain ⟨o_o, ⟨nh, o_h⟩, -⟩ := id hX
  have o_n : h.2 (o + 8 + 4) = some (.inr (7, sfs (o + 8 + 4) c si sl)) := b1 0 (by omega)
  have no : ¬ ((0 ≤ z ∧ z ≤ (L : Int) * C - 1) ∧ -31 ≤ x ∧ x ≤ 31) → wp mX9_hear 20 [.ref o, .int (zI z), .int (zI x)] [] h 8 413 (XP o h cap im tx tp f4 f5 f6 L R C (some (.int (zI (bI ((0 ≤ z ∧ z ≤ (L : Int) * C - 1) ∧ -31 ≤ x ∧ x ≤ 31))))) (if (0 ≤ z ∧ z ≤ (L : Int) * C - 1) ∧ -31 ≤ x ∧ x ≤ 31 then u1 (kpA A) (48 + z.toNat) x else A)) := by
    intro hn
    rw [bI_f hn, if_neg hn]
    refine w_iconst dX9_hear_20 ?_
    exact x_iret rfl rfl dX9_hear_21 ⟨rfl, FRM.refl, H⟩
  refine sp_wp rfl (lv := [_, _, _]) rfl (Nat.le_of_ble_eq_true rfl) ?_
  refine w_aload_n dX9_hear_0 rfl rfl ?_
  refine w_iload_n dX9_hear_1 rfl rfl ?_
  refine wc_V (Z := mX9_isBit) (As := [_]) (x_isBit hW hz) o_o rfl kX9_isBit lX9_129 iX9_isBit vX9_isBit dX9_hear_2 rfl rfl rfl (Nat.le_of_ble_eq_true rfl) ⟨Nat.le_of_ble_eq_true rfl, Nat.le_of_ble_eq_true rfl⟩ ?_
  refine w_ifb_eq 20 dX9_hear_5 (by decide) (fun h1 => ?_) (fun h1 => ?_)
  · exact no (fun q => h1 q.1)
  refine w_iload_n dX9_hear_8 rfl rfl ?_
  refine w_bipush dX9_hear_9 (by decide) ?_
  refine w_icmp_lt 20 dX9_hear_11 (by decide) (by first | assumption | (unfold ok32 at *; omega)) (by first | assumption | (unfold ok32 at *; omega)) (fun h2 => ?_) (fun h2 => ?_)
  · exact no (by omega)
  refine w_iload_n dX9_hear_14 rfl rfl ?_
  refine w_bipush dX9_hear_15 (by decide) ?_
  refine w_icmp_le 22 dX9_hear_17 (by decide) (by first | assumption | (unfold ok32 at *; omega)) (by first | assumption | (unfold ok32 at *; omega)) (fun h3 => ?_) (fun h3 => ?_)
  rotate_left
  · exact no (by omega)
  have hc : (0 ≤ z ∧ z ≤ (L : Int) * C - 1) ∧ -31 ≤ x ∧ x ≤ 31 := ⟨h1, by omega, by omega⟩
  rw [bI_t hc, if_pos hc]
  obtain ⟨zn, hzn⟩ : ∃ zn : Nat, z = (zn : Int) := ⟨z.toNat, by omega⟩
  subst hzn
  rw [Int.toNat_natCast]
  refine w_aload_n dX9_hear_22 rfl rfl ?_
  refine w_callV (Z := mX9_keep) (As := []) (x_keep hRs ⟨sa, si, sl, b1, b2, b3, b4, b5⟩) o_o rfl kX9_keep lX9_86 iX9_keep vX9_keep dX9_hear_23 rfl rfl rfl (Nat.le_of_ble_eq_true rfl) ⟨Nat.le_of_ble_eq_true rfl, Nat.le_of_ble_eq_true rfl⟩ (by omega) (by omega) (fun v h1 q => ?_)
  obtain ⟨rfl, ow1, hK⟩ := q
  obtain ⟨c1, c3, c4, c5⟩ := kp_now hRs b1 b3 b4 b5 hK
  obtain ⟨hR1, hF1, -, -⟩ := hK
  have hQ1 : CDQ (outS (o + 8 + 4)) h1 c (kpA A) L R C := c4.mono (fun x hx z => by have := hR1.1.2 x (by unfold stZ; omega); have := hx.2; omega) (fun _ _ => rfl)
  obtain ⟨o_o1, ⟨nh1, o_h1⟩, -⟩ := id (hR1.vx c1 c3 c4 c5)
  replace o_o : ∀ {c : Nat} {sa : Nat → Nat → Int} {si : Nat → Int} {sl : Nat → BitVec 64}, (SH (o + 8 + 4) c sa si sl h1).2 o = some (.inr (8, xfs o)) := SHo (by unfold outS; omega) o_o1
  replace o_h : ∀ {c : Nat} {sa : Nat → Nat → Int} {si : Nat → Int} {sl : Nat → BitVec 64}, (SH (o + 8 + 4) c sa si sl h1).2 (o + 8) = some (.inr (4, hfs (o + 8) nh1)) := SHo (by unfold outS; omega) o_h1
  refine w_cast rfl rfl (SCP.self c1).symm ?_
  refine w_aload_n dX9_hear_26 rfl rfl ?_
  refine w_getf fX9_19 dX9_hear_27 o_o rfl ?_
  refine w_getf fX9_89 dX9_hear_30 o_h rfl ?_
  refine w_getf fX9_133 dX9_hear_33 SC0 rfl ?_
  refine w_iload_n dX9_hear_36 rfl rfl ?_
  refine w_iload_n dX9_hear_37 rfl rfl ?_
  refine sc_ist1 (zn) (by first | rfl | omega | (push_cast; rfl) | (push_cast; omega)) (by omega) dX9_hear_38 ?_
  refine w_iconst dX9_hear_39 ?_
  have hI2 : INV (u1 (kpA A) (48 + zn) x) := hTk.1.put (by rw [lo48 (by omega), hi48 (by omega)]; omega)
  exact x_iret rfl rfl dX9_hear_40 ⟨rfl, hF1.trans frm_now, CLS.nw hR1 (fun k hk => u1_n (by omega)) hI2 b2 (rel_hear c3 c5.2.1 (by omega)) (c4.same (fun k k1 k2 _ => u1_n (by omega))) (bok_top ⟨hI2, c5.2.1.put (by omega) (by omega), c5.2.2.1.of (fun k k1 k2 _ k4 => u1_n (by omega)), by rw [u1_n (by omega)]; exact hTk.2.2.2⟩ (c5.2.2.2.same c5.2.1 (fun k k1 k2 => u1_n (by omega))))⟩
theorem x_tell {o : Nat} {h : HP} {cap : Nat → Nat} {A im tx tp : Nat → Int} {f4 f5 f6 : Int} {L R C : Nat} {z : Int} (H : CLS o h cap A im tx tp f4 f5 f6 L R C) (hz : ok32 z) : sp mX9_tell [.ref o, .int (zI z)] h 0 0 (XP o h cap im tx tp f4 f5 f6 L R C (some (.int (zI (bI (0 ≤ z ∧ z ≤ 30070))))) (if 0 ≤ z ∧ z ≤ 30070 then u1 A 12 z else A)) := by
  obtain ⟨ow, cd, cb, c, hRs, sa, si, sl, b1, b2, b3, b4, b5⟩ := id H
  have hX := hRs.vx b1 b3 b4 b5
  have hW := hX.vw
  have hT := hRs.top b5
  have hTk := kpA_top hT
  obtain ⟨hI, hV, hSN, hA2⟩ := id hT
  obtain ⟨v1, v2, v3, v4, v5, v6, v7⟩ := id hV
  have hLC := mulLe (a := L) (b := C) (x := 6) (y := 8) (by omega) (by omega)
  have hLR := mulLe (a := L) (b := R) (x := 6) (y := 4) (by omega) (by omega)
  have hLCi : (L : Int) * C = ((L * C : Nat) : Int) := by push_cast; rfl
  have hoo := hRs.1.1
  obtain ⟨o_o, ⟨nh, o_h⟩, -⟩ := id hX
  have o_n : h.2 (o + 8 + 4) = some (.inr (7, sfs (o + 8 + 4) c si sl)) := b1 0 (by omega)
  have no : ¬ (0 ≤ z ∧ z ≤ 30070) → wp mX9_tell 11 [.ref o, .int (zI z)] [] h 0 0 (XP o h cap im tx tp f4 f5 f6 L R C (some (.int (zI (bI (0 ≤ z ∧ z ≤ 30070))))) (if 0 ≤ z ∧ z ≤ 30070 then u1 A 12 z else A)) := by
    intro hn
    rw [bI_f hn, if_neg hn]
    refine w_iconst dX9_tell_11 ?_
    exact x_iret rfl rfl dX9_tell_12 ⟨rfl, FRM.refl, H⟩
  refine sp_wp rfl (lv := [_, _]) rfl (Nat.le_of_ble_eq_true rfl) ?_
  refine w_iload_n dX9_tell_0 rfl rfl ?_
  refine w_if_lt 11 dX9_tell_1 (by decide) (by first | assumption | (unfold ok32 at *; omega)) (fun h1 => ?_) (fun h1 => ?_)
  · exact no (by omega)
  refine w_iload_n dX9_tell_4 rfl rfl ?_
  refine w_sipush dX9_tell_5 (by decide) ?_
  refine w_icmp_le 13 dX9_tell_8 (by decide) (by first | assumption | (unfold ok32 at *; omega)) (by first | assumption | (unfold ok32 at *; omega)) (fun h2 => ?_) (fun h2 => ?_)
  rotate_left
  · exact no (by omega)
  have hc : 0 ≤ z ∧ z ≤ 30070 := by omega
  rw [bI_t hc, if_pos hc]
  replace o_o : ∀ {c : Nat} {sa : Nat → Nat → Int} {si : Nat → Int} {sl : Nat → BitVec 64}, (SH (o + 8 + 4) c sa si sl h).2 o = some (.inr (8, xfs o)) := SHo (by unfold outS; omega) o_o
  replace o_h : ∀ {c : Nat} {sa : Nat → Nat → Int} {si : Nat → Int} {sl : Nat → BitVec 64}, (SH (o + 8 + 4) c sa si sl h).2 (o + 8) = some (.inr (4, hfs (o + 8) nh)) := SHo (by unfold outS; omega) o_h
  refine w_cast rfl rfl (SCP.self b1).symm ?_
  refine w_aload_n dX9_tell_13 rfl rfl ?_
  refine w_getf fX9_19 dX9_tell_14 o_o rfl ?_
  refine w_getf fX9_89 dX9_tell_17 o_h rfl ?_
  refine w_iload_n dX9_tell_20 rfl rfl ?_
  refine sc_pf2 fX9_184 dX9_tell_21 ?_
  refine w_iconst dX9_tell_24 ?_
  have hI2 : INV (u1 A 12 z) := hI.put (show (0 : Int) ≤ z ∧ z ≤ 30070 by omega)
  exact x_iret rfl rfl dX9_tell_25 ⟨rfl, frm_now, CLS.nw hRs (fun k hk => u1_n (by omega)) hI2 b2 (rel_tell b3 hV) (b4.same (fun k k1 k2 _ => u1_n (by omega))) (bok_top ⟨hI2, hV.put (by omega) (by omega), hSN.of (fun k k1 k2 k3 _ => u1_n k3), by rw [u1_n (by omega)]; exact hA2⟩ (b5.2.2.2.same hV (fun k k1 k2 => u1_n (by omega))))⟩
theorem bok_bg {B : Nat → Int} {L R C : Nat} {m : Int} (hT : TOP B L R C) (hS : SLT B L R C) (hm : 0 ≤ m ∧ m ≤ 1) : BOK (bgA B m L R C) L R C := bok_top (bg_top hT hm) (hS.same hT.2.1 (fun k k1 k2 => bgA_n (by omega) (by omega) (by omega) (by omega) (by omega)))
theorem bg_out {B : Nat → Int} {L R C k : Nat} {m : Int} (hk : k < 3 ∨ 433 ≤ k) : bgA B m L R C k = B k := bgA_n (by omega) (by omega) (by omega) (by omega) (by omega)
theorem x_begin {o : Nat} {h : HP} {cap : Nat → Nat} {A im tx tp : Nat → Int} {f4 f5 f6 : Int} {L R C : Nat} {z : Int} (H : CLS o h cap A im tx tp f4 f5 f6 L R C) (hz : ok32 z) : sp mX9_begin [.ref o, .int (zI z)] h 8 413 (XP o h cap im tx tp f4 f5 f6 L R C (some (.int (zI (if 0 ≤ z ∧ z ≤ 1 then bgA (kpA A) z L R C 9 else -1)))) (if 0 ≤ z ∧ z ≤ 1 then bgA (kpA A) z L R C else A)) := by
  obtain ⟨ow, cd, cb, c, hRs, sa, si, sl, b1, b2, b3, b4, b5⟩ := id H
  have hX := hRs.vx b1 b3 b4 b5
  have hW := hX.vw
  have hT := hRs.top b5
  have hTk := kpA_top hT
  obtain ⟨hI, hV, hSN, hA2⟩ := id hT
  obtain ⟨v1, v2, v3, v4, v5, v6, v7⟩ := id hV
  have hLC := mulLe (a := L) (b := C) (x := 6) (y := 8) (by omega) (by omega)
  have hLR := mulLe (a := L) (b := R) (x := 6) (y := 4) (by omega) (by omega)
  have hLCi : (L : Int) * C = ((L * C : Nat) : Int) := by push_cast; rfl
  have hoo := hRs.1.1
  obtain ⟨o_o, ⟨nh, o_h⟩, -⟩ := id hX
  have o_n : h.2 (o + 8 + 4) = some (.inr (7, sfs (o + 8 + 4) c si sl)) := b1 0 (by omega)
  have no : ¬ (0 ≤ z ∧ z ≤ 1) → wp mX9_begin 9 [.ref o, .int (zI z)] [] h 8 413 (XP o h cap im tx tp f4 f5 f6 L R C (some (.int (zI (if 0 ≤ z ∧ z ≤ 1 then bgA (kpA A) z L R C 9 else -1)))) (if 0 ≤ z ∧ z ≤ 1 then bgA (kpA A) z L R C else A)) := by
    intro hn
    rw [if_neg hn, if_neg hn]
    refine w_iconst dX9_begin_9 ?_
    exact x_iret rfl rfl dX9_begin_10 ⟨rfl, FRM.refl, H⟩
  have yes : (0 ≤ z ∧ z ≤ 1) → wp mX9_begin 11 [.ref o, .int (zI z)] [] h 8 413 (XP o h cap im tx tp f4 f5 f6 L R C (some (.int (zI (if 0 ≤ z ∧ z ≤ 1 then bgA (kpA A) z L R C 9 else -1)))) (if 0 ≤ z ∧ z ≤ 1 then bgA (kpA A) z L R C else A)) := by
    intro hc
    rw [if_pos hc, if_pos hc]
    refine w_aload_n dX9_begin_11 rfl rfl ?_
    refine w_callV (Z := mX9_keep) (As := []) (x_keep hRs ⟨sa, si, sl, b1, b2, b3, b4, b5⟩) o_o rfl kX9_keep lX9_86 iX9_keep vX9_keep dX9_begin_12 rfl rfl rfl (Nat.le_of_ble_eq_true rfl) ⟨Nat.le_of_ble_eq_true rfl, Nat.le_of_ble_eq_true rfl⟩ (by omega) (by omega) (fun v h1 q => ?_)
    obtain ⟨rfl, ow1, hK⟩ := q
    obtain ⟨c1, c3, c4, c5⟩ := kp_now hRs b1 b3 b4 b5 hK
    obtain ⟨hR1, hF1, -, -⟩ := hK
    have hQ1 : CDQ (outS (o + 8 + 4)) h1 c (kpA A) L R C := c4.mono (fun x hx z => by have := hR1.1.2 x (by unfold stZ; omega); have := hx.2; omega) (fun _ _ => rfl)
    obtain ⟨o_o1, ⟨nh1, o_h1⟩, -⟩ := id (hR1.vx c1 c3 c4 c5)
    replace o_o : ∀ {c : Nat} {sa : Nat → Nat → Int} {si : Nat → Int} {sl : Nat → BitVec 64}, (SH (o + 8 + 4) c sa si sl h1).2 o = some (.inr (8, xfs o)) := SHo (by unfold outS; omega) o_o1
    replace o_h : ∀ {c : Nat} {sa : Nat → Nat → Int} {si : Nat → Int} {sl : Nat → BitVec 64}, (SH (o + 8 + 4) c sa si sl h1).2 (o + 8) = some (.inr (4, hfs (o + 8) nh1)) := SHo (by unfold outS; omega) o_h1
    refine w_cast rfl rfl (SCP.self c1).symm ?_
    refine w_aload_n dX9_begin_15 rfl rfl ?_
    refine w_getf fX9_19 dX9_begin_16 o_o rfl ?_
    refine w_getf fX9_89 dX9_begin_19 o_h rfl ?_
    refine w_iload_n dX9_begin_22 rfl rfl ?_
    refine wx_Vv (Z := mX8_start) (As := [_]) (c8_start (m := z) hQ1 hTk.1.ok c3.pre) SC0 rfl kX8_start lX9_147 iX8_start vX8_start dX9_begin_23 rfl rfl rfl (Nat.le_of_ble_eq_true rfl) ⟨Nat.le_of_ble_eq_true rfl, Nat.le_of_ble_eq_true rfl⟩ (fun q hq => ?_)
    refine w_aload_n dX9_begin_26 rfl rfl ?_
    refine w_getf fX9_19 dX9_begin_27 o_o rfl ?_
    refine w_getf fX9_89 dX9_begin_30 o_h rfl ?_
    refine w_getf fX9_150 dX9_begin_33 SC0 rfl ?_
    refine x_iret rfl rfl dX9_begin_36 ⟨?_, hF1.trans frm_now, CLS.nw hR1 (fun k hk => bg_out hk) (bg_top hTk hc).1 b2 hq (cdq_bg c4) (bok_bg hTk c5.2.2.2 hc)⟩
    rw [hq.1.2.2.2.1]
  refine sp_wp rfl (lv := [_, _]) rfl (Nat.le_of_ble_eq_true rfl) ?_
  refine w_iload_n dX9_begin_0 rfl rfl ?_
  refine w_if_eq 11 dX9_begin_1 (by decide) (by first | assumption | (unfold ok32 at *; omega)) (fun h1 => ?_) (fun h1 => ?_)
  · exact yes (by omega)
  refine w_iload_n dX9_begin_4 rfl rfl ?_
  refine w_iconst dX9_begin_5 ?_
  refine w_icmp_eq 11 dX9_begin_6 (by decide) (by first | assumption | (unfold ok32 at *; omega)) (by first | assumption | (unfold ok32 at *; omega)) (fun h2 => ?_) (fun h2 => ?_)
  · exact yes (by omega)
  · exact no (by omega)
theorem x_step {o : Nat} {h : HP} {cap : Nat → Nat} {A im tx tp : Nat → Int} {f4 f5 f6 : Int} {L R C : Nat} {z : Int} (H : CLS o h cap A im tx tp f4 f5 f6 L R C) (hz : ok32 z) : sp mX9_step [.ref o, .int (zI z)] h 8 413 (XP o h cap im tx tp f4 f5 f6 L R C (some (.int (zI (if (1 ≤ z ∧ z ≤ 80) ∧ A 9 = 0 then ((stpC (kpA A) L R C z.toNat : Nat) : Int) else -1)))) (if (1 ≤ z ∧ z ≤ 80) ∧ A 9 = 0 then stpN (kpA A) L R C z.toNat else A)) := by
  obtain ⟨ow, cd, cb, c, hRs, sa, si, sl, b1, b2, b3, b4, b5⟩ := id H
  have hX := hRs.vx b1 b3 b4 b5
  have hW := hX.vw
  have hT := hRs.top b5
  have hTk := kpA_top hT
  obtain ⟨hI, hV, hSN, hA2⟩ := id hT
  obtain ⟨v1, v2, v3, v4, v5, v6, v7⟩ := id hV
  have hLC := mulLe (a := L) (b := C) (x := 6) (y := 8) (by omega) (by omega)
  have hLR := mulLe (a := L) (b := R) (x := 6) (y := 4) (by omega) (by omega)
  have hLCi : (L : Int) * C = ((L * C : Nat) : Int) := by push_cast; rfl
  have hoo := hRs.1.1
  obtain ⟨o_o, ⟨nh, o_h⟩, -⟩ := id hX
  have o_n : h.2 (o + 8 + 4) = some (.inr (7, sfs (o + 8 + 4) c si sl)) := b1 0 (by omega)
  have k9 : 0 ≤ A 9 ∧ A 9 ≤ 2 := hI 9
  have no : ¬ ((1 ≤ z ∧ z ≤ 80) ∧ A 9 = 0) → wp mX9_step 20 [.ref o, .int (zI z)] [] h 8 413 (XP o h cap im tx tp f4 f5 f6 L R C (some (.int (zI (if (1 ≤ z ∧ z ≤ 80) ∧ A 9 = 0 then ((stpC (kpA A) L R C z.toNat : Nat) : Int) else -1)))) (if (1 ≤ z ∧ z ≤ 80) ∧ A 9 = 0 then stpN (kpA A) L R C z.toNat else A)) := by
    intro hn
    rw [if_neg hn, if_neg hn]
    refine w_iconst dX9_step_20 ?_
    exact x_iret rfl rfl dX9_step_21 ⟨rfl, FRM.refl, H⟩
  refine sp_wp rfl (lv := [_, _]) rfl (Nat.le_of_ble_eq_true rfl) ?_
  refine w_iload_n dX9_step_0 rfl rfl ?_
  refine wc_S (Z := mX9_isSteps) (As := [_]) (c9_isSteps hz) kX9_isSteps lX9_166 sX9_isSteps dX9_step_1 rfl rfl rfl (Nat.le_of_ble_eq_true rfl) ⟨Nat.le_of_ble_eq_true rfl, Nat.le_of_ble_eq_true rfl⟩ ?_
  refine w_ifb_eq 20 dX9_step_4 (by decide) (fun h1 => ?_) (fun h1 => ?_)
  · exact no (fun q => h1 q.1)
  refine w_aload_n dX9_step_7 rfl rfl ?_
  refine w_getf fX9_19 dX9_step_8 o_o rfl ?_
  refine w_getf fX9_89 dX9_step_11 o_h rfl ?_
  refine w_getf fX9_150 dX9_step_14 o_n rfl ?_
  rw [b3.1.2.2.2.1]
  refine w_if_eq 22 dX9_step_17 (by decide) (by unfold ok32; omega) (fun h2 => ?_) (fun h2 => ?_)
  rotate_left
  · exact no (fun q => h2 q.2)
  have hc : (1 ≤ z ∧ z ≤ 80) ∧ A 9 = 0 := ⟨h1, h2⟩
  rw [if_pos hc, if_pos hc]
  obtain ⟨n, hn⟩ : ∃ n : Nat, z = (n : Int) := ⟨z.toNat, by omega⟩
  subst hn
  rw [Int.toNat_natCast]
  refine w_aload_n dX9_step_22 rfl rfl ?_
  refine w_callV (Z := mX9_keep) (As := []) (x_keep hRs ⟨sa, si, sl, b1, b2, b3, b4, b5⟩) o_o rfl kX9_keep lX9_86 iX9_keep vX9_keep dX9_step_23 rfl rfl rfl (Nat.le_of_ble_eq_true rfl) ⟨Nat.le_of_ble_eq_true rfl, Nat.le_of_ble_eq_true rfl⟩ (by omega) (by omega) (fun v h1 q => ?_)
  obtain ⟨rfl, ow1, hK⟩ := q
  obtain ⟨c1, c3, c4, c5⟩ := kp_now hRs b1 b3 b4 b5 hK
  obtain ⟨hR1, hF1, -, -⟩ := hK
  have hQ1 : CDQ (outS (o + 8 + 4)) h1 c (kpA A) L R C := c4.mono (fun x hx z => by have := hR1.1.2 x (by unfold stZ; omega); have := hx.2; omega) (fun _ _ => rfl)
  obtain ⟨o_o1, ⟨nh1, o_h1⟩, -⟩ := id (hR1.vx c1 c3 c4 c5)
  replace o_o : ∀ {c : Nat} {sa : Nat → Nat → Int} {si : Nat → Int} {sl : Nat → BitVec 64}, (SH (o + 8 + 4) c sa si sl h1).2 o = some (.inr (8, xfs o)) := SHo (by unfold outS; omega) o_o1
  replace o_h : ∀ {c : Nat} {sa : Nat → Nat → Int} {si : Nat → Int} {sl : Nat → BitVec 64}, (SH (o + 8 + 4) c sa si sl h1).2 (o + 8) = some (.inr (4, hfs (o + 8) nh1)) := SHo (by unfold outS; omega) o_h1
  refine w_cast rfl rfl (SCP.self c1).symm ?_
  refine w_aload_n dX9_step_26 rfl rfl ?_
  refine w_getf fX9_19 dX9_step_27 o_o rfl ?_
  refine w_getf fX9_89 dX9_step_30 o_h rfl ?_
  refine w_iload_n dX9_step_33 rfl rfl ?_
  refine wx_V (Z := mX8_go) (As := [_]) (c8_go hQ1 hTk.1 hTk.2.2.1 (by omega) c3) SC0 rfl kX8_go lX9_169 iX8_go vX8_go dX9_step_34 rfl rfl rfl (Nat.le_of_ble_eq_true rfl) ⟨Nat.le_of_ble_eq_true rfl, Nat.le_of_ble_eq_true rfl⟩ (fun q hq => ?_)
  exact x_iret rfl rfl dX9_step_37 ⟨rfl, hF1.trans frm_now, CLS.nw hR1 (fun k hk => stpN_n hTk.1 hTk.2.1 hTk.2.2.1 hk n) (stp_top hTk n).1 b2 hq (c4.sm (stpN_ok hTk.1 hTk.2.1 hTk.2.2.1 n).2.1) (bok_top (stp_top hTk n) (c5.2.2.2.same hTk.2.1 (fun k k1 k2 => (stpN_ok hTk.1 hTk.2.1 hTk.2.2.1 n).2.1 k (by omega) (by omega) (by omega) (by omega) (by omega) (by omega) (by omega))))⟩
theorem x_send {o : Nat} {h : HP} {cap : Nat → Nat} {A im tx tp : Nat → Int} {f4 f5 f6 : Int} {L R C : Nat} {z x : Int} (H : CLS o h cap A im tx tp f4 f5 f6 L R C) (hz : ok32 z) (hx : ok32 x) : sp mX9_send [.ref o, .int (zI z), .int (zI x)] h 8 413 (XP o h cap im tx tp f4 f5 f6 L R C (some (.int (zI (if (1 ≤ z ∧ z ≤ 31) ∧ 0 ≤ x ∧ x ≤ 100 then snC (kpA A) (sentB A) z x (L * C) else -1)))) (if (1 ≤ z ∧ z ≤ 31) ∧ 0 ≤ x ∧ x ≤ 100 then snN (kpA A) (sentB A) z x (L * C) else A)) := by
  obtain ⟨ow, cd, cb, c, hRs, sa, si, sl, b1, b2, b3, b4, b5⟩ := id H
  have hX := hRs.vx b1 b3 b4 b5
  have hW := hX.vw
  have hT := hRs.top b5
  have hTk := kpA_top hT
  obtain ⟨hI, hV, hSN, hA2⟩ := id hT
  obtain ⟨v1, v2, v3, v4, v5, v6, v7⟩ := id hV
  have hLC := mulLe (a := L) (b := C) (x := 6) (y := 8) (by omega) (by omega)
  have hLR := mulLe (a := L) (b := R) (x := 6) (y := 4) (by omega) (by omega)
  have hLCi : (L : Int) * C = ((L * C : Nat) : Int) := by push_cast; rfl
  have hoo := hRs.1.1
  obtain ⟨o_o, ⟨nh, o_h⟩, -⟩ := id hX
  have o_n : h.2 (o + 8 + 4) = some (.inr (7, sfs (o + 8 + 4) c si sl)) := b1 0 (by omega)
  have esn : sentB (kpA A) = sentB A := sentB_c (kpA_n (by omega) (by omega)) (kpA_n (by omega) (by omega))
  have no : ¬ ((1 ≤ z ∧ z ≤ 31) ∧ 0 ≤ x ∧ x ≤ 100) → wp mX9_send 14 [.ref o, .int (zI z), .int (zI x)] [] h 8 413 (XP o h cap im tx tp f4 f5 f6 L R C (some (.int (zI (if (1 ≤ z ∧ z ≤ 31) ∧ 0 ≤ x ∧ x ≤ 100 then snC (kpA A) (sentB A) z x (L * C) else -1)))) (if (1 ≤ z ∧ z ≤ 31) ∧ 0 ≤ x ∧ x ≤ 100 then snN (kpA A) (sentB A) z x (L * C) else A)) := by
    intro hn
    rw [if_neg hn, if_neg hn]
    refine w_iconst dX9_send_14 ?_
    exact x_iret rfl rfl dX9_send_15 ⟨rfl, FRM.refl, H⟩
  refine sp_wp rfl (lv := [_, _, _]) rfl (Nat.le_of_ble_eq_true rfl) ?_
  refine w_iload_n dX9_send_0 rfl rfl ?_
  refine wc_S (Z := mX9_isLevel) (As := [_]) (c9_isLevel hz) kX9_isLevel lX9_137 sX9_isLevel dX9_send_1 rfl rfl rfl (Nat.le_of_ble_eq_true rfl) ⟨Nat.le_of_ble_eq_true rfl, Nat.le_of_ble_eq_true rfl⟩ ?_
  refine w_ifb_eq 14 dX9_send_4 (by decide) (fun w1 => ?_) (fun w1 => ?_)
  · exact no (fun q => w1 q.1)
  refine w_iload_n dX9_send_7 rfl rfl ?_
  refine wc_S (Z := mX9_isSpoil) (As := [_]) (c9_isSpoil hx) kX9_isSpoil lX9_140 sX9_isSpoil dX9_send_8 rfl rfl rfl (Nat.le_of_ble_eq_true rfl) ⟨Nat.le_of_ble_eq_true rfl, Nat.le_of_ble_eq_true rfl⟩ ?_
  refine w_ifb_ne 16 dX9_send_11 (by decide) (fun w2 => ?_) (fun w2 => ?_)
  rotate_left
  · exact no (fun q => w2 q.2)
  have hc : (1 ≤ z ∧ z ≤ 31) ∧ 0 ≤ x ∧ x ≤ 100 := ⟨w1, w2⟩
  rw [if_pos hc, if_pos hc]
  refine w_aload_n dX9_send_16 rfl rfl ?_
  refine w_callV (Z := mX9_keep) (As := []) (x_keep hRs ⟨sa, si, sl, b1, b2, b3, b4, b5⟩) o_o rfl kX9_keep lX9_86 iX9_keep vX9_keep dX9_send_17 rfl rfl rfl (Nat.le_of_ble_eq_true rfl) ⟨Nat.le_of_ble_eq_true rfl, Nat.le_of_ble_eq_true rfl⟩ (by omega) (by omega) (fun v h1 q => ?_)
  obtain ⟨rfl, ow1, hK⟩ := q
  obtain ⟨c1, c3, c4, c5⟩ := kp_now hRs b1 b3 b4 b5 hK
  obtain ⟨hR1, hF1, -, -⟩ := hK
  have hQ1 : CDQ (outS (o + 8 + 4)) h1 c (kpA A) L R C := c4.mono (fun x hx z => by have := hR1.1.2 x (by unfold stZ; omega); have := hx.2; omega) (fun _ _ => rfl)
  obtain ⟨o_o1, ⟨nh1, o_h1⟩, -⟩ := id (hR1.vx c1 c3 c4 c5)
  replace o_o : ∀ {c : Nat} {sa : Nat → Nat → Int} {si : Nat → Int} {sl : Nat → BitVec 64}, (SH (o + 8 + 4) c sa si sl h1).2 o = some (.inr (8, xfs o)) := SHo (by unfold outS; omega) o_o1
  replace o_h : ∀ {c : Nat} {sa : Nat → Nat → Int} {si : Nat → Int} {sl : Nat → BitVec 64}, (SH (o + 8 + 4) c sa si sl h1).2 (o + 8) = some (.inr (4, hfs (o + 8) nh1)) := SHo (by unfold outS; omega) o_h1
  refine w_cast rfl rfl (SCP.self c1).symm ?_
  refine w_aload_n dX9_send_20 rfl rfl ?_
  refine w_getf fX9_19 dX9_send_21 o_o rfl ?_
  refine w_getf fX9_89 dX9_send_24 o_h rfl ?_
  refine w_iload_n dX9_send_27 rfl rfl ?_
  refine w_iload_n dX9_send_28 rfl rfl ?_
  refine wx_V (Z := mX8_draw) (As := [_, _]) (c8_draw hQ1 w1 w2 c3.1.1 c3.1.2.1 (hTk.1 12)) SC0 rfl kX8_draw lX9_143 iX8_draw vX8_draw dX9_send_29 rfl rfl rfl (Nat.le_of_ble_eq_true rfl) ⟨Nat.le_of_ble_eq_true rfl, Nat.le_of_ble_eq_true rfl⟩ (fun g hg => ?_)
  have hrd := rel_draw c3 c5.2.1 hg
  have hTs := snN_top (x := sentB (kpA A)) (sp := x) hTk w1 hLC
  rw [esn] at hrd hTs ⊢
  exact x_iret rfl rfl dX9_send_32 ⟨rfl, hF1.trans frm_now, CLS.nw hR1 (fun k hk => snN_n (by omega) (by omega)) hTs.1 b2 hrd (c4.same (fun k k1 k2 k3 => snN_n (by omega) (by omega))) (bok_top hTs (c5.2.2.2.same c5.2.1 (fun k k1 k2 => snN_n (by omega) (by omega))))⟩

