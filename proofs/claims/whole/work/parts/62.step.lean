/-! a step and steps of the class: as the reference's block goes on -/
theorem CDQ.vc {P : Nat → Prop} {h : HP} {c : Nat} {B : Nat → Int} {L R C : Nat} (H : CDQ P h c B L R C) : VC B L R C := by
  obtain ⟨ad, f7, f8, f10, f9, f11, rk, cr, a1, -⟩ := H
  exact a1
abbrev TR3 : Type := (Nat → Nat → Int) × (Nat → Int) × (Nat → BitVec 64)
theorem px3 {a c : Nat} {sb : Nat → Nat → Int} {sj : Nat → Int} {sm : Nat → BitVec 64} {h0 : HP} {B : Nat → Int} {L R C : Nat} {w : Option Value} (h : REL sb sj sm B L R C) : px w (fun q : TR3 => REL q.1 q.2.1 q.2.2 B L R C) (fun q => SH a c q.1 q.2.1 q.2.2 h0) w (SH a c sb sj sm h0) := ⟨rfl, (sb, sj, sm), h, rfl⟩
set_option maxRecDepth 8000 in
theorem c8_advance {a c : Nat} {sa : Nat → Nat → Int} {si : Nat → Int} {sl : Nat → BitVec 64} {h0 : HP} {B : Nat → Int} {L R C : Nat} (hC : CDQ (outS a) h0 c B L R C) (hI : INV B) (hS : SCN B R) (h9 : B 9 = 0) (hR : REL sa si sl B L R C) : sp mX8_advance [.ref a] (SH a (c) (sa) (si) (sl) h0) 0 0 (px none (fun q : TR3 => REL q.1 q.2.1 q.2.2 (stepF B L R C) L R C) (fun q => (SH a (c) (q.1) (q.2.1) (q.2.2) h0))) := by
  obtain ⟨ad, f7, f8, f10, f9, f11, rk, cr, hV, h6, h7, o_c0, r70, r80, r90, r100, r110, e7, e8, e9, e10, hRD, p0, p7, p8, p9, p10, p11⟩ := id hC
  obtain ⟨v1, v2, v3, v4, v5, v6, v7⟩ := id hV
  have hLC := mulLe (a := L) (b := C) (x := 6) (y := 8) (by omega) (by omega)
  have hLR := mulLe (a := L) (b := R) (x := 6) (y := 4) (by omega) (by omega)
  have o_c : ∀ {c' : Nat} {sa : Nat → Nat → Int} {si : Nat → Int} {sl : Nat → BitVec 64}, (SH a c' sa si sl h0).2 c = some (.inr (2, cfs L R C (B 6) (B 7) ad rk cr)) := SHo p0 o_c0
  have r_c_shifts : ∀ {c' : Nat} {sa : Nat → Nat → Int} {si : Nat → Int} {sl : Nat → BitVec 64}, (SH a c' sa si sl h0).2 (ad 7) = some (aI 32 f7) := SHo p7 r70
  have r_c_edges : ∀ {c' : Nat} {sa : Nat → Nat → Int} {si : Nat → Int} {sl : Nat → BitVec 64}, (SH a c' sa si sl h0).2 (ad 8) = some (aI 192 f8) := SHo p8 r80
  have r_c_bitsOf : ∀ {c' : Nat} {sa : Nat → Nat → Int} {si : Nat → Int} {sl : Nat → BitVec 64}, (SH a c' sa si sl h0).2 (ad 9) = some (aL 24 f9) := SHo p9 r90
  obtain ⟨⟨r1, r2, r3, r4, r5, r6⟩, ⟨r8, r9⟩, ⟨n, r7, r7b, rbk⟩, rh, rb, rt, rm, ro⟩ := id hR
  obtain ⟨s1, s2, s3, s4⟩ := id hS
  have hp0 : 0 ≤ B 11 ∧ B 11 ≤ 3 := hI 11
  have hsw0 : 0 ≤ B 10 ∧ B 10 ≤ 20 := hI 10
  have hod0 : 0 ≤ B 13 := (hI 13).1
  have hi1 := st1_i hI hV s1 s2 (s3 h9)
  have hm1 : SmC B (st1 B L R C) := st1_s hI hV s1 s2
  have hin1 : ∀ k, k < 96 ∨ 336 ≤ k → k ≠ 10 → k ≠ 11 → st1 B L R C k = B k := fun k hk h1 h2 => st1_n hI hV s1 s2 hk h1 h2
  have htm := st1_t hI hV s1 s2
  have h3i := st3_i hI hV hS h9
  have h3n : ∀ k, k < 336 → st3 B L R C k = st1 B L R C k := fun k hk => st3_n hI hV hS h9 (Or.inl hk)
  have hFn : ∀ k, k ≠ 9 → stepF B L R C k = st3 B L R C k := fun k hk => by
    unfold stepF
    split
    · rw [u1_n hk]
    · split
      · rw [u1_n hk]
      · rfl
  have hodl : odA B L R C ≤ L * R := oddN_le _ _ _
  have fin : ∀ (sb : Nat → Nat → Int) (sj : Nat → Int) (x2 x3 : Value), (∀ b, b < L * C → sb 2 b = st1 B L R C (96 + b)) → (∀ k, k < L * R → ∀ j, j < C → okc (shA B) L k j = true → sb 4 (8 * k + j) = st1 B L R C (144 + 8 * k + j)) → smo sa sb → sj 5 = st1 B L R C 10 → sj 6 = st1 B L R C 11 → (∀ k, k ≠ 5 → k ≠ 6 → sj k = si k) → wp mX8_advance 80 [.ref a, .int (zI (lyr B R)), x2, x3] [] (SH a (c) (sb) (sj) (sl) h0) 0 0 (px none (fun q : TR3 => REL q.1 q.2.1 q.2.2 (stepF B L R C) L R C) (fun q => (SH a (c) (q.1) (q.2.1) (q.2.2) h0))) := by
    intro sb sj x2 x3 i2 i4 io j5 j6 jo
    have hg : gset (sb 2) (L * C) = gA (st1 B L R C) (L * C) := gset_c i2
    have hbe : ∀ b, b < L * C → ok32 (sb 2 b) := fun b hb => by
      rw [i2 b hb]
      have := hi1.be (k := b) (by omega)
      unfold ok32
      omega
    refine w_aload_n dX8_advance_80 rfl rfl ?_
    refine w_getf fX8_60 dX8_advance_81 SC0 rfl ?_
    refine w_lstore_n (lv' := [_, _, _, _]) dX8_advance_84 rfl (Nat.le_of_ble_eq_true rfl) rfl rfl ?_
    refine w_aload_n dX8_advance_85 rfl rfl ?_
    refine wc_Vv (Z := mX8_look) (As := []) (c8_look hC hbe) SC0 rfl kX8_look lX8_91 iX8_look vX8_look dX8_advance_86 rfl rfl rfl (Nat.le_of_ble_eq_true rfl) ⟨Nat.le_of_ble_eq_true rfl, Nat.le_of_ble_eq_true rfl⟩ ?_
    rw [hg]
    refine w_aload_n dX8_advance_89 rfl rfl ?_
    refine w_iload_n dX8_advance_90 rfl rfl ?_
    refine w_aload_n dX8_advance_91 rfl rfl ?_
    refine w_getf fX8_60 dX8_advance_92 SC0 rfl ?_
    rw [u1_s]
    refine w_lload_n dX8_advance_95 rfl rfl ?_
    refine w_lxor dX8_advance_96 ?_
    rw [r8]
    have htd : gA (st1 B L R C) (L * C) ^^^ gA B (L * C) = tnd B L R C := by unfold tnd; rw [BitVec.xor_comm]
    rw [htd]
    have htb : ∀ i, (tnd B L R C).getLsbD i = true → i < 48 := fun i hi => by
      refine Classical.byContradiction fun hn => ?_
      unfold tnd gA at hi
      rw [BitVec.getLsbD_xor, gset_hi (by omega) (by omega), gset_hi (by omega) (by omega)] at hi
      cases hi
    refine wx_Vv (Z := mX8_note) (As := [_, _]) (c8_note (n := n) ((u1_n (by decide)).trans ((jo 7 (by decide) (by decide)).trans r7)) (by omega) htb) SC0 rfl kX8_note lX8_106 iX8_note vX8_note dX8_advance_97 rfl rfl rfl (Nat.le_of_ble_eq_true rfl) ⟨Nat.le_of_ble_eq_true rfl, Nat.le_of_ble_eq_true rfl⟩ (fun tn htn => ?_)
    rw [u1_s]
    have hod : oddN (cs B L C) (gA (st1 B L R C) (L * C)) (L * R) = odA B L R C := rfl
    rw [hod]
    obtain ⟨od, hodv⟩ : ∃ od, odA B L R C = od := ⟨_, rfl⟩
    rw [hodv] at hodl ⊢
    -- the relation, but for the state
    have rel : ∀ (sk : Nat → Int), (∀ k, k ≠ 4 → sk k = (u1 (u1 sj 9 (od : Int)) 7 ((n : Int) + 1)) k) → sk 4 = stepF B L R C 9 → REL (u1 (u1 sb 3 tn) 5 (u1 (u1 (u1 (sb 5) (n % 16 * 3) (lyr B R)) (n % 16 * 3 + 1) ((pop (tnd B L R C) : Nat) : Int)) (n % 16 * 3 + 2) (od : Int))) sk (u1 sl 8 (gA (st1 B L R C) (L * C))) (stepF B L R C) L R C := by
      intro sk k1 k4
      have hgF : gA (stepF B L R C) (L * C) = gA (st1 B L R C) (L * C) := by
        unfold gA
        exact gset_c (fun b hb => by rw [hFn _ (by omega), h3n _ (by omega)])
      have hsF : SmC B (stepF B L R C) := stepF_s hI hV hS h9
      have hcF : oddN (cs (stepF B L R C) L C) (gA (st1 B L R C) (L * C)) (L * R) = od := by
        rw [← hodv, ← hod]
        exact oddN_c (fun i hi => hsF.cs hV hi)
      refine ⟨⟨?_, ?_, ?_, k4, ?_, ?_⟩, ⟨?_, ?_⟩, ⟨n + 1, ?_, ?_, ?_⟩, fun b hb => ?_, fun b hb => ?_, fun b hb => ?_, fun k hk j hj ho => ?_, fun p hp => ?_⟩
      · rw [u1_n (by decide), r1]
        unfold sentB
        rw [hFn 46 (by omega), hFn 47 (by omega), h3n 46 (by omega), h3n 47 (by omega), hin1 46 (by omega) (by omega) (by omega), hin1 47 (by omega) (by omega) (by omega)]
      · rw [k1 2 (by decide), u1_n (by decide), u1_n (by decide), jo 2 (by decide) (by decide), r2, hFn 12 (by omega), h3n 12 (by omega), hin1 12 (by omega) (by omega) (by omega)]
      · rw [k1 3 (by decide), u1_n (by decide), u1_n (by decide), jo 3 (by decide) (by decide), r3, hFn 8 (by omega), h3n 8 (by omega), hin1 8 (by omega) (by omega) (by omega)]
      · rw [k1 5 (by decide), u1_n (by decide), u1_n (by decide), j5, hFn 10 (by omega), h3n 10 (by omega)]
      · rw [k1 6 (by decide), u1_n (by decide), u1_n (by decide), j6, hFn 11 (by omega), h3n 11 (by omega)]
      · rw [u1_s, hgF]
      · rw [k1 9 (by decide), u1_n (by decide), u1_s, hgF, hcF]
      · rw [k1 7 (by decide), u1_s]
        push_cast
        rfl
      · rw [hFn 10 (by omega), h3n 10 (by omega), hFn 11 (by omega), h3n 11 (by omega)]
        push_cast
        omega
      · show BK (n + 1) (u1 (u1 (u1 (sb 5) (n % 16 * 3) (lyr B R)) (n % 16 * 3 + 1) ((pop (tnd B L R C) : Nat) : Int)) (n % 16 * 3 + 2) (od : Int)) (stepF B L R C)
        have hb2 : BK n (sb 5) (st2 B L R C) := rbk.same (fun k _ => by rw [io.2.2.1]) (fun k h1 h2 => by rw [st2_n (Or.inl h2) (by omega), hin1 k (by omega) (by omega) (by omega)])
        have hb3 := hb2.put (x := lyr B R) (y := ((pop (tnd B L R C) : Nat) : Int)) (z := (od : Int))
        exact hb3.same (fun _ _ => rfl) (fun k h1 h2 => by rw [hFn k (by omega)]; unfold st3; rw [hodv])
      · show sb 1 b = _
        rw [io.1, rh b hb, hFn _ (by omega), h3n _ (by omega), hin1 _ (by omega) (by omega) (by omega)]
      · show sb 2 b = _
        rw [i2 b hb, hFn _ (by omega), h3n _ (by omega)]
      · show tn b = _
        rw [htn b (by omega), hFn _ (by omega)]
        have h384 := (st2_i hI hV hS h9) 384
        rw [show st3 B L R C (385 + b) = st2 B L R C (385 + b) from wdA_n ⟨h384.1, h384.2⟩ (by omega)]
        unfold st2
        rw [fillR_i hb, io.2.1, rt b hb, hin1 _ (by omega) (by omega) (by omega)]
      · show sb 4 (8 * k + j) = _
        rw [i4 k hk j hj (by rw [okc_same hV hsF hk hj] at ho; exact ho), hFn _ (by omega), h3n _ (by omega)]
      · show sb 6 p = _
        rw [io.2.2.2, ro p hp, hFn 13 (by omega), h3n 13 (by omega), hin1 13 (by omega) (by omega) (by omega)]
    have h310 : st3 B L R C 10 ≤ 20 := (h3i 10).2
    have h39 : st3 B L R C 9 = 0 := by rw [h3n 9 (by omega), hin1 9 (by omega) (by omega) (by omega), h9]
    refine w_aload_n dX8_advance_100 rfl rfl ?_
    refine w_getf fX8_63 dX8_advance_101 SC0 rfl ?_
    rw [show (u1 (u1 sj 9 (od : Int)) 7 ((n : Int) + 1)) 9 = (od : Int) from rfl]
    refine w_if_ne 115 dX8_advance_104 (by decide) (by first | assumption | (unfold ok32 at *; omega)) (fun ho => ?_) (fun ho => ?_)
    · refine w_aload_n dX8_advance_115 rfl rfl ?_
      refine w_getf fX8_51 dX8_advance_116 SC0 rfl ?_
      rw [show (u1 (u1 sj 9 (od : Int)) 7 ((n : Int) + 1)) 5 = sj 5 from rfl, j5, ← h3n 10 (by omega)]
      have h3100 := (h3i 10).1
      rw [show loA 10 = 0 from rfl] at h3100
      refine w_bipush dX8_advance_119 (by decide) ?_
      refine w_icmp_lt 129 dX8_advance_121 (by decide) (by first | assumption | (unfold ok32 at *; omega)) (by first | assumption | (unfold ok32 at *; omega)) (fun hsw => ?_) (fun hsw => ?_)
      · refine x_vret rfl dX8_advance_129 (px3 (rel _ (fun _ _ => rfl) ?_))
        rw [show (u1 (u1 sj 9 (od : Int)) 7 ((n : Int) + 1)) 4 = sj 4 from rfl, jo 4 (by decide) (by decide), r4, h9]
        unfold stepF
        rw [hodv, if_neg (by omega), if_neg (by omega), h39]
      · refine w_aload_n dX8_advance_124 rfl rfl ?_
        refine w_iconst dX8_advance_125 ?_
        refine sc_pf4 fX8_48 dX8_advance_126 ?_
        refine x_vret rfl dX8_advance_129 (px3 (rel _ (fun k hk => u1_n hk) ?_))
        rw [u1_s]
        unfold stepF
        rw [hodv, if_neg (by omega), if_pos (by omega), u1_s]
    · refine w_aload_n dX8_advance_107 rfl rfl ?_
      refine w_iconst dX8_advance_108 ?_
      refine sc_pf4 fX8_48 dX8_advance_109 ?_
      refine w_goto 129 dX8_advance_112 (by decide) ?_
      refine x_vret rfl dX8_advance_129 (px3 (rel _ (fun k hk => u1_n hk) ?_))
      rw [u1_s]
      unfold stepF
      rw [hodv, if_pos (by omega), u1_s]
  refine sp_wp rfl (lv := [_, _, _, _]) rfl (Nat.le_of_ble_eq_true rfl) ?_
  refine w_iconst dX8_advance_0 ?_
  refine w_istore_n (lv' := [_, _, _, _]) dX8_advance_1 rfl (Nat.le_of_ble_eq_true rfl) rfl rfl ?_
  refine w_aload_n dX8_advance_2 rfl rfl ?_
  refine w_getf fX8_45 dX8_advance_3 SC0 rfl ?_
  rw [r3]
  have h8r : 0 ≤ B 8 ∧ B 8 ≤ 1 := hI 8
  refine w_if_ne 66 dX8_advance_6 (by decide) (by first | assumption | (unfold ok32 at *; omega)) (fun hmo => ?_) (fun hmo => ?_)
  · have hs1 : st1 B L R C = stA B L R C := if_neg hmo
    refine w_aload_n dX8_advance_66 rfl rfl ?_
    refine wx_Vv (Z := mX8_mendAtOnce) (As := []) (c8_mendAtOnce hC hI ⟨rb, rm⟩ rh) SC0 rfl kX8_mendAtOnce lX8_103 iX8_mendAtOnce vX8_mendAtOnce dX8_advance_67 rfl rfl rfl (Nat.le_of_ble_eq_true rfl) ⟨Nat.le_of_ble_eq_true rfl, Nat.le_of_ble_eq_true rfl⟩ (fun sb hsb => ?_)
    obtain ⟨⟨b1, b2⟩, b3⟩ := hsb
    refine w_aload_n dX8_advance_70 rfl rfl ?_
    refine w_dup dX8_advance_71 rfl ?_
    refine w_getf fX8_51 dX8_advance_72 SC0 rfl ?_
    rw [r5]
    refine w_iconst dX8_advance_75 ?_
    refine w_iadd dX8_advance_76 ?_
    refine sc_pf5 fX8_51 dX8_advance_77 ?_
    refine w_cast ?_ rfl rfl (fin sb (u1 si 5 (B 10 + 1)) jk jk (fun b hb => ?_) (fun k hk j hj ho => ?_) b3 ?_ ?_ (fun k h5 h6 => u1_n h5))
    · unfold lyr
      rw [if_neg hmo]
    · rw [b1 b hb, hs1]
      unfold stA
      rw [u1_n (by omega), fillR_i hb]
    · rw [b2 k hk j hj ho, hs1]
      unfold stA
      rw [u1_n (by omega), fillR_n (by omega)]
    · rw [u1_s, hs1]
      unfold stA
      rw [u1_s]
    · rw [u1_n (by decide), r6, hs1, stA_n hV (by omega) (by omega)]
  · have hs1 : st1 B L R C = stL B L R C := if_pos hmo
    obtain ⟨p, hp⟩ : ∃ p : Nat, B 11 = (p : Int) := ⟨(B 11).toNat, by omega⟩
    have hpR : p < R := by omega
    have hyR : lay R (B 13).toNat p < R := lay_lt v5 (by omega) hpR
    have hly : lyr B R = ((lay R (B 13).toNat p : Nat) : Int) := by unfold lyr; rw [if_pos hmo, hp, Int.toNat_natCast]
    refine w_aload_n dX8_advance_9 rfl rfl ?_
    refine w_getf fX8_31 dX8_advance_10 SC0 rfl ?_
    refine w_aload_n dX8_advance_13 rfl rfl ?_
    refine w_getf fX8_54 dX8_advance_14 SC0 rfl ?_
    rw [r6, hp]
    refine w_iald (p) SC6 (by first | rfl | omega | (push_cast; rfl) | (push_cast; omega)) (by omega) (by decide) dX8_advance_17 ?_
    rw [ro p hpR]
    refine w_istore_n (lv' := [_, _, _, _]) dX8_advance_18 rfl (Nat.le_of_ble_eq_true rfl) rfl rfl ?_
    refine w_aload_n dX8_advance_19 rfl rfl ?_
    refine w_iload_n dX8_advance_20 rfl rfl ?_
    refine wx_Vv (Z := mX8_mendLayer) (As := [_]) (c8_mendLayer hC hI hyR ⟨rb, rm⟩) SC0 rfl kX8_mendLayer lX8_100 iX8_mendLayer vX8_mendLayer dX8_advance_21 rfl rfl rfl (Nat.le_of_ble_eq_true rfl) ⟨Nat.le_of_ble_eq_true rfl, Nat.le_of_ble_eq_true rfl⟩ (fun sb hsb => ?_)
    obtain ⟨⟨b1, b2⟩, b3⟩ := hsb
    have hsl : SmC B (slN B L C (lay R (B 13).toNat p) L) := slN_s
    have b2' : ∀ k, k < L * R → ∀ j, j < C → okc (shA B) L k j = true → sb 4 (8 * k + j) = slN B L C (lay R (B 13).toNat p) L (144 + 8 * k + j) := fun k hk j hj ho => b2 k hk j hj (by rw [okc_same hV hsl hk hj]; exact ho)
    refine w_aload_n dX8_advance_24 rfl rfl ?_
    refine w_dup dX8_advance_25 rfl ?_
    refine w_getf fX8_54 dX8_advance_26 SC0 rfl ?_
    rw [r6, hp]
    refine w_iconst dX8_advance_29 ?_
    refine w_iadd dX8_advance_30 ?_
    refine sc_pf6 fX8_54 dX8_advance_31 ?_
    refine w_aload_n dX8_advance_34 rfl rfl ?_
    refine w_getf fX8_54 dX8_advance_35 SC0 rfl ?_
    rw [u1_s]
    refine w_aload_n dX8_advance_38 rfl rfl ?_
    refine w_getf fX8_37 dX8_advance_39 SC0 rfl ?_
    refine w_getf fX8_78 dX8_advance_42 o_c rfl ?_
    refine w_icmp_lt 80 dX8_advance_45 (by decide) (by first | assumption | (unfold ok32 at *; omega)) (by first | assumption | (unfold ok32 at *; omega)) (fun hlt => ?_) (fun hlt => ?_)
    · have hst : st1 B L R C = u1 (slN B L C (lay R (B 13).toNat p) L) 11 (B 11 + 1) := by
        rw [hs1]
        unfold stL
        rw [if_pos (by omega), hp, Int.toNat_natCast]
      refine w_cast ?_ rfl rfl (fin sb (u1 si 6 ((p : Int) + 1)) jk jk (fun b hb => ?_) (fun k hk j hj ho => ?_) b3 ?_ ?_ (fun k h5 h6 => u1_n h6))
      · rw [hly]
      · rw [b1 b hb, hst, u1_n (by omega)]
      · rw [b2' k hk j hj ho, hst, u1_n (by omega)]
      · rw [u1_n (by decide), r5, hst, u1_n (by decide), slN_n hV hyR (by omega) (Nat.le_refl _)]
      · rw [u1_s, hst, u1_s, hp]
    · have hst : st1 B L R C = u1 (u1 (slN B L C (lay R (B 13).toNat p) L) 11 0) 10 (B 10 + 1) := by
        rw [hs1]
        unfold stL
        rw [if_neg (by omega), hp, Int.toNat_natCast]
      refine w_aload_n dX8_advance_48 rfl rfl ?_
      refine w_iconst dX8_advance_49 ?_
      refine sc_pf6 fX8_54 dX8_advance_50 ?_
      rw [u1_u1]
      refine w_aload_n dX8_advance_53 rfl rfl ?_
      refine w_dup dX8_advance_54 rfl ?_
      refine w_getf fX8_51 dX8_advance_55 SC0 rfl ?_
      rw [show (u1 si 6 0) 5 = si 5 from rfl, r5]
      refine w_iconst dX8_advance_58 ?_
      refine w_iadd dX8_advance_59 ?_
      refine sc_pf5 fX8_51 dX8_advance_60 ?_
      refine w_goto 80 dX8_advance_63 (by decide) ?_
      refine w_cast ?_ rfl rfl (fin sb (u1 (u1 si 6 0) 5 (B 10 + 1)) jk jk (fun b hb => ?_) (fun k hk j hj ho => ?_) b3 ?_ ?_ (fun k h5 h6 => by rw [u1_n h5, u1_n h6]))
      · rw [hly]
      · rw [b1 b hb, hst, u1_n (by omega), u1_n (by omega)]
      · rw [b2' k hk j hj ho, hst, u1_n (by omega), u1_n (by omega)]
      · rw [u1_s, hst, u1_s]
      · rw [u1_n (by decide), u1_s, hst, u1_n (by decide), u1_s]
set_option maxRecDepth 4000 in
theorem c8_go {a c : Nat} {sa : Nat → Nat → Int} {si : Nat → Int} {sl : Nat → BitVec 64} {h0 : HP} {B : Nat → Int} {L R C : Nat} {m : Nat} (hC : CDQ (outS a) h0 c B L R C) (hI : INV B) (hS : SCN B R) (hm : m ≤ 1000) (hR : REL sa si sl B L R C) : sp mX8_go [.ref a, .int (zI (m : Int))] (SH a (c) (sa) (si) (sl) h0) 0 0 (px (some (.int (zI ((stpC B L R C m : Nat) : Int)))) (fun q : TR3 => REL q.1 q.2.1 q.2.2 (stpN B L R C m) L R C) (fun q => (SH a (c) (q.1) (q.2.1) (q.2.2) h0))) := by
  have hV : VC B L R C := hC.vc
  have hok := stpN_ok hI hV hS
  have hcl : ∀ k, stpC B L R C k ≤ k := by
    intro k
    induction k with
    | zero => exact Nat.le_refl _
    | succ k ih => rw [stpC]; split <;> omega
  refine sp_wp rfl (lv := [_, _, _, _]) rfl (Nat.le_of_ble_eq_true rfl) ?_
  refine w_iconst dX8_go_0 ?_
  refine w_istore_n (lv' := [_, _, _, _]) dX8_go_1 rfl (Nat.le_of_ble_eq_true rfl) rfl rfl ?_
  refine w_iconst dX8_go_2 ?_
  refine w_istore_n (lv' := [_, _, _, _]) dX8_go_3 rfl (Nat.le_of_ble_eq_true rfl) rfl rfl ?_
  have key : ∀ k, k ≤ m → ∀ (sb : Nat → Nat → Int) (sj : Nat → Int) (sm : Nat → BitVec 64), REL sb sj sm (stpN B L R C k) L R C → wp mX8_go 4 [.ref a, .int (zI (m : Int)), .int (zI ((stpC B L R C k : Nat) : Int)), .int (zI (k : Int))] [] (SH a (c) (sb) (sj) (sm) h0) 0 0 (px (some (.int (zI ((stpC B L R C m : Nat) : Int)))) (fun q : TR3 => REL q.1 q.2.1 q.2.2 (stpN B L R C m) L R C) (fun q => (SH a (c) (q.1) (q.2.1) (q.2.2) h0))) := by
    refine up_ind (P := fun k => ∀ (sb : Nat → Nat → Int) (sj : Nat → Int) (sm : Nat → BitVec 64), REL sb sj sm (stpN B L R C k) L R C → wp mX8_go 4 [.ref a, .int (zI (m : Int)), .int (zI ((stpC B L R C k : Nat) : Int)), .int (zI (k : Int))] [] (SH a (c) (sb) (sj) (sm) h0) 0 0 (px (some (.int (zI ((stpC B L R C m : Nat) : Int)))) (fun q : TR3 => REL q.1 q.2.1 q.2.2 (stpN B L R C m) L R C) (fun q => (SH a (c) (q.1) (q.2.1) (q.2.2) h0)))) (fun k hk ih sb sj sm hr => ?_)
    have h9r := (hok k).1 9
    rw [show loA 9 = 0 from rfl, show hiA 9 = 2 from rfl] at h9r
    refine w_iload_n dX8_go_4 rfl rfl ?_
    refine w_iload_n dX8_go_5 rfl rfl ?_
    refine w_icmp_ge 29 dX8_go_6 (by decide) (by first | assumption | (unfold ok32 at *; omega)) (by first | assumption | (unfold ok32 at *; omega)) (fun hc => ?_) (fun hc => ?_)
    · refine w_iload_n dX8_go_29 rfl rfl ?_
      refine x_iret rfl rfl dX8_go_30 ⟨?_, (sb, sj, sm), ?_, rfl⟩
      · rw [show k = m by omega]
      · rw [show m = k by omega]; exact hr
    · refine w_aload_n dX8_go_9 rfl rfl ?_
      refine w_getf fX8_48 dX8_go_10 SC0 rfl ?_
      rw [hr.1.2.2.2.1]
      refine w_if_ne 29 dX8_go_13 (by decide) (by first | assumption | (unfold ok32 at *; omega)) (fun h9 => ?_) (fun h9 => ?_)
      · have he := stpN_end h9 (m - k)
        rw [show k + (m - k) = m by omega] at he
        refine w_iload_n dX8_go_29 rfl rfl ?_
        refine x_iret rfl rfl dX8_go_30 ⟨?_, (sb, sj, sm), ?_, rfl⟩
        · rw [he.2]
        · rw [he.1]; exact hr
      · refine w_aload_n dX8_go_16 rfl rfl ?_
        refine wx_Vv (Z := mX8_advance) (As := []) (c8_advance (hC.sm (hok k).2.1) (hok k).1 (hok k).2.2 h9 hr) SC0 rfl kX8_advance lX8_97 iX8_advance vX8_advance dX8_go_17 rfl rfl rfl (Nat.le_of_ble_eq_true rfl) ⟨Nat.le_of_ble_eq_true rfl, Nat.le_of_ble_eq_true rfl⟩ (fun q hq => ?_)
        refine w_iinc (lv' := [_, _, _, _]) dX8_go_20 rfl rfl rfl ?_
        refine w_iinc (lv' := [_, _, _, _]) dX8_go_23 rfl rfl rfl ?_
        refine w_goto 4 dX8_go_26 (by decide) ?_
        have e1 : stpN B L R C (k + 1) = stepF (stpN B L R C k) L R C := by rw [stpN, if_pos h9]
        have e2 : stpC B L R C (k + 1) = stpC B L R C k + 1 := by rw [stpC, if_pos h9]
        refine w_cast ?_ rfl rfl (ih (by omega) q.1 q.2.1 q.2.2 (by rw [e1]; exact hq))
        rw [e2]
        push_cast
        rfl
  exact key 0 (Nat.zero_le _) sa si sl hR

