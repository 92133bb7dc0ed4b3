/-! the class's reader: a whole text, and its code -/
def txB (X : Nat → Int) (x : Nat) : Nat → Int := fun j => if j < 8 then X (x + (j - 3)) else X (x + 5 + (j - 14))
theorem txB_s {X : Nat → Int} {x k : Nat} : txB X x (14 + k) = X (x + 5 + k) := by
  unfold txB
  rw [if_neg (by omega), show 14 + k - 14 = k by omega]
def RTP (a : Nat) (ba : Nat → Nat → Int) (bi : Nat → Int) (h0 : HP) (x : Nat) (Z : RD) (v : Option Value) (h' : HP) : Prop := ∃ q : (Nat → Int) × (Nat → Int), q.2 1 = bi 1 ∧ q.2 2 = Z.1 ∧ q.2 3 = (if Z.1 = 0 then -1 else (Z.2.2.1.2.1 : Int)) ∧ ((¬ Z.1 = 0 ∧ v = some .null ∧ h' = RDH a (u1 ba 2 q.1) q.2 h0) ∨ (Z.1 = 0 ∧ v = some (.ref h0.1) ∧ ∃ L R C, CNEW (RDH a (u1 ba 2 q.1) q.2 h0) h' h0.1 (txB Z.2.1 x) L R C))
theorem rd0_at {X : Nat → Int} {x : Nat} : rd0 X x x = 1 ∧ rd0 X x (x + 1) = 0 ∧ rd0 X x (x + 3) = 1 ∧ rd0 X x (x + 4) = 15 := by
  unfold rd0
  refine ⟨?_, ?_, ?_, ?_⟩
  · rw [u1_n (by omega), u1_n (by omega), u1_n (by omega), u1_n (by omega), u1_s]
  · rw [u1_n (by omega), u1_n (by omega), u1_n (by omega), u1_s]
  · rw [u1_n (by omega), u1_s]
  · rw [u1_s]
set_option maxRecDepth 8000 in
theorem c7_read {a : Nat} {ba : Nat → Nat → Int} {bi : Nat → Int} {h0 : HP} {n t : Nat} {X : Nat → Int} (ha : a + 2 < h0.1) (ht : t < 4) (h1 : bi 1 = (n : Int)) (hn : n ≤ 300) (hT : TB (ba 1)) (hX : TXO X t) (hRI : RDI n t X (rdT (ba 1) n (37 * t) X)) : sp mX7_read [.ref a] (RDH a ba bi h0) 7 351 (fun v h' => RTP a ba bi h0 (37 * t) (rdT (ba 1) n (37 * t) X) v h') := by
  obtain ⟨p0, -, p1⟩ := rd0_ok hX ht
  obtain ⟨r0, r1, r3, r4⟩ := rd0_at (X := X) (x := 37 * t)
  have hsl : (rdT (ba 1) n (37 * t) X).1 = 0 → SLX (rdT (ba 1) n (37 * t) X).2.1 (37 * t) := rdL_sl hT ht 302 0 _ _ 0 0 p0 (nt_lxi hT (Nat.zero_le n)).1 ⟨by omega, by omega⟩ ⟨by omega, by omega⟩ (fun r c _ _ z _ => by rw [r1] at z; omega) (fun _ => r1)
  refine sp_wp rfl (lv := [_, _, _]) rfl (Nat.le_of_ble_eq_true rfl) ?_
  refine w_aload_n dX7_read_0 rfl rfl ?_
  refine w_iconst dX7_read_1 ?_
  refine rd_pf4 fX7_28 dX7_read_2 ?_
  refine w_aload_n dX7_read_5 rfl rfl ?_
  refine w_iconst dX7_read_6 ?_
  refine rd_pf2 fX7_15 dX7_read_7 ?_
  refine w_aload_n dX7_read_10 rfl rfl ?_
  refine w_iconst dX7_read_11 ?_
  refine rd_pf3 fX7_19 dX7_read_12 ?_
  refine w_aload_n dX7_read_15 rfl rfl ?_
  refine w_iconst dX7_read_16 ?_
  refine rd_pf8 fX7_31 dX7_read_17 ?_
  refine w_aload_n dX7_read_20 rfl rfl ?_
  refine w_iconst dX7_read_21 ?_
  refine rd_pf9 fX7_34 dX7_read_22 ?_
  refine w_aload_n dX7_read_25 rfl rfl ?_
  refine w_iconst dX7_read_26 ?_
  refine rd_pf10 fX7_37 dX7_read_27 ?_
  refine w_aload_n dX7_read_30 rfl rfl ?_
  refine w_iconst dX7_read_31 ?_
  refine rd_pf11 fX7_40 dX7_read_32 ?_
  refine w_aload_n dX7_read_35 rfl rfl ?_
  refine w_iconst dX7_read_36 ?_
  refine rd_pf12 fX7_43 dX7_read_37 ?_
  refine w_aload_n dX7_read_40 rfl rfl ?_
  refine wx_Vv (Z := mX7_readClauses) (As := []) (c7_readClauses (t := t) (X := rd0 X (37 * t)) ht h1 hn rfl hT rfl ⟨r0.symm, r1.symm, fun z => by rw [r1] at z; omega, fun r c _ _ z _ => by rw [r1] at z; omega⟩ p0 ⟨show (0 : Int) ≤ 0 by omega, show (0 : Int) ≤ 8 by omega⟩ ⟨Or.inl ⟨rfl, rfl, r3⟩, Or.inl ⟨rfl, rfl, r4⟩⟩) RD0 rfl kX7_readClauses lX7_46 iX7_readClauses vX7_readClauses dX7_read_41 rfl rfl rfl (Nat.le_of_ble_eq_true rfl) ⟨Nat.le_of_ble_eq_true rfl, Nat.le_of_ble_eq_true rfl⟩ (fun q hq => ?_)
  replace hq : RLP _ (37 * t) (rdT (ba 1) n (37 * t) X) q := hq
  obtain ⟨Z, hZ⟩ : ∃ Z, rdT (ba 1) n (37 * t) X = Z := ⟨_, rfl⟩
  rw [hZ] at hq hRI hsl ⊢
  obtain ⟨i1, -, i3, i4, i5⟩ := hRI
  obtain ⟨q2, q3, q4, q5, q6⟩ := hq
  replace q5 : q.2 1 = bi 1 := q5
  have oq : ok32 (q.2 2) := by rw [q2]; unfold ok32; omega
  refine w_aload_n dX7_read_44 rfl rfl ?_
  refine w_getf fX7_15 dX7_read_45 RD0 rfl ?_
  refine w_if_eq 53 dX7_read_48 (by decide) (by first | assumption | (unfold ok32 at *; omega)) (fun hf => ?_) (fun hf => ?_)
  rotate_left
  · have he : ¬ Z.1 = 0 := fun z => hf (q2.trans z)
    refine w_null dX7_read_51 ?_
    exact x_aretN rfl (Or.inl ⟨_, rfl⟩) dX7_read_52 ⟨q, q5, q2, by rw [if_neg he]; exact q3 he, Or.inl ⟨he, rfl, rfl⟩⟩
  · have he : Z.1 = 0 := q2.symm.trans hf
    obtain ⟨⟨s1, s2, s3, s4⟩, ⟨c1, c2⟩, s5⟩ := q4 he
    have hs := hsl he
    obtain ⟨x1, x2⟩ := i5 he
    obtain ⟨⟨y0, -⟩, y1, y2, y3, y4, y5⟩ := i1
    obtain ⟨D, hD⟩ : ∃ D, Z.2.1 = D := ⟨_, rfl⟩
    rw [hD] at s1 s2 s3 s4 c1 c2 s5 hs x1 x2 y0 y1 y2 y3 y4 y5
    have o11 : ok32 (q.2 11) := by unfold ok32; omega
    have o12 : ok32 (q.2 12) := by unfold ok32; omega
    obtain ⟨L, hL⟩ : ∃ L : Nat, D (37 * t) = (L : Int) := ⟨(D (37 * t)).toNat, by omega⟩
    obtain ⟨R, hR⟩ : ∃ R : Nat, D (37 * t + 1) = (R : Int) := ⟨(D (37 * t + 1)).toNat, by omega⟩
    obtain ⟨C, hC⟩ : ∃ C : Nat, D (37 * t + 2) = (C : Int) := ⟨(D (37 * t + 2)).toNat, by omega⟩
    have last : wp mX7_read 88 [.ref a, .int (zI (D (37 * t + 3))), .int (zI (D (37 * t + 4)))] [] (RDH a (u1 ba 2 q.1) q.2 h0) 7 351 (fun v h' => RTP a ba bi h0 (37 * t) Z v h') := by
      refine w_new nX7_49 (by decide) (by decide) dX7_read_88 ?_
      have o_a : ∀ {e : CE}, (((RDH a (u1 ba 2 q.1) q.2 h0).1 + 1, up (RDH a (u1 ba 2 q.1) q.2 h0).2 (RDH a (u1 ba 2 q.1) q.2 h0).1 e) : HP).2 a = some (.inr (6, rdfs a q.2)) := (up_n (show a ≠ h0.1 by omega)).trans RD0
      have o_s : ∀ {e : CE}, (((RDH a (u1 ba 2 q.1) q.2 h0).1 + 1, up (RDH a (u1 ba 2 q.1) q.2 h0).2 (RDH a (u1 ba 2 q.1) q.2 h0).1 e) : HP).2 (a + 2) = some (aI 32 q.1) := (up_n (show a + 2 ≠ h0.1 by omega)).trans RD2
      refine w_dup dX7_read_91 rfl ?_
      refine w_aload_n dX7_read_92 rfl rfl ?_
      refine w_getf fX7_31 dX7_read_93 o_a rfl ?_
      refine w_aload_n dX7_read_96 rfl rfl ?_
      refine w_getf fX7_34 dX7_read_97 o_a rfl ?_
      refine w_aload_n dX7_read_100 rfl rfl ?_
      refine w_getf fX7_37 dX7_read_101 o_a rfl ?_
      refine w_iload_n dX7_read_104 rfl rfl ?_
      refine w_iload_n dX7_read_105 rfl rfl ?_
      refine w_aload_n dX7_read_106 rfl rfl ?_
      refine w_getf fX7_22 dX7_read_107 o_a rfl ?_
      refine w_cloneI lX7_51 smCI naC inC seCI caCI o_s rfl (Nat.le_of_ble_eq_true rfl) (Nat.le_of_ble_eq_true rfl) (by decide) (by decide) dX7_read_110 ?_
      refine w_castI tX7_52 up_s dX7_read_113 ?_
      rw [s1, s2, s3 (by omega), hL, hR, hC]
      have hI := c2_init (a := h0.1) (s := h0.1 + 1) (n0 := h0.1 + 2) (h := (h0.1 + 1 + 1, up (up (RDH a (u1 ba 2 q.1) q.2 h0).2 h0.1 (.inr (2, [.int 0, .int 0, .int 0, .int 0, .int 0, .int 0, .int 0, .null, .null, .null, .null, .null, .int 0, .long 0, .null]))) (h0.1 + 1) (aI 32 q.1))) (f7 := q.1) (B := txB D (37 * t)) (L := L) (R := R) (C := C) rfl (by omega) (by omega) (by omega) ((up_n (by omega)).trans up_s) up_s ⟨hL, hR, hC, by omega, by omega, by omega, fun k hk => by rw [txB_s]; exact y0 t ht k hk⟩ y4 y5 (fun i hi k hk => by
        have b1 := s4 i k (by omega) (by omega) (by omega) (by omega)
        have b2 := hs i k (by omega) (by omega) (by omega) (by omega)
        rw [show 14 + 8 * i + k = 14 + (8 * i + k) by omega, txB_s]
        exact ⟨b1, by omega⟩)
      refine w_callI (Z := mX2_init) (As := [_, _, _, _, _, _]) hI kX2_init rfl lX7_56 iX2_init rfl dX7_read_116 rfl rfl rfl (Nat.le_of_ble_eq_true rfl) ⟨Nat.le_of_ble_eq_true rfl, Nat.le_of_ble_eq_true rfl⟩ (by decide) (by decide) (fun v' h' w => ?_)
      obtain ⟨hv', k1, k2, k3, k4, k5⟩ := w
      subst hv'
      refine x_aret rfl (Or.inl ⟨_, rfl⟩) dX7_read_119 ⟨q, q5, q2, by rw [if_pos he]; exact q6 he, Or.inr ⟨he, rfl, L, R, C, ?_⟩⟩
      rw [hD]
      refine ⟨k1, k2.mono (fun x hx => ?_) (fun _ _ => rfl), k3, k4, fun x hx => ?_⟩
      · show h0.1 ≤ x ∧ x < h0.1 + 6
        rcases hx with w | w | w
        · omega
        · omega
        · omega
      · replace hx : x < h0.1 := hx
        rw [k5 x (by omega) (by omega)]
        exact (up_n (by omega)).trans (up_n (by omega))
    have second : ∀ (x2 : Value), wp mX7_read 70 [.ref a, .int (zI (D (37 * t + 3))), x2] [] (RDH a (u1 ba 2 q.1) q.2 h0) 7 351 (fun v h' => RTP a ba bi h0 (37 * t) Z v h') := by
      intro x2
      refine w_aload_n dX7_read_70 rfl rfl ?_
      refine w_getf fX7_43 dX7_read_71 RD0 rfl ?_
      refine w_iconst dX7_read_74 ?_
      refine w_icmp_ne 83 dX7_read_75 (by decide) (by first | assumption | (unfold ok32 at *; omega)) (by first | assumption | (unfold ok32 at *; omega)) (fun hm => ?_) (fun hm => ?_)
      · refine w_aload_n dX7_read_83 rfl rfl ?_
        refine w_getf fX7_43 dX7_read_84 RD0 rfl ?_
        rw [show q.2 12 = D (37 * t + 4) by omega]
        refine w_istore_n (lv' := [_, _, _]) dX7_read_87 rfl (Nat.le_of_ble_eq_true rfl) rfl rfl ?_
        exact last
      · refine w_bipush dX7_read_78 (by decide) ?_
        refine w_goto 87 dX7_read_80 (by decide) ?_
        rw [show (15 : Int) = D (37 * t + 4) by omega]
        refine w_istore_n (lv' := [_, _, _]) dX7_read_87 rfl (Nat.le_of_ble_eq_true rfl) rfl rfl ?_
        exact last
    refine w_aload_n dX7_read_53 rfl rfl ?_
    refine w_getf fX7_40 dX7_read_54 RD0 rfl ?_
    refine w_iconst dX7_read_57 ?_
    refine w_icmp_ne 65 dX7_read_58 (by decide) (by first | assumption | (unfold ok32 at *; omega)) (by first | assumption | (unfold ok32 at *; omega)) (fun hm => ?_) (fun hm => ?_)
    · refine w_aload_n dX7_read_65 rfl rfl ?_
      refine w_getf fX7_40 dX7_read_66 RD0 rfl ?_
      rw [show q.2 11 = D (37 * t + 3) by omega]
      refine w_istore_n (lv' := [_, _, _]) dX7_read_69 rfl (Nat.le_of_ble_eq_true rfl) rfl rfl ?_
      exact second _
    · refine w_iconst dX7_read_61 ?_
      refine w_goto 69 dX7_read_62 (by decide) ?_
      rw [show (1 : Int) = D (37 * t + 3) by omega]
      refine w_istore_n (lv' := [_, _, _]) dX7_read_69 rfl (Nat.le_of_ble_eq_true rfl) rfl rfl ?_
      exact second _

