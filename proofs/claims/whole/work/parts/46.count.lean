/-! bits of longs and ints counted -/
theorem lB_ushr {v : BitVec 64} {k : Nat} (hk : k < 64) : ((lB v).toUInt64 >>> ((zI (k : Int)).toInt64.toUInt64 &&& Int64.toUInt64 63)).toInt64 = lB (v >>> k) := by
  have key : ∀ k : Nat, k < 64 → (zI (k : Int)).toInt64.toUInt64 &&& Int64.toUInt64 63 = UInt64.ofNat k ∧ ((UInt64.ofNat k).toBitVec % 64).toNat = k := by decide +kernel
  rw [(key k hk).1]
  apply Int64.toBitVec.inj
  show ((lB v).toUInt64 >>> UInt64.ofNat k).toBitVec = v >>> k
  rw [UInt64.toBitVec_shiftRight]
  show v >>> ((UInt64.ofNat k).toBitVec % 64) = v >>> k
  rw [BitVec.ushiftRight_eq', (key k hk).2]
theorem iB_ushr {v : BitVec 32} {k : Nat} (hk : k < 32) : ((iB v).toUInt32 >>> ((zI (k : Int)).toUInt32 &&& Int32.toUInt32 31)).toInt32 = iB (v >>> k) := by
  have key : ∀ k : Nat, k < 32 → (zI (k : Int)).toUInt32 &&& Int32.toUInt32 31 = UInt32.ofNat k ∧ ((UInt32.ofNat k).toBitVec % 32).toNat = k := by decide +kernel
  rw [(key k hk).1]
  apply Int32.toBitVec.inj
  show ((iB v).toUInt32 >>> UInt32.ofNat k).toBitVec = v >>> k
  rw [UInt32.toBitVec_shiftRight]
  show v >>> ((UInt32.ofNat k).toBitVec % 32) = v >>> k
  rw [BitVec.ushiftRight_eq', (key k hk).2]
def bc1 (x : BitVec 64) : BitVec 64 := x - ((x >>> 1) &&& 6148914691236517205#64)
def bc2 (x : BitVec 64) : BitVec 64 := (x &&& 3689348814741910323#64) + ((x >>> 2) &&& 3689348814741910323#64)
def bc3 (x : BitVec 64) : BitVec 64 := (x + (x >>> 4)) &&& 1085102592571150095#64
def bcS (k : Nat) (x : BitVec 64) : BitVec 64 := x + (x >>> k)
theorem dg_8 {g : Nat → Nat} : dg 8 g 8 = g 0 + 256 * (g 1 + 256 * g 2 + 65536 * g 3 + 16777216 * g 4 + 4294967296 * g 5 + 1099511627776 * g 6 + 281474976710656 * g 7) := by
  show 0 + 2 ^ (8 * 0) * g 0 + 2 ^ (8 * 1) * g 1 + 2 ^ (8 * 2) * g 2 + 2 ^ (8 * 3) * g 3 + 2 ^ (8 * 4) * g 4 + 2 ^ (8 * 5) * g 5 + 2 ^ (8 * 6) * g 6 + 2 ^ (8 * 7) * g 7 = _
  omega
theorem bc_ok (x : BitVec 64) : (bcS 32 (bcS 16 (bcS 8 (bc3 (bc2 (bc1 x)))))).toNat % 128 = pop x := by
  have hx : x.toNat < 2 ^ 64 := x.isLt
  obtain ⟨e, h1, h2, h3, h4, h5, h6⟩ := pc_all (N := 8) (x := x.toNat) hx
  rw [show dg 2 (fun _ => 1) (2 * (2 * 8)) = 6148914691236517205 by decide +kernel] at h1 h4 h5 h6
  rw [show dg 4 (fun _ => 3) (2 * 8) = 3689348814741910323 by decide +kernel] at h1 h4 h6
  rw [show dg 8 (fun _ => 15) 8 = 1085102592571150095 by decide +kernel] at h1
  have e1 : (bc1 x).toNat = pc1 6148914691236517205 x.toNat := by
    unfold bc1 pc1
    rw [BitVec.toNat_sub_of_le (by rw [BitVec.le_def, BitVec.toNat_and, BitVec.toNat_ushiftRight]; exact h5), BitVec.toNat_and, BitVec.toNat_ushiftRight]
    rfl
  have e2 : (bc2 (bc1 x)).toNat = pc2 3689348814741910323 (pc1 6148914691236517205 x.toNat) := by
    unfold bc2
    rw [BitVec.toNat_add_of_lt, BitVec.toNat_and, BitVec.toNat_and, BitVec.toNat_ushiftRight, e1]
    · rfl
    · rw [BitVec.toNat_and, BitVec.toNat_and, BitVec.toNat_ushiftRight, e1]
      exact h6
  have e3 : (bc3 (bc2 (bc1 x))).toNat = dg 8 e 8 := by
    unfold bc3
    rw [BitVec.toNat_and, BitVec.toNat_add_of_lt, BitVec.toNat_ushiftRight, e2]
    · exact h1
    · rw [BitVec.toNat_ushiftRight, e2]
      exact h4
  have stp : ∀ (s : Nat) (y : BitVec 64) (f : Nat → Nat), (∀ i, i < 8 → f i ≤ 64) → y.toNat = dg 8 f 8 → (bcS (8 * s) y).toNat = dg 8 (fun i => f i + if i + s < 8 then f (i + s) else 0) 8 := by
    intro s y f hf hy
    obtain ⟨g1, g2⟩ := pcS_ok (n := 8) (s := s) hf
    unfold bcS
    rw [BitVec.toNat_add_of_lt, BitVec.toNat_ushiftRight, hy]
    · exact g1
    · rw [BitVec.toNat_ushiftRight, hy]
      exact g2
  have q1 := stp 1 _ e (fun i hi => by have := h2 i hi; omega) e3
  obtain ⟨f1, hf1⟩ : ∃ f : Nat → Nat, f = fun i => e i + if i + 1 < 8 then e (i + 1) else 0 := ⟨_, rfl⟩
  rw [← hf1] at q1
  have b1 : ∀ i, i < 8 → f1 i ≤ 16 := fun i hi => by
    have a1 := h2 i hi
    rw [hf1]
    show e i + (if i + 1 < 8 then e (i + 1) else 0) ≤ 16
    split
    · have a2 := h2 (i + 1) (by omega); omega
    · omega
  have q2 := stp 2 _ f1 (fun i hi => Nat.le_trans (b1 i hi) (by omega)) q1
  obtain ⟨f2, hf2⟩ : ∃ f : Nat → Nat, f = fun i => f1 i + if i + 2 < 8 then f1 (i + 2) else 0 := ⟨_, rfl⟩
  rw [← hf2] at q2
  have b2 : ∀ i, i < 8 → f2 i ≤ 32 := fun i hi => by
    have a1 := b1 i hi
    rw [hf2]
    show f1 i + (if i + 2 < 8 then f1 (i + 2) else 0) ≤ 32
    split
    · have a2 := b1 (i + 2) (by omega); omega
    · omega
  have q3 := stp 4 _ f2 (fun i hi => Nat.le_trans (b2 i hi) (by omega)) q2
  obtain ⟨f3, hf3⟩ : ∃ f : Nat → Nat, f = fun i => f2 i + if i + 4 < 8 then f2 (i + 4) else 0 := ⟨_, rfl⟩
  rw [← hf3] at q3
  have q4 : (bcS 32 (bcS 16 (bcS 8 (bc3 (bc2 (bc1 x)))))).toNat = dg 8 f3 8 := q3
  have hs : sN e 8 = e 0 + e 1 + e 2 + e 3 + e 4 + e 5 + e 6 + e 7 := by
    show 0 + e 0 + e 1 + e 2 + e 3 + e 4 + e 5 + e 6 + e 7 = _
    omega
  have h30 : sN e 8 = sN (bt x.toNat) 64 := h3
  have r0 : f3 0 = f2 0 + f2 4 := by rw [hf3]; rfl
  have r1 : f2 0 = f1 0 + f1 2 := by rw [hf2]; rfl
  have r2 : f2 4 = f1 4 + f1 6 := by rw [hf2]; rfl
  have r3 : f1 0 = e 0 + e 1 := by rw [hf1]; rfl
  have r4 : f1 2 = e 2 + e 3 := by rw [hf1]; rfl
  have r5 : f1 4 = e 4 + e 5 := by rw [hf1]; rfl
  have r6 : f1 6 = e 6 + e 7 := by rw [hf1]; rfl
  have c0 := h2 0 (by omega)
  have c1 := h2 1 (by omega)
  have c2 := h2 2 (by omega)
  have c3 := h2 3 (by omega)
  have c4 := h2 4 (by omega)
  have c5 := h2 5 (by omega)
  have c6 := h2 6 (by omega)
  have c7 := h2 7 (by omega)
  rw [q4, dg_8, pop_sN, ← h30, hs]
  omega
theorem and127 (z : BitVec 64) : zI z.toInt &&& zI 127 = zI ((z.toNat % 128 : Nat) : Int) := by
  apply Int32.toBitVec.inj
  show BitVec.ofInt 32 z.toInt &&& 127#32 = BitVec.ofInt 32 ((z.toNat % 128 : Nat) : Int)
  apply BitVec.eq_of_toNat_eq
  have h1 : (BitVec.ofInt 32 z.toInt).toNat = z.toNat % 2 ^ 32 := by
    rw [BitVec.toNat_ofInt, BitVec.toInt_eq_toNat_cond]
    split <;> omega
  rw [BitVec.toNat_and, h1, BitVec.ofInt_natCast]
  show (z.toNat % 2 ^ 32) &&& (2 ^ 7 - 1) = (z.toNat % 128) % 2 ^ 32
  rw [Nat.and_two_pow_sub_one_eq_mod]
  omega
theorem c_bitCount {x : BitVec 64} {h : HP} : sp mJ13_bitCount_95d88 [.long (lB x)] h 0 0 (pd (some (.int (zI (pop x : Nat)))) h) := by
  have hsh : ∀ {pc : Nat} {lv st : List Value} {h : HP} {rc rs : Nat} {Φ : Option Value → HP → Prop} {v : BitVec 64} (k : Nat), k < 64 → decode mJ13_bitCount_95d88.2.1 pc = .ok (.lushr, 1) → wp mJ13_bitCount_95d88 (pc + 1) lv (.long (lB (v >>> k)) :: st) h rc rs Φ → wp mJ13_bitCount_95d88 pc lv (.int (zI (k : Int)) :: .long (lB v) :: st) h rc rs Φ := by
    intro pc lv st h rc rs Φ v k hk hd K
    refine w_lushrR hd ?_
    rw [lB_ushr hk]
    exact K
  refine sp_wp rfl (lv := [_, _]) rfl (Nat.le_of_ble_eq_true rfl) ?_
  refine w_lload_n dJ13_bitCount_95d88_0 rfl rfl ?_
  refine w_lload_n dJ13_bitCount_95d88_1 rfl rfl ?_
  refine w_iconst dJ13_bitCount_95d88_2 ?_
  refine hsh 1 (by omega) dJ13_bitCount_95d88_3 ?_
  refine w_ldc2B (6148914691236517205#64) qJ13_314 (by decide) dJ13_bitCount_95d88_4 ?_
  refine w_land dJ13_bitCount_95d88_7 ?_
  refine w_lsub dJ13_bitCount_95d88_8 ?_
  refine w_lstore_n (lv' := [_, _]) dJ13_bitCount_95d88_9 rfl (Nat.le_of_ble_eq_true rfl) rfl rfl ?_
  refine w_lload_n dJ13_bitCount_95d88_10 rfl rfl ?_
  refine w_ldc2B (3689348814741910323#64) qJ13_316 (by decide) dJ13_bitCount_95d88_11 ?_
  refine w_land dJ13_bitCount_95d88_14 ?_
  refine w_lload_n dJ13_bitCount_95d88_15 rfl rfl ?_
  refine w_iconst dJ13_bitCount_95d88_16 ?_
  refine hsh 2 (by omega) dJ13_bitCount_95d88_17 ?_
  refine w_ldc2B (3689348814741910323#64) qJ13_316 (by decide) dJ13_bitCount_95d88_18 ?_
  refine w_land dJ13_bitCount_95d88_21 ?_
  refine w_ladd dJ13_bitCount_95d88_22 ?_
  refine w_lstore_n (lv' := [_, _]) dJ13_bitCount_95d88_23 rfl (Nat.le_of_ble_eq_true rfl) rfl rfl ?_
  refine w_lload_n dJ13_bitCount_95d88_24 rfl rfl ?_
  refine w_lload_n dJ13_bitCount_95d88_25 rfl rfl ?_
  refine w_iconst dJ13_bitCount_95d88_26 ?_
  refine hsh 4 (by omega) dJ13_bitCount_95d88_27 ?_
  refine w_ladd dJ13_bitCount_95d88_28 ?_
  refine w_ldc2B (1085102592571150095#64) qJ13_318 (by decide) dJ13_bitCount_95d88_29 ?_
  refine w_land dJ13_bitCount_95d88_32 ?_
  refine w_lstore_n (lv' := [_, _]) dJ13_bitCount_95d88_33 rfl (Nat.le_of_ble_eq_true rfl) rfl rfl ?_
  refine w_lload_n dJ13_bitCount_95d88_34 rfl rfl ?_
  refine w_lload_n dJ13_bitCount_95d88_35 rfl rfl ?_
  refine w_bipush dJ13_bitCount_95d88_36 (by decide) ?_
  refine hsh 8 (by omega) dJ13_bitCount_95d88_38 ?_
  refine w_ladd dJ13_bitCount_95d88_39 ?_
  refine w_lstore_n (lv' := [_, _]) dJ13_bitCount_95d88_40 rfl (Nat.le_of_ble_eq_true rfl) rfl rfl ?_
  refine w_lload_n dJ13_bitCount_95d88_41 rfl rfl ?_
  refine w_lload_n dJ13_bitCount_95d88_42 rfl rfl ?_
  refine w_bipush dJ13_bitCount_95d88_43 (by decide) ?_
  refine hsh 16 (by omega) dJ13_bitCount_95d88_45 ?_
  refine w_ladd dJ13_bitCount_95d88_46 ?_
  refine w_lstore_n (lv' := [_, _]) dJ13_bitCount_95d88_47 rfl (Nat.le_of_ble_eq_true rfl) rfl rfl ?_
  refine w_lload_n dJ13_bitCount_95d88_48 rfl rfl ?_
  refine w_lload_n dJ13_bitCount_95d88_49 rfl rfl ?_
  refine w_bipush dJ13_bitCount_95d88_50 (by decide) ?_
  refine hsh 32 (by omega) dJ13_bitCount_95d88_52 ?_
  refine w_ladd dJ13_bitCount_95d88_53 ?_
  refine w_lstore_n (lv' := [_, _]) dJ13_bitCount_95d88_54 rfl (Nat.le_of_ble_eq_true rfl) rfl rfl ?_
  refine w_lload_n dJ13_bitCount_95d88_55 rfl rfl ?_
  refine w_l2i dJ13_bitCount_95d88_56 ?_
  refine w_bipush dJ13_bitCount_95d88_57 (by decide) ?_
  refine w_iandR dJ13_bitCount_95d88_59 ?_
  rw [and127]
  refine x_iret rfl rfl dJ13_bitCount_95d88_60 ⟨?_, rfl⟩
  exact congrArg (fun n : Nat => some (Value.int (zI (n : Int)))) (bc_ok x)
/-! and of an int -/
def pop32 (v : BitVec 32) : Nat := pn v.getLsbD 32
def ic1 (x : BitVec 32) : BitVec 32 := x - ((x >>> 1) &&& 1431655765#32)
def ic2 (x : BitVec 32) : BitVec 32 := (x &&& 858993459#32) + ((x >>> 2) &&& 858993459#32)
def ic3 (x : BitVec 32) : BitVec 32 := (x + (x >>> 4)) &&& 252645135#32
def icS (k : Nat) (x : BitVec 32) : BitVec 32 := x + (x >>> k)
theorem pop32_sN {x : BitVec 32} : pop32 x = sN (bt x.toNat) 32 := pn_sN (fun i _ => by
  unfold bt
  rw [BitVec.testBit_toNat])
theorem ic_ok (x : BitVec 32) : (icS 16 (icS 8 (ic3 (ic2 (ic1 x))))).toNat % 64 = pop32 x := by
  have hx : x.toNat < 2 ^ 32 := x.isLt
  obtain ⟨e, h1, h2, h3, h4, h5, h6⟩ := pc_all (N := 4) (x := x.toNat) hx
  rw [show dg 2 (fun _ => 1) (2 * (2 * 4)) = 1431655765 by decide +kernel] at h1 h4 h5 h6
  rw [show dg 4 (fun _ => 3) (2 * 4) = 858993459 by decide +kernel] at h1 h4 h6
  rw [show dg 8 (fun _ => 15) 4 = 252645135 by decide +kernel] at h1
  have e1 : (ic1 x).toNat = pc1 1431655765 x.toNat := by
    unfold ic1 pc1
    rw [BitVec.toNat_sub_of_le (by rw [BitVec.le_def, BitVec.toNat_and, BitVec.toNat_ushiftRight]; exact h5), BitVec.toNat_and, BitVec.toNat_ushiftRight]
    rfl
  have e2 : (ic2 (ic1 x)).toNat = pc2 858993459 (pc1 1431655765 x.toNat) := by
    unfold ic2
    rw [BitVec.toNat_add_of_lt, BitVec.toNat_and, BitVec.toNat_and, BitVec.toNat_ushiftRight, e1]
    · rfl
    · rw [BitVec.toNat_and, BitVec.toNat_and, BitVec.toNat_ushiftRight, e1]
      exact h6
  have e3 : (ic3 (ic2 (ic1 x))).toNat = dg 8 e 4 := by
    unfold ic3
    rw [BitVec.toNat_and, BitVec.toNat_add_of_lt, BitVec.toNat_ushiftRight, e2]
    · exact h1
    · rw [BitVec.toNat_ushiftRight, e2]
      exact h4
  have stp : ∀ (s : Nat) (y : BitVec 32) (f : Nat → Nat), (∀ i, i < 4 → f i ≤ 64) → y.toNat = dg 8 f 4 → (icS (8 * s) y).toNat = dg 8 (fun i => f i + if i + s < 4 then f (i + s) else 0) 4 := by
    intro s y f hf hy
    obtain ⟨g1, g2⟩ := pcS_ok (n := 4) (s := s) hf
    unfold icS
    rw [BitVec.toNat_add_of_lt, BitVec.toNat_ushiftRight, hy]
    · exact g1
    · rw [BitVec.toNat_ushiftRight, hy]
      exact g2
  have q1 := stp 1 _ e (fun i hi => by have := h2 i hi; omega) e3
  obtain ⟨f1, hf1⟩ : ∃ f : Nat → Nat, f = fun i => e i + if i + 1 < 4 then e (i + 1) else 0 := ⟨_, rfl⟩
  rw [← hf1] at q1
  have b1 : ∀ i, i < 4 → f1 i ≤ 16 := fun i hi => by
    have a1 := h2 i hi
    rw [hf1]
    show e i + (if i + 1 < 4 then e (i + 1) else 0) ≤ 16
    split
    · have a2 := h2 (i + 1) (by omega); omega
    · omega
  have q2 := stp 2 _ f1 (fun i hi => Nat.le_trans (b1 i hi) (by omega)) q1
  obtain ⟨f2, hf2⟩ : ∃ f : Nat → Nat, f = fun i => f1 i + if i + 2 < 4 then f1 (i + 2) else 0 := ⟨_, rfl⟩
  rw [← hf2] at q2
  have q4 : (icS 16 (icS 8 (ic3 (ic2 (ic1 x))))).toNat = dg 8 f2 4 := q2
  have hs : sN e 4 = e 0 + e 1 + e 2 + e 3 := by
    show 0 + e 0 + e 1 + e 2 + e 3 = _
    omega
  have h30 : sN e 4 = sN (bt x.toNat) 32 := h3
  have r1 : f2 0 = f1 0 + f1 2 := by rw [hf2]; rfl
  have r3 : f1 0 = e 0 + e 1 := by rw [hf1]; rfl
  have r4 : f1 2 = e 2 + e 3 := by rw [hf1]; rfl
  have c0 := h2 0 (by omega)
  have c1 := h2 1 (by omega)
  have c2 := h2 2 (by omega)
  have c3 := h2 3 (by omega)
  have d4 : dg 8 f2 4 = f2 0 + 256 * (f2 1 + 256 * f2 2 + 65536 * f2 3) := by
    show 0 + 2 ^ (8 * 0) * f2 0 + 2 ^ (8 * 1) * f2 1 + 2 ^ (8 * 2) * f2 2 + 2 ^ (8 * 3) * f2 3 = _
    omega
  rw [q4, d4, pop32_sN, ← h30, hs]
  omega
theorem and63 (z : BitVec 32) : iB z &&& zI 63 = zI ((z.toNat % 64 : Nat) : Int) := by
  apply Int32.toBitVec.inj
  show z &&& 63#32 = BitVec.ofInt 32 ((z.toNat % 64 : Nat) : Int)
  apply BitVec.eq_of_toNat_eq
  rw [BitVec.toNat_and, BitVec.ofInt_natCast]
  show z.toNat &&& (2 ^ 6 - 1) = (z.toNat % 64) % 2 ^ 32
  rw [Nat.and_two_pow_sub_one_eq_mod]
  have := z.isLt
  omega
theorem pop32_le (v : BitVec 32) : pop32 v ≤ 32 := pn_le _ _
theorem c_ibitCount {v : BitVec 32} {h : HP} : sp mJ6_bitCount_0f7a4 [.int (iB v)] h 0 0 (pd (some (.int (zI (pop32 v : Nat)))) h) := by
  have hsh : ∀ {pc : Nat} {lv st : List Value} {h : HP} {rc rs : Nat} {Φ : Option Value → HP → Prop} {v : BitVec 32} (k : Nat), k < 32 → decode mJ6_bitCount_0f7a4.2.1 pc = .ok (.iushr, 1) → wp mJ6_bitCount_0f7a4 (pc + 1) lv (.int (iB (v >>> k)) :: st) h rc rs Φ → wp mJ6_bitCount_0f7a4 pc lv (.int (zI (k : Int)) :: .int (iB v) :: st) h rc rs Φ := by
    intro pc lv st h rc rs Φ v k hk hd K
    refine w_iushrR hd ?_
    rw [iB_ushr hk]
    exact K
  refine sp_wp rfl (lv := [_]) rfl (Nat.le_of_ble_eq_true rfl) ?_
  refine w_iload_n dJ6_bitCount_0f7a4_0 rfl rfl ?_
  refine w_iload_n dJ6_bitCount_0f7a4_1 rfl rfl ?_
  refine w_iconst dJ6_bitCount_0f7a4_2 ?_
  refine hsh 1 (by omega) dJ6_bitCount_0f7a4_3 ?_
  refine w_ldcw qJ6_265 dJ6_bitCount_0f7a4_4 ?_
  refine w_iandR dJ6_bitCount_0f7a4_7 ?_
  refine w_isubR dJ6_bitCount_0f7a4_8 ?_
  refine w_topi (y := iB (ic1 v)) rfl ?_
  refine w_istore_n (lv' := [_]) dJ6_bitCount_0f7a4_9 rfl (Nat.le_of_ble_eq_true rfl) rfl rfl ?_
  refine w_iload_n dJ6_bitCount_0f7a4_10 rfl rfl ?_
  refine w_ldcw qJ6_266 dJ6_bitCount_0f7a4_11 ?_
  refine w_iandR dJ6_bitCount_0f7a4_14 ?_
  refine w_iload_n dJ6_bitCount_0f7a4_15 rfl rfl ?_
  refine w_iconst dJ6_bitCount_0f7a4_16 ?_
  refine hsh 2 (by omega) dJ6_bitCount_0f7a4_17 ?_
  refine w_ldcw qJ6_266 dJ6_bitCount_0f7a4_18 ?_
  refine w_iandR dJ6_bitCount_0f7a4_21 ?_
  refine w_iaddR dJ6_bitCount_0f7a4_22 ?_
  refine w_topi (y := iB (ic2 (ic1 v))) rfl ?_
  refine w_istore_n (lv' := [_]) dJ6_bitCount_0f7a4_23 rfl (Nat.le_of_ble_eq_true rfl) rfl rfl ?_
  refine w_iload_n dJ6_bitCount_0f7a4_24 rfl rfl ?_
  refine w_iload_n dJ6_bitCount_0f7a4_25 rfl rfl ?_
  refine w_iconst dJ6_bitCount_0f7a4_26 ?_
  refine hsh 4 (by omega) dJ6_bitCount_0f7a4_27 ?_
  refine w_iaddR dJ6_bitCount_0f7a4_28 ?_
  refine w_ldcw qJ6_267 dJ6_bitCount_0f7a4_29 ?_
  refine w_iandR dJ6_bitCount_0f7a4_32 ?_
  refine w_topi (y := iB (ic3 (ic2 (ic1 v)))) rfl ?_
  refine w_istore_n (lv' := [_]) dJ6_bitCount_0f7a4_33 rfl (Nat.le_of_ble_eq_true rfl) rfl rfl ?_
  refine w_iload_n dJ6_bitCount_0f7a4_34 rfl rfl ?_
  refine w_iload_n dJ6_bitCount_0f7a4_35 rfl rfl ?_
  refine w_bipush dJ6_bitCount_0f7a4_36 (by decide) ?_
  refine hsh 8 (by omega) dJ6_bitCount_0f7a4_38 ?_
  refine w_iaddR dJ6_bitCount_0f7a4_39 ?_
  refine w_topi (y := iB (icS 8 (ic3 (ic2 (ic1 v))))) rfl ?_
  refine w_istore_n (lv' := [_]) dJ6_bitCount_0f7a4_40 rfl (Nat.le_of_ble_eq_true rfl) rfl rfl ?_
  refine w_iload_n dJ6_bitCount_0f7a4_41 rfl rfl ?_
  refine w_iload_n dJ6_bitCount_0f7a4_42 rfl rfl ?_
  refine w_bipush dJ6_bitCount_0f7a4_43 (by decide) ?_
  refine hsh 16 (by omega) dJ6_bitCount_0f7a4_45 ?_
  refine w_iaddR dJ6_bitCount_0f7a4_46 ?_
  refine w_topi (y := iB (icS 16 (icS 8 (ic3 (ic2 (ic1 v)))))) rfl ?_
  refine w_istore_n (lv' := [_]) dJ6_bitCount_0f7a4_47 rfl (Nat.le_of_ble_eq_true rfl) rfl rfl ?_
  refine w_iload_n dJ6_bitCount_0f7a4_48 rfl rfl ?_
  refine w_bipush dJ6_bitCount_0f7a4_49 (by decide) ?_
  refine w_iandR dJ6_bitCount_0f7a4_51 ?_
  rw [and63, ic_ok]
  exact x_iret rfl rfl dJ6_bitCount_0f7a4_52 ⟨rfl, rfl⟩

