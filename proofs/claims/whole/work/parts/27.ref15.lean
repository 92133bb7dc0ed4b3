/-- what holds of the sums when b bits have been gone through -/
def ELI (m b : Nat) (X : EL) : Prop := (∀ i, X.2.2 ≤ i → i < m → ∀ j, j < b → (X.1 i).getLsbD j = false) ∧ (∀ i, i < X.2.2 → ∃ t, t < b ∧ isLow (X.1 i) t ∧ X.2.1.getLsbD t = true) ∧ (∀ j, b ≤ j → X.2.1.getLsbD j = false) ∧ pn X.2.1.getLsbD b = X.2.2
theorem bit1o {t i : Nat} (ht : t < 64) : (1#64 <<< t).getLsbD i = decide (i = t) := by
  by_cases hi : i < 64
  · exact bit1 ht hi
  · rw [BitVec.getLsbD_of_ge _ _ (by omega)]; simp; omega
theorem elN_inv {m : Nat} {S0 : Nat → BitVec 64} : ∀ {b : Nat}, b ≤ 64 → ELI m b (elN m S0 b)
  | 0, _ => ⟨fun _ _ _ j hj => absurd hj (by omega), fun i hi => absurd hi (by show ¬ i < 0; omega), fun j _ => by show (0#64).getLsbD j = false; simp, rfl⟩
  | b + 1, hb => by
    obtain ⟨i1, i2, i3, i4⟩ := elN_inv (m := m) (S0 := S0) (b := b) (by omega)
    have hk := elN_rk (m := m) (S0 := S0) (b := b)
    unfold elN
    generalize elN m S0 b = X at i1 i2 i3 i4 hk
    obtain ⟨S, F, k⟩ := X
    simp only at i1 i2 i3 i4 hk
    have hT := fk_rng (S := S) (b := b) (d := m - k) (k := k)
    have hFb : F.getLsbD b = false := i3 b (Nat.le_refl _)
    unfold elS
    simp only
    split
    · rename_i hm
      refine ⟨fun i h1 h2 j hj => ?_, fun i hi => ?_, fun j hj => i3 j (by omega), ?_⟩
      · by_cases hjb : j = b
        · subst hjb; exact fk_no h1 (by rw [hm]; exact h2)
        · exact i1 i h1 h2 j (by omega)
      · obtain ⟨t, a1, a2, a3⟩ := i2 i hi
        exact ⟨t, by omega, a2, a3⟩
      · show pn _ b + (if F.getLsbD b = true then 1 else 0) = k
        rw [hFb, i4]; rfl
    · rename_i hm
      have hbT : (S (fk S b (m - k) k)).getLsbD b = true := fk_bit (by omega)
      generalize fk S b (m - k) k = T at hT hbT hm
      have hlow : ∀ j, j < b → (S T).getLsbD j = false := fun j hj => i1 T (by omega) (by omega) j hj
      refine ⟨fun i h1 h2 j hj => ?_, fun i hi => ?_, fun j hj => ?_, ?_⟩
      · simp only at h1 ⊢
        have hS2 : ∀ j, j < b → (u1 (u1 S T (S k)) k (S T) i).getLsbD j = false := by
          intro j hj
          rw [u1_n (by omega)]
          by_cases hiT : i = T
          · rw [hiT, u1_s]; exact i1 k (Nat.le_refl _) (by omega) j hj
          · rw [u1_n hiT]; exact i1 i (by omega) h2 j hj
        unfold elX
        split
        · rename_i hc
          rw [BitVec.getLsbD_xor]
          by_cases hjb : j = b
          · subst hjb; rw [hc.2.2, hbT]; rfl
          · rw [hS2 j (by omega), hlow j (by omega)]; rfl
        · rename_i hc
          by_cases hjb : j = b
          · subst hjb
            cases hq : (u1 (u1 S T (S k)) k (S T) i).getLsbD j with
            | false => rfl
            | true => exact absurd ⟨by omega, h2, hq⟩ hc
          · exact hS2 j (by omega)
      · simp only at hi ⊢
        unfold elX
        rw [if_neg (by omega)]
        by_cases hik : i = k
        · subst hik
          rw [u1_s]
          exact ⟨b, by omega, ⟨by omega, hbT, hlow⟩, by rw [BitVec.getLsbD_or, bit1o (by omega)]; simp⟩
        · rw [u1_n hik, u1_n (by omega)]
          obtain ⟨t, a1, a2, a3⟩ := i2 i (by omega)
          exact ⟨t, by omega, a2, by rw [BitVec.getLsbD_or, a3]; rfl⟩
      · simp only
        rw [BitVec.getLsbD_or, i3 j (by omega), bit1o (by omega)]; simp; omega
      · show pn (F ||| 1#64 <<< b).getLsbD b + (if (F ||| 1#64 <<< b).getLsbD b = true then 1 else 0) = k + 1
        rw [if_pos (by rw [BitVec.getLsbD_or, bit1o (by omega)]; simp), pn_congr (g := F.getLsbD) (fun i hi => by rw [BitVec.getLsbD_or, bit1o (by omega)]; simp; intro h; omega), i4]
def lwd (x : BitVec 64) : Nat → Nat → Nat
  | 0, k => k
  | d + 1, k => if x.getLsbD k = true then k else lwd x d (k + 1)
theorem lwd_eq {x : BitVec 64} {t : Nat} (h : isLow x t) : ∀ {d k : Nat}, k ≤ t → t < k + d → lwd x d k = t
  | 0, k, h1, h2 => by omega
  | d + 1, k, h1, h2 => by
    unfold lwd
    by_cases hk : k = t
    · subst hk; rw [if_pos h.2.1]
    · rw [if_neg (by rw [h.2.2 k (by omega)]; decide)]
      exact lwd_eq h (by omega) (by omega)
def lowN (x : BitVec 64) : Nat := lwd x 64 0
theorem lowN_eq {x : BitVec 64} {t : Nat} (h : isLow x t) : lowN x = t := lwd_eq h (Nat.zero_le _) (by have := h.1; omega)
/-- bits that carry a number -/
def wb1 (F x : BitVec 64) : Nat → BitVec 64
  | 0 => 0#64
  | b + 1 => if F.getLsbD b = true then wb1 F x b else if x.getLsbD (pn (fun i => !F.getLsbD i) b) = true then wb1 F x b ||| (1#64 <<< b) else wb1 F x b
/-- the other bits of its word -/
def wb2 (S : Nat → BitVec 64) : Nat → BitVec 64 → BitVec 64
  | 0, w => w
  | k + 1, w => wb2 S k (if pop (S k &&& w) % 2 = 1 then w ||| (1#64 <<< lowN (S k)) else w)
def wordX (X : EL) (n : Nat) (x : BitVec 64) : BitVec 64 := wb2 X.1 X.2.2 (wb1 X.2.1 x n)
set_option maxRecDepth 4000 in
theorem c_wordBy {r : Nat} {A : Nat → Int} {ia : Nat → Nat → Int} {la : Nat → Nat → BitVec 64} {fi : Nat → Int} {fl : Nat → BitVec 64} {h0 : HP} {L R C : Nat} {x : BitVec 64} {X : EL} (hV : VC A L R C) (hX : ELI (L * R) (L * C) X) (hk : X.2.2 ≤ L * R) (e1 : la 6 = X.1) (e2 : fl 16 = X.2.1) (e3 : fi 17 = ((X.2.2 : Nat) : Int)) : sp mX10_wordBy [.ref r, .long (lB x)] (RH r A ia la fi fl h0) 0 0 (pd (some (.long (lB (wordX X (L * C) x)))) (RH r A ia la fi fl h0)) := by
  obtain ⟨v1, v2, v3, v4, v5, v6, v7⟩ := id hV
  have hLR := mulLe (a := L) (b := R) (x := 6) (y := 4) (by omega) (by omega)
  have hLC := mulLe (a := L) (b := C) (x := 6) (y := 8) (by omega) (by omega)
  refine sp_wp rfl (lv := [_, _, _, _, _, _, _]) rfl (Nat.le_of_ble_eq_true rfl) ?_
  refine w_lconst0 dX10_wordBy_0 ?_
  refine w_lstore_n (lv' := [_, _, _, _, _, _, _]) dX10_wordBy_1 rfl (Nat.le_of_ble_eq_true rfl) rfl rfl ?_
  refine w_iconst dX10_wordBy_2 ?_
  refine w_istore (lv' := [_, _, _, _, _, _, _]) dX10_wordBy_3 (Nat.le_of_ble_eq_true rfl) rfl rfl ?_
  refine w_iconst dX10_wordBy_5 ?_
  refine w_istore (lv' := [_, _, _, _, _, _, _]) dX10_wordBy_6 (Nat.le_of_ble_eq_true rfl) rfl rfl ?_
  refine up_ind (N := L * C) (P := fun b => wp mX10_wordBy 8 [.ref r, .long (lB x), jk, .long (lB (wb1 X.2.1 x b)), jk, .int (zI ((pn (fun i => !X.2.1.getLsbD i) b : Nat) : Int)), .int (zI (b : Int))] [] (RH r A ia la fi fl h0) 0 0 (pd (some (.long (lB (wordX X (L * C) x)))) (RH r A ia la fi fl h0))) (fun b hb ih => ?_) 0 (Nat.zero_le _)
  have hpl := pn_le (fun i => !X.2.1.getLsbD i) b
  refine w_iload dX10_wordBy_8 rfl ?_
  refine w_aload_n dX10_wordBy_10 rfl rfl ?_
  refine wc_V (Z := mX10_bits) (As := []) c_bits RH0 rfl kX10_bits lX10_66 iX10_bits vX10_bits dX10_wordBy_11 rfl rfl rfl (Nat.le_of_ble_eq_true rfl) ⟨Nat.le_of_ble_eq_true rfl, Nat.le_of_ble_eq_true rfl⟩ ?_
  rw [v1, v3]
  refine w_icmp_ge 57 dX10_wordBy_14 (by decide) (by unfold ok32; omega) (by unfold ok32; omega) (fun hn => ?_) (fun hn => ?_)
  · have eb : b = L * C := by omega
    subst eb
    clear ih
    refine w_aload_n dX10_wordBy_57 rfl rfl ?_
    refine w_getf fX10_205 dX10_wordBy_58 RH0 rfl ?_
    rw [e3]
    refine w_iconst dX10_wordBy_61 ?_
    refine w_isub dX10_wordBy_62 ?_
    refine w_istore (lv' := [_, _, _, _, _, _, _]) dX10_wordBy_63 (Nat.le_of_ble_eq_true rfl) rfl rfl ?_
    have key : ∀ (n : Nat) (w : BitVec 64), n ≤ X.2.2 → wb2 X.1 n w = wordX X (L * C) x → wp mX10_wordBy 65 [.ref r, .long (lB x), jk, .long (lB w), jk, .int (zI ((pn (fun i => !X.2.1.getLsbD i) (L * C) : Nat) : Int)), .int (zI ((n : Int) - 1))] [] (RH r A ia la fi fl h0) 0 0 (pd (some (.long (lB (wordX X (L * C) x)))) (RH r A ia la fi fl h0)) := by
      intro n
      induction n with
      | zero =>
        intro w hn0 hw
        refine w_iload dX10_wordBy_65 rfl ?_
        refine w_if_lt 109 dX10_wordBy_67 (by decide) (by unfold ok32; omega) (fun hq => ?_) (fun hq => ?_)
        · refine w_lload_n dX10_wordBy_109 rfl rfl ?_
          refine x_lret rfl dX10_wordBy_110 ⟨?_, rfl⟩
          rw [← hw]; rfl
        · exact absurd (show ((0 : Nat) : Int) - 1 < 0 by decide) hq
      | succ n ih =>
        intro w hn0 hw
        obtain ⟨t, t1, t2, t3⟩ := hX.2.1 n (by omega)
        have hl := lowN_eq t2
        have hp := pop_le (X.1 n &&& w)
        unfold wb2 at hw
        refine w_iload dX10_wordBy_65 rfl ?_
        refine w_if_lt 109 dX10_wordBy_67 (by decide) (by unfold ok32; omega) (fun hq => ?_) (fun hq => ?_)
        · exact absurd hq (by push_cast; omega)
        · rw [show (((n + 1 : Nat) : Int) - 1) = (n : Int) by push_cast; omega]
          refine w_aload_n dX10_wordBy_70 rfl rfl ?_
          refine w_getf fX10_32 dX10_wordBy_71 RH0 rfl ?_
          refine w_iload dX10_wordBy_74 rfl ?_
          refine w_lald n RH6 rfl (by omega) (by decide) dX10_wordBy_76 ?_
          rw [e1]
          refine w_lload_n dX10_wordBy_77 rfl rfl ?_
          refine w_land dX10_wordBy_78 ?_
          refine wc_S (Z := mX10_many) (As := [_]) c_many kX10_many lX10_87 sX10_many dX10_wordBy_79 rfl rfl rfl (Nat.le_of_ble_eq_true rfl) ⟨Nat.le_of_ble_eq_true rfl, Nat.le_of_ble_eq_true rfl⟩ ?_
          refine w_iconst dX10_wordBy_82 ?_
          refine w_irem dX10_wordBy_83 (by unfold ok32; omega) (by omega) (by omega) (by unfold ok32; omega) ?_
          refine w_iconst dX10_wordBy_84 ?_
          refine w_icmp_ne 103 dX10_wordBy_85 (by decide) (by unfold ok32; omega) (by unfold ok32; omega) (fun hodd => ?_) (fun hodd => ?_)
          · rw [if_neg (by omega)] at hw
            refine w_iinc (lv' := [_, _, _, _, _, _, _]) dX10_wordBy_103 rfl rfl rfl ?_
            refine w_goto 65 dX10_wordBy_106 (by decide) ?_
            exact ih w (by omega) hw
          · rw [if_pos (by omega), hl] at hw
            refine w_lload_n dX10_wordBy_88 rfl rfl ?_
            refine w_lconst1 dX10_wordBy_89 ?_
            refine w_aload_n dX10_wordBy_90 rfl rfl ?_
            refine w_getf fX10_32 dX10_wordBy_91 RH0 rfl ?_
            refine w_iload dX10_wordBy_94 rfl ?_
            refine w_lald n RH6 rfl (by omega) (by decide) dX10_wordBy_96 ?_
            rw [e1]
            refine wc_S (Z := mX10_lowest) (As := [_]) (c_lowest t2) kX10_lowest lX10_224 sX10_lowest dX10_wordBy_97 rfl rfl rfl (Nat.le_of_ble_eq_true rfl) ⟨Nat.le_of_ble_eq_true rfl, Nat.le_of_ble_eq_true rfl⟩ ?_
            refine w_lshl t rfl t2.1 dX10_wordBy_100 ?_
            refine w_lor dX10_wordBy_101 ?_
            refine w_lstore_n (lv' := [_, _, _, _, _, _, _]) dX10_wordBy_102 rfl (Nat.le_of_ble_eq_true rfl) rfl rfl ?_
            refine w_iinc (lv' := [_, _, _, _, _, _, _]) dX10_wordBy_103 rfl rfl rfl ?_
            refine w_goto 65 dX10_wordBy_106 (by decide) ?_
            exact ih _ (by omega) hw
    exact key X.2.2 _ (Nat.le_refl _) rfl
  · refine w_aload_n dX10_wordBy_17 rfl rfl ?_
    refine w_getf fX10_201 dX10_wordBy_18 RH0 rfl ?_
    rw [e2]
    refine w_iload dX10_wordBy_21 rfl ?_
    refine wc_S (Z := mX10_hasIt) (As := [_, _]) (c_hasIt (by omega)) kX10_hasIt lX10_62 sX10_hasIt dX10_wordBy_23 rfl rfl rfl (Nat.le_of_ble_eq_true rfl) ⟨Nat.le_of_ble_eq_true rfl, Nat.le_of_ble_eq_true rfl⟩ ?_
    refine w_ifb_eq 32 dX10_wordBy_26 (by decide) (fun hf => ?_) (fun hf => ?_)
    · refine w_lload_n dX10_wordBy_32 rfl rfl ?_
      refine w_iload dX10_wordBy_33 rfl ?_
      refine wc_S (Z := mX10_hasIt) (As := [_, _]) (c_hasIt (by omega)) kX10_hasIt lX10_62 sX10_hasIt dX10_wordBy_35 rfl rfl rfl (Nat.le_of_ble_eq_true rfl) ⟨Nat.le_of_ble_eq_true rfl, Nat.le_of_ble_eq_true rfl⟩ ?_
      have epn : pn (fun i => !X.2.1.getLsbD i) (b + 1) = pn (fun i => !X.2.1.getLsbD i) b + 1 := by
        show _ + (if _ then _ else _) = _
        rw [if_pos (by simpa using hf)]
      refine w_ifb_eq 48 dX10_wordBy_38 (by decide) (fun hx => ?_) (fun hx => ?_)
      · refine w_iinc (lv' := [_, _, _, _, _, _, _]) dX10_wordBy_48 rfl rfl rfl ?_
        refine w_iinc (lv' := [_, _, _, _, _, _, _]) dX10_wordBy_51 rfl rfl rfl ?_
        refine w_goto 8 dX10_wordBy_54 (by decide) ?_
        refine w_cast ?_ rfl rfl (ih (by omega))
        rw [epn, wb1, if_neg hf, if_neg hx]
        rfl
      · refine w_lload_n dX10_wordBy_41 rfl rfl ?_
        refine w_lconst1 dX10_wordBy_42 ?_
        refine w_iload dX10_wordBy_43 rfl ?_
        refine w_lshl _ rfl (by omega) dX10_wordBy_45 ?_
        refine w_lor dX10_wordBy_46 ?_
        refine w_lstore_n (lv' := [_, _, _, _, _, _, _]) dX10_wordBy_47 rfl (Nat.le_of_ble_eq_true rfl) rfl rfl ?_
        refine w_iinc (lv' := [_, _, _, _, _, _, _]) dX10_wordBy_48 rfl rfl rfl ?_
        refine w_iinc (lv' := [_, _, _, _, _, _, _]) dX10_wordBy_51 rfl rfl rfl ?_
        refine w_goto 8 dX10_wordBy_54 (by decide) ?_
        refine w_cast ?_ rfl rfl (ih (by omega))
        rw [epn, wb1, if_neg hf, if_pos hx]
        rfl
    · have epn : pn (fun i => !X.2.1.getLsbD i) (b + 1) = pn (fun i => !X.2.1.getLsbD i) b := by
        show pn (fun i => !X.2.1.getLsbD i) b + (if (!X.2.1.getLsbD b) = true then 1 else 0) = _
        rw [hf]; rfl
      refine w_goto 51 dX10_wordBy_29 (by decide) ?_
      refine w_iinc (lv' := [_, _, _, _, _, _, _]) dX10_wordBy_51 rfl rfl rfl ?_
      refine w_goto 8 dX10_wordBy_54 (by decide) ?_
      refine w_cast ?_ rfl rfl (ih (by omega))
      rw [epn, wb1, if_pos hf]
      rfl
theorem lsR_inv {A : Nat → Int} {q : Nat → BitVec 64} {L R C : Nat} (hV : VC A L R C) : ELI (L * R) (L * C) (lsR A q L R C) ∧ (lsR A q L R C).2.2 ≤ L * R ∧ (lsR A q L R C).2.2 ≤ L * C := by
  obtain ⟨v1, v2, v3, v4, v5, v6, v7⟩ := hV
  have hLC := mulLe (a := L) (b := C) (x := 6) (y := 8) (by omega) (by omega)
  exact ⟨elN_inv (by omega), elN_rk.1, elN_rk.2⟩
theorem lo_bit {y : BitVec 64} {i : Nat} (hi : i < 32) : (BitVec.ofInt 64 (lo32 y)).getLsbD i = y.getLsbD i := by
  show ((y.signExtend 32).signExtend 64).getLsbD i = _
  rw [BitVec.getLsbD_signExtend, BitVec.getLsbD_signExtend]
  simp [hi, show i < 64 by omega]
theorem msk {i : Nat} (hi : i < 64) : (4294967295#64).getLsbD i = decide (i < 32) := by
  have key : ∀ i : Nat, i < 64 → (4294967295#64).getLsbD i = decide (i < 32) := by decide +kernel
  exact key i hi
theorem sentB_put {A : Nat → Int} {x : BitVec 64} : sentB (putS A x) = x := by
  refine bv_ext fun i hi => ?_
  unfold sentB putS
  rw [u1_s, u1_n (by omega), u1_s, BitVec.getLsbD_or, BitVec.getLsbD_and, msk hi, BitVec.getLsbD_shiftLeft]
  by_cases h : i < 32
  · rw [lo_bit h]; simp [h]
  · rw [lo_bit (show i - 32 < 32 by omega), BitVec.getLsbD_sshiftRight]
    simp [h, hi]
    rw [show 32 + (i - 32) = i by omega]
    simp [hi, show ¬ 64 ≤ i - 32 by omega]
theorem putS_i {A : Nat → Int} {x : BitVec 64} (hI : INV A) : INV (putS A x) := by
  unfold putS
  exact INV.put (INV.put hI (by have := ok32_of (zI x.toInt); exact this)) (by have := ok32_of (zI (x.sshiftRight 32).toInt); exact this)
theorem putS_n {A : Nat → Int} {x : BitVec 64} {k : Nat} (h : k ≠ 46) (h2 : k ≠ 47) : putS A x k = A k := by unfold putS; rw [u1_n h2, u1_n h]
theorem putS_top {A : Nat → Int} {x : BitVec 64} {L R C : Nat} (hT : TOP A L R C) : TOP (putS A x) L R C :=
  ⟨putS_i hT.1, hT.2.1.of (fun k a1 a2 a3 => putS_n (by omega) (by omega)), hT.2.2.1.of (fun k a1 a2 a3 a4 => putS_n (by omega) (by omega)), by rw [putS_n (by omega) (by omega)]; exact hT.2.2.2⟩
theorem lsR_kp {A B : Nat → Int} {q : Nat → BitVec 64} {L R C : Nat} (hV : VC A L R C) (h : ∀ k, 14 ≤ k → k < 46 → B k = A k) : lsR B q L R C = lsR A q L R C := by
  obtain ⟨v1, v2, v3, v4, v5, v6, v7⟩ := hV
  unfold lsR
  congr 1
  funext i
  unfold el0
  split
  · rename_i hi
    have hr := rowLt hi v4.1
    exact csetN_sh fun j hj => h _ (by omega) (by omega)
  · rfl
/-- a number that the carriers can hold -/
def encOk (A : Nat → Int) (q : Nat → BitVec 64) (L R C : Nat) (x : BitVec 64) : Prop := 0 ≤ x.toInt ∧ x.sshiftRight (L * C - (lsR A q L R C).2.2) = 0#64
set_option maxRecDepth 4000 in
theorem c_encode {r : Nat} {A : Nat → Int} {ia : Nat → Nat → Int} {la : Nat → Nat → BitVec 64} {fi : Nat → Int} {fl : Nat → BitVec 64} {h0 : HP} {L R C : Nat} {x : BitVec 64} (hT : TOP A L R C) : sp mX10_encode [.ref r, .long (lB x)] (RH r A ia la fi fl h0) 0 0 (fun v h0x => ((0 ≤ x.toInt ∧ x.sshiftRight (L * C - (lsR A (la 6) L R C).2.2) = 0#64) → pr (some (.int (zI ((pop (wordX (lsR A (la 6) L R C) (L * C) x) : Nat) : Int)))) r (putS (kpA A) (wordX (lsR A (la 6) L R C) (L * C) x)) ia fi h0 v h0x) ∧ (¬ (0 ≤ x.toInt ∧ x.sshiftRight (L * C - (lsR A (la 6) L R C).2.2) = 0#64) → pr (some (.int (zI (-1)))) r A ia fi h0 v h0x)) := by
  obtain ⟨hI, hV, hS, h2⟩ := id hT
  obtain ⟨v1, v2, v3, v4, v5, v6, v7⟩ := id hV
  have h1 : 0 ≤ A 1 ∧ A 1 ≤ 20 := hI 1
  have h20 : 0 ≤ A 2 ∧ A 2 ≤ 20 := hI 2
  have hLC : (L : Int) * C ≤ 48 := by exact_mod_cast mulLe (a := L) (b := C) (x := 6) (y := 8) (by omega) (by omega)
  have hLC0 : (0 : Int) ≤ (L : Int) * C := by exact_mod_cast Nat.zero_le (L * C)
  have hLR : (L : Int) * R ≤ 24 := by exact_mod_cast mulLe (a := L) (b := R) (x := 6) (y := 4) (by omega) (by omega)
  have hLR0 : (0 : Int) ≤ (L : Int) * R := by exact_mod_cast Nat.zero_le (L * R)
  obtain ⟨li, lk1, lk2⟩ := lsR_inv (q := la 6) hV
  have hLCn := mulLe (a := L) (b := C) (x := 6) (y := 8) (by omega) (by omega)
  refine sp_wp rfl (lv := [_, _, _]) rfl (Nat.le_of_ble_eq_true rfl) ?_
  refine w_aload_n dX10_encode_0 rfl rfl ?_
  refine wc_Vv (Z := mX10_laySums) (As := []) (c_laySums hV) RH0 rfl kX10_laySums lX10_227 iX10_laySums vX10_laySums dX10_encode_1 rfl rfl rfl (Nat.le_of_ble_eq_true rfl) ⟨Nat.le_of_ble_eq_true rfl, Nat.le_of_ble_eq_true rfl⟩ ?_
  generalize hX : lsR A (la 6) L R C = X at li lk1 lk2 ⊢
  refine w_lload_n dX10_encode_4 rfl rfl ?_
  refine w_lconst0 dX10_encode_5 ?_
  refine w_lc_lt 26 dX10_encode_6 dX10_encode_7 (by decide) (fun hneg => ?_) (fun hneg => ?_)
  · refine w_iconst dX10_encode_26 ?_
    refine x_iret rfl rfl dX10_encode_27 ⟨fun q => ?_, fun _ => (pr_end rfl rfl rfl rfl rfl rfl rfl rfl)⟩
    exact absurd hneg (by have := q.1; simpa using this)
  · refine w_lload_n dX10_encode_10 rfl rfl ?_
    refine w_aload_n dX10_encode_11 rfl rfl ?_
    refine wc_V (Z := mX10_bits) (As := []) c_bits RH0 rfl kX10_bits lX10_66 iX10_bits vX10_bits dX10_encode_12 rfl rfl rfl (Nat.le_of_ble_eq_true rfl) ⟨Nat.le_of_ble_eq_true rfl, Nat.le_of_ble_eq_true rfl⟩ ?_
    refine w_aload_n dX10_encode_15 rfl rfl ?_
    refine w_getf fX10_205 dX10_encode_16 RH0 rfl ?_
    rw [v1, v3, u1_s]
    refine w_isub dX10_encode_19 ?_
    refine w_lshr (L * C - X.2.2) (by rw [show (L : Int) * C = ((L * C : Nat) : Int) by push_cast; rfl]; omega) (by omega) dX10_encode_20 ?_
    refine w_lconst0 dX10_encode_21 ?_
    refine w_lc_eq 28 dX10_encode_22 dX10_encode_23 (by decide) (fun hz => ?_) (fun hz => ?_)
    rotate_left
    · refine w_iconst dX10_encode_26 ?_
      refine x_iret rfl rfl dX10_encode_27 ⟨fun q => absurd q.2 hz, fun _ => (pr_end rfl rfl rfl rfl rfl rfl rfl rfl)⟩
    · obtain ⟨kI, kV, kS, k2⟩ := kpA_top hT
      refine w_aload_n dX10_encode_28 rfl rfl ?_
      refine wc_Vv (Z := mX10_keep) (As := []) (c_keep h1 ⟨h20.1, h2⟩) RH0 rfl kX10_keep lX10_215 iX10_keep vX10_keep dX10_encode_29 rfl rfl rfl (Nat.le_of_ble_eq_true rfl) ⟨Nat.le_of_ble_eq_true rfl, Nat.le_of_ble_eq_true rfl⟩ ?_
      refine w_aload_n dX10_encode_32 rfl rfl ?_
      refine w_aload_n dX10_encode_33 rfl rfl ?_
      refine w_lload_n dX10_encode_34 rfl rfl ?_
      refine wc_V (Z := mX10_wordBy) (As := [_]) (c_wordBy (X := X) kV li lk1 u1_s u1_s u1_s) RH0 rfl kX10_wordBy lX10_230 iX10_wordBy vX10_wordBy dX10_encode_35 rfl rfl rfl (Nat.le_of_ble_eq_true rfl) ⟨Nat.le_of_ble_eq_true rfl, Nat.le_of_ble_eq_true rfl⟩ ?_
      refine wc_Vv (Z := mX10_putSent) (As := [_]) c_putSent RH0 rfl kX10_putSent lX10_211 iX10_putSent vX10_putSent dX10_encode_38 rfl rfl rfl (Nat.le_of_ble_eq_true rfl) ⟨Nat.le_of_ble_eq_true rfl, Nat.le_of_ble_eq_true rfl⟩ ?_
      refine w_aload_n dX10_encode_41 rfl rfl ?_
      refine wc_V (Z := mX10_sentSet) (As := []) (c_sentSet (A := putS (kpA A) (wordX X (L * C) x)) ((putS_i kI).ok 46) ((putS_i kI).ok 47)) RH0 rfl kX10_sentSet lX10_234 iX10_sentSet vX10_sentSet dX10_encode_42 rfl rfl rfl (Nat.le_of_ble_eq_true rfl) ⟨Nat.le_of_ble_eq_true rfl, Nat.le_of_ble_eq_true rfl⟩ ?_
      rw [sentB_put]
      refine wc_S (Z := mX10_many) (As := [_]) c_many kX10_many lX10_87 sX10_many dX10_encode_45 rfl rfl rfl (Nat.le_of_ble_eq_true rfl) ⟨Nat.le_of_ble_eq_true rfl, Nat.le_of_ble_eq_true rfl⟩ ?_
      refine x_iret rfl rfl dX10_encode_48 ⟨fun _ => (pr_end rfl rfl rfl rfl rfl rfl rfl rfl), fun q => absurd ⟨by simpa using hneg, hz⟩ q⟩

set_option maxRecDepth 4000 in
theorem c_rank {r : Nat} {A : Nat → Int} {ia : Nat → Nat → Int} {la : Nat → Nat → BitVec 64} {fi : Nat → Int} {fl : Nat → BitVec 64} {h0 : HP} {L R C : Nat}  (hT : TOP A L R C) : sp mX10_rank [.ref r] (RH r A ia la fi fl h0) 0 0 (pr (some (.int (zI ((((lsR A (la 6) L R C).2.2 : Nat) : Int))))) r A ia fi h0) := by
  obtain ⟨hI, hV, hS, h2⟩ := id hT
  obtain ⟨v1, v2, v3, v4, v5, v6, v7⟩ := id hV
  have h1 : 0 ≤ A 1 ∧ A 1 ≤ 20 := hI 1
  have h20 : 0 ≤ A 2 ∧ A 2 ≤ 20 := hI 2
  have hLC : (L : Int) * C ≤ 48 := by exact_mod_cast mulLe (a := L) (b := C) (x := 6) (y := 8) (by omega) (by omega)
  have hLC0 : (0 : Int) ≤ (L : Int) * C := by exact_mod_cast Nat.zero_le (L * C)
  have hLR : (L : Int) * R ≤ 24 := by exact_mod_cast mulLe (a := L) (b := R) (x := 6) (y := 4) (by omega) (by omega)
  have hLR0 : (0 : Int) ≤ (L : Int) * R := by exact_mod_cast Nat.zero_le (L * R)
  refine sp_wp rfl (lv := [_]) rfl (Nat.le_of_ble_eq_true rfl) ?_
  refine w_aload_n dX10_rank_0 rfl rfl ?_
  refine wc_Vv (Z := mX10_laySums) (As := []) (c_laySums hV) RH0 rfl kX10_laySums lX10_227 iX10_laySums vX10_laySums dX10_rank_1 rfl rfl rfl (Nat.le_of_ble_eq_true rfl) ⟨Nat.le_of_ble_eq_true rfl, Nat.le_of_ble_eq_true rfl⟩ ?_
  refine w_aload_n dX10_rank_4 rfl rfl ?_
  refine w_getf fX10_205 dX10_rank_5 RH0 rfl ?_
  rw [u1_s]
  exact x_iret rfl rfl dX10_rank_8 (pr_end rfl rfl rfl rfl rfl rfl rfl rfl)
def crG (F : BitVec 64) (n : Nat) (i : Int) : Nat → Int
  | 0 => -1
  | d + 1 => if F.getLsbD (n - (d + 1)) = false ∧ ((pn (fun i => !F.getLsbD i) (n - (d + 1)) : Nat) : Int) = i then ((n - (d + 1) : Nat) : Int) else crG F n i d
set_option maxRecDepth 4000 in
theorem c_carrierOf {r : Nat} {A : Nat → Int} {ia : Nat → Nat → Int} {la : Nat → Nat → BitVec 64} {fi : Nat → Int} {fl : Nat → BitVec 64} {h0 : HP} {L R C : Nat} {z : Int} (hV : VC A L R C) (hz : ok32 z) : sp mX10_carrierOf [.ref r, .int (zI z)] (RH r A ia la fi fl h0) 0 0 (pd (some (.int (zI (crG (fl 16) (L * C) z (L * C))))) (RH r A ia la fi fl h0)) := by
  obtain ⟨v1, v2, v3, v4, v5, v6, v7⟩ := id hV
  have hLC := mulLe (a := L) (b := C) (x := 6) (y := 8) (by omega) (by omega)
  refine sp_wp rfl (lv := [_, _, _, _]) rfl (Nat.le_of_ble_eq_true rfl) ?_
  refine w_iconst dX10_carrierOf_0 ?_
  refine w_istore_n (lv' := [_, _, _, _]) dX10_carrierOf_1 rfl (Nat.le_of_ble_eq_true rfl) rfl rfl ?_
  refine w_iconst dX10_carrierOf_2 ?_
  refine w_istore_n (lv' := [_, _, _, _]) dX10_carrierOf_3 rfl (Nat.le_of_ble_eq_true rfl) rfl rfl ?_
  have key : ∀ b : Nat, b ≤ L * C → crG (fl 16) (L * C) z (L * C - b) = crG (fl 16) (L * C) z (L * C) → wp mX10_carrierOf 4 [.ref r, .int (zI z), .int (zI ((pn (fun i => !(fl 16).getLsbD i) b : Nat) : Int)), .int (zI (b : Int))] [] (RH r A ia la fi fl h0) 0 0 (pd (some (.int (zI (crG (fl 16) (L * C) z (L * C))))) (RH r A ia la fi fl h0)) := by
    refine up_ind (N := L * C) (fun b hb ih => ?_)
    intro hg
    have hpl := pn_le (fun i => !(fl 16).getLsbD i) b
    refine w_iload_n dX10_carrierOf_4 rfl rfl ?_
    refine w_aload_n dX10_carrierOf_5 rfl rfl ?_
    refine wc_V (Z := mX10_bits) (As := []) c_bits RH0 rfl kX10_bits lX10_66 iX10_bits vX10_bits dX10_carrierOf_6 rfl rfl rfl (Nat.le_of_ble_eq_true rfl) ⟨Nat.le_of_ble_eq_true rfl, Nat.le_of_ble_eq_true rfl⟩ ?_
    rw [v1, v3]
    refine w_icmp_ge 42 dX10_carrierOf_9 (by decide) (by unfold ok32; omega) (by unfold ok32; omega) (fun hn => ?_) (fun hn => ?_)
    · refine w_iconst dX10_carrierOf_42 ?_
      refine x_iret rfl rfl dX10_carrierOf_43 ⟨?_, rfl⟩
      rw [← hg, show L * C - b = 0 by omega]
      rfl
    · rw [show L * C - b = (L * C - (b + 1)) + 1 by omega, crG, show L * C - (L * C - (b + 1) + 1) = b by omega] at hg
      refine w_aload_n dX10_carrierOf_12 rfl rfl ?_
      refine w_getf fX10_201 dX10_carrierOf_13 RH0 rfl ?_
      refine w_iload_n dX10_carrierOf_16 rfl rfl ?_
      refine wc_S (Z := mX10_hasIt) (As := [_, _]) (c_hasIt (by omega)) kX10_hasIt lX10_62 sX10_hasIt dX10_carrierOf_17 rfl rfl rfl (Nat.le_of_ble_eq_true rfl) ⟨Nat.le_of_ble_eq_true rfl, Nat.le_of_ble_eq_true rfl⟩ ?_
      refine w_ifb_eq 26 dX10_carrierOf_20 (by decide) (fun hf => ?_) (fun hf => ?_)
      · have hff : (fl 16).getLsbD b = false := by simpa using hf
        refine w_iload_n dX10_carrierOf_26 rfl rfl ?_
        refine w_iload_n dX10_carrierOf_27 rfl rfl ?_
        refine w_icmp_ne 33 dX10_carrierOf_28 (by decide) (by unfold ok32; omega) hz (fun hi => ?_) (fun hi => ?_)
        · rw [if_neg (fun q => hi q.2)] at hg
          refine w_iinc (lv' := [_, _, _, _]) dX10_carrierOf_33 rfl rfl rfl ?_
          refine w_iinc (lv' := [_, _, _, _]) dX10_carrierOf_36 rfl rfl rfl ?_
          refine w_goto 4 dX10_carrierOf_39 (by decide) ?_
          refine w_cast ?_ rfl rfl (ih (by omega) hg)
          rw [show pn (fun i => !(fl 16).getLsbD i) (b + 1) = pn (fun i => !(fl 16).getLsbD i) b + 1 by show _ + (if (!(fl 16).getLsbD b) = true then 1 else 0) = _; rw [hff]; rfl]
          rfl
        · rw [if_pos ⟨hff, hi⟩] at hg
          refine w_iload_n dX10_carrierOf_31 rfl rfl ?_
          refine x_iret rfl rfl dX10_carrierOf_32 ⟨?_, rfl⟩
          rw [← hg]
      · rw [if_neg (fun q => by rw [hf] at q; cases q.1)] at hg
        refine w_goto 36 dX10_carrierOf_23 (by decide) ?_
        refine w_iinc (lv' := [_, _, _, _]) dX10_carrierOf_36 rfl rfl rfl ?_
        refine w_goto 4 dX10_carrierOf_39 (by decide) ?_
        refine w_cast ?_ rfl rfl (ih (by omega) hg)
        rw [show pn (fun i => !(fl 16).getLsbD i) (b + 1) = pn (fun i => !(fl 16).getLsbD i) b by show _ + (if (!(fl 16).getLsbD b) = true then 1 else 0) = _; rw [hf]; rfl]
        rfl
  exact key 0 (Nat.zero_le _) (by rw [Nat.sub_zero])

set_option maxRecDepth 4000 in
theorem c_carrier {r : Nat} {A : Nat → Int} {ia : Nat → Nat → Int} {la : Nat → Nat → BitVec 64} {fi : Nat → Int} {fl : Nat → BitVec 64} {h0 : HP} {L R C : Nat} {z : Int} (hT : TOP A L R C) (hz : ok32 z) : sp mX10_carrier [.ref r, .int (zI z)] (RH r A ia la fi fl h0) 0 0 (pr (some (.int (zI (if z < 0 then -1 else crG (lsR A (la 6) L R C).2.1 (L * C) z (L * C))))) r A ia fi h0) := by
  obtain ⟨hI, hV, hS, h2⟩ := id hT
  obtain ⟨v1, v2, v3, v4, v5, v6, v7⟩ := id hV
  have h1 : 0 ≤ A 1 ∧ A 1 ≤ 20 := hI 1
  have h20 : 0 ≤ A 2 ∧ A 2 ≤ 20 := hI 2
  have hLC : (L : Int) * C ≤ 48 := by exact_mod_cast mulLe (a := L) (b := C) (x := 6) (y := 8) (by omega) (by omega)
  have hLC0 : (0 : Int) ≤ (L : Int) * C := by exact_mod_cast Nat.zero_le (L * C)
  have hLR : (L : Int) * R ≤ 24 := by exact_mod_cast mulLe (a := L) (b := R) (x := 6) (y := 4) (by omega) (by omega)
  have hLR0 : (0 : Int) ≤ (L : Int) * R := by exact_mod_cast Nat.zero_le (L * R)
  refine sp_wp rfl (lv := [_, _]) rfl (Nat.le_of_ble_eq_true rfl) ?_
  refine w_iload_n dX10_carrier_0 rfl rfl ?_
  refine w_if_ge 6 dX10_carrier_1 (by decide) hz (fun hc1 => ?_) (fun hc1 => ?_)
  · refine w_aload_n dX10_carrier_6 rfl rfl ?_
    refine wc_Vv (Z := mX10_laySums) (As := []) (c_laySums hV) RH0 rfl kX10_laySums lX10_227 iX10_laySums vX10_laySums dX10_carrier_7 rfl rfl rfl (Nat.le_of_ble_eq_true rfl) ⟨Nat.le_of_ble_eq_true rfl, Nat.le_of_ble_eq_true rfl⟩ ?_
    refine w_aload_n dX10_carrier_10 rfl rfl ?_
    refine w_iload_n dX10_carrier_11 rfl rfl ?_
    refine wc_V (Z := mX10_carrierOf) (As := [_]) (c_carrierOf hV hz) RH0 rfl kX10_carrierOf lX10_252 iX10_carrierOf vX10_carrierOf dX10_carrier_12 rfl rfl rfl (Nat.le_of_ble_eq_true rfl) ⟨Nat.le_of_ble_eq_true rfl, Nat.le_of_ble_eq_true rfl⟩ ?_
    refine x_iret rfl rfl dX10_carrier_15 (pr_end ?_ rfl rfl rfl rfl rfl rfl rfl)
    rw [if_neg (by omega), u1_s]
  · refine w_iconst dX10_carrier_4 ?_
    refine x_iret rfl rfl dX10_carrier_5 (pr_end ?_ rfl rfl rfl rfl rfl rfl rfl)
    rw [if_pos (by omega)]

set_option maxRecDepth 4000 in
theorem c_bit {r : Nat} {A : Nat → Int} {ia : Nat → Nat → Int} {la : Nat → Nat → BitVec 64} {fi : Nat → Int} {fl : Nat → BitVec 64} {h0 : HP} {L R C : Nat} {z x : Int} (hT : TOP A L R C) (hz : ok32 z) (hx : ok32 x) : sp mX10_bit [.ref r, .int (zI z), .int (zI x)] (RH r A ia la fi fl h0) 0 0 (pr (some (.int (zI (if ¬ (0 ≤ z ∧ z ≤ (L : Int) * C - 1) then -100 else if x = 0 then A (48 + z.toNat) else if x = 1 then A (96 + z.toNat) else if x = 2 then bI (A (96 + z.toNat) < 0) else if x = 3 then bI ((sentB A).getLsbD z.toNat = true) else if x = 4 then bI (¬ (lsR A (la 6) L R C).2.1.getLsbD z.toNat = true) else -100)))) r A ia fi h0) := by
  obtain ⟨hI, hV, hS, h2⟩ := id hT
  obtain ⟨v1, v2, v3, v4, v5, v6, v7⟩ := id hV
  have h1 : 0 ≤ A 1 ∧ A 1 ≤ 20 := hI 1
  have h20 : 0 ≤ A 2 ∧ A 2 ≤ 20 := hI 2
  have hLC : (L : Int) * C ≤ 48 := by exact_mod_cast mulLe (a := L) (b := C) (x := 6) (y := 8) (by omega) (by omega)
  have hLC0 : (0 : Int) ≤ (L : Int) * C := by exact_mod_cast Nat.zero_le (L * C)
  have hLR : (L : Int) * R ≤ 24 := by exact_mod_cast mulLe (a := L) (b := R) (x := 6) (y := 4) (by omega) (by omega)
  have hLR0 : (0 : Int) ≤ (L : Int) * R := by exact_mod_cast Nat.zero_le (L * R)
  refine sp_wp rfl (lv := [_, _, _]) rfl (Nat.le_of_ble_eq_true rfl) ?_
  refine w_aload_n dX10_bit_0 rfl rfl ?_
  refine w_iload_n dX10_bit_1 rfl rfl ?_
  refine wc_V (Z := mX10_isBit) (As := [_]) (c_isBit hV hz) RH0 rfl kX10_isBit lX10_237 iX10_isBit vX10_isBit dX10_bit_2 rfl rfl rfl (Nat.le_of_ble_eq_true rfl) ⟨Nat.le_of_ble_eq_true rfl, Nat.le_of_ble_eq_true rfl⟩ ?_
  refine w_ifb_ne 11 dX10_bit_5 (by decide) (fun hc1 => ?_) (fun hc1 => ?_)
  rotate_left
  · refine w_bipush dX10_bit_8 (by decide) ?_
    refine x_iret rfl rfl dX10_bit_10 (pr_end ?_ rfl rfl rfl rfl rfl rfl rfl)
    rw [if_pos hc1]
  · rw [if_neg (fun q => q hc1)]
    obtain ⟨b, hb⟩ : ∃ b : Nat, z = (b : Int) := ⟨z.toNat, by omega⟩
    subst hb
    rw [Int.toNat_natCast]
    have hb48 : b < 48 := by omega
    refine w_iload_n dX10_bit_11 rfl rfl ?_
    by_cases hq : x < 0 ∨ 4 < x
    · refine w_tsw_out 124 dX10_bit_12 hx hq (by decide) ?_
      refine w_bipush dX10_bit_124 (by decide) ?_
      refine x_iret rfl rfl dX10_bit_126 (pr_end ?_ rfl rfl rfl rfl rfl rfl rfl)
      rw [if_neg (by omega), if_neg (by omega), if_neg (by omega), if_neg (by omega), if_neg (by omega)]
    · rcases (show x = 0 ∨ x = 1 ∨ x = 2 ∨ x = 3 ∨ x = 4 by omega) with rfl | rfl | rfl | rfl | rfl
      · refine w_tsw_in 48 dX10_bit_12 hx (by decide) (by decide) rfl (by decide) ?_
        refine w_aload_n dX10_bit_48 rfl rfl ?_
        refine w_getf fX10_7 dX10_bit_49 RH0 rfl ?_
        refine w_bipush dX10_bit_52 (by decide) ?_
        refine w_iload_n dX10_bit_54 rfl rfl ?_
        refine w_iadd dX10_bit_55 ?_
        refine w_iald (48 + b) RH1 (by omega) (by omega) (by decide) dX10_bit_56 ?_
        exact x_iret rfl rfl dX10_bit_57 (pr_end rfl rfl rfl rfl rfl rfl rfl rfl)
      · refine w_tsw_in 58 dX10_bit_12 hx (by decide) (by decide) rfl (by decide) ?_
        refine w_aload_n dX10_bit_58 rfl rfl ?_
        refine w_getf fX10_7 dX10_bit_59 RH0 rfl ?_
        refine w_bipush dX10_bit_62 (by decide) ?_
        refine w_iload_n dX10_bit_64 rfl rfl ?_
        refine w_iadd dX10_bit_65 ?_
        refine w_iald (96 + b) RH1 (by omega) (by omega) (by decide) dX10_bit_66 ?_
        exact x_iret rfl rfl dX10_bit_67 (pr_end rfl rfl rfl rfl rfl rfl rfl rfl)
      · refine w_tsw_in 68 dX10_bit_12 hx (by decide) (by decide) rfl (by decide) ?_
        rw [if_neg (by decide), if_neg (by decide), if_pos rfl]
        refine w_aload_n dX10_bit_68 rfl rfl ?_
        refine w_getf fX10_7 dX10_bit_69 RH0 rfl ?_
        refine w_bipush dX10_bit_72 (by decide) ?_
        refine w_iload_n dX10_bit_74 rfl rfl ?_
        refine w_iadd dX10_bit_75 ?_
        refine w_iald (96 + b) RH1 (by omega) (by omega) (by decide) dX10_bit_76 ?_
        refine w_if_ge 84 dX10_bit_77 (by decide) (hI.ok _) (fun hg => ?_) (fun hg => ?_)
        · refine w_iconst dX10_bit_84 ?_
          refine x_iret rfl rfl dX10_bit_85 (pr_end ?_ rfl rfl rfl rfl rfl rfl rfl)
          rw [bI_f (by omega)]
        · refine w_iconst dX10_bit_80 ?_
          refine w_goto 85 dX10_bit_81 (by decide) ?_
          refine x_iret rfl rfl dX10_bit_85 (pr_end ?_ rfl rfl rfl rfl rfl rfl rfl)
          rw [bI_t (by omega)]
      · refine w_tsw_in 86 dX10_bit_12 hx (by decide) (by decide) rfl (by decide) ?_
        rw [if_neg (by decide), if_neg (by decide), if_neg (by decide), if_pos rfl]
        refine w_aload_n dX10_bit_86 rfl rfl ?_
        refine wc_V (Z := mX10_sentSet) (As := []) (c_sentSet (hI.ok 46) (hI.ok 47)) RH0 rfl kX10_sentSet lX10_234 iX10_sentSet vX10_sentSet dX10_bit_87 rfl rfl rfl (Nat.le_of_ble_eq_true rfl) ⟨Nat.le_of_ble_eq_true rfl, Nat.le_of_ble_eq_true rfl⟩ ?_
        refine w_iload_n dX10_bit_90 rfl rfl ?_
        refine wc_S (Z := mX10_hasIt) (As := [_, _]) (c_hasIt (by omega)) kX10_hasIt lX10_62 sX10_hasIt dX10_bit_91 rfl rfl rfl (Nat.le_of_ble_eq_true rfl) ⟨Nat.le_of_ble_eq_true rfl, Nat.le_of_ble_eq_true rfl⟩ ?_
        refine w_ifb_eq 101 dX10_bit_94 (by decide) (fun hg => ?_) (fun hg => ?_)
        · refine w_iconst dX10_bit_101 ?_
          refine x_iret rfl rfl dX10_bit_102 (pr_end ?_ rfl rfl rfl rfl rfl rfl rfl)
          rw [bI_f hg]
        · refine w_iconst dX10_bit_97 ?_
          refine w_goto 102 dX10_bit_98 (by decide) ?_
          refine x_iret rfl rfl dX10_bit_102 (pr_end ?_ rfl rfl rfl rfl rfl rfl rfl)
          rw [bI_t hg]
      · refine w_tsw_in 103 dX10_bit_12 hx (by decide) (by decide) rfl (by decide) ?_
        rw [if_neg (by decide), if_neg (by decide), if_neg (by decide), if_neg (by decide), if_pos rfl]
        refine w_aload_n dX10_bit_103 rfl rfl ?_
        refine wc_Vv (Z := mX10_laySums) (As := []) (c_laySums hV) RH0 rfl kX10_laySums lX10_227 iX10_laySums vX10_laySums dX10_bit_104 rfl rfl rfl (Nat.le_of_ble_eq_true rfl) ⟨Nat.le_of_ble_eq_true rfl, Nat.le_of_ble_eq_true rfl⟩ ?_
        refine w_aload_n dX10_bit_107 rfl rfl ?_
        refine w_getf fX10_201 dX10_bit_108 RH0 rfl ?_
        rw [u1_s]
        refine w_iload_n dX10_bit_111 rfl rfl ?_
        refine wc_S (Z := mX10_hasIt) (As := [_, _]) (c_hasIt (by omega)) kX10_hasIt lX10_62 sX10_hasIt dX10_bit_112 rfl rfl rfl (Nat.le_of_ble_eq_true rfl) ⟨Nat.le_of_ble_eq_true rfl, Nat.le_of_ble_eq_true rfl⟩ ?_
        refine w_ifb_eq 122 dX10_bit_115 (by decide) (fun hg => ?_) (fun hg => ?_)
        · refine w_iconst dX10_bit_122 ?_
          refine x_iret rfl rfl dX10_bit_123 (pr_end ?_ rfl rfl rfl rfl rfl rfl rfl)
          rw [bI_t hg]
        · refine w_iconst dX10_bit_118 ?_
          refine w_goto 123 dX10_bit_119 (by decide) ?_
          refine x_iret rfl rfl dX10_bit_123 (pr_end ?_ rfl rfl rfl rfl rfl rfl rfl)
          rw [bI_f (fun q => q hg)]
theorem c_copy1 {r : Nat} {A : Nat → Int} {ia : Nat → Nat → Int} {la : Nat → Nat → BitVec 64} {fi : Nat → Int} {fl : Nat → BitVec 64} {h0 : HP} : sp mX10_copy [.ref (r + 1), .ref (r + 2)] (RH r A ia la fi fl h0) 0 0 (pd none (RH r A (u1 ia 2 (fillR (ia 2) 0 9033 A)) la fi fl h0)) := by
  refine sp_wp rfl (lv := [_, _, _]) rfl (Nat.le_of_ble_eq_true rfl) ?_
  refine w_iconst dX10_copy_0 ?_
  refine w_istore_n (lv' := [_, _, _]) dX10_copy_1 rfl (Nat.le_of_ble_eq_true rfl) rfl rfl ?_
  suffices h3 : ∀ k : Nat, k ≤ 9033 → wp mX10_copy 2 [.ref (r + 1), .ref (r + 2), .int (zI (k : Int))] [] (RH r A (u1 ia 2 (fillR (ia 2) 0 k A)) la fi fl h0) 0 0 (pd none (RH r A (u1 ia 2 (fillR (ia 2) 0 9033 A)) la fi fl h0)) by
    have h4 := h3 0 (Nat.zero_le _)
    rw [fillR_0, u1_id] at h4
    exact h4
  refine up_ind (N := 9033) (fun k hk ih => ?_)
  refine w_iload_n dX10_copy_2 rfl rfl ?_
  refine w_sipush dX10_copy_3 (by decide) ?_
  refine w_icmp_ge 21 dX10_copy_6 (by decide) (by unfold ok32; omega) (by unfold ok32; omega) (fun hn => ?_) (fun hn => ?_)
  · refine x_vret rfl dX10_copy_21 ⟨rfl, ?_⟩
    rw [show k = 9033 by omega]
  · refine w_aload_n dX10_copy_9 rfl rfl ?_
    refine w_iload_n dX10_copy_10 rfl rfl ?_
    refine w_aload_n dX10_copy_11 rfl rfl ?_
    refine w_iload_n dX10_copy_12 rfl rfl ?_
    refine w_iald k RH1 rfl (by omega) (by decide) dX10_copy_13 ?_
    refine r_ist2K k rfl (by omega) dX10_copy_14 ?_
    have e := fillR_s (A := ia 2) (s := 0) (i := k) (g := A) rfl
    rw [Nat.zero_add] at e
    rw [u1_u1, u1_s, e]
    refine w_iinc (lv' := [_, _, _]) dX10_copy_15 rfl rfl rfl ?_
    refine w_goto 2 dX10_copy_18 (by decide) ?_
    exact ih (by omega)
theorem c_copy2 {r : Nat} {A : Nat → Int} {ia : Nat → Nat → Int} {la : Nat → Nat → BitVec 64} {fi : Nat → Int} {fl : Nat → BitVec 64} {h0 : HP} : sp mX10_copy [.ref (r + 2), .ref (r + 1)] (RH r A ia la fi fl h0) 0 0 (pd none (RH r (fillR A 0 9033 (ia 2)) ia la fi fl h0)) := by
  refine sp_wp rfl (lv := [_, _, _]) rfl (Nat.le_of_ble_eq_true rfl) ?_
  refine w_iconst dX10_copy_0 ?_
  refine w_istore_n (lv' := [_, _, _]) dX10_copy_1 rfl (Nat.le_of_ble_eq_true rfl) rfl rfl ?_
  suffices h3 : ∀ k : Nat, k ≤ 9033 → wp mX10_copy 2 [.ref (r + 2), .ref (r + 1), .int (zI (k : Int))] [] (RH r (fillR A 0 k (ia 2)) ia la fi fl h0) 0 0 (pd none (RH r (fillR A 0 9033 (ia 2)) ia la fi fl h0)) by
    have h4 := h3 0 (Nat.zero_le _)
    rw [fillR_0] at h4
    exact h4
  refine up_ind (N := 9033) (fun k hk ih => ?_)
  refine w_iload_n dX10_copy_2 rfl rfl ?_
  refine w_sipush dX10_copy_3 (by decide) ?_
  refine w_icmp_ge 21 dX10_copy_6 (by decide) (by unfold ok32; omega) (by unfold ok32; omega) (fun hn => ?_) (fun hn => ?_)
  · refine x_vret rfl dX10_copy_21 ⟨rfl, ?_⟩
    rw [show k = 9033 by omega]
  · refine w_aload_n dX10_copy_9 rfl rfl ?_
    refine w_iload_n dX10_copy_10 rfl rfl ?_
    refine w_aload_n dX10_copy_11 rfl rfl ?_
    refine w_iload_n dX10_copy_12 rfl rfl ?_
    refine w_iald k RH2 rfl (by omega) (by decide) dX10_copy_13 ?_
    refine r_ist1K k rfl (by omega) dX10_copy_14 ?_
    have e := fillR_s (A := A) (s := 0) (i := k) (g := ia 2) rfl
    rw [Nat.zero_add] at e
    rw [e]
    refine w_iinc (lv' := [_, _, _]) dX10_copy_15 rfl rfl rfl ?_
    refine w_goto 2 dX10_copy_18 (by decide) ?_
    exact ih (by omega)
theorem c_image {r : Nat} {A : Nat → Int} {ia : Nat → Nat → Int} {la : Nat → Nat → BitVec 64} {fi : Nat → Int} {fl : Nat → BitVec 64} {h0 : HP} {L R C : Nat} (hV : VC A L R C) : sp mX10_image [.ref r] (RH r A ia la fi fl h0) 0 0 (pd (some (.int (zI ((L : Int) * C)))) (RH r A (u1 ia 2 (fillR (ia 2) 0 9033 A)) la fi fl h0)) := by
  refine sp_wp rfl (lv := [_]) rfl (Nat.le_of_ble_eq_true rfl) ?_
  refine w_aload_n dX10_image_0 rfl rfl ?_
  refine w_getf fX10_7 dX10_image_1 RH0 rfl ?_
  refine w_aload_n dX10_image_4 rfl rfl ?_
  refine w_getf fX10_13 dX10_image_5 RH0 rfl ?_
  refine wc_Sv (Z := mX10_copy) (As := [_, _]) c_copy1 kX10_copy lX10_58 sX10_copy dX10_image_8 rfl rfl rfl (Nat.le_of_ble_eq_true rfl) ⟨Nat.le_of_ble_eq_true rfl, Nat.le_of_ble_eq_true rfl⟩ ?_
  refine w_aload_n dX10_image_11 rfl rfl ?_
  refine wc_V (Z := mX10_bits) (As := []) c_bits RH0 rfl kX10_bits lX10_66 iX10_bits vX10_bits dX10_image_12 rfl rfl rfl (Nat.le_of_ble_eq_true rfl) ⟨Nat.le_of_ble_eq_true rfl, Nat.le_of_ble_eq_true rfl⟩ ?_
  rw [hV.1, hV.2.2.1]
  refine x_iret rfl rfl dX10_image_15 ⟨rfl, rfl⟩
theorem c_back {r : Nat} {A : Nat → Int} {ia : Nat → Nat → Int} {la : Nat → Nat → BitVec 64} {fi : Nat → Int} {fl : Nat → BitVec 64} {h0 : HP} {L R C : Nat} (hV : VC (ia 2) L R C) : sp mX10_back [.ref r] (RH r A ia la fi fl h0) 0 0 (pd (some (.int (zI ((L : Int) * C)))) (RH r (fillR A 0 9033 (ia 2)) ia la fi fl h0)) := by
  have e3 : fillR A 0 9033 (ia 2) 3 = ia 2 3 := fillR_i (s := 0) (i := 3) (by omega)
  have e5 : fillR A 0 9033 (ia 2) 5 = ia 2 5 := fillR_i (s := 0) (i := 5) (by omega)
  refine sp_wp rfl (lv := [_]) rfl (Nat.le_of_ble_eq_true rfl) ?_
  refine w_aload_n dX10_back_0 rfl rfl ?_
  refine w_getf fX10_13 dX10_back_1 RH0 rfl ?_
  refine w_aload_n dX10_back_4 rfl rfl ?_
  refine w_getf fX10_7 dX10_back_5 RH0 rfl ?_
  refine wc_Sv (Z := mX10_copy) (As := [_, _]) c_copy2 kX10_copy lX10_58 sX10_copy dX10_back_8 rfl rfl rfl (Nat.le_of_ble_eq_true rfl) ⟨Nat.le_of_ble_eq_true rfl, Nat.le_of_ble_eq_true rfl⟩ ?_
  refine w_aload_n dX10_back_11 rfl rfl ?_
  refine wc_V (Z := mX10_bits) (As := []) c_bits RH0 rfl kX10_bits lX10_66 iX10_bits vX10_bits dX10_back_12 rfl rfl rfl (Nat.le_of_ble_eq_true rfl) ⟨Nat.le_of_ble_eq_true rfl, Nat.le_of_ble_eq_true rfl⟩ ?_
  rw [e3, e5, hV.1, hV.2.2.1]
  refine x_iret rfl rfl dX10_back_15 ⟨rfl, rfl⟩
