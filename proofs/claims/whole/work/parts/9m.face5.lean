/-! the face: by all words -/
theorem red_pop {B : Nat → Int} {L R C rk : Nat} {S : Nat → BitVec 64} {cr : BitVec 64} (hV : VC B L R C) (h : RED B L R C S rk cr) : pop cr = L * C - rk ∧ rk ≤ L * C := by
  obtain ⟨v1, v2, v3, v4, v5, v6, v7⟩ := id hV
  have hLC := mulLe (a := L) (b := C) (x := 6) (y := 8) (by omega) (by omega)
  have h2 := red_is (S0 := cs B L C) hV (fun _ _ => rfl) (fun _ => 0#64)
  have h1 := h (fun _ => 0#64)
  have hz := rz_pop (m := L * R) (n := L * C) (S0 := cs B L C) (by omega)
  have e : cr = (rzN (L * R) (cs B L C) (L * C)).2.1 := bv_ext fun j _ => by rw [h1.2.1 j, h2.2.1 j]
  have e1 := h1.1
  have e2 := h2.1
  rw [e]
  omega
def AST (X : EL) (n d : Nat) (bl : Nat → Nat → BitVec 64) (bi : Nat → Int) (bq : Nat → BitVec 64) (k : Nat) : Prop := bi 1 = (k : Int) ∧ bi 2 = ((2 ^ d : Nat) : Int) ∧ (k < 2 ^ d → bq 3 = wdK X n k) ∧ ∀ i, i < d → bl 1 i = wordX X n ((1#64 <<< (i + 1)) - 1#64)
theorem k_bit {k t : Nat} (hk : k ≤ 5000) : (BitVec.ofInt 64 (k : Int)).getLsbD t = k.testBit t := by
  rw [show BitVec.ofInt 64 (k : Int) = BitVec.ofNat 64 k from rfl, BitVec.getLsbD_ofNat]
  by_cases ht : t < 64
  · simp [ht]
  · have h0 : k.testBit t = false := Nat.testBit_lt_two_pow (Nat.lt_of_lt_of_le (show k < 2 ^ 13 by omega) (Nat.pow_le_pow_right (by omega) (by omega)))
    simp [ht, h0]
theorem k_pred {k : Nat} (hk : k ≤ 5000) : BitVec.ofInt 64 ((k + 1 : Nat) : Int) - 1#64 = BitVec.ofInt 64 (k : Int) := by
  apply BitVec.eq_of_toNat_eq
  show (BitVec.ofNat 64 (k + 1) - 1#64).toNat = (BitVec.ofNat 64 k).toNat
  rw [BitVec.toNat_sub, BitVec.toNat_ofNat, BitVec.toNat_ofNat, BitVec.toNat_ofNat]
  omega
theorem wd_0 {B : Nat → Int} {q : Nat → BitVec 64} {L R C : Nat} (hV : VC B L R C) : wdK (lsR B q L R C) (L * C) 0 = 0#64 := by
  have h := word_lin (q := q) hV 0#64 0#64
  rw [BitVec.xor_self, BitVec.xor_self] at h
  exact h
theorem c0_turnA {a : Nat} {bl : Nat → Nat → BitVec 64} {bi : Nat → Int} {bq : Nat → BitVec 64} {h0 : HP} {B : Nat → Int} {q : Nat → BitVec 64} {L R C k d : Nat} (hV : VC B L R C) (hd : d ≤ 12) (hk : k < 2 ^ d) (H : AST (lsR B q L R C) (L * C) d bl bi bq k) : sp mX0_turn [.ref a] (AWH a bl bi bq h0) 0 0 (px none (fun z : (Nat → Int) × (Nat → BitVec 64) => AST (lsR B q L R C) (L * C) d bl z.1 z.2 (k + 1)) (fun z => AWH a bl z.1 z.2 h0)) := by
  obtain ⟨a1, a2, a3, a4⟩ := id H
  have hp := p12 hd
  obtain ⟨t, ht⟩ := isLow_ex (x := BitVec.ofInt 64 ((k + 1 : Nat) : Int)) (fun e => by
    have h1 := congrArg BitVec.toNat e
    rw [show (BitVec.ofInt 64 ((k + 1 : Nat) : Int)).toNat = (BitVec.ofNat 64 (k + 1)).toNat from rfl, BitVec.toNat_ofNat] at h1
    simp at h1
    omega)
  refine sp_mono (c0_turn (bl := bl) (bi := bi) (bq := bq) (h0 := h0) (a := a) a1 (by omega) ht) (fun v h' hq => ?_)
  obtain ⟨rfl, rfl⟩ := hq
  refine ⟨rfl, (u1 bi 1 ((k + 1 : Nat) : Int), if t ≤ 12 then u1 bq 3 (bq 3 ^^^ bl 1 t) else bq), ⟨u1_s (f := bi) (k := 1), (u1_n (f := bi) (v := ((k + 1 : Nat) : Int)) (show (2 : Nat) ≠ 1 by decide)).trans a2, fun hlt => ?_, a4⟩, rfl⟩
  have htb : (k + 1).testBit t = true := by rw [← k_bit (by omega)]; exact ht.2.1
  have htd : t < d := by
    have h1 := Nat.ge_two_pow_of_testBit htb
    refine Classical.byContradiction fun hn => ?_
    have h2 := Nat.pow_le_pow_right (show 0 < 2 by omega) (show d ≤ t by omega)
    omega
  show (if t ≤ 12 then u1 bq 3 (bq 3 ^^^ bl 1 t) else bq) 3 = _
  rw [if_pos (by omega), u1_s, a3 hk, a4 t htd]
  have hg := gray ht (by omega)
  rw [k_pred (by omega)] at hg
  show wordX (lsR B q L R C) (L * C) (BitVec.ofInt 64 (k : Int)) ^^^ _ = wordX (lsR B q L R C) (L * C) (BitVec.ofInt 64 ((k + 1 : Nat) : Int))
  rw [← word_lin hV, ← hg, BitVec.xor_comm (BitVec.ofInt 64 (k : Int)), BitVec.xor_assoc, BitVec.xor_self, BitVec.xor_zero]
theorem cw2_sub {S : Nat → BitVec 64} {y : BitVec 64} {j : Nat} (h : y.getLsbD j = true) : ∀ {k : Nat}, (cw2 S y k).getLsbD j = true
  | 0 => h
  | k + 1 => by
    have ih := cw2_sub (S := S) h (k := k)
    unfold cw2
    split
    · rw [BitVec.getLsbD_or, ih]; rfl
    · exact ih
theorem wd_pos {B : Nat → Int} {q : Nat → BitVec 64} {L R C rk k : Nat} {S : Nat → BitVec 64} {cr : BitVec 64} (hV : VC B L R C) (h : RED B L R C S rk cr) (hd : L * C - rk ≤ 12) (hk : 1 ≤ k) (hk2 : k < 2 ^ (L * C - rk)) : 0 < pop (wdK (lsR B q L R C) (L * C) k) := by
  have hp := p12 hd
  obtain ⟨hpop, -⟩ := red_pop hV h
  have hex : ∃ i, i < L * C - rk ∧ k.testBit i = true := Classical.byContradiction fun hn => by
    have := mask_0 hk2 (fun i hi => by
      cases hb : k.testBit i with
      | false => rfl
      | true => exact absurd ⟨i, hi, hb⟩ hn)
    omega
  obtain ⟨i, hi, hb⟩ := hex
  obtain ⟨t, t1, t2, t3⟩ := nth_ex (x := cr) (i := i) (by omega)
  have h1 := (cw1_bit (cr := cr) (x := BitVec.ofInt 64 (k : Int)) (k := pop cr) (Nat.le_refl _) t t1).mpr ⟨t2, by omega, by rw [t3, k_bit (by omega)]; exact hb⟩
  have h2 := cw2_sub (S := S) h1 (k := rk)
  have h3 := (h q).2.2 (BitVec.ofInt 64 (k : Int))
  unfold cwd at h3
  unfold wdK
  rw [← h3]
  exact pn_pos (f := (cw2 S (cw1 cr (BitVec.ofInt 64 (k : Int)) (pop cr)) rk).getLsbD) t1 h2
theorem x_lightest {o c : Nat} {sa : Nat → Nat → Int} {si : Nat → Int} {sl : Nat → BitVec 64} {h : HP} {A : Nat → Int} {L R C : Nat} {bl : Nat → Nat → BitVec 64} {bi : Nat → Int} {bq : Nat → BitVec 64} {q0 : Nat → BitVec 64} (hX : VX h o c sa si sl A L R C) : sp mX9_lightest [.ref o] (AWH (o + 55) bl bi bq h) 0 0 (px (some (.int (zI (lgN (fun k => pop (wdK (lsR A q0 L R C) (L * C) k)) ((waV (L * C) (lsR A q0 L R C).2.2).toNat - 1))))) (fun _ : (Nat → Nat → BitVec 64) × (Nat → Int) × (Nat → BitVec 64) => True) (fun q => AWH (o + 55) q.1 q.2.1 q.2.2 h)) := by
  obtain ⟨o_o0, ⟨nh, o_h0⟩, hS0, hR, hQ, hT⟩ := id hX
  have o_o : ∀ {bl : Nat → Nat → BitVec 64} {bi : Nat → Int} {bq : Nat → BitVec 64}, (AWH (o + 55) bl bi bq h).2 o = some (.inr (8, xfs o)) := AWo (by omega) o_o0
  have o_h : ∀ {bl : Nat → Nat → BitVec 64} {bi : Nat → Int} {bq : Nat → BitVec 64}, (AWH (o + 55) bl bi bq h).2 (o + 8) = some (.inr (4, hfs (o + 8) nh)) := AWo (by omega) o_h0
  have o_n : ∀ {bl : Nat → Nat → BitVec 64} {bi : Nat → Int} {bq : Nat → BitVec 64}, (AWH (o + 55) bl bi bq h).2 (o + 8 + 4) = some (.inr (7, sfs (o + 8 + 4) c si sl)) := AWo (by omega) (hS0 0 (by omega))
  obtain ⟨ad, f7, f8, f10, f9, f11, rk, cr, hV, h6, h7, o_c0, r70, r80, r90, r100, r110, e7, e8, e9, e10, hRD, p0, p7, p8, p9, p10, p11⟩ := id hQ
  have o_c : ∀ {bl : Nat → Nat → BitVec 64} {bi : Nat → Int} {bq : Nat → BitVec 64}, (AWH (o + 55) bl bi bq h).2 c = some (.inr (2, cfs L R C (A 6) (A 7) ad rk cr)) := AWo (fun z => p0 (by unfold stZ; omega)) o_c0
  have hQW : CDQ (fun x => ¬ (o + 55 ≤ x ∧ x ≤ o + 55 + 1)) h c A L R C := hQ.mono (fun x hx z => hx (by unfold stZ; omega)) (fun _ _ => rfl)
  obtain ⟨v1, v2, v3, v4, v5, v6, v7⟩ := id hV
  obtain ⟨hI, -, hSN, hA2⟩ := id hT
  obtain ⟨⟨s1, s2, s3, s4, s5, s6⟩, ⟨g8, g9⟩, ⟨nl, l7, lb, hBK⟩, b1, b2, b3, b4, b6⟩ := id hR
  have hLC := mulLe (a := L) (b := C) (x := 6) (y := 8) (by omega) (by omega)
  obtain ⟨X, hXe⟩ : ∃ X, lsR A q0 L R C = X := ⟨_, rfl⟩
  have hrk : X.2.2 = rk := by rw [← hXe]; exact (hRD q0).1
  have hop := fun ba bb bc => c0_open (bl := ba) (bi := bb) (bq := bc) (h0 := h) (a := o + 55) q0 hQW
  have htu := fun (bl : Nat → Nat → BitVec 64) (bi : Nat → Int) (bq : Nat → BitVec 64) (k d : Nat) => c0_turnA (a := o + 55) (bl := bl) (bi := bi) (bq := bq) (h0 := h) (q := q0) (k := k) (d := d) hV
  have hw0 := wd_0 (q := q0) hV
  have hwp := fun k => wd_pos (q := q0) (k := k) hV hRD
  rw [hXe] at hw0 ⊢
  simp only [hXe] at hop htu hwp
  simp only [hrk] at hop
  rw [hrk]
  obtain ⟨d, hd⟩ : ∃ d, L * C - rk = d := ⟨_, rfl⟩
  simp only [hd] at hop hwp
  have hwa : waV (L * C) rk = if 12 < d then -1 else ((2 ^ d : Nat) : Int) := by unfold waV; rw [hd]
  refine sp_wp rfl (lv := [_, _, _, _]) rfl (Nat.le_of_ble_eq_true rfl) ?_
  refine w_aload_n dX9_lightest_0 rfl rfl ?_
  refine w_getf fX9_50 dX9_lightest_1 o_o rfl ?_
  refine w_aload_n dX9_lightest_4 rfl rfl ?_
  refine w_getf fX9_19 dX9_lightest_5 o_o rfl ?_
  refine w_getf fX9_89 dX9_lightest_8 o_h rfl ?_
  refine w_getf fX9_98 dX9_lightest_11 o_n rfl ?_
  refine wx_V (Z := mX0_open) (As := [_]) (hop bl bi bq) AW0 rfl kX0_open lX9_314 iX0_open vX0_open dX9_lightest_14 rfl rfl rfl (Nat.le_of_ble_eq_true rfl) ⟨Nat.le_of_ble_eq_true rfl, Nat.le_of_ble_eq_true rfl⟩ (fun z hz => ?_)
  refine w_ifb_ne 22 dX9_lightest_17 (by decide) (fun hc => ?_) (fun hc => ?_)
  rotate_left
  · rw [hwa, if_pos (by omega)]
    refine w_iconst dX9_lightest_20 ?_
    exact x_iret rfl rfl dX9_lightest_21 ⟨rfl, z, trivial, rfl⟩
  · obtain ⟨y1, y2, y3, y4⟩ := hz hc
    have hp := p12 hc
    rw [hwa, if_neg (by omega), Int.toNat_natCast]
    refine w_iconst dX9_lightest_22 ?_
    refine w_istore_n (lv' := [_, _, _, _]) dX9_lightest_23 rfl (Nat.le_of_ble_eq_true rfl) rfl rfl ?_
    refine w_iconst dX9_lightest_24 ?_
    refine w_istore_n (lv' := [_, _, _, _]) dX9_lightest_25 rfl (Nat.le_of_ble_eq_true rfl) rfl rfl ?_
    have key : ∀ k, k ≤ 2 ^ d → ∀ (bi : Nat → Int) (bq : Nat → BitVec 64) (x3 : Value), AST X (L * C) d z.1 bi bq k → wp mX9_lightest 26 [.ref o, .int (zI (lgN (fun k => pop (wdK X (L * C) k)) (k - 1))), .int (zI (k : Int)), x3] [] (AWH (o + 55) z.1 bi bq h) 0 0 (px (some (.int (zI (lgN (fun k => pop (wdK X (L * C) k)) (2 ^ d - 1))))) (fun _ : (Nat → Nat → BitVec 64) × (Nat → Int) × (Nat → BitVec 64) => True) (fun q => AWH (o + 55) q.1 q.2.1 q.2.2 h)) := by
      refine up_ind (fun k hk ih bi bq x3 hA => ?_)
      obtain ⟨a1, a2, a3, a4⟩ := id hA
      have hr := lgN_rng (f := fun k => pop (wdK X (L * C) k)) (fun j => pop_le _) (j := k - 1)
      refine w_iload_n dX9_lightest_26 rfl rfl ?_
      refine w_aload_n dX9_lightest_27 rfl rfl ?_
      refine w_getf fX9_50 dX9_lightest_28 o_o rfl ?_
      refine w_getf fX9_318 dX9_lightest_31 AW0 rfl ?_
      rw [a2]
      refine w_icmp_ge 77 dX9_lightest_34 (by decide) (by first | assumption | (unfold ok32 at *; omega)) (by first | assumption | (unfold ok32 at *; omega)) (fun hk2 => ?_) (fun hk2 => ?_)
      · rw [show k = 2 ^ d by omega]
        refine w_iload_n dX9_lightest_77 rfl rfl ?_
        exact x_iret rfl rfl dX9_lightest_78 ⟨rfl, (z.1, bi, bq), trivial, rfl⟩
      · have hkl : k < 2 ^ d := by omega
        have hpw := pop_le (wdK X (L * C) k)
        have nxt : ∀ v : Int, v = lgN (fun k => pop (wdK X (L * C) k)) (k + 1 - 1) → wp mX9_lightest 64 [.ref o, .int (zI v), .int (zI (k : Int)), .int (zI ((pop (wdK X (L * C) k) : Nat) : Int))] [] (AWH (o + 55) z.1 bi bq h) 0 0 (px (some (.int (zI (lgN (fun k => pop (wdK X (L * C) k)) (2 ^ d - 1))))) (fun _ : (Nat → Nat → BitVec 64) × (Nat → Int) × (Nat → BitVec 64) => True) (fun q => AWH (o + 55) q.1 q.2.1 q.2.2 h)) := by
          intro v hv
          rw [hv]
          refine w_aload_n dX9_lightest_64 rfl rfl ?_
          refine w_getf fX9_50 dX9_lightest_65 o_o rfl ?_
          refine wx_Vv (Z := mX0_turn) (As := []) (htu z.1 bi bq k d hc hkl hA) AW0 rfl kX0_turn lX9_324 iX0_turn vX0_turn dX9_lightest_68 rfl rfl rfl (Nat.le_of_ble_eq_true rfl) ⟨Nat.le_of_ble_eq_true rfl, Nat.le_of_ble_eq_true rfl⟩ (fun q hq => ?_)
          refine w_iinc (lv' := [_, _, _, _]) dX9_lightest_71 rfl rfl rfl ?_
          refine w_goto 26 dX9_lightest_74 (by decide) ?_
          have := ih hkl q.1 q.2 (.int (zI ((pop (wdK X (L * C) k) : Nat) : Int))) hq
          push_cast at this
          exact this
        refine w_aload_n dX9_lightest_37 rfl rfl ?_
        refine w_getf fX9_50 dX9_lightest_38 o_o rfl ?_
        refine w_getf fX9_321 dX9_lightest_41 AW0 rfl ?_
        rw [a3 hkl]
        refine wc_S (Z := mJ13_bitCount_95d88) (As := [_]) c_bitCount kJ13_bitCount_95d88 lX9_113 sJ13_bitCount_95d88 dX9_lightest_44 rfl rfl rfl (Nat.le_of_ble_eq_true rfl) ⟨Nat.le_of_ble_eq_true rfl, Nat.le_of_ble_eq_true rfl⟩ ?_
        refine w_istore_n (lv' := [_, _, _, _]) dX9_lightest_47 rfl (Nat.le_of_ble_eq_true rfl) rfl rfl ?_
        refine w_iload_n dX9_lightest_48 rfl rfl ?_
        refine w_if_le 64 dX9_lightest_49 (by decide) (by first | assumption | (unfold ok32 at *; omega)) (fun h1 => ?_) (fun h1 => ?_)
        · have hk0 : k = 0 := Classical.byContradiction fun q => by have := hwp k hc (by omega) hkl; omega
          exact nxt _ (by rw [hk0])
        · have hk1 : 1 ≤ k := Classical.byContradiction fun q => by
            have hk0 : k = 0 := by omega
            rw [hk0, hw0, pop_0] at h1
            omega
          obtain ⟨m, hm⟩ : ∃ m, k = m + 1 := ⟨k - 1, by omega⟩
          subst hm
          rw [show m + 1 - 1 = m by omega] at hr ⊢
          rw [show m + 1 + 1 - 1 = m + 1 by omega] at nxt
          have tk : (lgN (fun k => pop (wdK X (L * C) k)) m = -1 ∨ ((pop (wdK X (L * C) (m + 1)) : Nat) : Int) < lgN (fun k => pop (wdK X (L * C) k)) m) → wp mX9_lightest 62 [.ref o, .int (zI (lgN (fun k => pop (wdK X (L * C) k)) m)), .int (zI ((m + 1 : Nat) : Int)), .int (zI ((pop (wdK X (L * C) (m + 1)) : Nat) : Int))] [] (AWH (o + 55) z.1 bi bq h) 0 0 (px (some (.int (zI (lgN (fun k => pop (wdK X (L * C) k)) (2 ^ d - 1))))) (fun _ : (Nat → Nat → BitVec 64) × (Nat → Int) × (Nat → BitVec 64) => True) (fun q => AWH (o + 55) q.1 q.2.1 q.2.2 h)) := by
            intro ht
            refine w_iload_n dX9_lightest_62 rfl rfl ?_
            refine w_istore_n (lv' := [_, _, _, _]) dX9_lightest_63 rfl (Nat.le_of_ble_eq_true rfl) rfl rfl ?_
            exact nxt _ (if_pos ht).symm
          refine w_iload_n dX9_lightest_52 rfl rfl ?_
          refine w_iconst dX9_lightest_53 ?_
          refine w_icmp_eq 62 dX9_lightest_54 (by decide) (by first | assumption | (unfold ok32 at *; omega)) (by first | assumption | (unfold ok32 at *; omega)) (fun h2 => ?_) (fun h2 => ?_)
          · exact tk (Or.inl h2)
          · refine w_iload_n dX9_lightest_57 rfl rfl ?_
            refine w_iload_n dX9_lightest_58 rfl rfl ?_
            refine w_icmp_ge 64 dX9_lightest_59 (by decide) (by first | assumption | (unfold ok32 at *; omega)) (by first | assumption | (unfold ok32 at *; omega)) (fun h3 => ?_) (fun h3 => ?_)
            · exact nxt _ (if_neg (fun q => q.elim (fun q => h2 q) (fun q => by replace q : ((pop (wdK X (L * C) (m + 1)) : Nat) : Int) < lgN (fun k => pop (wdK X (L * C) k)) m := q; omega))).symm
            · exact tk (Or.inr (by omega))
    exact key 0 (Nat.zero_le _) z.2.1 z.2.2 _ ⟨y1, y2, fun _ => by rw [y3, hw0], y4⟩
theorem spN_le {f : Nat → Nat} {z : Int} : ∀ {n : Nat}, spN f z n ≤ n
  | 0 => Nat.le_refl _
  | n + 1 => by
    have := spN_le (f := f) (z := z) (n := n)
    unfold spN
    split <;> omega
theorem x_spectrum {o c : Nat} {sa : Nat → Nat → Int} {si : Nat → Int} {sl : Nat → BitVec 64} {h : HP} {A : Nat → Int} {L R C : Nat} {bl : Nat → Nat → BitVec 64} {bi : Nat → Int} {bq : Nat → BitVec 64} {q0 : Nat → BitVec 64} {z : Int} (hX : VX h o c sa si sl A L R C) (hz : ok32 z) : sp mX9_spectrum [.ref o, .int (zI z)] (AWH (o + 55) bl bi bq h) 0 0 (px (some (.int (zI (if waV (L * C) (lsR A q0 L R C).2.2 = -1 ∨ z < 0 then -1 else ((spN (fun k => pop (wdK (lsR A q0 L R C) (L * C) k)) z (waV (L * C) (lsR A q0 L R C).2.2).toNat : Nat) : Int))))) (fun _ : (Nat → Nat → BitVec 64) × (Nat → Int) × (Nat → BitVec 64) => True) (fun q => AWH (o + 55) q.1 q.2.1 q.2.2 h)) := by
  obtain ⟨o_o0, ⟨nh, o_h0⟩, hS0, hR, hQ, hT⟩ := id hX
  have o_o : ∀ {bl : Nat → Nat → BitVec 64} {bi : Nat → Int} {bq : Nat → BitVec 64}, (AWH (o + 55) bl bi bq h).2 o = some (.inr (8, xfs o)) := AWo (by omega) o_o0
  have o_h : ∀ {bl : Nat → Nat → BitVec 64} {bi : Nat → Int} {bq : Nat → BitVec 64}, (AWH (o + 55) bl bi bq h).2 (o + 8) = some (.inr (4, hfs (o + 8) nh)) := AWo (by omega) o_h0
  have o_n : ∀ {bl : Nat → Nat → BitVec 64} {bi : Nat → Int} {bq : Nat → BitVec 64}, (AWH (o + 55) bl bi bq h).2 (o + 8 + 4) = some (.inr (7, sfs (o + 8 + 4) c si sl)) := AWo (by omega) (hS0 0 (by omega))
  obtain ⟨ad, f7, f8, f10, f9, f11, rk, cr, hV, h6, h7, o_c0, r70, r80, r90, r100, r110, e7, e8, e9, e10, hRD, p0, p7, p8, p9, p10, p11⟩ := id hQ
  have o_c : ∀ {bl : Nat → Nat → BitVec 64} {bi : Nat → Int} {bq : Nat → BitVec 64}, (AWH (o + 55) bl bi bq h).2 c = some (.inr (2, cfs L R C (A 6) (A 7) ad rk cr)) := AWo (fun z => p0 (by unfold stZ; omega)) o_c0
  have hQW : CDQ (fun x => ¬ (o + 55 ≤ x ∧ x ≤ o + 55 + 1)) h c A L R C := hQ.mono (fun x hx z => hx (by unfold stZ; omega)) (fun _ _ => rfl)
  obtain ⟨v1, v2, v3, v4, v5, v6, v7⟩ := id hV
  obtain ⟨hI, -, hSN, hA2⟩ := id hT
  obtain ⟨⟨s1, s2, s3, s4, s5, s6⟩, ⟨g8, g9⟩, ⟨nl, l7, lb, hBK⟩, b1, b2, b3, b4, b6⟩ := id hR
  have hLC := mulLe (a := L) (b := C) (x := 6) (y := 8) (by omega) (by omega)
  obtain ⟨X, hXe⟩ : ∃ X, lsR A q0 L R C = X := ⟨_, rfl⟩
  have hrk : X.2.2 = rk := by rw [← hXe]; exact (hRD q0).1
  have hop := fun ba bb bc => c0_open (bl := ba) (bi := bb) (bq := bc) (h0 := h) (a := o + 55) q0 hQW
  have htu := fun (bl : Nat → Nat → BitVec 64) (bi : Nat → Int) (bq : Nat → BitVec 64) (k d : Nat) => c0_turnA (a := o + 55) (bl := bl) (bi := bi) (bq := bq) (h0 := h) (q := q0) (k := k) (d := d) hV
  have hw0 := wd_0 (q := q0) hV
  have hwp := fun k => wd_pos (q := q0) (k := k) hV hRD
  rw [hXe] at hw0 ⊢
  simp only [hXe] at hop htu hwp
  simp only [hrk] at hop
  rw [hrk]
  obtain ⟨d, hd⟩ : ∃ d, L * C - rk = d := ⟨_, rfl⟩
  simp only [hd] at hop hwp
  have hwa : waV (L * C) rk = if 12 < d then -1 else ((2 ^ d : Nat) : Int) := by unfold waV; rw [hd]
  refine sp_wp rfl (lv := [_, _, _, _]) rfl (Nat.le_of_ble_eq_true rfl) ?_
  refine w_iload_n dX9_spectrum_0 rfl rfl ?_
  refine w_if_lt 24 dX9_spectrum_1 (by decide) (by first | assumption | (unfold ok32 at *; omega)) (fun h1 => ?_) (fun h1 => ?_)
  · rw [if_pos (Or.inr h1)]
    refine w_iconst dX9_spectrum_24 ?_
    exact x_iret rfl rfl dX9_spectrum_25 ⟨rfl, (bl, bi, bq), trivial, rfl⟩
  · refine w_aload_n dX9_spectrum_4 rfl rfl ?_
    refine w_getf fX9_50 dX9_spectrum_5 o_o rfl ?_
    refine w_aload_n dX9_spectrum_8 rfl rfl ?_
    refine w_getf fX9_19 dX9_spectrum_9 o_o rfl ?_
    refine w_getf fX9_89 dX9_spectrum_12 o_h rfl ?_
    refine w_getf fX9_98 dX9_spectrum_15 o_n rfl ?_
    refine wx_V (Z := mX0_open) (As := [_]) (hop bl bi bq) AW0 rfl kX0_open lX9_314 iX0_open vX0_open dX9_spectrum_18 rfl rfl rfl (Nat.le_of_ble_eq_true rfl) ⟨Nat.le_of_ble_eq_true rfl, Nat.le_of_ble_eq_true rfl⟩ (fun y hy => ?_)
    refine w_ifb_ne 26 dX9_spectrum_21 (by decide) (fun hc => ?_) (fun hc => ?_)
    rotate_left
    · rw [if_pos (Or.inl (by rw [hwa, if_pos (by omega)]))]
      refine w_iconst dX9_spectrum_24 ?_
      exact x_iret rfl rfl dX9_spectrum_25 ⟨rfl, y, trivial, rfl⟩
    · obtain ⟨y1, y2, y3, y4⟩ := hy hc
      have hp := p12 hc
      rw [hwa, if_neg (by omega), if_neg (by omega), Int.toNat_natCast]
      refine w_iconst dX9_spectrum_26 ?_
      refine w_istore_n (lv' := [_, _, _, _]) dX9_spectrum_27 rfl (Nat.le_of_ble_eq_true rfl) rfl rfl ?_
      refine w_iconst dX9_spectrum_28 ?_
      refine w_istore_n (lv' := [_, _, _, _]) dX9_spectrum_29 rfl (Nat.le_of_ble_eq_true rfl) rfl rfl ?_
      have key : ∀ k, k ≤ 2 ^ d → ∀ (bi : Nat → Int) (bq : Nat → BitVec 64), AST X (L * C) d y.1 bi bq k → wp mX9_spectrum 30 [.ref o, .int (zI z), .int (zI ((spN (fun k => pop (wdK X (L * C) k)) z k : Nat) : Int)), .int (zI (k : Int))] [] (AWH (o + 55) y.1 bi bq h) 0 0 (px (some (.int (zI (((spN (fun k => pop (wdK X (L * C) k)) z (2 ^ d) : Nat) : Int))))) (fun _ : (Nat → Nat → BitVec 64) × (Nat → Int) × (Nat → BitVec 64) => True) (fun q => AWH (o + 55) q.1 q.2.1 q.2.2 h)) := by
        refine up_ind (fun k hk ih bi bq hA => ?_)
        obtain ⟨a1, a2, a3, a4⟩ := id hA
        refine w_iload_n dX9_spectrum_30 rfl rfl ?_
        refine w_aload_n dX9_spectrum_31 rfl rfl ?_
        refine w_getf fX9_50 dX9_spectrum_32 o_o rfl ?_
        refine w_getf fX9_318 dX9_spectrum_35 AW0 rfl ?_
        rw [a2]
        refine w_icmp_ge 71 dX9_spectrum_38 (by decide) (by first | assumption | (unfold ok32 at *; omega)) (by first | assumption | (unfold ok32 at *; omega)) (fun hk2 => ?_) (fun hk2 => ?_)
        · rw [show k = 2 ^ d by omega]
          refine w_iload_n dX9_spectrum_71 rfl rfl ?_
          exact x_iret rfl rfl dX9_spectrum_72 ⟨rfl, (y.1, bi, bq), trivial, rfl⟩
        · have hkl : k < 2 ^ d := by omega
          have hpw := pop_le (wdK X (L * C) k)
          have nxt : ∀ v : Int, v = ((spN (fun k => pop (wdK X (L * C) k)) z (k + 1) : Nat) : Int) → wp mX9_spectrum 58 [.ref o, .int (zI z), .int (zI v), .int (zI (k : Int))] [] (AWH (o + 55) y.1 bi bq h) 0 0 (px (some (.int (zI (((spN (fun k => pop (wdK X (L * C) k)) z (2 ^ d) : Nat) : Int))))) (fun _ : (Nat → Nat → BitVec 64) × (Nat → Int) × (Nat → BitVec 64) => True) (fun q => AWH (o + 55) q.1 q.2.1 q.2.2 h)) := by
            intro v hv
            rw [hv]
            refine w_aload_n dX9_spectrum_58 rfl rfl ?_
            refine w_getf fX9_50 dX9_spectrum_59 o_o rfl ?_
            refine wx_Vv (Z := mX0_turn) (As := []) (htu y.1 bi bq k d hc hkl hA) AW0 rfl kX0_turn lX9_324 iX0_turn vX0_turn dX9_spectrum_62 rfl rfl rfl (Nat.le_of_ble_eq_true rfl) ⟨Nat.le_of_ble_eq_true rfl, Nat.le_of_ble_eq_true rfl⟩ (fun q hq => ?_)
            refine w_iinc (lv' := [_, _, _, _]) dX9_spectrum_65 rfl rfl rfl ?_
            refine w_goto 30 dX9_spectrum_68 (by decide) ?_
            have := ih hkl q.1 q.2 hq
            push_cast at this ⊢
            exact this
          refine w_aload_n dX9_spectrum_41 rfl rfl ?_
          refine w_getf fX9_50 dX9_spectrum_42 o_o rfl ?_
          refine w_getf fX9_321 dX9_spectrum_45 AW0 rfl ?_
          rw [a3 hkl]
          refine wc_S (Z := mJ13_bitCount_95d88) (As := [_]) c_bitCount kJ13_bitCount_95d88 lX9_113 sJ13_bitCount_95d88 dX9_spectrum_48 rfl rfl rfl (Nat.le_of_ble_eq_true rfl) ⟨Nat.le_of_ble_eq_true rfl, Nat.le_of_ble_eq_true rfl⟩ ?_
          refine w_iload_n dX9_spectrum_51 rfl rfl ?_
          refine w_icmp_ne 58 dX9_spectrum_52 (by decide) (by first | assumption | (unfold ok32 at *; omega)) (by first | assumption | (unfold ok32 at *; omega)) (fun h2 => ?_) (fun h2 => ?_)
          · exact nxt _ (by show _ = ((spN _ z k + (if ((pop (wdK X (L * C) k) : Nat) : Int) = z then 1 else 0) : Nat) : Int); rw [if_neg h2]; omega)
          · refine w_iinc (lv' := [_, _, _, _]) dX9_spectrum_55 rfl rfl rfl ?_
            exact nxt _ (by show _ = ((spN _ z k + (if ((pop (wdK X (L * C) k) : Nat) : Int) = z then 1 else 0) : Nat) : Int); rw [if_pos (by omega)]; push_cast; rfl)
      exact key 0 (Nat.zero_le _) y.2.1 y.2.2 ⟨y1, y2, fun _ => by rw [y3, hw0], y4⟩
theorem nr_s {W : Nat → BitVec 64} {f : BitVec 64 → Int} {k : Nat} : nrN W f (k + 1) = if k = 0 ∨ f (W k) < f (nrN W f k) then W k else nrN W f k := rfl
theorem nr_step {W : Nat → BitVec 64} {f : BitVec 64 → Int} {k : Nat} : nrN W f (k + 1) = if f (W k) < f (nrN W f (if k = 0 then 1 else k)) then W k else nrN W f (if k = 0 then 1 else k) := by
  by_cases hk : k = 0
  · subst hk
    rw [if_pos rfl, nr_s, if_pos (Or.inl rfl), if_neg (by omega)]
  · rw [if_neg hk, nr_s]
    by_cases hq : f (W k) < f (nrN W f k)
    · rw [if_pos (Or.inr hq), if_pos hq]
    · rw [if_neg (fun q => q.elim hk hq), if_neg hq]
theorem x_nearest {o c : Nat} {sa : Nat → Nat → Int} {si : Nat → Int} {sl : Nat → BitVec 64} {h : HP} {A : Nat → Int} {L R C : Nat} {bl : Nat → Nat → BitVec 64} {bi : Nat → Int} {bq : Nat → BitVec 64} {q0 : Nat → BitVec 64} (hX : VX h o c sa si sl A L R C) : sp mX9_nearest [.ref o] (AWH (o + 55) bl bi bq h) 0 0 (px (some (.long (lB (nrN (wdK (lsR A q0 L R C) (L * C)) (fun x => ((pop (x ^^^ gA A (L * C)) : Nat) : Int)) (waV (L * C) (lsR A q0 L R C).2.2).toNat)))) (fun _ : (Nat → Nat → BitVec 64) × (Nat → Int) × (Nat → BitVec 64) => True) (fun q => AWH (o + 55) q.1 q.2.1 q.2.2 h)) := by
  obtain ⟨o_o0, ⟨nh, o_h0⟩, hS0, hR, hQ, hT⟩ := id hX
  have o_o : ∀ {bl : Nat → Nat → BitVec 64} {bi : Nat → Int} {bq : Nat → BitVec 64}, (AWH (o + 55) bl bi bq h).2 o = some (.inr (8, xfs o)) := AWo (by omega) o_o0
  have o_h : ∀ {bl : Nat → Nat → BitVec 64} {bi : Nat → Int} {bq : Nat → BitVec 64}, (AWH (o + 55) bl bi bq h).2 (o + 8) = some (.inr (4, hfs (o + 8) nh)) := AWo (by omega) o_h0
  have o_n : ∀ {bl : Nat → Nat → BitVec 64} {bi : Nat → Int} {bq : Nat → BitVec 64}, (AWH (o + 55) bl bi bq h).2 (o + 8 + 4) = some (.inr (7, sfs (o + 8 + 4) c si sl)) := AWo (by omega) (hS0 0 (by omega))
  obtain ⟨ad, f7, f8, f10, f9, f11, rk, cr, hV, h6, h7, o_c0, r70, r80, r90, r100, r110, e7, e8, e9, e10, hRD, p0, p7, p8, p9, p10, p11⟩ := id hQ
  have o_c : ∀ {bl : Nat → Nat → BitVec 64} {bi : Nat → Int} {bq : Nat → BitVec 64}, (AWH (o + 55) bl bi bq h).2 c = some (.inr (2, cfs L R C (A 6) (A 7) ad rk cr)) := AWo (fun z => p0 (by unfold stZ; omega)) o_c0
  have hQW : CDQ (fun x => ¬ (o + 55 ≤ x ∧ x ≤ o + 55 + 1)) h c A L R C := hQ.mono (fun x hx z => hx (by unfold stZ; omega)) (fun _ _ => rfl)
  obtain ⟨v1, v2, v3, v4, v5, v6, v7⟩ := id hV
  obtain ⟨hI, -, hSN, hA2⟩ := id hT
  obtain ⟨⟨s1, s2, s3, s4, s5, s6⟩, ⟨g8, g9⟩, ⟨nl, l7, lb, hBK⟩, b1, b2, b3, b4, b6⟩ := id hR
  have hLC := mulLe (a := L) (b := C) (x := 6) (y := 8) (by omega) (by omega)
  obtain ⟨X, hXe⟩ : ∃ X, lsR A q0 L R C = X := ⟨_, rfl⟩
  have hrk : X.2.2 = rk := by rw [← hXe]; exact (hRD q0).1
  have hop := fun ba bb bc => c0_open (bl := ba) (bi := bb) (bq := bc) (h0 := h) (a := o + 55) q0 hQW
  have htu := fun (bl : Nat → Nat → BitVec 64) (bi : Nat → Int) (bq : Nat → BitVec 64) (k d : Nat) => c0_turnA (a := o + 55) (bl := bl) (bi := bi) (bq := bq) (h0 := h) (q := q0) (k := k) (d := d) hV
  have hw0 := wd_0 (q := q0) hV
  have hwp := fun k => wd_pos (q := q0) (k := k) hV hRD
  rw [hXe] at hw0 ⊢
  simp only [hXe] at hop htu hwp
  simp only [hrk] at hop
  rw [hrk]
  obtain ⟨d, hd⟩ : ∃ d, L * C - rk = d := ⟨_, rfl⟩
  simp only [hd] at hop hwp
  have hwa : waV (L * C) rk = if 12 < d then -1 else ((2 ^ d : Nat) : Int) := by unfold waV; rw [hd]
  refine sp_wp rfl (lv := [_, _, _, _, _, _]) rfl (Nat.le_of_ble_eq_true rfl) ?_
  refine w_aload_n dX9_nearest_0 rfl rfl ?_
  refine w_getf fX9_50 dX9_nearest_1 o_o rfl ?_
  refine w_aload_n dX9_nearest_4 rfl rfl ?_
  refine w_getf fX9_19 dX9_nearest_5 o_o rfl ?_
  refine w_getf fX9_89 dX9_nearest_8 o_h rfl ?_
  refine w_getf fX9_98 dX9_nearest_11 o_n rfl ?_
  refine wx_V (Z := mX0_open) (As := [_]) (hop bl bi bq) AW0 rfl kX0_open lX9_314 iX0_open vX0_open dX9_nearest_14 rfl rfl rfl (Nat.le_of_ble_eq_true rfl) ⟨Nat.le_of_ble_eq_true rfl, Nat.le_of_ble_eq_true rfl⟩ (fun y hy => ?_)
  refine w_ifb_ne 24 dX9_nearest_17 (by decide) (fun hc => ?_) (fun hc => ?_)
  rotate_left
  · rw [hwa, if_pos (by omega)]
    refine w_ldc2B (-1#64) qX9_309 (by decide) dX9_nearest_20 ?_
    exact x_lret rfl dX9_nearest_23 ⟨rfl, y, trivial, rfl⟩
  · obtain ⟨y1, y2, y3, y4⟩ := hy hc
    have hp := p12 hc
    rw [hwa, if_neg (by omega), Int.toNat_natCast]
    obtain ⟨f, hf⟩ : ∃ f : BitVec 64 → Int, (fun x => ((pop (x ^^^ gA A (L * C)) : Nat) : Int)) = f := ⟨_, rfl⟩
    have hfx : ∀ x, ((pop (x ^^^ gA A (L * C)) : Nat) : Int) = f x := fun x => by rw [← hf]
    have hfr : ∀ x, 0 ≤ f x ∧ f x ≤ 64 := fun x => by rw [← hfx]; have := pop_le (x ^^^ gA A (L * C)); omega
    rw [hf]
    refine w_lconst0 dX9_nearest_24 ?_
    refine w_lstore_n (lv' := [_, _, _, _, _, _]) dX9_nearest_25 rfl (Nat.le_of_ble_eq_true rfl) rfl rfl ?_
    refine w_aload_n dX9_nearest_26 rfl rfl ?_
    refine w_getf fX9_19 dX9_nearest_27 o_o rfl ?_
    refine w_getf fX9_89 dX9_nearest_30 o_h rfl ?_
    refine w_getf fX9_229 dX9_nearest_33 o_n rfl ?_
    rw [g8]
    refine wc_S (Z := mJ13_bitCount_95d88) (As := [_]) c_bitCount kJ13_bitCount_95d88 lX9_113 sJ13_bitCount_95d88 dX9_nearest_36 rfl rfl rfl (Nat.le_of_ble_eq_true rfl) ⟨Nat.le_of_ble_eq_true rfl, Nat.le_of_ble_eq_true rfl⟩ ?_
    rw [show ((pop (gA A (L * C)) : Nat) : Int) = f 0#64 by rw [← hfx, BitVec.zero_xor]]
    refine w_istore_n (lv' := [_, _, _, _, _, _]) dX9_nearest_39 rfl (Nat.le_of_ble_eq_true rfl) rfl rfl ?_
    refine w_iconst dX9_nearest_40 ?_
    refine w_istore (lv' := [_, _, _, _, _, _]) dX9_nearest_41 (Nat.le_of_ble_eq_true rfl) rfl rfl ?_
    have key : ∀ k, k ≤ 2 ^ d → ∀ (bi : Nat → Int) (bq : Nat → BitVec 64) (x5 : Value), AST X (L * C) d y.1 bi bq k → wp mX9_nearest 43 [.ref o, .long (lB (nrN (wdK X (L * C)) f (if k = 0 then 1 else k))), jk, .int (zI (f (nrN (wdK X (L * C)) f (if k = 0 then 1 else k)))), .int (zI (k : Int)), x5] [] (AWH (o + 55) y.1 bi bq h) 0 0 (px (some (.long (lB (nrN (wdK X (L * C)) f (2 ^ d))))) (fun _ : (Nat → Nat → BitVec 64) × (Nat → Int) × (Nat → BitVec 64) => True) (fun q => AWH (o + 55) q.1 q.2.1 q.2.2 h)) := by
      refine up_ind (fun k hk ih bi bq x5 hA => ?_)
      obtain ⟨a1, a2, a3, a4⟩ := id hA
      have hst := nr_step (W := wdK X (L * C)) (f := f) (k := k)
      obtain ⟨bb, hbb⟩ : ∃ bb, nrN (wdK X (L * C)) f (if k = 0 then 1 else k) = bb := ⟨_, rfl⟩
      have hfb := hfr bb
      refine w_iload dX9_nearest_43 rfl ?_
      refine w_aload_n dX9_nearest_45 rfl rfl ?_
      refine w_getf fX9_50 dX9_nearest_46 o_o rfl ?_
      refine w_getf fX9_318 dX9_nearest_49 AW0 rfl ?_
      rw [a2]
      refine w_icmp_ge 108 dX9_nearest_52 (by decide) (by first | assumption | (unfold ok32 at *; omega)) (by first | assumption | (unfold ok32 at *; omega)) (fun hk2 => ?_) (fun hk2 => ?_)
      · have e : k = 2 ^ d := by omega
        rw [e, if_neg (by omega)]
        refine w_lload_n dX9_nearest_108 rfl rfl ?_
        exact x_lret rfl dX9_nearest_109 ⟨rfl, (y.1, bi, bq), trivial, rfl⟩
      · have hkl : k < 2 ^ d := by omega
        rw [hbb] at hst ⊢
        have hfw := hfr (wdK X (L * C) k)
        have nxt : ∀ v : BitVec 64, v = nrN (wdK X (L * C)) f (k + 1) → wp mX9_nearest 95 [.ref o, .long (lB v), jk, .int (zI (f v)), .int (zI (k : Int)), .int (zI (f (wdK X (L * C) k)))] [] (AWH (o + 55) y.1 bi bq h) 0 0 (px (some (.long (lB (nrN (wdK X (L * C)) f (2 ^ d))))) (fun _ : (Nat → Nat → BitVec 64) × (Nat → Int) × (Nat → BitVec 64) => True) (fun q => AWH (o + 55) q.1 q.2.1 q.2.2 h)) := by
          intro v hv
          rw [hv]
          refine w_aload_n dX9_nearest_95 rfl rfl ?_
          refine w_getf fX9_50 dX9_nearest_96 o_o rfl ?_
          refine wx_Vv (Z := mX0_turn) (As := []) (htu y.1 bi bq k d hc hkl hA) AW0 rfl kX0_turn lX9_324 iX0_turn vX0_turn dX9_nearest_99 rfl rfl rfl (Nat.le_of_ble_eq_true rfl) ⟨Nat.le_of_ble_eq_true rfl, Nat.le_of_ble_eq_true rfl⟩ (fun q hq => ?_)
          refine w_iinc (lv' := [_, _, _, _, _, _]) dX9_nearest_102 rfl rfl rfl ?_
          refine w_goto 43 dX9_nearest_105 (by decide) ?_
          have := ih hkl q.1 q.2 (.int (zI (f (wdK X (L * C) k)))) hq
          rw [if_neg (by omega)] at this
          push_cast at this
          exact this
        refine w_aload_n dX9_nearest_55 rfl rfl ?_
        refine w_getf fX9_50 dX9_nearest_56 o_o rfl ?_
        refine w_getf fX9_321 dX9_nearest_59 AW0 rfl ?_
        rw [a3 hkl]
        refine w_aload_n dX9_nearest_62 rfl rfl ?_
        refine w_getf fX9_19 dX9_nearest_63 o_o rfl ?_
        refine w_getf fX9_89 dX9_nearest_66 o_h rfl ?_
        refine w_getf fX9_229 dX9_nearest_69 o_n rfl ?_
        rw [g8]
        refine w_lxor dX9_nearest_72 ?_
        refine wc_S (Z := mJ13_bitCount_95d88) (As := [_]) c_bitCount kJ13_bitCount_95d88 lX9_113 sJ13_bitCount_95d88 dX9_nearest_73 rfl rfl rfl (Nat.le_of_ble_eq_true rfl) ⟨Nat.le_of_ble_eq_true rfl, Nat.le_of_ble_eq_true rfl⟩ ?_
        rw [hfx]
        refine w_istore (lv' := [_, _, _, _, _, _]) dX9_nearest_76 (Nat.le_of_ble_eq_true rfl) rfl rfl ?_
        refine w_iload dX9_nearest_78 rfl ?_
        refine w_iload_n dX9_nearest_80 rfl rfl ?_
        refine w_icmp_ge 95 dX9_nearest_81 (by decide) (by first | assumption | (unfold ok32 at *; omega)) (by first | assumption | (unfold ok32 at *; omega)) (fun h2 => ?_) (fun h2 => ?_)
        · exact nxt bb (by rw [hst, if_neg (by omega)])
        · refine w_iload dX9_nearest_84 rfl ?_
          refine w_istore_n (lv' := [_, _, _, _, _, _]) dX9_nearest_86 rfl (Nat.le_of_ble_eq_true rfl) rfl rfl ?_
          refine w_aload_n dX9_nearest_87 rfl rfl ?_
          refine w_getf fX9_50 dX9_nearest_88 o_o rfl ?_
          refine w_getf fX9_321 dX9_nearest_91 AW0 rfl ?_
          rw [a3 hkl]
          refine w_lstore_n (lv' := [_, _, _, _, _, _]) dX9_nearest_94 rfl (Nat.le_of_ble_eq_true rfl) rfl rfl ?_
          exact nxt _ (by rw [hst, if_pos (by omega)])
    have := key 0 (Nat.zero_le _) y.2.1 y.2.2 jk ⟨y1, y2, fun _ => by rw [y3, hw0], y4⟩
    rw [if_pos rfl, nr_s, if_pos (Or.inl rfl), hw0] at this
    exact this
theorem x_likeliest {o c : Nat} {sa : Nat → Nat → Int} {si : Nat → Int} {sl : Nat → BitVec 64} {h : HP} {A : Nat → Int} {L R C : Nat} {bl : Nat → Nat → BitVec 64} {bi : Nat → Int} {bq : Nat → BitVec 64} {q0 : Nat → BitVec 64} (hX : VX h o c sa si sl A L R C) : sp mX9_likeliest [.ref o] (AWH (o + 55) bl bi bq h) 0 0 (px (some (.long (lB (nrN (wdK (lsR A q0 L R C) (L * C)) (fun x => cstN A x (L * C)) (waV (L * C) (lsR A q0 L R C).2.2).toNat)))) (fun _ : (Nat → Nat → BitVec 64) × (Nat → Int) × (Nat → BitVec 64) => True) (fun q => AWH (o + 55) q.1 q.2.1 q.2.2 h)) := by
  have hco : ∀ (x : BitVec 64) (bl : Nat → Nat → BitVec 64) (bi : Nat → Int) (bq : Nat → BitVec 64), sp mX8_costOf [.ref (o + 8 + 4), .long (lB x)] (AWH (o + 55) bl bi bq h) 0 0 (pd (some (.int (zI (cstN A x (L * C))))) (AWH (o + 55) bl bi bq h)) := fun x bl bi bq => by
    have hX2 := hX.aw (bl := bl) (bi := bi) (bq := bq)
    have h1 := c8_costOf (si := si) (sl := sl) (x := x) (hX2.2.2.2.2.1.mono (P' := outS (o + 8 + 4)) (fun x hx z => hx (by unfold stZ; omega)) (fun _ _ => rfl)) hX2.2.2.2.2.2.1 hX2.2.2.2.1.2.2.2.1
    rw [SCP.self hX2.2.2.1] at h1
    exact h1
  obtain ⟨o_o0, ⟨nh, o_h0⟩, hS0, hR, hQ, hT⟩ := id hX
  have o_o : ∀ {bl : Nat → Nat → BitVec 64} {bi : Nat → Int} {bq : Nat → BitVec 64}, (AWH (o + 55) bl bi bq h).2 o = some (.inr (8, xfs o)) := AWo (by omega) o_o0
  have o_h : ∀ {bl : Nat → Nat → BitVec 64} {bi : Nat → Int} {bq : Nat → BitVec 64}, (AWH (o + 55) bl bi bq h).2 (o + 8) = some (.inr (4, hfs (o + 8) nh)) := AWo (by omega) o_h0
  have o_n : ∀ {bl : Nat → Nat → BitVec 64} {bi : Nat → Int} {bq : Nat → BitVec 64}, (AWH (o + 55) bl bi bq h).2 (o + 8 + 4) = some (.inr (7, sfs (o + 8 + 4) c si sl)) := AWo (by omega) (hS0 0 (by omega))
  obtain ⟨ad, f7, f8, f10, f9, f11, rk, cr, hV, h6, h7, o_c0, r70, r80, r90, r100, r110, e7, e8, e9, e10, hRD, p0, p7, p8, p9, p10, p11⟩ := id hQ
  have o_c : ∀ {bl : Nat → Nat → BitVec 64} {bi : Nat → Int} {bq : Nat → BitVec 64}, (AWH (o + 55) bl bi bq h).2 c = some (.inr (2, cfs L R C (A 6) (A 7) ad rk cr)) := AWo (fun z => p0 (by unfold stZ; omega)) o_c0
  have hQW : CDQ (fun x => ¬ (o + 55 ≤ x ∧ x ≤ o + 55 + 1)) h c A L R C := hQ.mono (fun x hx z => hx (by unfold stZ; omega)) (fun _ _ => rfl)
  obtain ⟨v1, v2, v3, v4, v5, v6, v7⟩ := id hV
  obtain ⟨hI, -, hSN, hA2⟩ := id hT
  obtain ⟨⟨s1, s2, s3, s4, s5, s6⟩, ⟨g8, g9⟩, ⟨nl, l7, lb, hBK⟩, b1, b2, b3, b4, b6⟩ := id hR
  have hLC := mulLe (a := L) (b := C) (x := 6) (y := 8) (by omega) (by omega)
  obtain ⟨X, hXe⟩ : ∃ X, lsR A q0 L R C = X := ⟨_, rfl⟩
  have hrk : X.2.2 = rk := by rw [← hXe]; exact (hRD q0).1
  have hop := fun ba bb bc => c0_open (bl := ba) (bi := bb) (bq := bc) (h0 := h) (a := o + 55) q0 hQW
  have htu := fun (bl : Nat → Nat → BitVec 64) (bi : Nat → Int) (bq : Nat → BitVec 64) (k d : Nat) => c0_turnA (a := o + 55) (bl := bl) (bi := bi) (bq := bq) (h0 := h) (q := q0) (k := k) (d := d) hV
  have hw0 := wd_0 (q := q0) hV
  have hwp := fun k => wd_pos (q := q0) (k := k) hV hRD
  rw [hXe] at hw0 ⊢
  simp only [hXe] at hop htu hwp
  simp only [hrk] at hop
  rw [hrk]
  obtain ⟨d, hd⟩ : ∃ d, L * C - rk = d := ⟨_, rfl⟩
  simp only [hd] at hop hwp
  have hwa : waV (L * C) rk = if 12 < d then -1 else ((2 ^ d : Nat) : Int) := by unfold waV; rw [hd]
  refine sp_wp rfl (lv := [_, _, _, _, _, _]) rfl (Nat.le_of_ble_eq_true rfl) ?_
  refine w_aload_n dX9_likeliest_0 rfl rfl ?_
  refine w_getf fX9_50 dX9_likeliest_1 o_o rfl ?_
  refine w_aload_n dX9_likeliest_4 rfl rfl ?_
  refine w_getf fX9_19 dX9_likeliest_5 o_o rfl ?_
  refine w_getf fX9_89 dX9_likeliest_8 o_h rfl ?_
  refine w_getf fX9_98 dX9_likeliest_11 o_n rfl ?_
  refine wx_V (Z := mX0_open) (As := [_]) (hop bl bi bq) AW0 rfl kX0_open lX9_314 iX0_open vX0_open dX9_likeliest_14 rfl rfl rfl (Nat.le_of_ble_eq_true rfl) ⟨Nat.le_of_ble_eq_true rfl, Nat.le_of_ble_eq_true rfl⟩ (fun y hy => ?_)
  refine w_ifb_ne 24 dX9_likeliest_17 (by decide) (fun hc => ?_) (fun hc => ?_)
  rotate_left
  · rw [hwa, if_pos (by omega)]
    refine w_ldc2B (-1#64) qX9_309 (by decide) dX9_likeliest_20 ?_
    exact x_lret rfl dX9_likeliest_23 ⟨rfl, y, trivial, rfl⟩
  · obtain ⟨y1, y2, y3, y4⟩ := hy hc
    have hp := p12 hc
    rw [hwa, if_neg (by omega), Int.toNat_natCast]
    obtain ⟨f, hf⟩ : ∃ f : BitVec 64 → Int, (fun x => cstN A x (L * C)) = f := ⟨_, rfl⟩
    have hfx : ∀ x, cstN A x (L * C) = f x := fun x => by rw [← hf]
    have hfr : ∀ x, 0 ≤ f x ∧ f x ≤ 2000 := fun x => by rw [← hfx]; have := cstN_rng (x := x) hI (n := L * C) (by omega); omega
    rw [hf]
    simp only [hfx] at hco
    refine w_lconst0 dX9_likeliest_24 ?_
    refine w_lstore_n (lv' := [_, _, _, _, _, _]) dX9_likeliest_25 rfl (Nat.le_of_ble_eq_true rfl) rfl rfl ?_
    refine w_aload_n dX9_likeliest_26 rfl rfl ?_
    refine w_getf fX9_19 dX9_likeliest_27 o_o rfl ?_
    refine w_getf fX9_89 dX9_likeliest_30 o_h rfl ?_
    refine w_lconst0 dX9_likeliest_33 ?_
    refine wc_V (Z := mX8_costOf) (As := [_]) (hco 0#64 y.1 y.2.1 y.2.2) o_n rfl kX8_costOf lX9_311 iX8_costOf vX8_costOf dX9_likeliest_34 rfl rfl rfl (Nat.le_of_ble_eq_true rfl) ⟨Nat.le_of_ble_eq_true rfl, Nat.le_of_ble_eq_true rfl⟩ ?_
    refine w_istore_n (lv' := [_, _, _, _, _, _]) dX9_likeliest_37 rfl (Nat.le_of_ble_eq_true rfl) rfl rfl ?_
    refine w_iconst dX9_likeliest_38 ?_
    refine w_istore (lv' := [_, _, _, _, _, _]) dX9_likeliest_39 (Nat.le_of_ble_eq_true rfl) rfl rfl ?_
    have key : ∀ k, k ≤ 2 ^ d → ∀ (bi : Nat → Int) (bq : Nat → BitVec 64) (x5 : Value), AST X (L * C) d y.1 bi bq k → wp mX9_likeliest 41 [.ref o, .long (lB (nrN (wdK X (L * C)) f (if k = 0 then 1 else k))), jk, .int (zI (f (nrN (wdK X (L * C)) f (if k = 0 then 1 else k)))), .int (zI (k : Int)), x5] [] (AWH (o + 55) y.1 bi bq h) 0 0 (px (some (.long (lB (nrN (wdK X (L * C)) f (2 ^ d))))) (fun _ : (Nat → Nat → BitVec 64) × (Nat → Int) × (Nat → BitVec 64) => True) (fun q => AWH (o + 55) q.1 q.2.1 q.2.2 h)) := by
      refine up_ind (fun k hk ih bi bq x5 hA => ?_)
      obtain ⟨a1, a2, a3, a4⟩ := id hA
      have hst := nr_step (W := wdK X (L * C)) (f := f) (k := k)
      obtain ⟨bb, hbb⟩ : ∃ bb, nrN (wdK X (L * C)) f (if k = 0 then 1 else k) = bb := ⟨_, rfl⟩
      have hfb := hfr bb
      refine w_iload dX9_likeliest_41 rfl ?_
      refine w_aload_n dX9_likeliest_43 rfl rfl ?_
      refine w_getf fX9_50 dX9_likeliest_44 o_o rfl ?_
      refine w_getf fX9_318 dX9_likeliest_47 AW0 rfl ?_
      rw [a2]
      refine w_icmp_ge 102 dX9_likeliest_50 (by decide) (by first | assumption | (unfold ok32 at *; omega)) (by first | assumption | (unfold ok32 at *; omega)) (fun hk2 => ?_) (fun hk2 => ?_)
      · have e : k = 2 ^ d := by omega
        rw [e, if_neg (by omega)]
        refine w_lload_n dX9_likeliest_102 rfl rfl ?_
        exact x_lret rfl dX9_likeliest_103 ⟨rfl, (y.1, bi, bq), trivial, rfl⟩
      · have hkl : k < 2 ^ d := by omega
        rw [hbb] at hst ⊢
        have hfw := hfr (wdK X (L * C) k)
        have nxt : ∀ v : BitVec 64, v = nrN (wdK X (L * C)) f (k + 1) → wp mX9_likeliest 89 [.ref o, .long (lB v), jk, .int (zI (f v)), .int (zI (k : Int)), .int (zI (f (wdK X (L * C) k)))] [] (AWH (o + 55) y.1 bi bq h) 0 0 (px (some (.long (lB (nrN (wdK X (L * C)) f (2 ^ d))))) (fun _ : (Nat → Nat → BitVec 64) × (Nat → Int) × (Nat → BitVec 64) => True) (fun q => AWH (o + 55) q.1 q.2.1 q.2.2 h)) := by
          intro v hv
          rw [hv]
          refine w_aload_n dX9_likeliest_89 rfl rfl ?_
          refine w_getf fX9_50 dX9_likeliest_90 o_o rfl ?_
          refine wx_Vv (Z := mX0_turn) (As := []) (htu y.1 bi bq k d hc hkl hA) AW0 rfl kX0_turn lX9_324 iX0_turn vX0_turn dX9_likeliest_93 rfl rfl rfl (Nat.le_of_ble_eq_true rfl) ⟨Nat.le_of_ble_eq_true rfl, Nat.le_of_ble_eq_true rfl⟩ (fun q hq => ?_)
          refine w_iinc (lv' := [_, _, _, _, _, _]) dX9_likeliest_96 rfl rfl rfl ?_
          refine w_goto 41 dX9_likeliest_99 (by decide) ?_
          have := ih hkl q.1 q.2 (.int (zI (f (wdK X (L * C) k)))) hq
          rw [if_neg (by omega)] at this
          push_cast at this
          exact this
        refine w_aload_n dX9_likeliest_53 rfl rfl ?_
        refine w_getf fX9_19 dX9_likeliest_54 o_o rfl ?_
        refine w_getf fX9_89 dX9_likeliest_57 o_h rfl ?_
        refine w_aload_n dX9_likeliest_60 rfl rfl ?_
        refine w_getf fX9_50 dX9_likeliest_61 o_o rfl ?_
        refine w_getf fX9_321 dX9_likeliest_64 AW0 rfl ?_
        rw [a3 hkl]
        refine wc_V (Z := mX8_costOf) (As := [_]) (hco (wdK X (L * C) k) y.1 bi bq) o_n rfl kX8_costOf lX9_311 iX8_costOf vX8_costOf dX9_likeliest_67 rfl rfl rfl (Nat.le_of_ble_eq_true rfl) ⟨Nat.le_of_ble_eq_true rfl, Nat.le_of_ble_eq_true rfl⟩ ?_
        refine w_istore (lv' := [_, _, _, _, _, _]) dX9_likeliest_70 (Nat.le_of_ble_eq_true rfl) rfl rfl ?_
        refine w_iload dX9_likeliest_72 rfl ?_
        refine w_iload_n dX9_likeliest_74 rfl rfl ?_
        refine w_icmp_ge 89 dX9_likeliest_75 (by decide) (by first | assumption | (unfold ok32 at *; omega)) (by first | assumption | (unfold ok32 at *; omega)) (fun h2 => ?_) (fun h2 => ?_)
        · exact nxt bb (by rw [hst, if_neg (by omega)])
        · refine w_iload dX9_likeliest_78 rfl ?_
          refine w_istore_n (lv' := [_, _, _, _, _, _]) dX9_likeliest_80 rfl (Nat.le_of_ble_eq_true rfl) rfl rfl ?_
          refine w_aload_n dX9_likeliest_81 rfl rfl ?_
          refine w_getf fX9_50 dX9_likeliest_82 o_o rfl ?_
          refine w_getf fX9_321 dX9_likeliest_85 AW0 rfl ?_
          rw [a3 hkl]
          refine w_lstore_n (lv' := [_, _, _, _, _, _]) dX9_likeliest_88 rfl (Nat.le_of_ble_eq_true rfl) rfl rfl ?_
          exact nxt _ (by rw [hst, if_pos (by omega)])
    have := key 0 (Nat.zero_le _) y.2.1 y.2.2 jk ⟨y1, y2, fun _ => by rw [y3, hw0], y4⟩
    rw [if_pos rfl, nr_s, if_pos (Or.inl rfl), hw0] at this
    exact this

