/-! the census: sums of what is picked ahead -/
def pod (M : Nat → BitVec 32) (p : Nat → Nat) : Nat → BitVec 32
  | 0 => 0#32
  | k + 1 => pod M p k ^^^ M (p k)
def psm (M : Nat → BitVec 32) (p : Nat → Nat) : Nat → BitVec 32
  | 0 => 0#32
  | k + 1 => psm M p k ||| M (p k)
def outC (a : Nat) : Nat → Prop := fun x => ¬ (x = a ∨ (a + 8 ≤ x ∧ x ≤ a + 11))
theorem zB (v : BitVec 32) : zI v.toInt = iB v := zI_of (iB v)
theorem iBz (v : BitVec 32) : iB v = zI v.toInt := (zB v).symm
theorem c1_firstLast {a : Nat} {ba : Nat → Nat → Int} {bi : Nat → Int} {bf : Nat → Nat} {h0 : HP} {k : Nat} {p : Nat → Nat} (hk : k ≤ 3) (h7 : bi 7 = (k : Int)) (hp : ∀ i, i < k → ba 9 i = (p i : Int)) : sp mX1_firstLast [.ref a] (CUH a ba bi bf h0) 0 0 (pd (some (.int (zI ((if k = 0 then 0 else p (k - 1) + 1 : Nat) : Int)))) (CUH a ba bi bf h0)) := by
  refine sp_wp rfl (lv := [_]) rfl (Nat.le_of_ble_eq_true rfl) ?_
  refine w_aload_n dX1_firstLast_0 rfl rfl ?_
  refine w_getf fX1_50 dX1_firstLast_1 CU0 rfl ?_
  rw [h7]
  refine w_if_ne 11 dX1_firstLast_4 (by decide) (by first | assumption | (unfold ok32 at *; omega)) (fun hc => ?_) (fun hc => ?_)
  · rw [if_neg (by omega)]
    refine w_aload_n dX1_firstLast_11 rfl rfl ?_
    refine w_getf fX1_26 dX1_firstLast_12 CU0 rfl ?_
    refine w_aload_n dX1_firstLast_15 rfl rfl ?_
    refine w_getf fX1_50 dX1_firstLast_16 CU0 rfl ?_
    rw [h7]
    refine w_iconst dX1_firstLast_19 ?_
    refine w_isub dX1_firstLast_20 ?_
    refine w_iald (k - 1) CU9 (by omega) (by omega) (by decide) dX1_firstLast_21 ?_
    rw [hp (k - 1) (by omega)]
    refine w_iconst dX1_firstLast_22 ?_
    refine w_iadd dX1_firstLast_23 ?_
    refine x_iret rfl rfl dX1_firstLast_24 ⟨?_, rfl⟩
    push_cast
    rfl
  · rw [if_pos (by omega)]
    refine w_iconst dX1_firstLast_7 ?_
    refine w_goto 24 dX1_firstLast_8 (by decide) ?_
    exact x_iret rfl rfl dX1_firstLast_24 ⟨rfl, rfl⟩
def SUMS (M : Nat → BitVec 32) (p : Nat → Nat) (n : Nat) (g : Nat → Nat → Int) : Prop := ∀ i, i ≤ n → g 10 i = (pod M p i).toInt ∧ g 11 i = (psm M p i).toInt
set_option maxRecDepth 8000 in
theorem c1_refresh {a c : Nat} {ba : Nat → Nat → Int} {bi : Nat → Int} {bf : Nat → Nat} {h0 : HP} {B : Nat → Int} {L R C k j : Nat} {p : Nat → Nat} (hC : CDQ (outC a) h0 c B L R C) (hb : bf 0 = c) (hk : k ≤ 3) (h7 : bi 7 = (k : Int)) (hj : j ≤ k) (hp : ∀ i, i < k → ba 9 i = (p i : Int) ∧ p i < L * C) (hs : SUMS (fun b => hgB (cs B L C) b (L * R)) p j ba) : sp mX1_refresh [.ref a, .int (zI (j : Int))] (CUH a ba bi bf h0) 0 0 (px none (fun g : Nat → Nat → Int => g 8 = ba 8 ∧ g 9 = ba 9 ∧ SUMS (fun b => hgB (cs B L C) b (L * R)) p k g) (fun g => CUH a g bi bf h0)) := by
  obtain ⟨ad, f7, f8, f10, f9, f11, rk, cr, hV, h6, h7', o_c0, r70, r80, r90, r100, r110, e7, e8, e9, e10, hRD, p0, p7, p8, p9, p10, p11⟩ := id hC
  obtain ⟨v1, v2, v3, v4, v5, v6, v7⟩ := id hV
  have hLC := mulLe (a := L) (b := C) (x := 6) (y := 8) (by omega) (by omega)
  have o_c : ∀ {g : Nat → Nat → Int}, (CUH a g bi bf h0).2 c = some (.inr (2, cfs L R C (B 6) (B 7) ad rk cr)) := CUo p0 o_c0
  have r_10 : ∀ {g : Nat → Nat → Int}, (CUH a g bi bf h0).2 (ad 10) = some (aI 48 f10) := CUo p10 r100
  obtain ⟨M, hM⟩ : ∃ M, (fun b => hgB (cs B L C) b (L * R)) = M := ⟨_, rfl⟩
  have e10' : ∀ b, b < L * C → f10 b = (M b).toInt := fun b hb => by rw [← hM]; exact e10 b hb
  rw [hM] at hs ⊢
  refine sp_wp rfl (lv := [_, _, _, _]) rfl (Nat.le_of_ble_eq_true rfl) ?_
  have lp : ∀ i, i ≤ k → j ≤ i → ∀ (g : Nat → Nat → Int) (x3 : Value), g 8 = ba 8 → g 9 = ba 9 → SUMS M p i g → wp mX1_refresh 2 [.ref a, .int (zI (j : Int)), .int (zI (i : Int)), x3] [] (CUH a g bi bf h0) 0 0 (px none (fun g : Nat → Nat → Int => g 8 = ba 8 ∧ g 9 = ba 9 ∧ SUMS M p k g) (fun g => CUH a g bi bf h0)) := by
    refine up_ind (P := fun i => j ≤ i → ∀ (g : Nat → Nat → Int) (x3 : Value), g 8 = ba 8 → g 9 = ba 9 → SUMS M p i g → wp mX1_refresh 2 [.ref a, .int (zI (j : Int)), .int (zI (i : Int)), x3] [] (CUH a g bi bf h0) 0 0 (px none (fun g : Nat → Nat → Int => g 8 = ba 8 ∧ g 9 = ba 9 ∧ SUMS M p k g) (fun g => CUH a g bi bf h0))) (fun i hi ih hji g x3 g8 g9 hg => ?_)
    refine w_iload_n dX1_refresh_2 rfl rfl ?_
    refine w_aload_n dX1_refresh_3 rfl rfl ?_
    refine w_getf fX1_50 dX1_refresh_4 CU0 rfl ?_
    rw [h7]
    refine w_icmp_ge 63 dX1_refresh_7 (by decide) (by first | assumption | (unfold ok32 at *; omega)) (by first | assumption | (unfold ok32 at *; omega)) (fun hc => ?_) (fun hc => ?_)
    · have : i = k := by omega
      subst this
      exact x_vret rfl dX1_refresh_63 ⟨rfl, g, ⟨g8, g9, hg⟩, rfl⟩
    · have hik : i < k := by omega
      obtain ⟨q1, q2⟩ := hp i hik
      refine w_aload_n dX1_refresh_10 rfl rfl ?_
      refine w_getf fX1_35 dX1_refresh_11 CU0 rfl ?_
      rw [hb]
      refine w_getf fX1_78 dX1_refresh_14 o_c rfl ?_
      refine w_aload_n dX1_refresh_17 rfl rfl ?_
      refine w_getf fX1_26 dX1_refresh_18 CU0 rfl ?_
      refine w_iload_n dX1_refresh_21 rfl rfl ?_
      refine w_iald i CU9 rfl (by omega) (by decide) dX1_refresh_22 ?_
      rw [g9, q1]
      refine w_iald (p i) r_10 rfl (by omega) (by decide) dX1_refresh_23 ?_
      rw [e10' (p i) q2, zB]
      refine w_istore_n (lv' := [_, _, _, _]) dX1_refresh_24 rfl (Nat.le_of_ble_eq_true rfl) rfl rfl ?_
      refine w_aload_n dX1_refresh_25 rfl rfl ?_
      refine w_getf fX1_29 dX1_refresh_26 CU0 rfl ?_
      refine w_iload_n dX1_refresh_29 rfl rfl ?_
      refine w_iconst dX1_refresh_30 ?_
      refine w_iadd dX1_refresh_31 ?_
      refine w_aload_n dX1_refresh_32 rfl rfl ?_
      refine w_getf fX1_29 dX1_refresh_33 CU0 rfl ?_
      refine w_iload_n dX1_refresh_36 rfl rfl ?_
      refine w_iald i CU10 rfl (by omega) (by decide) dX1_refresh_37 ?_
      rw [(hg i (Nat.le_refl _)).1, zB]
      refine w_iload_n dX1_refresh_38 rfl rfl ?_
      refine w_ixorR dX1_refresh_39 ?_
      rw [iB_xor, iBz (pod M p i ^^^ M (p i))]
      refine cu_ist10 (i + 1) (by omega) (by omega) dX1_refresh_40 ?_
      refine w_aload_n dX1_refresh_41 rfl rfl ?_
      refine w_getf fX1_32 dX1_refresh_42 CU0 rfl ?_
      refine w_iload_n dX1_refresh_45 rfl rfl ?_
      refine w_iconst dX1_refresh_46 ?_
      refine w_iadd dX1_refresh_47 ?_
      refine w_aload_n dX1_refresh_48 rfl rfl ?_
      refine w_getf fX1_32 dX1_refresh_49 CU0 rfl ?_
      refine w_iload_n dX1_refresh_52 rfl rfl ?_
      refine w_iald i CU11 rfl (by omega) (by decide) dX1_refresh_53 ?_
      rw [u1_n (show (11 : Nat) ≠ 10 by decide), (hg i (Nat.le_refl _)).2, zB]
      refine w_iload_n dX1_refresh_54 rfl rfl ?_
      refine w_iorR dX1_refresh_55 ?_
      rw [iB_or, iBz (psm M p i ||| M (p i))]
      refine cu_ist11 (i + 1) (by omega) (by omega) dX1_refresh_56 ?_
      refine w_iinc (lv' := [_, _, _, _]) dX1_refresh_57 rfl rfl rfl ?_
      refine w_goto 2 dX1_refresh_60 (by decide) ?_
      have := ih hik (by omega) (u1 (u1 g 10 (u1 (g 10) (i + 1) (pod M p i ^^^ M (p i)).toInt)) 11 (u1 (g 11) (i + 1) (psm M p i ||| M (p i)).toInt)) (.int (iB (M (p i)))) g8 g9 (fun d hd => by
        by_cases hdi : d = i + 1
        · subst hdi
          exact ⟨u1_s, u1_s⟩
        · have := hg d (by omega)
          refine ⟨?_, ?_⟩
          · show u1 (g 10) (i + 1) _ d = _
            rw [u1_n hdi]; exact this.1
          · show u1 (g 11) (i + 1) _ d = _
            rw [u1_n hdi]; exact this.2)
      push_cast at this
      exact this
  refine w_iload_n dX1_refresh_0 rfl rfl ?_
  refine w_istore_n (lv' := [_, _, _, _]) dX1_refresh_1 rfl (Nat.le_of_ble_eq_true rfl) rfl rfl ?_
  exact lp j hj (Nat.le_refl _) ba jk rfl rfl hs

