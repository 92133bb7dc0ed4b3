/-- a check's messages anew, the first columns -/
def smN (A B : Nat → Int) (L C c : Nat) : Nat → Nat → Int
  | 0 => B
  | j + 1 => if bitN (shA A) L c j = -1 then smN A B L C c j else u1 (smN A B L C c j) (144 + 8 * c + j) (nmV (okc (shA A) L c) (rho A L c) j C (A 6) (A 7))
/-- all checks' messages anew -/
def saN (A : Nat → Int) (L C : Nat) : Nat → Nat → Int
  | 0 => A
  | c + 1 => smN A (saN A L C c) L C c C
theorem smN_s {A B : Nat → Int} {L C c : Nat} (h : SmC A B) : ∀ {j : Nat}, SmC A (smN A B L C c j)
  | 0 => h
  | j + 1 => by
    unfold smN
    split
    · exact smN_s h
    · exact (smN_s h).put (by omega)
theorem smN_n {A B : Nat → Int} {L C c k : Nat} (hk : ¬ (144 + 8 * c ≤ k ∧ k < 152 + 8 * c)) (hC : C ≤ 8) : ∀ {j : Nat}, j ≤ C → smN A B L C c j k = B k
  | 0, _ => rfl
  | j + 1, hj => by
    unfold smN
    split
    · exact smN_n hk hC (by omega)
    · rw [u1_n (by omega)]; exact smN_n hk hC (by omega)
theorem smN_i {A B : Nat → Int} {L C c : Nat} (h7 : 1 ≤ A 7 ∧ A 7 ≤ 31) (hI : INV B) (hc : c < 24) (hC : C ≤ 8) : ∀ {j : Nat}, j ≤ C → INV (smN A B L C c j)
  | 0, _ => hI
  | j + 1, hj => by
    unfold smN
    split
    · exact smN_i h7 hI hc hC (by omega)
    · refine INV.put (smN_i h7 hI hc hC (by omega)) ?_
      rw [Nat.add_assoc, loM (by omega), hiM (by omega)]; exact nmV_rng h7
theorem saN_s {A : Nat → Int} {L C : Nat} : ∀ {c : Nat}, SmC A (saN A L C c)
  | 0 => SmC.rf
  | c + 1 => smN_s saN_s
theorem saN_n {A : Nat → Int} {L C k : Nat} (hC : C ≤ 8) : ∀ {c : Nat}, ¬ (144 ≤ k ∧ k < 144 + 8 * c) → saN A L C c k = A k
  | 0, _ => rfl
  | c + 1, hk => by
    unfold saN
    rw [smN_n (by omega) hC (Nat.le_refl _)]
    exact saN_n hC (by omega)
theorem saN_i {A : Nat → Int} {L C : Nat} (hI : INV A) (hC : C ≤ 8) : ∀ {c : Nat}, c ≤ 24 → INV (saN A L C c)
  | 0, _ => hI
  | c + 1, hc => smN_i (hI 7) (saN_i hI hC (by omega)) (by omega) hC (Nat.le_refl _)
theorem rho_same {A B : Nat → Int} {L R C c j : Nat} (hV : VC A L R C) (hs : SmC A B) (hc : c < L * R) (hj : j < C) (hb : ∀ b, b < 48 → B (96 + b) = A (96 + b)) (hm : B (144 + 8 * c + j) = A (144 + 8 * c + j)) : rho B L c j = rho A L c j := by
  obtain ⟨v1, v2, v3, v4, v5, v6, v7⟩ := id hV
  have hr := rowLt hc v4.1
  have hbn := bitN_le (sh := shA A) (L := L) (C := C) (c := c) (j := j) v4 hj v6.2 (v7 _ (by omega)).1
  unfold rho
  rw [hs.bit hV hc hj, hm, hb _ (by omega)]
/-- what a bit is told by all -/
def smB (A B : Nat → Int) (L b : Nat) : Nat → Int
  | 0 => B (48 + b)
  | c + 1 => if bitN (shA A) L c (b / L) = (b : Int) then smB A B L b c + B (144 + 8 * c + b / L) else smB A B L b c
theorem smB_rng {A B : Nat → Int} {L b : Nat} (hI : INV B) (hb : b < 48) (hL : b / L < 8) : ∀ {c : Nat}, c ≤ 24 → -31 - 31 * (c : Int) ≤ smB A B L b c ∧ smB A B L b c ≤ 31 + 31 * (c : Int)
  | 0, _ => by have := hI.he hb; unfold smB; omega
  | c + 1, hc => by
    have ih := smB_rng (A := A) hI hb hL (c := c) (by omega)
    have hm := hI.me (k := 8 * c + b / L) (by omega)
    rw [← Nat.add_assoc] at hm
    unfold smB
    split <;> omega
def stA (A : Nat → Int) (L R C : Nat) : Nat → Int := u1 (fillR (saN A L C (L * R)) 96 (L * C) (fun b => hld (smB A (saN A L C (L * R)) L b (L * R)) (-99) 99)) 10 (A 10 + 1)
set_option maxRecDepth 4000 in
theorem c_stepAll {r : Nat} {A : Nat → Int} {ia : Nat → Nat → Int} {la : Nat → Nat → BitVec 64} {fi : Nat → Int} {fl : Nat → BitVec 64} {h0 : HP} {L R C : Nat} (hI : INV A) (hV : VC A L R C) : sp mX10_stepAll [.ref r] (RH r A ia la fi fl h0) 0 0 (px none (fun _ : Nat → Int => True) (fun q => (RH r (stA A L R C) (u1 ia 5 q) la fi fl h0))) := by
  obtain ⟨v1, v2, v3, v4, v5, v6, v7⟩ := id hV
  have h6 : 0 ≤ A 6 ∧ A 6 ≤ 9 := hI 6
  have h7 : 1 ≤ A 7 ∧ A 7 ≤ 31 := hI 7
  have hLR := mulLe (a := L) (b := R) (x := 6) (y := 4) (by omega) (by omega)
  have hLC := mulLe (a := L) (b := C) (x := 6) (y := 8) (by omega) (by omega)
  have phase2 : ∀ q : Nat → Int, ∀ x2 : Value, prevOk [.ref r, jk, x2, jk] 2 = true → ∀ x1 : Value, wp mX10_stepAll 65 [.ref r, x1, x2, jk] [] (RH r (saN A L C (L * R)) (u1 ia 5 q) la fi fl h0) 0 0 (px none (fun _ : Nat → Int => True) (fun q => (RH r (stA A L R C) (u1 ia 5 q) la fi fl h0))) := by
    intro q x2 _ x1
    have hs : SmC A (saN A L C (L * R)) := saN_s
    have hI1 : INV (saN A L C (L * R)) := saN_i hI v6.2 hLR
    generalize hB : saN A L C (L * R) = B at hs hI1
    have e10 : B 10 = A 10 := by rw [← hB]; exact saN_n v6.2 (by omega)
    refine w_iconst dX10_stepAll_65 ?_
    refine w_istore_n (lv' := [_, _, _, _]) dX10_stepAll_66 rfl (Nat.le_of_ble_eq_true rfl) rfl rfl ?_
    suffices h2 : ∀ b, b ≤ L * C → ∀ x2 x3 : Value, wp mX10_stepAll 67 [.ref r, .int (zI (b : Int)), x2, x3] [] (RH r (fillR B 96 b (fun b => hld (smB A B L b (L * R)) (-99) 99)) (u1 ia 5 q) la fi fl h0) 0 0 (px none (fun _ : Nat → Int => True) (fun q => (RH r (stA A L R C) (u1 ia 5 q) la fi fl h0))) by
      have h3 := h2 0 (Nat.zero_le _) x2 jk
      rw [fillR_0] at h3
      exact h3
    refine up_ind (N := L * C) (fun b hb ih => ?_)
    intro x2 x3
    have hsF : SmC A (fillR B 96 b (fun b => hld (smB A B L b (L * R)) (-99) 99)) := fun k a1 a2 a3 a4 a5 a6 a7 => by rw [fillR_n (by omega)]; exact hs k a1 a2 a3 a4 a5 a6 a7
    have hVF := hsF.vc hV
    refine w_iload_n dX10_stepAll_67 rfl rfl ?_
    refine w_aload_n dX10_stepAll_68 rfl rfl ?_
    refine wc_V (Z := mX10_bits) (As := []) c_bits RH0 rfl kX10_bits lX10_66 iX10_bits vX10_bits dX10_stepAll_69 rfl rfl rfl (Nat.le_of_ble_eq_true rfl) ⟨Nat.le_of_ble_eq_true rfl, Nat.le_of_ble_eq_true rfl⟩ ?_
    rw [hVF.1, hVF.2.2.1]
    refine w_icmp_ge 153 dX10_stepAll_72 (by decide) (by unfold ok32; omega) (by unfold ok32; omega) (fun hn => ?_) (fun hn => ?_)
    · have eb : b = L * C := by omega
      subst eb
      refine w_aload_n dX10_stepAll_153 rfl rfl ?_
      refine w_getf fX10_7 dX10_stepAll_154 RH0 rfl ?_
      refine w_bipush dX10_stepAll_157 (by decide) ?_
      refine w_dup2 dX10_stepAll_159 rfl rfl ?_
      refine w_iald 10 RH1 rfl (by decide) (by decide) dX10_stepAll_160 ?_
      refine w_iconst dX10_stepAll_161 ?_
      refine w_iadd dX10_stepAll_162 ?_
      refine r_ist1K 10 rfl (by decide) dX10_stepAll_163 ?_
      refine x_vret rfl dX10_stepAll_164 ⟨rfl, q, trivial, ?_⟩
      rw [stA, fillR_n (by omega), e10, hB]
    · have hj := rowLt (show b < L * C by omega) v4.1
      refine w_aload_n dX10_stepAll_75 rfl rfl ?_
      refine w_getf fX10_7 dX10_stepAll_76 RH0 rfl ?_
      refine w_bipush dX10_stepAll_79 (by decide) ?_
      refine w_iload_n dX10_stepAll_81 rfl rfl ?_
      refine w_iadd dX10_stepAll_82 ?_
      refine w_iald (48 + b) RH1 (by omega) (by omega) (by decide) dX10_stepAll_83 ?_
      rw [fillR_n (by omega)]
      refine w_istore_n (lv' := [_, _, _, _]) dX10_stepAll_84 rfl (Nat.le_of_ble_eq_true rfl) rfl rfl ?_
      refine w_iconst dX10_stepAll_85 ?_
      refine w_istore_n (lv' := [_, _, _, _]) dX10_stepAll_86 rfl (Nat.le_of_ble_eq_true rfl) rfl rfl ?_
      refine up_ind (N := L * R) (P := fun c => wp mX10_stepAll 87 [.ref r, .int (zI (b : Int)), .int (zI (smB A B L b c)), .int (zI (c : Int))] [] (RH r (fillR B 96 b (fun b => hld (smB A B L b (L * R)) (-99) 99)) (u1 ia 5 q) la fi fl h0) 0 0 (px none (fun _ : Nat → Int => True) (fun q => (RH r (stA A L R C) (u1 ia 5 q) la fi fl h0)))) (fun c hc ih2 => ?_) 0 (Nat.zero_le _)
      have hsr := smB_rng (A := A) (L := L) hI1 (show b < 48 by omega) (by omega) (c := c) (by omega)
      refine w_iload_n dX10_stepAll_87 rfl rfl ?_
      refine w_aload_n dX10_stepAll_88 rfl rfl ?_
      refine wc_V (Z := mX10_checks) (As := []) c_checks RH0 rfl kX10_checks lX10_74 iX10_checks vX10_checks dX10_stepAll_89 rfl rfl rfl (Nat.le_of_ble_eq_true rfl) ⟨Nat.le_of_ble_eq_true rfl, Nat.le_of_ble_eq_true rfl⟩ ?_
      rw [hVF.1, hVF.2.1]
      refine w_icmp_ge 130 dX10_stepAll_92 (by decide) (by unfold ok32; omega) (by unfold ok32; omega) (fun hm => ?_) (fun hm => ?_)
      · have ec : c = L * R := by omega
        subst ec
        refine w_aload_n dX10_stepAll_130 rfl rfl ?_
        refine w_getf fX10_7 dX10_stepAll_131 RH0 rfl ?_
        refine w_bipush dX10_stepAll_134 (by decide) ?_
        refine w_iload_n dX10_stepAll_136 rfl rfl ?_
        refine w_iadd dX10_stepAll_137 ?_
        refine w_iload_n dX10_stepAll_138 rfl rfl ?_
        refine w_bipush dX10_stepAll_139 (by decide) ?_
        refine w_bipush dX10_stepAll_141 (by decide) ?_
        refine wc_S (Z := mX10_held) (As := [_, _, _]) (c_held (by unfold ok32; omega) (by unfold ok32; omega) (by unfold ok32; omega)) kX10_held lX10_169 sX10_held dX10_stepAll_143 rfl rfl rfl (Nat.le_of_ble_eq_true rfl) ⟨Nat.le_of_ble_eq_true rfl, Nat.le_of_ble_eq_true rfl⟩ ?_
        refine r_ist1K (96 + b) (by omega) (by omega) dX10_stepAll_146 ?_
        rw [fillR_s rfl]
        refine w_iinc (lv' := [_, _, _, _]) dX10_stepAll_147 rfl rfl rfl ?_
        refine w_goto 67 dX10_stepAll_150 (by decide) ?_
        exact ih (by omega) _ _
      · refine w_aload_n dX10_stepAll_95 rfl rfl ?_
        refine w_iload_n dX10_stepAll_96 rfl rfl ?_
        refine w_iload_n dX10_stepAll_97 rfl rfl ?_
        refine wc_V (Z := mX10_hasBit) (As := [_, _]) (c_hasBit hVF (by omega) (by omega)) RH0 rfl kX10_hasBit lX10_184 iX10_hasBit vX10_hasBit dX10_stepAll_98 rfl rfl rfl (Nat.le_of_ble_eq_true rfl) ⟨Nat.le_of_ble_eq_true rfl, Nat.le_of_ble_eq_true rfl⟩ ?_
        rw [show (bI (bitN (shA (fillR B 96 b (fun b => hld (smB A B L b (L * R)) (-99) 99))) L c (b / L) = (b : Int))) = bI (bitN (shA A) L c (b / L) = (b : Int)) by rw [hsF.bit hV (by omega) hj]]
        refine w_ifb_eq 124 dX10_stepAll_101 (by decide) (fun hb1 => ?_) (fun hb1 => ?_)
        · refine w_iinc (lv' := [_, _, _, _]) dX10_stepAll_124 rfl rfl rfl ?_
          refine w_goto 87 dX10_stepAll_127 (by decide) ?_
          refine w_cast ?_ rfl rfl (ih2 (by omega))
          rw [smB, if_neg hb1]
          rfl
        · refine w_iload_n dX10_stepAll_104 rfl rfl ?_
          refine w_aload_n dX10_stepAll_105 rfl rfl ?_
          refine w_getf fX10_7 dX10_stepAll_106 RH0 rfl ?_
          refine w_iload_n dX10_stepAll_109 rfl rfl ?_
          refine w_iload_n dX10_stepAll_110 rfl rfl ?_
          refine w_aload_n dX10_stepAll_111 rfl rfl ?_
          refine w_getf fX10_7 dX10_stepAll_112 RH0 rfl ?_
          refine w_iconst dX10_stepAll_115 ?_
          refine w_iald 3 RH1 rfl (by decide) (by decide) dX10_stepAll_116 ?_
          rw [hVF.1]
          refine w_idiv dX10_stepAll_117 (by unfold ok32; omega) (by omega) (by omega) (by unfold ok32; omega) ?_
          refine wc_S (Z := mX10_messageAt) (As := [_, _]) (c_messageAt (b := ((b / L : Nat) : Int))) kX10_messageAt lX10_163 sX10_messageAt dX10_stepAll_118 rfl rfl rfl (Nat.le_of_ble_eq_true rfl) ⟨Nat.le_of_ble_eq_true rfl, Nat.le_of_ble_eq_true rfl⟩ ?_
          refine w_iald (144 + 8 * c + b / L) RH1 (by push_cast; omega) (by omega) (by decide) dX10_stepAll_121 ?_
          rw [fillR_n (fun hh => by have h1 : 144 ≤ 144 + 8 * c + b / L := Nat.le_trans (Nat.le_add_right 144 (8 * c)) (Nat.le_add_right _ _); omega)]
          refine w_iadd dX10_stepAll_122 ?_
          refine w_istore_n (lv' := [_, _, _, _]) dX10_stepAll_123 rfl (Nat.le_of_ble_eq_true rfl) rfl rfl ?_
          refine w_iinc (lv' := [_, _, _, _]) dX10_stepAll_124 rfl rfl rfl ?_
          refine w_goto 87 dX10_stepAll_127 (by decide) ?_
          refine w_cast ?_ rfl rfl (ih2 (by omega))
          rw [smB, if_pos hb1]
          rfl
  refine sp_wp rfl (lv := [_, _, _, _]) rfl (Nat.le_of_ble_eq_true rfl) ?_
  refine w_iconst dX10_stepAll_0 ?_
  refine w_istore_n (lv' := [_, _, _, _]) dX10_stepAll_1 rfl (Nat.le_of_ble_eq_true rfl) rfl rfl ?_
  have key : ∀ c, c ≤ L * R → ∀ q : Nat → Int, ∀ x2 : Value, prevOk [.ref r, jk, x2, jk] 2 = true → wp mX10_stepAll 2 [.ref r, .int (zI (c : Int)), x2, jk] [] (RH r (saN A L C c) (u1 ia 5 q) la fi fl h0) 0 0 (px none (fun _ : Nat → Int => True) (fun q => (RH r (stA A L R C) (u1 ia 5 q) la fi fl h0))) := by
    refine up_ind (N := L * R) (fun c hc ih => ?_)
    intro q x2 hx2
    have hs : SmC A (saN A L C c) := saN_s
    have hI1 : INV (saN A L C c) := saN_i hI v6.2 (by omega)
    have hV1 := hs.vc hV
    refine w_iload_n dX10_stepAll_2 rfl rfl ?_
    refine w_aload_n dX10_stepAll_3 rfl rfl ?_
    refine wc_V (Z := mX10_checks) (As := []) c_checks RH0 rfl kX10_checks lX10_74 iX10_checks vX10_checks dX10_stepAll_4 rfl rfl rfl (Nat.le_of_ble_eq_true rfl) ⟨Nat.le_of_ble_eq_true rfl, Nat.le_of_ble_eq_true rfl⟩ ?_
    rw [hV1.1, hV1.2.1]
    refine w_icmp_ge 65 dX10_stepAll_7 (by decide) (by unfold ok32; omega) (by unfold ok32; omega) (fun hn => ?_) (fun hn => ?_)
    · rw [show c = L * R by omega]
      exact phase2 q x2 hx2 _
    · have hcl : c < L * R := by omega
      have hrho : ∀ j, j < C → rho (saN A L C c) L c j = rho A L c j := fun j hj => rho_same hV hs hcl hj (fun b hb => saN_n v6.2 (by omega)) (saN_n v6.2 (by omega))
      refine w_aload_n dX10_stepAll_10 rfl rfl ?_
      refine w_iload_n dX10_stepAll_11 rfl rfl ?_
      refine wx_Vv (Z := mX10_layRests) (As := [_]) (c_layRests hV1 hcl) RH0 rfl kX10_layRests lX10_172 iX10_layRests vX10_layRests dX10_stepAll_12 rfl rfl rfl (Nat.le_of_ble_eq_true rfl) ⟨Nat.le_of_ble_eq_true rfl, Nat.le_of_ble_eq_true rfl⟩ (fun q2 hq2 => ?_)
      rw [u1_u1]
      refine w_iconst dX10_stepAll_15 ?_
      refine w_istore_n (lv' := [_, _, _, _]) dX10_stepAll_16 rfl (Nat.le_of_ble_eq_true rfl) rfl rfl ?_
      have hq3 : ∀ k, k < C → okc (shA A) L c k = true → (u1 ia 5 q2) 5 k = rho A L c k := fun k hk ho => by
        rw [u1_s, hq2 k hk (by rw [hs.bit hV hcl hk]; simpa [okc] using ho), hrho k hk]
      have hr3 : ∀ k, k < C → okc (shA A) L c k = true → -130 ≤ rho A L c k ∧ rho A L c k ≤ 130 := fun k hk ho => rho_rng hV hI.bel hcl hk (by simpa [okc] using ho)
      refine up_ind (N := C) (P := fun j => wp mX10_stepAll 17 [.ref r, .int (zI (c : Int)), .int (zI (j : Int)), jk] [] (RH r (smN A (saN A L C c) L C c j) (u1 ia 5 q2) la fi fl h0) 0 0 (px none (fun _ : Nat → Int => True) (fun q => (RH r (stA A L R C) (u1 ia 5 q) la fi fl h0)))) (fun j hj ih2 => ?_) 0 (Nat.zero_le _)
      have hs2 : SmC A (smN A (saN A L C c) L C c j) := smN_s hs
      have hV2 := hs2.vc hV
      refine w_iload_n dX10_stepAll_17 rfl rfl ?_
      refine w_aload_n dX10_stepAll_18 rfl rfl ?_
      refine w_getf fX10_7 dX10_stepAll_19 RH0 rfl ?_
      refine w_iconst dX10_stepAll_22 ?_
      refine w_iald 5 RH1 rfl (by decide) (by decide) dX10_stepAll_23 ?_
      rw [hV2.2.2.1]
      refine w_icmp_ge 59 dX10_stepAll_24 (by decide) (by unfold ok32; omega) (by unfold ok32; omega) (fun hm => ?_) (fun hm => ?_)
      · refine w_iinc (lv' := [_, _, _, _]) dX10_stepAll_59 rfl rfl rfl ?_
        refine w_goto 2 dX10_stepAll_62 (by decide) ?_
        have ej : j = C := by omega
        subst ej
        exact ih hcl q2 _ rfl
      · have hb := bitN_le (sh := shA A) (L := L) (C := C) (c := c) (j := j) v4 (by omega) v6.2 (v7 _ (by have := rowLt hcl v4.1; omega)).1
        refine w_aload_n dX10_stepAll_27 rfl rfl ?_
        refine w_iload_n dX10_stepAll_28 rfl rfl ?_
        refine w_iload_n dX10_stepAll_29 rfl rfl ?_
        refine wc_V (Z := mX10_bitOf) (As := [_, _]) (c_bitOf_s hV hs2 hcl (by omega)) RH0 rfl kX10_bitOf lX10_77 iX10_bitOf vX10_bitOf dX10_stepAll_30 rfl rfl rfl (Nat.le_of_ble_eq_true rfl) ⟨Nat.le_of_ble_eq_true rfl, Nat.le_of_ble_eq_true rfl⟩ ?_
        refine w_iconst dX10_stepAll_33 ?_
        refine w_icmp_eq 53 dX10_stepAll_34 (by decide) (by unfold ok32; omega) (by unfold ok32; omega) (fun hbt => ?_) (fun hbt => ?_)
        · refine w_iinc (lv' := [_, _, _, _]) dX10_stepAll_53 rfl rfl rfl ?_
          refine w_goto 17 dX10_stepAll_56 (by decide) ?_
          refine w_cast rfl rfl ?_ (ih2 (by omega))
          rw [smN, if_pos hbt]
        · refine w_aload_n dX10_stepAll_37 rfl rfl ?_
          refine w_getf fX10_7 dX10_stepAll_38 RH0 rfl ?_
          refine w_iload_n dX10_stepAll_41 rfl rfl ?_
          refine w_iload_n dX10_stepAll_42 rfl rfl ?_
          refine wc_S (Z := mX10_messageAt) (As := [_, _]) c_messageAt kX10_messageAt lX10_163 sX10_messageAt dX10_stepAll_43 rfl rfl rfl (Nat.le_of_ble_eq_true rfl) ⟨Nat.le_of_ble_eq_true rfl, Nat.le_of_ble_eq_true rfl⟩ ?_
          refine w_aload_n dX10_stepAll_46 rfl rfl ?_
          refine w_iload_n dX10_stepAll_47 rfl rfl ?_
          refine w_iload_n dX10_stepAll_48 rfl rfl ?_
          refine wc_V (Z := mX10_newMessage) (As := [_, _]) (c_newMessage_s hV hs2 hcl (by omega) h6 h7 hq3 hr3) RH0 rfl kX10_newMessage lX10_175 iX10_newMessage vX10_newMessage dX10_stepAll_49 rfl rfl rfl (Nat.le_of_ble_eq_true rfl) ⟨Nat.le_of_ble_eq_true rfl, Nat.le_of_ble_eq_true rfl⟩ ?_
          refine r_ist1K (144 + 8 * c + j) (by omega) (by omega) dX10_stepAll_52 ?_
          refine w_iinc (lv' := [_, _, _, _]) dX10_stepAll_53 rfl rfl rfl ?_
          refine w_goto 17 dX10_stepAll_56 (by decide) ?_
          refine w_cast rfl rfl ?_ (ih2 (by omega))
          rw [smN, if_neg hbt]
  have h2 := key 0 (Nat.zero_le _) (ia 5) jk rfl
  rw [u1_id] at h2
  exact h2

