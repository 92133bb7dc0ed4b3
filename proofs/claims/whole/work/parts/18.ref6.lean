/-- the same code -/
def SmC (A A' : Nat → Int) : Prop := ∀ k, k < 46 → k ≠ 8 → k ≠ 9 → k ≠ 10 → k ≠ 11 → k ≠ 12 → k ≠ 13 → A' k = A k
theorem SmC.rf {A : Nat → Int} : SmC A A := fun _ _ _ _ _ _ _ _ => rfl
theorem SmC.tr {A B D : Nat → Int} (h : SmC A B) (h2 : SmC B D) : SmC A D := fun k a b c d e f g => (h2 k a b c d e f g).trans (h k a b c d e f g)
theorem SmC.put {A A' : Nat → Int} {i : Nat} {v : Int} (h : SmC A A') (hi : 46 ≤ i ∨ (8 ≤ i ∧ i ≤ 13)) : SmC A (u1 A' i v) := fun k a b c d e f g => by rw [u1_n (by omega)]; exact h k a b c d e f g
theorem SmC.vc {A A' : Nat → Int} {L R C : Nat} (h : SmC A A') (hV : VC A L R C) : VC A' L R C := by
  obtain ⟨v1, v2, v3, v4, v5, v6, v7⟩ := hV
  exact ⟨by rw [h 3 (by omega) (by omega) (by omega) (by omega) (by omega) (by omega) (by omega)]; exact v1, by rw [h 4 (by omega) (by omega) (by omega) (by omega) (by omega) (by omega) (by omega)]; exact v2, by rw [h 5 (by omega) (by omega) (by omega) (by omega) (by omega) (by omega) (by omega)]; exact v3, v4, v5, v6, fun k hk => by rw [h (14 + k) (by omega) (by omega) (by omega) (by omega) (by omega) (by omega) (by omega)]; exact v7 k hk⟩
theorem SmC.bit {A A' : Nat → Int} {L R C c j : Nat} (h : SmC A A') (hV : VC A L R C) (hc : c < L * R) (hj : j < C) : bitN (shA A') L c j = bitN (shA A) L c j := by
  obtain ⟨v1, v2, v3, v4, v5, v6, v7⟩ := hV
  have hr := rowLt hc v4.1
  exact bitN_sh (h _ (by omega) (by omega) (by omega) (by omega) (by omega) (by omega) (by omega))
theorem SmC.cs {A A' : Nat → Int} {L R C c : Nat} (h : SmC A A') (hV : VC A L R C) (hc : c < L * R) : cs A' L C c = cs A L C c := by
  obtain ⟨v1, v2, v3, v4, v5, v6, v7⟩ := hV
  have hr := rowLt hc v4.1
  exact csetN_sh fun j hj => h _ (by omega) (by omega) (by omega) (by omega) (by omega) (by omega) (by omega)
theorem c_bitOf_s {r : Nat} {A : Nat → Int} {ia : Nat → Nat → Int} {la : Nat → Nat → BitVec 64} {fi : Nat → Int} {fl : Nat → BitVec 64} {h0 : HP} {B : Nat → Int} {L R C c j : Nat} (hV : VC B L R C) (hs : SmC B A) (hc : c < L * R) (hj : j < C) : sp mX10_bitOf [.ref r, .int (zI (c : Int)), .int (zI (j : Int))] (RH r A ia la fi fl h0) 0 0 (pd (some (.int (zI (bitN (shA B) L c j)))) (RH r A ia la fi fl h0)) := by
  have h := c_bitOf (r := r) (A := A) (ia := ia) (la := la) (fi := fi) (fl := fl) (h0 := h0) (hs.vc hV) hc hj
  rwa [hs.bit hV hc hj] at h
theorem nmS_c {ok ok' : Nat → Bool} {q : Nat → Int} {j : Nat} : ∀ {k : Nat}, (∀ i, i < k → ok i = ok' i) → nmS ok q j k = nmS ok' q j k
  | 0, _ => rfl
  | k + 1, h => by
    unfold nmS
    rw [nmS_c (k := k) (fun i hi => h i (by omega)), h k (by omega)]
theorem nmV_c {ok ok' : Nat → Bool} {q : Nat → Int} {j C : Nat} {o m : Int} (h : ∀ i, i < C → ok i = ok' i) : nmV ok q j C o m = nmV ok' q j C o m := by
  unfold nmV
  rw [nmS_c h]
theorem c_newMessage_s {r : Nat} {A : Nat → Int} {ia : Nat → Nat → Int} {la : Nat → Nat → BitVec 64} {fi : Nat → Int} {fl : Nat → BitVec 64} {h0 : HP} {B : Nat → Int} {L R C c j : Nat} {q : Nat → Int} (hV : VC B L R C) (hs : SmC B A) (hc : c < L * R) (hj : j < C) (h6 : 0 ≤ B 6 ∧ B 6 ≤ 9) (h7 : 1 ≤ B 7 ∧ B 7 ≤ 31) (hq : ∀ k, k < C → okc (shA B) L c k = true → ia 5 k = q k) (hr0 : ∀ k, k < C → okc (shA B) L c k = true → -130 ≤ q k ∧ q k ≤ 130) : sp mX10_newMessage [.ref r, .int (zI (c : Int)), .int (zI (j : Int))] (RH r A ia la fi fl h0) 0 0 (pd (some (.int (zI (nmV (okc (shA B) L c) q j C (B 6) (B 7))))) (RH r A ia la fi fl h0)) := by
  have e6 := hs 6 (by omega) (by omega) (by omega) (by omega) (by omega) (by omega) (by omega)
  have e7 := hs 7 (by omega) (by omega) (by omega) (by omega) (by omega) (by omega) (by omega)
  have eo : ∀ k, k < C → okc (shA A) L c k = okc (shA B) L c k := fun k hk => by unfold okc; rw [hs.bit hV hc hk]
  have h := c_newMessage (r := r) (A := A) (ia := ia) (la := la) (fi := fi) (fl := fl) (h0 := h0) (q := q) (hs.vc hV) hc hj (by rw [e6]; exact h6) (by rw [e7]; exact h7) (fun k hk ho => hq k hk (by rw [← eo k hk]; exact ho)) (fun k hk ho => hr0 k hk (by rw [← eo k hk]; exact ho))
  rwa [e6, e7, nmV_c eo] at h
/-- a check's messages and its bits' beliefs mended, the first columns -/
def mdN (A : Nat → Int) (L C c : Nat) : Nat → Nat → Int
  | 0 => A
  | j + 1 => if bitN (shA A) L c j = -1 then mdN A L C c j else u1 (u1 (mdN A L C c j) (144 + 8 * c + j) (nmV (okc (shA A) L c) (rho A L c) j C (A 6) (A 7))) (96 + (bitN (shA A) L c j).toNat) (hld (rho A L c j + (nmV (okc (shA A) L c) (rho A L c) j C (A 6) (A 7))) (-99) 99)
theorem INV.bel {A : Nat → Int} (h : INV A) : BEL A := ⟨fun _ hb => h.be hb, fun _ hk => h.me hk⟩
theorem loM {k : Nat} (hk : k < 192) : loA (144 + k) = -31 := by unfold loA; (repeat' split) <;> omega
theorem hiM {k : Nat} (hk : k < 192) : hiA (144 + k) = 31 := by unfold hiA; (repeat' split) <;> omega
theorem loB {k : Nat} (hk : k < 48) : loA (96 + k) = -99 := by unfold loA; (repeat' split) <;> omega
theorem hiB {k : Nat} (hk : k < 48) : hiA (96 + k) = 99 := by unfold hiA; (repeat' split) <;> omega
theorem mdN_s {A : Nat → Int} {L C c : Nat} : ∀ {j : Nat}, SmC A (mdN A L C c j)
  | 0 => SmC.rf
  | j + 1 => by
    unfold mdN
    split
    · exact mdN_s
    · exact (mdN_s.put (by omega)).put (by omega)
theorem mdN_n {A : Nat → Int} {L C c k : Nat} (hk : k < 96 ∨ 336 ≤ k) (hc : c < 24) (hC : C ≤ 8) : ∀ {j : Nat}, (∀ i, i < j → bitN (shA A) L c i < 48) → j ≤ C → mdN A L C c j k = A k
  | 0, _, _ => rfl
  | j + 1, h, hj => by
    have hb := h j (by omega)
    unfold mdN
    split
    · exact mdN_n hk hc hC (fun i hi => h i (by omega)) (by omega)
    · rw [u1_n (by omega), u1_n (by omega)]
      exact mdN_n hk hc hC (fun i hi => h i (by omega)) (by omega)
theorem mdN_i {A : Nat → Int} {L R C c : Nat} (hI : INV A) (hV : VC A L R C) (hc : c < L * R) : ∀ {j : Nat}, j ≤ C → INV (mdN A L C c j)
  | 0, _ => hI
  | j + 1, hj => by
    obtain ⟨v1, v2, v3, v4, v5, v6, v7⟩ := id hV
    have hr := rowLt hc v4.1
    have hLR := mulLe (a := L) (b := R) (x := 6) (y := 4) (by omega) (by omega)
    have hb := bitN_le (sh := shA A) (L := L) (C := C) (c := c) (j := j) v4 (by omega) v6.2 (v7 _ (by omega)).1
    have h7 : 1 ≤ A 7 ∧ A 7 ≤ 31 := hI 7
    unfold mdN
    split
    · exact mdN_i hI hV hc (by omega)
    · refine INV.put (INV.put (mdN_i hI hV hc (by omega)) ?_) ?_
      · rw [Nat.add_assoc, loM (by omega), hiM (by omega)]; exact nmV_rng h7
      · rw [loB (by omega), hiB (by omega)]; exact hld_rng (by omega)
set_option maxRecDepth 4000 in
theorem c_mendCheck {r : Nat} {A : Nat → Int} {ia : Nat → Nat → Int} {la : Nat → Nat → BitVec 64} {fi : Nat → Int} {fl : Nat → BitVec 64} {h0 : HP} {L R C c : Nat} (hI : INV A) (hV : VC A L R C) (hc : c < L * R) : sp mX10_mendCheck [.ref r, .int (zI (c : Int))] (RH r A ia la fi fl h0) 0 0 (px none (fun _ : Nat → Int => True) (fun q => (RH r (mdN A L C c C) (u1 ia 5 q) la fi fl h0))) := by
  obtain ⟨v1, v2, v3, v4, v5, v6, v7⟩ := id hV
  have hr := rowLt hc v4.1
  have hLR := mulLe (a := L) (b := R) (x := 6) (y := 4) (by omega) (by omega)
  have h6 : 0 ≤ A 6 ∧ A 6 ≤ 9 := hI 6
  have h7 : 1 ≤ A 7 ∧ A 7 ≤ 31 := hI 7
  refine sp_wp rfl (lv := [_, _, _]) rfl (Nat.le_of_ble_eq_true rfl) ?_
  refine w_aload_n dX10_mendCheck_0 rfl rfl ?_
  refine w_iload_n dX10_mendCheck_1 rfl rfl ?_
  refine wx_Vv (Z := mX10_layRests) (As := [_]) (c_layRests hV hc) RH0 rfl kX10_layRests lX10_172 iX10_layRests vX10_layRests dX10_mendCheck_2 rfl rfl rfl (Nat.le_of_ble_eq_true rfl) ⟨Nat.le_of_ble_eq_true rfl, Nat.le_of_ble_eq_true rfl⟩ (fun q hq => ?_)
  refine w_iconst dX10_mendCheck_5 ?_
  refine w_istore_n (lv' := [_, _, _]) dX10_mendCheck_6 rfl (Nat.le_of_ble_eq_true rfl) rfl rfl ?_
  have hq2 : ∀ k, k < C → okc (shA A) L c k = true → (u1 ia 5 q) 5 k = rho A L c k := fun k hk ho => by rw [u1_s]; exact hq k hk (by simpa [okc] using ho)
  have hr2 : ∀ k, k < C → okc (shA A) L c k = true → -130 ≤ rho A L c k ∧ rho A L c k ≤ 130 := fun k hk ho => rho_rng hV hI.bel hc hk (by simpa [okc] using ho)
  refine up_ind (N := C) (P := fun j => wp mX10_mendCheck 7 [.ref r, .int (zI (c : Int)), .int (zI (j : Int))] [] (RH r (mdN A L C c j) (u1 ia 5 q) la fi fl h0) 0 0 (px none (fun _ : Nat → Int => True) (fun q => (RH r (mdN A L C c C) (u1 ia 5 q) la fi fl h0)))) (fun j hj ih => ?_) 0 (Nat.zero_le _)
  have hs : SmC A (mdN A L C c j) := mdN_s
  refine w_iload_n dX10_mendCheck_7 rfl rfl ?_
  refine w_aload_n dX10_mendCheck_8 rfl rfl ?_
  refine w_getf fX10_7 dX10_mendCheck_9 RH0 rfl ?_
  refine w_iconst dX10_mendCheck_12 ?_
  refine w_iald 5 RH1 rfl (by decide) (by decide) dX10_mendCheck_13 ?_
  rw [(hs.vc hV).2.2.1]
  refine w_icmp_ge 90 dX10_mendCheck_14 (by decide) (by unfold ok32; omega) (by unfold ok32; omega) (fun hn => ?_) (fun hn => ?_)
  · refine x_vret rfl dX10_mendCheck_90 ⟨rfl, q, trivial, ?_⟩
    rw [show j = C by omega]
  · have hb := bitN_le (sh := shA A) (L := L) (C := C) (c := c) (j := j) v4 (by omega) v6.2 (v7 _ (by omega)).1
    refine w_aload_n dX10_mendCheck_17 rfl rfl ?_
    refine w_iload_n dX10_mendCheck_18 rfl rfl ?_
    refine w_iload_n dX10_mendCheck_19 rfl rfl ?_
    refine wc_V (Z := mX10_bitOf) (As := [_, _]) (c_bitOf_s hV hs hc (by omega)) RH0 rfl kX10_bitOf lX10_77 iX10_bitOf vX10_bitOf dX10_mendCheck_20 rfl rfl rfl (Nat.le_of_ble_eq_true rfl) ⟨Nat.le_of_ble_eq_true rfl, Nat.le_of_ble_eq_true rfl⟩ ?_
    refine w_iconst dX10_mendCheck_23 ?_
    refine w_icmp_ne 30 dX10_mendCheck_24 (by decide) (by unfold ok32; omega) (by unfold ok32; omega) (fun hbt => ?_) (fun hbt => ?_)
    rotate_left
    · refine w_goto 84 dX10_mendCheck_27 (by decide) ?_
      refine w_iinc (lv' := [_, _, _]) dX10_mendCheck_84 rfl rfl rfl ?_
      refine w_goto 7 dX10_mendCheck_87 (by decide) ?_
      refine w_cast rfl rfl ?_ (ih (by omega))
      rw [mdN, if_pos hbt]
    · have hok : okc (shA A) L c j = true := by simp [okc, hbt]
      have hm := nmV_rng (ok := okc (shA A) L c) (q := rho A L c) (j := j) (C := C) (off := A 6) (mo := A 7) h7
      have hrr := hr2 j (by omega) hok
      refine w_aload_n dX10_mendCheck_30 rfl rfl ?_
      refine w_getf fX10_7 dX10_mendCheck_31 RH0 rfl ?_
      refine w_iload_n dX10_mendCheck_34 rfl rfl ?_
      refine w_iload_n dX10_mendCheck_35 rfl rfl ?_
      refine wc_S (Z := mX10_messageAt) (As := [_, _]) c_messageAt kX10_messageAt lX10_163 sX10_messageAt dX10_mendCheck_36 rfl rfl rfl (Nat.le_of_ble_eq_true rfl) ⟨Nat.le_of_ble_eq_true rfl, Nat.le_of_ble_eq_true rfl⟩ ?_
      refine w_aload_n dX10_mendCheck_39 rfl rfl ?_
      refine w_iload_n dX10_mendCheck_40 rfl rfl ?_
      refine w_iload_n dX10_mendCheck_41 rfl rfl ?_
      refine wc_V (Z := mX10_newMessage) (As := [_, _]) (c_newMessage_s hV hs hc (by omega) h6 h7 hq2 hr2) RH0 rfl kX10_newMessage lX10_175 iX10_newMessage vX10_newMessage dX10_mendCheck_42 rfl rfl rfl (Nat.le_of_ble_eq_true rfl) ⟨Nat.le_of_ble_eq_true rfl, Nat.le_of_ble_eq_true rfl⟩ ?_
      refine r_ist1K (144 + 8 * c + j) (by omega) (by omega) dX10_mendCheck_45 ?_
      have hs2 : SmC A (u1 (mdN A L C c j) (144 + 8 * c + j) (nmV (okc (shA A) L c) (rho A L c) j C (A 6) (A 7))) := hs.put (by omega)
      refine w_aload_n dX10_mendCheck_46 rfl rfl ?_
      refine w_getf fX10_7 dX10_mendCheck_47 RH0 rfl ?_
      refine w_bipush dX10_mendCheck_50 (by decide) ?_
      refine w_aload_n dX10_mendCheck_52 rfl rfl ?_
      refine w_iload_n dX10_mendCheck_53 rfl rfl ?_
      refine w_iload_n dX10_mendCheck_54 rfl rfl ?_
      refine wc_V (Z := mX10_bitOf) (As := [_, _]) (c_bitOf_s hV hs2 hc (by omega)) RH0 rfl kX10_bitOf lX10_77 iX10_bitOf vX10_bitOf dX10_mendCheck_55 rfl rfl rfl (Nat.le_of_ble_eq_true rfl) ⟨Nat.le_of_ble_eq_true rfl, Nat.le_of_ble_eq_true rfl⟩ ?_
      refine w_iadd dX10_mendCheck_58 ?_
      refine w_aload_n dX10_mendCheck_59 rfl rfl ?_
      refine w_getf fX10_29 dX10_mendCheck_60 RH0 rfl ?_
      refine w_iload_n dX10_mendCheck_63 rfl rfl ?_
      refine w_iald j RH5 rfl (by omega) (by decide) dX10_mendCheck_64 ?_
      rw [hq2 j (by omega) hok]
      refine w_aload_n dX10_mendCheck_65 rfl rfl ?_
      refine w_getf fX10_7 dX10_mendCheck_66 RH0 rfl ?_
      refine w_iload_n dX10_mendCheck_69 rfl rfl ?_
      refine w_iload_n dX10_mendCheck_70 rfl rfl ?_
      refine wc_S (Z := mX10_messageAt) (As := [_, _]) c_messageAt kX10_messageAt lX10_163 sX10_messageAt dX10_mendCheck_71 rfl rfl rfl (Nat.le_of_ble_eq_true rfl) ⟨Nat.le_of_ble_eq_true rfl, Nat.le_of_ble_eq_true rfl⟩ ?_
      refine w_iald (144 + 8 * c + j) RH1 (by omega) (by omega) (by decide) dX10_mendCheck_74 ?_
      rw [u1_s]
      refine w_iadd dX10_mendCheck_75 ?_
      refine w_bipush dX10_mendCheck_76 (by decide) ?_
      refine w_bipush dX10_mendCheck_78 (by decide) ?_
      refine wc_S (Z := mX10_held) (As := [_, _, _]) (c_held (by unfold ok32; omega) (by unfold ok32; omega) (by unfold ok32; omega)) kX10_held lX10_169 sX10_held dX10_mendCheck_80 rfl rfl rfl (Nat.le_of_ble_eq_true rfl) ⟨Nat.le_of_ble_eq_true rfl, Nat.le_of_ble_eq_true rfl⟩ ?_
      refine r_ist1K (96 + (bitN (shA A) L c j).toNat) (by omega) (by omega) dX10_mendCheck_83 ?_
      refine w_iinc (lv' := [_, _, _]) dX10_mendCheck_84 rfl rfl rfl ?_
      refine w_goto 7 dX10_mendCheck_87 (by decide) ?_
      refine w_cast rfl rfl ?_ (ih (by omega))
      rw [mdN, if_neg hbt]

