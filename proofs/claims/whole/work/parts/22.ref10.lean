/-- a stretch of one row laid into another -/
theorem fillR_g {A : Nat → Int} {s n : Nat} {g g' : Nat → Int} (h : ∀ i, i < n → g i = g' i) : fillR A s n g = fillR A s n g' := by
  funext k
  unfold fillR
  split
  · exact h _ (by omega)
  · rfl
theorem c_putAside {r : Nat} {A : Nat → Int} {ia : Nat → Nat → Int} {la : Nat → Nat → BitVec 64} {fi : Nat → Int} {fl : Nat → BitVec 64} {h0 : HP} : sp mX10_putAside [.ref r] (RH r A ia la fi fl h0) 0 0 (px none (fun q : Nat → Int => ∀ k, k < 430 → q k = A (3 + k)) (fun q => (RH r A (u1 ia 7 q) la fi fl h0))) := by
  refine sp_wp rfl (lv := [_, _]) rfl (Nat.le_of_ble_eq_true rfl) ?_
  refine w_iconst dX10_putAside_0 ?_
  refine w_istore_n (lv' := [_, _]) dX10_putAside_1 rfl (Nat.le_of_ble_eq_true rfl) rfl rfl ?_
  have key : ∀ k, k ≤ 430 → ∀ q : Nat → Int, (∀ i, i < k → q i = A (3 + i)) → wp mX10_putAside 2 [.ref r, .int (zI (k : Int))] [] (RH r A (u1 ia 7 q) la fi fl h0) 0 0 (px none (fun q : Nat → Int => ∀ k, k < 430 → q k = A (3 + k)) (fun q => (RH r A (u1 ia 7 q) la fi fl h0))) := by
    refine up_ind (N := 430) (fun k hk ih => ?_)
    intro q hq
    refine w_iload_n dX10_putAside_2 rfl rfl ?_
    refine w_sipush dX10_putAside_3 (by decide) ?_
    refine w_icmp_ge 29 dX10_putAside_6 (by decide) (by unfold ok32; omega) (by unfold ok32; omega) (fun hn => ?_) (fun hn => ?_)
    · exact x_vret rfl dX10_putAside_29 ⟨rfl, q, fun i hi => hq i (by omega), rfl⟩
    · refine w_aload_n dX10_putAside_9 rfl rfl ?_
      refine w_getf fX10_36 dX10_putAside_10 RH0 rfl ?_
      refine w_iload_n dX10_putAside_13 rfl rfl ?_
      refine w_aload_n dX10_putAside_14 rfl rfl ?_
      refine w_getf fX10_7 dX10_putAside_15 RH0 rfl ?_
      refine w_iconst dX10_putAside_18 ?_
      refine w_iload_n dX10_putAside_19 rfl rfl ?_
      refine w_iadd dX10_putAside_20 ?_
      refine w_iald (3 + k) RH1 (by omega) (by omega) (by decide) dX10_putAside_21 ?_
      refine r_ist7K k rfl (by omega) dX10_putAside_22 ?_
      rw [u1_u1, u1_s]
      refine w_iinc (lv' := [_, _]) dX10_putAside_23 rfl rfl rfl ?_
      refine w_goto 2 dX10_putAside_26 (by decide) ?_
      refine ih (by omega) _ (fun i hi => ?_)
      by_cases h : i = k
      · subst h; rw [u1_s]
      · rw [u1_n h]; exact hq i (by omega)
  have h2 := key 0 (Nat.zero_le _) (ia 7) (fun i hi => absurd hi (by omega))
  rw [u1_id] at h2
  exact h2
theorem c_bringBack {r : Nat} {A : Nat → Int} {ia : Nat → Nat → Int} {la : Nat → Nat → BitVec 64} {fi : Nat → Int} {fl : Nat → BitVec 64} {h0 : HP} {B : Nat → Int} (hq : ∀ k, k < 430 → ia 7 k = B (3 + k)) : sp mX10_bringBack [.ref r] (RH r A ia la fi fl h0) 0 0 (pd none (RH r (fillR A 3 430 (fun k => B (3 + k))) ia la fi fl h0)) := by
  refine sp_wp rfl (lv := [_, _]) rfl (Nat.le_of_ble_eq_true rfl) ?_
  refine w_iconst dX10_bringBack_0 ?_
  refine w_istore_n (lv' := [_, _]) dX10_bringBack_1 rfl (Nat.le_of_ble_eq_true rfl) rfl rfl ?_
  suffices h2 : ∀ k : Nat, k ≤ 430 → wp mX10_bringBack 2 [.ref r, .int (zI (k : Int))] [] (RH r (fillR A 3 k (fun k => B (3 + k))) ia la fi fl h0) 0 0 (pd none (RH r (fillR A 3 430 (fun k => B (3 + k))) ia la fi fl h0)) by
    have h3 := h2 0 (Nat.zero_le _)
    rw [fillR_0] at h3
    exact h3
  refine up_ind (N := 430) (fun k hk ih => ?_)
  refine w_iload_n dX10_bringBack_2 rfl rfl ?_
  refine w_sipush dX10_bringBack_3 (by decide) ?_
  refine w_icmp_ge 29 dX10_bringBack_6 (by decide) (by unfold ok32; omega) (by unfold ok32; omega) (fun hn => ?_) (fun hn => ?_)
  · refine x_vret rfl dX10_bringBack_29 ⟨rfl, ?_⟩
    rw [show k = 430 by omega]
  · refine w_aload_n dX10_bringBack_9 rfl rfl ?_
    refine w_getf fX10_7 dX10_bringBack_10 RH0 rfl ?_
    refine w_iconst dX10_bringBack_13 ?_
    refine w_iload_n dX10_bringBack_14 rfl rfl ?_
    refine w_iadd dX10_bringBack_15 ?_
    refine w_aload_n dX10_bringBack_16 rfl rfl ?_
    refine w_getf fX10_36 dX10_bringBack_17 RH0 rfl ?_
    refine w_iload_n dX10_bringBack_20 rfl rfl ?_
    refine w_iald k RH7 rfl (by omega) (by decide) dX10_bringBack_21 ?_
    rw [hq k (by omega)]
    refine r_ist1K (3 + k) (by omega) (by omega) dX10_bringBack_22 ?_
    rw [fillR_s rfl]
    refine w_iinc (lv' := [_, _]) dX10_bringBack_23 rfl rfl rfl ?_
    refine w_goto 2 dX10_bringBack_26 (by decide) ?_
    exact ih (by omega)
/-- a step that can be taken back is kept -/
def kpA (A : Nat → Int) : Nat → Int := if A 1 = 20 then u1 (fillR (u1 (u1 A 2 ((A 2 + 1) % 20)) 1 19) (433 + 430 * (((A 2 + 1) % 20 + 19).toNat % 20)) 430 (fun k => A (3 + k))) 1 20 else u1 (fillR A (433 + 430 * ((A 2 + A 1).toNat % 20)) 430 (fun k => A (3 + k))) 1 (A 1 + 1)
set_option maxRecDepth 4000 in
theorem c_keep {r : Nat} {A : Nat → Int} {ia : Nat → Nat → Int} {la : Nat → Nat → BitVec 64} {fi : Nat → Int} {fl : Nat → BitVec 64} {h0 : HP} (h1 : 0 ≤ A 1 ∧ A 1 ≤ 20) (h2 : 0 ≤ A 2 ∧ A 2 < 20) : sp mX10_keep [.ref r] (RH r A ia la fi fl h0) 0 0 (pd none (RH r (kpA A) ia la fi fl h0)) := by
  have tail : ∀ (B : Nat → Int) (p q : Nat) (h' : HP), B 1 = (q : Int) → B 2 = (p : Int) → p < 20 → q < 20 → (∀ k, 3 ≤ k → B k = A k) → h' = (RH r (u1 (fillR B (433 + 430 * ((p + q) % 20)) 430 (fun k => A (3 + k))) 1 ((q : Int) + 1)) ia la fi fl h0) → wp mX10_keep 38 [.ref r, jk, jk] [] (RH r B ia la fi fl h0) 0 0 (pd none h') := by
    intro B p q h' e1 e2 hp hq hB he
    refine w_aload_n dX10_keep_38 rfl rfl ?_
    refine w_getf fX10_7 dX10_keep_39 RH0 rfl ?_
    refine w_iconst dX10_keep_42 ?_
    refine w_iald 2 RH1 rfl (by decide) (by decide) dX10_keep_43 ?_
    refine w_aload_n dX10_keep_44 rfl rfl ?_
    refine w_getf fX10_7 dX10_keep_45 RH0 rfl ?_
    refine w_iconst dX10_keep_48 ?_
    refine w_iald 1 RH1 rfl (by decide) (by decide) dX10_keep_49 ?_
    rw [e1, e2]
    refine wc_S (Z := mX10_stepAt) (As := [_, _]) (c_stepAt (by omega)) kX10_stepAt lX10_208 sX10_stepAt dX10_keep_50 rfl rfl rfl (Nat.le_of_ble_eq_true rfl) ⟨Nat.le_of_ble_eq_true rfl, Nat.le_of_ble_eq_true rfl⟩ ?_
    refine w_istore_n (lv' := [_, _, _]) dX10_keep_53 rfl (Nat.le_of_ble_eq_true rfl) rfl rfl ?_
    refine w_iconst dX10_keep_54 ?_
    refine w_istore_n (lv' := [_, _, _]) dX10_keep_55 rfl (Nat.le_of_ble_eq_true rfl) rfl rfl ?_
    suffices h2 : ∀ k : Nat, k ≤ 430 → wp mX10_keep 56 [.ref r, .int (zI ((433 + 430 * ((p + q) % 20) : Nat) : Int)), .int (zI (k : Int))] [] (RH r (fillR B (433 + 430 * ((p + q) % 20)) k (fun k => A (3 + k))) ia la fi fl h0) 0 0 (pd none h') by
      have h3 := h2 0 (Nat.zero_le _)
      rw [fillR_0] at h3
      exact h3
    refine up_ind (N := 430) (fun k hk ih => ?_)
    refine w_iload_n dX10_keep_56 rfl rfl ?_
    refine w_sipush dX10_keep_57 (by decide) ?_
    refine w_icmp_ge 85 dX10_keep_60 (by decide) (by unfold ok32; omega) (by unfold ok32; omega) (fun hn => ?_) (fun hn => ?_)
    · have ek : k = 430 := by omega
      subst ek
      refine w_aload_n dX10_keep_85 rfl rfl ?_
      refine w_getf fX10_7 dX10_keep_86 RH0 rfl ?_
      refine w_iconst dX10_keep_89 ?_
      refine w_dup2 dX10_keep_90 rfl rfl ?_
      refine w_iald 1 RH1 rfl (by decide) (by decide) dX10_keep_91 ?_
      refine w_iconst dX10_keep_92 ?_
      refine w_iadd dX10_keep_93 ?_
      refine r_ist1K 1 rfl (by decide) dX10_keep_94 ?_
      refine x_vret rfl dX10_keep_95 ⟨rfl, ?_⟩
      rw [he, fillR_n (by omega), e1]
    · refine w_aload_n dX10_keep_63 rfl rfl ?_
      refine w_getf fX10_7 dX10_keep_64 RH0 rfl ?_
      refine w_iload_n dX10_keep_67 rfl rfl ?_
      refine w_iload_n dX10_keep_68 rfl rfl ?_
      refine w_iadd dX10_keep_69 ?_
      refine w_aload_n dX10_keep_70 rfl rfl ?_
      refine w_getf fX10_7 dX10_keep_71 RH0 rfl ?_
      refine w_iconst dX10_keep_74 ?_
      refine w_iload_n dX10_keep_75 rfl rfl ?_
      refine w_iadd dX10_keep_76 ?_
      refine w_iald (3 + k) RH1 (by omega) (by omega) (by decide) dX10_keep_77 ?_
      rw [fillR_n (by omega), hB _ (by omega)]
      refine r_ist1K (433 + 430 * ((p + q) % 20) + k) (by push_cast; omega) (by omega) dX10_keep_78 ?_
      rw [fillR_s rfl]
      refine w_iinc (lv' := [_, _, _]) dX10_keep_79 rfl rfl rfl ?_
      refine w_goto 56 dX10_keep_82 (by decide) ?_
      exact ih (by omega)
  refine sp_wp rfl (lv := [_, _, _]) rfl (Nat.le_of_ble_eq_true rfl) ?_
  refine w_aload_n dX10_keep_0 rfl rfl ?_
  refine w_getf fX10_7 dX10_keep_1 RH0 rfl ?_
  refine w_iconst dX10_keep_4 ?_
  refine w_iald 1 RH1 rfl (by decide) (by decide) dX10_keep_5 ?_
  refine w_bipush dX10_keep_6 (by decide) ?_
  refine w_icmp_ne 38 dX10_keep_8 (by decide) (by unfold ok32; omega) (by unfold ok32; omega) (fun hn => ?_) (fun hn => ?_)
  · refine tail A (A 2).toNat (A 1).toNat _ (by omega) (by omega) (by omega) (by omega) (fun _ _ => rfl) ?_
    rw [kpA, if_neg hn, show (((A 1).toNat : Nat) : Int) = A 1 by omega, show ((A 2).toNat + (A 1).toNat) = (A 2 + A 1).toNat by omega]
  · refine w_aload_n dX10_keep_11 rfl rfl ?_
    refine w_getf fX10_7 dX10_keep_12 RH0 rfl ?_
    refine w_iconst dX10_keep_15 ?_
    refine w_aload_n dX10_keep_16 rfl rfl ?_
    refine w_getf fX10_7 dX10_keep_17 RH0 rfl ?_
    refine w_iconst dX10_keep_20 ?_
    refine w_iald 2 RH1 rfl (by decide) (by decide) dX10_keep_21 ?_
    refine w_iconst dX10_keep_22 ?_
    refine w_iadd dX10_keep_23 ?_
    refine w_bipush dX10_keep_24 (by decide) ?_
    refine w_irem dX10_keep_26 (by unfold ok32; omega) (by omega) (by omega) (by unfold ok32; omega) ?_
    refine r_ist1K 2 rfl (by decide) dX10_keep_27 ?_
    refine w_aload_n dX10_keep_28 rfl rfl ?_
    refine w_getf fX10_7 dX10_keep_29 RH0 rfl ?_
    refine w_iconst dX10_keep_32 ?_
    refine w_dup2 dX10_keep_33 rfl rfl ?_
    refine w_iald 1 RH1 rfl (by decide) (by decide) dX10_keep_34 ?_
    refine w_iconst dX10_keep_35 ?_
    refine w_isub dX10_keep_36 ?_
    refine r_ist1K 1 rfl (by decide) dX10_keep_37 ?_
    rw [u1_n (by omega), hn]
    refine tail _ ((A 2 + 1) % 20).toNat 19 _ (u1_s) (by rw [u1_n (by omega), u1_s]; omega) (by omega) (by omega) (fun k hk => by rw [u1_n (by omega), u1_n (by omega)]) ?_
    rw [kpA, if_pos hn, show ((A 2 + 1) % 20).toNat + 19 = ((A 2 + 1) % 20 + 19).toNat by omega]
    rfl
def udA (A : Nat → Int) : Nat → Int := fillR (u1 A 1 (A 1 - 1)) 3 430 (fun k => A (433 + 430 * ((A 2 + A 1 - 1).toNat % 20) + k))
set_option maxRecDepth 4000 in
theorem c_undo {r : Nat} {A : Nat → Int} {ia : Nat → Nat → Int} {la : Nat → Nat → BitVec 64} {fi : Nat → Int} {fl : Nat → BitVec 64} {h0 : HP} (h1 : 0 ≤ A 1 ∧ A 1 ≤ 20) (h2 : 0 ≤ A 2 ∧ A 2 < 20) : sp mX10_undo [.ref r] (RH r A ia la fi fl h0) 0 0 (pd (some (.int (zI (if A 1 = 0 then -1 else A 1 - 1)))) (RH r (if A 1 = 0 then A else udA A) ia la fi fl h0)) := by
  refine sp_wp rfl (lv := [_, _, _]) rfl (Nat.le_of_ble_eq_true rfl) ?_
  refine w_aload_n dX10_undo_0 rfl rfl ?_
  refine w_getf fX10_7 dX10_undo_1 RH0 rfl ?_
  refine w_iconst dX10_undo_4 ?_
  refine w_iald 1 RH1 rfl (by decide) (by decide) dX10_undo_5 ?_
  refine w_if_ne 11 dX10_undo_6 (by decide) (by unfold ok32; omega) (fun hn => ?_) (fun hn => ?_)
  rotate_left
  · refine w_iconst dX10_undo_9 ?_
    refine x_iret rfl rfl dX10_undo_10 ⟨?_, ?_⟩
    · rw [if_pos hn]
    · rw [if_pos hn]
  · rw [if_neg hn, if_neg hn]
    refine w_aload_n dX10_undo_11 rfl rfl ?_
    refine w_getf fX10_7 dX10_undo_12 RH0 rfl ?_
    refine w_iconst dX10_undo_15 ?_
    refine w_dup2 dX10_undo_16 rfl rfl ?_
    refine w_iald 1 RH1 rfl (by decide) (by decide) dX10_undo_17 ?_
    refine w_iconst dX10_undo_18 ?_
    refine w_isub dX10_undo_19 ?_
    refine r_ist1K 1 rfl (by decide) dX10_undo_20 ?_
    refine w_aload_n dX10_undo_21 rfl rfl ?_
    refine w_getf fX10_7 dX10_undo_22 RH0 rfl ?_
    refine w_iconst dX10_undo_25 ?_
    refine w_iald 2 RH1 rfl (by decide) (by decide) dX10_undo_26 ?_
    refine w_aload_n dX10_undo_27 rfl rfl ?_
    refine w_getf fX10_7 dX10_undo_28 RH0 rfl ?_
    refine w_iconst dX10_undo_31 ?_
    refine w_iald 1 RH1 rfl (by decide) (by decide) dX10_undo_32 ?_
    rw [u1_s, u1_n (by omega), show A 1 - 1 = (((A 1 - 1).toNat : Nat) : Int) by omega, show A 2 = (((A 2).toNat : Nat) : Int) by omega]
    refine wc_S (Z := mX10_stepAt) (As := [_, _]) (c_stepAt (by omega)) kX10_stepAt lX10_208 sX10_stepAt dX10_undo_33 rfl rfl rfl (Nat.le_of_ble_eq_true rfl) ⟨Nat.le_of_ble_eq_true rfl, Nat.le_of_ble_eq_true rfl⟩ ?_
    rw [← show A 1 - 1 = (((A 1 - 1).toNat : Nat) : Int) by omega, show (A 2).toNat + (A 1 - 1).toNat = (A 2 + A 1 - 1).toNat by omega]
    refine w_istore_n (lv' := [_, _, _]) dX10_undo_36 rfl (Nat.le_of_ble_eq_true rfl) rfl rfl ?_
    refine w_iconst dX10_undo_37 ?_
    refine w_istore_n (lv' := [_, _, _]) dX10_undo_38 rfl (Nat.le_of_ble_eq_true rfl) rfl rfl ?_
    suffices h3 : ∀ k : Nat, k ≤ 430 → wp mX10_undo 39 [.ref r, .int (zI ((433 + 430 * ((A 2 + A 1 - 1).toNat % 20) : Nat) : Int)), .int (zI (k : Int))] [] (RH r (fillR (u1 A 1 (A 1 - 1)) 3 k (fun k => A (433 + 430 * ((A 2 + A 1 - 1).toNat % 20) + k))) ia la fi fl h0) 0 0 (pd (some (.int (zI (A 1 - 1)))) (RH r (udA A) ia la fi fl h0)) by
      have h4 := h3 0 (Nat.zero_le _)
      rw [fillR_0] at h4
      exact h4
    refine up_ind (N := 430) (fun k hk ih => ?_)
    refine w_iload_n dX10_undo_39 rfl rfl ?_
    refine w_sipush dX10_undo_40 (by decide) ?_
    refine w_icmp_ge 68 dX10_undo_43 (by decide) (by unfold ok32; omega) (by unfold ok32; omega) (fun hk2 => ?_) (fun hk2 => ?_)
    · have ek : k = 430 := by omega
      subst ek
      refine w_aload_n dX10_undo_68 rfl rfl ?_
      refine w_getf fX10_7 dX10_undo_69 RH0 rfl ?_
      refine w_iconst dX10_undo_72 ?_
      refine w_iald 1 RH1 rfl (by decide) (by decide) dX10_undo_73 ?_
      rw [fillR_n (by omega), u1_s]
      refine x_iret rfl rfl dX10_undo_74 ⟨rfl, rfl⟩
    · refine w_aload_n dX10_undo_46 rfl rfl ?_
      refine w_getf fX10_7 dX10_undo_47 RH0 rfl ?_
      refine w_iconst dX10_undo_50 ?_
      refine w_iload_n dX10_undo_51 rfl rfl ?_
      refine w_iadd dX10_undo_52 ?_
      refine w_aload_n dX10_undo_53 rfl rfl ?_
      refine w_getf fX10_7 dX10_undo_54 RH0 rfl ?_
      refine w_iload_n dX10_undo_57 rfl rfl ?_
      refine w_iload_n dX10_undo_58 rfl rfl ?_
      refine w_iadd dX10_undo_59 ?_
      refine w_iald (433 + 430 * ((A 2 + A 1 - 1).toNat % 20) + k) RH1 (by push_cast; omega) (by omega) (by decide) dX10_undo_60 ?_
      rw [fillR_n (by omega), u1_n (by omega)]
      refine r_ist1K (3 + k) (by omega) (by omega) dX10_undo_61 ?_
      rw [fillR_s rfl]
      refine w_iinc (lv' := [_, _, _]) dX10_undo_62 rfl rfl rfl ?_
      refine w_goto 39 dX10_undo_65 (by decide) ?_
      exact ih (by omega)
/-- a code is there -/
def cm0 (A : Nat → Int) : Nat → Int := fillR (putS (u1 A 13 0) 0#64) 48 48 (fun _ => 0)
def cmA (A : Nat → Int) (L R C : Nat) : Nat → Int := bgA (cm0 A) 0 L R C
theorem cm0_s {A : Nat → Int} : SmC A (cm0 A) := fun k a1 _ _ _ _ _ a7 => by
  unfold cm0 putS
  rw [fillR_n (by omega), u1_n (by omega), u1_n (by omega), u1_n a7]
theorem cm0_ok {A : Nat → Int} (h : ∀ k, ok32 (A k)) : ∀ k, ok32 (cm0 A k) := by
  intro k
  unfold cm0
  unfold fillR
  split
  · exact ok32_0
  · unfold putS
    exact u1_all (P := fun _ x => ok32 x) (u1_all (P := fun _ x => ok32 x) (u1_all (P := fun _ x => ok32 x) h ok32_0) (ok32_of _)) (ok32_of _) k
theorem c_come {r : Nat} {A : Nat → Int} {ia : Nat → Nat → Int} {la : Nat → Nat → BitVec 64} {fi : Nat → Int} {fl : Nat → BitVec 64} {h0 : HP} {L R C : Nat} (hV : VC A L R C) (hA : ∀ k, ok32 (A k)) : sp mX10_come [.ref r] (RH r A ia la fi fl h0) 0 0 (pd none (RH r (cmA A L R C) ia la fi fl h0)) := by
  refine sp_wp rfl (lv := [_, _]) rfl (Nat.le_of_ble_eq_true rfl) ?_
  refine w_aload_n dX10_come_0 rfl rfl ?_
  refine w_getf fX10_7 dX10_come_1 RH0 rfl ?_
  refine w_bipush dX10_come_4 (by decide) ?_
  refine w_iconst dX10_come_6 ?_
  refine r_ist1K 13 rfl (by decide) dX10_come_7 ?_
  refine w_aload_n dX10_come_8 rfl rfl ?_
  refine w_lconst0 dX10_come_9 ?_
  refine wc_Vv (Z := mX10_putSent) (As := [_]) c_putSent RH0 rfl kX10_putSent lX10_211 iX10_putSent vX10_putSent dX10_come_10 rfl rfl rfl (Nat.le_of_ble_eq_true rfl) ⟨Nat.le_of_ble_eq_true rfl, Nat.le_of_ble_eq_true rfl⟩ ?_
  refine w_iconst dX10_come_13 ?_
  refine w_istore_n (lv' := [_, _]) dX10_come_14 rfl (Nat.le_of_ble_eq_true rfl) rfl rfl ?_
  suffices h3 : ∀ k : Nat, k ≤ 48 → wp mX10_come 15 [.ref r, .int (zI (k : Int))] [] (RH r (fillR (putS (u1 A 13 0) 0#64) 48 k (fun _ => 0)) ia la fi fl h0) 0 0 (pd none (RH r (cmA A L R C) ia la fi fl h0)) by
    have h4 := h3 0 (Nat.zero_le _)
    rw [fillR_0] at h4
    exact h4
  refine up_ind (N := 48) (fun k hk ih => ?_)
  refine w_iload_n dX10_come_15 rfl rfl ?_
  refine w_bipush dX10_come_16 (by decide) ?_
  refine w_icmp_ge 37 dX10_come_18 (by decide) (by unfold ok32; omega) (by unfold ok32; omega) (fun hk2 => ?_) (fun hk2 => ?_)
  · have ek : k = 48 := by omega
    subst ek
    refine w_aload_n dX10_come_37 rfl rfl ?_
    refine w_iconst dX10_come_38 ?_
    refine wc_Vv (Z := mX10_beginNow) (As := [_]) (c_beginNow (A := cm0 A) (cm0_s.vc hV) (cm0_ok hA) ok32_0) RH0 rfl kX10_beginNow lX10_54 iX10_beginNow vX10_beginNow dX10_come_39 rfl rfl rfl (Nat.le_of_ble_eq_true rfl) ⟨Nat.le_of_ble_eq_true rfl, Nat.le_of_ble_eq_true rfl⟩ ?_
    refine x_vret rfl dX10_come_42 ⟨rfl, rfl⟩
  · refine w_aload_n dX10_come_21 rfl rfl ?_
    refine w_getf fX10_7 dX10_come_22 RH0 rfl ?_
    refine w_bipush dX10_come_25 (by decide) ?_
    refine w_iload_n dX10_come_27 rfl rfl ?_
    refine w_iadd dX10_come_28 ?_
    refine w_iconst dX10_come_29 ?_
    refine r_ist1K (48 + k) (by omega) (by omega) dX10_come_30 ?_
    rw [fillR_s rfl]
    refine w_iinc (lv' := [_, _]) dX10_come_31 rfl rfl rfl ?_
    refine w_goto 15 dX10_come_34 (by decide) ?_
    exact ih (by omega)

