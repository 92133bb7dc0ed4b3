/-- a stretch that is written anew -/
def fillR (A : Nat → Int) (s n : Nat) (g : Nat → Int) : Nat → Int := fun k => if s ≤ k ∧ k < s + n then g (k - s) else A k
theorem fillR_0 {A : Nat → Int} {s : Nat} {g : Nat → Int} : fillR A s 0 g = A := funext fun k => if_neg (by omega)
theorem fillR_s {A : Nat → Int} {s i : Nat} {g : Nat → Int} {v : Int} (hv : v = g i) : u1 (fillR A s i g) (s + i) v = fillR A s (i + 1) g := by
  funext k
  by_cases h : k = s + i
  · subst h
    rw [u1_s, fillR, if_pos ⟨by omega, by omega⟩, hv]
    congr 1; omega
  · rw [u1_n h, fillR, fillR]
    by_cases h2 : s ≤ k ∧ k < s + i
    · rw [if_pos h2, if_pos (by omega)]
    · rw [if_neg h2, if_neg (by omega)]
theorem fillR_n {A : Nat → Int} {s n k : Nat} {g : Nat → Int} (h : ¬ (s ≤ k ∧ k < s + n)) : fillR A s n g k = A k := if_neg h
theorem fillR_i {A : Nat → Int} {s n i : Nat} {g : Nat → Int} (h : i < n) : fillR A s n g (s + i) = g i := by
  rw [fillR, if_pos ⟨by omega, by omega⟩]
  congr 1; omega
/-- the beginning: all but the state -/
def bg0 (A : Nat → Int) (m : Int) : Nat → Int := fun k => if k = 8 then m else if k = 10 ∨ k = 11 then 0 else if 96 ≤ k ∧ k < 144 then A (k - 48) else if 144 ≤ k ∧ k < 433 then 0 else A k
def cs (A : Nat → Int) (L C : Nat) : Nat → BitVec 64 := fun c => csetN (shA A) L c C
def bgA (A : Nat → Int) (m : Int) (L R C : Nat) : Nat → Int := u1 (bg0 A m) 9 (bI (oddN (cs A L C) (gset (fun b => A (48 + b)) (L * C)) (L * R) = 0))
theorem bg0_n {A : Nat → Int} {m : Int} {k : Nat} (h : k < 96 ∨ 433 ≤ k) (h1 : k ≠ 8) (h2 : k ≠ 10) (h3 : k ≠ 11) : bg0 A m k = A k := by
  unfold bg0
  rw [if_neg h1, if_neg (by omega), if_neg (by omega), if_neg (by omega)]
theorem bg0_vc {A : Nat → Int} {m : Int} {L R C : Nat} (h : VC A L R C) : VC (bg0 A m) L R C := by
  obtain ⟨v1, v2, v3, v4, v5, v6, v7⟩ := h
  exact ⟨by rw [bg0_n (by omega) (by omega) (by omega) (by omega)]; exact v1, by rw [bg0_n (by omega) (by omega) (by omega) (by omega)]; exact v2, by rw [bg0_n (by omega) (by omega) (by omega) (by omega)]; exact v3, v4, v5, v6, fun k hk => by rw [bg0_n (by omega) (by omega) (by omega) (by omega)]; exact v7 k hk⟩
theorem bg0_cs {A : Nat → Int} {m : Int} {L R C c : Nat} (hL : 1 ≤ L) (hR : R ≤ 4) (hC : C ≤ 8) (hc : c < L * R) : cs (bg0 A m) L C c = cs A L C c := by
  have hr := rowLt hc hL
  exact csetN_sh fun j hj => bg0_n (by omega) (by omega) (by omega) (by omega)
theorem bg0_be {A : Nat → Int} {m : Int} {b : Nat} (hb : b < 48) : bg0 A m (96 + b) = A (48 + b) := by
  unfold bg0
  rw [if_neg (by omega), if_neg (by omega), if_pos (by omega)]
  congr 1; omega
theorem bg0_eq {A : Nat → Int} {m : Int} : fillR (fillR (u1 (u1 (u1 (fillR (fillR (u1 A 8 m) 96 48 (fun b => A (48 + b))) 144 192 (fun _ => 0)) 10 0) 11 0) 384 0) 336 48 (fun _ => 0)) 385 48 (fun _ => 0) = bg0 A m := by
  funext k
  unfold bg0 fillR u1
  by_cases h8 : k = 8
  · subst h8; rfl
  by_cases h10 : k = 10
  · subst h10; rfl
  by_cases h11 : k = 11
  · subst h11; rfl
  by_cases hq : k = 384
  · subst hq; rfl
  simp only [h8, h10, h11, hq, if_false, or_self]
  by_cases h1 : 385 ≤ k ∧ k < 385 + 48
  · rw [if_pos h1, if_neg (by omega), if_pos (by omega)]
  rw [if_neg h1]
  by_cases h2 : 336 ≤ k ∧ k < 336 + 48
  · rw [if_pos h2, if_neg (by omega), if_pos (by omega)]
  rw [if_neg h2]
  by_cases h3 : 144 ≤ k ∧ k < 144 + 192
  · rw [if_pos h3, if_neg (by omega), if_pos (by omega)]
  rw [if_neg h3]
  by_cases h4 : 96 ≤ k ∧ k < 96 + 48
  · rw [if_pos h4, if_pos (by omega)]
    congr 1; omega
  rw [if_neg h4, if_neg (by omega), if_neg (by omega)]
set_option maxRecDepth 4000 in
theorem c_beginNow {r : Nat} {A : Nat → Int} {ia : Nat → Nat → Int} {la : Nat → Nat → BitVec 64} {fi : Nat → Int} {fl : Nat → BitVec 64} {h0 : HP} {L R C : Nat} {m : Int} (hV : VC A L R C) (hA : ∀ k, ok32 (A k)) (hm : ok32 m) : sp mX10_beginNow [.ref r, .int (zI m)] (RH r A ia la fi fl h0) 0 0 (pd none (RH r (bgA A m L R C) ia la fi fl h0)) := by
  obtain ⟨v1, v2, v3, v4, v5, v6, v7⟩ := id hV
  have hLC := mulLe (a := L) (b := C) (x := 6) (y := 8) (by omega) (by omega)
  have hLR := mulLe (a := L) (b := R) (x := 6) (y := 4) (by omega) (by omega)
  refine sp_wp rfl (lv := [_, _, _]) rfl (Nat.le_of_ble_eq_true rfl) ?_
  refine w_aload_n dX10_beginNow_0 rfl rfl ?_
  refine w_getf fX10_7 dX10_beginNow_1 RH0 rfl ?_
  refine w_bipush dX10_beginNow_4 (by decide) ?_
  refine w_iload_n dX10_beginNow_6 rfl rfl ?_
  refine r_ist1K 8 rfl (by decide) dX10_beginNow_7 ?_
  refine w_iconst dX10_beginNow_8 ?_
  refine w_istore_n (lv' := [_, _, _]) dX10_beginNow_9 rfl (Nat.le_of_ble_eq_true rfl) rfl rfl ?_
  rw [← fillR_0 (A := u1 A 8 m) (s := 96) (g := fun b => A (48 + b))]
  refine up_ind (N := 48) (P := fun b => wp mX10_beginNow 10 [.ref r, .int (zI m), .int (zI (b : Int))] [] (RH r (fillR (u1 A 8 m) 96 b (fun b => A (48 + b))) ia la fi fl h0) 0 0 (pd none (RH r (bgA A m L R C) ia la fi fl h0))) (fun b hb ih => ?_) 0 (Nat.zero_le _)
  refine w_iload_n dX10_beginNow_10 rfl rfl ?_
  refine w_bipush dX10_beginNow_11 (by decide) ?_
  refine w_icmp_ge 40 dX10_beginNow_13 (by decide) (by unfold ok32; omega) (by unfold ok32; omega) (fun hn => ?_) (fun hn => ?_)
  rotate_left
  · refine w_aload_n dX10_beginNow_16 rfl rfl ?_
    refine w_getf fX10_7 dX10_beginNow_17 RH0 rfl ?_
    refine w_bipush dX10_beginNow_20 (by decide) ?_
    refine w_iload_n dX10_beginNow_22 rfl rfl ?_
    refine w_iadd dX10_beginNow_23 ?_
    refine w_aload_n dX10_beginNow_24 rfl rfl ?_
    refine w_getf fX10_7 dX10_beginNow_25 RH0 rfl ?_
    refine w_bipush dX10_beginNow_28 (by decide) ?_
    refine w_iload_n dX10_beginNow_30 rfl rfl ?_
    refine w_iadd dX10_beginNow_31 ?_
    refine w_iald (48 + b) RH1 (by omega) (by omega) (by decide) dX10_beginNow_32 ?_
    refine r_ist1K (96 + b) (by omega) (by omega) dX10_beginNow_33 ?_
    rw [fillR_n (by omega), u1_n (by omega), fillR_s rfl]
    refine w_iinc (lv' := [_, _, _]) dX10_beginNow_34 rfl rfl rfl ?_
    refine w_goto 10 dX10_beginNow_37 (by decide) ?_
    exact ih (by omega)
  have e48 : b = 48 := by omega
  subst e48
  clear ih
  refine w_iconst dX10_beginNow_40 ?_
  refine w_istore_n (lv' := [_, _, _]) dX10_beginNow_41 rfl (Nat.le_of_ble_eq_true rfl) rfl rfl ?_
  rw [← fillR_0 (A := fillR (u1 A 8 m) 96 48 (fun b => A (48 + b))) (s := 144) (g := fun _ => 0)]
  refine up_ind (N := 192) (P := fun b => wp mX10_beginNow 42 [.ref r, .int (zI m), .int (zI (b : Int))] [] (RH r (fillR (fillR (u1 A 8 m) 96 48 (fun b => A (48 + b))) 144 b (fun _ => 0)) ia la fi fl h0) 0 0 (pd none (RH r (bgA A m L R C) ia la fi fl h0))) (fun b hb ih => ?_) 0 (Nat.zero_le _)
  refine w_iload_n dX10_beginNow_42 rfl rfl ?_
  refine w_sipush dX10_beginNow_43 (by decide) ?_
  refine w_icmp_ge 66 dX10_beginNow_46 (by decide) (by unfold ok32; omega) (by unfold ok32; omega) (fun hn2 => ?_) (fun hn2 => ?_)
  rotate_left
  · refine w_aload_n dX10_beginNow_49 rfl rfl ?_
    refine w_getf fX10_7 dX10_beginNow_50 RH0 rfl ?_
    refine w_sipush dX10_beginNow_53 (by decide) ?_
    refine w_iload_n dX10_beginNow_56 rfl rfl ?_
    refine w_iadd dX10_beginNow_57 ?_
    refine w_iconst dX10_beginNow_58 ?_
    refine r_ist1K (144 + b) (by omega) (by omega) dX10_beginNow_59 ?_
    rw [fillR_s rfl]
    refine w_iinc (lv' := [_, _, _]) dX10_beginNow_60 rfl rfl rfl ?_
    refine w_goto 42 dX10_beginNow_63 (by decide) ?_
    exact ih (by omega)
  have e192 : b = 192 := by omega
  subst e192
  clear ih
  refine w_aload_n dX10_beginNow_66 rfl rfl ?_
  refine w_getf fX10_7 dX10_beginNow_67 RH0 rfl ?_
  refine w_bipush dX10_beginNow_70 (by decide) ?_
  refine w_iconst dX10_beginNow_72 ?_
  refine r_ist1K 10 rfl (by decide) dX10_beginNow_73 ?_
  refine w_aload_n dX10_beginNow_74 rfl rfl ?_
  refine w_getf fX10_7 dX10_beginNow_75 RH0 rfl ?_
  refine w_bipush dX10_beginNow_78 (by decide) ?_
  refine w_iconst dX10_beginNow_80 ?_
  refine r_ist1K 11 rfl (by decide) dX10_beginNow_81 ?_
  refine w_aload_n dX10_beginNow_82 rfl rfl ?_
  refine w_getf fX10_7 dX10_beginNow_83 RH0 rfl ?_
  refine w_sipush dX10_beginNow_86 (by decide) ?_
  refine w_iconst dX10_beginNow_89 ?_
  refine r_ist1K 384 rfl (by decide) dX10_beginNow_90 ?_
  refine w_iconst dX10_beginNow_91 ?_
  refine w_istore_n (lv' := [_, _, _]) dX10_beginNow_92 rfl (Nat.le_of_ble_eq_true rfl) rfl rfl ?_
  rw [← fillR_0 (A := u1 (u1 (u1 (fillR (fillR (u1 A 8 m) 96 48 (fun b => A (48 + b))) 144 192 (fun _ => 0)) 10 0) 11 0) 384 0) (s := 336) (g := fun _ => 0)]
  refine up_ind (N := 48) (P := fun b => wp mX10_beginNow 93 [.ref r, .int (zI m), .int (zI (b : Int))] [] (RH r (fillR (u1 (u1 (u1 (fillR (fillR (u1 A 8 m) 96 48 (fun b => A (48 + b))) 144 192 (fun _ => 0)) 10 0) 11 0) 384 0) 336 b (fun _ => 0)) ia la fi fl h0) 0 0 (pd none (RH r (bgA A m L R C) ia la fi fl h0))) (fun b hb ih => ?_) 0 (Nat.zero_le _)
  refine w_iload_n dX10_beginNow_93 rfl rfl ?_
  refine w_bipush dX10_beginNow_94 (by decide) ?_
  refine w_icmp_ge 116 dX10_beginNow_96 (by decide) (by unfold ok32; omega) (by unfold ok32; omega) (fun hn3 => ?_) (fun hn3 => ?_)
  rotate_left
  · refine w_aload_n dX10_beginNow_99 rfl rfl ?_
    refine w_getf fX10_7 dX10_beginNow_100 RH0 rfl ?_
    refine w_sipush dX10_beginNow_103 (by decide) ?_
    refine w_iload_n dX10_beginNow_106 rfl rfl ?_
    refine w_iadd dX10_beginNow_107 ?_
    refine w_iconst dX10_beginNow_108 ?_
    refine r_ist1K (336 + b) (by omega) (by omega) dX10_beginNow_109 ?_
    rw [fillR_s rfl]
    refine w_iinc (lv' := [_, _, _]) dX10_beginNow_110 rfl rfl rfl ?_
    refine w_goto 93 dX10_beginNow_113 (by decide) ?_
    exact ih (by omega)
  have e48b : b = 48 := by omega
  subst e48b
  clear ih
  refine w_iconst dX10_beginNow_116 ?_
  refine w_istore_n (lv' := [_, _, _]) dX10_beginNow_117 rfl (Nat.le_of_ble_eq_true rfl) rfl rfl ?_
  rw [← fillR_0 (A := fillR (u1 (u1 (u1 (fillR (fillR (u1 A 8 m) 96 48 (fun b => A (48 + b))) 144 192 (fun _ => 0)) 10 0) 11 0) 384 0) 336 48 (fun _ => 0)) (s := 385) (g := fun _ => 0)]
  refine up_ind (N := 48) (P := fun b => wp mX10_beginNow 118 [.ref r, .int (zI m), .int (zI (b : Int))] [] (RH r (fillR (fillR (u1 (u1 (u1 (fillR (fillR (u1 A 8 m) 96 48 (fun b => A (48 + b))) 144 192 (fun _ => 0)) 10 0) 11 0) 384 0) 336 48 (fun _ => 0)) 385 b (fun _ => 0)) ia la fi fl h0) 0 0 (pd none (RH r (bgA A m L R C) ia la fi fl h0))) (fun b hb ih => ?_) 0 (Nat.zero_le _)
  refine w_iload_n dX10_beginNow_118 rfl rfl ?_
  refine w_bipush dX10_beginNow_119 (by decide) ?_
  refine w_icmp_ge 141 dX10_beginNow_121 (by decide) (by unfold ok32; omega) (by unfold ok32; omega) (fun hn4 => ?_) (fun hn4 => ?_)
  rotate_left
  · refine w_aload_n dX10_beginNow_124 rfl rfl ?_
    refine w_getf fX10_7 dX10_beginNow_125 RH0 rfl ?_
    refine w_sipush dX10_beginNow_128 (by decide) ?_
    refine w_iload_n dX10_beginNow_131 rfl rfl ?_
    refine w_iadd dX10_beginNow_132 ?_
    refine w_iconst dX10_beginNow_133 ?_
    refine r_ist1K (385 + b) (by omega) (by omega) dX10_beginNow_134 ?_
    rw [fillR_s rfl]
    refine w_iinc (lv' := [_, _, _]) dX10_beginNow_135 rfl rfl rfl ?_
    refine w_goto 118 dX10_beginNow_138 (by decide) ?_
    exact ih (by omega)
  have e48c : b = 48 := by omega
  subst e48c
  clear ih
  rw [bg0_eq]
  have hA2 : ∀ k, ok32 (bg0 A m k) := by
    intro k
    unfold bg0
    (repeat' split) <;> first | exact hm | exact ok32_0 | exact hA _
  refine w_aload_n dX10_beginNow_141 rfl rfl ?_
  refine w_getf fX10_7 dX10_beginNow_142 RH0 rfl ?_
  refine w_bipush dX10_beginNow_145 (by decide) ?_
  refine w_aload_n dX10_beginNow_147 rfl rfl ?_
  refine w_aload_n dX10_beginNow_148 rfl rfl ?_
  refine wc_V (Z := mX10_guessed) (As := []) (c_guessed (bg0_vc hV) hA2) RH0 rfl kX10_guessed lX10_156 iX10_guessed vX10_guessed dX10_beginNow_149 rfl rfl rfl (Nat.le_of_ble_eq_true rfl) ⟨Nat.le_of_ble_eq_true rfl, Nat.le_of_ble_eq_true rfl⟩ ?_
  refine wc_V (Z := mX10_oddsOf) (As := [_]) (c_oddsOf (bg0_vc hV)) RH0 rfl kX10_oddsOf lX10_160 iX10_oddsOf vX10_oddsOf dX10_beginNow_152 rfl rfl rfl (Nat.le_of_ble_eq_true rfl) ⟨Nat.le_of_ble_eq_true rfl, Nat.le_of_ble_eq_true rfl⟩ ?_
  rw [show (fun c => csetN (shA (bg0 A m)) L c C) = cs (bg0 A m) L C from rfl, oddN_cs (cs' := cs A L C) (fun c hc => bg0_cs v4.1 v5.2 v6.2 hc), gset_f (g := fun b => A (48 + b)) (fun b hb => bg0_be (by omega))]
  have ho := oddN_le (cs A L C) (gset (fun b => A (48 + b)) (L * C)) (L * R)
  refine w_if_ne 162 dX10_beginNow_155 (by decide) (by unfold ok32; omega) (fun hz => ?_) (fun hz => ?_)
  · refine w_iconst dX10_beginNow_162 ?_
    refine r_ist1K 9 rfl (by decide) dX10_beginNow_163 ?_
    refine x_vret rfl dX10_beginNow_164 ⟨rfl, ?_⟩
    rw [bgA, bI_f (by omega)]
  · refine w_iconst dX10_beginNow_158 ?_
    refine w_goto 163 dX10_beginNow_159 (by decide) ?_
    refine r_ist1K 9 rfl (by decide) dX10_beginNow_163 ?_
    refine x_vret rfl dX10_beginNow_164 ⟨rfl, ?_⟩
    rw [bgA, bI_t (by omega)]

