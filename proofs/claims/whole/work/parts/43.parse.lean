/-! texts -/
def lexF (fi : Nat → Int) (y : LX) : Nat → Int := ntF fi y.1 y.2.1 y.2.2.1 y.2.2.2
theorem lexF_n {fi : Nat → Int} {y : LX} {j : Nat} (h : j < 7 ∨ 10 < j) : lexF fi y j = fi j := nt_n h
theorem lex9 {fi : Nat → Int} {y : LX} : lexF fi y 9 = y.2.2.1 := rfl
theorem lex10 {fi : Nat → Int} {y : LX} : lexF fi y 10 = y.2.2.2 := rfl
theorem lexu {fi : Nat → Int} {y : LX} {j : Nat} {v : Int} (h : j < 7 ∨ 10 < j) : u1 (lexF fi y) j v = lexF (u1 fi j v) y := by
  funext i
  by_cases hi : i = j
  · subst hi; rw [u1_s, lexF_n h, u1_s]
  · rw [u1_n hi]
    unfold lexF ntF
    split
    · rfl
    · split
      · rfl
      · split
        · rfl
        · split
          · rfl
          · rw [u1_n hi]
theorem c_next {r : Nat} {A : Nat → Int} {ia : Nat → Nat → Int} {la : Nat → Nat → BitVec 64} {fi : Nat → Int} {fl : Nat → BitVec 64} {h0 : HP} {X : Nat → Int} {n : Nat} {y : LX} (h4 : fi 4 = (n : Int)) (hn : n ≤ 300) (hy : y.1 ≤ n) (hT : TB (ia 4)) : sp mX10_nextToken [.ref r] (RH r A (u1 ia 3 X) la (lexF fi y) fl h0) 0 0 (pd none (RH r A (u1 ia 3 X) la (lexF fi (nt (ia 4) n y.1)) fl h0)) := by
  have h := c_nextToken (r := r) (A := A) (ia := u1 ia 3 X) (la := la) (fi := fi) (fl := fl) (h0 := h0) (p := y.2.1) (t := y.2.2.1) (m := y.2.2.2) h4 hn hy hT
  exact h
noncomputable def nmT (T : Nat → Int) (n k : Nat) (lo hi : Int) (X : Nat → Int) (a : Nat) : Int × (Nat → Int) × LX :=
  if ¬ (nt T n a).2.2.1 = 1 then (1, X, nt T n a)
  else if ¬ (lo ≤ (nt T n a).2.2.2 ∧ (nt T n a).2.2.2 ≤ hi) then (2, X, nt T n a)
  else (if (nt T n (nt T n a).1).2.2.1 = 59 then 0 else 1, u1 X k (nt T n a).2.2.2, nt T n (nt T n a).1)
set_option maxRecDepth 4000 in
theorem c_numberTo {r : Nat} {A : Nat → Int} {ia : Nat → Nat → Int} {la : Nat → Nat → BitVec 64} {fi : Nat → Int} {fl : Nat → BitVec 64} {h0 : HP} {X : Nat → Int} {n k : Nat} {y : LX} {lo hi : Int} (h4 : fi 4 = (n : Int)) (hn : n ≤ 300) (hy : y.1 ≤ n) (hT : TB (ia 4)) (hk : k < 148) (hlo : ok32 lo) (hhi : ok32 hi) : sp mX10_numberTo [.ref r, .int (zI (k : Int)), .int (zI lo), .int (zI hi)] (RH r A (u1 ia 3 X) la (lexF fi y) fl h0) 0 0 (pd (some (.int (zI (nmT (ia 4) n k lo hi X y.1).1))) (RH r A (u1 ia 3 (nmT (ia 4) n k lo hi X y.1).2.1) la (lexF fi (nmT (ia 4) n k lo hi X y.1).2.2) fl h0)) := by
  obtain ⟨g1, g2, g3, g4, g5⟩ := nt_rng (n := n) (a := y.1) hT hy
  unfold nmT
  refine sp_wp rfl (lv := [_, _, _, _]) rfl (Nat.le_of_ble_eq_true rfl) ?_
  refine w_aload_n dX10_numberTo_0 rfl rfl ?_
  refine wc_Vv (Z := mX10_nextToken) (As := []) (c_next h4 hn hy hT) RH0 rfl kX10_nextToken lX10_127 iX10_nextToken vX10_nextToken dX10_numberTo_1 rfl rfl rfl (Nat.le_of_ble_eq_true rfl) ⟨Nat.le_of_ble_eq_true rfl, Nat.le_of_ble_eq_true rfl⟩ ?_
  generalize nt (ia 4) n y.1 = y1 at *
  obtain ⟨f1, f2, f3, f4, f5⟩ := nt_rng (n := n) (a := y1.1) hT g3
  refine w_aload_n dX10_numberTo_4 rfl rfl ?_
  refine w_getf fX10_114 dX10_numberTo_5 RH0 rfl ?_
  rw [lex9]
  refine w_iconst dX10_numberTo_8 ?_
  refine w_icmp_eq 14 dX10_numberTo_9 (by decide) (by first | assumption | (unfold ok32 at *; omega)) (by first | assumption | (unfold ok32 at *; omega)) (fun c1 => ?_) (fun c1 => ?_)
  · rw [if_neg (fun q => q c1)]
    refine w_aload_n dX10_numberTo_14 rfl rfl ?_
    refine w_getf fX10_111 dX10_numberTo_15 RH0 rfl ?_
    rw [lex10]
    refine w_iload_n dX10_numberTo_18 rfl rfl ?_
    refine w_iload_n dX10_numberTo_19 rfl rfl ?_
    refine wc_S (Z := mX10_isIn) (As := [_, _, _]) (c_isIn (by first | assumption | (unfold ok32 at *; omega)) hlo hhi) kX10_isIn lX10_70 sX10_isIn dX10_numberTo_20 rfl rfl rfl (Nat.le_of_ble_eq_true rfl) ⟨Nat.le_of_ble_eq_true rfl, Nat.le_of_ble_eq_true rfl⟩ ?_
    refine w_ifb_ne 28 dX10_numberTo_23 (by decide) (fun c2 => ?_) (fun c2 => ?_)
    · rw [if_neg (fun q => q c2)]
      refine w_aload_n dX10_numberTo_28 rfl rfl ?_
      refine w_getf fX10_16 dX10_numberTo_29 RH0 rfl ?_
      refine w_iload_n dX10_numberTo_32 rfl rfl ?_
      refine w_aload_n dX10_numberTo_33 rfl rfl ?_
      refine w_getf fX10_111 dX10_numberTo_34 RH0 rfl ?_
      rw [lex10]
      refine r_ist3K k rfl hk dX10_numberTo_37 ?_
      rw [u1_u1, u1_s]
      refine w_aload_n dX10_numberTo_38 rfl rfl ?_
      refine wc_Vv (Z := mX10_nextToken) (As := []) (c_next h4 hn g3 hT) RH0 rfl kX10_nextToken lX10_127 iX10_nextToken vX10_nextToken dX10_numberTo_39 rfl rfl rfl (Nat.le_of_ble_eq_true rfl) ⟨Nat.le_of_ble_eq_true rfl, Nat.le_of_ble_eq_true rfl⟩ ?_
      generalize nt (ia 4) n y1.1 = y2 at *
      refine w_aload_n dX10_numberTo_42 rfl rfl ?_
      refine w_getf fX10_114 dX10_numberTo_43 RH0 rfl ?_
      rw [lex9]
      refine w_bipush dX10_numberTo_46 (by decide) ?_
      refine w_icmp_ne 55 dX10_numberTo_48 (by decide) (by first | assumption | (unfold ok32 at *; omega)) (by first | assumption | (unfold ok32 at *; omega)) (fun c3 => ?_) (fun c3 => ?_)
      · refine w_iconst dX10_numberTo_55 ?_
        refine x_iret rfl rfl dX10_numberTo_56 ⟨?_, rfl⟩
        show _ = some (Value.int (zI (if y2.2.2.1 = 59 then 0 else 1)))
        rw [if_neg c3]
      · refine w_iconst dX10_numberTo_51 ?_
        refine w_goto 56 dX10_numberTo_52 (by decide) ?_
        refine x_iret rfl rfl dX10_numberTo_56 ⟨?_, rfl⟩
        show _ = some (Value.int (zI (if y2.2.2.1 = 59 then 0 else 1)))
        rw [if_pos c3]
    · rw [if_pos c2]
      refine w_iconst dX10_numberTo_26 ?_
      exact x_iret rfl rfl dX10_numberTo_27 ⟨rfl, rfl⟩
  · rw [if_pos c1]
    refine w_iconst dX10_numberTo_12 ?_
    exact x_iret rfl rfl dX10_numberTo_13 ⟨rfl, rfl⟩
/-- entries of a row -/
noncomputable def rwL (T : Nat → Int) (n x row : Nat) : Nat → Nat → (Nat → Int) → LX → Int × (Nat → Int) × LX
  | 0, _, X, y => (1, X, y)
  | f + 1, c, X, y => if y.2.2.1 = 1 ∨ y.2.2.1 = 46 then (if y.2.2.1 = 1 ∧ X x ≤ y.2.2.2 then (2, X, y) else if c = 8 then (3, X, y) else rwL T n x row f (c + 1) (u1 X (row + c) (if y.2.2.1 = 46 then -1 else y.2.2.2)) (nt T n y.1)) else if ¬ y.2.2.1 = 59 ∨ c = 0 then (1, X, y) else (if (c : Int) = (if X (x + 1) = 1 then u1 X (x + 2) (c : Int) else X) (x + 2) then 0 else 5, if X (x + 1) = 1 then u1 X (x + 2) (c : Int) else X, y)
noncomputable def rwC (T : Nat → Int) (n x : Nat) (X : Nat → Int) (y : LX) : Int × (Nat → Int) × LX :=
  if X (x + 1) = 4 then (3, X, y) else rwL T n x (x + 5 + 8 * (X (x + 1)).toNat) 10 0 (u1 X (x + 1) (X (x + 1) + 1)) (nt T n y.1)
/-- the text at t that is being read -/
def PXI (X : Nat → Int) (t : Nat) : Prop := TXO X t ∧ (1 ≤ X (37 * t) ∧ X (37 * t) ≤ 6) ∧ (0 ≤ X (37 * t + 1) ∧ X (37 * t + 1) ≤ 4) ∧ (0 ≤ X (37 * t + 2) ∧ X (37 * t + 2) ≤ 8) ∧ (0 ≤ X (37 * t + 3) ∧ X (37 * t + 3) ≤ 9) ∧ 1 ≤ X (37 * t + 4) ∧ X (37 * t + 4) ≤ 31
theorem PXI.put {X : Nat → Int} {t k : Nat} {v : Int} (h : PXI X t) (ht : t < 4) (hk : k < 37) (hv : (k = 0 → 1 ≤ v ∧ v ≤ 6) ∧ (k = 1 → 0 ≤ v ∧ v ≤ 4) ∧ (k = 2 → 0 ≤ v ∧ v ≤ 8) ∧ (k = 3 → 0 ≤ v ∧ v ≤ 9) ∧ (k = 4 → 1 ≤ v ∧ v ≤ 31) ∧ (5 ≤ k → -1 ≤ v ∧ v ≤ 5)) : PXI (u1 X (37 * t + k) v) t := by
  obtain ⟨⟨h1, h2⟩, h3, h4, h5, h6, h7⟩ := h
  obtain ⟨w0, w1, w2, w3, w4, w5⟩ := hv
  refine ⟨⟨fun i hi j hj => ?_, fun i hi => ?_⟩, ?_, ?_, ?_, ?_, ?_⟩
  · by_cases he : 37 * i + 5 + j = 37 * t + k
    · rw [he, u1_s]; exact w5 (by omega)
    · rw [u1_n he]; exact h1 i hi j hj
  · rw [u1_n (by omega), u1_n (by omega), u1_n (by omega), u1_n (by omega), u1_n (by omega)]
    exact h2 i hi
  · by_cases he : 37 * t = 37 * t + k
    · rw [← he, u1_s]; exact w0 (by omega)
    · rw [u1_n he]; exact h3
  · by_cases he : 37 * t + 1 = 37 * t + k
    · rw [← he, u1_s]; exact w1 (by omega)
    · rw [u1_n he]; exact h4
  · by_cases he : 37 * t + 2 = 37 * t + k
    · rw [← he, u1_s]; exact w2 (by omega)
    · rw [u1_n he]; exact h5
  · by_cases he : 37 * t + 3 = 37 * t + k
    · rw [← he, u1_s]; exact w3 (by omega)
    · rw [u1_n he]; exact h6
  · by_cases he : 37 * t + 4 = 37 * t + k
    · rw [← he, u1_s]; exact w4 (by omega)
    · rw [u1_n he]; exact h7
set_option maxRecDepth 4000 in
theorem c_rowClause {r : Nat} {A : Nat → Int} {ia : Nat → Nat → Int} {la : Nat → Nat → BitVec 64} {fi : Nat → Int} {fl : Nat → BitVec 64} {h0 : HP} {X : Nat → Int} {n t : Nat} {y : LX} (h4 : fi 4 = (n : Int)) (hn : n ≤ 300) (hy : y.1 ≤ n) (hT : TB (ia 4)) (ht : t < 4) (hX : PXI X t) : sp mX10_rowClause [.ref r, .int (zI ((37 * t : Nat) : Int))] (RH r A (u1 ia 3 X) la (lexF fi y) fl h0) 0 0 (pd (some (.int (zI (rwC (ia 4) n (37 * t) X y).1))) (RH r A (u1 ia 3 (rwC (ia 4) n (37 * t) X y).2.1) la (lexF fi (rwC (ia 4) n (37 * t) X y).2.2) fl h0)) := by
  obtain ⟨x1, x2, x3, x4, x5, x6⟩ := id hX
  unfold rwC
  refine sp_wp rfl (lv := [_, _, _, _]) rfl (Nat.le_of_ble_eq_true rfl) ?_
  refine w_aload_n dX10_rowClause_0 rfl rfl ?_
  refine w_getf fX10_16 dX10_rowClause_1 RH0 rfl ?_
  refine w_iload_n dX10_rowClause_4 rfl rfl ?_
  refine w_iconst dX10_rowClause_5 ?_
  refine w_iadd dX10_rowClause_6 ?_
  refine w_iald (37 * t + 1) RH3 (by omega) (by omega) (by decide) dX10_rowClause_7 ?_
  rw [u1_s]
  refine w_iconst dX10_rowClause_8 ?_
  refine w_icmp_ne 14 dX10_rowClause_9 (by decide) (by first | assumption | (unfold ok32 at *; omega)) (by first | assumption | (unfold ok32 at *; omega)) (fun c1 => ?_) (fun c1 => ?_)
  rotate_left
  · rw [if_pos c1]
    refine w_iconst dX10_rowClause_12 ?_
    exact x_iret rfl rfl dX10_rowClause_13 ⟨rfl, rfl⟩
  · rw [if_neg c1]
    obtain ⟨R0, hR0⟩ : ∃ R0 : Nat, X (37 * t + 1) = (R0 : Int) := ⟨(X (37 * t + 1)).toNat, by omega⟩
    rw [hR0, Int.toNat_natCast]
    obtain ⟨Z, hZ⟩ : ∃ Z, rwL (ia 4) n (37 * t) (37 * t + 5 + 8 * R0) 10 0 (u1 X (37 * t + 1) ((R0 : Int) + 1)) (nt (ia 4) n y.1) = Z := ⟨_, rfl⟩
    rw [hZ]
    refine w_iload_n dX10_rowClause_14 rfl rfl ?_
    refine w_iconst dX10_rowClause_15 ?_
    refine w_iadd dX10_rowClause_16 ?_
    refine w_bipush dX10_rowClause_17 (by decide) ?_
    refine w_aload_n dX10_rowClause_19 rfl rfl ?_
    refine w_getf fX10_16 dX10_rowClause_20 RH0 rfl ?_
    refine w_iload_n dX10_rowClause_23 rfl rfl ?_
    refine w_iconst dX10_rowClause_24 ?_
    refine w_iadd dX10_rowClause_25 ?_
    refine w_iald (37 * t + 1) RH3 (by omega) (by omega) (by decide) dX10_rowClause_26 ?_
    rw [u1_s, hR0]
    refine w_imul dX10_rowClause_27 ?_
    refine w_iadd dX10_rowClause_28 ?_
    refine w_istore_n (lv' := [_, _, _, _]) dX10_rowClause_29 rfl (Nat.le_of_ble_eq_true rfl) rfl rfl ?_
    refine w_aload_n dX10_rowClause_30 rfl rfl ?_
    refine w_getf fX10_16 dX10_rowClause_31 RH0 rfl ?_
    refine w_iload_n dX10_rowClause_34 rfl rfl ?_
    refine w_iconst dX10_rowClause_35 ?_
    refine w_iadd dX10_rowClause_36 ?_
    refine w_dup2 dX10_rowClause_37 rfl rfl ?_
    refine w_iald (37 * t + 1) RH3 (by omega) (by omega) (by decide) dX10_rowClause_38 ?_
    rw [u1_s, hR0]
    refine w_iconst dX10_rowClause_39 ?_
    refine w_iadd dX10_rowClause_40 ?_
    refine r_ist3K (37 * t + 1) (by omega) (by omega) dX10_rowClause_41 ?_
    rw [u1_u1, u1_s]
    refine w_iconst dX10_rowClause_42 ?_
    refine w_istore_n (lv' := [_, _, _, _]) dX10_rowClause_43 rfl (Nat.le_of_ble_eq_true rfl) rfl rfl ?_
    refine w_aload_n dX10_rowClause_44 rfl rfl ?_
    refine wc_Vv (Z := mX10_nextToken) (As := []) (c_next h4 hn hy hT) RH0 rfl kX10_nextToken lX10_127 iX10_nextToken vX10_nextToken dX10_rowClause_45 rfl rfl rfl (Nat.le_of_ble_eq_true rfl) ⟨Nat.le_of_ble_eq_true rfl, Nat.le_of_ble_eq_true rfl⟩ ?_
    rw [show ((37 * t : Nat) : Int) + 5 + 8 * (R0 : Int) = ((37 * t + 5 + 8 * R0 : Nat) : Int) by omega]
    have key : ∀ (f c : Nat) (X1 : Nat → Int) (y1 : LX), c + f = 10 → c ≤ 8 → PXI X1 t → X1 (37 * t + 1) = (R0 : Int) + 1 → y1.1 ≤ n → (0 ≤ y1.2.2.1 ∧ y1.2.2.1 ≤ 203) ∧ 0 ≤ y1.2.2.2 ∧ y1.2.2.2 ≤ 99999 → rwL (ia 4) n (37 * t) (37 * t + 5 + 8 * R0) f c X1 y1 = Z → wp mX10_rowClause 48 [.ref r, .int (zI ((37 * t : Nat) : Int)), .int (zI ((37 * t + 5 + 8 * R0 : Nat) : Int)), .int (zI (c : Int))] [] (RH r A (u1 ia 3 X1) la (lexF fi y1) fl h0) 0 0 (pd (some (.int (zI Z.1))) (RH r A (u1 ia 3 Z.2.1) la (lexF fi Z.2.2) fl h0)) := by
      intro f
      induction f with
      | zero => intro c X1 y1 h1 h2; omega
      | succ f ih =>
        intro c X1 y1 h1 h2 hX1 hrow hy1 hrg hz
        obtain ⟨p1, p2, p3, p4, p5, p6⟩ := id hX1
        unfold rwL at hz
        have body : (y1.2.2.1 = 1 ∨ y1.2.2.1 = 46) → wp mX10_rowClause 65 [.ref r, .int (zI ((37 * t : Nat) : Int)), .int (zI ((37 * t + 5 + 8 * R0 : Nat) : Int)), .int (zI (c : Int))] [] (RH r A (u1 ia 3 X1) la (lexF fi y1) fl h0) 0 0 (pd (some (.int (zI Z.1))) (RH r A (u1 ia 3 Z.2.1) la (lexF fi Z.2.2) fl h0)) := by
          intro hc
          rw [if_pos hc] at hz
          have store : ¬ (y1.2.2.1 = 1 ∧ X1 (37 * t) ≤ y1.2.2.2) → wp mX10_rowClause 88 [.ref r, .int (zI ((37 * t : Nat) : Int)), .int (zI ((37 * t + 5 + 8 * R0 : Nat) : Int)), .int (zI (c : Int))] [] (RH r A (u1 ia 3 X1) la (lexF fi y1) fl h0) 0 0 (pd (some (.int (zI Z.1))) (RH r A (u1 ia 3 Z.2.1) la (lexF fi Z.2.2) fl h0)) := by
            intro hs
            rw [if_neg hs] at hz
            refine w_iload_n dX10_rowClause_88 rfl rfl ?_
            refine w_bipush dX10_rowClause_89 (by decide) ?_
            refine w_icmp_ne 96 dX10_rowClause_91 (by decide) (by first | assumption | (unfold ok32 at *; omega)) (by first | assumption | (unfold ok32 at *; omega)) (fun c8 => ?_) (fun c8 => ?_)
            · rw [if_neg (by omega)] at hz
              have put : ∀ v : Int, v = (if y1.2.2.1 = 46 then -1 else y1.2.2.2) → -1 ≤ v ∧ v ≤ 5 → wp mX10_rowClause 120 [.ref r, .int (zI ((37 * t : Nat) : Int)), .int (zI ((37 * t + 5 + 8 * R0 : Nat) : Int)), .int (zI (c : Int))] [.int (zI v), .int (zI (((37 * t + 5 + 8 * R0 : Nat) : Int) + (c : Int))), .ref (r + 3)] (RH r A (u1 ia 3 X1) la (lexF fi y1) fl h0) 0 0 (pd (some (.int (zI Z.1))) (RH r A (u1 ia 3 Z.2.1) la (lexF fi Z.2.2) fl h0)) := by
                intro v hv hvr
                rw [← hv] at hz
                refine r_ist3K (37 * t + 5 + 8 * R0 + c) (by omega) (by omega) dX10_rowClause_120 ?_
                rw [u1_u1, u1_s]
                refine w_iinc (lv' := [_, _, _, _]) dX10_rowClause_121 rfl rfl rfl ?_
                refine w_aload_n dX10_rowClause_124 rfl rfl ?_
                refine wc_Vv (Z := mX10_nextToken) (As := []) (c_next h4 hn hy1 hT) RH0 rfl kX10_nextToken lX10_127 iX10_nextToken vX10_nextToken dX10_rowClause_125 rfl rfl rfl (Nat.le_of_ble_eq_true rfl) ⟨Nat.le_of_ble_eq_true rfl, Nat.le_of_ble_eq_true rfl⟩ ?_
                refine w_goto 48 dX10_rowClause_128 (by decide) ?_
                obtain ⟨g1, g2, g3, g4, g5⟩ := nt_rng (n := n) (a := y1.1) hT hy1
                refine ih (c + 1) _ _ (by omega) (by omega) ?_ ?_ g3 ⟨g4, g5⟩ hz
                · have e : 37 * t + 5 + 8 * R0 + c = 37 * t + (5 + 8 * R0 + c) := by omega
                  rw [e]
                  exact hX1.put ht (by omega) ⟨fun _ => by omega, fun _ => by omega, fun _ => by omega, fun _ => by omega, fun _ => by omega, fun _ => hvr⟩
                · rw [u1_n (by omega)]; exact hrow
              refine w_aload_n dX10_rowClause_96 rfl rfl ?_
              refine w_getf fX10_16 dX10_rowClause_97 RH0 rfl ?_
              refine w_iload_n dX10_rowClause_100 rfl rfl ?_
              refine w_iload_n dX10_rowClause_101 rfl rfl ?_
              refine w_iadd dX10_rowClause_102 ?_
              refine w_aload_n dX10_rowClause_103 rfl rfl ?_
              refine w_getf fX10_114 dX10_rowClause_104 RH0 rfl ?_
              rw [lex9]
              refine w_bipush dX10_rowClause_107 (by decide) ?_
              refine w_icmp_ne 116 dX10_rowClause_109 (by decide) (by first | assumption | (unfold ok32 at *; omega)) (by first | assumption | (unfold ok32 at *; omega)) (fun c46 => ?_) (fun c46 => ?_)
              · refine w_aload_n dX10_rowClause_116 rfl rfl ?_
                refine w_getf fX10_111 dX10_rowClause_117 RH0 rfl ?_
                rw [lex10]
                exact put _ (by rw [if_neg c46]) (by omega)
              · refine w_iconst dX10_rowClause_112 ?_
                refine w_goto 120 dX10_rowClause_113 (by decide) ?_
                exact put _ (by rw [if_pos c46]) (by omega)
            · rw [if_pos (by omega)] at hz
              refine w_iconst dX10_rowClause_94 ?_
              subst hz
              exact x_iret rfl rfl dX10_rowClause_95 ⟨rfl, rfl⟩
          refine w_aload_n dX10_rowClause_65 rfl rfl ?_
          refine w_getf fX10_114 dX10_rowClause_66 RH0 rfl ?_
          rw [lex9]
          refine w_iconst dX10_rowClause_69 ?_
          refine w_icmp_ne 88 dX10_rowClause_70 (by decide) (by first | assumption | (unfold ok32 at *; omega)) (by first | assumption | (unfold ok32 at *; omega)) (fun c1 => ?_) (fun c1 => ?_)
          · exact store (fun q => c1 q.1)
          · refine w_aload_n dX10_rowClause_73 rfl rfl ?_
            refine w_getf fX10_111 dX10_rowClause_74 RH0 rfl ?_
            rw [lex10]
            refine w_aload_n dX10_rowClause_77 rfl rfl ?_
            refine w_getf fX10_16 dX10_rowClause_78 RH0 rfl ?_
            refine w_iload_n dX10_rowClause_81 rfl rfl ?_
            refine w_iald (37 * t) RH3 (by omega) (by omega) (by decide) dX10_rowClause_82 ?_
            rw [u1_s]
            refine w_icmp_lt 88 dX10_rowClause_83 (by decide) (by first | assumption | (unfold ok32 at *; omega)) (by first | assumption | (unfold ok32 at *; omega)) (fun c2 => ?_) (fun c2 => ?_)
            · exact store (fun q => by omega)
            · rw [if_pos ⟨c1, by omega⟩] at hz
              refine w_iconst dX10_rowClause_86 ?_
              subst hz
              exact x_iret rfl rfl dX10_rowClause_87 ⟨rfl, rfl⟩
        refine w_aload_n dX10_rowClause_48 rfl rfl ?_
        refine w_getf fX10_114 dX10_rowClause_49 RH0 rfl ?_
        rw [lex9]
        refine w_iconst dX10_rowClause_52 ?_
        refine w_icmp_eq 65 dX10_rowClause_53 (by decide) (by first | assumption | (unfold ok32 at *; omega)) (by first | assumption | (unfold ok32 at *; omega)) (fun c1 => ?_) (fun c1 => ?_)
        · exact body (Or.inl c1)
        · refine w_aload_n dX10_rowClause_56 rfl rfl ?_
          refine w_getf fX10_114 dX10_rowClause_57 RH0 rfl ?_
          rw [lex9]
          refine w_bipush dX10_rowClause_60 (by decide) ?_
          refine w_icmp_ne 131 dX10_rowClause_62 (by decide) (by first | assumption | (unfold ok32 at *; omega)) (by first | assumption | (unfold ok32 at *; omega)) (fun c2 => ?_) (fun c2 => ?_)
          rotate_left
          · exact body (Or.inr c2)
          · rw [if_neg (fun q => q.elim c1 c2)] at hz
            have bad : (¬ y1.2.2.1 = 59 ∨ c = 0) → wp mX10_rowClause 144 [.ref r, .int (zI ((37 * t : Nat) : Int)), .int (zI ((37 * t + 5 + 8 * R0 : Nat) : Int)), .int (zI (c : Int))] [] (RH r A (u1 ia 3 X1) la (lexF fi y1) fl h0) 0 0 (pd (some (.int (zI Z.1))) (RH r A (u1 ia 3 Z.2.1) la (lexF fi Z.2.2) fl h0)) := by
              intro hb
              rw [if_pos hb] at hz
              refine w_iconst dX10_rowClause_144 ?_
              subst hz
              exact x_iret rfl rfl dX10_rowClause_145 ⟨rfl, rfl⟩
            refine w_aload_n dX10_rowClause_131 rfl rfl ?_
            refine w_getf fX10_114 dX10_rowClause_132 RH0 rfl ?_
            rw [lex9]
            refine w_bipush dX10_rowClause_135 (by decide) ?_
            refine w_icmp_ne 144 dX10_rowClause_137 (by decide) (by first | assumption | (unfold ok32 at *; omega)) (by first | assumption | (unfold ok32 at *; omega)) (fun c3 => ?_) (fun c3 => ?_)
            · exact bad (Or.inl c3)
            · refine w_iload_n dX10_rowClause_140 rfl rfl ?_
              refine w_if_ne 146 dX10_rowClause_141 (by decide) (by first | assumption | (unfold ok32 at *; omega)) (fun c5 => ?_) (fun c5 => ?_)
              rotate_left
              · exact bad (Or.inr (by omega))
              · rw [if_neg (fun q => q.elim (fun q => q c3) (fun q => by omega))] at hz
                have fin : ∀ X2 : Nat → Int, X2 = (if X1 (37 * t + 1) = 1 then u1 X1 (37 * t + 2) (c : Int) else X1) → PXI X2 t → wp mX10_rowClause 167 [.ref r, .int (zI ((37 * t : Nat) : Int)), .int (zI ((37 * t + 5 + 8 * R0 : Nat) : Int)), .int (zI (c : Int))] [] (RH r A (u1 ia 3 X2) la (lexF fi y1) fl h0) 0 0 (pd (some (.int (zI Z.1))) (RH r A (u1 ia 3 Z.2.1) la (lexF fi Z.2.2) fl h0)) := by
                  intro X2 hX2 hP2
                  obtain ⟨z1, z2, z3, z4, z5, z6⟩ := id hP2
                  rw [← hX2] at hz
                  refine w_iload_n dX10_rowClause_167 rfl rfl ?_
                  refine w_aload_n dX10_rowClause_168 rfl rfl ?_
                  refine w_getf fX10_16 dX10_rowClause_169 RH0 rfl ?_
                  refine w_iload_n dX10_rowClause_172 rfl rfl ?_
                  refine w_iconst dX10_rowClause_173 ?_
                  refine w_iadd dX10_rowClause_174 ?_
                  refine w_iald (37 * t + 2) RH3 (by omega) (by omega) (by decide) dX10_rowClause_175 ?_
                  rw [u1_s]
                  refine w_icmp_ne 183 dX10_rowClause_176 (by decide) (by first | assumption | (unfold ok32 at *; omega)) (by first | assumption | (unfold ok32 at *; omega)) (fun c6 => ?_) (fun c6 => ?_)
                  · rw [if_neg c6] at hz
                    refine w_iconst dX10_rowClause_183 ?_
                    subst hz
                    exact x_iret rfl rfl dX10_rowClause_184 ⟨rfl, rfl⟩
                  · rw [if_pos c6] at hz
                    refine w_iconst dX10_rowClause_179 ?_
                    refine w_goto 184 dX10_rowClause_180 (by decide) ?_
                    subst hz
                    exact x_iret rfl rfl dX10_rowClause_184 ⟨rfl, rfl⟩
                refine w_aload_n dX10_rowClause_146 rfl rfl ?_
                refine w_getf fX10_16 dX10_rowClause_147 RH0 rfl ?_
                refine w_iload_n dX10_rowClause_150 rfl rfl ?_
                refine w_iconst dX10_rowClause_151 ?_
                refine w_iadd dX10_rowClause_152 ?_
                refine w_iald (37 * t + 1) RH3 (by omega) (by omega) (by decide) dX10_rowClause_153 ?_
                rw [u1_s]
                refine w_iconst dX10_rowClause_154 ?_
                refine w_icmp_ne 167 dX10_rowClause_155 (by decide) (by first | assumption | (unfold ok32 at *; omega)) (by first | assumption | (unfold ok32 at *; omega)) (fun c7 => ?_) (fun c7 => ?_)
                · exact fin X1 (by rw [if_neg c7]) hX1
                · refine w_aload_n dX10_rowClause_158 rfl rfl ?_
                  refine w_getf fX10_16 dX10_rowClause_159 RH0 rfl ?_
                  refine w_iload_n dX10_rowClause_162 rfl rfl ?_
                  refine w_iconst dX10_rowClause_163 ?_
                  refine w_iadd dX10_rowClause_164 ?_
                  refine w_iload_n dX10_rowClause_165 rfl rfl ?_
                  refine r_ist3K (37 * t + 2) (by omega) (by omega) dX10_rowClause_166 ?_
                  rw [u1_u1, u1_s]
                  exact fin _ (by rw [if_pos c7]) (hX1.put (k := 2) ht (by omega) ⟨fun _ => by omega, fun _ => by omega, fun _ => by omega, fun _ => by omega, fun _ => by omega, fun _ => by omega⟩)
    obtain ⟨g1, g2, g3, g4, g5⟩ := nt_rng (n := n) (a := y.1) hT hy
    exact key 10 0 _ _ rfl (by omega) (hX.put (k := 1) ht (by omega) ⟨fun _ => by omega, fun _ => by omega, fun _ => by omega, fun _ => by omega, fun _ => by omega, fun _ => by omega⟩) u1_s g3 ⟨g4, g5⟩ hZ

