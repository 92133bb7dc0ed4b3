def LXI (n : Nat) (y : LX) : Prop := y.1 ≤ n ∧ y.2.1 ≤ n ∧ (0 ≤ y.2.2.1 ∧ y.2.2.1 ≤ 203) ∧ 0 ≤ y.2.2.2 ∧ y.2.2.2 ≤ 99999
def Oth (X X' : Nat → Int) (t : Nat) : Prop := ∀ j, j < 37 * t ∨ 37 * t + 37 ≤ j → X' j = X j
theorem nt_lxi {T : Nat → Int} {n a : Nat} (hT : TB T) (h : a ≤ n) : LXI n (nt T n a) ∧ a ≤ (nt T n a).1 := by
  obtain ⟨g1, g2, g3, g4, g5⟩ := nt_rng (n := n) (a := a) hT h
  exact ⟨⟨g3, by omega, g4, g5⟩, by omega⟩
def PRW (n t : Nat) (X : Nat → Int) (a : Nat) (Z : Int × (Nat → Int) × LX) : Prop := PXI Z.2.1 t ∧ Oth X Z.2.1 t ∧ LXI n Z.2.2 ∧ a ≤ Z.2.2.1 ∧ (Z.1 = 0 → (1 ≤ X (37 * t + 1) → 1 ≤ X (37 * t + 2)) → 1 ≤ Z.2.1 (37 * t + 1) → 1 ≤ Z.2.1 (37 * t + 2)) ∧ 0 ≤ Z.1 ∧ Z.1 ≤ 5
theorem nmT_ok {T X : Nat → Int} {n t k a : Nat} {lo hi : Int} (hT : TB T) (ha : a ≤ n) (ht : t < 4) (hX : PXI X t) (hk : (k = 0 ∧ lo = 1 ∧ hi = 6) ∨ (k = 3 ∧ lo = 0 ∧ hi = 9) ∨ (k = 4 ∧ lo = 1 ∧ hi = 31)) : PRW n t X a (nmT T n (37 * t + k) lo hi X a) := by
  obtain ⟨g1, g2⟩ := nt_lxi (n := n) (a := a) hT ha
  obtain ⟨f1, f2⟩ := nt_lxi (n := n) (a := (nt T n a).1) hT g1.1
  unfold nmT
  split
  · exact ⟨hX, fun _ _ => rfl, g1, g2, fun h => absurd h (by show ¬ (1 : Int) = 0; omega), by show (0 : Int) ≤ 1; omega, by show (1 : Int) ≤ 5; omega⟩
  · split
    · exact ⟨hX, fun _ _ => rfl, g1, g2, fun h => absurd h (by show ¬ (2 : Int) = 0; omega), by show (0 : Int) ≤ 2; omega, by show (2 : Int) ≤ 5; omega⟩
    · rename_i hc
      have hc2 := Classical.byContradiction hc
      refine ⟨hX.put ht (by omega) ⟨fun _ => by omega, fun _ => by omega, fun _ => by omega, fun _ => by omega, fun _ => by omega, fun _ => by omega⟩, fun j hj => u1_n (by omega), f1, Nat.le_trans g2 f2, fun _ h1 h2 => ?_, ?_, ?_⟩
      · have e1 : (u1 X (37 * t + k) (nt T n a).2.2.2) (37 * t + 1) = X (37 * t + 1) := u1_n (by omega)
        have e2 : (u1 X (37 * t + k) (nt T n a).2.2.2) (37 * t + 2) = X (37 * t + 2) := u1_n (by omega)
        show 1 ≤ (u1 X (37 * t + k) (nt T n a).2.2.2) (37 * t + 2)
        rw [e2]
        refine h1 ?_
        rw [← e1]
        exact h2
      · show 0 ≤ (if (nt T n (nt T n a).1).2.2.1 = 59 then (0 : Int) else 1)
        split <;> omega
      · show (if (nt T n (nt T n a).1).2.2.1 = 59 then (0 : Int) else 1) ≤ 5
        split <;> omega
theorem rwL_ok {T : Nat → Int} {n t R0 : Nat} (hT : TB T) (ht : t < 4) (hR : R0 < 4) {X : Nat → Int} {a : Nat} : ∀ {f c : Nat} {X1 : Nat → Int} {y1 : LX}, c + f = 10 → c ≤ 8 → PXI X1 t → Oth X X1 t → LXI n y1 → a ≤ y1.1 → PRW n t X a (rwL T n (37 * t) (37 * t + 5 + 8 * R0) f c X1 y1)
  | 0, c, X1, y1, h1, h2, _, _, _, _ => by omega
  | f + 1, c, X1, y1, h1, h2, hX, hO, hL, ha => by
    obtain ⟨x1, x2, x3, x4, x5, x6⟩ := id hX
    unfold rwL
    split
    · rename_i hc
      split
      · exact ⟨hX, hO, hL, ha, fun h => absurd h (by show ¬ (2 : Int) = 0; omega), by show (0 : Int) ≤ 2; omega, by show (2 : Int) ≤ 5; omega⟩
      · rename_i hc2
        split
        · exact ⟨hX, hO, hL, ha, fun h => absurd h (by show ¬ (3 : Int) = 0; omega), by show (0 : Int) ≤ 3; omega, by show (3 : Int) ≤ 5; omega⟩
        · obtain ⟨g1, g2⟩ := nt_lxi (n := n) (a := y1.1) hT hL.1
          have e : 37 * t + 5 + 8 * R0 + c = 37 * t + (5 + 8 * R0 + c) := by omega
          refine rwL_ok hT ht hR (by omega) (by omega) ?_ (fun j hj => ?_) g1 (by omega)
          · rw [e]
            refine hX.put ht (by omega) ⟨fun _ => by omega, fun _ => by omega, fun _ => by omega, fun _ => by omega, fun _ => by omega, fun _ => ?_⟩
            have := hL.2.2.2
            split <;> omega
          · rw [u1_n (by omega)]; exact hO j hj
    · split
      · exact ⟨hX, hO, hL, ha, fun h => absurd h (by show ¬ (1 : Int) = 0; omega), by show (0 : Int) ≤ 1; omega, by show (1 : Int) ≤ 5; omega⟩
      · rename_i hc2
        have hc0 : ¬ c = 0 := fun q => hc2 (Or.inr q)
        have hP2 : PXI (if X1 (37 * t + 1) = 1 then u1 X1 (37 * t + 2) (c : Int) else X1) t ∧ Oth X (if X1 (37 * t + 1) = 1 then u1 X1 (37 * t + 2) (c : Int) else X1) t := by
          split
          · exact ⟨hX.put (k := 2) ht (by omega) ⟨fun _ => by omega, fun _ => by omega, fun _ => by omega, fun _ => by omega, fun _ => by omega, fun _ => by omega⟩, fun j hj => by rw [u1_n (by omega)]; exact hO j hj⟩
          · exact ⟨hX, hO⟩
        generalize (if X1 (37 * t + 1) = 1 then u1 X1 (37 * t + 2) (c : Int) else X1) = X2 at *
        refine ⟨hP2.1, hP2.2, hL, ha, fun h _ _ => ?_, ?_, ?_⟩
        · have h6 : (if (c : Int) = X2 (37 * t + 2) then (0 : Int) else 5) = 0 := h
          by_cases h7 : (c : Int) = X2 (37 * t + 2)
          · show 1 ≤ X2 (37 * t + 2)
            omega
          · rw [if_neg h7] at h6; omega
        · show 0 ≤ (if (c : Int) = X2 (37 * t + 2) then (0 : Int) else 5)
          split <;> omega
        · show (if (c : Int) = X2 (37 * t + 2) then (0 : Int) else 5) ≤ 5
          split <;> omega
theorem rwC_ok {T X : Nat → Int} {n t : Nat} {y : LX} (hT : TB T) (ht : t < 4) (hX : PXI X t) (hy : LXI n y) : PRW n t X y.1 (rwC T n (37 * t) X y) := by
  obtain ⟨x1, x2, x3, x4, x5, x6⟩ := id hX
  unfold rwC
  split
  · exact ⟨hX, fun _ _ => rfl, hy, Nat.le_refl _, fun h => absurd h (by show ¬ (3 : Int) = 0; omega), by show (0 : Int) ≤ 3; omega, by show (3 : Int) ≤ 5; omega⟩
  · obtain ⟨g1, g2⟩ := nt_lxi (n := n) (a := y.1) hT hy.1
    refine rwL_ok hT ht (by omega) rfl (by omega) ?_ (fun j hj => u1_n (by omega)) g1 g2
    exact hX.put (k := 1) ht (by omega) ⟨fun _ => by omega, fun _ => by omega, fun _ => by omega, fun _ => by omega, fun _ => by omega, fun _ => by omega⟩
/-! a clause -/
abbrev C5 : Type := (Int × (Nat → Int) × LX) × Int × Int
noncomputable def clS (T : Nat → Int) (n x cl : Nat) (X : Nat → Int) (y : LX) (o s : Int) : C5 :=
  if y.2.2.1 = 200 then (if 0 < cl then ((4, X, y), o, s) else (nmT T n x 1 6 X y.1, o, s))
  else if y.2.2.1 = 201 then (rwC T n x X y, o, s)
  else if y.2.2.1 = 202 then (if o = 0 then (nmT T n (x + 3) 0 9 X y.1, 1, s) else ((4, X, y), o, s))
  else if y.2.2.1 = 203 then (if s = 0 then (nmT T n (x + 4) 1 31 X y.1, o, 1) else ((4, X, y), o, s))
  else ((1, X, y), o, s)
theorem clS_ok {T X : Nat → Int} {n t cl : Nat} {y : LX} {o s : Int} (hT : TB T) (ht : t < 4) (hX : PXI X t) (hy : LXI n y) (ho : 0 ≤ o ∧ o ≤ 1) (hs : 0 ≤ s ∧ s ≤ 1) : PRW n t X y.1 (clS T n (37 * t) cl X y o s).1 ∧ (0 ≤ (clS T n (37 * t) cl X y o s).2.1 ∧ (clS T n (37 * t) cl X y o s).2.1 ≤ 1) ∧ 0 ≤ (clS T n (37 * t) cl X y o s).2.2 ∧ (clS T n (37 * t) cl X y o s).2.2 ≤ 1 := by
  have one : (0 : Int) ≤ 1 ∧ (1 : Int) ≤ 1 := by omega
  have stay : ∀ e : Int, ¬ e = 0 → 0 ≤ e → e ≤ 5 → PRW n t X y.1 (e, X, y) := fun e h1 h2 h3 => ⟨hX, fun _ _ => rfl, hy, Nat.le_refl _, fun h => absurd h h1, h2, h3⟩
  unfold clS
  split
  · split
    · exact ⟨stay 4 (by omega) (by omega) (by omega), ho, hs⟩
    · exact ⟨nmT_ok (k := 0) hT hy.1 ht hX (by omega), ho, hs⟩
  · split
    · exact ⟨rwC_ok hT ht hX hy, ho, hs⟩
    · split
      · split
        · exact ⟨nmT_ok (k := 3) hT hy.1 ht hX (by omega), one, hs⟩
        · exact ⟨stay 4 (by omega) (by omega) (by omega), ho, hs⟩
      · split
        · split
          · exact ⟨nmT_ok (k := 4) hT hy.1 ht hX (by omega), ho, one⟩
          · exact ⟨stay 4 (by omega) (by omega) (by omega), ho, hs⟩
        · exact ⟨stay 1 (by omega) (by omega) (by omega), ho, hs⟩
def flg (fi : Nat → Int) (c o s : Int) : Nat → Int := u1 (u1 (u1 fi 11 c) 12 o) 13 s
theorem flg11 {fi : Nat → Int} {c o s v : Int} : u1 (flg fi c o s) 11 v = flg fi v o s := by
  funext j
  unfold flg u1
  by_cases h1 : j = 11
  · subst h1; rfl
  · rw [if_neg h1, if_neg h1, if_neg h1]
theorem flg12 {fi : Nat → Int} {c o s v : Int} : u1 (flg fi c o s) 12 v = flg fi c v s := by
  funext j
  unfold flg u1
  by_cases h1 : j = 12
  · subst h1; rfl
  · rw [if_neg h1, if_neg h1, if_neg h1]
theorem flg13 {fi : Nat → Int} {c o s v : Int} : u1 (flg fi c o s) 13 v = flg fi c o v := by
  unfold flg; rw [u1_u1]
set_option maxRecDepth 4000 in
theorem c_clause {r : Nat} {A : Nat → Int} {ia : Nat → Nat → Int} {la : Nat → Nat → BitVec 64} {fi : Nat → Int} {fl : Nat → BitVec 64} {h0 : HP} {X : Nat → Int} {n t cl : Nat} {y : LX} {o s : Int} (h4 : fi 4 = (n : Int)) (hn : n ≤ 300) (hT : TB (ia 4)) (ht : t < 4) (hX : PXI X t) (hy : LXI n y) (ho : 0 ≤ o ∧ o ≤ 1) (hs : 0 ≤ s ∧ s ≤ 1) (hcl : cl ≤ 1000) : sp mX10_clause [.ref r, .int (zI ((37 * t : Nat) : Int))] (RH r A (u1 ia 3 X) la (lexF (flg fi cl o s) y) fl h0) 0 0 (pd (some (.int (zI (clS (ia 4) n (37 * t) cl X y o s).1.1))) (RH r A (u1 ia 3 (clS (ia 4) n (37 * t) cl X y o s).1.2.1) la (lexF (flg fi cl (clS (ia 4) n (37 * t) cl X y o s).2.1 (clS (ia 4) n (37 * t) cl X y o s).2.2) (clS (ia 4) n (37 * t) cl X y o s).1.2.2) fl h0)) := by
  have F4 : ∀ c o s : Int, flg fi c o s 4 = (n : Int) := fun c o s => h4
  unfold clS
  refine sp_wp rfl (lv := [_, _]) rfl (Nat.le_of_ble_eq_true rfl) ?_
  refine w_aload_n dX10_clause_0 rfl rfl ?_
  refine w_getf fX10_114 dX10_clause_1 RH0 rfl ?_
  rw [lex9]
  have hr := hy.2.2.1
  have oy : ok32 y.2.2.1 := by unfold ok32; omega
  by_cases k0 : y.2.2.1 = 200
  · rw [if_pos k0, k0]
    refine w_tsw_in (z := 200) 36 dX10_clause_4 (by first | assumption | (unfold ok32 at *; omega)) (by omega) (by omega) rfl (by decide) ?_
    refine w_aload_n dX10_clause_36 rfl rfl ?_
    refine w_getf fX10_130 dX10_clause_37 RH0 rfl ?_
    rw [show lexF (flg fi cl o s) y 11 = (cl : Int) from rfl]
    refine w_if_le 47 dX10_clause_40 (by decide) (by first | assumption | (unfold ok32 at *; omega)) (fun c1 => ?_) (fun c1 => ?_)
    · rw [if_neg (by omega)]
      refine w_aload_n dX10_clause_47 rfl rfl ?_
      refine w_iload_n dX10_clause_48 rfl rfl ?_
      refine w_iconst dX10_clause_49 ?_
      refine w_bipush dX10_clause_50 (by decide) ?_
      refine wc_V (Z := mX10_numberTo) (As := [_, _, _]) (c_numberTo (F4 _ _ _) hn hy.1 hT (by omega) (by first | assumption | (unfold ok32 at *; omega)) (by first | assumption | (unfold ok32 at *; omega))) RH0 rfl kX10_numberTo lX10_133 iX10_numberTo vX10_numberTo dX10_clause_52 rfl rfl rfl (Nat.le_of_ble_eq_true rfl) ⟨Nat.le_of_ble_eq_true rfl, Nat.le_of_ble_eq_true rfl⟩ ?_
      exact x_iret rfl rfl dX10_clause_55 ⟨rfl, rfl⟩
    · rw [if_pos (by omega)]
      refine w_iconst dX10_clause_43 ?_
      refine w_goto 55 dX10_clause_44 (by decide) ?_
      exact x_iret rfl rfl dX10_clause_55 ⟨rfl, rfl⟩
  · rw [if_neg k0]
    by_cases k1 : y.2.2.1 = 201
    · rw [if_pos k1, k1]
      refine w_tsw_in (z := 201) 56 dX10_clause_4 (by first | assumption | (unfold ok32 at *; omega)) (by omega) (by omega) rfl (by decide) ?_
      refine w_aload_n dX10_clause_56 rfl rfl ?_
      refine w_iload_n dX10_clause_57 rfl rfl ?_
      refine wc_V (Z := mX10_rowClause) (As := [_]) (c_rowClause (F4 _ _ _) hn hy.1 hT ht hX) RH0 rfl kX10_rowClause lX10_137 iX10_rowClause vX10_rowClause dX10_clause_58 rfl rfl rfl (Nat.le_of_ble_eq_true rfl) ⟨Nat.le_of_ble_eq_true rfl, Nat.le_of_ble_eq_true rfl⟩ ?_
      exact x_iret rfl rfl dX10_clause_61 ⟨rfl, rfl⟩
    · rw [if_neg k1]
      by_cases k2 : y.2.2.1 = 202
      · rw [if_pos k2, k2]
        refine w_tsw_in (z := 202) 62 dX10_clause_4 (by first | assumption | (unfold ok32 at *; omega)) (by omega) (by omega) rfl (by decide) ?_
        refine w_aload_n dX10_clause_62 rfl rfl ?_
        refine w_getf fX10_140 dX10_clause_63 RH0 rfl ?_
        rw [show lexF (flg fi cl o s) y 12 = o from rfl]
        refine w_if_eq 71 dX10_clause_66 (by decide) (by first | assumption | (unfold ok32 at *; omega)) (fun c1 => ?_) (fun c1 => ?_)
        · rw [if_pos c1]
          refine w_aload_n dX10_clause_71 rfl rfl ?_
          refine w_iconst dX10_clause_72 ?_
          refine r_pf12 fX10_140 (by rfl) (by rfl) dX10_clause_73 ?_
          rw [lexu (by omega), flg12]
          refine w_aload_n dX10_clause_76 rfl rfl ?_
          refine w_iload_n dX10_clause_77 rfl rfl ?_
          refine w_iconst dX10_clause_78 ?_
          refine w_iadd dX10_clause_79 ?_
          refine w_iconst dX10_clause_80 ?_
          refine w_bipush dX10_clause_81 (by decide) ?_
          rw [show ((37 * t : Nat) : Int) + 3 = ((37 * t + 3 : Nat) : Int) by omega]
          refine wc_V (Z := mX10_numberTo) (As := [_, _, _]) (c_numberTo (F4 _ _ _) hn hy.1 hT (by omega) (by first | assumption | (unfold ok32 at *; omega)) (by first | assumption | (unfold ok32 at *; omega))) RH0 rfl kX10_numberTo lX10_133 iX10_numberTo vX10_numberTo dX10_clause_83 rfl rfl rfl (Nat.le_of_ble_eq_true rfl) ⟨Nat.le_of_ble_eq_true rfl, Nat.le_of_ble_eq_true rfl⟩ ?_
          exact x_iret rfl rfl dX10_clause_86 ⟨rfl, rfl⟩
        · rw [if_neg c1]
          refine w_iconst dX10_clause_69 ?_
          exact x_iret rfl rfl dX10_clause_70 ⟨rfl, rfl⟩
      · rw [if_neg k2]
        by_cases k3 : y.2.2.1 = 203
        · rw [if_pos k3, k3]
          refine w_tsw_in (z := 203) 87 dX10_clause_4 (by first | assumption | (unfold ok32 at *; omega)) (by omega) (by omega) rfl (by decide) ?_
          refine w_aload_n dX10_clause_87 rfl rfl ?_
          refine w_getf fX10_144 dX10_clause_88 RH0 rfl ?_
          rw [show lexF (flg fi cl o s) y 13 = s from rfl]
          refine w_if_eq 96 dX10_clause_91 (by decide) (by first | assumption | (unfold ok32 at *; omega)) (fun c1 => ?_) (fun c1 => ?_)
          · rw [if_pos c1]
            refine w_aload_n dX10_clause_96 rfl rfl ?_
            refine w_iconst dX10_clause_97 ?_
            refine r_pf13 fX10_144 (by rfl) (by rfl) dX10_clause_98 ?_
            rw [lexu (by omega), flg13]
            refine w_aload_n dX10_clause_101 rfl rfl ?_
            refine w_iload_n dX10_clause_102 rfl rfl ?_
            refine w_iconst dX10_clause_103 ?_
            refine w_iadd dX10_clause_104 ?_
            refine w_iconst dX10_clause_105 ?_
            refine w_bipush dX10_clause_106 (by decide) ?_
            rw [show ((37 * t : Nat) : Int) + 4 = ((37 * t + 4 : Nat) : Int) by omega]
            refine wc_V (Z := mX10_numberTo) (As := [_, _, _]) (c_numberTo (F4 _ _ _) hn hy.1 hT (by omega) (by first | assumption | (unfold ok32 at *; omega)) (by first | assumption | (unfold ok32 at *; omega))) RH0 rfl kX10_numberTo lX10_133 iX10_numberTo vX10_numberTo dX10_clause_108 rfl rfl rfl (Nat.le_of_ble_eq_true rfl) ⟨Nat.le_of_ble_eq_true rfl, Nat.le_of_ble_eq_true rfl⟩ ?_
            exact x_iret rfl rfl dX10_clause_111 ⟨rfl, rfl⟩
          · rw [if_neg c1]
            refine w_iconst dX10_clause_94 ?_
            exact x_iret rfl rfl dX10_clause_95 ⟨rfl, rfl⟩
        · rw [if_neg k3]
          refine w_tsw_out 112 dX10_clause_4 oy (by omega) (by decide) ?_
          refine w_iconst dX10_clause_112 ?_
          exact x_iret rfl rfl dX10_clause_113 ⟨rfl, rfl⟩
/-! a whole text -/
abbrev RD : Type := Int × (Nat → Int) × LX × Nat × Int × Int
noncomputable def rdL (T : Nat → Int) (n x : Nat) : Nat → Nat → (Nat → Int) → LX → Int → Int → RD
  | 0, cl, X, y, o, s => (1, X, y, cl, o, s)
  | f + 1, cl, X, y, o, s => if y.2.2.1 = 0 then (if X (x + 1) = 0 then 1 else 0, X, y, cl, o, s) else if ¬ (clS T n x cl X y o s).1.1 = 0 then ((clS T n x cl X y o s).1.1, (clS T n x cl X y o s).1.2.1, (clS T n x cl X y o s).1.2.2, cl, (clS T n x cl X y o s).2.1, (clS T n x cl X y o s).2.2) else rdL T n x f (cl + 1) (clS T n x cl X y o s).1.2.1 (nt T n (clS T n x cl X y o s).1.2.2.1) (clS T n x cl X y o s).2.1 (clS T n x cl X y o s).2.2
def rd0 (X : Nat → Int) (x : Nat) : Nat → Int := u1 (u1 (u1 (u1 (u1 X x 1) (x + 1) 0) (x + 2) 0) (x + 3) 1) (x + 4) 15
noncomputable def rdT (T : Nat → Int) (n x : Nat) (X : Nat → Int) : RD := rdL T n x 302 0 (rd0 X x) (nt T n 0) 0 0
theorem rd0_ok {X : Nat → Int} {t : Nat} (h : TXO X t) (ht : t < 4) : PXI (rd0 X (37 * t)) t ∧ Oth X (rd0 X (37 * t)) t ∧ rd0 X (37 * t) (37 * t + 1) = 0 := by
  have e : ∀ j, ¬ (37 * t ≤ j ∧ j ≤ 37 * t + 4) → rd0 X (37 * t) j = X j := fun j hj => by
    unfold rd0
    rw [u1_n (by omega), u1_n (by omega), u1_n (by omega), u1_n (by omega), u1_n (by omega)]
  have e0 : rd0 X (37 * t) (37 * t) = 1 := by unfold rd0; rw [u1_n (by omega), u1_n (by omega), u1_n (by omega), u1_n (by omega), u1_s]
  have e1 : rd0 X (37 * t) (37 * t + 1) = 0 := by unfold rd0; rw [u1_n (by omega), u1_n (by omega), u1_n (by omega), u1_s]
  have e2 : rd0 X (37 * t) (37 * t + 2) = 0 := by unfold rd0; rw [u1_n (by omega), u1_n (by omega), u1_s]
  have e3 : rd0 X (37 * t) (37 * t + 3) = 1 := by unfold rd0; rw [u1_n (by omega), u1_s]
  have e4 : rd0 X (37 * t) (37 * t + 4) = 15 := by unfold rd0; rw [u1_s]
  refine ⟨⟨⟨fun i hi j hj => ?_, fun i hi => ?_⟩, by omega, by omega, by omega, by omega, by omega⟩, fun j hj => e j (by omega), e1⟩
  · rw [e _ (by omega)]; exact h.1 i hi j hj
  · rw [e _ (by omega), e _ (by omega), e _ (by omega), e _ (by omega), e _ (by omega)]; exact h.2 i hi
theorem fg_adv {T : Nat → Int} {n f a : Nat} {m : Int} (h : 48 ≤ byt T n a ∧ byt T n a ≤ 57) (h1 : 0 ≤ m) (h2 : m ≤ 99999) : a < (fgN T n (f + 1) a m).1 := by
  have hl : a < n := byt_lt (T := T) (by omega)
  have e : fgN T n (f + 1) a m = fgN T n f (a + 1) (if 9999 < m then m else 10 * m + byt T n a - 48) := if_pos h
  rw [e]
  have := fgN_rng (T := T) (n := n) (f := f) (a := a + 1) (m := if 9999 < m then m else 10 * m + byt T n a - 48) hl (by split <;> omega) (by split <;> omega)
  omega
theorem lt_adv {T : Nat → Int} {n f a : Nat} (h : 97 ≤ byt T n a ∧ byt T n a ≤ 122) : a < ltN T n (f + 1) a := by
  have hl : a < n := byt_lt (T := T) (by omega)
  have e : ltN T n (f + 1) a = ltN T n f (a + 1) := if_pos h
  rw [e]
  have := ltN_rng (T := T) (n := n) (f := f) (a := a + 1) hl
  omega
theorem nt_adv {T : Nat → Int} {n a : Nat} (hT : TB T) (ha : a ≤ n) (h : ¬ (nt T n a).2.2.1 = 0) : a < (nt T n a).1 := by
  have h1 := skp_rng (T := T) (f := 301) ha
  unfold nt at h ⊢
  split at h
  · exact absurd rfl h
  · rename_i hc
    have hl := byt_lt (Int.not_lt.mp hc)
    rw [if_neg hc]
    split
    · rename_i hc2
      have : skp T n 301 a < (fgN T n 301 (skp T n 301 a) 0).1 := fg_adv (f := 300) hc2 (Int.le_refl 0) (by omega)
      show a < (fgN T n 301 (skp T n 301 a) 0).1
      omega
    · split
      · rename_i hc3
        have : skp T n 301 a < ltN T n 301 (skp T n 301 a) := lt_adv (f := 300) hc3
        show a < ltN T n 301 (skp T n 301 a)
        omega
      · show a < skp T n 301 a + 1
        omega
/-- what is known of a text that was read -/
def RDI (n t : Nat) (X : Nat → Int) (Z : RD) : Prop := PXI Z.2.1 t ∧ Oth X Z.2.1 t ∧ LXI n Z.2.2.1 ∧ (0 ≤ Z.1 ∧ Z.1 ≤ 5) ∧ (Z.1 = 0 → 1 ≤ Z.2.1 (37 * t + 1) ∧ 1 ≤ Z.2.1 (37 * t + 2))
set_option maxRecDepth 4000 in
theorem c_readText {r : Nat} {A : Nat → Int} {ia : Nat → Nat → Int} {la : Nat → Nat → BitVec 64} {fi : Nat → Int} {fl : Nat → BitVec 64} {h0 : HP} {n t : Nat} (h4 : fi 4 = (n : Int)) (hn : n ≤ 300) (hT : TB (ia 4)) (hA : A 0 = (t : Int)) (ht : t < 4) (hX : TXO (ia 3) t) : RDI n t (ia 3) (rdT (ia 4) n (37 * t) (ia 3)) ∧ sp mX10_readText [.ref r] (RH r A ia la fi fl h0) 0 0 (pd (some (.int (zI (rdT (ia 4) n (37 * t) (ia 3)).1))) (RH r A (u1 ia 3 (rdT (ia 4) n (37 * t) (ia 3)).2.1) la (lexF (flg fi (rdT (ia 4) n (37 * t) (ia 3)).2.2.2.1 (rdT (ia 4) n (37 * t) (ia 3)).2.2.2.2.1 (rdT (ia 4) n (37 * t) (ia 3)).2.2.2.2.2) (rdT (ia 4) n (37 * t) (ia 3)).2.2.1) fl h0)) := by
  obtain ⟨Z, hZ⟩ : ∃ Z, rdT (ia 4) n (37 * t) (ia 3) = Z := ⟨_, rfl⟩
  rw [hZ]
  obtain ⟨d1, d2, d3⟩ := rd0_ok hX ht
  have key : ∀ (f cl : Nat) (X : Nat → Int) (y : LX) (o s : Int) (x2 : Value), 1 ≤ f → (¬ y.2.2.1 = 0 → n + 1 < y.1 + f) → cl + f ≤ 302 → PXI X t → Oth (ia 3) X t → (1 ≤ X (37 * t + 1) → 1 ≤ X (37 * t + 2)) → LXI n y → 0 ≤ o ∧ o ≤ 1 → 0 ≤ s ∧ s ≤ 1 → rdL (ia 4) n (37 * t) f cl X y o s = Z → RDI n t (ia 3) Z ∧ wp mX10_readText 78 [.ref r, .int (zI ((37 * t : Nat) : Int)), x2] [] (RH r A (u1 ia 3 X) la (lexF (flg fi cl o s) y) fl h0) 0 0 (pd (some (.int (zI Z.1))) (RH r A (u1 ia 3 Z.2.1) la (lexF (flg fi Z.2.2.2.1 Z.2.2.2.2.1 Z.2.2.2.2.2) Z.2.2.1) fl h0)) := by
    intro f
    induction f with
    | zero => intro cl X y o s x2 h1; omega
    | succ f ih =>
      intro cl X y o s x2 _ hf hcf hP hO hB hL ho hs hz
      obtain ⟨x1, x22, x3, x4, x5, x6⟩ := id hP
      have hr := hL.2.2.1
      have hstart : ∀ {Φ : Option Value → HP → Prop}, (y.2.2.1 = 0 → wp mX10_readText 114 [.ref r, .int (zI ((37 * t : Nat) : Int)), x2] [] (RH r A (u1 ia 3 X) la (lexF (flg fi cl o s) y) fl h0) 0 0 Φ) → (¬ y.2.2.1 = 0 → wp mX10_readText 85 [.ref r, .int (zI ((37 * t : Nat) : Int)), x2] [] (RH r A (u1 ia 3 X) la (lexF (flg fi cl o s) y) fl h0) 0 0 Φ) → wp mX10_readText 78 [.ref r, .int (zI ((37 * t : Nat) : Int)), x2] [] (RH r A (u1 ia 3 X) la (lexF (flg fi cl o s) y) fl h0) 0 0 Φ := by
        intro Φ k1 k2
        refine w_aload_n dX10_readText_78 rfl rfl ?_
        refine w_getf fX10_114 dX10_readText_79 RH0 rfl ?_
        rw [lex9]
        refine w_if_eq 114 dX10_readText_82 (by decide) (by first | assumption | (unfold ok32 at *; omega)) (fun c1 => ?_) (fun c1 => ?_)
        · exact k1 c1
        · exact k2 c1
      by_cases c0 : y.2.2.1 = 0
      · unfold rdL at hz
        rw [if_pos c0] at hz
        subst hz
        refine ⟨⟨hP, hO, hL, ?_, fun h => ?_⟩, hstart (fun _ => ?_) (fun q => absurd c0 q)⟩
        · show 0 ≤ (if X (37 * t + 1) = 0 then (1 : Int) else 0) ∧ (if X (37 * t + 1) = 0 then (1 : Int) else 0) ≤ 5
          split <;> omega
        · have h6 : (if X (37 * t + 1) = 0 then (1 : Int) else 0) = 0 := h
          by_cases h7 : X (37 * t + 1) = 0
          · rw [if_pos h7] at h6; omega
          · exact ⟨by show 1 ≤ X (37 * t + 1); omega, hB (by omega)⟩
        · refine w_aload_n dX10_readText_114 rfl rfl ?_
          refine w_getf fX10_16 dX10_readText_115 RH0 rfl ?_
          refine w_iload_n dX10_readText_118 rfl rfl ?_
          refine w_iconst dX10_readText_119 ?_
          refine w_iadd dX10_readText_120 ?_
          refine w_iald (37 * t + 1) RH3 (by omega) (by omega) (by decide) dX10_readText_121 ?_
          rw [u1_s]
          refine w_if_ne 129 dX10_readText_122 (by decide) (by first | assumption | (unfold ok32 at *; omega)) (fun c1 => ?_) (fun c1 => ?_)
          · refine w_iconst dX10_readText_129 ?_
            refine x_iret rfl rfl dX10_readText_130 ⟨?_, rfl⟩
            show _ = some (Value.int (zI (if X (37 * t + 1) = 0 then 1 else 0)))
            rw [if_neg c1]
          · refine w_iconst dX10_readText_125 ?_
            refine w_goto 130 dX10_readText_126 (by decide) ?_
            refine x_iret rfl rfl dX10_readText_130 ⟨?_, rfl⟩
            show _ = some (Value.int (zI (if X (37 * t + 1) = 0 then 1 else 0)))
            rw [if_pos c1]
      · unfold rdL at hz
        rw [if_neg c0] at hz
        obtain ⟨q1, q2, q3⟩ := clS_ok (cl := cl) hT ht hP hL ho hs
        have hcl := c_clause (r := r) (A := A) (la := la) (fl := fl) (h0 := h0) h4 hn hT ht hP hL ho hs (show cl ≤ 1000 by omega)
        generalize clS (ia 4) n (37 * t) cl X y o s = S at *
        obtain ⟨b1, b2, b3, b4, b5, b6⟩ := q1
        have hcall : ∀ {Φ : Option Value → HP → Prop}, (¬ S.1.1 = 0 → wp mX10_readText 95 [.ref r, .int (zI ((37 * t : Nat) : Int)), .int (zI S.1.1)] [] (RH r A (u1 ia 3 S.1.2.1) la (lexF (flg fi cl S.2.1 S.2.2) S.1.2.2) fl h0) 0 0 Φ) → (S.1.1 = 0 → wp mX10_readText 97 [.ref r, .int (zI ((37 * t : Nat) : Int)), .int (zI S.1.1)] [] (RH r A (u1 ia 3 S.1.2.1) la (lexF (flg fi cl S.2.1 S.2.2) S.1.2.2) fl h0) 0 0 Φ) → wp mX10_readText 85 [.ref r, .int (zI ((37 * t : Nat) : Int)), x2] [] (RH r A (u1 ia 3 X) la (lexF (flg fi cl o s) y) fl h0) 0 0 Φ := by
          intro Φ k1 k2
          refine w_aload_n dX10_readText_85 rfl rfl ?_
          refine w_iload_n dX10_readText_86 rfl rfl ?_
          refine wc_V (Z := mX10_clause) (As := [_]) hcl RH0 rfl kX10_clause lX10_147 iX10_clause vX10_clause dX10_readText_87 rfl rfl rfl (Nat.le_of_ble_eq_true rfl) ⟨Nat.le_of_ble_eq_true rfl, Nat.le_of_ble_eq_true rfl⟩ ?_
          refine w_istore_n (lv' := [_, _, _]) dX10_readText_90 rfl (Nat.le_of_ble_eq_true rfl) rfl rfl ?_
          refine w_iload_n dX10_readText_91 rfl rfl ?_
          refine w_if_eq 97 dX10_readText_92 (by decide) (by first | assumption | (unfold ok32 at *; omega)) (fun c1 => ?_) (fun c1 => ?_)
          · exact k2 c1
          · exact k1 c1
        by_cases c1 : S.1.1 = 0
        · rw [if_neg (fun q => q c1)] at hz
          obtain ⟨g1, g2⟩ := nt_lxi (n := n) (a := S.1.2.2.1) hT b3.1
          have hf2 := hf c0
          have hL1 := hL.1
          have hBn := b5 c1 hB
          have hrec := ih (cl + 1) S.1.2.1 (nt (ia 4) n S.1.2.2.1) S.2.1 S.2.2 (.int (zI S.1.1)) (by omega) (fun h => by have := nt_adv hT b3.1 h; omega) (by omega) b1 (fun j hj => (b2 j hj).trans (hO j hj)) hBn g1 q2 q3 hz
          refine ⟨hrec.1, hstart (fun q => absurd q c0) (fun _ => hcall (fun q => absurd c1 q) (fun _ => ?_))⟩
          refine w_aload_n dX10_readText_97 rfl rfl ?_
          refine w_dup dX10_readText_98 rfl ?_
          refine w_getf fX10_130 dX10_readText_99 RH0 rfl ?_
          refine w_iconst dX10_readText_102 ?_
          refine w_iadd dX10_readText_103 ?_
          rw [show lexF (flg fi cl S.2.1 S.2.2) S.1.2.2 11 = (cl : Int) from rfl, show ((cl : Int) + 1) = ((cl + 1 : Nat) : Int) by omega]
          refine r_pf11 fX10_130 dX10_readText_104 ?_
          rw [lexu (by omega), flg11]
          refine w_aload_n dX10_readText_107 rfl rfl ?_
          refine wc_Vv (Z := mX10_nextToken) (As := []) (c_next (fi := flg fi ((cl + 1 : Nat) : Int) S.2.1 S.2.2) h4 hn b3.1 hT) RH0 rfl kX10_nextToken lX10_127 iX10_nextToken vX10_nextToken dX10_readText_108 rfl rfl rfl (Nat.le_of_ble_eq_true rfl) ⟨Nat.le_of_ble_eq_true rfl, Nat.le_of_ble_eq_true rfl⟩ ?_
          refine w_goto 78 dX10_readText_111 (by decide) ?_
          exact hrec.2
        · rw [if_pos c1] at hz
          subst hz
          refine ⟨⟨b1, fun j hj => (b2 j hj).trans (hO j hj), b3, b6, fun h => absurd h c1⟩, hstart (fun q => absurd q c0) (fun _ => hcall (fun _ => ?_) (fun q => absurd q c1))⟩
          refine w_iload_n dX10_readText_95 rfl rfl ?_
          exact x_iret rfl rfl dX10_readText_96 ⟨rfl, rfl⟩
  obtain ⟨g1, g2⟩ := nt_lxi (n := n) (a := 0) hT (Nat.zero_le _)
  have hrec := key 302 0 (rd0 (ia 3) (37 * t)) (nt (ia 4) n 0) 0 0 jk (by omega) (fun _ => by omega) (by omega) d1 d2 (fun h => by rw [d3] at h; omega) g1 (by omega) (by omega) hZ
  refine ⟨hrec.1, ?_⟩
  refine sp_wp rfl (lv := [_, _, _]) rfl (Nat.le_of_ble_eq_true rfl) ?_
  refine w_bipush dX10_readText_0 (by decide) ?_
  refine w_aload_n dX10_readText_2 rfl rfl ?_
  refine w_getf fX10_7 dX10_readText_3 RH0 rfl ?_
  refine w_iconst dX10_readText_6 ?_
  refine w_iald 0 RH1 rfl (by decide) (by decide) dX10_readText_7 ?_
  refine w_imul dX10_readText_8 ?_
  rw [hA, show (37 : Int) * (t : Int) = ((37 * t : Nat) : Int) by omega]
  refine w_istore_n (lv' := [_, _, _]) dX10_readText_9 rfl (Nat.le_of_ble_eq_true rfl) rfl rfl ?_
  refine w_aload_n dX10_readText_10 rfl rfl ?_
  refine w_getf fX10_16 dX10_readText_11 RH0 rfl ?_
  refine w_iload_n dX10_readText_14 rfl rfl ?_
  refine w_iconst dX10_readText_15 ?_
  refine r_ist3K (37 * t) (by omega) (by omega) dX10_readText_16 ?_
  refine w_aload_n dX10_readText_17 rfl rfl ?_
  refine w_getf fX10_16 dX10_readText_18 RH0 rfl ?_
  refine w_iload_n dX10_readText_21 rfl rfl ?_
  refine w_iconst dX10_readText_22 ?_
  refine w_iadd dX10_readText_23 ?_
  refine w_iconst dX10_readText_24 ?_
  refine r_ist3K (37 * t + 1) (by omega) (by omega) dX10_readText_25 ?_
  rw [u1_u1, u1_s]
  refine w_aload_n dX10_readText_26 rfl rfl ?_
  refine w_getf fX10_16 dX10_readText_27 RH0 rfl ?_
  refine w_iload_n dX10_readText_30 rfl rfl ?_
  refine w_iconst dX10_readText_31 ?_
  refine w_iadd dX10_readText_32 ?_
  refine w_iconst dX10_readText_33 ?_
  refine r_ist3K (37 * t + 2) (by omega) (by omega) dX10_readText_34 ?_
  rw [u1_u1, u1_s]
  refine w_aload_n dX10_readText_35 rfl rfl ?_
  refine w_getf fX10_16 dX10_readText_36 RH0 rfl ?_
  refine w_iload_n dX10_readText_39 rfl rfl ?_
  refine w_iconst dX10_readText_40 ?_
  refine w_iadd dX10_readText_41 ?_
  refine w_iconst dX10_readText_42 ?_
  refine r_ist3K (37 * t + 3) (by omega) (by omega) dX10_readText_43 ?_
  rw [u1_u1, u1_s]
  refine w_aload_n dX10_readText_44 rfl rfl ?_
  refine w_getf fX10_16 dX10_readText_45 RH0 rfl ?_
  refine w_iload_n dX10_readText_48 rfl rfl ?_
  refine w_iconst dX10_readText_49 ?_
  refine w_iadd dX10_readText_50 ?_
  refine w_bipush dX10_readText_51 (by decide) ?_
  refine r_ist3K (37 * t + 4) (by omega) (by omega) dX10_readText_53 ?_
  rw [u1_u1, u1_s]
  refine w_aload_n dX10_readText_54 rfl rfl ?_
  refine w_iconst dX10_readText_55 ?_
  refine r_pf11 fX10_130 dX10_readText_56 ?_
  refine w_aload_n dX10_readText_59 rfl rfl ?_
  refine w_iconst dX10_readText_60 ?_
  refine r_pf12 fX10_140 (by rfl) (by rfl) dX10_readText_61 ?_
  refine w_aload_n dX10_readText_64 rfl rfl ?_
  refine w_iconst dX10_readText_65 ?_
  refine r_pf13 fX10_144 (by rfl) (by rfl) dX10_readText_66 ?_
  refine w_aload_n dX10_readText_69 rfl rfl ?_
  refine w_iconst dX10_readText_70 ?_
  refine r_pf7 fX10_108 dX10_readText_71 ?_
  have e1 : u1 (u1 (u1 (u1 fi 11 0) 12 0) 13 0) 7 0 = ntF (flg fi 0 0 0) ((0 : Nat) : Int) (fi 8) (fi 9) (fi 10) := by
    funext j
    unfold ntF flg u1
    by_cases h7 : j = 7
    · rw [if_pos h7, if_pos h7]; rfl
    · rw [if_neg h7, if_neg h7]
      by_cases h8 : j = 8
      · subst h8; rfl
      · rw [if_neg h8]
        by_cases h9 : j = 9
        · subst h9; rfl
        · rw [if_neg h9]
          by_cases h10 : j = 10
          · subst h10; rfl
          · rw [if_neg h10]
  rw [e1]
  refine w_aload_n dX10_readText_74 rfl rfl ?_
  refine wc_Vv (Z := mX10_nextToken) (As := []) (c_nextToken (ia := u1 ia 3 (rd0 (ia 3) (37 * t))) (a := 0) (fi := flg fi 0 0 0) h4 hn (Nat.zero_le _) hT) RH0 rfl kX10_nextToken lX10_127 iX10_nextToken vX10_nextToken dX10_readText_75 rfl rfl rfl (Nat.le_of_ble_eq_true rfl) ⟨Nat.le_of_ble_eq_true rfl, Nat.le_of_ble_eq_true rfl⟩ ?_
  exact hrec.2
set_option maxRecDepth 4000 in
theorem c_text {r : Nat} {A : Nat → Int} {ia : Nat → Nat → Int} {la : Nat → Nat → BitVec 64} {fi : Nat → Int} {fl : Nat → BitVec 64} {h0 : HP} {n t : Nat} (h4 : fi 4 = (n : Int)) (hn : n ≤ 300) (hT : TB (ia 4)) (hA : A 0 = (t : Int)) (ht : t ≤ 4) (hX : TXO (ia 3) t) : sp mX10_text [.ref r] (RH r A ia la fi fl h0) 0 0 (fun v h' => (t = 4 → v = some (.int (zI (-1))) ∧ h' = (RH r A ia la fi fl h0)) ∧ (t < 4 → RDI n t (ia 3) (rdT (ia 4) n (37 * t) (ia 3)) ∧ v = some (.int (zI (if (rdT (ia 4) n (37 * t) (ia 3)).1 = 0 then (t : Int) else -1))) ∧ ∃ fi', fi' 4 = 0 ∧ fi' 5 = (rdT (ia 4) n (37 * t) (ia 3)).1 ∧ fi' 6 = (if (rdT (ia 4) n (37 * t) (ia 3)).1 = 0 then -1 else (((rdT (ia 4) n (37 * t) (ia 3)).2.2.1.2.1 : Nat) : Int)) ∧ h' = (RH r (if (rdT (ia 4) n (37 * t) (ia 3)).1 = 0 then u1 A 0 ((t : Int) + 1) else A) (u1 ia 3 (rdT (ia 4) n (37 * t) (ia 3)).2.1) la fi' fl h0))) := by
  refine sp_wp rfl (lv := [_]) rfl (Nat.le_of_ble_eq_true rfl) ?_
  refine w_aload_n dX10_text_0 rfl rfl ?_
  refine w_getf fX10_7 dX10_text_1 RH0 rfl ?_
  refine w_iconst dX10_text_4 ?_
  refine w_iald 0 RH1 rfl (by decide) (by decide) dX10_text_5 ?_
  rw [hA]
  refine w_iconst dX10_text_6 ?_
  refine w_icmp_ne 12 dX10_text_7 (by decide) (by first | assumption | (unfold ok32 at *; omega)) (by first | assumption | (unfold ok32 at *; omega)) (fun c1 => ?_) (fun c1 => ?_)
  · have ht4 : t < 4 := by omega
    obtain ⟨i1, i2⟩ := c_readText (r := r) (la := la) (fl := fl) (h0 := h0) h4 hn hT hA ht4 hX
    refine w_mono (Ψ := fun v h' => v = some (.int (zI (if (rdT (ia 4) n (37 * t) (ia 3)).1 = 0 then (t : Int) else -1))) ∧ ∃ fi', fi' 4 = 0 ∧ fi' 5 = (rdT (ia 4) n (37 * t) (ia 3)).1 ∧ fi' 6 = (if (rdT (ia 4) n (37 * t) (ia 3)).1 = 0 then -1 else (((rdT (ia 4) n (37 * t) (ia 3)).2.2.1.2.1 : Nat) : Int)) ∧ h' = (RH r (if (rdT (ia 4) n (37 * t) (ia 3)).1 = 0 then u1 A 0 ((t : Int) + 1) else A) (u1 ia 3 (rdT (ia 4) n (37 * t) (ia 3)).2.1) la fi' fl h0)) ?_ (fun v h' q => ⟨fun z => by omega, fun _ => ⟨i1, q⟩⟩)
    refine w_aload_n dX10_text_12 rfl rfl ?_
    refine w_aload_n dX10_text_13 rfl rfl ?_
    refine wc_V (Z := mX10_readText) (As := []) i2 RH0 rfl kX10_readText lX10_150 iX10_readText vX10_readText dX10_text_14 rfl rfl rfl (Nat.le_of_ble_eq_true rfl) ⟨Nat.le_of_ble_eq_true rfl, Nat.le_of_ble_eq_true rfl⟩ ?_
    generalize rdT (ia 4) n (37 * t) (ia 3) = Z at *
    obtain ⟨j1, j2, j3, j4, j5⟩ := i1
    refine r_pf5 fX10_22 dX10_text_17 ?_
    have fin : ∀ v : Int, v = (if Z.1 = 0 then -1 else ((Z.2.2.1.2.1 : Nat) : Int)) → wp mX10_text 36 [.ref r] [.int (zI v), .ref r] (RH r A (u1 ia 3 Z.2.1) la (u1 (lexF (flg fi Z.2.2.2.1 Z.2.2.2.2.1 Z.2.2.2.2.2) Z.2.2.1) 5 Z.1) fl h0) 0 0 (fun v h' => v = some (.int (zI (if Z.1 = 0 then (t : Int) else -1))) ∧ ∃ fi', fi' 4 = 0 ∧ fi' 5 = Z.1 ∧ fi' 6 = (if Z.1 = 0 then -1 else ((Z.2.2.1.2.1 : Nat) : Int)) ∧ h' = (RH r (if Z.1 = 0 then u1 A 0 ((t : Int) + 1) else A) (u1 ia 3 Z.2.1) la fi' fl h0)) := by
      intro v hv
      refine r_pf6 fX10_26 dX10_text_36 ?_
      refine w_aload_n dX10_text_39 rfl rfl ?_
      refine w_iconst dX10_text_40 ?_
      refine r_pf4 fX10_91 dX10_text_41 ?_
      refine w_aload_n dX10_text_44 rfl rfl ?_
      refine w_getf fX10_22 dX10_text_45 RH0 rfl ?_
      rw [u1_n (show (5 : Nat) ≠ 4 by omega), u1_n (show (5 : Nat) ≠ 6 by omega), u1_s]
      refine w_if_eq 53 dX10_text_48 (by decide) (by first | assumption | (unfold ok32 at *; omega)) (fun c2 => ?_) (fun c2 => ?_)
      · rw [if_pos c2, if_pos c2, if_pos c2]
        rw [if_pos c2] at hv
        refine w_aload_n dX10_text_53 rfl rfl ?_
        refine w_getf fX10_7 dX10_text_54 RH0 rfl ?_
        refine w_iconst dX10_text_57 ?_
        refine w_dup2 dX10_text_58 rfl rfl ?_
        refine w_iald 0 RH1 rfl (by decide) (by decide) dX10_text_59 ?_
        refine w_iconst dX10_text_60 ?_
        refine w_iadd dX10_text_61 ?_
        rw [hA]
        refine r_ist1K 0 rfl (by decide) dX10_text_62 ?_
        refine w_aload_n dX10_text_63 rfl rfl ?_
        refine w_getf fX10_7 dX10_text_64 RH0 rfl ?_
        refine w_iconst dX10_text_67 ?_
        refine w_iald 0 RH1 rfl (by decide) (by decide) dX10_text_68 ?_
        refine w_iconst dX10_text_69 ?_
        refine w_isub dX10_text_70 ?_
        refine x_iret rfl rfl dX10_text_71 ⟨?_, _, u1_s, ?_, ?_, rfl⟩
        · rw [u1_s, show ((t : Int) + 1 - 1) = (t : Int) by omega]
        · rw [u1_n (by omega), u1_n (by omega), u1_s]
        · rw [u1_n (by omega), u1_s, hv]
      · rw [if_neg c2, if_neg c2, if_neg c2]
        rw [if_neg c2] at hv
        refine w_iconst dX10_text_51 ?_
        refine x_iret rfl rfl dX10_text_52 ⟨rfl, _, u1_s, ?_, ?_, rfl⟩
        · rw [u1_n (by omega), u1_n (by omega), u1_s]
        · rw [u1_n (by omega), u1_s, hv]
    refine w_aload_n dX10_text_20 rfl rfl ?_
    refine w_aload_n dX10_text_21 rfl rfl ?_
    refine w_getf fX10_22 dX10_text_22 RH0 rfl ?_
    rw [u1_s]
    refine w_if_ne 32 dX10_text_25 (by decide) (by first | assumption | (unfold ok32 at *; omega)) (fun c2 => ?_) (fun c2 => ?_)
    · refine w_aload_n dX10_text_32 rfl rfl ?_
      refine w_getf fX10_101 dX10_text_33 RH0 rfl ?_
      exact fin _ (by rw [if_neg c2]; rfl)
    · refine w_iconst dX10_text_28 ?_
      refine w_goto 36 dX10_text_29 (by decide) ?_
      exact fin _ (by rw [if_pos c2])
  · refine w_iconst dX10_text_10 ?_
    exact x_iret rfl rfl dX10_text_11 ⟨fun _ => ⟨rfl, rfl⟩, fun z => by omega⟩

