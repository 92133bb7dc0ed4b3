/-! the census in the heap -/
def cufs (a : Nat) (bi : Nat → Int) (bf : Nat → Nat) : List Value := [.ref (bf 0), .ref (a + 1), .ref (a + 2), .ref (a + 8), .ref (a + 9), .ref (a + 10), .ref (a + 11), .int (zI (bi 7)), .int (zI (bi 8))]
def cucell (a : Nat) (ba : Nat → Nat → Int) (bi : Nat → Int) (bf : Nat → Nat) : Nat → CE := fun j => match j with
  | 0 => .inr (1, cufs a bi bf)
  | 8 => aI 5 (ba 8)
  | 9 => aI 4 (ba 9)
  | 10 => aI 4 (ba 10)
  | _ => aI 4 (ba 11)
def CUH (a : Nat) (ba : Nat → Nat → Int) (bi : Nat → Int) (bf : Nat → Nat) (h0 : HP) : HP := (h0.1, fun x => if x = a ∨ (a + 8 ≤ x ∧ x ≤ a + 11) then some (cucell a ba bi bf (x - a)) else h0.2 x)
theorem CUg {a : Nat} {ba : Nat → Nat → Int} {bi : Nat → Int} {bf : Nat → Nat} {h0 : HP} {j : Nat} (hj : (j = 0 ∨ (8 ≤ j ∧ j ≤ 11))) : (CUH a ba bi bf h0).2 (a + j) = some (cucell a ba bi bf j) := by
  show (if _ then _ else _) = _
  rw [if_pos (by omega), Nat.add_sub_cancel_left]
theorem CUn {a : Nat} {ba : Nat → Nat → Int} {bi : Nat → Int} {bf : Nat → Nat} {h0 : HP} {x : Nat} (hx : ¬ (x = a ∨ (a + 8 ≤ x ∧ x ≤ a + 11))) : (CUH a ba bi bf h0).2 x = h0.2 x := if_neg hx
theorem CUo {a : Nat} {ba : Nat → Nat → Int} {bi : Nat → Int} {bf : Nat → Nat} {h0 : HP} {x : Nat} {e : CE} (hx : ¬ (x = a ∨ (a + 8 ≤ x ∧ x ≤ a + 11))) (he : h0.2 x = some e) : (CUH a ba bi bf h0).2 x = some e := (CUn hx).trans he
theorem CU0 {a : Nat} {ba : Nat → Nat → Int} {bi : Nat → Int} {bf : Nat → Nat} {h0 : HP} : (CUH a ba bi bf h0).2 a = some (.inr (1, cufs a bi bf)) := CUg (j := 0) (by omega)
theorem CU_up {a : Nat} {ba : Nat → Nat → Int} {bi : Nat → Int} {bf : Nat → Nat} {h0 : HP} {ba' : Nat → Nat → Int} {bi' : Nat → Int} {bf' : Nat → Nat} {j : Nat} {e : CE} (hj : (j = 0 ∨ (8 ≤ j ∧ j ≤ 11))) (he : cucell a ba' bi' bf' j = e) (ho : ∀ i, (i = 0 ∨ (8 ≤ i ∧ i ≤ 11)) → i ≠ j → cucell a ba' bi' bf' i = cucell a ba bi bf i) : (((CUH a ba bi bf h0).1, up (CUH a ba bi bf h0).2 (a + j) e) : HP) = CUH a ba' bi' bf' h0 := by
  refine Prod.ext rfl (funext fun x => ?_)
  show (if x = a + j then some e else if x = a ∨ (a + 8 ≤ x ∧ x ≤ a + 11) then some (cucell a ba bi bf (x - a)) else h0.2 x) = (if x = a ∨ (a + 8 ≤ x ∧ x ≤ a + 11) then some (cucell a ba' bi' bf' (x - a)) else h0.2 x)
  by_cases h1 : x = a + j
  · rw [if_pos h1, if_pos (by omega), h1, Nat.add_sub_cancel_left, he]
  · rw [if_neg h1]
    by_cases h2 : x = a ∨ (a + 8 ≤ x ∧ x ≤ a + 11)
    · rw [if_pos h2, if_pos h2, ho (x - a) (by omega) (by omega)]
    · rw [if_neg h2, if_neg h2]
def CUP (h : HP) (a : Nat) (ba : Nat → Nat → Int) (bi : Nat → Int) (bf : Nat → Nat) : Prop := ∀ j, (j = 0 ∨ (8 ≤ j ∧ j ≤ 11)) → h.2 (a + j) = some (cucell a ba bi bf j)
theorem CUP.self {h : HP} {a : Nat} {ba : Nat → Nat → Int} {bi : Nat → Int} {bf : Nat → Nat} (H : CUP h a ba bi bf) : CUH a ba bi bf h = h := by
  refine Prod.ext rfl (funext fun x => ?_)
  show (if x = a ∨ (a + 8 ≤ x ∧ x ≤ a + 11) then some (cucell a ba bi bf (x - a)) else h.2 x) = h.2 x
  by_cases hx : x = a ∨ (a + 8 ≤ x ∧ x ≤ a + 11)
  · rw [if_pos hx, ← H (x - a) (by omega), show a + (x - a) = x by omega]
  · rw [if_neg hx]
theorem CUP.sh {a : Nat} {ba : Nat → Nat → Int} {bi : Nat → Int} {bf : Nat → Nat} {h0 : HP} : CUP (CUH a ba bi bf h0) a ba bi bf := fun j hj => CUg hj
theorem cult {Q : Nat → Prop} (q0 : Q 0) (q8 : Q 8) (q9 : Q 9) (q10 : Q 10) (q11 : Q 11) : ∀ i, (i = 0 ∨ (8 ≤ i ∧ i ≤ 11)) → Q i := by
  intro i hi
  rcases (show i = 0 ∨ i = 8 ∨ i = 9 ∨ i = 10 ∨ i = 11 by omega) with w | w | w | w | w
  · rw [w]; exact q0
  · rw [w]; exact q8
  · rw [w]; exact q9
  · rw [w]; exact q10
  · rw [w]; exact q11
theorem CU8 {a : Nat} {ba : Nat → Nat → Int} {bi : Nat → Int} {bf : Nat → Nat} {h0 : HP} : (CUH a ba bi bf h0).2 (a + 8) = some (aI 5 (ba 8)) := CUg (j := 8) (by omega)
theorem CUu8 {a : Nat} {ba : Nat → Nat → Int} {bi : Nat → Int} {bf : Nat → Nat} {h0 : HP} {g : Nat → Int} : (((CUH a ba bi bf h0).1, up (CUH a ba bi bf h0).2 (a + 8) (aI 5 g)) : HP) = CUH a (u1 ba 8 g) bi bf h0 := CU_up (ba' := (u1 ba 8 g)) (bi' := bi) (bf' := bf) (by omega) rfl (cult (fun _ => rfl) (fun z => absurd rfl z) (fun _ => rfl) (fun _ => rfl) (fun _ => rfl))
theorem cu_ist8 {Y : MT} {pc : Nat} {lv st : List Value} {rc rs : Nat} {Φ : Option Value → HP → Prop} {a : Nat} {ba : Nat → Nat → Int} {bi : Nat → Int} {bf : Nat → Nat} {h0 : HP} {z v : Int} (k : Nat) (hk : z = (k : Int)) (hlt : k < 5) (hd : decode Y.2.1 pc = .ok (.iastore, 1)) (kk : wp Y (pc + 1) lv st (CUH a (u1 ba 8 (u1 (ba 8) k v)) bi bf h0) rc rs Φ) : wp Y pc lv (.int (zI v) :: .int (zI z) :: .ref (a + 8) :: st) (CUH a ba bi bf h0) rc rs Φ := by
  refine w_iast k CU8 hk hlt (by decide) hd ?_
  exact w_cast rfl rfl CUu8 kk
theorem CU9 {a : Nat} {ba : Nat → Nat → Int} {bi : Nat → Int} {bf : Nat → Nat} {h0 : HP} : (CUH a ba bi bf h0).2 (a + 9) = some (aI 4 (ba 9)) := CUg (j := 9) (by omega)
theorem CUu9 {a : Nat} {ba : Nat → Nat → Int} {bi : Nat → Int} {bf : Nat → Nat} {h0 : HP} {g : Nat → Int} : (((CUH a ba bi bf h0).1, up (CUH a ba bi bf h0).2 (a + 9) (aI 4 g)) : HP) = CUH a (u1 ba 9 g) bi bf h0 := CU_up (ba' := (u1 ba 9 g)) (bi' := bi) (bf' := bf) (by omega) rfl (cult (fun _ => rfl) (fun _ => rfl) (fun z => absurd rfl z) (fun _ => rfl) (fun _ => rfl))
theorem cu_ist9 {Y : MT} {pc : Nat} {lv st : List Value} {rc rs : Nat} {Φ : Option Value → HP → Prop} {a : Nat} {ba : Nat → Nat → Int} {bi : Nat → Int} {bf : Nat → Nat} {h0 : HP} {z v : Int} (k : Nat) (hk : z = (k : Int)) (hlt : k < 4) (hd : decode Y.2.1 pc = .ok (.iastore, 1)) (kk : wp Y (pc + 1) lv st (CUH a (u1 ba 9 (u1 (ba 9) k v)) bi bf h0) rc rs Φ) : wp Y pc lv (.int (zI v) :: .int (zI z) :: .ref (a + 9) :: st) (CUH a ba bi bf h0) rc rs Φ := by
  refine w_iast k CU9 hk hlt (by decide) hd ?_
  exact w_cast rfl rfl CUu9 kk
theorem CU10 {a : Nat} {ba : Nat → Nat → Int} {bi : Nat → Int} {bf : Nat → Nat} {h0 : HP} : (CUH a ba bi bf h0).2 (a + 10) = some (aI 4 (ba 10)) := CUg (j := 10) (by omega)
theorem CUu10 {a : Nat} {ba : Nat → Nat → Int} {bi : Nat → Int} {bf : Nat → Nat} {h0 : HP} {g : Nat → Int} : (((CUH a ba bi bf h0).1, up (CUH a ba bi bf h0).2 (a + 10) (aI 4 g)) : HP) = CUH a (u1 ba 10 g) bi bf h0 := CU_up (ba' := (u1 ba 10 g)) (bi' := bi) (bf' := bf) (by omega) rfl (cult (fun _ => rfl) (fun _ => rfl) (fun _ => rfl) (fun z => absurd rfl z) (fun _ => rfl))
theorem cu_ist10 {Y : MT} {pc : Nat} {lv st : List Value} {rc rs : Nat} {Φ : Option Value → HP → Prop} {a : Nat} {ba : Nat → Nat → Int} {bi : Nat → Int} {bf : Nat → Nat} {h0 : HP} {z v : Int} (k : Nat) (hk : z = (k : Int)) (hlt : k < 4) (hd : decode Y.2.1 pc = .ok (.iastore, 1)) (kk : wp Y (pc + 1) lv st (CUH a (u1 ba 10 (u1 (ba 10) k v)) bi bf h0) rc rs Φ) : wp Y pc lv (.int (zI v) :: .int (zI z) :: .ref (a + 10) :: st) (CUH a ba bi bf h0) rc rs Φ := by
  refine w_iast k CU10 hk hlt (by decide) hd ?_
  exact w_cast rfl rfl CUu10 kk
theorem CU11 {a : Nat} {ba : Nat → Nat → Int} {bi : Nat → Int} {bf : Nat → Nat} {h0 : HP} : (CUH a ba bi bf h0).2 (a + 11) = some (aI 4 (ba 11)) := CUg (j := 11) (by omega)
theorem CUu11 {a : Nat} {ba : Nat → Nat → Int} {bi : Nat → Int} {bf : Nat → Nat} {h0 : HP} {g : Nat → Int} : (((CUH a ba bi bf h0).1, up (CUH a ba bi bf h0).2 (a + 11) (aI 4 g)) : HP) = CUH a (u1 ba 11 g) bi bf h0 := CU_up (ba' := (u1 ba 11 g)) (bi' := bi) (bf' := bf) (by omega) rfl (cult (fun _ => rfl) (fun _ => rfl) (fun _ => rfl) (fun _ => rfl) (fun z => absurd rfl z))
theorem cu_ist11 {Y : MT} {pc : Nat} {lv st : List Value} {rc rs : Nat} {Φ : Option Value → HP → Prop} {a : Nat} {ba : Nat → Nat → Int} {bi : Nat → Int} {bf : Nat → Nat} {h0 : HP} {z v : Int} (k : Nat) (hk : z = (k : Int)) (hlt : k < 4) (hd : decode Y.2.1 pc = .ok (.iastore, 1)) (kk : wp Y (pc + 1) lv st (CUH a (u1 ba 11 (u1 (ba 11) k v)) bi bf h0) rc rs Φ) : wp Y pc lv (.int (zI v) :: .int (zI z) :: .ref (a + 11) :: st) (CUH a ba bi bf h0) rc rs Φ := by
  refine w_iast k CU11 hk hlt (by decide) hd ?_
  exact w_cast rfl rfl CUu11 kk
theorem cu_pf0 {Y : MT} {pc : Nat} {lv st : List Value} {rc rs : Nat} {Φ : Option Value → HP → Prop} {a : Nat} {ba : Nat → Nat → Int} {bi : Nat → Int} {bf : Nat → Nat} {h0 : HP} {idx v : Nat} {nm : String} (hf : FW Y.1.cls idx 1 0 false (.object nm)) (hd : decode Y.2.1 pc = .ok (.putfield idx, 3)) (kk : wp Y (pc + 3) lv st (CUH a ba bi (u1 bf 0 v) h0) rc rs Φ) : wp Y pc lv (.ref v :: .ref a :: st) (CUH a ba bi bf h0) rc rs Φ := by
  refine w_putf hf hd CU0 (Nat.le_of_ble_eq_true rfl) rfl rfl ?_
  exact w_cast rfl rfl (CU_up (ba' := ba) (bi' := bi) (bf' := u1 bf 0 v) (j := 0) (by omega) (by rfl) (cult (fun z => absurd rfl z) (fun _ => rfl) (fun _ => rfl) (fun _ => rfl) (fun _ => rfl))) kk
theorem cu_pf7 {Y : MT} {pc : Nat} {lv st : List Value} {rc rs : Nat} {Φ : Option Value → HP → Prop} {a : Nat} {ba : Nat → Nat → Int} {bi : Nat → Int} {bf : Nat → Nat} {h0 : HP} {idx : Nat} {v : Int} (hf : FW Y.1.cls idx 1 7 false .int) (hd : decode Y.2.1 pc = .ok (.putfield idx, 3)) (kk : wp Y (pc + 3) lv st (CUH a ba (u1 bi 7 v) bf h0) rc rs Φ) : wp Y pc lv (.int (zI v) :: .ref a :: st) (CUH a ba bi bf h0) rc rs Φ := by
  refine w_putf hf hd CU0 (Nat.le_of_ble_eq_true rfl) rfl rfl ?_
  exact w_cast rfl rfl (CU_up (ba' := ba) (bi' := u1 bi 7 v) (bf' := bf) (j := 0) (by omega) (by rfl) (cult (fun z => absurd rfl z) (fun _ => rfl) (fun _ => rfl) (fun _ => rfl) (fun _ => rfl))) kk
theorem cu_pf8 {Y : MT} {pc : Nat} {lv st : List Value} {rc rs : Nat} {Φ : Option Value → HP → Prop} {a : Nat} {ba : Nat → Nat → Int} {bi : Nat → Int} {bf : Nat → Nat} {h0 : HP} {idx : Nat} {v : Int} (hf : FW Y.1.cls idx 1 8 false .int) (hd : decode Y.2.1 pc = .ok (.putfield idx, 3)) (kk : wp Y (pc + 3) lv st (CUH a ba (u1 bi 8 v) bf h0) rc rs Φ) : wp Y pc lv (.int (zI v) :: .ref a :: st) (CUH a ba bi bf h0) rc rs Φ := by
  refine w_putf hf hd CU0 (Nat.le_of_ble_eq_true rfl) rfl rfl ?_
  exact w_cast rfl rfl (CU_up (ba' := ba) (bi' := u1 bi 8 v) (bf' := bf) (j := 0) (by omega) (by rfl) (cult (fun z => absurd rfl z) (fun _ => rfl) (fun _ => rfl) (fun _ => rfl) (fun _ => rfl))) kk

