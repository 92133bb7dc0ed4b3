/-! the class's other objects in the heap -/
def flfs (a : Nat) (bi : Nat → Int) : List Value := [.ref (a + 1), .ref (a + 2), .int (zI (bi 2)), .int (zI (bi 3)), .int (zI (bi 4))]
def flcell (a : Nat) (ba : Nat → Nat → Int) (bi : Nat → Int) : Nat → CE := fun j => match j with
  | 0 => .inr (3, flfs a bi)
  | 1 => aI 4 (ba 1)
  | _ => aI 8 (ba 2)
def FLH (a : Nat) (ba : Nat → Nat → Int) (bi : Nat → Int) (h0 : HP) : HP := (h0.1, fun x => if a ≤ x ∧ x ≤ a + 2 then some (flcell a ba bi (x - a)) else h0.2 x)
theorem FLg {a : Nat} {ba : Nat → Nat → Int} {bi : Nat → Int} {h0 : HP} {j : Nat} (hj : j ≤ 2) : (FLH a ba bi h0).2 (a + j) = some (flcell a ba bi j) := by
  show (if _ then _ else _) = _
  rw [if_pos ⟨by omega, by omega⟩, Nat.add_sub_cancel_left]
theorem FLn {a : Nat} {ba : Nat → Nat → Int} {bi : Nat → Int} {h0 : HP} {x : Nat} (hx : ¬ (a ≤ x ∧ x ≤ a + 2)) : (FLH a ba bi h0).2 x = h0.2 x := if_neg hx
theorem FLo {a : Nat} {ba : Nat → Nat → Int} {bi : Nat → Int} {h0 : HP} {x : Nat} {e : CE} (hx : ¬ (a ≤ x ∧ x ≤ a + 2)) (he : h0.2 x = some e) : (FLH a ba bi h0).2 x = some e := (FLn hx).trans he
theorem FL0 {a : Nat} {ba : Nat → Nat → Int} {bi : Nat → Int} {h0 : HP} : (FLH a ba bi h0).2 a = some (.inr (3, flfs a bi)) := FLg (j := 0) (by omega)
theorem FL_up {a : Nat} {ba : Nat → Nat → Int} {bi : Nat → Int} {h0 : HP} {ba' : Nat → Nat → Int} {bi' : Nat → Int} {j : Nat} {e : CE} (hj : j ≤ 2) (he : flcell a ba' bi' j = e) (ho : ∀ i, i ≤ 2 → i ≠ j → flcell a ba' bi' i = flcell a ba bi i) : (((FLH a ba bi h0).1, up (FLH a ba bi h0).2 (a + j) e) : HP) = FLH a ba' bi' h0 := by
  refine Prod.ext rfl (funext fun x => ?_)
  show (if x = a + j then some e else if a ≤ x ∧ x ≤ a + 2 then some (flcell a ba bi (x - a)) else h0.2 x) = (if a ≤ x ∧ x ≤ a + 2 then some (flcell a ba' bi' (x - a)) else h0.2 x)
  by_cases h1 : x = a + j
  · rw [if_pos h1, if_pos ⟨by omega, by omega⟩, h1, Nat.add_sub_cancel_left, he]
  · rw [if_neg h1]
    by_cases h2 : a ≤ x ∧ x ≤ a + 2
    · rw [if_pos h2, if_pos h2, ho (x - a) (by omega) (by omega)]
    · rw [if_neg h2, if_neg h2]
def FLP (h : HP) (a : Nat) (ba : Nat → Nat → Int) (bi : Nat → Int) : Prop := ∀ j, j ≤ 2 → h.2 (a + j) = some (flcell a ba bi j)
theorem FLP.self {h : HP} {a : Nat} {ba : Nat → Nat → Int} {bi : Nat → Int} (H : FLP h a ba bi) : FLH a ba bi h = h := by
  refine Prod.ext rfl (funext fun x => ?_)
  show (if a ≤ x ∧ x ≤ a + 2 then some (flcell a ba bi (x - a)) else h.2 x) = h.2 x
  by_cases hx : a ≤ x ∧ x ≤ a + 2
  · rw [if_pos hx, ← H (x - a) (by omega), show a + (x - a) = x by omega]
  · rw [if_neg hx]
theorem FLP.sh {a : Nat} {ba : Nat → Nat → Int} {bi : Nat → Int} {h0 : HP} : FLP (FLH a ba bi h0) a ba bi := fun j hj => FLg hj
theorem fllt {Q : Nat → Prop} (q0 : Q 0) (q1 : Q 1) (q2 : Q 2) : ∀ i, i ≤ 2 → Q i := by
  intro i hi
  match i, hi with
  | 0, _ => exact q0
  | 1, _ => exact q1
  | 2, _ => exact q2
  | i + 3, hi => exact absurd hi (by omega)
theorem FL1 {a : Nat} {ba : Nat → Nat → Int} {bi : Nat → Int} {h0 : HP} : (FLH a ba bi h0).2 (a + 1) = some (aI 4 (ba 1)) := FLg (j := 1) (by omega)
theorem FLu1 {a : Nat} {ba : Nat → Nat → Int} {bi : Nat → Int} {h0 : HP} {g : Nat → Int} : (((FLH a ba bi h0).1, up (FLH a ba bi h0).2 (a + 1) (aI 4 g)) : HP) = FLH a (u1 ba 1 g) bi h0 := FL_up (ba' := (u1 ba 1 g)) (bi' := bi) (by omega) rfl (fllt (fun _ => rfl) (fun z => absurd rfl z) (fun _ => rfl))
theorem fl_ist1 {Y : MT} {pc : Nat} {lv st : List Value} {rc rs : Nat} {Φ : Option Value → HP → Prop} {a : Nat} {ba : Nat → Nat → Int} {bi : Nat → Int} {h0 : HP} {z v : Int} (k : Nat) (hk : z = (k : Int)) (hlt : k < 4) (hd : decode Y.2.1 pc = .ok (.iastore, 1)) (kk : wp Y (pc + 1) lv st (FLH a (u1 ba 1 (u1 (ba 1) k v)) bi h0) rc rs Φ) : wp Y pc lv (.int (zI v) :: .int (zI z) :: .ref (a + 1) :: st) (FLH a ba bi h0) rc rs Φ := by
  refine w_iast k FL1 hk hlt (by decide) hd ?_
  exact w_cast rfl rfl FLu1 kk
theorem FL2 {a : Nat} {ba : Nat → Nat → Int} {bi : Nat → Int} {h0 : HP} : (FLH a ba bi h0).2 (a + 2) = some (aI 8 (ba 2)) := FLg (j := 2) (by omega)
theorem FLu2 {a : Nat} {ba : Nat → Nat → Int} {bi : Nat → Int} {h0 : HP} {g : Nat → Int} : (((FLH a ba bi h0).1, up (FLH a ba bi h0).2 (a + 2) (aI 8 g)) : HP) = FLH a (u1 ba 2 g) bi h0 := FL_up (ba' := (u1 ba 2 g)) (bi' := bi) (by omega) rfl (fllt (fun _ => rfl) (fun _ => rfl) (fun z => absurd rfl z))
theorem fl_ist2 {Y : MT} {pc : Nat} {lv st : List Value} {rc rs : Nat} {Φ : Option Value → HP → Prop} {a : Nat} {ba : Nat → Nat → Int} {bi : Nat → Int} {h0 : HP} {z v : Int} (k : Nat) (hk : z = (k : Int)) (hlt : k < 8) (hd : decode Y.2.1 pc = .ok (.iastore, 1)) (kk : wp Y (pc + 1) lv st (FLH a (u1 ba 2 (u1 (ba 2) k v)) bi h0) rc rs Φ) : wp Y pc lv (.int (zI v) :: .int (zI z) :: .ref (a + 2) :: st) (FLH a ba bi h0) rc rs Φ := by
  refine w_iast k FL2 hk hlt (by decide) hd ?_
  exact w_cast rfl rfl FLu2 kk
theorem fl_pf2 {Y : MT} {pc : Nat} {lv st : List Value} {rc rs : Nat} {Φ : Option Value → HP → Prop} {a : Nat} {ba : Nat → Nat → Int} {bi : Nat → Int} {h0 : HP} {idx : Nat} {v : Int} (hf : FW Y.1.cls idx 3 2 false .int) (hd : decode Y.2.1 pc = .ok (.putfield idx, 3)) (kk : wp Y (pc + 3) lv st (FLH a ba (u1 bi 2 v) h0) rc rs Φ) : wp Y pc lv (.int (zI v) :: .ref a :: st) (FLH a ba bi h0) rc rs Φ := by
  refine w_putf hf hd FL0 (Nat.le_of_ble_eq_true rfl) rfl rfl ?_
  exact w_cast rfl rfl (FL_up (ba' := ba) (bi' := u1 bi 2 v) (j := 0) (by omega) (by rfl) (fllt (fun z => absurd rfl z) (fun _ => rfl) (fun _ => rfl))) kk
theorem fl_pf3 {Y : MT} {pc : Nat} {lv st : List Value} {rc rs : Nat} {Φ : Option Value → HP → Prop} {a : Nat} {ba : Nat → Nat → Int} {bi : Nat → Int} {h0 : HP} {idx : Nat} {v : Int} (hf : FW Y.1.cls idx 3 3 false .int) (hd : decode Y.2.1 pc = .ok (.putfield idx, 3)) (kk : wp Y (pc + 3) lv st (FLH a ba (u1 bi 3 v) h0) rc rs Φ) : wp Y pc lv (.int (zI v) :: .ref a :: st) (FLH a ba bi h0) rc rs Φ := by
  refine w_putf hf hd FL0 (Nat.le_of_ble_eq_true rfl) rfl rfl ?_
  exact w_cast rfl rfl (FL_up (ba' := ba) (bi' := u1 bi 3 v) (j := 0) (by omega) (by rfl) (fllt (fun z => absurd rfl z) (fun _ => rfl) (fun _ => rfl))) kk
theorem fl_pf4 {Y : MT} {pc : Nat} {lv st : List Value} {rc rs : Nat} {Φ : Option Value → HP → Prop} {a : Nat} {ba : Nat → Nat → Int} {bi : Nat → Int} {h0 : HP} {idx : Nat} {v : Int} (hf : FW Y.1.cls idx 3 4 false .int) (hd : decode Y.2.1 pc = .ok (.putfield idx, 3)) (kk : wp Y (pc + 3) lv st (FLH a ba (u1 bi 4 v) h0) rc rs Φ) : wp Y pc lv (.int (zI v) :: .ref a :: st) (FLH a ba bi h0) rc rs Φ := by
  refine w_putf hf hd FL0 (Nat.le_of_ble_eq_true rfl) rfl rfl ?_
  exact w_cast rfl rfl (FL_up (ba' := ba) (bi' := u1 bi 4 v) (j := 0) (by omega) (by rfl) (fllt (fun z => absurd rfl z) (fun _ => rfl) (fun _ => rfl))) kk
def awfs (a : Nat) (bi : Nat → Int) (bq : Nat → BitVec 64) : List Value := [.ref (a + 1), .int (zI (bi 1)), .int (zI (bi 2)), .long (lB (bq 3))]
def awcell (a : Nat) (bl : Nat → Nat → BitVec 64) (bi : Nat → Int) (bq : Nat → BitVec 64) : Nat → CE := fun j => match j with
  | 0 => .inr (0, awfs a bi bq)
  | _ => aL 13 (bl 1)
def AWH (a : Nat) (bl : Nat → Nat → BitVec 64) (bi : Nat → Int) (bq : Nat → BitVec 64) (h0 : HP) : HP := (h0.1, fun x => if a ≤ x ∧ x ≤ a + 1 then some (awcell a bl bi bq (x - a)) else h0.2 x)
theorem AWg {a : Nat} {bl : Nat → Nat → BitVec 64} {bi : Nat → Int} {bq : Nat → BitVec 64} {h0 : HP} {j : Nat} (hj : j ≤ 1) : (AWH a bl bi bq h0).2 (a + j) = some (awcell a bl bi bq j) := by
  show (if _ then _ else _) = _
  rw [if_pos ⟨by omega, by omega⟩, Nat.add_sub_cancel_left]
theorem AWn {a : Nat} {bl : Nat → Nat → BitVec 64} {bi : Nat → Int} {bq : Nat → BitVec 64} {h0 : HP} {x : Nat} (hx : ¬ (a ≤ x ∧ x ≤ a + 1)) : (AWH a bl bi bq h0).2 x = h0.2 x := if_neg hx
theorem AWo {a : Nat} {bl : Nat → Nat → BitVec 64} {bi : Nat → Int} {bq : Nat → BitVec 64} {h0 : HP} {x : Nat} {e : CE} (hx : ¬ (a ≤ x ∧ x ≤ a + 1)) (he : h0.2 x = some e) : (AWH a bl bi bq h0).2 x = some e := (AWn hx).trans he
theorem AW0 {a : Nat} {bl : Nat → Nat → BitVec 64} {bi : Nat → Int} {bq : Nat → BitVec 64} {h0 : HP} : (AWH a bl bi bq h0).2 a = some (.inr (0, awfs a bi bq)) := AWg (j := 0) (by omega)
theorem AW_up {a : Nat} {bl : Nat → Nat → BitVec 64} {bi : Nat → Int} {bq : Nat → BitVec 64} {h0 : HP} {bl' : Nat → Nat → BitVec 64} {bi' : Nat → Int} {bq' : Nat → BitVec 64} {j : Nat} {e : CE} (hj : j ≤ 1) (he : awcell a bl' bi' bq' j = e) (ho : ∀ i, i ≤ 1 → i ≠ j → awcell a bl' bi' bq' i = awcell a bl bi bq i) : (((AWH a bl bi bq h0).1, up (AWH a bl bi bq h0).2 (a + j) e) : HP) = AWH a bl' bi' bq' h0 := by
  refine Prod.ext rfl (funext fun x => ?_)
  show (if x = a + j then some e else if a ≤ x ∧ x ≤ a + 1 then some (awcell a bl bi bq (x - a)) else h0.2 x) = (if a ≤ x ∧ x ≤ a + 1 then some (awcell a bl' bi' bq' (x - a)) else h0.2 x)
  by_cases h1 : x = a + j
  · rw [if_pos h1, if_pos ⟨by omega, by omega⟩, h1, Nat.add_sub_cancel_left, he]
  · rw [if_neg h1]
    by_cases h2 : a ≤ x ∧ x ≤ a + 1
    · rw [if_pos h2, if_pos h2, ho (x - a) (by omega) (by omega)]
    · rw [if_neg h2, if_neg h2]
def AWP (h : HP) (a : Nat) (bl : Nat → Nat → BitVec 64) (bi : Nat → Int) (bq : Nat → BitVec 64) : Prop := ∀ j, j ≤ 1 → h.2 (a + j) = some (awcell a bl bi bq j)
theorem AWP.self {h : HP} {a : Nat} {bl : Nat → Nat → BitVec 64} {bi : Nat → Int} {bq : Nat → BitVec 64} (H : AWP h a bl bi bq) : AWH a bl bi bq h = h := by
  refine Prod.ext rfl (funext fun x => ?_)
  show (if a ≤ x ∧ x ≤ a + 1 then some (awcell a bl bi bq (x - a)) else h.2 x) = h.2 x
  by_cases hx : a ≤ x ∧ x ≤ a + 1
  · rw [if_pos hx, ← H (x - a) (by omega), show a + (x - a) = x by omega]
  · rw [if_neg hx]
theorem AWP.sh {a : Nat} {bl : Nat → Nat → BitVec 64} {bi : Nat → Int} {bq : Nat → BitVec 64} {h0 : HP} : AWP (AWH a bl bi bq h0) a bl bi bq := fun j hj => AWg hj
theorem awlt {Q : Nat → Prop} (q0 : Q 0) (q1 : Q 1) : ∀ i, i ≤ 1 → Q i := by
  intro i hi
  match i, hi with
  | 0, _ => exact q0
  | 1, _ => exact q1
  | i + 2, hi => exact absurd hi (by omega)
theorem AW1 {a : Nat} {bl : Nat → Nat → BitVec 64} {bi : Nat → Int} {bq : Nat → BitVec 64} {h0 : HP} : (AWH a bl bi bq h0).2 (a + 1) = some (aL 13 (bl 1)) := AWg (j := 1) (by omega)
theorem AWu1 {a : Nat} {bl : Nat → Nat → BitVec 64} {bi : Nat → Int} {bq : Nat → BitVec 64} {h0 : HP} {g : Nat → BitVec 64} : (((AWH a bl bi bq h0).1, up (AWH a bl bi bq h0).2 (a + 1) (aL 13 g)) : HP) = AWH a (u1 bl 1 g) bi bq h0 := AW_up (bl' := (u1 bl 1 g)) (bi' := bi) (bq' := bq) (by omega) rfl (awlt (fun _ => rfl) (fun z => absurd rfl z))
theorem aw_lst1 {Y : MT} {pc : Nat} {lv st : List Value} {rc rs : Nat} {Φ : Option Value → HP → Prop} {a : Nat} {bl : Nat → Nat → BitVec 64} {bi : Nat → Int} {bq : Nat → BitVec 64} {h0 : HP} {z : Int} {v : BitVec 64} (k : Nat) (hk : z = (k : Int)) (hlt : k < 13) (hd : decode Y.2.1 pc = .ok (.lastore, 1)) (kk : wp Y (pc + 1) lv st (AWH a (u1 bl 1 (u1 (bl 1) k v)) bi bq h0) rc rs Φ) : wp Y pc lv (.long (lB v) :: .int (zI z) :: .ref (a + 1) :: st) (AWH a bl bi bq h0) rc rs Φ := by
  refine w_last k AW1 hk hlt (by decide) hd ?_
  exact w_cast rfl rfl AWu1 kk
theorem aw_pf1 {Y : MT} {pc : Nat} {lv st : List Value} {rc rs : Nat} {Φ : Option Value → HP → Prop} {a : Nat} {bl : Nat → Nat → BitVec 64} {bi : Nat → Int} {bq : Nat → BitVec 64} {h0 : HP} {idx : Nat} {v : Int} (hf : FW Y.1.cls idx 0 1 false .int) (hd : decode Y.2.1 pc = .ok (.putfield idx, 3)) (kk : wp Y (pc + 3) lv st (AWH a bl (u1 bi 1 v) bq h0) rc rs Φ) : wp Y pc lv (.int (zI v) :: .ref a :: st) (AWH a bl bi bq h0) rc rs Φ := by
  refine w_putf hf hd AW0 (Nat.le_of_ble_eq_true rfl) rfl rfl ?_
  exact w_cast rfl rfl (AW_up (bl' := bl) (bi' := u1 bi 1 v) (bq' := bq) (j := 0) (by omega) (by rfl) (awlt (fun z => absurd rfl z) (fun _ => rfl))) kk
theorem aw_pf2 {Y : MT} {pc : Nat} {lv st : List Value} {rc rs : Nat} {Φ : Option Value → HP → Prop} {a : Nat} {bl : Nat → Nat → BitVec 64} {bi : Nat → Int} {bq : Nat → BitVec 64} {h0 : HP} {idx : Nat} {v : Int} (hf : FW Y.1.cls idx 0 2 false .int) (hd : decode Y.2.1 pc = .ok (.putfield idx, 3)) (kk : wp Y (pc + 3) lv st (AWH a bl (u1 bi 2 v) bq h0) rc rs Φ) : wp Y pc lv (.int (zI v) :: .ref a :: st) (AWH a bl bi bq h0) rc rs Φ := by
  refine w_putf hf hd AW0 (Nat.le_of_ble_eq_true rfl) rfl rfl ?_
  exact w_cast rfl rfl (AW_up (bl' := bl) (bi' := u1 bi 2 v) (bq' := bq) (j := 0) (by omega) (by rfl) (awlt (fun z => absurd rfl z) (fun _ => rfl))) kk
theorem aw_pf3 {Y : MT} {pc : Nat} {lv st : List Value} {rc rs : Nat} {Φ : Option Value → HP → Prop} {a : Nat} {bl : Nat → Nat → BitVec 64} {bi : Nat → Int} {bq : Nat → BitVec 64} {h0 : HP} {idx : Nat} {v : BitVec 64} (hf : FW Y.1.cls idx 0 3 false .long) (hd : decode Y.2.1 pc = .ok (.putfield idx, 3)) (kk : wp Y (pc + 3) lv st (AWH a bl bi (u1 bq 3 v) h0) rc rs Φ) : wp Y pc lv (.long (lB v) :: .ref a :: st) (AWH a bl bi bq h0) rc rs Φ := by
  refine w_putf hf hd AW0 (Nat.le_of_ble_eq_true rfl) rfl rfl ?_
  exact w_cast rfl rfl (AW_up (bl' := bl) (bi' := bi) (bq' := u1 bq 3 v) (j := 0) (by omega) (by rfl) (awlt (fun z => absurd rfl z) (fun _ => rfl))) kk
def rdfs (a : Nat) (bi : Nat → Int) : List Value := [.ref (a + 1), .int (zI (bi 1)), .int (zI (bi 2)), .int (zI (bi 3)), .int (zI (bi 4)), .int (zI (bi 5)), .int (zI (bi 6)), .int (zI (bi 7)), .int (zI (bi 8)), .int (zI (bi 9)), .int (zI (bi 10)), .int (zI (bi 11)), .int (zI (bi 12)), .ref (a + 2)]
def rdcell (a : Nat) (ba : Nat → Nat → Int) (bi : Nat → Int) : Nat → CE := fun j => match j with
  | 0 => .inr (6, rdfs a bi)
  | 1 => aI 300 (ba 1)
  | _ => aI 32 (ba 2)
def RDH (a : Nat) (ba : Nat → Nat → Int) (bi : Nat → Int) (h0 : HP) : HP := (h0.1, fun x => if a ≤ x ∧ x ≤ a + 2 then some (rdcell a ba bi (x - a)) else h0.2 x)
theorem RDg {a : Nat} {ba : Nat → Nat → Int} {bi : Nat → Int} {h0 : HP} {j : Nat} (hj : j ≤ 2) : (RDH a ba bi h0).2 (a + j) = some (rdcell a ba bi j) := by
  show (if _ then _ else _) = _
  rw [if_pos ⟨by omega, by omega⟩, Nat.add_sub_cancel_left]
theorem RDn {a : Nat} {ba : Nat → Nat → Int} {bi : Nat → Int} {h0 : HP} {x : Nat} (hx : ¬ (a ≤ x ∧ x ≤ a + 2)) : (RDH a ba bi h0).2 x = h0.2 x := if_neg hx
theorem RDo {a : Nat} {ba : Nat → Nat → Int} {bi : Nat → Int} {h0 : HP} {x : Nat} {e : CE} (hx : ¬ (a ≤ x ∧ x ≤ a + 2)) (he : h0.2 x = some e) : (RDH a ba bi h0).2 x = some e := (RDn hx).trans he
theorem RD0 {a : Nat} {ba : Nat → Nat → Int} {bi : Nat → Int} {h0 : HP} : (RDH a ba bi h0).2 a = some (.inr (6, rdfs a bi)) := RDg (j := 0) (by omega)
theorem RD_up {a : Nat} {ba : Nat → Nat → Int} {bi : Nat → Int} {h0 : HP} {ba' : Nat → Nat → Int} {bi' : Nat → Int} {j : Nat} {e : CE} (hj : j ≤ 2) (he : rdcell a ba' bi' j = e) (ho : ∀ i, i ≤ 2 → i ≠ j → rdcell a ba' bi' i = rdcell a ba bi i) : (((RDH a ba bi h0).1, up (RDH a ba bi h0).2 (a + j) e) : HP) = RDH a ba' bi' h0 := by
  refine Prod.ext rfl (funext fun x => ?_)
  show (if x = a + j then some e else if a ≤ x ∧ x ≤ a + 2 then some (rdcell a ba bi (x - a)) else h0.2 x) = (if a ≤ x ∧ x ≤ a + 2 then some (rdcell a ba' bi' (x - a)) else h0.2 x)
  by_cases h1 : x = a + j
  · rw [if_pos h1, if_pos ⟨by omega, by omega⟩, h1, Nat.add_sub_cancel_left, he]
  · rw [if_neg h1]
    by_cases h2 : a ≤ x ∧ x ≤ a + 2
    · rw [if_pos h2, if_pos h2, ho (x - a) (by omega) (by omega)]
    · rw [if_neg h2, if_neg h2]
def RDP (h : HP) (a : Nat) (ba : Nat → Nat → Int) (bi : Nat → Int) : Prop := ∀ j, j ≤ 2 → h.2 (a + j) = some (rdcell a ba bi j)
theorem RDP.self {h : HP} {a : Nat} {ba : Nat → Nat → Int} {bi : Nat → Int} (H : RDP h a ba bi) : RDH a ba bi h = h := by
  refine Prod.ext rfl (funext fun x => ?_)
  show (if a ≤ x ∧ x ≤ a + 2 then some (rdcell a ba bi (x - a)) else h.2 x) = h.2 x
  by_cases hx : a ≤ x ∧ x ≤ a + 2
  · rw [if_pos hx, ← H (x - a) (by omega), show a + (x - a) = x by omega]
  · rw [if_neg hx]
theorem RDP.sh {a : Nat} {ba : Nat → Nat → Int} {bi : Nat → Int} {h0 : HP} : RDP (RDH a ba bi h0) a ba bi := fun j hj => RDg hj
theorem rdlt {Q : Nat → Prop} (q0 : Q 0) (q1 : Q 1) (q2 : Q 2) : ∀ i, i ≤ 2 → Q i := by
  intro i hi
  match i, hi with
  | 0, _ => exact q0
  | 1, _ => exact q1
  | 2, _ => exact q2
  | i + 3, hi => exact absurd hi (by omega)
theorem RD1 {a : Nat} {ba : Nat → Nat → Int} {bi : Nat → Int} {h0 : HP} : (RDH a ba bi h0).2 (a + 1) = some (aI 300 (ba 1)) := RDg (j := 1) (by omega)
theorem RDu1 {a : Nat} {ba : Nat → Nat → Int} {bi : Nat → Int} {h0 : HP} {g : Nat → Int} : (((RDH a ba bi h0).1, up (RDH a ba bi h0).2 (a + 1) (aI 300 g)) : HP) = RDH a (u1 ba 1 g) bi h0 := RD_up (ba' := (u1 ba 1 g)) (bi' := bi) (by omega) rfl (rdlt (fun _ => rfl) (fun z => absurd rfl z) (fun _ => rfl))
theorem rd_ist1 {Y : MT} {pc : Nat} {lv st : List Value} {rc rs : Nat} {Φ : Option Value → HP → Prop} {a : Nat} {ba : Nat → Nat → Int} {bi : Nat → Int} {h0 : HP} {z v : Int} (k : Nat) (hk : z = (k : Int)) (hlt : k < 300) (hd : decode Y.2.1 pc = .ok (.iastore, 1)) (kk : wp Y (pc + 1) lv st (RDH a (u1 ba 1 (u1 (ba 1) k v)) bi h0) rc rs Φ) : wp Y pc lv (.int (zI v) :: .int (zI z) :: .ref (a + 1) :: st) (RDH a ba bi h0) rc rs Φ := by
  refine w_iast k RD1 hk hlt (by decide) hd ?_
  exact w_cast rfl rfl RDu1 kk
theorem RD2 {a : Nat} {ba : Nat → Nat → Int} {bi : Nat → Int} {h0 : HP} : (RDH a ba bi h0).2 (a + 2) = some (aI 32 (ba 2)) := RDg (j := 2) (by omega)
theorem RDu2 {a : Nat} {ba : Nat → Nat → Int} {bi : Nat → Int} {h0 : HP} {g : Nat → Int} : (((RDH a ba bi h0).1, up (RDH a ba bi h0).2 (a + 2) (aI 32 g)) : HP) = RDH a (u1 ba 2 g) bi h0 := RD_up (ba' := (u1 ba 2 g)) (bi' := bi) (by omega) rfl (rdlt (fun _ => rfl) (fun _ => rfl) (fun z => absurd rfl z))
theorem rd_ist2 {Y : MT} {pc : Nat} {lv st : List Value} {rc rs : Nat} {Φ : Option Value → HP → Prop} {a : Nat} {ba : Nat → Nat → Int} {bi : Nat → Int} {h0 : HP} {z v : Int} (k : Nat) (hk : z = (k : Int)) (hlt : k < 32) (hd : decode Y.2.1 pc = .ok (.iastore, 1)) (kk : wp Y (pc + 1) lv st (RDH a (u1 ba 2 (u1 (ba 2) k v)) bi h0) rc rs Φ) : wp Y pc lv (.int (zI v) :: .int (zI z) :: .ref (a + 2) :: st) (RDH a ba bi h0) rc rs Φ := by
  refine w_iast k RD2 hk hlt (by decide) hd ?_
  exact w_cast rfl rfl RDu2 kk
theorem rd_pf1 {Y : MT} {pc : Nat} {lv st : List Value} {rc rs : Nat} {Φ : Option Value → HP → Prop} {a : Nat} {ba : Nat → Nat → Int} {bi : Nat → Int} {h0 : HP} {idx : Nat} {v : Int} (hf : FW Y.1.cls idx 6 1 false .int) (hd : decode Y.2.1 pc = .ok (.putfield idx, 3)) (kk : wp Y (pc + 3) lv st (RDH a ba (u1 bi 1 v) h0) rc rs Φ) : wp Y pc lv (.int (zI v) :: .ref a :: st) (RDH a ba bi h0) rc rs Φ := by
  refine w_putf hf hd RD0 (Nat.le_of_ble_eq_true rfl) rfl rfl ?_
  exact w_cast rfl rfl (RD_up (ba' := ba) (bi' := u1 bi 1 v) (j := 0) (by omega) (by rfl) (rdlt (fun z => absurd rfl z) (fun _ => rfl) (fun _ => rfl))) kk
theorem rd_pf2 {Y : MT} {pc : Nat} {lv st : List Value} {rc rs : Nat} {Φ : Option Value → HP → Prop} {a : Nat} {ba : Nat → Nat → Int} {bi : Nat → Int} {h0 : HP} {idx : Nat} {v : Int} (hf : FW Y.1.cls idx 6 2 false .int) (hd : decode Y.2.1 pc = .ok (.putfield idx, 3)) (kk : wp Y (pc + 3) lv st (RDH a ba (u1 bi 2 v) h0) rc rs Φ) : wp Y pc lv (.int (zI v) :: .ref a :: st) (RDH a ba bi h0) rc rs Φ := by
  refine w_putf hf hd RD0 (Nat.le_of_ble_eq_true rfl) rfl rfl ?_
  exact w_cast rfl rfl (RD_up (ba' := ba) (bi' := u1 bi 2 v) (j := 0) (by omega) (by rfl) (rdlt (fun z => absurd rfl z) (fun _ => rfl) (fun _ => rfl))) kk
theorem rd_pf3 {Y : MT} {pc : Nat} {lv st : List Value} {rc rs : Nat} {Φ : Option Value → HP → Prop} {a : Nat} {ba : Nat → Nat → Int} {bi : Nat → Int} {h0 : HP} {idx : Nat} {v : Int} (hf : FW Y.1.cls idx 6 3 false .int) (hd : decode Y.2.1 pc = .ok (.putfield idx, 3)) (kk : wp Y (pc + 3) lv st (RDH a ba (u1 bi 3 v) h0) rc rs Φ) : wp Y pc lv (.int (zI v) :: .ref a :: st) (RDH a ba bi h0) rc rs Φ := by
  refine w_putf hf hd RD0 (Nat.le_of_ble_eq_true rfl) rfl rfl ?_
  exact w_cast rfl rfl (RD_up (ba' := ba) (bi' := u1 bi 3 v) (j := 0) (by omega) (by rfl) (rdlt (fun z => absurd rfl z) (fun _ => rfl) (fun _ => rfl))) kk
theorem rd_pf4 {Y : MT} {pc : Nat} {lv st : List Value} {rc rs : Nat} {Φ : Option Value → HP → Prop} {a : Nat} {ba : Nat → Nat → Int} {bi : Nat → Int} {h0 : HP} {idx : Nat} {v : Int} (hf : FW Y.1.cls idx 6 4 false .int) (hd : decode Y.2.1 pc = .ok (.putfield idx, 3)) (kk : wp Y (pc + 3) lv st (RDH a ba (u1 bi 4 v) h0) rc rs Φ) : wp Y pc lv (.int (zI v) :: .ref a :: st) (RDH a ba bi h0) rc rs Φ := by
  refine w_putf hf hd RD0 (Nat.le_of_ble_eq_true rfl) rfl rfl ?_
  exact w_cast rfl rfl (RD_up (ba' := ba) (bi' := u1 bi 4 v) (j := 0) (by omega) (by rfl) (rdlt (fun z => absurd rfl z) (fun _ => rfl) (fun _ => rfl))) kk
theorem rd_pf5 {Y : MT} {pc : Nat} {lv st : List Value} {rc rs : Nat} {Φ : Option Value → HP → Prop} {a : Nat} {ba : Nat → Nat → Int} {bi : Nat → Int} {h0 : HP} {idx : Nat} {v : Int} (hf : FW Y.1.cls idx 6 5 false .int) (hd : decode Y.2.1 pc = .ok (.putfield idx, 3)) (kk : wp Y (pc + 3) lv st (RDH a ba (u1 bi 5 v) h0) rc rs Φ) : wp Y pc lv (.int (zI v) :: .ref a :: st) (RDH a ba bi h0) rc rs Φ := by
  refine w_putf hf hd RD0 (Nat.le_of_ble_eq_true rfl) rfl rfl ?_
  exact w_cast rfl rfl (RD_up (ba' := ba) (bi' := u1 bi 5 v) (j := 0) (by omega) (by rfl) (rdlt (fun z => absurd rfl z) (fun _ => rfl) (fun _ => rfl))) kk
theorem rd_pf6 {Y : MT} {pc : Nat} {lv st : List Value} {rc rs : Nat} {Φ : Option Value → HP → Prop} {a : Nat} {ba : Nat → Nat → Int} {bi : Nat → Int} {h0 : HP} {idx : Nat} {v : Int} (hf : FW Y.1.cls idx 6 6 false .int) (hd : decode Y.2.1 pc = .ok (.putfield idx, 3)) (kk : wp Y (pc + 3) lv st (RDH a ba (u1 bi 6 v) h0) rc rs Φ) : wp Y pc lv (.int (zI v) :: .ref a :: st) (RDH a ba bi h0) rc rs Φ := by
  refine w_putf hf hd RD0 (Nat.le_of_ble_eq_true rfl) rfl rfl ?_
  exact w_cast rfl rfl (RD_up (ba' := ba) (bi' := u1 bi 6 v) (j := 0) (by omega) (by rfl) (rdlt (fun z => absurd rfl z) (fun _ => rfl) (fun _ => rfl))) kk
theorem rd_pf7 {Y : MT} {pc : Nat} {lv st : List Value} {rc rs : Nat} {Φ : Option Value → HP → Prop} {a : Nat} {ba : Nat → Nat → Int} {bi : Nat → Int} {h0 : HP} {idx : Nat} {v : Int} (hf : FW Y.1.cls idx 6 7 false .int) (hd : decode Y.2.1 pc = .ok (.putfield idx, 3)) (kk : wp Y (pc + 3) lv st (RDH a ba (u1 bi 7 v) h0) rc rs Φ) : wp Y pc lv (.int (zI v) :: .ref a :: st) (RDH a ba bi h0) rc rs Φ := by
  refine w_putf hf hd RD0 (Nat.le_of_ble_eq_true rfl) rfl rfl ?_
  exact w_cast rfl rfl (RD_up (ba' := ba) (bi' := u1 bi 7 v) (j := 0) (by omega) (by rfl) (rdlt (fun z => absurd rfl z) (fun _ => rfl) (fun _ => rfl))) kk
theorem rd_pf8 {Y : MT} {pc : Nat} {lv st : List Value} {rc rs : Nat} {Φ : Option Value → HP → Prop} {a : Nat} {ba : Nat → Nat → Int} {bi : Nat → Int} {h0 : HP} {idx : Nat} {v : Int} (hf : FW Y.1.cls idx 6 8 false .int) (hd : decode Y.2.1 pc = .ok (.putfield idx, 3)) (kk : wp Y (pc + 3) lv st (RDH a ba (u1 bi 8 v) h0) rc rs Φ) : wp Y pc lv (.int (zI v) :: .ref a :: st) (RDH a ba bi h0) rc rs Φ := by
  refine w_putf hf hd RD0 (Nat.le_of_ble_eq_true rfl) rfl rfl ?_
  exact w_cast rfl rfl (RD_up (ba' := ba) (bi' := u1 bi 8 v) (j := 0) (by omega) (by rfl) (rdlt (fun z => absurd rfl z) (fun _ => rfl) (fun _ => rfl))) kk
theorem rd_pf9 {Y : MT} {pc : Nat} {lv st : List Value} {rc rs : Nat} {Φ : Option Value → HP → Prop} {a : Nat} {ba : Nat → Nat → Int} {bi : Nat → Int} {h0 : HP} {idx : Nat} {v : Int} (hf : FW Y.1.cls idx 6 9 false .int) (hd : decode Y.2.1 pc = .ok (.putfield idx, 3)) (kk : wp Y (pc + 3) lv st (RDH a ba (u1 bi 9 v) h0) rc rs Φ) : wp Y pc lv (.int (zI v) :: .ref a :: st) (RDH a ba bi h0) rc rs Φ := by
  refine w_putf hf hd RD0 (Nat.le_of_ble_eq_true rfl) rfl rfl ?_
  exact w_cast rfl rfl (RD_up (ba' := ba) (bi' := u1 bi 9 v) (j := 0) (by omega) (by rfl) (rdlt (fun z => absurd rfl z) (fun _ => rfl) (fun _ => rfl))) kk
theorem rd_pf10 {Y : MT} {pc : Nat} {lv st : List Value} {rc rs : Nat} {Φ : Option Value → HP → Prop} {a : Nat} {ba : Nat → Nat → Int} {bi : Nat → Int} {h0 : HP} {idx : Nat} {v : Int} (hf : FW Y.1.cls idx 6 10 false .int) (hd : decode Y.2.1 pc = .ok (.putfield idx, 3)) (kk : wp Y (pc + 3) lv st (RDH a ba (u1 bi 10 v) h0) rc rs Φ) : wp Y pc lv (.int (zI v) :: .ref a :: st) (RDH a ba bi h0) rc rs Φ := by
  refine w_putf hf hd RD0 (Nat.le_of_ble_eq_true rfl) rfl rfl ?_
  exact w_cast rfl rfl (RD_up (ba' := ba) (bi' := u1 bi 10 v) (j := 0) (by omega) (by rfl) (rdlt (fun z => absurd rfl z) (fun _ => rfl) (fun _ => rfl))) kk
theorem rd_pf11 {Y : MT} {pc : Nat} {lv st : List Value} {rc rs : Nat} {Φ : Option Value → HP → Prop} {a : Nat} {ba : Nat → Nat → Int} {bi : Nat → Int} {h0 : HP} {idx : Nat} {v : Int} (hf : FW Y.1.cls idx 6 11 false .int) (hd : decode Y.2.1 pc = .ok (.putfield idx, 3)) (kk : wp Y (pc + 3) lv st (RDH a ba (u1 bi 11 v) h0) rc rs Φ) : wp Y pc lv (.int (zI v) :: .ref a :: st) (RDH a ba bi h0) rc rs Φ := by
  refine w_putf hf hd RD0 (Nat.le_of_ble_eq_true rfl) rfl rfl ?_
  exact w_cast rfl rfl (RD_up (ba' := ba) (bi' := u1 bi 11 v) (j := 0) (by omega) (by rfl) (rdlt (fun z => absurd rfl z) (fun _ => rfl) (fun _ => rfl))) kk
theorem rd_pf12 {Y : MT} {pc : Nat} {lv st : List Value} {rc rs : Nat} {Φ : Option Value → HP → Prop} {a : Nat} {ba : Nat → Nat → Int} {bi : Nat → Int} {h0 : HP} {idx : Nat} {v : Int} (hf : FW Y.1.cls idx 6 12 false .int) (hd : decode Y.2.1 pc = .ok (.putfield idx, 3)) (kk : wp Y (pc + 3) lv st (RDH a ba (u1 bi 12 v) h0) rc rs Φ) : wp Y pc lv (.int (zI v) :: .ref a :: st) (RDH a ba bi h0) rc rs Φ := by
  refine w_putf hf hd RD0 (Nat.le_of_ble_eq_true rfl) rfl rfl ?_
  exact w_cast rfl rfl (RD_up (ba' := ba) (bi' := u1 bi 12 v) (j := 0) (by omega) (by rfl) (rdlt (fun z => absurd rfl z) (fun _ => rfl) (fun _ => rfl))) kk

