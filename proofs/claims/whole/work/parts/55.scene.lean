/-! a scene in the heap: its object at a, its seven arrays behind it -/
def sfs (a c : Nat) (si : Nat → Int) (sl : Nat → BitVec 64) : List Value := [.ref c, .long (lB (sl 1)), .int (zI (si 2)), .int (zI (si 3)), .int (zI (si 4)), .int (zI (si 5)), .int (zI (si 6)), .int (zI (si 7)), .long (lB (sl 8)), .int (zI (si 9)), .ref (a + 1), .ref (a + 2), .ref (a + 3), .ref (a + 4), .ref (a + 5), .ref (a + 6), .ref (a + 7)]
def scell (a c : Nat) (sa : Nat → Nat → Int) (si : Nat → Int) (sl : Nat → BitVec 64) : Nat → CE := fun j => match j with
  | 0 => .inr (7, sfs a c si sl)
  | 1 => aI 48 (sa 1)
  | 2 => aI 48 (sa 2)
  | 3 => aI 48 (sa 3)
  | 4 => aI 192 (sa 4)
  | 5 => aI 48 (sa 5)
  | 6 => aI 4 (sa 6)
  | _ => aI 8 (sa 7)
def SH (a c : Nat) (sa : Nat → Nat → Int) (si : Nat → Int) (sl : Nat → BitVec 64) (h0 : HP) : HP := (h0.1, fun x => if a ≤ x ∧ x ≤ a + 7 then some (scell a c sa si sl (x - a)) else h0.2 x)
theorem SHg {a c : Nat} {sa : Nat → Nat → Int} {si : Nat → Int} {sl : Nat → BitVec 64} {h0 : HP} {j : Nat} (hj : j ≤ 7) : (SH a c sa si sl h0).2 (a + j) = some (scell a c sa si sl j) := by
  show (if _ then _ else _) = _
  rw [if_pos ⟨by omega, by omega⟩, Nat.add_sub_cancel_left]
def outS (a x : Nat) : Prop := ¬ (a ≤ x ∧ x ≤ a + 7)
theorem SHn {a c : Nat} {sa : Nat → Nat → Int} {si : Nat → Int} {sl : Nat → BitVec 64} {h0 : HP} {x : Nat} (hx : outS a x) : (SH a c sa si sl h0).2 x = h0.2 x := if_neg hx
theorem SHo {a c : Nat} {sa : Nat → Nat → Int} {si : Nat → Int} {sl : Nat → BitVec 64} {h0 : HP} {x : Nat} {e : CE} (hx : outS a x) (he : h0.2 x = some e) : (SH a c sa si sl h0).2 x = some e := (SHn hx).trans he
theorem SC0 {a c : Nat} {sa : Nat → Nat → Int} {si : Nat → Int} {sl : Nat → BitVec 64} {h0 : HP} : (SH a c sa si sl h0).2 a = some (.inr (7, sfs a c si sl)) := SHg (j := 0) (by omega)
theorem SH_up {a c : Nat} {sa : Nat → Nat → Int} {si : Nat → Int} {sl : Nat → BitVec 64} {h0 : HP} {c' : Nat} {sa' : Nat → Nat → Int} {si' : Nat → Int} {sl' : Nat → BitVec 64} {j : Nat} {e : CE} (hj : j ≤ 7) (he : scell a c' sa' si' sl' j = e) (ho : ∀ i, i ≤ 7 → i ≠ j → scell a c' sa' si' sl' i = scell a c sa si sl i) : (((SH a c sa si sl h0).1, up (SH a c sa si sl h0).2 (a + j) e) : HP) = SH a c' sa' si' sl' h0 := by
  refine Prod.ext rfl (funext fun x => ?_)
  show (if x = a + j then some e else if a ≤ x ∧ x ≤ a + 7 then some (scell a c sa si sl (x - a)) else h0.2 x) = (if a ≤ x ∧ x ≤ a + 7 then some (scell a c' sa' si' sl' (x - a)) else h0.2 x)
  by_cases h1 : x = a + j
  · rw [if_pos h1, if_pos ⟨by omega, by omega⟩, h1, Nat.add_sub_cancel_left, he]
  · rw [if_neg h1]
    by_cases h2 : a ≤ x ∧ x ≤ a + 7
    · rw [if_pos h2, if_pos h2, ho (x - a) (by omega) (by omega)]
    · rw [if_neg h2, if_neg h2]
theorem SH_SH {a c c' : Nat} {sa sa' : Nat → Nat → Int} {si si' : Nat → Int} {sl sl' : Nat → BitVec 64} {h0 : HP} : SH a c sa si sl (SH a c' sa' si' sl' h0) = SH a c sa si sl h0 := by
  refine Prod.ext rfl (funext fun x => ?_)
  show (if a ≤ x ∧ x ≤ a + 7 then some (scell a c sa si sl (x - a)) else if a ≤ x ∧ x ≤ a + 7 then _ else h0.2 x) = (if a ≤ x ∧ x ≤ a + 7 then some (scell a c sa si sl (x - a)) else h0.2 x)
  by_cases h : a ≤ x ∧ x ≤ a + 7
  · rw [if_pos h, if_pos h]
  · rw [if_neg h, if_neg h, if_neg h]
/-- a scene lies at a -/
def SCP (h : HP) (a c : Nat) (sa : Nat → Nat → Int) (si : Nat → Int) (sl : Nat → BitVec 64) : Prop := ∀ j, j ≤ 7 → h.2 (a + j) = some (scell a c sa si sl j)
theorem SCP.self {h : HP} {a c : Nat} {sa : Nat → Nat → Int} {si : Nat → Int} {sl : Nat → BitVec 64} (H : SCP h a c sa si sl) : SH a c sa si sl h = h := by
  refine Prod.ext rfl (funext fun x => ?_)
  show (if a ≤ x ∧ x ≤ a + 7 then some (scell a c sa si sl (x - a)) else h.2 x) = h.2 x
  by_cases hx : a ≤ x ∧ x ≤ a + 7
  · rw [if_pos hx, ← H (x - a) (by omega), show a + (x - a) = x by omega]
  · rw [if_neg hx]
theorem SCP.sh {a c : Nat} {sa : Nat → Nat → Int} {si : Nat → Int} {sl : Nat → BitVec 64} {h0 : HP} : SCP (SH a c sa si sl h0) a c sa si sl := fun j hj => SHg hj
theorem lt8 {P : Nat → Prop} (h0 : P 0) (h1 : P 1) (h2 : P 2) (h3 : P 3) (h4 : P 4) (h5 : P 5) (h6 : P 6) (h7 : P 7) : ∀ i, i ≤ 7 → P i := by
  intro i hi
  match i, hi with
  | 0, _ => exact h0
  | 1, _ => exact h1
  | 2, _ => exact h2
  | 3, _ => exact h3
  | 4, _ => exact h4
  | 5, _ => exact h5
  | 6, _ => exact h6
  | 7, _ => exact h7
  | i + 8, hi => exact absurd hi (by omega)
theorem SC1 {a c : Nat} {sa : Nat → Nat → Int} {si : Nat → Int} {sl : Nat → BitVec 64} {h0 : HP} : (SH a c sa si sl h0).2 (a + 1) = some (aI 48 (sa 1)) := SHg (j := 1) (by omega)
theorem SC2 {a c : Nat} {sa : Nat → Nat → Int} {si : Nat → Int} {sl : Nat → BitVec 64} {h0 : HP} : (SH a c sa si sl h0).2 (a + 2) = some (aI 48 (sa 2)) := SHg (j := 2) (by omega)
theorem SC3 {a c : Nat} {sa : Nat → Nat → Int} {si : Nat → Int} {sl : Nat → BitVec 64} {h0 : HP} : (SH a c sa si sl h0).2 (a + 3) = some (aI 48 (sa 3)) := SHg (j := 3) (by omega)
theorem SC4 {a c : Nat} {sa : Nat → Nat → Int} {si : Nat → Int} {sl : Nat → BitVec 64} {h0 : HP} : (SH a c sa si sl h0).2 (a + 4) = some (aI 192 (sa 4)) := SHg (j := 4) (by omega)
theorem SC5 {a c : Nat} {sa : Nat → Nat → Int} {si : Nat → Int} {sl : Nat → BitVec 64} {h0 : HP} : (SH a c sa si sl h0).2 (a + 5) = some (aI 48 (sa 5)) := SHg (j := 5) (by omega)
theorem SC6 {a c : Nat} {sa : Nat → Nat → Int} {si : Nat → Int} {sl : Nat → BitVec 64} {h0 : HP} : (SH a c sa si sl h0).2 (a + 6) = some (aI 4 (sa 6)) := SHg (j := 6) (by omega)
theorem SC7 {a c : Nat} {sa : Nat → Nat → Int} {si : Nat → Int} {sl : Nat → BitVec 64} {h0 : HP} : (SH a c sa si sl h0).2 (a + 7) = some (aI 8 (sa 7)) := SHg (j := 7) (by omega)
theorem sc_ist1 {Y : MT} {pc : Nat} {lv st : List Value} {rc rs : Nat} {Φ : Option Value → HP → Prop} {a c : Nat} {sa : Nat → Nat → Int} {si : Nat → Int} {sl : Nat → BitVec 64} {h0 : HP} {z v : Int} (k : Nat) (hk : z = (k : Int)) (hlt : k < 48) (hd : decode Y.2.1 pc = .ok (.iastore, 1)) (kk : wp Y (pc + 1) lv st (SH a c (u1 sa 1 (u1 (sa 1) k v)) si sl h0) rc rs Φ) : wp Y pc lv (.int (zI v) :: .int (zI z) :: .ref (a + 1) :: st) (SH a c sa si sl h0) rc rs Φ := by
  refine w_iast k SC1 hk hlt (by decide) hd ?_
  exact w_cast rfl rfl (SH_up (c' := c) (sa' := (u1 sa 1 (u1 (sa 1) k v))) (si' := si) (sl' := sl) (by omega) rfl (lt8 (fun _ => rfl) (fun z => absurd rfl z) (fun _ => rfl) (fun _ => rfl) (fun _ => rfl) (fun _ => rfl) (fun _ => rfl) (fun _ => rfl))) kk
theorem SHu1 {a c : Nat} {sa : Nat → Nat → Int} {si : Nat → Int} {sl : Nat → BitVec 64} {h0 : HP} {g : Nat → Int} : (((SH a c sa si sl h0).1, up (SH a c sa si sl h0).2 (a + 1) (aI 48 g)) : HP) = SH a c (u1 sa 1 g) si sl h0 := SH_up (c' := c) (sa' := (u1 sa 1 g)) (si' := si) (sl' := sl) (by omega) rfl (lt8 (fun _ => rfl) (fun z => absurd rfl z) (fun _ => rfl) (fun _ => rfl) (fun _ => rfl) (fun _ => rfl) (fun _ => rfl) (fun _ => rfl))
theorem sc_ist2 {Y : MT} {pc : Nat} {lv st : List Value} {rc rs : Nat} {Φ : Option Value → HP → Prop} {a c : Nat} {sa : Nat → Nat → Int} {si : Nat → Int} {sl : Nat → BitVec 64} {h0 : HP} {z v : Int} (k : Nat) (hk : z = (k : Int)) (hlt : k < 48) (hd : decode Y.2.1 pc = .ok (.iastore, 1)) (kk : wp Y (pc + 1) lv st (SH a c (u1 sa 2 (u1 (sa 2) k v)) si sl h0) rc rs Φ) : wp Y pc lv (.int (zI v) :: .int (zI z) :: .ref (a + 2) :: st) (SH a c sa si sl h0) rc rs Φ := by
  refine w_iast k SC2 hk hlt (by decide) hd ?_
  exact w_cast rfl rfl (SH_up (c' := c) (sa' := (u1 sa 2 (u1 (sa 2) k v))) (si' := si) (sl' := sl) (by omega) rfl (lt8 (fun _ => rfl) (fun _ => rfl) (fun z => absurd rfl z) (fun _ => rfl) (fun _ => rfl) (fun _ => rfl) (fun _ => rfl) (fun _ => rfl))) kk
theorem SHu2 {a c : Nat} {sa : Nat → Nat → Int} {si : Nat → Int} {sl : Nat → BitVec 64} {h0 : HP} {g : Nat → Int} : (((SH a c sa si sl h0).1, up (SH a c sa si sl h0).2 (a + 2) (aI 48 g)) : HP) = SH a c (u1 sa 2 g) si sl h0 := SH_up (c' := c) (sa' := (u1 sa 2 g)) (si' := si) (sl' := sl) (by omega) rfl (lt8 (fun _ => rfl) (fun _ => rfl) (fun z => absurd rfl z) (fun _ => rfl) (fun _ => rfl) (fun _ => rfl) (fun _ => rfl) (fun _ => rfl))
theorem sc_ist3 {Y : MT} {pc : Nat} {lv st : List Value} {rc rs : Nat} {Φ : Option Value → HP → Prop} {a c : Nat} {sa : Nat → Nat → Int} {si : Nat → Int} {sl : Nat → BitVec 64} {h0 : HP} {z v : Int} (k : Nat) (hk : z = (k : Int)) (hlt : k < 48) (hd : decode Y.2.1 pc = .ok (.iastore, 1)) (kk : wp Y (pc + 1) lv st (SH a c (u1 sa 3 (u1 (sa 3) k v)) si sl h0) rc rs Φ) : wp Y pc lv (.int (zI v) :: .int (zI z) :: .ref (a + 3) :: st) (SH a c sa si sl h0) rc rs Φ := by
  refine w_iast k SC3 hk hlt (by decide) hd ?_
  exact w_cast rfl rfl (SH_up (c' := c) (sa' := (u1 sa 3 (u1 (sa 3) k v))) (si' := si) (sl' := sl) (by omega) rfl (lt8 (fun _ => rfl) (fun _ => rfl) (fun _ => rfl) (fun z => absurd rfl z) (fun _ => rfl) (fun _ => rfl) (fun _ => rfl) (fun _ => rfl))) kk
theorem SHu3 {a c : Nat} {sa : Nat → Nat → Int} {si : Nat → Int} {sl : Nat → BitVec 64} {h0 : HP} {g : Nat → Int} : (((SH a c sa si sl h0).1, up (SH a c sa si sl h0).2 (a + 3) (aI 48 g)) : HP) = SH a c (u1 sa 3 g) si sl h0 := SH_up (c' := c) (sa' := (u1 sa 3 g)) (si' := si) (sl' := sl) (by omega) rfl (lt8 (fun _ => rfl) (fun _ => rfl) (fun _ => rfl) (fun z => absurd rfl z) (fun _ => rfl) (fun _ => rfl) (fun _ => rfl) (fun _ => rfl))
theorem sc_ist4 {Y : MT} {pc : Nat} {lv st : List Value} {rc rs : Nat} {Φ : Option Value → HP → Prop} {a c : Nat} {sa : Nat → Nat → Int} {si : Nat → Int} {sl : Nat → BitVec 64} {h0 : HP} {z v : Int} (k : Nat) (hk : z = (k : Int)) (hlt : k < 192) (hd : decode Y.2.1 pc = .ok (.iastore, 1)) (kk : wp Y (pc + 1) lv st (SH a c (u1 sa 4 (u1 (sa 4) k v)) si sl h0) rc rs Φ) : wp Y pc lv (.int (zI v) :: .int (zI z) :: .ref (a + 4) :: st) (SH a c sa si sl h0) rc rs Φ := by
  refine w_iast k SC4 hk hlt (by decide) hd ?_
  exact w_cast rfl rfl (SH_up (c' := c) (sa' := (u1 sa 4 (u1 (sa 4) k v))) (si' := si) (sl' := sl) (by omega) rfl (lt8 (fun _ => rfl) (fun _ => rfl) (fun _ => rfl) (fun _ => rfl) (fun z => absurd rfl z) (fun _ => rfl) (fun _ => rfl) (fun _ => rfl))) kk
theorem SHu4 {a c : Nat} {sa : Nat → Nat → Int} {si : Nat → Int} {sl : Nat → BitVec 64} {h0 : HP} {g : Nat → Int} : (((SH a c sa si sl h0).1, up (SH a c sa si sl h0).2 (a + 4) (aI 192 g)) : HP) = SH a c (u1 sa 4 g) si sl h0 := SH_up (c' := c) (sa' := (u1 sa 4 g)) (si' := si) (sl' := sl) (by omega) rfl (lt8 (fun _ => rfl) (fun _ => rfl) (fun _ => rfl) (fun _ => rfl) (fun z => absurd rfl z) (fun _ => rfl) (fun _ => rfl) (fun _ => rfl))
theorem sc_ist5 {Y : MT} {pc : Nat} {lv st : List Value} {rc rs : Nat} {Φ : Option Value → HP → Prop} {a c : Nat} {sa : Nat → Nat → Int} {si : Nat → Int} {sl : Nat → BitVec 64} {h0 : HP} {z v : Int} (k : Nat) (hk : z = (k : Int)) (hlt : k < 48) (hd : decode Y.2.1 pc = .ok (.iastore, 1)) (kk : wp Y (pc + 1) lv st (SH a c (u1 sa 5 (u1 (sa 5) k v)) si sl h0) rc rs Φ) : wp Y pc lv (.int (zI v) :: .int (zI z) :: .ref (a + 5) :: st) (SH a c sa si sl h0) rc rs Φ := by
  refine w_iast k SC5 hk hlt (by decide) hd ?_
  exact w_cast rfl rfl (SH_up (c' := c) (sa' := (u1 sa 5 (u1 (sa 5) k v))) (si' := si) (sl' := sl) (by omega) rfl (lt8 (fun _ => rfl) (fun _ => rfl) (fun _ => rfl) (fun _ => rfl) (fun _ => rfl) (fun z => absurd rfl z) (fun _ => rfl) (fun _ => rfl))) kk
theorem SHu5 {a c : Nat} {sa : Nat → Nat → Int} {si : Nat → Int} {sl : Nat → BitVec 64} {h0 : HP} {g : Nat → Int} : (((SH a c sa si sl h0).1, up (SH a c sa si sl h0).2 (a + 5) (aI 48 g)) : HP) = SH a c (u1 sa 5 g) si sl h0 := SH_up (c' := c) (sa' := (u1 sa 5 g)) (si' := si) (sl' := sl) (by omega) rfl (lt8 (fun _ => rfl) (fun _ => rfl) (fun _ => rfl) (fun _ => rfl) (fun _ => rfl) (fun z => absurd rfl z) (fun _ => rfl) (fun _ => rfl))
theorem sc_ist6 {Y : MT} {pc : Nat} {lv st : List Value} {rc rs : Nat} {Φ : Option Value → HP → Prop} {a c : Nat} {sa : Nat → Nat → Int} {si : Nat → Int} {sl : Nat → BitVec 64} {h0 : HP} {z v : Int} (k : Nat) (hk : z = (k : Int)) (hlt : k < 4) (hd : decode Y.2.1 pc = .ok (.iastore, 1)) (kk : wp Y (pc + 1) lv st (SH a c (u1 sa 6 (u1 (sa 6) k v)) si sl h0) rc rs Φ) : wp Y pc lv (.int (zI v) :: .int (zI z) :: .ref (a + 6) :: st) (SH a c sa si sl h0) rc rs Φ := by
  refine w_iast k SC6 hk hlt (by decide) hd ?_
  exact w_cast rfl rfl (SH_up (c' := c) (sa' := (u1 sa 6 (u1 (sa 6) k v))) (si' := si) (sl' := sl) (by omega) rfl (lt8 (fun _ => rfl) (fun _ => rfl) (fun _ => rfl) (fun _ => rfl) (fun _ => rfl) (fun _ => rfl) (fun z => absurd rfl z) (fun _ => rfl))) kk
theorem SHu6 {a c : Nat} {sa : Nat → Nat → Int} {si : Nat → Int} {sl : Nat → BitVec 64} {h0 : HP} {g : Nat → Int} : (((SH a c sa si sl h0).1, up (SH a c sa si sl h0).2 (a + 6) (aI 4 g)) : HP) = SH a c (u1 sa 6 g) si sl h0 := SH_up (c' := c) (sa' := (u1 sa 6 g)) (si' := si) (sl' := sl) (by omega) rfl (lt8 (fun _ => rfl) (fun _ => rfl) (fun _ => rfl) (fun _ => rfl) (fun _ => rfl) (fun _ => rfl) (fun z => absurd rfl z) (fun _ => rfl))
theorem sc_ist7 {Y : MT} {pc : Nat} {lv st : List Value} {rc rs : Nat} {Φ : Option Value → HP → Prop} {a c : Nat} {sa : Nat → Nat → Int} {si : Nat → Int} {sl : Nat → BitVec 64} {h0 : HP} {z v : Int} (k : Nat) (hk : z = (k : Int)) (hlt : k < 8) (hd : decode Y.2.1 pc = .ok (.iastore, 1)) (kk : wp Y (pc + 1) lv st (SH a c (u1 sa 7 (u1 (sa 7) k v)) si sl h0) rc rs Φ) : wp Y pc lv (.int (zI v) :: .int (zI z) :: .ref (a + 7) :: st) (SH a c sa si sl h0) rc rs Φ := by
  refine w_iast k SC7 hk hlt (by decide) hd ?_
  exact w_cast rfl rfl (SH_up (c' := c) (sa' := (u1 sa 7 (u1 (sa 7) k v))) (si' := si) (sl' := sl) (by omega) rfl (lt8 (fun _ => rfl) (fun _ => rfl) (fun _ => rfl) (fun _ => rfl) (fun _ => rfl) (fun _ => rfl) (fun _ => rfl) (fun z => absurd rfl z))) kk
theorem SHu7 {a c : Nat} {sa : Nat → Nat → Int} {si : Nat → Int} {sl : Nat → BitVec 64} {h0 : HP} {g : Nat → Int} : (((SH a c sa si sl h0).1, up (SH a c sa si sl h0).2 (a + 7) (aI 8 g)) : HP) = SH a c (u1 sa 7 g) si sl h0 := SH_up (c' := c) (sa' := (u1 sa 7 g)) (si' := si) (sl' := sl) (by omega) rfl (lt8 (fun _ => rfl) (fun _ => rfl) (fun _ => rfl) (fun _ => rfl) (fun _ => rfl) (fun _ => rfl) (fun _ => rfl) (fun z => absurd rfl z))
theorem sc_pf0 {Y : MT} {pc : Nat} {lv st : List Value} {rc rs : Nat} {Φ : Option Value → HP → Prop} {a c : Nat} {sa : Nat → Nat → Int} {si : Nat → Int} {sl : Nat → BitVec 64} {h0 : HP} {idx c' : Nat} (hf : FW Y.1.cls idx 7 0 false (.object RX2)) (hd : decode Y.2.1 pc = .ok (.putfield idx, 3)) (kk : wp Y (pc + 3) lv st (SH a c' sa si sl h0) rc rs Φ) : wp Y pc lv (.ref c' :: .ref a :: st) (SH a c sa si sl h0) rc rs Φ := by
  refine w_putf hf hd SC0 (Nat.le_of_ble_eq_true rfl) rfl rfl ?_
  exact w_cast rfl rfl (SH_up (c' := c') (sa' := sa) (si' := si) (sl' := sl) (j := 0) (by omega) (by rfl) (lt8 (fun z => absurd rfl z) (fun _ => rfl) (fun _ => rfl) (fun _ => rfl) (fun _ => rfl) (fun _ => rfl) (fun _ => rfl) (fun _ => rfl))) kk
theorem sc_pf1 {Y : MT} {pc : Nat} {lv st : List Value} {rc rs : Nat} {Φ : Option Value → HP → Prop} {a c : Nat} {sa : Nat → Nat → Int} {si : Nat → Int} {sl : Nat → BitVec 64} {h0 : HP} {idx : Nat} {v : BitVec 64} (hf : FW Y.1.cls idx 7 1 false .long) (hd : decode Y.2.1 pc = .ok (.putfield idx, 3)) (kk : wp Y (pc + 3) lv st (SH a c sa si (u1 sl 1 v) h0) rc rs Φ) : wp Y pc lv (.long (lB v) :: .ref a :: st) (SH a c sa si sl h0) rc rs Φ := by
  refine w_putf hf hd SC0 (Nat.le_of_ble_eq_true rfl) rfl rfl ?_
  exact w_cast rfl rfl (SH_up (c' := c) (sa' := sa) (si' := si) (sl' := u1 sl 1 v) (j := 0) (by omega) (by rfl) (lt8 (fun z => absurd rfl z) (fun _ => rfl) (fun _ => rfl) (fun _ => rfl) (fun _ => rfl) (fun _ => rfl) (fun _ => rfl) (fun _ => rfl))) kk
theorem sc_pf2 {Y : MT} {pc : Nat} {lv st : List Value} {rc rs : Nat} {Φ : Option Value → HP → Prop} {a c : Nat} {sa : Nat → Nat → Int} {si : Nat → Int} {sl : Nat → BitVec 64} {h0 : HP} {idx : Nat} {v : Int} (hf : FW Y.1.cls idx 7 2 false .int) (hd : decode Y.2.1 pc = .ok (.putfield idx, 3)) (kk : wp Y (pc + 3) lv st (SH a c sa (u1 si 2 v) sl h0) rc rs Φ) : wp Y pc lv (.int (zI v) :: .ref a :: st) (SH a c sa si sl h0) rc rs Φ := by
  refine w_putf hf hd SC0 (Nat.le_of_ble_eq_true rfl) rfl rfl ?_
  exact w_cast rfl rfl (SH_up (c' := c) (sa' := sa) (si' := u1 si 2 v) (sl' := sl) (j := 0) (by omega) (by rfl) (lt8 (fun z => absurd rfl z) (fun _ => rfl) (fun _ => rfl) (fun _ => rfl) (fun _ => rfl) (fun _ => rfl) (fun _ => rfl) (fun _ => rfl))) kk
theorem sc_pf3 {Y : MT} {pc : Nat} {lv st : List Value} {rc rs : Nat} {Φ : Option Value → HP → Prop} {a c : Nat} {sa : Nat → Nat → Int} {si : Nat → Int} {sl : Nat → BitVec 64} {h0 : HP} {idx : Nat} {v : Int} (hf : FW Y.1.cls idx 7 3 false .int) (hd : decode Y.2.1 pc = .ok (.putfield idx, 3)) (kk : wp Y (pc + 3) lv st (SH a c sa (u1 si 3 v) sl h0) rc rs Φ) : wp Y pc lv (.int (zI v) :: .ref a :: st) (SH a c sa si sl h0) rc rs Φ := by
  refine w_putf hf hd SC0 (Nat.le_of_ble_eq_true rfl) rfl rfl ?_
  exact w_cast rfl rfl (SH_up (c' := c) (sa' := sa) (si' := u1 si 3 v) (sl' := sl) (j := 0) (by omega) (by rfl) (lt8 (fun z => absurd rfl z) (fun _ => rfl) (fun _ => rfl) (fun _ => rfl) (fun _ => rfl) (fun _ => rfl) (fun _ => rfl) (fun _ => rfl))) kk
theorem sc_pf4 {Y : MT} {pc : Nat} {lv st : List Value} {rc rs : Nat} {Φ : Option Value → HP → Prop} {a c : Nat} {sa : Nat → Nat → Int} {si : Nat → Int} {sl : Nat → BitVec 64} {h0 : HP} {idx : Nat} {v : Int} (hf : FW Y.1.cls idx 7 4 false .int) (hd : decode Y.2.1 pc = .ok (.putfield idx, 3)) (kk : wp Y (pc + 3) lv st (SH a c sa (u1 si 4 v) sl h0) rc rs Φ) : wp Y pc lv (.int (zI v) :: .ref a :: st) (SH a c sa si sl h0) rc rs Φ := by
  refine w_putf hf hd SC0 (Nat.le_of_ble_eq_true rfl) rfl rfl ?_
  exact w_cast rfl rfl (SH_up (c' := c) (sa' := sa) (si' := u1 si 4 v) (sl' := sl) (j := 0) (by omega) (by rfl) (lt8 (fun z => absurd rfl z) (fun _ => rfl) (fun _ => rfl) (fun _ => rfl) (fun _ => rfl) (fun _ => rfl) (fun _ => rfl) (fun _ => rfl))) kk
theorem sc_pf5 {Y : MT} {pc : Nat} {lv st : List Value} {rc rs : Nat} {Φ : Option Value → HP → Prop} {a c : Nat} {sa : Nat → Nat → Int} {si : Nat → Int} {sl : Nat → BitVec 64} {h0 : HP} {idx : Nat} {v : Int} (hf : FW Y.1.cls idx 7 5 false .int) (hd : decode Y.2.1 pc = .ok (.putfield idx, 3)) (kk : wp Y (pc + 3) lv st (SH a c sa (u1 si 5 v) sl h0) rc rs Φ) : wp Y pc lv (.int (zI v) :: .ref a :: st) (SH a c sa si sl h0) rc rs Φ := by
  refine w_putf hf hd SC0 (Nat.le_of_ble_eq_true rfl) rfl rfl ?_
  exact w_cast rfl rfl (SH_up (c' := c) (sa' := sa) (si' := u1 si 5 v) (sl' := sl) (j := 0) (by omega) (by rfl) (lt8 (fun z => absurd rfl z) (fun _ => rfl) (fun _ => rfl) (fun _ => rfl) (fun _ => rfl) (fun _ => rfl) (fun _ => rfl) (fun _ => rfl))) kk
theorem sc_pf6 {Y : MT} {pc : Nat} {lv st : List Value} {rc rs : Nat} {Φ : Option Value → HP → Prop} {a c : Nat} {sa : Nat → Nat → Int} {si : Nat → Int} {sl : Nat → BitVec 64} {h0 : HP} {idx : Nat} {v : Int} (hf : FW Y.1.cls idx 7 6 false .int) (hd : decode Y.2.1 pc = .ok (.putfield idx, 3)) (kk : wp Y (pc + 3) lv st (SH a c sa (u1 si 6 v) sl h0) rc rs Φ) : wp Y pc lv (.int (zI v) :: .ref a :: st) (SH a c sa si sl h0) rc rs Φ := by
  refine w_putf hf hd SC0 (Nat.le_of_ble_eq_true rfl) rfl rfl ?_
  exact w_cast rfl rfl (SH_up (c' := c) (sa' := sa) (si' := u1 si 6 v) (sl' := sl) (j := 0) (by omega) (by rfl) (lt8 (fun z => absurd rfl z) (fun _ => rfl) (fun _ => rfl) (fun _ => rfl) (fun _ => rfl) (fun _ => rfl) (fun _ => rfl) (fun _ => rfl))) kk
theorem sc_pf7 {Y : MT} {pc : Nat} {lv st : List Value} {rc rs : Nat} {Φ : Option Value → HP → Prop} {a c : Nat} {sa : Nat → Nat → Int} {si : Nat → Int} {sl : Nat → BitVec 64} {h0 : HP} {idx : Nat} {v : Int} (hf : FW Y.1.cls idx 7 7 false .int) (hd : decode Y.2.1 pc = .ok (.putfield idx, 3)) (kk : wp Y (pc + 3) lv st (SH a c sa (u1 si 7 v) sl h0) rc rs Φ) : wp Y pc lv (.int (zI v) :: .ref a :: st) (SH a c sa si sl h0) rc rs Φ := by
  refine w_putf hf hd SC0 (Nat.le_of_ble_eq_true rfl) rfl rfl ?_
  exact w_cast rfl rfl (SH_up (c' := c) (sa' := sa) (si' := u1 si 7 v) (sl' := sl) (j := 0) (by omega) (by rfl) (lt8 (fun z => absurd rfl z) (fun _ => rfl) (fun _ => rfl) (fun _ => rfl) (fun _ => rfl) (fun _ => rfl) (fun _ => rfl) (fun _ => rfl))) kk
theorem sc_pf8 {Y : MT} {pc : Nat} {lv st : List Value} {rc rs : Nat} {Φ : Option Value → HP → Prop} {a c : Nat} {sa : Nat → Nat → Int} {si : Nat → Int} {sl : Nat → BitVec 64} {h0 : HP} {idx : Nat} {v : BitVec 64} (hf : FW Y.1.cls idx 7 8 false .long) (hd : decode Y.2.1 pc = .ok (.putfield idx, 3)) (kk : wp Y (pc + 3) lv st (SH a c sa si (u1 sl 8 v) h0) rc rs Φ) : wp Y pc lv (.long (lB v) :: .ref a :: st) (SH a c sa si sl h0) rc rs Φ := by
  refine w_putf hf hd SC0 (Nat.le_of_ble_eq_true rfl) rfl rfl ?_
  exact w_cast rfl rfl (SH_up (c' := c) (sa' := sa) (si' := si) (sl' := u1 sl 8 v) (j := 0) (by omega) (by rfl) (lt8 (fun z => absurd rfl z) (fun _ => rfl) (fun _ => rfl) (fun _ => rfl) (fun _ => rfl) (fun _ => rfl) (fun _ => rfl) (fun _ => rfl))) kk
theorem sc_pf9 {Y : MT} {pc : Nat} {lv st : List Value} {rc rs : Nat} {Φ : Option Value → HP → Prop} {a c : Nat} {sa : Nat → Nat → Int} {si : Nat → Int} {sl : Nat → BitVec 64} {h0 : HP} {idx : Nat} {v : Int} (hf : FW Y.1.cls idx 7 9 false .int) (hd : decode Y.2.1 pc = .ok (.putfield idx, 3)) (kk : wp Y (pc + 3) lv st (SH a c sa (u1 si 9 v) sl h0) rc rs Φ) : wp Y pc lv (.int (zI v) :: .ref a :: st) (SH a c sa si sl h0) rc rs Φ := by
  refine w_putf hf hd SC0 (Nat.le_of_ble_eq_true rfl) rfl rfl ?_
  exact w_cast rfl rfl (SH_up (c' := c) (sa' := sa) (si' := u1 si 9 v) (sl' := sl) (j := 0) (by omega) (by rfl) (lt8 (fun z => absurd rfl z) (fun _ => rfl) (fun _ => rfl) (fun _ => rfl) (fun _ => rfl) (fun _ => rfl) (fun _ => rfl) (fun _ => rfl))) kk
/-- the code at c is that of the block B, its cells are such as P says -/
def CDQ (P : Nat → Prop) (h : HP) (c : Nat) (B : Nat → Int) (L R C : Nat) : Prop := ∃ (ad : Nat → Nat) (f7 f8 f10 : Nat → Int) (f9 f11 : Nat → BitVec 64) (rk : Nat) (cr : BitVec 64), VC B L R C ∧ (0 ≤ B 6 ∧ B 6 ≤ 9) ∧ (1 ≤ B 7 ∧ B 7 ≤ 31) ∧ h.2 c = some (.inr (2, cfs L R C (B 6) (B 7) ad rk cr)) ∧ h.2 (ad 7) = some (aI 32 f7) ∧ h.2 (ad 8) = some (aI 192 f8) ∧ h.2 (ad 9) = some (aL 24 f9) ∧ h.2 (ad 10) = some (aI 48 f10) ∧ h.2 (ad 11) = some (aL 24 f11) ∧ (∀ i, i < R → ∀ j, j < C → f7 (8 * i + j) = B (14 + 8 * i + j)) ∧ (∀ i, i < L * R → ∀ j, j < C → f8 (8 * i + j) = bitN (shA B) L i j) ∧ (∀ i, i < L * R → f9 i = cs B L C i) ∧ (∀ b, b < L * C → f10 b = (hgB (cs B L C) b (L * R)).toInt) ∧ RED B L R C f11 rk cr ∧ P c ∧ P (ad 7) ∧ P (ad 8) ∧ P (ad 9) ∧ P (ad 10) ∧ P (ad 11)
theorem CDQ.cdp {P : Nat → Prop} {h : HP} {c : Nat} {B : Nat → Int} {L R C : Nat} (H : CDQ P h c B L R C) : CDP h c B L R C := by
  obtain ⟨ad, f7, f8, f10, f9, f11, rk, cr, a1, a2, a3, a4, a5, a6, a7, a8, a9, b1, b2, b3, b4, b5, -⟩ := H
  exact ⟨ad, f7, f8, f10, f9, f11, rk, cr, a1, a2, a3, a4, a5, a6, a7, a8, a9, b1, b2, b3, b4, b5⟩
theorem CDQ.mono {P P' : Nat → Prop} {h h' : HP} {c : Nat} {B : Nat → Int} {L R C : Nat} (H : CDQ P h c B L R C) (hP : ∀ x, P x → P' x) (hh : ∀ x, P x → h'.2 x = h.2 x) : CDQ P' h' c B L R C := by
  obtain ⟨ad, f7, f8, f10, f9, f11, rk, cr, a1, a2, a3, a4, a5, a6, a7, a8, a9, b1, b2, b3, b4, b5, p0, p7, p8, p9, p10, p11⟩ := H
  exact ⟨ad, f7, f8, f10, f9, f11, rk, cr, a1, a2, a3, (hh _ p0).trans a4, (hh _ p7).trans a5, (hh _ p8).trans a6, (hh _ p9).trans a7, (hh _ p10).trans a8, (hh _ p11).trans a9, b1, b2, b3, b4, b5, hP _ p0, hP _ p7, hP _ p8, hP _ p9, hP _ p10, hP _ p11⟩
theorem CDQ.sh {a c c' : Nat} {sa : Nat → Nat → Int} {si : Nat → Int} {sl : Nat → BitVec 64} {h0 : HP} {B : Nat → Int} {L R C : Nat} (H : CDQ (outS a) h0 c B L R C) : CDP (SH a c' sa si sl h0) c B L R C := (H.mono (P' := outS a) (fun _ h => h) (fun _ h => SHn h)).cdp

