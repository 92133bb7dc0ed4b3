theorem u1_u1 {α : Type} {f : Nat → α} {k : Nat} {v w : α} : u1 (u1 f k v) k w = u1 f k w := by
  funext j
  by_cases h : j = k
  · subst h; rw [u1_s, u1_s]
  · rw [u1_n h, u1_n h, u1_n h]
theorem u1_id {α : Type} {f : Nat → α} {k : Nat} : u1 f k (f k) = f := by
  funext j
  by_cases h : j = k
  · subst h; rw [u1_s]
  · rw [u1_n h]
theorem u1_all {α : Type} {P : Nat → α → Prop} {f : Nat → α} {i : Nat} {v : α} (h : ∀ k, P k (f k)) (hv : P i v) : ∀ k, P k (u1 f i v k) := by
  intro k
  by_cases hk : k = i
  · subst hk; rw [u1_s]; exact hv
  · rw [u1_n hk]; exact h k
/-- bounds of the reference's cells -/
def loA (k : Nat) : Int := if k < 3 then 0 else if k < 6 then 1 else if k < 7 then 0 else if k < 8 then 1 else if k < 14 then 0 else if k < 46 then -1 else if k < 48 then -2147483648 else if k < 96 then -31 else if k < 144 then -99 else if k < 336 then -31 else if k < 384 then -1 else if k < 433 then 0 else -2147483648
def hiA (k : Nat) : Int := if k < 3 then 20 else if k < 4 then 6 else if k < 5 then 4 else if k < 6 then 8 else if k < 7 then 9 else if k < 8 then 31 else if k < 9 then 1 else if k < 10 then 2 else if k < 11 then 20 else if k < 12 then 3 else if k < 13 then 30070 else if k < 14 then 23 else if k < 46 then 5 else if k < 48 then 2147483647 else if k < 96 then 31 else if k < 144 then 99 else if k < 336 then 31 else if k < 384 then 48 else if k < 385 then 16 else if k < 433 then 84 else 2147483647
def INV (A : Nat → Int) : Prop := ∀ k, loA k ≤ A k ∧ A k ≤ hiA k
theorem INV.put {A : Nat → Int} {i : Nat} {v : Int} (h : INV A) (hv : loA i ≤ v ∧ v ≤ hiA i) : INV (u1 A i v) := u1_all (P := fun k x => loA k ≤ x ∧ x ≤ hiA k) h hv
theorem bA (k : Nat) : -2147483648 ≤ loA k ∧ hiA k ≤ 2147483647 := by unfold loA hiA; constructor <;> (repeat' split) <;> omega
theorem INV.ok {A : Nat → Int} (h : INV A) : ∀ k, ok32 (A k) := fun k => by have := h k; have := bA k; unfold ok32; omega
theorem INV.sh {A : Nat → Int} (h : INV A) {k : Nat} (hk : k < 32) : -1 ≤ A (14 + k) ∧ A (14 + k) ≤ 5 := by
  have h1 := h (14 + k)
  rwa [show loA (14 + k) = -1 by unfold loA; (repeat' split) <;> omega, show hiA (14 + k) = 5 by unfold hiA; (repeat' split) <;> omega] at h1
theorem INV.he {A : Nat → Int} (h : INV A) {k : Nat} (hk : k < 48) : -31 ≤ A (48 + k) ∧ A (48 + k) ≤ 31 := by
  have h1 := h (48 + k)
  rwa [show loA (48 + k) = -31 by unfold loA; (repeat' split) <;> omega, show hiA (48 + k) = 31 by unfold hiA; (repeat' split) <;> omega] at h1
theorem INV.be {A : Nat → Int} (h : INV A) {k : Nat} (hk : k < 48) : -99 ≤ A (96 + k) ∧ A (96 + k) ≤ 99 := by
  have h1 := h (96 + k)
  rwa [show loA (96 + k) = -99 by unfold loA; (repeat' split) <;> omega, show hiA (96 + k) = 99 by unfold hiA; (repeat' split) <;> omega] at h1
theorem INV.me {A : Nat → Int} (h : INV A) {k : Nat} (hk : k < 192) : -31 ≤ A (144 + k) ∧ A (144 + k) ≤ 31 := by
  have h1 := h (144 + k)
  rwa [show loA (144 + k) = -31 by unfold loA; (repeat' split) <;> omega, show hiA (144 + k) = 31 by unfold hiA; (repeat' split) <;> omega] at h1
theorem INV.vc {A : Nat → Int} (h : INV A) : VC A (A 3).toNat (A 4).toNat (A 5).toNat := by
  have h3 : 1 ≤ A 3 ∧ A 3 ≤ 6 := h 3
  have h4 : 1 ≤ A 4 ∧ A 4 ≤ 4 := h 4
  have h5 : 1 ≤ A 5 ∧ A 5 ≤ 8 := h 5
  exact ⟨by omega, by omega, by omega, by omega, by omega, by omega, fun k hk => h.sh hk⟩
theorem VC.put {A : Nat → Int} {L R C i : Nat} {v : Int} (h : VC A L R C) (h1 : ¬ (3 ≤ i ∧ i ≤ 5)) (h2 : ¬ (14 ≤ i ∧ i < 46)) : VC (u1 A i v) L R C := by
  obtain ⟨v1, v2, v3, v4, v5, v6, v7⟩ := h
  exact ⟨by rw [u1_n (by omega)]; exact v1, by rw [u1_n (by omega)]; exact v2, by rw [u1_n (by omega)]; exact v3, v4, v5, v6, fun k hk => by rw [u1_n (by omega)]; exact v7 k hk⟩
theorem shA_put {A : Nat → Int} {i : Nat} {v : Int} (h2 : ¬ (14 ≤ i ∧ i < 46)) (k : Nat) (hk : k < 32) : shA (u1 A i v) k = shA A k := u1_n (by omega)
/-- the code depends on its shifts alone -/
theorem bitN_sh {sh sh' : Nat → Int} {L c j : Nat} (h : sh (8 * (c / L) + j) = sh' (8 * (c / L) + j)) : bitN sh L c j = bitN sh' L c j := by unfold bitN; rw [h]
theorem csetN_sh {sh sh' : Nat → Int} {L c : Nat} : ∀ {C : Nat}, (∀ j, j < C → sh (8 * (c / L) + j) = sh' (8 * (c / L) + j)) → csetN sh L c C = csetN sh' L c C
  | 0, _ => rfl
  | C + 1, h => by
    unfold csetN
    rw [csetN_sh (C := C) (fun j hj => h j (by omega)), bitN_sh (h C (by omega))]
theorem oddN_cs {cs cs' : Nat → BitVec 64} {x : BitVec 64} : ∀ {n : Nat}, (∀ c, c < n → cs c = cs' c) → oddN cs x n = oddN cs' x n
  | 0, _ => rfl
  | n + 1, h => by
    unfold oddN
    rw [oddN_cs (n := n) (fun c hc => h c (by omega)), h n (by omega)]
theorem gset_f {f g : Nat → Int} : ∀ {n : Nat}, (∀ b, b < n → f b = g b) → gset f n = gset g n
  | 0, _ => rfl
  | n + 1, h => by
    unfold gset
    rw [gset_f (n := n) (fun b hb => h b (by omega)), h n (by omega)]
/-- an end that is known but for what is laid in x -/
def px {α : Type} (w : Option Value) (P : α → Prop) (f : α → HP) : Option Value → HP → Prop := fun v h' => v = w ∧ ∃ x, P x ∧ h' = f x
theorem wx_V {Y : MT} {pc : Nat} {lv st : List Value} {h : HP} {rc rs : Nat} {Φ : Option Value → HP → Prop} {α : Type} {P : α → Prop} {f : α → HP} {Z : MT} {idx n ci a : Nat} {fs : List Value} {As rest : List Value} {v : Value} (hM : sp Z (.ref a :: As) h 0 0 (px (some v) P f)) (ho : h.2 a = some (.inr (ci, fs))) (hci : (vwCl[ci]?).map (fun q => q.1) = some Z.1.cls) (hB : CB Z n) (w1 : Cond.methodLink Y.1.cls idx Z.1 ∈ gw) (w2 : Cond.instanceMethod Z.1 ∈ gw) (w3 : Cond.selects Z.1.cls Z.1 Z.1 ∈ gw) (hd : decode Y.2.1 pc = .ok (.invokevirtual idx, 3)) (hst : st = As.reverse ++ .ref a :: rest) (hn : As.length = n) (hlen : lv.length = Y.2.2.1) (hw : (rest.map fun v => v.category).sum ≤ 8) (hfr : RM Y Z) (kk : ∀ x, P x → wp Y (pc + 3) lv (v :: rest) (f x) rc rs Φ) : wp Y pc lv st h rc rs Φ :=
  w_callV hM ho hci hB w1 w2 w3 hd hst hn hlen hw hfr (Nat.zero_le _) (Nat.zero_le _) (fun v' h' q => by obtain ⟨rfl, x, hx, rfl⟩ := q; exact kk x hx)
theorem wx_Vv {Y : MT} {pc : Nat} {lv st : List Value} {h : HP} {rc rs : Nat} {Φ : Option Value → HP → Prop} {α : Type} {P : α → Prop} {f : α → HP} {Z : MT} {idx n ci a : Nat} {fs : List Value} {As rest : List Value} (hM : sp Z (.ref a :: As) h 0 0 (px none P f)) (ho : h.2 a = some (.inr (ci, fs))) (hci : (vwCl[ci]?).map (fun q => q.1) = some Z.1.cls) (hB : CB Z n) (w1 : Cond.methodLink Y.1.cls idx Z.1 ∈ gw) (w2 : Cond.instanceMethod Z.1 ∈ gw) (w3 : Cond.selects Z.1.cls Z.1 Z.1 ∈ gw) (hd : decode Y.2.1 pc = .ok (.invokevirtual idx, 3)) (hst : st = As.reverse ++ .ref a :: rest) (hn : As.length = n) (hlen : lv.length = Y.2.2.1) (hw : (rest.map fun v => v.category).sum ≤ 8) (hfr : RM Y Z) (kk : ∀ x, P x → wp Y (pc + 3) lv rest (f x) rc rs Φ) : wp Y pc lv st h rc rs Φ :=
  w_callV hM ho hci hB w1 w2 w3 hd hst hn hlen hw hfr (Nat.zero_le _) (Nat.zero_le _) (fun v' h' q => by obtain ⟨rfl, x, hx, rfl⟩ := q; exact kk x hx)

