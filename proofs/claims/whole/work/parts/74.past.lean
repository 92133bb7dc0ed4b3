/-! steps that can be taken back -/
theorem SH_o {a c : Nat} {sa : Nat → Nat → Int} {si : Nat → Int} {sl : Nat → BitVec 64} {h0 : HP} {x : Nat} {e : CE} (hx : outS a x) : (((SH a c sa si sl h0).1, up (SH a c sa si sl h0).2 x e) : HP) = SH a c sa si sl (h0.1, up h0.2 x e) := by
  refine Prod.ext rfl (funext fun y => ?_)
  show (if y = x then some e else if a ≤ y ∧ y ≤ a + 7 then _ else h0.2 y) = (if a ≤ y ∧ y ≤ a + 7 then _ else if y = x then some e else h0.2 y)
  unfold outS at hx
  by_cases h1 : y = x
  · rw [if_pos h1, if_neg (by omega), if_pos h1]
  · rw [if_neg h1, if_neg h1]
theorem SH_h {a c : Nat} {sa : Nat → Nat → Int} {si : Nat → Int} {sl : Nat → BitVec 64} {h0 h1 : HP} (e : h0.1 = h1.1) (h : ∀ x, outS a x → h0.2 x = h1.2 x) : SH a c sa si sl h0 = SH a c sa si sl h1 := by
  refine Prod.ext e (funext fun y => ?_)
  show (if a ≤ y ∧ y ≤ a + 7 then _ else h0.2 y) = (if a ≤ y ∧ y ≤ a + 7 then _ else h1.2 y)
  by_cases hy : a ≤ y ∧ y ≤ a + 7
  · rw [if_pos hy, if_pos hy]
  · rw [if_neg hy, if_neg hy]; exact h y hy
def pfs (p : Nat) (f n : Int) : List Value := [.ref (p + 1), .int (zI f), .int (zI n)]
/-- where a scene has been copied to -/
def CT (h h' : HP) (p slot : Nat) (sc : Nat → Option Nat) (a c : Nat) (sa : Nat → Nat → Int) (si : Nat → Int) (sl : Nat → BitVec 64) : Prop := (sc slot = some a ∧ h' = SH a c sa si sl h) ∨ (sc slot = none ∧ a = h.1 ∧ h' = SH a c sa si sl (h.1 + 8, up h.2 (p + 1) (aR 3 20 (u1 sc slot (some h.1)))))
set_option maxRecDepth 8000 in
theorem c6_copyTo {h : HP} {p b c slot : Nat} {sc : Nat → Option Nat} {f n : Int} {sb : Nat → Nat → Int} {sj : Nat → Int} {sm : Nat → BitVec 64} (hp : h.2 p = some (.inr (5, pfs p f n))) (hs : h.2 (p + 1) = some (aR 3 20 sc)) (hk : slot < 20) (hb : SCP h b c sb sj sm) (hbl : b + 7 < h.1) (hpl : p + 1 < h.1) (hbp : outS b p ∧ outS b (p + 1)) (ha : ∀ a, sc slot = some a → (∃ (c' : Nat) (sa : Nat → Nat → Int) (si : Nat → Int) (sl : Nat → BitVec 64), SCP h a c' sa si sl) ∧ (∀ j, j ≤ 7 → outS a (b + j)) ∧ outS a p ∧ outS a (p + 1)) : sp mX6_copyTo [.ref p, .int (zI (slot : Int)), .ref b] h 8 413 (fun v h' => v = none ∧ ∃ (a : Nat) (sa : Nat → Nat → Int), CPY sb sa ∧ CT h h' p slot sc a c sa sj sm) := by
  unfold outS at hbp
  refine sp_wp rfl (lv := [_, _, _]) rfl (Nat.le_of_ble_eq_true rfl) ?_
  refine w_aload_n dX6_copyTo_0 rfl rfl ?_
  refine w_getf fX6_11 dX6_copyTo_1 hp rfl ?_
  refine w_iload_n dX6_copyTo_4 rfl rfl ?_
  refine w_aald slot (Or.inr (Or.inl rfl)) hs rfl hk (by decide) dX6_copyTo_5 ?_
  cases hsc : sc slot with
  | some a =>
    obtain ⟨⟨c', sa, si, sl, hA⟩, hap, hap0, hap1⟩ := ha a hsc
    show wp _ _ _ (.ref a :: _) _ _ _ _
    refine w_ifnonnull 26 dX6_copyTo_6 (by decide) ?_
    refine w_aload_n dX6_copyTo_26 rfl rfl ?_
    refine w_getf fX6_11 dX6_copyTo_27 hp rfl ?_
    refine w_iload_n dX6_copyTo_30 rfl rfl ?_
    refine w_aald slot (Or.inr (Or.inl rfl)) hs rfl hk (by decide) dX6_copyTo_31 ?_
    rw [hsc]
    show wp _ _ _ (.ref a :: _) _ _ _ _
    refine w_aload_n dX6_copyTo_32 rfl rfl ?_
    refine w_cast rfl rfl hA.self.symm ?_
    refine wx_Vv (Z := mX8_copyFrom) (As := [_]) (c8_copyFrom hb hap) SC0 rfl kX8_copyFrom lX6_35 iX8_copyFrom vX8_copyFrom dX6_copyTo_33 rfl rfl rfl (Nat.le_of_ble_eq_true rfl) ⟨Nat.le_of_ble_eq_true rfl, Nat.le_of_ble_eq_true rfl⟩ (fun z hz => ?_)
    exact x_vret rfl dX6_copyTo_36 ⟨rfl, a, z, hz, Or.inl ⟨hsc, rfl⟩⟩
  | none =>
    show wp _ _ _ (.null :: _) _ _ _ _
    refine w_ifnonnullN dX6_copyTo_6 ?_
    refine w_aload_n dX6_copyTo_9 rfl rfl ?_
    refine w_getf fX6_11 dX6_copyTo_10 hp rfl ?_
    refine w_iload_n dX6_copyTo_13 rfl rfl ?_
    refine w_new nX6_9 (by decide) (by decide) dX6_copyTo_14 ?_
    refine w_dup dX6_copyTo_17 rfl ?_
    refine w_aload_n dX6_copyTo_18 rfl rfl ?_
    refine w_getf fX6_28 dX6_copyTo_19 ((up_n (show b ≠ h.1 by omega)).trans (hb 0 (by omega))) rfl ?_
    refine w_callI (Z := mX8_init) (As := [_]) (c8_init (a := h.1) (c := c) rfl up_s) kX8_init rfl lX6_32 iX8_init rfl dX6_copyTo_22 rfl rfl rfl (Nat.le_of_ble_eq_true rfl) ⟨Nat.le_of_ble_eq_true rfl, Nat.le_of_ble_eq_true rfl⟩ (by decide) (by decide) (fun v' h' q => ?_)
    obtain ⟨rfl, rfl⟩ := q
    refine w_aast3 slot (SHo (by unfold outS; omega) ((up_n (by omega)).trans hs)) SC0 rfl hk (by decide) dX6_copyTo_25 ?_
    rw [SH_o (by unfold outS; omega)]
    obtain ⟨H, hH⟩ : ∃ H : HP, ((h.1 + 8, up (up h.2 h.1 (.inr (7, [.null, .long 0, .int 0, .int 0, .int 0, .int 0, .int 0, .int 0, .long 0, .int 0, .null, .null, .null, .null, .null, .null, .null]))) (p + 1) (aR 3 20 (u1 sc slot (some h.1)))) : HP) = H := ⟨_, rfl⟩
    have hbH : SCP H b c sb sj sm := fun j hj => by
      rw [← hH]
      exact (up_n (by omega)).trans ((up_n (by omega)).trans (hb j hj))
    have hpH : H.2 p = some (.inr (5, pfs p f n)) := by
      rw [← hH]
      exact (up_n (by omega)).trans ((up_n (by omega)).trans hp)
    have hsH : H.2 (p + 1) = some (aR 3 20 (u1 sc slot (some h.1))) := by
      rw [← hH]
      exact up_s
    refine w_cast rfl rfl (show _ = SH h.1 c (fun _ _ => 0) (u1 (fun _ => 0) 2 613) (fun _ => 0#64) H by rw [← hH]) ?_
    refine w_aload_n dX6_copyTo_26 rfl rfl ?_
    refine w_getf fX6_11 dX6_copyTo_27 (SHo (by unfold outS; omega) hpH) rfl ?_
    refine w_iload_n dX6_copyTo_30 rfl rfl ?_
    refine w_aald slot (Or.inr (Or.inl rfl)) (SHo (by unfold outS; omega) hsH) rfl hk (by decide) dX6_copyTo_31 ?_
    rw [u1_s]
    show wp _ _ _ (.ref h.1 :: _) _ _ _ _
    refine w_aload_n dX6_copyTo_32 rfl rfl ?_
    refine wx_Vv (Z := mX8_copyFrom) (As := [_]) (c8_copyFrom hbH (fun j hj => by unfold outS; omega)) SC0 rfl kX8_copyFrom lX6_35 iX8_copyFrom vX8_copyFrom dX6_copyTo_33 rfl rfl rfl (Nat.le_of_ble_eq_true rfl) ⟨Nat.le_of_ble_eq_true rfl, Nat.le_of_ble_eq_true rfl⟩ (fun z hz => ?_)
    refine x_vret rfl dX6_copyTo_36 ⟨rfl, h.1, z, hz, Or.inr ⟨hsc, rfl, ?_⟩⟩
    refine SH_h (by rw [← hH]) (fun x hx => ?_)
    rw [← hH]
    unfold outS at hx
    show (if x = p + 1 then _ else if x = h.1 then _ else h.2 x) = (if x = p + 1 then _ else h.2 x)
    by_cases h1 : x = p + 1
    · rw [if_pos h1, if_pos h1]
    · rw [if_neg h1, if_neg h1, if_neg (by omega)]

