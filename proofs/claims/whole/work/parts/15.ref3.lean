def fac : Nat → Nat
  | 0 => 1
  | n + 1 => (n + 1) * fac n
set_option maxRecDepth 4000 in
theorem c_orders {r : Nat} {A : Nat → Int} {ia : Nat → Nat → Int} {la : Nat → Nat → BitVec 64} {fi : Nat → Int} {fl : Nat → BitVec 64} {h0 : HP} {R : Nat} (v2 : A 4 = (R : Int)) (hR : 1 ≤ R ∧ R ≤ 4) : sp mX10_orders [.ref r] (RH r A ia la fi fl h0) 0 0 (pd (some (.int (zI (fac R : Nat)))) (RH r A ia la fi fl h0)) := by
  refine sp_wp rfl (lv := [_, _, _]) rfl (Nat.le_of_ble_eq_true rfl) ?_
  refine w_iconst dX10_orders_0 ?_
  refine w_istore_n (lv' := [_, _, _]) dX10_orders_1 rfl (Nat.le_of_ble_eq_true rfl) rfl rfl ?_
  refine w_iconst dX10_orders_2 ?_
  refine w_istore_n (lv' := [_, _, _]) dX10_orders_3 rfl (Nat.le_of_ble_eq_true rfl) rfl rfl ?_
  have key : ∀ k, k ≤ R - 1 → wp mX10_orders 4 [.ref r, .int (zI (fac (k + 1) : Nat)), .int (zI ((k + 2 : Nat) : Int))] [] (RH r A ia la fi fl h0) 0 0 (pd (some (.int (zI (fac R : Nat)))) (RH r A ia la fi fl h0)) := by
    refine up_ind (N := R - 1) (fun k hk ih => ?_)
    refine w_iload_n dX10_orders_4 rfl rfl ?_
    refine w_aload_n dX10_orders_5 rfl rfl ?_
    refine w_getf fX10_7 dX10_orders_6 RH0 rfl ?_
    refine w_iconst dX10_orders_9 ?_
    refine w_iald 4 RH1 rfl (by decide) (by decide) dX10_orders_10 ?_
    rw [v2]
    refine w_icmp_gt 24 dX10_orders_11 (by decide) (by unfold ok32; omega) (by unfold ok32; omega) (fun hn => ?_) (fun hn => ?_)
    · refine w_iload_n dX10_orders_24 rfl rfl ?_
      refine x_iret rfl rfl dX10_orders_25 ⟨?_, rfl⟩
      rw [show k + 1 = R by omega]
    · refine w_iload_n dX10_orders_14 rfl rfl ?_
      refine w_iload_n dX10_orders_15 rfl rfl ?_
      refine w_imul dX10_orders_16 ?_
      refine w_istore_n (lv' := [_, _, _]) dX10_orders_17 rfl (Nat.le_of_ble_eq_true rfl) rfl rfl ?_
      refine w_iinc (lv' := [_, _, _]) dX10_orders_18 rfl rfl rfl ?_
      refine w_goto 4 dX10_orders_21 (by decide) ?_
      refine w_cast ?_ rfl rfl (ih (by omega))
      rw [show ((fac (k + 1) : Nat) : Int) * ((k + 2 : Nat) : Int) = ((fac (k + 1 + 1) : Nat) : Int) by
        rw [show fac (k + 1 + 1) = (k + 1 + 1) * fac (k + 1) from rfl, Nat.mul_comm]; push_cast; rfl]
      rfl
  exact key 0 (Nat.zero_le _)
/-- the first place from l on that isn't used, n of them passed by -/
def fndF : Nat → Nat → Nat → Nat → Option Nat
  | 0, _, _, _ => none
  | m + 1, u, n, l => if u.testBit l then fndF m u n (l + 1) else if n = 0 then some l else fndF m u (n - 1) (l + 1)
def oSt (R o : Nat) : Nat → Option (Nat × Nat × Nat × Nat)
  | 0 => some (o, fac R, 0, 0)
  | k + 1 => match oSt R o k with
    | none => none
    | some (l, w, u, _) => match fndF 8 u (l / (w / (R - k))) 0 with
      | none => none
      | some y => some (l % (w / (R - k)), w / (R - k), u ||| (1 <<< y), y)
def lay (R o p : Nat) : Nat := match oSt R o (p + 1) with
  | some x => x.2.2.2
  | none => 0
def oOk (R o k : Nat) : Bool := match oSt R o k with
  | none => false
  | some (l, w, u, _) => decide (l < 24) && (decide (1 ≤ w / (R - k)) && (decide (w ≤ 24) && (decide (u < 16) && match fndF 8 u (l / (w / (R - k))) 0 with
    | none => false
    | some y => decide (y < R))))
theorem oOk_tab : ((List.range 5).all fun R => (List.range 24).all fun o => (List.range 4).all fun k => !(decide (1 ≤ R) && (decide (o < fac R) && decide (k < R))) || oOk R o k) = true := by decide +kernel
theorem oOk_all (R : Nat) (h1 : R < 5) (o : Nat) (h2 : o < 24) (k : Nat) (h3 : k < 4) (h4 : 1 ≤ R) (h5 : o < fac R) (h6 : k < R) : oOk R o k = true := by
  have h := List.all_eq_true.mp (List.all_eq_true.mp (List.all_eq_true.mp oOk_tab R (List.mem_range.mpr h1)) o (List.mem_range.mpr h2)) k (List.mem_range.mpr h3)
  simpa [h4, h5, h6] using h
theorem fac_le {R : Nat} (h : R ≤ 4) : fac R ≤ 24 := by
  rcases (show R = 0 ∨ R = 1 ∨ R = 2 ∨ R = 3 ∨ R = 4 by omega) with rfl | rfl | rfl | rfl | rfl <;> decide
theorem oSt_ok {R o k : Nat} (hR : 1 ≤ R ∧ R ≤ 4) (ho : o < fac R) (hk : k < R) : ∃ l w u y z, oSt R o k = some (l, w, u, z) ∧ l < 24 ∧ 1 ≤ w / (R - k) ∧ w ≤ 24 ∧ u < 16 ∧ fndF 8 u (l / (w / (R - k))) 0 = some y ∧ y < R ∧ oSt R o (k + 1) = some (l % (w / (R - k)), w / (R - k), u ||| (1 <<< y), y) := by
  have hf := fac_le hR.2
  have h1 := oOk_all R (by omega) o (by omega) k (by omega) hR.1 ho hk
  unfold oOk at h1
  cases h2 : oSt R o k with
  | none => rw [h2] at h1; cases h1
  | some q =>
    obtain ⟨l, w, u, z⟩ := q
    rw [h2] at h1
    simp only [Bool.and_eq_true, decide_eq_true_eq] at h1
    cases h3 : fndF 8 u (l / (w / (R - k))) 0 with
    | none => rw [h3] at h1; exact absurd h1.2.2.2.2 (by simp)
    | some y =>
      rw [h3] at h1
      simp only [decide_eq_true_eq] at h1
      refine ⟨l, w, u, y, z, rfl, h1.1, h1.2.1, h1.2.2.1, h1.2.2.2.1, h3, h1.2.2.2.2, ?_⟩
      unfold oSt
      rw [h2]
      simp only [h3]
theorem sbit {u l : Nat} (hu : u < 16) (hl : l < 8) : zI (u : Int) >>> (zI (l : Int) &&& 31) &&& zI 1 = zI (bI (u.testBit l = true)) := by
  have key : ∀ u : Nat, u < 16 → ∀ l : Nat, l < 8 → zI (u : Int) >>> (zI (l : Int) &&& 31) &&& zI 1 = zI (bI (u.testBit l = true)) := by decide +kernel
  exact key u hu l hl
theorem sset {u l : Nat} (hu : u < 16) (hl : l < 4) : zI (u : Int) ||| zI 1 <<< (zI (l : Int) &&& 31) = zI ((u ||| 1 <<< l : Nat) : Int) := by
  have key : ∀ u : Nat, u < 16 → ∀ l : Nat, l < 4 → zI (u : Int) ||| zI 1 <<< (zI (l : Int) &&& 31) = zI ((u ||| 1 <<< l : Nat) : Int) := by decide +kernel
  exact key u hu l hl
set_option maxRecDepth 4000 in
theorem c_layerOf_in {r : Nat} {h : HP} {x1 x2 x3 x4 : Value} {x7 : Int32} {u y : Nat} {Φ : Option Value → HP → Prop} (hu : u < 16) (K : wp mX10_layerOf 94 [.ref r, x1, x2, x3, x4, .int (zI (u : Int)), .int (zI (y : Int)), .int x7, .int (zI (0 : Nat))] [] h 0 0 Φ) : ∀ (m n l : Nat), l + m ≤ 8 → n < 100 → fndF m u n l = some y → wp mX10_layerOf 51 [.ref r, x1, x2, x3, x4, .int (zI (u : Int)), .int (zI (l : Int)), .int x7, .int (zI (n : Int))] [] h 0 0 Φ := by
  intro m
  induction m with
  | zero => intro n l _ _ h; cases h
  | succ m ih =>
    intro n l hl hn hf
    unfold fndF at hf
    refine w_iload dX10_layerOf_51 rfl ?_
    refine w_iload dX10_layerOf_53 rfl ?_
    refine w_ishrR dX10_layerOf_55 ?_
    refine w_iconst dX10_layerOf_56 ?_
    refine w_iandR dX10_layerOf_57 ?_
    rw [sbit hu (by omega)]
    refine w_iconst dX10_layerOf_58 ?_
    by_cases hb : u.testBit l = true
    · rw [bI_t hb]
      rw [if_pos hb] at hf
      refine w_icmp_eq 67 dX10_layerOf_59 (by decide) (by unfold ok32; omega) (by unfold ok32; omega) (fun hq => ?_) (fun hq => ?_)
      · refine w_iload dX10_layerOf_67 rfl ?_
        refine w_iload dX10_layerOf_69 rfl ?_
        refine w_iload dX10_layerOf_71 rfl ?_
        refine w_ishrR dX10_layerOf_73 ?_
        refine w_iconst dX10_layerOf_74 ?_
        refine w_iandR dX10_layerOf_75 ?_
        rw [sbit hu (by omega), bI_t hb]
        refine w_iconst dX10_layerOf_76 ?_
        refine w_icmp_ne 84 dX10_layerOf_77 (by decide) (by unfold ok32; omega) (by unfold ok32; omega) (fun hz => ?_) (fun hz => ?_)
        · exact absurd rfl hz
        · refine w_iconst dX10_layerOf_80 ?_
          refine w_goto 85 dX10_layerOf_81 (by decide) ?_
          refine w_isub dX10_layerOf_85 ?_
          refine w_istore (lv' := [_, _, _, _, _, _, _, _, _]) dX10_layerOf_86 (Nat.le_of_ble_eq_true rfl) rfl rfl ?_
          refine w_iinc (lv' := [_, _, _, _, _, _, _, _, _]) dX10_layerOf_88 rfl rfl rfl ?_
          refine w_goto 51 dX10_layerOf_91 (by decide) ?_
          refine w_cast ?_ rfl rfl (ih n (l + 1) (by omega) hn hf)
          rw [show (n : Int) - 0 = (n : Int) by omega]
          rfl
      · exact absurd rfl hq
    · rw [bI_f hb]
      rw [if_neg hb] at hf
      refine w_icmp_eq 67 dX10_layerOf_59 (by decide) (by unfold ok32; omega) (by unfold ok32; omega) (fun hq => ?_) (fun hq => ?_)
      · exact absurd hq (by decide)
      · refine w_iload dX10_layerOf_62 rfl ?_
        refine w_if_le 94 dX10_layerOf_64 (by decide) (by unfold ok32; omega) (fun hz => ?_) (fun hz => ?_)
        · have h0 : n = 0 := by omega
          rw [if_pos h0] at hf
          cases hf
          rw [h0]
          exact K
        · rw [if_neg (by omega)] at hf
          refine w_iload dX10_layerOf_67 rfl ?_
          refine w_iload dX10_layerOf_69 rfl ?_
          refine w_iload dX10_layerOf_71 rfl ?_
          refine w_ishrR dX10_layerOf_73 ?_
          refine w_iconst dX10_layerOf_74 ?_
          refine w_iandR dX10_layerOf_75 ?_
          rw [sbit hu (by omega), bI_f hb]
          refine w_iconst dX10_layerOf_76 ?_
          refine w_icmp_ne 84 dX10_layerOf_77 (by decide) (by unfold ok32; omega) (by unfold ok32; omega) (fun hy => ?_) (fun hy => ?_)
          · refine w_iconst dX10_layerOf_84 ?_
            refine w_isub dX10_layerOf_85 ?_
            refine w_istore (lv' := [_, _, _, _, _, _, _, _, _]) dX10_layerOf_86 (Nat.le_of_ble_eq_true rfl) rfl rfl ?_
            refine w_iinc (lv' := [_, _, _, _, _, _, _, _, _]) dX10_layerOf_88 rfl rfl rfl ?_
            refine w_goto 51 dX10_layerOf_91 (by decide) ?_
            refine w_cast ?_ rfl rfl (ih (n - 1) (l + 1) (by omega) (by omega) hf)
            rw [show (n : Int) - 1 = ((n - 1 : Nat) : Int) by omega]
            rfl
          · exact absurd hy (by decide)
set_option maxRecDepth 4000 in
theorem c_layerOf {r : Nat} {A : Nat → Int} {ia : Nat → Nat → Int} {la : Nat → Nat → BitVec 64} {fi : Nat → Int} {fl : Nat → BitVec 64} {h0 : HP} {R o p : Nat} (v2 : A 4 = (R : Int)) (hR : 1 ≤ R ∧ R ≤ 4) (ho : o < fac R) (hp : p < R) : sp mX10_layerOf [.ref r, .int (zI (o : Int)), .int (zI (p : Int))] (RH r A ia la fi fl h0) 0 0 (pd (some (.int (zI (lay R o p : Nat)))) (RH r A ia la fi fl h0)) := by
  have hf := fac_le hR.2
  refine sp_wp rfl (lv := [_, _, _, _, _, _, _, _, _]) rfl (Nat.le_of_ble_eq_true rfl) ?_
  refine w_iload_n dX10_layerOf_0 rfl rfl ?_
  refine w_istore_n (lv' := [_, _, _, _, _, _, _, _, _]) dX10_layerOf_1 rfl (Nat.le_of_ble_eq_true rfl) rfl rfl ?_
  refine w_aload_n dX10_layerOf_2 rfl rfl ?_
  refine wc_V (Z := mX10_orders) (As := []) (c_orders v2 hR) RH0 rfl kX10_orders lX10_153 iX10_orders vX10_orders dX10_layerOf_3 rfl rfl rfl (Nat.le_of_ble_eq_true rfl) ⟨Nat.le_of_ble_eq_true rfl, Nat.le_of_ble_eq_true rfl⟩ ?_
  refine w_istore (lv' := [_, _, _, _, _, _, _, _, _]) dX10_layerOf_6 (Nat.le_of_ble_eq_true rfl) rfl rfl ?_
  refine w_iconst dX10_layerOf_8 ?_
  refine w_istore (lv' := [_, _, _, _, _, _, _, _, _]) dX10_layerOf_9 (Nat.le_of_ble_eq_true rfl) rfl rfl ?_
  refine w_iconst dX10_layerOf_11 ?_
  refine w_istore (lv' := [_, _, _, _, _, _, _, _, _]) dX10_layerOf_12 (Nat.le_of_ble_eq_true rfl) rfl rfl ?_
  refine w_iconst dX10_layerOf_14 ?_
  refine w_istore (lv' := [_, _, _, _, _, _, _, _, _]) dX10_layerOf_15 (Nat.le_of_ble_eq_true rfl) rfl rfl ?_
  have key : ∀ k, k ≤ p + 1 → ∀ l w u z, oSt R o k = some (l, w, u, z) → ∀ x8 : Value, wp mX10_layerOf 17 [.ref r, .int (zI (o : Int)), .int (zI (p : Int)), .int (zI (l : Int)), .int (zI (w : Int)), .int (zI (u : Int)), .int (zI (z : Int)), .int (zI (k : Int)), x8] [] (RH r A ia la fi fl h0) 0 0 (pd (some (.int (zI (lay R o p : Nat)))) (RH r A ia la fi fl h0)) := by
    refine up_ind (N := p + 1) (fun k hk ih => ?_)
    intro l w u z hs x8
    refine w_iload dX10_layerOf_17 rfl ?_
    refine w_iload_n dX10_layerOf_19 rfl rfl ?_
    refine w_icmp_gt 109 dX10_layerOf_20 (by decide) (by unfold ok32; omega) (by unfold ok32; omega) (fun hn => ?_) (fun hn => ?_)
    · refine w_iload dX10_layerOf_109 rfl ?_
      refine x_iret rfl rfl dX10_layerOf_111 ⟨?_, rfl⟩
      unfold lay
      rw [show p + 1 = k by omega, hs]
    · obtain ⟨l', w', u', y, z', e1, e2, e3, e4, e5, e6, e7, e8⟩ := oSt_ok (k := k) hR ho (by omega)
      cases hs.symm.trans e1
      have hw0 : w / (R - k) ≤ w := Nat.div_le_self _ _
      refine w_iload dX10_layerOf_23 rfl ?_
      refine w_aload_n dX10_layerOf_25 rfl rfl ?_
      refine w_getf fX10_7 dX10_layerOf_26 RH0 rfl ?_
      refine w_iconst dX10_layerOf_29 ?_
      refine w_iald 4 RH1 rfl (by decide) (by decide) dX10_layerOf_30 ?_
      rw [v2]
      refine w_iload dX10_layerOf_31 rfl ?_
      refine w_isub dX10_layerOf_33 ?_
      rw [show (R : Int) - (k : Int) = ((R - k : Nat) : Int) by omega]
      refine w_idiv dX10_layerOf_34 (by unfold ok32; omega) (by omega) (by omega) (by unfold ok32; omega) ?_
      rw [show (w : Int) / ((R - k : Nat) : Int) = ((w / (R - k) : Nat) : Int) from rfl]
      generalize w / (R - k) = W at e3 e6 e8 hw0 ⊢
      have hl0 : l / W ≤ l := Nat.div_le_self _ _
      refine w_istore (lv' := [_, _, _, _, _, _, _, _, _]) dX10_layerOf_35 (Nat.le_of_ble_eq_true rfl) rfl rfl ?_
      refine w_iload_n dX10_layerOf_37 rfl rfl ?_
      refine w_iload dX10_layerOf_38 rfl ?_
      refine w_idiv dX10_layerOf_40 (by unfold ok32; omega) (by omega) (by omega) (by unfold ok32; omega) ?_
      refine w_istore (lv' := [_, _, _, _, _, _, _, _, _]) dX10_layerOf_41 (Nat.le_of_ble_eq_true rfl) rfl rfl ?_
      refine w_iload_n dX10_layerOf_43 rfl rfl ?_
      refine w_iload dX10_layerOf_44 rfl ?_
      refine w_irem dX10_layerOf_46 (by unfold ok32; omega) (by omega) (by omega) (by unfold ok32; omega) ?_
      refine w_istore_n (lv' := [_, _, _, _, _, _, _, _, _]) dX10_layerOf_47 rfl (Nat.le_of_ble_eq_true rfl) rfl rfl ?_
      refine w_iconst dX10_layerOf_48 ?_
      refine w_istore (lv' := [_, _, _, _, _, _, _, _, _]) dX10_layerOf_49 (Nat.le_of_ble_eq_true rfl) rfl rfl ?_
      refine c_layerOf_in e5 ?_ 8 (l / W) 0 (by omega) (by omega) e6
      refine w_iload dX10_layerOf_94 rfl ?_
      refine w_iconst dX10_layerOf_96 ?_
      refine w_iload dX10_layerOf_97 rfl ?_
      refine w_ishlR dX10_layerOf_99 ?_
      refine w_iorR dX10_layerOf_100 ?_
      rw [sset e5 (by omega)]
      refine w_istore (lv' := [_, _, _, _, _, _, _, _, _]) dX10_layerOf_101 (Nat.le_of_ble_eq_true rfl) rfl rfl ?_
      refine w_iinc (lv' := [_, _, _, _, _, _, _, _, _]) dX10_layerOf_103 rfl rfl rfl ?_
      refine w_goto 17 dX10_layerOf_106 (by decide) ?_
      exact ih (by omega) _ _ _ _ e8 _
  exact key 0 (by omega) _ _ _ _ rfl _

