/-! the class: an order of layers laid into an array -/
theorem up_same {h : HP} {a : Nat} {e : CE} (hh : h.2 a = some e) : ((h.1, up h.2 a e) : HP) = h := by
  refine Prod.ext rfl (funext fun x => ?_)
  show (if x = a then some e else h.2 x) = h.2 x
  by_cases hx : x = a
  · rw [if_pos hx, hx, hh]
  · rw [if_neg hx]
theorem up_up {f : Nat → Option CE} {a : Nat} {e e' : CE} : up (up f a e) a e' = up f a e' := by
  funext x
  show (if x = a then some e' else if x = a then some e else f x) = if x = a then some e' else f x
  by_cases hx : x = a
  · rw [if_pos hx, if_pos hx]
  · rw [if_neg hx, if_neg hx, if_neg hx]
def foL (R o p : Nat) : Nat × Nat := match oSt R o p with
  | some (l, _, u, _) => (l, (2 ^ R - 1) ^^^ u)
  | none => (0, 0)
def foT (R o p : Nat) : Bool := decide ((foL R o p).2 < 16) && (decide ((foL R o p).1 / fac (R - 1 - p) < R) && (decide ((foL R o (p + 1)).1 = (foL R o p).1 % fac (R - 1 - p)) && (decide (lay R o p < R) && (decide ((BitVec.ofInt 64 ((foL R o p).2 : Int)).getLsbD (lay R o p) = true) && (decide (pn (BitVec.ofInt 64 ((foL R o p).2 : Int)).getLsbD (lay R o p) = (foL R o p).1 / fac (R - 1 - p)) && (decide (clr (foL R o p).2 (lay R o p) = (foL R o (p + 1)).2) && decide ((foL R o p).1 < 24)))))))
theorem foT_tab : ((List.range 5).all fun R => (List.range 24).all fun o => (List.range 4).all fun k => !(decide (1 ≤ R) && (decide (o < fac R) && decide (k < R))) || foT R o k) = true := by decide +kernel
theorem foT_all {R o p : Nat} (hR : 1 ≤ R ∧ R ≤ 4) (ho : o < fac R) (hp : p < R) : (foL R o p).2 < 16 ∧ (foL R o p).1 / fac (R - 1 - p) < R ∧ (foL R o (p + 1)).1 = (foL R o p).1 % fac (R - 1 - p) ∧ lay R o p < R ∧ (BitVec.ofInt 64 ((foL R o p).2 : Int)).getLsbD (lay R o p) = true ∧ pn (BitVec.ofInt 64 ((foL R o p).2 : Int)).getLsbD (lay R o p) = (foL R o p).1 / fac (R - 1 - p) ∧ clr (foL R o p).2 (lay R o p) = (foL R o (p + 1)).2 ∧ (foL R o p).1 < 24 := by
  have h24 := fac_le hR.2
  have h1 := List.all_eq_true.mp foT_tab R (List.mem_range.mpr (by omega))
  have h2 := List.all_eq_true.mp h1 o (List.mem_range.mpr (by omega))
  have h3 := List.all_eq_true.mp h2 p (List.mem_range.mpr (by omega))
  have h4 : foT R o p = true := by
    rw [Bool.or_eq_true] at h3
    rcases h3 with h3 | h3
    · simp at h3
      omega
    · exact h3
  unfold foT at h4
  simp only [Bool.and_eq_true, decide_eq_true_eq] at h4
  exact h4
theorem shl1_tab : ((List.range 13).all fun n => decide (zI 1 <<< (zI (n : Int) &&& 31) = zI ((2 ^ n : Nat) : Int))) = true := by decide +kernel
theorem shl1 {n : Nat} (h : n ≤ 12) : zI 1 <<< (zI (n : Int) &&& 31) = zI ((2 ^ n : Nat) : Int) := by
  have := List.all_eq_true.mp shl1_tab n (List.mem_range.mpr (by omega))
  simpa using this
set_option maxRecDepth 4000 in
theorem c9_fillOrder {R o a : Nat} {f : Nat → Int} {h : HP} (hR : 1 ≤ R ∧ R ≤ 4) (ho : o < fac R) (ha : h.2 a = some (aI 4 f)) : sp mX9_fillOrder [.int (zI (R : Int)), .int (zI (o : Int)), .ref a] h 0 0 (px none (fun g : Nat → Int => ∀ p, p < R → g p = ((lay R o p : Nat) : Int)) (fun g => (h.1, up h.2 a (aI 4 g)))) := by
  have h24 := fac_le hR.2
  refine sp_wp rfl (lv := [_, _, _, _, _, _, _, _, _]) rfl (Nat.le_of_ble_eq_true rfl) ?_
  refine w_iconst dX9_fillOrder_0 ?_
  refine w_iload_n dX9_fillOrder_1 rfl rfl ?_
  refine w_ishlR dX9_fillOrder_2 ?_
  rw [shl1 (show R ≤ 12 by omega)]
  refine w_iconst dX9_fillOrder_3 ?_
  refine w_isub dX9_fillOrder_4 ?_
  refine w_istore_n (lv' := [_, _, _, _, _, _, _, _, _]) dX9_fillOrder_5 rfl (Nat.le_of_ble_eq_true rfl) rfl rfl ?_
  refine w_iload_n dX9_fillOrder_6 rfl rfl ?_
  refine w_istore (lv' := [_, _, _, _, _, _, _, _, _]) dX9_fillOrder_7 (Nat.le_of_ble_eq_true rfl) rfl rfl ?_
  refine w_iconst dX9_fillOrder_9 ?_
  refine w_istore (lv' := [_, _, _, _, _, _, _, _, _]) dX9_fillOrder_10 (Nat.le_of_ble_eq_true rfl) rfl rfl ?_
  have h2R : 1 ≤ 2 ^ R ∧ 2 ^ R ≤ 16 := ⟨Nat.one_le_two_pow, Nat.pow_le_pow_right (n := 2) (by omega) hR.2⟩
  have key : ∀ p, p ≤ R → ∀ (g : Nat → Int) (x6 x7 x8 : Value), (∀ q, q < p → g q = ((lay R o q : Nat) : Int)) → wp mX9_fillOrder 12 [.int (zI (R : Int)), .int (zI (o : Int)), .ref a, .int (zI ((foL R o p).2 : Int)), .int (zI ((foL R o p).1 : Int)), .int (zI (p : Int)), x6, x7, x8] [] (h.1, up h.2 a (aI 4 g)) 0 0 (px none (fun g : Nat → Int => ∀ p, p < R → g p = ((lay R o p : Nat) : Int)) (fun g => (h.1, up h.2 a (aI 4 g)))) := by
    refine up_ind (P := fun p => ∀ (g : Nat → Int) (x6 x7 x8 : Value), (∀ q, q < p → g q = ((lay R o q : Nat) : Int)) → wp mX9_fillOrder 12 [.int (zI (R : Int)), .int (zI (o : Int)), .ref a, .int (zI ((foL R o p).2 : Int)), .int (zI ((foL R o p).1 : Int)), .int (zI (p : Int)), x6, x7, x8] [] (h.1, up h.2 a (aI 4 g)) 0 0 (px none (fun g : Nat → Int => ∀ p, p < R → g p = ((lay R o p : Nat) : Int)) (fun g => (h.1, up h.2 a (aI 4 g))))) (fun p hp ih g x6 x7 x8 hg => ?_)
    refine w_iload dX9_fillOrder_12 rfl ?_
    refine w_iload_n dX9_fillOrder_14 rfl rfl ?_
    refine w_icmp_ge 96 dX9_fillOrder_15 (by decide) (by first | assumption | (unfold ok32 at *; omega)) (by first | assumption | (unfold ok32 at *; omega)) (fun hc => ?_) (fun hc => ?_)
    · refine x_vret rfl dX9_fillOrder_96 ⟨rfl, g, fun q hq => hg q (by omega), rfl⟩
    · have hpR : p < R := by omega
      obtain ⟨t1, t2, t3, t4, t5, t6, t7, t8⟩ := foT_all hR ho hpR
      obtain ⟨lf, hlf⟩ : ∃ lf, (foL R o p).2 = lf := ⟨_, rfl⟩
      obtain ⟨l, hl⟩ : ∃ l, (foL R o p).1 = l := ⟨_, rfl⟩
      obtain ⟨y, hy⟩ : ∃ y, lay R o p = y := ⟨_, rfl⟩
      obtain ⟨bk, hbk⟩ : ∃ bk, fac (R - 1 - p) = bk := ⟨_, rfl⟩
      have hb1 : 1 ≤ bk ∧ bk ≤ 24 := ⟨by rw [← hbk]; exact fac_pos _, by rw [← hbk]; exact fac_le (by omega)⟩
      rw [hlf] at t1 t5 t6 t7
      rw [hl] at t2 t3 t6 t8
      rw [hy] at t4 t5 t6 t7
      rw [hbk] at t2 t3 t6
      rw [hlf, hl]
      refine w_iload_n dX9_fillOrder_18 rfl rfl ?_
      refine w_iconst dX9_fillOrder_19 ?_
      refine w_isub dX9_fillOrder_20 ?_
      refine w_iload dX9_fillOrder_21 rfl ?_
      refine w_isub dX9_fillOrder_23 ?_
      rw [show (R : Int) - 1 - (p : Int) = ((R - 1 - p : Nat) : Int) by omega]
      refine wc_S (Z := mX9_countOrders) (As := [_]) (c9_countOrders (R := R - 1 - p) (by omega)) kX9_countOrders lX9_340 sX9_countOrders dX9_fillOrder_24 rfl rfl rfl (Nat.le_of_ble_eq_true rfl) ⟨Nat.le_of_ble_eq_true rfl, Nat.le_of_ble_eq_true rfl⟩ ?_
      rw [hbk]
      refine w_istore (lv' := [_, _, _, _, _, _, _, _, _]) dX9_fillOrder_27 (Nat.le_of_ble_eq_true rfl) rfl rfl ?_
      refine w_iconst dX9_fillOrder_29 ?_
      refine w_istore (lv' := [_, _, _, _, _, _, _, _, _]) dX9_fillOrder_30 (Nat.le_of_ble_eq_true rfl) rfl rfl ?_
      refine w_iconst dX9_fillOrder_32 ?_
      refine w_istore (lv' := [_, _, _, _, _, _, _, _, _]) dX9_fillOrder_33 (Nat.le_of_ble_eq_true rfl) rfl rfl ?_
      have inn : ∀ n, n ≤ l / bk → wp mX9_fillOrder 35 [.int (zI (R : Int)), .int (zI (o : Int)), .ref a, .int (zI (lf : Int)), .int (zI ((l - n * bk : Nat) : Int)), .int (zI (p : Int)), .int (zI (bk : Int)), .int (zI (n : Int)), .int (zI (n : Int))] [] (h.1, up h.2 a (aI 4 g)) 0 0 (px none (fun g : Nat → Int => ∀ p, p < R → g p = ((lay R o p : Nat) : Int)) (fun g => (h.1, up h.2 a (aI 4 g)))) := by
        refine up_ind (fun n hn ihn => ?_)
        have hdm := Nat.div_add_mod l bk
        have hmod := Nat.mod_lt l (show 0 < bk by omega)
        have hqb : bk * (l / bk) = l / bk * bk := Nat.mul_comm _ _
        have hnb : n * bk ≤ l / bk * bk := Nat.mul_le_mul_right _ hn
        refine w_iload dX9_fillOrder_35 rfl ?_
        refine w_iload_n dX9_fillOrder_37 rfl rfl ?_
        refine w_icmp_ge 64 dX9_fillOrder_38 (by decide) (by first | assumption | (unfold ok32 at *; omega)) (by first | assumption | (unfold ok32 at *; omega)) (fun hc1 => ?_) (fun hc1 => ?_)
        · omega
        · refine w_iload dX9_fillOrder_41 rfl ?_
          refine w_iload dX9_fillOrder_43 rfl ?_
          refine w_icmp_lt 64 dX9_fillOrder_45 (by decide) (by first | assumption | (unfold ok32 at *; omega)) (by first | assumption | (unfold ok32 at *; omega)) (fun hc2 => ?_) (fun hc2 => ?_)
          · have hne : n = l / bk := by
              by_cases hlt : n < l / bk
              · have h1 : (n + 1) * bk ≤ l / bk * bk := Nat.mul_le_mul_right _ hlt
                rw [Nat.add_mul] at h1
                omega
              · omega
            subst hne
            refine w_aload_n dX9_fillOrder_64 rfl rfl ?_
            refine w_iload dX9_fillOrder_65 rfl ?_
            refine w_iload_n dX9_fillOrder_67 rfl rfl ?_
            refine w_i2l (by first | assumption | (unfold ok32 at *; omega)) dX9_fillOrder_68 ?_
            refine w_iload dX9_fillOrder_69 rfl ?_
            refine wc_S (Z := mX9_memberOf) (As := [_, _]) (c9_memberOf (y := (y : Int)) (by unfold ok32; omega) (Or.inr (Or.inr ⟨y, by omega, t5, by rw [t6], rfl⟩))) kX9_memberOf lX9_215 sX9_memberOf dX9_fillOrder_71 rfl rfl rfl (Nat.le_of_ble_eq_true rfl) ⟨Nat.le_of_ble_eq_true rfl, Nat.le_of_ble_eq_true rfl⟩ ?_
            refine w_iconst dX9_fillOrder_74 ?_
            refine w_mmax lX9_377 sJ9_max_7cf53 kJ9_max_7cf53.2.1 kJ9_max_7cf53.1 (by unfold ok32; omega) (by unfold ok32; omega) rfl (Nat.le_of_ble_eq_true rfl) (Nat.le_of_ble_eq_true rfl) dX9_fillOrder_75 ?_
            rw [if_neg (show ¬ (y : Int) < 0 by omega)]
            refine w_iast p (show (up h.2 a (aI 4 g)) a = some (aI 4 g) from up_s) rfl (by omega) (by decide) dX9_fillOrder_78 ?_
            show wp _ _ _ _ (h.1, up (up h.2 a (aI 4 g)) a _) _ _ _
            rw [up_up]
            refine w_iload_n dX9_fillOrder_79 rfl rfl ?_
            refine w_iconst dX9_fillOrder_80 ?_
            refine w_aload_n dX9_fillOrder_81 rfl rfl ?_
            refine w_iload dX9_fillOrder_82 rfl ?_
            refine w_iald p (show (up h.2 a (aI 4 (u1 g p (y : Int)))) a = some (aI 4 (u1 g p (y : Int))) from up_s) rfl (by omega) (by decide) dX9_fillOrder_84 ?_
            rw [u1_s]
            refine w_ishlR dX9_fillOrder_85 ?_
            refine w_iconst dX9_fillOrder_86 ?_
            refine w_ixorR dX9_fillOrder_87 ?_
            refine w_iandR dX9_fillOrder_88 ?_
            rw [(clr8 (show lf < 256 by omega) (show y < 8 by omega)).1, t7]
            refine w_istore_n (lv' := [_, _, _, _, _, _, _, _, _]) dX9_fillOrder_89 rfl (Nat.le_of_ble_eq_true rfl) rfl rfl ?_
            refine w_iinc (lv' := [_, _, _, _, _, _, _, _, _]) dX9_fillOrder_90 rfl rfl rfl ?_
            refine w_goto 12 dX9_fillOrder_93 (by decide) ?_
            refine w_cast ?_ rfl rfl (ih hpR (u1 g p (y : Int)) (.int (zI (bk : Int))) (.int (zI ((l / bk : Nat) : Int))) (.int (zI ((l / bk : Nat) : Int))) (fun q hq => ?_))
            · rw [t3, show l - l / bk * bk = l % bk by omega]
              rfl
            · by_cases hqp : q = p
              · rw [hqp, u1_s, hy]
              · rw [u1_n hqp]; exact hg q (by omega)
          · have hne : n < l / bk := by
              by_cases hlt : n < l / bk
              · exact hlt
              · exfalso
                have : n = l / bk := by omega
                subst this
                omega
            have h1 : (n + 1) * bk ≤ l / bk * bk := Nat.mul_le_mul_right _ hne
            rw [Nat.add_mul] at h1
            refine w_iload dX9_fillOrder_48 rfl ?_
            refine w_iload dX9_fillOrder_50 rfl ?_
            refine w_isub dX9_fillOrder_52 ?_
            refine w_istore (lv' := [_, _, _, _, _, _, _, _, _]) dX9_fillOrder_53 (Nat.le_of_ble_eq_true rfl) rfl rfl ?_
            refine w_iinc (lv' := [_, _, _, _, _, _, _, _, _]) dX9_fillOrder_55 rfl rfl rfl ?_
            refine w_iinc (lv' := [_, _, _, _, _, _, _, _, _]) dX9_fillOrder_58 rfl rfl rfl ?_
            refine w_goto 35 dX9_fillOrder_61 (by decide) ?_
            refine w_cast ?_ rfl rfl (ihn hne)
            rw [show ((l - n * bk : Nat) : Int) - (bk : Int) = ((l - (n + 1) * bk : Nat) : Int) by rw [Nat.add_mul]; omega]
            rfl
      refine w_cast ?_ rfl rfl (inn 0 (Nat.zero_le _))
      rw [Nat.zero_mul]
      rfl
  have h00 : foL R o 0 = (o, 2 ^ R - 1) := by unfold foL oSt; simp
  refine w_cast ?_ rfl (up_same ha).symm (key 0 (Nat.zero_le _) f jk jk jk (fun q hq => absurd hq (Nat.not_lt_zero _)))
  rw [h00, show ((2 ^ R : Nat) : Int) - 1 = ((2 ^ R - 1 : Nat) : Int) by omega]
  rfl

