def fiP (fi fi1 : Nat → Int) : Prop := ∀ j, j ≠ 25 → j ≠ 26 → fi1 j = fi j
def iaP (ia ia1 : Nat → Nat → Int) : Prop := ∀ j, j ≠ 11 → ia1 j = ia j
set_option maxRecDepth 4000 in
theorem c_pipeNow {r : Nat} {A : Nat → Int} {ia : Nat → Nat → Int} {la : Nat → Nat → BitVec 64} {fi : Nat → Int} {fl : Nat → BitVec 64} {h0 : HP} {L R C : Nat} {o : Nat} {t : Int} (hI : INV A) (hV : VC A L R C) (ho : o < fac R) (ht : 1 ≤ t ∧ t ≤ 9) : sp mX10_pipeNow [.ref r, .int (zI (o : Int)), .int (zI t)] (RH r A ia la fi fl h0) 0 0 (px none (fun q : (Nat → Int) × (Nat → Int) => fiP fi q.2 ∧ q.2 25 = (((swF (shA A) R C o t 3).2.2.1 : Nat) : Int) ∧ q.2 26 = (((swF (shA A) R C o t 3).2.2.2 : Nat) : Int)) (fun q => (RH r A (u1 ia 11 q.1) la q.2 fl h0))) := by
  obtain ⟨v1, v2, v3, v4, v5, v6, v7⟩ := id hV
  have main : ∀ s : Nat, s ≤ 3 → ∀ (q fi1 : Nat → Int) (x5 x6 x7 x8 x9 : Value), (∀ c, c < 8 → q c = (swF (shA A) R C o t s).2.1 c) → fiP fi fi1 → (s = 0 ∨ (fi1 25 = (((swF (shA A) R C o t s).2.2.1 : Nat) : Int) ∧ fi1 26 = (((swF (shA A) R C o t s).2.2.2 : Nat) : Int))) → wp mX10_pipeNow 29 [.ref r, .int (zI (o : Int)), .int (zI t), .int (zI (((swF (shA A) R C o t s).1 : Nat) : Int)), .int (zI (s : Int)), x5, x6, x7, x8, x9] [] (RH r A (u1 ia 11 q) la fi1 fl h0) 0 0 (px none (fun q : (Nat → Int) × (Nat → Int) => fiP fi q.2 ∧ q.2 25 = (((swF (shA A) R C o t 3).2.2.1 : Nat) : Int) ∧ q.2 26 = (((swF (shA A) R C o t 3).2.2.2 : Nat) : Int)) (fun q => (RH r A (u1 ia 11 q.1) la q.2 fl h0))) := by
    refine up_ind (N := 3) (fun s hs ih => ?_)
    intro q fi1 x5 x6 x7 x8 x9 hq hk hf
    obtain ⟨p1, p2⟩ := swF_ok (sh := shA A) (o := o) (t := t) (s := s) v6.2 v5.2
    refine w_iload dX10_pipeNow_29 rfl ?_
    refine w_iconst dX10_pipeNow_31 ?_
    refine w_icmp_ge 153 dX10_pipeNow_32 (by decide) (by first | assumption | (unfold ok32 at *; omega)) (by first | assumption | (unfold ok32 at *; omega)) (fun hn => ?_) (fun hn => ?_)
    · have e : s = 3 := by omega
      subst e
      have hf2 := hf.resolve_left (by omega)
      exact x_vret rfl dX10_pipeNow_153 ⟨rfl, (q, fi1), ⟨hk, hf2.1, hf2.2⟩, rfl⟩
    · refine w_iload_n dX10_pipeNow_35 rfl rfl ?_
      refine w_istore (lv' := [_, _, _, _, _, _, _, _, _, _]) dX10_pipeNow_36 (Nat.le_of_ble_eq_true rfl) rfl rfl ?_
      refine w_aload_n dX10_pipeNow_38 rfl rfl ?_
      refine w_iconst dX10_pipeNow_39 ?_
      refine r_pf26 fX10_337 dX10_pipeNow_40 ?_
      refine w_iconst dX10_pipeNow_43 ?_
      refine w_istore (lv' := [_, _, _, _, _, _, _, _, _, _]) dX10_pipeNow_44 (Nat.le_of_ble_eq_true rfl) rfl rfl ?_
      have rows : ∀ k : Nat, k ≤ R → ∀ (q : Nat → Int) (x7 x8 x9 : Value), (∀ c, c < 8 → q c = (rwF (shA A) R C o t k ((swF (shA A) R C o t s).1, (swF (shA A) R C o t s).2.1, 0)).2.1 c) → wp mX10_pipeNow 46 [.ref r, .int (zI (o : Int)), .int (zI t), .int (zI (((rwF (shA A) R C o t k ((swF (shA A) R C o t s).1, (swF (shA A) R C o t s).2.1, 0)).1 : Nat) : Int)), .int (zI (s : Int)), .int (zI (((swF (shA A) R C o t s).1 : Nat) : Int)), .int (zI (k : Int)), x7, x8, x9] [] (RH r A (u1 ia 11 q) la (u1 fi1 26 (((rwF (shA A) R C o t k ((swF (shA A) R C o t s).1, (swF (shA A) R C o t s).2.1, 0)).2.2 : Nat) : Int)) fl h0) 0 0 (px none (fun q : (Nat → Int) × (Nat → Int) => fiP fi q.2 ∧ q.2 25 = (((swF (shA A) R C o t 3).2.2.1 : Nat) : Int) ∧ q.2 26 = (((swF (shA A) R C o t 3).2.2.2 : Nat) : Int)) (fun q => (RH r A (u1 ia 11 q.1) la q.2 fl h0))) := by
        refine up_ind (N := R) (fun k hk2 ih2 => ?_)
        intro q x7 x8 x9 hq
        obtain ⟨r1, r2, r3⟩ := rwF_ok (sh := shA A) (R := R) (o := o) (t := t) v6.2 (k := k) p1
        refine w_iload dX10_pipeNow_46 rfl ?_
        refine w_aload_n dX10_pipeNow_48 rfl rfl ?_
        refine w_getf fX10_7 dX10_pipeNow_49 RH0 rfl ?_
        refine w_iconst dX10_pipeNow_52 ?_
        refine w_iald 4 RH1 rfl (by decide) (by decide) dX10_pipeNow_53 ?_
        rw [v2]
        refine w_icmp_ge 139 dX10_pipeNow_54 (by decide) (by first | assumption | (unfold ok32 at *; omega)) (by first | assumption | (unfold ok32 at *; omega)) (fun hn2 => ?_) (fun hn2 => ?_)
        · have e : k = R := by omega
          subst e
          refine w_aload_n dX10_pipeNow_139 rfl rfl ?_
          refine w_iload_n dX10_pipeNow_140 rfl rfl ?_
          refine w_iload dX10_pipeNow_141 rfl ?_
          refine w_isub dX10_pipeNow_143 ?_
          refine r_pf25 fX10_346 dX10_pipeNow_144 ?_
          refine w_iinc (lv' := [_, _, _, _, _, _, _, _, _, _]) dX10_pipeNow_147 rfl rfl rfl ?_
          refine w_goto 29 dX10_pipeNow_150 (by decide) ?_
          rw [show ((s : Int) + 1) = ((s + 1 : Nat) : Int) by omega]
          refine ih (by omega) q _ _ _ _ _ _ hq (fun j a b => ?_) (Or.inr ⟨?_, ?_⟩)
          · rw [u1_n a, u1_n b]; exact hk j a b
          · rw [u1_s]
            show _ = (((rwF (shA A) k C o t k ((swF (shA A) k C o t s).1, (swF (shA A) k C o t s).2.1, 0)).1 - (swF (shA A) k C o t s).1 : Nat) : Int)
            have h5 : (swF (shA A) k C o t s).1 ≤ (rwF (shA A) k C o t k ((swF (shA A) k C o t s).1, (swF (shA A) k C o t s).2.1, 0)).1 := r3
            omega
          · rw [u1_n (by omega), u1_s]
            rfl
        · have hly := lay_lt v5 ho (show k < R by omega)
          refine w_aload_n dX10_pipeNow_57 rfl rfl ?_
          refine w_iload_n dX10_pipeNow_58 rfl rfl ?_
          refine w_iload dX10_pipeNow_59 rfl ?_
          refine wc_V (Z := mX10_layerOf) (As := [_, _]) (c_layerOf v2 v5 ho (by omega)) RH0 rfl kX10_layerOf lX10_178 iX10_layerOf vX10_layerOf dX10_pipeNow_61 rfl rfl rfl (Nat.le_of_ble_eq_true rfl) ⟨Nat.le_of_ble_eq_true rfl, Nat.le_of_ble_eq_true rfl⟩ ?_
          refine w_istore (lv' := [_, _, _, _, _, _, _, _, _, _]) dX10_pipeNow_64 (Nat.le_of_ble_eq_true rfl) rfl rfl ?_
          refine w_aload_n dX10_pipeNow_66 rfl rfl ?_
          refine w_iload dX10_pipeNow_67 rfl ?_
          refine wc_V (Z := mX10_columnsOf) (As := [_]) (c_columnsOf hV hI.ok (by omega)) RH0 rfl kX10_columnsOf lX10_340 iX10_columnsOf vX10_columnsOf dX10_pipeNow_69 rfl rfl rfl (Nat.le_of_ble_eq_true rfl) ⟨Nat.le_of_ble_eq_true rfl, Nat.le_of_ble_eq_true rfl⟩ ?_
          refine w_istore (lv' := [_, _, _, _, _, _, _, _, _, _]) dX10_pipeNow_72 (Nat.le_of_ble_eq_true rfl) rfl rfl ?_
          have hlt := clN_lt (sh := shA A) (y := lay R o k) v6.2
          have hsub : ∀ i, i < 8 → (clN (shA A) (lay R o k) C).testBit i = true → i < C := fun i hi h => by
            refine Classical.byContradiction fun z => ?_
            rw [clN_hi hi v6.2 (by omega)] at h
            cases h
          have hpn := pn_le (clN (shA A) (lay R o k) C).testBit 8
          have h400 : (rwF (shA A) R C o t k ((swF (shA A) R C o t s).1, (swF (shA A) R C o t s).2.1, 0)).1 ≤ 2000 := by
            refine Nat.le_trans r2 ?_
            show (swF (shA A) R C o t s).1 + 100 * k ≤ 2000
            omega
          refine c_pipeNow_in hV ht (rwF (shA A) R C o t (k + 1) ((swF (shA A) R C o t s).1, (swF (shA A) R C o t s).2.1, 0)) (fun q9 x9 hq9 => ?_) 100 _ 9 (rwF (shA A) R C o t k ((swF (shA A) R C o t s).1, (swF (shA A) R C o t s).2.1, 0)) q _ hlt hsub (Nat.le_refl _) ?_ (by omega) r1 (by omega) rfl hq
          · refine w_iinc (lv' := [_, _, _, _, _, _, _, _, _, _]) dX10_pipeNow_133 rfl rfl rfl ?_
            refine w_goto 46 dX10_pipeNow_136 (by decide) ?_
            rw [show ((k : Int) + 1) = ((k + 1 : Nat) : Int) by omega]
            exact ih2 (by omega) q9 _ _ _ hq9
          · by_cases h0c : clN (shA A) (lay R o k) C = 0
            · exact Or.inl h0c
            · obtain ⟨i, i1, i2⟩ := mask1 hlt h0c
              have := r1 i i1
              exact Or.inr ⟨i, hsub i i1 i2, i2, by omega⟩
      exact rows 0 (Nat.zero_le _) q _ _ _ hq
  have fill : ∀ c : Nat, c ≤ 8 → ∀ q : Nat → Int, (∀ i, i < c → q i = -1) → wp mX10_pipeNow 5 [.ref r, .int (zI (o : Int)), .int (zI t), .int (zI 0), .int (zI (c : Int)), jk, jk, jk, jk, jk] [] (RH r A (u1 ia 11 q) la fi fl h0) 0 0 (px none (fun q : (Nat → Int) × (Nat → Int) => fiP fi q.2 ∧ q.2 25 = (((swF (shA A) R C o t 3).2.2.1 : Nat) : Int) ∧ q.2 26 = (((swF (shA A) R C o t 3).2.2.2 : Nat) : Int)) (fun q => (RH r A (u1 ia 11 q.1) la q.2 fl h0))) := by
    refine up_ind (N := 8) (fun c hc ih => ?_)
    intro q hq
    refine w_iload dX10_pipeNow_5 rfl ?_
    refine w_bipush dX10_pipeNow_7 (by decide) ?_
    refine w_icmp_ge 26 dX10_pipeNow_9 (by decide) (by first | assumption | (unfold ok32 at *; omega)) (by first | assumption | (unfold ok32 at *; omega)) (fun hn => ?_) (fun hn => ?_)
    · refine w_iconst dX10_pipeNow_26 ?_
      refine w_istore (lv' := [_, _, _, _, _, _, _, _, _, _]) dX10_pipeNow_27 (Nat.le_of_ble_eq_true rfl) rfl rfl ?_
      exact main 0 (Nat.zero_le _) q fi _ _ _ _ _ (fun c hc => hq c (by omega)) (fun _ _ _ => rfl) (Or.inl rfl)
    · refine w_aload_n dX10_pipeNow_12 rfl rfl ?_
      refine w_getf fX10_48 dX10_pipeNow_13 RH0 rfl ?_
      refine w_iload dX10_pipeNow_16 rfl ?_
      refine w_iconst dX10_pipeNow_18 ?_
      refine r_ist11K c rfl (by omega) dX10_pipeNow_19 ?_
      rw [u1_u1, u1_s]
      refine w_iinc (lv' := [_, _, _, _, _, _, _, _, _, _]) dX10_pipeNow_20 rfl rfl rfl ?_
      refine w_goto 5 dX10_pipeNow_23 (by decide) ?_
      refine ih (by omega) _ (fun i hi => ?_)
      by_cases h : i = c
      · subst h; rw [u1_s]
      · rw [u1_n h]; exact hq i (by omega)
  refine sp_wp rfl (lv := [_, _, _, _, _, _, _, _, _, _]) rfl (Nat.le_of_ble_eq_true rfl) ?_
  refine w_iconst dX10_pipeNow_0 ?_
  refine w_istore_n (lv' := [_, _, _, _, _, _, _, _, _, _]) dX10_pipeNow_1 rfl (Nat.le_of_ble_eq_true rfl) rfl rfl ?_
  refine w_iconst dX10_pipeNow_2 ?_
  refine w_istore (lv' := [_, _, _, _, _, _, _, _, _, _]) dX10_pipeNow_3 (Nat.le_of_ble_eq_true rfl) rfl rfl ?_
  have h6 := fill 0 (Nat.zero_le _) (ia 11) (fun i hi => absurd hi (by omega))
  rw [u1_id] at h6
  exact h6
set_option maxRecDepth 4000 in
theorem c_pipe {r : Nat} {A : Nat → Int} {ia : Nat → Nat → Int} {la : Nat → Nat → BitVec 64} {fi : Nat → Int} {fl : Nat → BitVec 64} {h0 : HP} {L R C : Nat} {z x y : Int} (hT : TOP A L R C) (hz : ok32 z) (hx : ok32 x) (hy : ok32 y) : sp mX10_pipe [.ref r, .int (zI z), .int (zI x), .int (zI y)] (RH r A ia la fi fl h0) 0 0 (pr (some (.int (zI (if (0 ≤ z ∧ z ≤ (fac R : Int) - 1) ∧ (1 ≤ x ∧ x ≤ 9) ∧ 0 ≤ y ∧ y ≤ 1 then (if y = 0 then (((swF (shA A) R C z.toNat x 3).2.2.1 : Nat) : Int) else (((swF (shA A) R C z.toNat x 3).2.2.2 : Nat) : Int)) else -1)))) r A ia fi h0) := by
  obtain ⟨hI, hV, hS, h2⟩ := id hT
  obtain ⟨v1, v2, v3, v4, v5, v6, v7⟩ := id hV
  have h1 : 0 ≤ A 1 ∧ A 1 ≤ 20 := hI 1
  have h20 : 0 ≤ A 2 ∧ A 2 ≤ 20 := hI 2
  have hLCn := mulLe (a := L) (b := C) (x := 6) (y := 8) (by omega) (by omega)
  have hLRn := mulLe (a := L) (b := R) (x := 6) (y := 4) (by omega) (by omega)
  have hLC : (L : Int) * C ≤ 48 := by exact_mod_cast hLCn
  have hLC0 : (0 : Int) ≤ (L : Int) * C := by exact_mod_cast Nat.zero_le (L * C)
  have hLR : (L : Int) * R ≤ 24 := by exact_mod_cast hLRn
  have hLR0 : (0 : Int) ≤ (L : Int) * R := by exact_mod_cast Nat.zero_le (L * R)
  have hfac := fac_le v5.2
  refine sp_wp rfl (lv := [_, _, _, _]) rfl (Nat.le_of_ble_eq_true rfl) ?_
  refine w_iload_n dX10_pipe_0 rfl rfl ?_
  refine w_iconst dX10_pipe_1 ?_
  refine w_aload_n dX10_pipe_2 rfl rfl ?_
  refine wc_V (Z := mX10_orders) (As := []) (c_orders v2 v5) RH0 rfl kX10_orders lX10_153 iX10_orders vX10_orders dX10_pipe_3 rfl rfl rfl (Nat.le_of_ble_eq_true rfl) ⟨Nat.le_of_ble_eq_true rfl, Nat.le_of_ble_eq_true rfl⟩ ?_
  refine w_iconst dX10_pipe_6 ?_
  refine w_isub dX10_pipe_7 ?_
  refine wc_S (Z := mX10_isIn) (As := [_, _, _]) (c_isIn hz (by first | assumption | (unfold ok32 at *; omega)) (by first | assumption | (unfold ok32 at *; omega))) kX10_isIn lX10_70 sX10_isIn dX10_pipe_8 rfl rfl rfl (Nat.le_of_ble_eq_true rfl) ⟨Nat.le_of_ble_eq_true rfl, Nat.le_of_ble_eq_true rfl⟩ ?_
  refine w_ifb_eq 33 dX10_pipe_11 (by decide) (fun c1 => ?_) (fun c1 => ?_)
  · refine w_iconst dX10_pipe_33 ?_
    refine x_iret rfl rfl dX10_pipe_34 (pr_end ?_ rfl rfl rfl rfl rfl rfl rfl)
    rw [if_neg (fun q => c1 q.1)]
  · refine w_iload_n dX10_pipe_14 rfl rfl ?_
    refine w_iconst dX10_pipe_15 ?_
    refine w_bipush dX10_pipe_16 (by decide) ?_
    refine wc_S (Z := mX10_isIn) (As := [_, _, _]) (c_isIn hx (by first | assumption | (unfold ok32 at *; omega)) (by first | assumption | (unfold ok32 at *; omega))) kX10_isIn lX10_70 sX10_isIn dX10_pipe_18 rfl rfl rfl (Nat.le_of_ble_eq_true rfl) ⟨Nat.le_of_ble_eq_true rfl, Nat.le_of_ble_eq_true rfl⟩ ?_
    refine w_ifb_eq 33 dX10_pipe_21 (by decide) (fun c2 => ?_) (fun c2 => ?_)
    · refine w_iconst dX10_pipe_33 ?_
      refine x_iret rfl rfl dX10_pipe_34 (pr_end ?_ rfl rfl rfl rfl rfl rfl rfl)
      rw [if_neg (fun q => c2 q.2.1)]
    · refine w_iload_n dX10_pipe_24 rfl rfl ?_
      refine w_iconst dX10_pipe_25 ?_
      refine w_iconst dX10_pipe_26 ?_
      refine wc_S (Z := mX10_isIn) (As := [_, _, _]) (c_isIn hy (by first | assumption | (unfold ok32 at *; omega)) (by first | assumption | (unfold ok32 at *; omega))) kX10_isIn lX10_70 sX10_isIn dX10_pipe_27 rfl rfl rfl (Nat.le_of_ble_eq_true rfl) ⟨Nat.le_of_ble_eq_true rfl, Nat.le_of_ble_eq_true rfl⟩ ?_
      refine w_ifb_ne 35 dX10_pipe_30 (by decide) (fun c3 => ?_) (fun c3 => ?_)
      rotate_left
      · refine w_iconst dX10_pipe_33 ?_
        refine x_iret rfl rfl dX10_pipe_34 (pr_end ?_ rfl rfl rfl rfl rfl rfl rfl)
        rw [if_neg (fun q => c3 q.2.2)]
      · rw [if_pos ⟨c1, c2, c3⟩]
        obtain ⟨o, ho⟩ : ∃ o : Nat, z = (o : Int) := ⟨z.toNat, by omega⟩
        subst ho
        rw [Int.toNat_natCast]
        refine w_aload_n dX10_pipe_35 rfl rfl ?_
        refine w_iload_n dX10_pipe_36 rfl rfl ?_
        refine w_iload_n dX10_pipe_37 rfl rfl ?_
        refine wx_Vv (Z := mX10_pipeNow) (As := [_, _]) (c_pipeNow hI hV (by omega) c2) RH0 rfl kX10_pipeNow lX10_349 iX10_pipeNow vX10_pipeNow dX10_pipe_38 rfl rfl rfl (Nat.le_of_ble_eq_true rfl) ⟨Nat.le_of_ble_eq_true rfl, Nat.le_of_ble_eq_true rfl⟩ (fun q hq => ?_)
        refine w_iload_n dX10_pipe_41 rfl rfl ?_
        refine w_if_ne 52 dX10_pipe_42 (by decide) (by first | assumption | (unfold ok32 at *; omega)) (fun c4 => ?_) (fun c4 => ?_)
        · refine w_aload_n dX10_pipe_52 rfl rfl ?_
          refine w_getf fX10_337 dX10_pipe_53 RH0 rfl ?_
          refine x_iret rfl rfl dX10_pipe_56 (pr_end ?_ rfl rfl rfl rfl (hq.1 4 (by omega) (by omega)) (hq.1 5 (by omega) (by omega)) (hq.1 6 (by omega) (by omega)))
          rw [if_neg c4, ← hq.2.2]
        · refine w_aload_n dX10_pipe_45 rfl rfl ?_
          refine w_getf fX10_346 dX10_pipe_46 RH0 rfl ?_
          refine w_goto 56 dX10_pipe_49 (by decide) ?_
          refine x_iret rfl rfl dX10_pipe_56 (pr_end ?_ rfl rfl rfl rfl (hq.1 4 (by omega) (by omega)) (hq.1 5 (by omega) (by omega)) (hq.1 6 (by omega) (by omega)))
          rw [if_pos c4, ← hq.2.1]
/-- of numbers the first that is least -/
def qtN (g : Nat → Nat) : Nat → Int × Int
  | 0 => (-1, 0)
  | o + 1 => if ¬ (qtN g o).1 = -1 ∧ (qtN g o).2 ≤ (g o : Int) then qtN g o else ((o : Int), (g o : Int))
theorem qtN_rng {g : Nat → Nat} {B : Nat} (hg : ∀ o, g o ≤ B) : ∀ {n : Nat}, (-1 ≤ (qtN g n).1 ∧ (qtN g n).1 < n) ∧ 0 ≤ (qtN g n).2 ∧ (qtN g n).2 ≤ B
  | 0 => by unfold qtN; omega
  | n + 1 => by
    have ih := qtN_rng hg (n := n)
    have := hg n
    unfold qtN
    split
    · omega
    · show (-1 ≤ (n : Int) ∧ (n : Int) < ((n + 1 : Nat) : Int)) ∧ 0 ≤ (g n : Int) ∧ (g n : Int) ≤ (B : Int)
      omega
theorem sl_rng {sh : Nat → Int} {R C o : Nat} {t : Int} (hC : C ≤ 8) (hR : R ≤ 4) : (swF sh R C o t 3).2.2.1 ≤ 1200 := by
  have h1 := (swF_ok (sh := sh) (o := o) (t := t) hC hR (s := 3)).2
  have h2 : (swF sh R C o t 3).2.2.1 ≤ (swF sh R C o t 3).1 := Nat.sub_le _ _
  omega
set_option maxRecDepth 4000 in
theorem c_quietest {r : Nat} {A : Nat → Int} {ia : Nat → Nat → Int} {la : Nat → Nat → BitVec 64} {fi : Nat → Int} {fl : Nat → BitVec 64} {h0 : HP} {L R C : Nat} {z : Int} (hT : TOP A L R C) (hz : ok32 z) : sp mX10_quietest [.ref r, .int (zI z)] (RH r A ia la fi fl h0) 0 0 (pr (some (.int (zI (if 1 ≤ z ∧ z ≤ 9 then (qtN (fun o => (swF (shA A) R C o z 3).2.2.1) (fac R)).1 else -1)))) r A ia fi h0) := by
  obtain ⟨hI, hV, hS, h2⟩ := id hT
  obtain ⟨v1, v2, v3, v4, v5, v6, v7⟩ := id hV
  have h1 : 0 ≤ A 1 ∧ A 1 ≤ 20 := hI 1
  have h20 : 0 ≤ A 2 ∧ A 2 ≤ 20 := hI 2
  have hLCn := mulLe (a := L) (b := C) (x := 6) (y := 8) (by omega) (by omega)
  have hLRn := mulLe (a := L) (b := R) (x := 6) (y := 4) (by omega) (by omega)
  have hLC : (L : Int) * C ≤ 48 := by exact_mod_cast hLCn
  have hLC0 : (0 : Int) ≤ (L : Int) * C := by exact_mod_cast Nat.zero_le (L * C)
  have hLR : (L : Int) * R ≤ 24 := by exact_mod_cast hLRn
  have hLR0 : (0 : Int) ≤ (L : Int) * R := by exact_mod_cast Nat.zero_le (L * R)
  have hfac := fac_le v5.2
  refine sp_wp rfl (lv := [_, _, _, _, _]) rfl (Nat.le_of_ble_eq_true rfl) ?_
  refine w_iload_n dX10_quietest_0 rfl rfl ?_
  refine w_iconst dX10_quietest_1 ?_
  refine w_bipush dX10_quietest_2 (by decide) ?_
  refine wc_S (Z := mX10_isIn) (As := [_, _, _]) (c_isIn hz (by first | assumption | (unfold ok32 at *; omega)) (by first | assumption | (unfold ok32 at *; omega))) kX10_isIn lX10_70 sX10_isIn dX10_quietest_4 rfl rfl rfl (Nat.le_of_ble_eq_true rfl) ⟨Nat.le_of_ble_eq_true rfl, Nat.le_of_ble_eq_true rfl⟩ ?_
  refine w_ifb_ne 12 dX10_quietest_7 (by decide) (fun c1 => ?_) (fun c1 => ?_)
  rotate_left
  · refine w_iconst dX10_quietest_10 ?_
    refine x_iret rfl rfl dX10_quietest_11 (pr_end ?_ rfl rfl rfl rfl rfl rfl rfl)
    rw [if_neg c1]
  · rw [if_pos c1]
    have hB : ∀ o, (fun o => (swF (shA A) R C o z 3).2.2.1) o ≤ 1200 := fun o => sl_rng v6.2 v5.2
    have key : ∀ o : Nat, o ≤ fac R → ∀ (ia1 : Nat → Nat → Int) (fi1 : Nat → Int), iaP ia ia1 → fiP fi fi1 → wp mX10_quietest 19 [.ref r, .int (zI z), .int (zI (qtN (fun o => (swF (shA A) R C o z 3).2.2.1) o).1), .int (zI (qtN (fun o => (swF (shA A) R C o z 3).2.2.1) o).2), .int (zI (o : Int))] [] (RH r A ia1 la fi1 fl h0) 0 0 (pr (some (.int (zI ((qtN (fun o => (swF (shA A) R C o z 3).2.2.1) (fac R)).1)))) r A ia fi h0) := by
      refine up_ind (N := fac R) (fun o ho ih => ?_)
      intro ia1 fi1 ki kf
      have rg := qtN_rng hB (n := o)
      refine w_iload dX10_quietest_19 rfl ?_
      refine w_aload_n dX10_quietest_21 rfl rfl ?_
      refine wc_V (Z := mX10_orders) (As := []) (c_orders v2 v5) RH0 rfl kX10_orders lX10_153 iX10_orders vX10_orders dX10_quietest_22 rfl rfl rfl (Nat.le_of_ble_eq_true rfl) ⟨Nat.le_of_ble_eq_true rfl, Nat.le_of_ble_eq_true rfl⟩ ?_
      refine w_icmp_ge 65 dX10_quietest_25 (by decide) (by first | assumption | (unfold ok32 at *; omega)) (by first | assumption | (unfold ok32 at *; omega)) (fun hn => ?_) (fun hn => ?_)
      · refine w_iload_n dX10_quietest_65 rfl rfl ?_
        refine x_iret rfl rfl dX10_quietest_66 (pr_end ?_ rfl (ki 2 (by omega)) (ki 3 (by omega)) (ki 4 (by omega)) (kf 4 (by omega) (by omega)) (kf 5 (by omega) (by omega)) (kf 6 (by omega) (by omega)))
        rw [show o = fac R by omega]
      · have hBo := hB o
        refine w_aload_n dX10_quietest_28 rfl rfl ?_
        refine w_iload dX10_quietest_29 rfl ?_
        refine w_iload_n dX10_quietest_31 rfl rfl ?_
        refine wx_Vv (Z := mX10_pipeNow) (As := [_, _]) (c_pipeNow hI hV (by omega) c1) RH0 rfl kX10_pipeNow lX10_349 iX10_pipeNow vX10_pipeNow dX10_quietest_32 rfl rfl rfl (Nat.le_of_ble_eq_true rfl) ⟨Nat.le_of_ble_eq_true rfl, Nat.le_of_ble_eq_true rfl⟩ (fun q hq => ?_)
        have ki2 : iaP ia (u1 ia1 11 q.1) := fun j hj => by rw [u1_n hj]; exact ki j hj
        have kf2 : fiP fi q.2 := fun j a b => (hq.1 j a b).trans (kf j a b)
        have h5 := ih (by omega) _ _ ki2 kf2
        rw [qtN] at h5
        have take : ¬ (¬ (qtN (fun o => (swF (shA A) R C o z 3).2.2.1) o).1 = -1 ∧ (qtN (fun o => (swF (shA A) R C o z 3).2.2.1) o).2 ≤ (((swF (shA A) R C o z 3).2.2.1 : Nat) : Int)) → wp mX10_quietest 51 [.ref r, .int (zI z), .int (zI (qtN (fun o => (swF (shA A) R C o z 3).2.2.1) o).1), .int (zI (qtN (fun o => (swF (shA A) R C o z 3).2.2.1) o).2), .int (zI (o : Int))] [] (RH r A (u1 ia1 11 q.1) la q.2 fl h0) 0 0 (pr (some (.int (zI ((qtN (fun o => (swF (shA A) R C o z 3).2.2.1) (fac R)).1)))) r A ia fi h0) := by
          intro he
          rw [if_neg he] at h5
          refine w_iload dX10_quietest_51 rfl ?_
          refine w_istore_n (lv' := [_, _, _, _, _]) dX10_quietest_53 rfl (Nat.le_of_ble_eq_true rfl) rfl rfl ?_
          refine w_aload_n dX10_quietest_54 rfl rfl ?_
          refine w_getf fX10_346 dX10_quietest_55 RH0 rfl ?_
          rw [hq.2.1]
          refine w_istore_n (lv' := [_, _, _, _, _]) dX10_quietest_58 rfl (Nat.le_of_ble_eq_true rfl) rfl rfl ?_
          refine w_iinc (lv' := [_, _, _, _, _]) dX10_quietest_59 rfl rfl rfl ?_
          refine w_goto 19 dX10_quietest_62 (by decide) ?_
          exact h5
        refine w_iload_n dX10_quietest_35 rfl rfl ?_
        refine w_iconst dX10_quietest_36 ?_
        refine w_icmp_eq 51 dX10_quietest_37 (by decide) (by first | assumption | (unfold ok32 at *; omega)) (by first | assumption | (unfold ok32 at *; omega)) (fun c5 => ?_) (fun c5 => ?_)
        · exact take (fun q => q.1 c5)
        · refine w_aload_n dX10_quietest_40 rfl rfl ?_
          refine w_getf fX10_346 dX10_quietest_41 RH0 rfl ?_
          rw [hq.2.1]
          have hBo2 : (swF (shA A) R C o z 3).2.2.1 ≤ 1200 := hBo
          refine w_iload_n dX10_quietest_44 rfl rfl ?_
          refine w_icmp_lt 51 dX10_quietest_45 (by decide) (by first | assumption | (unfold ok32 at *; omega)) (by first | assumption | (unfold ok32 at *; omega)) (fun c6 => ?_) (fun c6 => ?_)
          · exact take (fun q => by omega)
          · rw [if_pos ⟨c5, by show _ ≤ (((swF (shA A) R C o z 3).2.2.1 : Nat) : Int); omega⟩] at h5
            refine w_goto 59 dX10_quietest_48 (by decide) ?_
            refine w_iinc (lv' := [_, _, _, _, _]) dX10_quietest_59 rfl rfl rfl ?_
            refine w_goto 19 dX10_quietest_62 (by decide) ?_
            exact h5
    refine w_iconst dX10_quietest_12 ?_
    refine w_istore_n (lv' := [_, _, _, _, _]) dX10_quietest_13 rfl (Nat.le_of_ble_eq_true rfl) rfl rfl ?_
    refine w_iconst dX10_quietest_14 ?_
    refine w_istore_n (lv' := [_, _, _, _, _]) dX10_quietest_15 rfl (Nat.le_of_ble_eq_true rfl) rfl rfl ?_
    refine w_iconst dX10_quietest_16 ?_
    refine w_istore (lv' := [_, _, _, _, _]) dX10_quietest_17 (Nat.le_of_ble_eq_true rfl) rfl rfl ?_
    exact key 0 (Nat.zero_le _) ia fi (fun _ _ => rfl) (fun _ _ _ => rfl)
/-! clashes -/
theorem and_zI (u v : Nat) : zI (u : Int) &&& zI (v : Int) = zI ((u &&& v : Nat) : Int) := by
  apply Int32.toBitVec.inj
  show BitVec.ofInt 32 (u : Int) &&& BitVec.ofInt 32 (v : Int) = BitVec.ofInt 32 ((u &&& v : Nat) : Int)
  rw [BitVec.ofInt_natCast, BitVec.ofInt_natCast, BitVec.ofInt_natCast, BitVec.ofNat_and]
def clhN (sh : Nat → Int) (R C o : Nat) : Nat → Nat
  | 0 => 0
  | k + 1 => clhN sh R C o k + pop (BitVec.ofInt 64 ((clN sh (lay R o k) C &&& clN sh (lay R o ((k + 1) % R)) C : Nat) : Int))
def clhV (sh : Nat → Int) (R C o : Nat) : Nat := if 1 < R then clhN sh R C o R else 0
theorem clhN_le {sh : Nat → Int} {R C o : Nat} : ∀ {k : Nat}, clhN sh R C o k ≤ 64 * k
  | 0 => Nat.le_refl _
  | k + 1 => by
    have := clhN_le (sh := sh) (R := R) (C := C) (o := o) (k := k)
    have h2 := pop_le (BitVec.ofInt 64 ((clN sh (lay R o k) C &&& clN sh (lay R o ((k + 1) % R)) C : Nat) : Int))
    unfold clhN
    omega
set_option maxRecDepth 4000 in
theorem c_clashesOf {r : Nat} {A : Nat → Int} {ia : Nat → Nat → Int} {la : Nat → Nat → BitVec 64} {fi : Nat → Int} {fl : Nat → BitVec 64} {h0 : HP} {L R C : Nat} {o : Nat} (hI : INV A) (hV : VC A L R C) (ho : o < fac R) : sp mX10_clashesOf [.ref r, .int (zI (o : Int))] (RH r A ia la fi fl h0) 0 0 (pd (some (.int (zI ((clhV (shA A) R C o : Nat) : Int)))) (RH r A ia la fi fl h0)) := by
  obtain ⟨v1, v2, v3, v4, v5, v6, v7⟩ := id hV
  refine sp_wp rfl (lv := [_, _, _, _]) rfl (Nat.le_of_ble_eq_true rfl) ?_
  refine w_iconst dX10_clashesOf_0 ?_
  refine w_istore_n (lv' := [_, _, _, _]) dX10_clashesOf_1 rfl (Nat.le_of_ble_eq_true rfl) rfl rfl ?_
  refine w_iconst dX10_clashesOf_2 ?_
  refine w_istore_n (lv' := [_, _, _, _]) dX10_clashesOf_3 rfl (Nat.le_of_ble_eq_true rfl) rfl rfl ?_
  by_cases hR1 : 1 < R
  · unfold clhV
    rw [if_pos hR1]
    refine up_ind (N := R) (P := fun k => wp mX10_clashesOf 4 [.ref r, .int (zI (o : Int)), .int (zI ((clhN (shA A) R C o k : Nat) : Int)), .int (zI (k : Int))] [] (RH r A ia la fi fl h0) 0 0 (pd (some (.int (zI ((clhN (shA A) R C o R : Nat) : Int)))) (RH r A ia la fi fl h0))) (fun k hk ih => ?_) 0 (Nat.zero_le _)
    refine w_iload_n dX10_clashesOf_4 rfl rfl ?_
    refine w_aload_n dX10_clashesOf_5 rfl rfl ?_
    refine w_getf fX10_7 dX10_clashesOf_6 RH0 rfl ?_
    refine w_iconst dX10_clashesOf_9 ?_
    refine w_iald 4 RH1 rfl (by decide) (by decide) dX10_clashesOf_10 ?_
    rw [v2]
    refine w_icmp_ge 67 dX10_clashesOf_11 (by decide) (by first | assumption | (unfold ok32 at *; omega)) (by first | assumption | (unfold ok32 at *; omega)) (fun hn => ?_) (fun hn => ?_)
    · refine w_iload_n dX10_clashesOf_67 rfl rfl ?_
      refine x_iret rfl rfl dX10_clashesOf_68 ⟨?_, rfl⟩
      rw [show k = R by omega]
    · refine w_aload_n dX10_clashesOf_14 rfl rfl ?_
      refine w_getf fX10_7 dX10_clashesOf_15 RH0 rfl ?_
      refine w_iconst dX10_clashesOf_18 ?_
      refine w_iald 4 RH1 rfl (by decide) (by decide) dX10_clashesOf_19 ?_
      rw [v2]
      refine w_iconst dX10_clashesOf_20 ?_
      refine w_icmp_le 67 dX10_clashesOf_21 (by decide) (by first | assumption | (unfold ok32 at *; omega)) (by first | assumption | (unfold ok32 at *; omega)) (fun hn2 => ?_) (fun hn2 => ?_)
      · omega
      · have hm : (k + 1) % R < R := Nat.mod_lt _ (by omega)
        have l1 := lay_lt v5 ho (show k < R by omega)
        have l2 := lay_lt v5 ho hm
        have c1 := clN_lt (sh := shA A) (y := lay R o k) v6.2
        have hcl : (clN (shA A) (lay R o k) C &&& clN (shA A) (lay R o ((k + 1) % R)) C) < 256 := Nat.lt_of_le_of_lt Nat.and_le_left c1
        refine w_iload_n dX10_clashesOf_24 rfl rfl ?_
        refine w_aload_n dX10_clashesOf_25 rfl rfl ?_
        refine w_aload_n dX10_clashesOf_26 rfl rfl ?_
        refine w_iload_n dX10_clashesOf_27 rfl rfl ?_
        refine w_iload_n dX10_clashesOf_28 rfl rfl ?_
        refine wc_V (Z := mX10_layerOf) (As := [_, _]) (c_layerOf v2 v5 ho (by omega)) RH0 rfl kX10_layerOf lX10_178 iX10_layerOf vX10_layerOf dX10_clashesOf_29 rfl rfl rfl (Nat.le_of_ble_eq_true rfl) ⟨Nat.le_of_ble_eq_true rfl, Nat.le_of_ble_eq_true rfl⟩ ?_
        refine wc_V (Z := mX10_columnsOf) (As := [_]) (c_columnsOf hV hI.ok (by omega)) RH0 rfl kX10_columnsOf lX10_340 iX10_columnsOf vX10_columnsOf dX10_clashesOf_32 rfl rfl rfl (Nat.le_of_ble_eq_true rfl) ⟨Nat.le_of_ble_eq_true rfl, Nat.le_of_ble_eq_true rfl⟩ ?_
        refine w_aload_n dX10_clashesOf_35 rfl rfl ?_
        refine w_aload_n dX10_clashesOf_36 rfl rfl ?_
        refine w_iload_n dX10_clashesOf_37 rfl rfl ?_
        refine w_iload_n dX10_clashesOf_38 rfl rfl ?_
        refine w_iconst dX10_clashesOf_39 ?_
        refine w_iadd dX10_clashesOf_40 ?_
        refine w_aload_n dX10_clashesOf_41 rfl rfl ?_
        refine w_getf fX10_7 dX10_clashesOf_42 RH0 rfl ?_
        refine w_iconst dX10_clashesOf_45 ?_
        refine w_iald 4 RH1 rfl (by decide) (by decide) dX10_clashesOf_46 ?_
        rw [v2]
        refine w_irem dX10_clashesOf_47 (by first | assumption | (unfold ok32 at *; omega)) (by omega) (by omega) (by first | assumption | (unfold ok32 at *; omega)) ?_
        rw [show ((k : Int) + 1) % (R : Int) = (((k + 1) % R : Nat) : Int) by push_cast; rfl]
        refine wc_V (Z := mX10_layerOf) (As := [_, _]) (c_layerOf v2 v5 ho hm) RH0 rfl kX10_layerOf lX10_178 iX10_layerOf vX10_layerOf dX10_clashesOf_48 rfl rfl rfl (Nat.le_of_ble_eq_true rfl) ⟨Nat.le_of_ble_eq_true rfl, Nat.le_of_ble_eq_true rfl⟩ ?_
        refine wc_V (Z := mX10_columnsOf) (As := [_]) (c_columnsOf hV hI.ok (by omega)) RH0 rfl kX10_columnsOf lX10_340 iX10_columnsOf vX10_columnsOf dX10_clashesOf_51 rfl rfl rfl (Nat.le_of_ble_eq_true rfl) ⟨Nat.le_of_ble_eq_true rfl, Nat.le_of_ble_eq_true rfl⟩ ?_
        refine w_iandR dX10_clashesOf_54 ?_
        rw [and_zI]
        refine w_i2l (by first | assumption | (unfold ok32 at *; omega)) dX10_clashesOf_55 ?_
        refine wc_S (Z := mX10_many) (As := [_]) c_many kX10_many lX10_87 sX10_many dX10_clashesOf_56 rfl rfl rfl (Nat.le_of_ble_eq_true rfl) ⟨Nat.le_of_ble_eq_true rfl, Nat.le_of_ble_eq_true rfl⟩ ?_
        refine w_iadd dX10_clashesOf_59 ?_
        refine w_istore_n (lv' := [_, _, _, _]) dX10_clashesOf_60 rfl (Nat.le_of_ble_eq_true rfl) rfl rfl ?_
        refine w_iinc (lv' := [_, _, _, _]) dX10_clashesOf_61 rfl rfl rfl ?_
        refine w_goto 4 dX10_clashesOf_64 (by decide) ?_
        have h5 := ih (by omega)
        rw [clhN] at h5
        exact h5
  · unfold clhV
    rw [if_neg hR1]
    refine w_iload_n dX10_clashesOf_4 rfl rfl ?_
    refine w_aload_n dX10_clashesOf_5 rfl rfl ?_
    refine w_getf fX10_7 dX10_clashesOf_6 RH0 rfl ?_
    refine w_iconst dX10_clashesOf_9 ?_
    refine w_iald 4 RH1 rfl (by decide) (by decide) dX10_clashesOf_10 ?_
    rw [v2]
    refine w_icmp_ge 67 dX10_clashesOf_11 (by decide) (by first | assumption | (unfold ok32 at *; omega)) (by first | assumption | (unfold ok32 at *; omega)) (fun hn => ?_) (fun hn => ?_)
    · omega
    · refine w_aload_n dX10_clashesOf_14 rfl rfl ?_
      refine w_getf fX10_7 dX10_clashesOf_15 RH0 rfl ?_
      refine w_iconst dX10_clashesOf_18 ?_
      refine w_iald 4 RH1 rfl (by decide) (by decide) dX10_clashesOf_19 ?_
      rw [v2]
      refine w_iconst dX10_clashesOf_20 ?_
      refine w_icmp_le 67 dX10_clashesOf_21 (by decide) (by first | assumption | (unfold ok32 at *; omega)) (by first | assumption | (unfold ok32 at *; omega)) (fun hn2 => ?_) (fun hn2 => ?_)
      · refine w_iload_n dX10_clashesOf_67 rfl rfl ?_
        exact x_iret rfl rfl dX10_clashesOf_68 ⟨rfl, rfl⟩
      · omega
theorem clhV_le {sh : Nat → Int} {R C o : Nat} (hR : R ≤ 4) : clhV sh R C o ≤ 256 := by
  unfold clhV
  split
  · have := clhN_le (sh := sh) (R := R) (C := C) (o := o) (k := R)
    omega
  · omega
set_option maxRecDepth 4000 in
theorem c_clashes {r : Nat} {A : Nat → Int} {ia : Nat → Nat → Int} {la : Nat → Nat → BitVec 64} {fi : Nat → Int} {fl : Nat → BitVec 64} {h0 : HP} {L R C : Nat} {z : Int} (hT : TOP A L R C) (hz : ok32 z) : sp mX10_clashes [.ref r, .int (zI z)] (RH r A ia la fi fl h0) 0 0 (pr (some (.int (zI (if 0 ≤ z ∧ z ≤ (fac R : Int) - 1 then ((clhV (shA A) R C z.toNat : Nat) : Int) else -1)))) r A ia fi h0) := by
  obtain ⟨hI, hV, hS, h2⟩ := id hT
  obtain ⟨v1, v2, v3, v4, v5, v6, v7⟩ := id hV
  have h1 : 0 ≤ A 1 ∧ A 1 ≤ 20 := hI 1
  have h20 : 0 ≤ A 2 ∧ A 2 ≤ 20 := hI 2
  have hLCn := mulLe (a := L) (b := C) (x := 6) (y := 8) (by omega) (by omega)
  have hLRn := mulLe (a := L) (b := R) (x := 6) (y := 4) (by omega) (by omega)
  have hLC : (L : Int) * C ≤ 48 := by exact_mod_cast hLCn
  have hLC0 : (0 : Int) ≤ (L : Int) * C := by exact_mod_cast Nat.zero_le (L * C)
  have hLR : (L : Int) * R ≤ 24 := by exact_mod_cast hLRn
  have hLR0 : (0 : Int) ≤ (L : Int) * R := by exact_mod_cast Nat.zero_le (L * R)
  have hfac := fac_le v5.2
  refine sp_wp rfl (lv := [_, _]) rfl (Nat.le_of_ble_eq_true rfl) ?_
  refine w_iload_n dX10_clashes_0 rfl rfl ?_
  refine w_iconst dX10_clashes_1 ?_
  refine w_aload_n dX10_clashes_2 rfl rfl ?_
  refine wc_V (Z := mX10_orders) (As := []) (c_orders v2 v5) RH0 rfl kX10_orders lX10_153 iX10_orders vX10_orders dX10_clashes_3 rfl rfl rfl (Nat.le_of_ble_eq_true rfl) ⟨Nat.le_of_ble_eq_true rfl, Nat.le_of_ble_eq_true rfl⟩ ?_
  refine w_iconst dX10_clashes_6 ?_
  refine w_isub dX10_clashes_7 ?_
  refine wc_S (Z := mX10_isIn) (As := [_, _, _]) (c_isIn hz (by first | assumption | (unfold ok32 at *; omega)) (by first | assumption | (unfold ok32 at *; omega))) kX10_isIn lX10_70 sX10_isIn dX10_clashes_8 rfl rfl rfl (Nat.le_of_ble_eq_true rfl) ⟨Nat.le_of_ble_eq_true rfl, Nat.le_of_ble_eq_true rfl⟩ ?_
  refine w_ifb_eq 22 dX10_clashes_11 (by decide) (fun c1 => ?_) (fun c1 => ?_)
  · refine w_iconst dX10_clashes_22 ?_
    refine x_iret rfl rfl dX10_clashes_23 (pr_end ?_ rfl rfl rfl rfl rfl rfl rfl)
    rw [if_neg c1]
  · rw [if_pos c1]
    obtain ⟨o, ho⟩ : ∃ o : Nat, z = (o : Int) := ⟨z.toNat, by omega⟩
    subst ho
    rw [Int.toNat_natCast]
    refine w_aload_n dX10_clashes_14 rfl rfl ?_
    refine w_iload_n dX10_clashes_15 rfl rfl ?_
    refine wc_V (Z := mX10_clashesOf) (As := [_]) (c_clashesOf hI hV (by omega)) RH0 rfl kX10_clashesOf lX10_352 iX10_clashesOf vX10_clashesOf dX10_clashes_16 rfl rfl rfl (Nat.le_of_ble_eq_true rfl) ⟨Nat.le_of_ble_eq_true rfl, Nat.le_of_ble_eq_true rfl⟩ ?_
    refine w_goto 23 dX10_clashes_19 (by decide) ?_
    exact x_iret rfl rfl dX10_clashes_23 (pr_end rfl rfl rfl rfl rfl rfl rfl rfl)
def cmN (g : Nat → Nat) : Nat → Nat
  | 0 => 0
  | j + 1 => if g (j + 1) < g (cmN g j) then j + 1 else cmN g j
theorem cmN_le {g : Nat → Nat} : ∀ {j : Nat}, cmN g j ≤ j
  | 0 => Nat.le_refl _
  | j + 1 => by
    have := cmN_le (g := g) (j := j)
    unfold cmN
    split <;> omega
set_option maxRecDepth 4000 in
theorem c_calmest {r : Nat} {A : Nat → Int} {ia : Nat → Nat → Int} {la : Nat → Nat → BitVec 64} {fi : Nat → Int} {fl : Nat → BitVec 64} {h0 : HP} {L R C : Nat} (hT : TOP A L R C) : sp mX10_calmest [.ref r] (RH r A ia la fi fl h0) 0 0 (pr (some (.int (zI (((cmN (clhV (shA A) R C) (fac R - 1) : Nat) : Int))))) r A ia fi h0) := by
  obtain ⟨hI, hV, hS, h2⟩ := id hT
  obtain ⟨v1, v2, v3, v4, v5, v6, v7⟩ := id hV
  have h1 : 0 ≤ A 1 ∧ A 1 ≤ 20 := hI 1
  have h20 : 0 ≤ A 2 ∧ A 2 ≤ 20 := hI 2
  have hLCn := mulLe (a := L) (b := C) (x := 6) (y := 8) (by omega) (by omega)
  have hLRn := mulLe (a := L) (b := R) (x := 6) (y := 4) (by omega) (by omega)
  have hLC : (L : Int) * C ≤ 48 := by exact_mod_cast hLCn
  have hLC0 : (0 : Int) ≤ (L : Int) * C := by exact_mod_cast Nat.zero_le (L * C)
  have hLR : (L : Int) * R ≤ 24 := by exact_mod_cast hLRn
  have hLR0 : (0 : Int) ≤ (L : Int) * R := by exact_mod_cast Nat.zero_le (L * R)
  have hfac := fac_le v5.2
  have hfp := fac_pos R
  refine sp_wp rfl (lv := [_, _, _]) rfl (Nat.le_of_ble_eq_true rfl) ?_
  refine w_iconst dX10_calmest_0 ?_
  refine w_istore_n (lv' := [_, _, _]) dX10_calmest_1 rfl (Nat.le_of_ble_eq_true rfl) rfl rfl ?_
  refine w_iconst dX10_calmest_2 ?_
  refine w_istore_n (lv' := [_, _, _]) dX10_calmest_3 rfl (Nat.le_of_ble_eq_true rfl) rfl rfl ?_
  refine up_ind (N := fac R - 1) (P := fun j => wp mX10_calmest 4 [.ref r, .int (zI ((cmN (clhV (shA A) R C) j : Nat) : Int)), .int (zI ((j + 1 : Nat) : Int))] [] (RH r A ia la fi fl h0) 0 0 (pr (some (.int (zI (((cmN (clhV (shA A) R C) (fac R - 1) : Nat) : Int))))) r A ia fi h0)) (fun j hj ih => ?_) 0 (Nat.zero_le _)
  have hle := cmN_le (g := clhV (shA A) R C) (j := j)
  refine w_iload_n dX10_calmest_4 rfl rfl ?_
  refine w_aload_n dX10_calmest_5 rfl rfl ?_
  refine wc_V (Z := mX10_orders) (As := []) (c_orders v2 v5) RH0 rfl kX10_orders lX10_153 iX10_orders vX10_orders dX10_calmest_6 rfl rfl rfl (Nat.le_of_ble_eq_true rfl) ⟨Nat.le_of_ble_eq_true rfl, Nat.le_of_ble_eq_true rfl⟩ ?_
  refine w_icmp_ge 33 dX10_calmest_9 (by decide) (by first | assumption | (unfold ok32 at *; omega)) (by first | assumption | (unfold ok32 at *; omega)) (fun hn => ?_) (fun hn => ?_)
  · refine w_iload_n dX10_calmest_33 rfl rfl ?_
    refine x_iret rfl rfl dX10_calmest_34 (pr_end ?_ rfl rfl rfl rfl rfl rfl rfl)
    rw [show j = fac R - 1 by omega]
  · have b1 := clhV_le (sh := shA A) (C := C) (o := j + 1) v5.2
    have b2 := clhV_le (sh := shA A) (C := C) (o := cmN (clhV (shA A) R C) j) v5.2
    have h5 := ih (by omega)
    rw [cmN] at h5
    refine w_aload_n dX10_calmest_12 rfl rfl ?_
    refine w_iload_n dX10_calmest_13 rfl rfl ?_
    refine wc_V (Z := mX10_clashesOf) (As := [_]) (c_clashesOf hI hV (by omega)) RH0 rfl kX10_clashesOf lX10_352 iX10_clashesOf vX10_clashesOf dX10_calmest_14 rfl rfl rfl (Nat.le_of_ble_eq_true rfl) ⟨Nat.le_of_ble_eq_true rfl, Nat.le_of_ble_eq_true rfl⟩ ?_
    refine w_aload_n dX10_calmest_17 rfl rfl ?_
    refine w_iload_n dX10_calmest_18 rfl rfl ?_
    refine wc_V (Z := mX10_clashesOf) (As := [_]) (c_clashesOf hI hV (by omega)) RH0 rfl kX10_clashesOf lX10_352 iX10_clashesOf vX10_clashesOf dX10_calmest_19 rfl rfl rfl (Nat.le_of_ble_eq_true rfl) ⟨Nat.le_of_ble_eq_true rfl, Nat.le_of_ble_eq_true rfl⟩ ?_
    refine w_icmp_ge 27 dX10_calmest_22 (by decide) (by first | assumption | (unfold ok32 at *; omega)) (by first | assumption | (unfold ok32 at *; omega)) (fun hc => ?_) (fun hc => ?_)
    · rw [if_neg (by omega)] at h5
      refine w_iinc (lv' := [_, _, _]) dX10_calmest_27 rfl rfl rfl ?_
      refine w_goto 4 dX10_calmest_30 (by decide) ?_
      exact h5
    · rw [if_pos (by omega)] at h5
      refine w_iload_n dX10_calmest_25 rfl rfl ?_
      refine w_istore_n (lv' := [_, _, _]) dX10_calmest_26 rfl (Nat.le_of_ble_eq_true rfl) rfl rfl ?_
      refine w_iinc (lv' := [_, _, _]) dX10_calmest_27 rfl rfl rfl ?_
      refine w_goto 4 dX10_calmest_30 (by decide) ?_
      exact h5

