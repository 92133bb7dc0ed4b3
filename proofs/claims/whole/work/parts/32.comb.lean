/-! sets of so many bits in their order -/
noncomputable def dP (p : Prop) : Bool := @decide p (Classical.propDecidable p)
theorem dP_iff {p : Prop} : dP p = true ↔ p := ⟨fun h => @of_decide_eq_true p (Classical.propDecidable p) h, fun h => @decide_eq_true p (Classical.propDecidable p) h⟩
theorem bI_c {p q : Prop} [Decidable p] [Decidable q] (h : p ↔ q) : bI p = bI q := by
  by_cases hp : p
  · rw [bI_t hp, bI_t (h.mp hp)]
  · rw [bI_f hp, bI_f (fun z => hp (h.mpr z))]
def cmb (n : Nat) : Nat → Nat → BitVec 64 → List (BitVec 64)
  | 0, d, acc => if d = 0 then [acc] else []
  | f + 1, d, acc => if d = 0 then [acc] else cmb n f (d - 1) (acc ||| (1#64 <<< (n - (f + 1)))) ++ cmb n f d acc
/-- the sets that have acc and d bits from lo on -/
def cm (n lo d : Nat) (acc : BitVec 64) : List (BitVec 64) := cmb n (n - lo) d acc
theorem cm_0 {n lo : Nat} {acc : BitVec 64} : cm n lo 0 acc = [acc] := by
  unfold cm
  cases n - lo with
  | zero => rfl
  | succ f => unfold cmb; rw [if_pos rfl]
theorem cm_s {n lo d : Nat} {acc : BitVec 64} (h : lo < n) : cm n lo (d + 1) acc = cm n (lo + 1) d (acc ||| (1#64 <<< lo)) ++ cm n (lo + 1) (d + 1) acc := by
  unfold cm
  obtain ⟨f, hf⟩ : ∃ f, n - lo = f + 1 := ⟨n - lo - 1, by omega⟩
  rw [hf, show n - (lo + 1) = f by omega]
  show (if d + 1 = 0 then [acc] else cmb n f (d + 1 - 1) (acc ||| (1#64 <<< (n - (f + 1)))) ++ cmb n f (d + 1) acc) = _
  rw [if_neg (by omega), show n - (f + 1) = lo by omega]
  rfl
theorem cmb_nil {n : Nat} : ∀ {f d : Nat} {acc : BitVec 64}, 1 ≤ d → f < d → cmb n f d acc = []
  | 0, d, acc, h, _ => if_neg (by omega)
  | f + 1, d, acc, h, h2 => by
    unfold cmb
    rw [if_neg (by omega), cmb_nil (by omega) (by omega), cmb_nil h (by omega)]
    rfl
theorem cm_nil {n lo d : Nat} {acc : BitVec 64} (h1 : 1 ≤ d) (h : n < lo + d) : cm n lo d acc = [] := cmb_nil h1 (by omega)
def pks (p : Nat → Nat) : Nat → BitVec 64
  | 0 => 0#64
  | j + 1 => pks p j ||| (1#64 <<< p j)
def rsL (n k : Nat) (p : Nat → Nat) : Nat → List (BitVec 64)
  | 0 => []
  | j + 1 => cm n (p j + 1) (k - j) (pks p j) ++ rsL n k p j
theorem pks_c {p p' : Nat → Nat} : ∀ {j : Nat}, (∀ i, i < j → p i = p' i) → pks p j = pks p' j
  | 0, _ => rfl
  | j + 1, h => by unfold pks; rw [pks_c (fun i hi => h i (by omega)), h j (by omega)]
theorem rsL_c {n k : Nat} {p p' : Nat → Nat} : ∀ {j : Nat}, (∀ i, i < j → p i = p' i) → rsL n k p j = rsL n k p' j
  | 0, _ => rfl
  | j + 1, h => by unfold rsL; rw [rsL_c (fun i hi => h i (by omega)), h j (by omega), pks_c (fun i hi => h i (by omega))]
theorem rs_ex {n k : Nat} {p : Nat → Nat} : ∀ {d j lo : Nat}, j + d = k → lo + d ≤ n → (∀ i, j ≤ i → i < k → p i = lo + (i - j)) → cm n lo d (pks p j) ++ rsL n k p j = pks p k :: rsL n k p k
  | 0, j, lo, h1, h2, hp => by
    rw [show j = k by omega, cm_0]
    rfl
  | d + 1, j, lo, h1, h2, hp => by
    have e : p j = lo := by rw [hp j (by omega) (by omega)]; omega
    rw [cm_s (by omega), List.append_assoc]
    have ih := rs_ex (n := n) (k := k) (p := p) (d := d) (j := j + 1) (lo := lo + 1) (by omega) (by omega) (fun i a b => by rw [hp i (by omega) b]; omega)
    rw [← ih]
    show _ = cm n (lo + 1) d (pks p j ||| (1#64 <<< p j)) ++ (cm n (p j + 1) (k - j) (pks p j) ++ rsL n k p j)
    rw [e, show k - j = d + 1 by omega]
theorem rs_top {n k : Nat} {p : Nat → Nat} : ∀ {m j : Nat}, j + m = k → (∀ i, j ≤ i → i < k → n < p i + 1 + (k - i)) → rsL n k p k = rsL n k p j
  | 0, j, h, _ => by rw [show j = k by omega]
  | m + 1, j, h, hp => by
    rw [rs_top (m := m) (j := j + 1) (by omega) (fun i a b => hp i (by omega) b)]
    show cm n (p j + 1) (k - j) (pks p j) ++ rsL n k p j = _
    rw [cm_nil (by omega) (hp j (by omega) (by omega))]
    rfl
/-- what is picked is the first of the sets that are left -/
def PK (n k : Nat) (q : Nat → Int) (l : List (BitVec 64)) : Prop := l = [] ∨ ∃ p : Nat → Nat, (∀ i, i < k → q i = (p i : Int)) ∧ (∀ i, i < k → p i + k ≤ n + i) ∧ l = pks p k :: rsL n k p k
theorem cm_all {n k : Nat} (h : k ≤ n) : cm n 0 k 0#64 = pks (fun i => i) k :: rsL n k (fun i => i) k := by
  have := rs_ex (n := n) (k := k) (p := fun i => i) (d := k) (j := 0) (lo := 0) (by omega) (by omega) (fun i _ _ => by omega)
  rw [← this]
  show _ = cm n 0 k 0#64 ++ []
  rw [List.append_nil]
theorem c_isFirst {r : Nat} {A : Nat → Int} {ia : Nat → Nat → Int} {la : Nat → Nat → BitVec 64} {fi : Nat → Int} {fl : Nat → BitVec 64} {h0 : HP} {L R C : Nat} {k : Nat} (hV : VC A L R C) (hk : 1 ≤ k ∧ k ≤ 4) : sp mX10_isFirst [.ref r, .int (zI (k : Int))] (RH r A ia la fi fl h0) 0 0 (px (some (.int (zI (bI (¬ cm (L * C) 0 k 0#64 = []))))) (fun q => PK (L * C) k q (cm (L * C) 0 k 0#64)) (fun q => (RH r A (u1 ia 9 q) la fi fl h0))) := by
  obtain ⟨v1, v2, v3, v4, v5, v6, v7⟩ := id hV
  have hLCn := mulLe (a := L) (b := C) (x := 6) (y := 8) (by omega) (by omega)
  have hLC : (L : Int) * C = ((L * C : Nat) : Int) := by push_cast; rfl
  have key : ∀ i : Nat, i ≤ k → ∀ q : Nat → Int, (∀ j, j < i → q j = (j : Int)) → wp mX10_isFirst 2 [.ref r, .int (zI (k : Int)), .int (zI (i : Int))] [] (RH r A (u1 ia 9 q) la fi fl h0) 0 0 (px (some (.int (zI (bI (¬ cm (L * C) 0 k 0#64 = []))))) (fun q => PK (L * C) k q (cm (L * C) 0 k 0#64)) (fun q => (RH r A (u1 ia 9 q) la fi fl h0))) := by
    refine up_ind (N := k) (fun i hi ih => ?_)
    intro q hq
    refine w_iload_n dX10_isFirst_2 rfl rfl ?_
    refine w_iload_n dX10_isFirst_3 rfl rfl ?_
    refine w_icmp_ge 20 dX10_isFirst_4 (by decide) (by unfold ok32; omega) (by unfold ok32; omega) (fun hn => ?_) (fun hn => ?_)
    · have ei : i = k := by omega
      subst ei
      refine w_iload_n dX10_isFirst_20 rfl rfl ?_
      refine w_aload_n dX10_isFirst_21 rfl rfl ?_
      refine wc_V (Z := mX10_bits) (As := []) c_bits RH0 rfl kX10_bits lX10_66 iX10_bits vX10_bits dX10_isFirst_22 rfl rfl rfl (Nat.le_of_ble_eq_true rfl) ⟨Nat.le_of_ble_eq_true rfl, Nat.le_of_ble_eq_true rfl⟩ ?_
      rw [v1, v3, hLC]
      refine w_icmp_gt 32 dX10_isFirst_25 (by decide) (by unfold ok32; omega) (by unfold ok32; omega) (fun hb => ?_) (fun hb => ?_)
      · refine w_iconst dX10_isFirst_32 ?_
        refine x_iret rfl (by rfl) dX10_isFirst_33 ⟨?_, q, Or.inl ?_, rfl⟩
        · rw [bI_f (fun z => z (cm_nil (by omega) (by omega)))]
        · exact cm_nil (by omega) (by omega)
      · refine w_iconst dX10_isFirst_28 ?_
        refine w_goto 33 dX10_isFirst_29 (by decide) ?_
        refine x_iret rfl (by rfl) dX10_isFirst_33 ⟨?_, q, Or.inr ⟨fun i => i, hq, fun j hj => by show j + i ≤ L * C + j; omega, cm_all (by omega)⟩, rfl⟩
        rw [bI_t (by rw [cm_all (by omega)]; exact List.cons_ne_nil _ _)]
    · refine w_aload_n dX10_isFirst_7 rfl rfl ?_
      refine w_getf fX10_42 dX10_isFirst_8 RH0 rfl ?_
      refine w_iload_n dX10_isFirst_11 rfl rfl ?_
      refine w_iload_n dX10_isFirst_12 rfl rfl ?_
      refine r_ist9K i rfl (by omega) dX10_isFirst_13 ?_
      rw [u1_u1, u1_s]
      refine w_iinc (lv' := [_, _, _]) dX10_isFirst_14 rfl rfl rfl ?_
      refine w_goto 2 dX10_isFirst_17 (by decide) ?_
      refine ih (by omega) _ (fun j hj => ?_)
      by_cases h : j = i
      · subst h; rw [u1_s]
      · rw [u1_n h]; exact hq j (by omega)
  refine sp_wp rfl (lv := [_, _, _]) rfl (Nat.le_of_ble_eq_true rfl) ?_
  refine w_iconst dX10_isFirst_0 ?_
  refine w_istore_n (lv' := [_, _, _]) dX10_isFirst_1 rfl (Nat.le_of_ble_eq_true rfl) rfl rfl ?_
  have h2 := key 0 (Nat.zero_le _) (ia 9) (fun j hj => absurd hj (by omega))
  rw [u1_id] at h2
  exact h2
theorem c_pickedSet {r : Nat} {A : Nat → Int} {ia : Nat → Nat → Int} {la : Nat → Nat → BitVec 64} {fi : Nat → Int} {fl : Nat → BitVec 64} {h0 : HP} {k : Nat} {p : Nat → Nat} (hk : k ≤ 4) (hq : ∀ i, i < k → ia 9 i = (p i : Int)) (hp : ∀ i, i < k → p i < 64) : sp mX10_pickedSet [.ref r, .int (zI (k : Int))] (RH r A ia la fi fl h0) 0 0 (pd (some (.long (lB (pks p k)))) (RH r A ia la fi fl h0)) := by
  refine sp_wp rfl (lv := [_, _, _, _, _]) rfl (Nat.le_of_ble_eq_true rfl) ?_
  refine w_lconst0 dX10_pickedSet_0 ?_
  refine w_lstore_n (lv' := [_, _, _, _, _]) dX10_pickedSet_1 rfl (Nat.le_of_ble_eq_true rfl) rfl rfl ?_
  refine w_iconst dX10_pickedSet_2 ?_
  refine w_istore (lv' := [_, _, _, _, _]) dX10_pickedSet_3 (Nat.le_of_ble_eq_true rfl) rfl rfl ?_
  refine up_ind (N := k) (P := fun i => wp mX10_pickedSet 5 [.ref r, .int (zI (k : Int)), .long (lB (pks p i)), jk, .int (zI (i : Int))] [] (RH r A ia la fi fl h0) 0 0 (pd (some (.long (lB (pks p k)))) (RH r A ia la fi fl h0))) (fun i hi ih => ?_) 0 (Nat.zero_le _)
  refine w_iload dX10_pickedSet_5 rfl ?_
  refine w_iload_n dX10_pickedSet_7 rfl rfl ?_
  refine w_icmp_ge 29 dX10_pickedSet_8 (by decide) (by unfold ok32; omega) (by unfold ok32; omega) (fun hn => ?_) (fun hn => ?_)
  · refine w_lload_n dX10_pickedSet_29 rfl rfl ?_
    refine x_lret rfl dX10_pickedSet_30 ⟨?_, rfl⟩
    rw [show i = k by omega]
  · refine w_lload_n dX10_pickedSet_11 rfl rfl ?_
    refine w_lconst1 dX10_pickedSet_12 ?_
    refine w_aload_n dX10_pickedSet_13 rfl rfl ?_
    refine w_getf fX10_42 dX10_pickedSet_14 RH0 rfl ?_
    refine w_iload dX10_pickedSet_17 rfl ?_
    refine w_iald i RH9 rfl (by omega) (by decide) dX10_pickedSet_19 ?_
    rw [hq i (by omega)]
    refine w_lshl _ rfl (hp i (by omega)) dX10_pickedSet_20 ?_
    refine w_lor dX10_pickedSet_21 ?_
    refine w_lstore_n (lv' := [_, _, _, _, _]) dX10_pickedSet_22 rfl (Nat.le_of_ble_eq_true rfl) rfl rfl ?_
    refine w_iinc (lv' := [_, _, _, _, _]) dX10_pickedSet_23 rfl rfl rfl ?_
    refine w_goto 5 dX10_pickedSet_26 (by decide) ?_
    exact ih (by omega)
set_option maxRecDepth 4000 in
theorem c_isNext {r : Nat} {A : Nat → Int} {ia : Nat → Nat → Int} {la : Nat → Nat → BitVec 64} {fi : Nat → Int} {fl : Nat → BitVec 64} {h0 : HP} {L R C : Nat} {k : Nat} {p : Nat → Nat} (hV : VC A L R C) (hk : 1 ≤ k ∧ k ≤ 4) (hq : ∀ i, i < k → ia 9 i = (p i : Int)) (hp : ∀ i, i < k → p i + k ≤ L * C + i) : sp mX10_isNext [.ref r, .int (zI (k : Int))] (RH r A ia la fi fl h0) 0 0 (px (some (.int (zI (bI (¬ rsL (L * C) k p k = []))))) (fun q => PK (L * C) k q (rsL (L * C) k p k)) (fun q => (RH r A (u1 ia 9 q) la fi fl h0))) := by
  obtain ⟨v1, v2, v3, v4, v5, v6, v7⟩ := id hV
  have hLCn := mulLe (a := L) (b := C) (x := 6) (y := 8) (by omega) (by omega)
  have hLC : (L : Int) * C = ((L * C : Nat) : Int) := by push_cast; rfl
  generalize hN : L * C = N at *
  have two : ∀ j : Nat, j < k → p j + k < N + j → rsL N k p k = rsL N k p (j + 1) → ∀ i : Nat, i ≤ k → j < i → ∀ q : Nat → Int, (∀ t, t < j → q t = (p t : Int)) → (∀ t, j ≤ t → t < i → q t = ((p j + 1 + (t - j) : Nat) : Int)) → wp mX10_isNext 51 [.ref r, .int (zI (k : Int)), .int (zI (j : Int)), .int (zI (i : Int))] [] (RH r A (u1 ia 9 q) la fi fl h0) 0 0 (px (some (.int (zI (bI (¬ rsL N k p k = []))))) (fun q => PK N k q (rsL N k p k)) (fun q => (RH r A (u1 ia 9 q) la fi fl h0))) := by
    intro j hj hpj hrs
    refine up_ind (N := k) (fun i hi ih => ?_)
    intro hji q h1 h2
    refine w_iload_n dX10_isNext_51 rfl rfl ?_
    refine w_iload_n dX10_isNext_52 rfl rfl ?_
    refine w_icmp_ge 78 dX10_isNext_53 (by decide) (by unfold ok32; omega) (by unfold ok32; omega) (fun hn => ?_) (fun hn => ?_)
    · have ei : i = k := by omega
      subst ei
      have e : rsL N i p i = pks (fun t => if t < j then p t else p j + 1 + (t - j)) i :: rsL N i (fun t => if t < j then p t else p j + 1 + (t - j)) i := by
        rw [hrs]
        have h3 := rs_ex (n := N) (k := i) (p := fun t => if t < j then p t else p j + 1 + (t - j)) (d := i - j) (j := j) (lo := p j + 1) (by omega) (by omega) (fun t a b => if_neg (by omega))
        rw [← h3]
        show cm N (p j + 1) (i - j) (pks p j) ++ rsL N i p j = _
        rw [pks_c (p' := fun t => if t < j then p t else p j + 1 + (t - j)) (fun t ht => (if_pos ht).symm), rsL_c (p' := fun t => if t < j then p t else p j + 1 + (t - j)) (fun t ht => (if_pos ht).symm)]
      refine w_iconst dX10_isNext_78 ?_
      refine x_iret rfl (by rfl) dX10_isNext_79 ⟨?_, q, Or.inr ⟨_, fun t ht => ?_, fun t ht => ?_, e⟩, rfl⟩
      · rw [bI_t (by rw [e]; exact List.cons_ne_nil _ _)]
      · by_cases h : t < j
        · simp only [if_pos h]; exact h1 t h
        · simp only [if_neg h]; exact h2 t (by omega) ht
      · by_cases h : t < j
        · simp only [if_pos h]; exact hp t (by omega)
        · simp only [if_neg h]; omega
    · refine w_aload_n dX10_isNext_56 rfl rfl ?_
      refine w_getf fX10_42 dX10_isNext_57 RH0 rfl ?_
      refine w_iload_n dX10_isNext_60 rfl rfl ?_
      refine w_aload_n dX10_isNext_61 rfl rfl ?_
      refine w_getf fX10_42 dX10_isNext_62 RH0 rfl ?_
      refine w_iload_n dX10_isNext_65 rfl rfl ?_
      refine w_iconst dX10_isNext_66 ?_
      refine w_isub dX10_isNext_67 ?_
      refine w_iald (i - 1) RH9 (by omega) (by omega) (by decide) dX10_isNext_68 ?_
      rw [u1_s, h2 (i - 1) (by omega) (by omega)]
      refine w_iconst dX10_isNext_69 ?_
      refine w_iadd dX10_isNext_70 ?_
      refine r_ist9K i rfl (by omega) dX10_isNext_71 ?_
      rw [u1_u1, u1_s]
      refine w_iinc (lv' := [_, _, _, _]) dX10_isNext_72 rfl rfl rfl ?_
      refine w_goto 51 dX10_isNext_75 (by decide) ?_
      refine ih (by omega) (by omega) _ (fun t ht => ?_) (fun t a b => ?_)
      · rw [u1_n (by omega)]; exact h1 t ht
      · by_cases h : t = i
        · subst h; rw [u1_s]; omega
        · rw [u1_n h]; exact h2 t a (by omega)
  have one : ∀ j : Nat, j ≤ k → (∀ i, j ≤ i → i < k → p i + k = N + i) → wp mX10_isNext 4 [.ref r, .int (zI (k : Int)), .int (zI ((j : Int) - 1)), jk] [] (RH r A ia la fi fl h0) 0 0 (px (some (.int (zI (bI (¬ rsL N k p k = []))))) (fun q => PK N k q (rsL N k p k)) (fun q => (RH r A (u1 ia 9 q) la fi fl h0))) := by
    intro j
    induction j with
    | zero =>
      intro _ h
      have e : rsL N k p k = [] := rs_top (m := k) (j := 0) (by omega) (fun i _ b => by have := h i (by omega) b; omega)
      refine w_iload_n dX10_isNext_4 rfl rfl ?_
      refine w_if_lt 31 dX10_isNext_5 (by decide) (by unfold ok32; omega) (fun hc => ?_) (fun hc => ?_)
      · refine w_iload_n dX10_isNext_31 rfl rfl ?_
        refine w_if_ge 37 dX10_isNext_32 (by decide) (by unfold ok32; omega) (fun hc2 => ?_) (fun hc2 => ?_)
        · omega
        · refine w_iconst dX10_isNext_35 ?_
          refine x_iret rfl (by rfl) dX10_isNext_36 ⟨?_, ia 9, Or.inl e, by show _ = (RH r A (u1 ia 9 (ia 9)) la fi fl h0); rw [u1_id]⟩
          rw [bI_f (fun z => z e)]
      · omega
    | succ j ih =>
      intro hj h
      rw [show ((j + 1 : Nat) : Int) - 1 = (j : Int) by omega]
      refine w_iload_n dX10_isNext_4 rfl rfl ?_
      refine w_if_lt 31 dX10_isNext_5 (by decide) (by unfold ok32; omega) (fun hc => ?_) (fun hc => ?_)
      · omega
      · refine w_aload_n dX10_isNext_8 rfl rfl ?_
        refine w_getf fX10_42 dX10_isNext_9 RH0 rfl ?_
        refine w_iload_n dX10_isNext_12 rfl rfl ?_
        refine w_iald j RH9 rfl (by omega) (by decide) dX10_isNext_13 ?_
        rw [hq j (by omega)]
        have hpj := hp j (by omega)
        refine w_aload_n dX10_isNext_14 rfl rfl ?_
        refine wc_V (Z := mX10_bits) (As := []) c_bits RH0 rfl kX10_bits lX10_66 iX10_bits vX10_bits dX10_isNext_15 rfl rfl rfl (Nat.le_of_ble_eq_true rfl) ⟨Nat.le_of_ble_eq_true rfl, Nat.le_of_ble_eq_true rfl⟩ ?_
        rw [v1, v3, hLC]
        refine w_iload_n dX10_isNext_18 rfl rfl ?_
        refine w_isub dX10_isNext_19 ?_
        refine w_iload_n dX10_isNext_20 rfl rfl ?_
        refine w_iadd dX10_isNext_21 ?_
        refine w_icmp_ne 31 dX10_isNext_22 (by decide) (by unfold ok32; omega) (by unfold ok32; omega) (fun hne => ?_) (fun hne => ?_)
        · refine w_iload_n dX10_isNext_31 rfl rfl ?_
          refine w_if_ge 37 dX10_isNext_32 (by decide) (by unfold ok32; omega) (fun hc2 => ?_) (fun hc2 => ?_)
          · refine w_aload_n dX10_isNext_37 rfl rfl ?_
            refine w_getf fX10_42 dX10_isNext_38 RH0 rfl ?_
            refine w_iload_n dX10_isNext_41 rfl rfl ?_
            refine w_dup2 dX10_isNext_42 rfl rfl ?_
            refine w_iald j RH9 rfl (by omega) (by decide) dX10_isNext_43 ?_
            rw [hq j (by omega)]
            refine w_iconst dX10_isNext_44 ?_
            refine w_iadd dX10_isNext_45 ?_
            refine r_ist9K j rfl (by omega) dX10_isNext_46 ?_
            refine w_iload_n dX10_isNext_47 rfl rfl ?_
            refine w_iconst dX10_isNext_48 ?_
            refine w_iadd dX10_isNext_49 ?_
            refine w_istore_n (lv' := [_, _, _, _]) dX10_isNext_50 rfl (Nat.le_of_ble_eq_true rfl) rfl rfl ?_
            refine two j (by omega) (by omega) ?_ (j + 1) (by omega) (by omega) _ (fun t ht => ?_) (fun t a b => ?_)
            · exact rs_top (m := k - (j + 1)) (j := j + 1) (by omega) (fun i a b => by have := h i a b; omega)
            · rw [u1_n (by omega)]; exact hq t (by omega)
            · rw [show t = j by omega, u1_s]; omega
          · omega
        · refine w_iinc (lv' := [_, _, _, _]) dX10_isNext_25 rfl rfl rfl ?_
          refine w_goto 4 dX10_isNext_28 (by decide) ?_
          refine ih (by omega) (fun i a b => ?_)
          by_cases h5 : i = j
          · subst h5; omega
          · exact h i (by omega) b
  refine sp_wp rfl (lv := [_, _, _, _]) rfl (Nat.le_of_ble_eq_true rfl) ?_
  refine w_iload_n dX10_isNext_0 rfl rfl ?_
  refine w_iconst dX10_isNext_1 ?_
  refine w_isub dX10_isNext_2 ?_
  refine w_istore_n (lv' := [_, _, _, _]) dX10_isNext_3 rfl (Nat.le_of_ble_eq_true rfl) rfl rfl ?_
  exact one k (Nat.le_refl _) (fun i a b => by omega)

