/-! the census: the next bits ahead -/
theorem pod_c {M : Nat → BitVec 32} {p p' : Nat → Nat} : ∀ {j : Nat}, (∀ i, i < j → p i = p' i) → pod M p j = pod M p' j
  | 0, _ => rfl
  | j + 1, h => by unfold pod; rw [pod_c (fun i hi => h i (by omega)), h j (by omega)]
theorem psm_c {M : Nat → BitVec 32} {p p' : Nat → Nat} : ∀ {j : Nat}, (∀ i, i < j → p i = p' i) → psm M p j = psm M p' j
  | 0, _ => rfl
  | j + 1, h => by unfold psm; rw [psm_c (fun i hi => h i (by omega)), h j (by omega)]
/-- the bits ahead, as the arrays hold them -/
def AHD (M : Nat → BitVec 32) (n K : Nat) (p : Nat → Nat) (g : Nat → Nat → Int) : Prop := (∀ i, i < K → g 9 i = (p i : Int)) ∧ (∀ i, i < K → p i + K ≤ n + i) ∧ (∀ i, i + 1 < K → p i < p (i + 1)) ∧ SUMS M p K g
def TRN (M : Nat → BitVec 32) (n K : Nat) (p : Nat → Nat) (ba g : Nat → Nat → Int) : Prop := g 8 = ba 8 ∧ ((rsL n K p K = [] ∧ g = ba) ∨ ∃ p', AHD M n K p' g ∧ rsL n K p K = pks p' K :: rsL n K p' K)
set_option maxRecDepth 8000 in
theorem c1_turn {a c : Nat} {ba : Nat → Nat → Int} {bi : Nat → Int} {bf : Nat → Nat} {h0 : HP} {B : Nat → Int} {L R C K n : Nat} {p : Nat → Nat} (hC : CDQ (outC a) h0 c B L R C) (hb : bf 0 = c) (hK : K ≤ 3) (h7 : bi 7 = (K : Int)) (h8 : bi 8 = (K : Int) + 1) (hn : n + 1 = L * C) (hA : AHD (fun b => hgB (cs B L C) b (L * R)) n K p ba) : sp mX1_turn [.ref a] (CUH a ba bi bf h0) 0 0 (px (some (.int (zI (bI (¬ rsL n K p K = []))))) (fun g : Nat → Nat → Int => TRN (fun b => hgB (cs B L C) b (L * R)) n K p ba g) (fun g => CUH a g bi bf h0)) := by
  obtain ⟨ad, f7, f8, f10, f9, f11, rk, cr, hV, h6, h7', o_c0, r70, r80, r90, r100, r110, e7, e8, e9, e10, hRD, p0, p7, p8, p9, p10, p11⟩ := id hC
  obtain ⟨v1, v2, v3, v4, v5, v6, v7⟩ := id hV
  have hLC := mulLe (a := L) (b := C) (x := 6) (y := 8) (by omega) (by omega)
  have o_c : ∀ {g : Nat → Nat → Int}, (CUH a g bi bf h0).2 c = some (.inr (2, cfs L R C (B 6) (B 7) ad rk cr)) := CUo p0 o_c0
  obtain ⟨M, hM⟩ : ∃ M, (fun b => hgB (cs B L C) b (L * R)) = M := ⟨_, rfl⟩
  have hrf := fun (j : Nat) (g : Nat → Nat → Int) (p' : Nat → Nat) => c1_refresh (ba := g) (k := K) (j := j) (p := p') hC hb hK h7
  rw [hM] at hA hrf ⊢
  obtain ⟨hq, hp, hinc, hs⟩ := hA
  have two : ∀ j : Nat, j < K → p j + K < n + j → rsL n K p K = rsL n K p (j + 1) → ∀ i : Nat, i ≤ K → j < i → ∀ g : Nat → Nat → Int, g 8 = ba 8 → g 10 = ba 10 → g 11 = ba 11 → (∀ t, t < j → g 9 t = (p t : Int)) → (∀ t, j ≤ t → t < i → g 9 t = ((p j + 1 + (t - j) : Nat) : Int)) → wp mX1_turn 48 [.ref a, .int (zI (j : Int)), .int (zI (i : Int))] [] (CUH a g bi bf h0) 0 0 (px (some (.int (zI (bI (¬ rsL n K p K = []))))) (fun g : Nat → Nat → Int => TRN M n K p ba g) (fun g => CUH a g bi bf h0)) := by
    intro j hj hpj hrs
    refine up_ind (N := K) (fun i hi ih => ?_)
    intro hji g g8 g10 g11 t1 t2
    refine w_iload_n dX1_turn_48 rfl rfl ?_
    refine w_aload_n dX1_turn_49 rfl rfl ?_
    refine w_getf fX1_50 dX1_turn_50 CU0 rfl ?_
    rw [h7]
    refine w_icmp_ge 78 dX1_turn_53 (by decide) (by first | assumption | (unfold ok32 at *; omega)) (by first | assumption | (unfold ok32 at *; omega)) (fun hc => ?_) (fun hc => ?_)
    · have ei : i = K := by omega
      subst ei
      obtain ⟨p', hp'⟩ : ∃ p' : Nat → Nat, p' = fun t => if t < j then p t else p j + 1 + (t - j) := ⟨_, rfl⟩
      have pl : ∀ t, t < j → p' t = p t := fun t ht => by rw [hp']; exact if_pos ht
      have ph : ∀ t, j ≤ t → p' t = p j + 1 + (t - j) := fun t ht => by rw [hp']; exact if_neg (by omega)
      have e : rsL n i p i = pks p' i :: rsL n i p' i := by
        rw [hrs]
        have h3 := rs_ex (n := n) (k := i) (p := p') (d := i - j) (j := j) (lo := p j + 1) (by omega) (by omega) (fun t x _ => ph t x)
        rw [← h3]
        show cm n (p j + 1) (i - j) (pks p j) ++ rsL n i p j = _
        rw [pks_c (p' := p') (fun t ht => (pl t ht).symm), rsL_c (p' := p') (fun t ht => (pl t ht).symm)]
      have q9 : ∀ t, t < i → g 9 t = (p' t : Int) := fun t ht => by
        by_cases h : t < j
        · rw [pl t h]; exact t1 t h
        · rw [ph t (by omega)]; exact t2 t (by omega) ht
      have qp : ∀ t, t < i → p' t + i ≤ n + t := fun t ht => by
        by_cases h : t < j
        · rw [pl t h]; exact hp t ht
        · rw [ph t (by omega)]; omega
      refine w_aload_n dX1_turn_78 rfl rfl ?_
      refine w_iload_n dX1_turn_79 rfl rfl ?_
      refine wx_Vv (Z := mX1_refresh) (As := [_]) (hrf j g p' (by omega) (fun t ht => ⟨q9 t ht, by have := qp t ht; omega⟩) (fun d hd => by rw [g10, g11, pod_c (p' := p) (fun t ht => pl t (by omega)), psm_c (p' := p) (fun t ht => pl t (by omega))]; exact hs d (by omega))) CU0 rfl kX1_refresh lX1_56 iX1_refresh vX1_refresh dX1_turn_80 rfl rfl rfl (Nat.le_of_ble_eq_true rfl) ⟨Nat.le_of_ble_eq_true rfl, Nat.le_of_ble_eq_true rfl⟩ (fun q hq2 => ?_)
      obtain ⟨w8, w9, ws⟩ := hq2
      refine w_iconst dX1_turn_83 ?_
      refine x_iret rfl (by rfl) dX1_turn_84 ⟨?_, q, ⟨w8.trans g8, Or.inr ⟨p', ⟨fun t ht => by rw [w9]; exact q9 t ht, qp, fun t ht => ?_, ws⟩, e⟩⟩, rfl⟩
      · rw [bI_t (by rw [e]; exact List.cons_ne_nil _ _)]
      · by_cases h1 : t + 1 < j
        · rw [pl t (by omega), pl (t + 1) h1]; exact hinc t ht
        · by_cases h2 : t + 1 = j
          · rw [pl t (by omega), ph (t + 1) (by omega)]
            have := hinc t ht
            rw [h2] at this
            omega
          · rw [ph t (by omega), ph (t + 1) (by omega)]
            omega
    · refine w_aload_n dX1_turn_56 rfl rfl ?_
      refine w_getf fX1_26 dX1_turn_57 CU0 rfl ?_
      refine w_iload_n dX1_turn_60 rfl rfl ?_
      refine w_aload_n dX1_turn_61 rfl rfl ?_
      refine w_getf fX1_26 dX1_turn_62 CU0 rfl ?_
      refine w_iload_n dX1_turn_65 rfl rfl ?_
      refine w_iconst dX1_turn_66 ?_
      refine w_isub dX1_turn_67 ?_
      refine w_iald (i - 1) CU9 (by omega) (by omega) (by decide) dX1_turn_68 ?_
      rw [t2 (i - 1) (by omega) (by omega)]
      refine w_iconst dX1_turn_69 ?_
      refine w_iadd dX1_turn_70 ?_
      refine cu_ist9 i rfl (by omega) dX1_turn_71 ?_
      refine w_iinc (lv' := [_, _, _]) dX1_turn_72 rfl rfl rfl ?_
      refine w_goto 48 dX1_turn_75 (by decide) ?_
      have := ih (by omega) (by omega) (u1 g 9 (u1 (g 9) i (((p j + 1 + (i - 1 - j) : Nat) : Int) + 1))) g8 g10 g11 (fun t ht => by
        show u1 (g 9) i _ t = _
        rw [u1_n (by omega)]; exact t1 t ht) (fun t x y => by
        show u1 (g 9) i _ t = _
        by_cases h : t = i
        · rw [h, u1_s]; omega
        · rw [u1_n h]; exact t2 t x (by omega))
      push_cast at this ⊢
      exact this
  have one : ∀ j : Nat, j ≤ K → (∀ i, j ≤ i → i < K → p i + K = n + i) → ∀ x2 : Value, wp mX1_turn 7 [.ref a, .int (zI ((j : Int) - 1)), x2] [] (CUH a ba bi bf h0) 0 0 (px (some (.int (zI (bI (¬ rsL n K p K = []))))) (fun g : Nat → Nat → Int => TRN M n K p ba g) (fun g => CUH a g bi bf h0)) := by
    intro j
    induction j with
    | zero =>
      intro _ h x2
      have e : rsL n K p K = [] := rs_top (m := K) (j := 0) (by omega) (fun i _ b => by have := h i (by omega) b; omega)
      refine w_iload_n dX1_turn_7 rfl rfl ?_
      refine w_if_lt 91 dX1_turn_8 (by decide) (by first | assumption | (unfold ok32 at *; omega)) (fun hc => ?_) (fun hc => ?_)
      · refine w_iconst dX1_turn_91 ?_
        refine x_iret rfl (by rfl) dX1_turn_92 ⟨?_, ba, ⟨rfl, Or.inl ⟨e, rfl⟩⟩, rfl⟩
        rw [bI_f (fun z => z e)]
      · omega
    | succ j ih =>
      intro hj h x2
      rw [show ((j + 1 : Nat) : Int) - 1 = (j : Int) by omega]
      have hpj := hp j (by omega)
      refine w_iload_n dX1_turn_7 rfl rfl ?_
      refine w_if_lt 91 dX1_turn_8 (by decide) (by first | assumption | (unfold ok32 at *; omega)) (fun hc => ?_) (fun hc => ?_)
      · omega
      · refine w_aload_n dX1_turn_11 rfl rfl ?_
        refine w_getf fX1_26 dX1_turn_12 CU0 rfl ?_
        refine w_iload_n dX1_turn_15 rfl rfl ?_
        refine w_iald j CU9 rfl (by omega) (by decide) dX1_turn_16 ?_
        rw [hq j (by omega)]
        refine w_aload_n dX1_turn_17 rfl rfl ?_
        refine w_getf fX1_35 dX1_turn_18 CU0 rfl ?_
        rw [hb]
        refine w_getf fX1_53 dX1_turn_21 o_c rfl ?_
        refine w_aload_n dX1_turn_24 rfl rfl ?_
        refine w_getf fX1_46 dX1_turn_25 CU0 rfl ?_
        rw [h8, ← hn]
        refine w_isub dX1_turn_28 ?_
        refine w_iload_n dX1_turn_29 rfl rfl ?_
        refine w_iadd dX1_turn_30 ?_
        refine w_icmp_ge 85 dX1_turn_31 (by decide) (by first | assumption | (unfold ok32 at *; omega)) (by first | assumption | (unfold ok32 at *; omega)) (fun hd => ?_) (fun hd => ?_)
        · refine w_iinc (lv' := [_, _, _]) dX1_turn_85 rfl rfl rfl ?_
          refine w_goto 7 dX1_turn_88 (by decide) ?_
          exact ih (by omega) (fun i x y => by
            by_cases hij : i = j
            · rw [hij]; omega
            · exact h i (by omega) y) x2
        · have hrs : rsL n K p K = rsL n K p (j + 1) := rs_top (m := K - (j + 1)) (j := j + 1) (by omega) (fun i x y => by have := h i x y; omega)
          refine w_aload_n dX1_turn_34 rfl rfl ?_
          refine w_getf fX1_26 dX1_turn_35 CU0 rfl ?_
          refine w_iload_n dX1_turn_38 rfl rfl ?_
          refine w_dup2 dX1_turn_39 rfl rfl ?_
          refine w_iald j CU9 rfl (by omega) (by decide) dX1_turn_40 ?_
          rw [hq j (by omega)]
          refine w_iconst dX1_turn_41 ?_
          refine w_iadd dX1_turn_42 ?_
          refine cu_ist9 j rfl (by omega) dX1_turn_43 ?_
          refine w_iload_n dX1_turn_44 rfl rfl ?_
          refine w_iconst dX1_turn_45 ?_
          refine w_iadd dX1_turn_46 ?_
          refine w_istore_n (lv' := [_, _, _]) dX1_turn_47 rfl (Nat.le_of_ble_eq_true rfl) rfl rfl ?_
          have := two j (by omega) (by omega) hrs (j + 1) (by omega) (by omega) (u1 ba 9 (u1 (ba 9) j ((p j : Int) + 1))) rfl rfl rfl (fun t ht => by
            show u1 (ba 9) j _ t = _
            rw [u1_n (by omega)]; exact hq t (by omega)) (fun t x y => by
            show u1 (ba 9) j _ t = _
            rw [show t = j by omega, u1_s]
            omega)
          push_cast at this
          exact this
  refine sp_wp rfl (lv := [_, _, _]) rfl (Nat.le_of_ble_eq_true rfl) ?_
  refine w_aload_n dX1_turn_0 rfl rfl ?_
  refine w_getf fX1_50 dX1_turn_1 CU0 rfl ?_
  rw [h7]
  refine w_iconst dX1_turn_4 ?_
  refine w_isub dX1_turn_5 ?_
  refine w_istore_n (lv' := [_, _, _]) dX1_turn_6 rfl (Nat.le_of_ble_eq_true rfl) rfl rfl ?_
  exact one K (Nat.le_refl _) (fun i x y => by omega) jk

