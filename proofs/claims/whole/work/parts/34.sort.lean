theorem wx_VP {Y : MT} {pc : Nat} {lv st : List Value} {h : HP} {rc rs : Nat} {Φ : Option Value → HP → Prop} {r : Nat} {A : Nat → Int} {ia : Nat → Nat → Int} {fi : Nat → Int} {h0 : HP} {Z : MT} {idx n ci a : Nat} {fs : List Value} {As rest : List Value} {v : Value} (hM : sp Z (.ref a :: As) h 0 0 (pr (some v) r A ia fi h0)) (ho : h.2 a = some (.inr (ci, fs))) (hci : (vwCl[ci]?).map (fun q => q.1) = some Z.1.cls) (hB : CB Z n) (w1 : Cond.methodLink Y.1.cls idx Z.1 ∈ gw) (w2 : Cond.instanceMethod Z.1 ∈ gw) (w3 : Cond.selects Z.1.cls Z.1 Z.1 ∈ gw) (hd : decode Y.2.1 pc = .ok (.invokevirtual idx, 3)) (hst : st = As.reverse ++ .ref a :: rest) (hn : As.length = n) (hlen : lv.length = Y.2.2.1) (hw : (rest.map fun v => v.category).sum ≤ 8) (hfr : RM Y Z) (kk : ∀ (ia' : Nat → Nat → Int) (la' : Nat → Nat → BitVec 64) (fi' : Nat → Int) (fl' : Nat → BitVec 64), (ia' 2 = ia 2 ∧ ia' 3 = ia 3 ∧ ia' 4 = ia 4 ∧ fi' 4 = fi 4 ∧ fi' 5 = fi 5 ∧ fi' 6 = fi 6) → wp Y (pc + 3) lv (v :: rest) (RH r A ia' la' fi' fl' h0) rc rs Φ) : wp Y pc lv st h rc rs Φ :=
  w_callV hM ho hci hB w1 w2 w3 hd hst hn hlen hw hfr (Nat.zero_le _) (Nat.zero_le _) (fun v' h' q => by obtain ⟨rfl, ia', la', fi', fl', hk, rfl⟩ := q; exact kk ia' la' fi' fl' hk)
def keep3 (ia ia' : Nat → Nat → Int) : Prop := ia' 2 = ia 2 ∧ ia' 3 = ia 3 ∧ ia' 4 = ia 4
theorem pr_end3 {v w : Option Value} {r : Nat} {A A1 : Nat → Int} {ia ia1 : Nat → Nat → Int} {la1 : Nat → Nat → BitVec 64} {fi fi1 : Nat → Int} {fl1 : Nat → BitVec 64} {h0 : HP} (hw : v = w) (hA : A1 = A) (k2 : keep3 ia ia1) (k5 : fi1 4 = fi 4) (k6 : fi1 5 = fi 5) (k7 : fi1 6 = fi 6) : pr w r A ia fi h0 v (RH r A1 ia1 la1 fi1 fl1 h0) := pr_end hw hA k2.1 k2.2.1 k2.2.2 k5 k6 k7
theorem keep3.u {ia ia' : Nat → Nat → Int} {k : Nat} {q : Nat → Int} (h : keep3 ia ia') (hk : 5 ≤ k) : keep3 ia (u1 ia' k q) := ⟨(u1_n (by omega)).trans h.1, (u1_n (by omega)).trans h.2.1, (u1_n (by omega)).trans h.2.2⟩
def srtP (c : Nat → BitVec 64) (M : Nat → BitVec 32) (m s : Nat) (x : BitVec 64) : Prop := if s = 0 then lstP M x else if s = 3 then plF c m 65 x = 0#64 else if s = 1 then ∀ i, i < m → ¬ pop (c i &&& x) = 1 else ∀ i, i < m → ¬ pop (c i &&& x) % 2 = 1
theorem pks_hi {p : Nat → Nat} {n : Nat} (hn : n ≤ 64) : ∀ {k : Nat}, (∀ i, i < k → p i < n) → ∀ t, (pks p k).getLsbD t = true → t < n
  | 0, _, t, h => by unfold pks at h; simp at h
  | k + 1, hp, t, h => by
    unfold pks at h
    rw [BitVec.getLsbD_or, bit1o (by have := hp k (by omega); omega)] at h
    simp at h
    rcases h with h | h
    · exact pks_hi hn (fun i hi => hp i (by omega)) t h
    · rw [h]; exact hp k (by omega)
set_option maxRecDepth 4000 in
theorem c_isSort {r : Nat} {A : Nat → Int} {ia : Nat → Nat → Int} {la : Nat → Nat → BitVec 64} {fi : Nat → Int} {fl : Nat → BitVec 64} {h0 : HP} {L R C : Nat} {x : BitVec 64} {s : Nat} (hV : VC A L R C) (hS : SETS A ia la L R C) (hs : s < 4) (hx : ∀ i, x.getLsbD i = true → i < L * C) : sp mX10_isSort [.ref r, .long (lB x), .int (zI (s : Int))] (RH r A ia la fi fl h0) 0 0 (pd (some (.int (zI (bI (dP (srtP (cs A L C) (fun b => hgB (cs A L C) b (L * R)) (L * R) s x) = true))))) (RH r A ia la fi fl h0)) := by
  obtain ⟨v1, v2, v3, v4, v5, v6, v7⟩ := id hV
  have hLRn := mulLe (a := L) (b := R) (x := 6) (y := 4) (by omega) (by omega)
  have hLCn := mulLe (a := L) (b := C) (x := 6) (y := 8) (by omega) (by omega)
  have hLR : (L : Int) * R = ((L * R : Nat) : Int) := by push_cast; rfl
  refine sp_wp rfl (lv := [_, _, _, _, _, _]) rfl (Nat.le_of_ble_eq_true rfl) ?_
  refine w_iload_n dX10_isSort_0 rfl rfl ?_
  refine w_if_ne 10 dX10_isSort_1 (by decide) (by unfold ok32; omega) (fun hs0 => ?_) (fun hs0 => ?_)
  rotate_left
  · have e : s = 0 := by omega
    subst e
    refine w_aload_n dX10_isSort_4 rfl rfl ?_
    refine w_lload_n dX10_isSort_5 rfl rfl ?_
    refine wc_V (Z := mX10_isLeast) (As := [_]) (c_isLeast hS.2 hLCn hx) RH0 rfl kX10_isLeast lX10_283 iX10_isLeast vX10_isLeast dX10_isSort_6 rfl rfl rfl (Nat.le_of_ble_eq_true rfl) ⟨Nat.le_of_ble_eq_true rfl, Nat.le_of_ble_eq_true rfl⟩ ?_
    refine x_iret rfl (by first | rfl | exact bI_nar _) dX10_isSort_9 ⟨?_, rfl⟩
    rfl
  · refine w_iload_n dX10_isSort_10 rfl rfl ?_
    refine w_iconst dX10_isSort_11 ?_
    refine w_icmp_ne 31 dX10_isSort_12 (by decide) (by unfold ok32; omega) (by unfold ok32; omega) (fun hs3 => ?_) (fun hs3 => ?_)
    rotate_left
    · have e : s = 3 := by omega
      subst e
      refine w_aload_n dX10_isSort_15 rfl rfl ?_
      refine w_lload_n dX10_isSort_16 rfl rfl ?_
      refine wc_V (Z := mX10_peelLaid) (As := [_]) (c_peelLaid hV hS.1) RH0 rfl kX10_peelLaid lX10_286 iX10_peelLaid vX10_peelLaid dX10_isSort_17 rfl rfl rfl (Nat.le_of_ble_eq_true rfl) ⟨Nat.le_of_ble_eq_true rfl, Nat.le_of_ble_eq_true rfl⟩ ?_
      refine w_lconst0 dX10_isSort_20 ?_
      refine w_lc_ne 29 dX10_isSort_21 dX10_isSort_22 (by decide) (fun hz => ?_) (fun hz => ?_)
      · refine w_iconst dX10_isSort_29 ?_
        refine x_iret rfl (by rfl) dX10_isSort_30 ⟨?_, rfl⟩
        rw [bI_f (p := dP (srtP (cs A L C) (fun b => hgB (cs A L C) b (L * R)) (L * R) 3 x) = true) (fun z => hz (dP_iff.mp z))]
      · refine w_iconst dX10_isSort_25 ?_
        refine w_goto 30 dX10_isSort_26 (by decide) ?_
        refine x_iret rfl (by rfl) dX10_isSort_30 ⟨?_, rfl⟩
        rw [bI_t (p := dP (srtP (cs A L C) (fun b => hgB (cs A L C) b (L * R)) (L * R) 3 x) = true) (dP_iff.mpr hz)]
    · refine w_iconst dX10_isSort_31 ?_
      refine w_istore (lv' := [_, _, _, _, _, _]) dX10_isSort_32 (Nat.le_of_ble_eq_true rfl) rfl rfl ?_
      have key : ∀ c : Nat, c ≤ L * R → (∀ i, i < c → if s = 1 then ¬ pop (cs A L C i &&& x) = 1 else ¬ pop (cs A L C i &&& x) % 2 = 1) → ∀ x5 : Value, wp mX10_isSort 34 [.ref r, .long (lB x), jk, .int (zI (s : Int)), .int (zI (c : Int)), x5] [] (RH r A ia la fi fl h0) 0 0 (pd (some (.int (zI (bI (dP (srtP (cs A L C) (fun b => hgB (cs A L C) b (L * R)) (L * R) s x) = true))))) (RH r A ia la fi fl h0)) := by
        refine up_ind (N := L * R) (fun c hc ih => ?_)
        intro hall x5
        refine w_iload dX10_isSort_34 rfl ?_
        refine w_aload_n dX10_isSort_36 rfl rfl ?_
        refine wc_V (Z := mX10_checks) (As := []) c_checks RH0 rfl kX10_checks lX10_74 iX10_checks vX10_checks dX10_isSort_37 rfl rfl rfl (Nat.le_of_ble_eq_true rfl) ⟨Nat.le_of_ble_eq_true rfl, Nat.le_of_ble_eq_true rfl⟩ ?_
        rw [v1, v2, hLR]
        refine w_icmp_ge 87 dX10_isSort_40 (by decide) (by unfold ok32; omega) (by unfold ok32; omega) (fun hn => ?_) (fun hn => ?_)
        · refine w_iconst dX10_isSort_87 ?_
          refine x_iret rfl (by rfl) dX10_isSort_88 ⟨?_, rfl⟩
          rw [bI_t (dP_iff.mpr ?_)]
          unfold srtP
          rw [if_neg (by omega), if_neg (by omega)]
          by_cases h1 : s = 1
          · rw [if_pos h1]
            intro i hi
            have := hall i (by omega)
            rw [if_pos h1] at this
            exact this
          · rw [if_neg h1]
            intro i hi
            have := hall i (by omega)
            rw [if_neg h1] at this
            exact this
        · have hpl := pop_le (cs A L C c &&& x)
          have more : (if s = 1 then ¬ pop (cs A L C c &&& x) = 1 else ¬ pop (cs A L C c &&& x) % 2 = 1) → ∀ i, i < c + 1 → if s = 1 then ¬ pop (cs A L C i &&& x) = 1 else ¬ pop (cs A L C i &&& x) % 2 = 1 := by
            intro h i hi
            by_cases hic : i = c
            · rw [hic]; exact h
            · exact hall i (by omega)
          have none0 : ¬ (if s = 1 then ¬ pop (cs A L C c &&& x) = 1 else ¬ pop (cs A L C c &&& x) % 2 = 1) → bI (dP (srtP (cs A L C) (fun b => hgB (cs A L C) b (L * R)) (L * R) s x) = true) = 0 := by
            intro h
            rw [bI_f (fun z => h ?_)]
            have z2 := dP_iff.mp z
            unfold srtP at z2
            rw [if_neg (by omega), if_neg (by omega)] at z2
            by_cases h1 : s = 1
            · rw [if_pos h1] at z2 ⊢; exact z2 c (by omega)
            · rw [if_neg h1] at z2 ⊢; exact z2 c (by omega)
          refine w_aload_n dX10_isSort_43 rfl rfl ?_
          refine w_getf fX10_39 dX10_isSort_44 RH0 rfl ?_
          refine w_iload dX10_isSort_47 rfl ?_
          refine w_lald c RH8 rfl (by omega) (by decide) dX10_isSort_49 ?_
          rw [hS.1 c (by omega)]
          refine w_lload_n dX10_isSort_50 rfl rfl ?_
          refine w_land dX10_isSort_51 ?_
          refine wc_S (Z := mX10_many) (As := [_]) c_many kX10_many lX10_87 sX10_many dX10_isSort_52 rfl rfl rfl (Nat.le_of_ble_eq_true rfl) ⟨Nat.le_of_ble_eq_true rfl, Nat.le_of_ble_eq_true rfl⟩ ?_
          refine w_istore (lv' := [_, _, _, _, _, _]) dX10_isSort_55 (Nat.le_of_ble_eq_true rfl) rfl rfl ?_
          refine w_iload_n dX10_isSort_57 rfl rfl ?_
          refine w_iconst dX10_isSort_58 ?_
          refine w_icmp_ne 71 dX10_isSort_59 (by decide) (by unfold ok32; omega) (by unfold ok32; omega) (fun h1 => ?_) (fun h1 => ?_)
          · refine w_iload dX10_isSort_71 rfl ?_
            refine w_iconst dX10_isSort_73 ?_
            refine w_irem dX10_isSort_74 (by unfold ok32; omega) (by omega) (by omega) (by unfold ok32; omega) ?_
            refine w_iconst dX10_isSort_75 ?_
            refine w_icmp_ne 81 dX10_isSort_76 (by decide) (by unfold ok32; omega) (by unfold ok32; omega) (fun h3 => ?_) (fun h3 => ?_)
            · refine w_iinc (lv' := [_, _, _, _, _, _]) dX10_isSort_81 rfl rfl rfl ?_
              refine w_goto 34 dX10_isSort_84 (by decide) ?_
              exact ih (by omega) (more (by rw [if_neg (by omega)]; omega)) _
            · refine w_iconst dX10_isSort_79 ?_
              refine x_iret rfl (by rfl) dX10_isSort_80 ⟨?_, rfl⟩
              rw [none0 (by rw [if_neg (by omega)]; omega)]
          · refine w_iload dX10_isSort_62 rfl ?_
            refine w_iconst dX10_isSort_64 ?_
            refine w_icmp_ne 81 dX10_isSort_65 (by decide) (by unfold ok32; omega) (by unfold ok32; omega) (fun h3 => ?_) (fun h3 => ?_)
            · refine w_iinc (lv' := [_, _, _, _, _, _]) dX10_isSort_81 rfl rfl rfl ?_
              refine w_goto 34 dX10_isSort_84 (by decide) ?_
              exact ih (by omega) (more (by rw [if_pos (by omega)]; omega)) _
            · refine w_goto 79 dX10_isSort_68 (by decide) ?_
              refine w_iconst dX10_isSort_79 ?_
              refine x_iret rfl (by rfl) dX10_isSort_80 ⟨?_, rfl⟩
              rw [none0 (by rw [if_pos (by omega)]; omega)]
      exact key 0 (Nat.zero_le _) (fun i hi => absurd hi (by omega)) jk
noncomputable def cnS (c : Nat → BitVec 64) (M : Nat → BitVec 32) (n m s k : Nat) : Nat := (cm n 0 k 0#64).countP (fun x => dP (srtP c M m s x))
set_option maxRecDepth 4000 in
theorem c_counted {r : Nat} {A : Nat → Int} {ia : Nat → Nat → Int} {la : Nat → Nat → BitVec 64} {fi : Nat → Int} {fl : Nat → BitVec 64} {h0 : HP} {L R C : Nat} {z : Int} {s : Nat} (hT : TOP A L R C) (hz : ok32 z) (hs : s < 4) : sp mX10_counted [.ref r, .int (zI z), .int (zI (s : Int))] (RH r A ia la fi fl h0) 0 0 (pr (some (.int (zI (if 1 ≤ z ∧ z ≤ 4 then ((cnS (cs A L C) (fun b => hgB (cs A L C) b (L * R)) (L * C) (L * R) s z.toNat : Nat) : Int) else -1)))) r A ia fi h0) := by
  obtain ⟨hI, hV, hS, h2⟩ := id hT
  obtain ⟨v1, v2, v3, v4, v5, v6, v7⟩ := id hV
  have h1 : 0 ≤ A 1 ∧ A 1 ≤ 20 := hI 1
  have h20 : 0 ≤ A 2 ∧ A 2 ≤ 20 := hI 2
  have hLCn := mulLe (a := L) (b := C) (x := 6) (y := 8) (by omega) (by omega)
  have hLRn := mulLe (a := L) (b := R) (x := 6) (y := 4) (by omega) (by omega)
  have hLC : (L : Int) * C ≤ 48 := by exact_mod_cast hLCn
  have hLC0 : (0 : Int) ≤ (L : Int) * C := by exact_mod_cast Nat.zero_le (L * C)
  have hLR : (L : Int) * R ≤ 24 := by exact_mod_cast hLRn
  have hLR0 : (0 : Int) ≤ (L : Int) * R := by exact_mod_cast Nat.zero_le (L * R)
  refine sp_wp rfl (lv := [_, _, _, _, _]) rfl (Nat.le_of_ble_eq_true rfl) ?_
  refine w_iload_n dX10_counted_0 rfl rfl ?_
  refine w_iconst dX10_counted_1 ?_
  refine w_iconst dX10_counted_2 ?_
  refine wc_S (Z := mX10_isIn) (As := [_, _, _]) (c_isIn hz (by unfold ok32; omega) (by unfold ok32; omega)) kX10_isIn lX10_70 sX10_isIn dX10_counted_3 rfl rfl rfl (Nat.le_of_ble_eq_true rfl) ⟨Nat.le_of_ble_eq_true rfl, Nat.le_of_ble_eq_true rfl⟩ ?_
  refine w_ifb_ne 11 dX10_counted_6 (by decide) (fun hc => ?_) (fun hc => ?_)
  rotate_left
  · refine w_iconst dX10_counted_9 ?_
    refine x_iret rfl rfl dX10_counted_10 (pr_end ?_ rfl rfl rfl rfl rfl rfl rfl)
    rw [if_neg hc]
  · rw [if_pos hc]
    obtain ⟨k, hk⟩ : ∃ k : Nat, z = (k : Int) := ⟨z.toNat, by omega⟩
    subst hk
    rw [Int.toNat_natCast]
    have key : ∀ (l : List (BitVec 64)) (cnt : Nat) (ia1 : Nat → Nat → Int) (la1 : Nat → Nat → BitVec 64), keep3 ia ia1 → SETS A ia1 la1 L R C → PK (L * C) k (ia1 9) l → cnt + l.countP (fun x => dP (srtP (cs A L C) (fun b => hgB (cs A L C) b (L * R)) (L * R) s x)) = cnS (cs A L C) (fun b => hgB (cs A L C) b (L * R)) (L * C) (L * R) s k → wp mX10_counted 24 [.ref r, .int (zI (k : Int)), .int (zI (s : Int)), .int (zI (cnt : Int)), .int (zI (bI (¬ l = [])))] [] (RH r A ia1 la1 fi fl h0) 0 0 (pr (some (.int (zI (((cnS (cs A L C) (fun b => hgB (cs A L C) b (L * R)) (L * C) (L * R) s k : Nat) : Int))))) r A ia fi h0) := by
      intro l
      induction l with
      | nil =>
        intro cnt ia1 la1 k3 hS1 hP hcnt
        refine w_iload dX10_counted_24 rfl ?_
        refine w_ifb_eq 60 dX10_counted_26 (by decide) (fun hne => ?_) (fun hne => ?_)
        · refine w_iload_n dX10_counted_60 rfl rfl ?_
          refine x_iret rfl rfl dX10_counted_61 (pr_end3 ?_ rfl k3 rfl rfl rfl)
          rw [List.countP_nil] at hcnt
          rw [← hcnt]
          rfl
        · exact absurd rfl hne
      | cons y l ih =>
        intro cnt ia1 la1 k3 hS1 hP hcnt
        obtain ⟨p, p1, p2, p3⟩ := hP.resolve_left (List.cons_ne_nil _ _)
        have hn : ∀ i, i < k → p i < L * C := fun i hi => by have := p2 i hi; omega
        have ey : y = pks p k := (List.cons.inj p3).1
        have el : l = rsL (L * C) k p k := (List.cons.inj p3).2
        refine w_iload dX10_counted_24 rfl ?_
        refine w_ifb_eq 60 dX10_counted_26 (by decide) (fun hne => ?_) (fun hne => ?_)
        · exact absurd (List.cons_ne_nil _ _) hne
        · refine w_iload_n dX10_counted_29 rfl rfl ?_
          refine w_aload_n dX10_counted_30 rfl rfl ?_
          refine w_aload_n dX10_counted_31 rfl rfl ?_
          refine w_iload_n dX10_counted_32 rfl rfl ?_
          refine wc_V (Z := mX10_pickedSet) (As := [_]) (c_pickedSet (by omega) p1 (fun i hi => by have := hn i hi; omega)) RH0 rfl kX10_pickedSet lX10_292 iX10_pickedSet vX10_pickedSet dX10_counted_33 rfl rfl rfl (Nat.le_of_ble_eq_true rfl) ⟨Nat.le_of_ble_eq_true rfl, Nat.le_of_ble_eq_true rfl⟩ ?_
          refine w_iload_n dX10_counted_36 rfl rfl ?_
          refine wc_V (Z := mX10_isSort) (As := [_, _]) (c_isSort hV hS1 hs (pks_hi (by omega) hn)) RH0 rfl kX10_isSort lX10_295 iX10_isSort vX10_isSort dX10_counted_37 rfl rfl rfl (Nat.le_of_ble_eq_true rfl) ⟨Nat.le_of_ble_eq_true rfl, Nat.le_of_ble_eq_true rfl⟩ ?_
          rw [List.countP_cons, ey] at hcnt
          have tail : ∀ cnt2 : Nat, cnt2 + l.countP (fun x => dP (srtP (cs A L C) (fun b => hgB (cs A L C) b (L * R)) (L * R) s x)) = cnS (cs A L C) (fun b => hgB (cs A L C) b (L * R)) (L * C) (L * R) s k → wp mX10_counted 50 [.ref r, .int (zI (k : Int)), .int (zI (s : Int)), .int (zI (cnt2 : Int)), .int (zI (bI (¬ y :: l = [])))] [] (RH r A ia1 la1 fi fl h0) 0 0 (pr (some (.int (zI (((cnS (cs A L C) (fun b => hgB (cs A L C) b (L * R)) (L * C) (L * R) s k : Nat) : Int))))) r A ia fi h0) := by
            intro cnt2 hc2
            refine w_aload_n dX10_counted_50 rfl rfl ?_
            refine w_iload_n dX10_counted_51 rfl rfl ?_
            refine wx_V (Z := mX10_isNext) (As := [_]) (c_isNext hV (by omega) p1 p2) RH0 rfl kX10_isNext lX10_298 iX10_isNext vX10_isNext dX10_counted_52 rfl rfl rfl (Nat.le_of_ble_eq_true rfl) ⟨Nat.le_of_ble_eq_true rfl, Nat.le_of_ble_eq_true rfl⟩ (fun q hq => ?_)
            rw [← el] at hq ⊢
            refine w_istore (lv' := [_, _, _, _, _]) dX10_counted_55 (Nat.le_of_ble_eq_true rfl) rfl rfl ?_
            refine w_goto 24 dX10_counted_57 (by decide) ?_
            exact ih cnt2 _ _ (k3.u (by omega)) ⟨hS1.1, fun b hb => by rw [u1_n (by omega)]; exact hS1.2 b hb⟩ (by rw [u1_s]; exact hq) hc2
          refine w_ifb_eq 47 dX10_counted_40 (by decide) (fun hd => ?_) (fun hd => ?_)
          · refine w_iconst dX10_counted_47 ?_
            refine w_iadd dX10_counted_48 ?_
            refine w_istore_n (lv' := [_, _, _, _, _]) dX10_counted_49 rfl (Nat.le_of_ble_eq_true rfl) rfl rfl ?_
            rw [show ((cnt : Int) + 0) = ((cnt : Nat) : Int) by omega]
            refine tail cnt ?_
            rw [if_neg hd] at hcnt
            omega
          · refine w_iconst dX10_counted_43 ?_
            refine w_goto 48 dX10_counted_44 (by decide) ?_
            refine w_iadd dX10_counted_48 ?_
            refine w_istore_n (lv' := [_, _, _, _, _]) dX10_counted_49 rfl (Nat.le_of_ble_eq_true rfl) rfl rfl ?_
            rw [show ((cnt : Int) + 1) = ((cnt + 1 : Nat) : Int) by omega]
            refine tail (cnt + 1) ?_
            rw [if_pos hd] at hcnt
            omega
    refine w_aload_n dX10_counted_11 rfl rfl ?_
    refine wx_Vv (Z := mX10_laySets) (As := []) (c_laySets hV) RH0 rfl kX10_laySets lX10_280 iX10_laySets vX10_laySets dX10_counted_12 rfl rfl rfl (Nat.le_of_ble_eq_true rfl) ⟨Nat.le_of_ble_eq_true rfl, Nat.le_of_ble_eq_true rfl⟩ (fun q hq => ?_)
    refine w_iconst dX10_counted_15 ?_
    refine w_istore_n (lv' := [_, _, _, _, _]) dX10_counted_16 rfl (Nat.le_of_ble_eq_true rfl) rfl rfl ?_
    refine w_aload_n dX10_counted_17 rfl rfl ?_
    refine w_iload_n dX10_counted_18 rfl rfl ?_
    refine wx_V (Z := mX10_isFirst) (As := [_]) (c_isFirst hV (by omega)) RH0 rfl kX10_isFirst lX10_289 iX10_isFirst vX10_isFirst dX10_counted_19 rfl rfl rfl (Nat.le_of_ble_eq_true rfl) ⟨Nat.le_of_ble_eq_true rfl, Nat.le_of_ble_eq_true rfl⟩ (fun q2 hq2 => ?_)
    refine w_istore (lv' := [_, _, _, _, _]) dX10_counted_22 (Nat.le_of_ble_eq_true rfl) rfl rfl ?_
    refine key _ 0 _ _ ?_ ⟨hq.1, fun b hb => by rw [u1_n (by omega)]; exact hq.2 b hb⟩ (by rw [u1_s]; exact hq2) (by rw [Nat.zero_add]; rfl)
    exact keep3.u (keep3.u ⟨rfl, rfl, rfl⟩ (by omega)) (by omega)
theorem c_knots {r : Nat} {A : Nat → Int} {ia : Nat → Nat → Int} {la : Nat → Nat → BitVec 64} {fi : Nat → Int} {fl : Nat → BitVec 64} {h0 : HP} {L R C : Nat} {z : Int} (hT : TOP A L R C) (hz : ok32 z) : sp mX10_knots [.ref r, .int (zI z)] (RH r A ia la fi fl h0) 0 0 (pr (some (.int (zI (if 1 ≤ z ∧ z ≤ 4 then ((cnS (cs A L C) (fun b => hgB (cs A L C) b (L * R)) (L * C) (L * R) 0 z.toNat : Nat) : Int) else -1)))) r A ia fi h0) := by
  refine sp_wp rfl (lv := [_, _]) rfl (Nat.le_of_ble_eq_true rfl) ?_
  refine w_aload_n dX10_knots_0 rfl rfl ?_
  refine w_iload_n dX10_knots_1 rfl rfl ?_
  refine w_iconst dX10_knots_2 ?_
  refine wx_VP (Z := mX10_counted) (As := [_, _]) (c_counted (s := 0) hT hz (by omega)) RH0 rfl kX10_counted lX10_301 iX10_counted vX10_counted dX10_knots_3 rfl rfl rfl (Nat.le_of_ble_eq_true rfl) ⟨Nat.le_of_ble_eq_true rfl, Nat.le_of_ble_eq_true rfl⟩ (fun ia1 la1 fi1 fl1 hk => ?_)
  refine x_iret rfl rfl dX10_knots_6 (pr_end rfl rfl hk.1 hk.2.1 hk.2.2.1 hk.2.2.2.1 hk.2.2.2.2.1 hk.2.2.2.2.2)
theorem c_stoppers {r : Nat} {A : Nat → Int} {ia : Nat → Nat → Int} {la : Nat → Nat → BitVec 64} {fi : Nat → Int} {fl : Nat → BitVec 64} {h0 : HP} {L R C : Nat} {z : Int} (hT : TOP A L R C) (hz : ok32 z) : sp mX10_stoppers [.ref r, .int (zI z)] (RH r A ia la fi fl h0) 0 0 (pr (some (.int (zI (if 1 ≤ z ∧ z ≤ 4 then ((cnS (cs A L C) (fun b => hgB (cs A L C) b (L * R)) (L * C) (L * R) 1 z.toNat : Nat) : Int) else -1)))) r A ia fi h0) := by
  refine sp_wp rfl (lv := [_, _]) rfl (Nat.le_of_ble_eq_true rfl) ?_
  refine w_aload_n dX10_stoppers_0 rfl rfl ?_
  refine w_iload_n dX10_stoppers_1 rfl rfl ?_
  refine w_iconst dX10_stoppers_2 ?_
  refine wx_VP (Z := mX10_counted) (As := [_, _]) (c_counted (s := 1) hT hz (by omega)) RH0 rfl kX10_counted lX10_301 iX10_counted vX10_counted dX10_stoppers_3 rfl rfl rfl (Nat.le_of_ble_eq_true rfl) ⟨Nat.le_of_ble_eq_true rfl, Nat.le_of_ble_eq_true rfl⟩ (fun ia1 la1 fi1 fl1 hk => ?_)
  refine x_iret rfl rfl dX10_stoppers_6 (pr_end rfl rfl hk.1 hk.2.1 hk.2.2.1 hk.2.2.2.1 hk.2.2.2.2.1 hk.2.2.2.2.2)
theorem c_words {r : Nat} {A : Nat → Int} {ia : Nat → Nat → Int} {la : Nat → Nat → BitVec 64} {fi : Nat → Int} {fl : Nat → BitVec 64} {h0 : HP} {L R C : Nat} {z : Int} (hT : TOP A L R C) (hz : ok32 z) : sp mX10_words [.ref r, .int (zI z)] (RH r A ia la fi fl h0) 0 0 (pr (some (.int (zI (if 1 ≤ z ∧ z ≤ 4 then ((cnS (cs A L C) (fun b => hgB (cs A L C) b (L * R)) (L * C) (L * R) 2 z.toNat : Nat) : Int) else -1)))) r A ia fi h0) := by
  refine sp_wp rfl (lv := [_, _]) rfl (Nat.le_of_ble_eq_true rfl) ?_
  refine w_aload_n dX10_words_0 rfl rfl ?_
  refine w_iload_n dX10_words_1 rfl rfl ?_
  refine w_iconst dX10_words_2 ?_
  refine wx_VP (Z := mX10_counted) (As := [_, _]) (c_counted (s := 2) hT hz (by omega)) RH0 rfl kX10_counted lX10_301 iX10_counted vX10_counted dX10_words_3 rfl rfl rfl (Nat.le_of_ble_eq_true rfl) ⟨Nat.le_of_ble_eq_true rfl, Nat.le_of_ble_eq_true rfl⟩ (fun ia1 la1 fi1 fl1 hk => ?_)
  refine x_iret rfl rfl dX10_words_6 (pr_end rfl rfl hk.1 hk.2.1 hk.2.2.1 hk.2.2.2.1 hk.2.2.2.2.1 hk.2.2.2.2.2)
theorem c_erasable {r : Nat} {A : Nat → Int} {ia : Nat → Nat → Int} {la : Nat → Nat → BitVec 64} {fi : Nat → Int} {fl : Nat → BitVec 64} {h0 : HP} {L R C : Nat} {z : Int} (hT : TOP A L R C) (hz : ok32 z) : sp mX10_erasable [.ref r, .int (zI z)] (RH r A ia la fi fl h0) 0 0 (pr (some (.int (zI (if 1 ≤ z ∧ z ≤ 4 then ((cnS (cs A L C) (fun b => hgB (cs A L C) b (L * R)) (L * C) (L * R) 3 z.toNat : Nat) : Int) else -1)))) r A ia fi h0) := by
  refine sp_wp rfl (lv := [_, _]) rfl (Nat.le_of_ble_eq_true rfl) ?_
  refine w_aload_n dX10_erasable_0 rfl rfl ?_
  refine w_iload_n dX10_erasable_1 rfl rfl ?_
  refine w_iconst dX10_erasable_2 ?_
  refine wx_VP (Z := mX10_counted) (As := [_, _]) (c_counted (s := 3) hT hz (by omega)) RH0 rfl kX10_counted lX10_301 iX10_counted vX10_counted dX10_erasable_3 rfl rfl rfl (Nat.le_of_ble_eq_true rfl) ⟨Nat.le_of_ble_eq_true rfl, Nat.le_of_ble_eq_true rfl⟩ (fun ia1 la1 fi1 fl1 hk => ?_)
  refine x_iret rfl rfl dX10_erasable_6 (pr_end rfl rfl hk.1 hk.2.1 hk.2.2.1 hk.2.2.2.1 hk.2.2.2.2.1 hk.2.2.2.2.2)

