/-! the census: erasables -/
def KEP (ba g : Nat → Nat → Int) (k : Nat) : Prop := g 8 = ba 8 ∧ g 10 = ba 10 ∧ g 11 = ba 11 ∧ ∀ i, i < k → g 9 i = ba 9 i
set_option maxRecDepth 8000 in
theorem c1_countErasables {a c : Nat} {ba : Nat → Nat → Int} {bi : Nat → Int} {bf : Nat → Nat} {h0 : HP} {B : Nat → Int} {L R C k f : Nat} {p : Nat → Nat} {Q : BitVec 64 → Bool} (hC : CDQ (outC a) h0 c B L R C) (hb : bf 0 = c) (hk : k ≤ 3) (h7 : bi 7 = (k : Int)) (h8 : bi 8 = (k : Int) + 1) (hp : ∀ i, i < k → ba 9 i = (p i : Int) ∧ p i < L * C) (hs : SUMS (fun b => hgB (cs B L C) b (L * R)) p k ba) (hf : f = if k = 0 then 0 else p (k - 1) + 1) (hQ : ∀ b, f ≤ b → b < L * C → (Q (pks p k ||| (1#64 <<< b)) = true ↔ (¬ hgB (cs B L C) b (L * R) &&& ~~~ psm (fun b => hgB (cs B L C) b (L * R)) p k = 0#32 ∨ plL (fun b => hgB (cs B L C) b (L * R)) (u1 p k b) (k + 1) (2 ^ (k + 1) - 1) (k + 1) = 0))) : sp mX1_countErasables [.ref a] (CUH a ba bi bf h0) 0 0 (px (some (.int (zI (((if plL (fun b => hgB (cs B L C) b (L * R)) p (k + 1) (2 ^ k - 1) (k + 1) = 0 then (cm (L * C) f 1 (pks p k)).countP Q else 0 : Nat) : Int))))) (fun g : Nat → Nat → Int => KEP ba g k) (fun g => CUH a g bi bf h0)) := by
  have h8' : bi 8 = ((k + 1 : Nat) : Int) := by rw [h8]; push_cast; rfl
  have hpe := fun (g : Nat → Nat → Int) (w : Nat) (q : Nat → Nat) => c1_peelsAway (ba := g) (bi := bi) (n := k + 1) (w := w) (p := q) hC hb (by omega) h8'
  obtain ⟨ad, f7, f8, f10, f9, f11, rk, cr, hV, h6, h7', o_c0, r70, r80, r90, r100, r110, e7, e8, e9, e10, hRD, p0, p7, p8, p9, p10, p11⟩ := id hC
  obtain ⟨v1, v2, v3, v4, v5, v6, v7⟩ := id hV
  have hLC := mulLe (a := L) (b := C) (x := 6) (y := 8) (by omega) (by omega)
  have o_c : ∀ {g : Nat → Nat → Int}, (CUH a g bi bf h0).2 c = some (.inr (2, cfs L R C (B 6) (B 7) ad rk cr)) := CUo p0 o_c0
  have r_10 : ∀ {g : Nat → Nat → Int}, (CUH a g bi bf h0).2 (ad 10) = some (aI 48 f10) := CUo p10 r100
  obtain ⟨M, hM⟩ : ∃ M, (fun b => hgB (cs B L C) b (L * R)) = M := ⟨_, rfl⟩
  have hMb : ∀ b, hgB (cs B L C) b (L * R) = M b := fun b => by rw [← hM]
  have e10' : ∀ b, b < L * C → f10 b = (M b).toInt := fun b hb => by rw [← hMb]; exact e10 b hb
  rw [hM] at hs hQ hpe ⊢
  obtain ⟨N, hN⟩ : ∃ N, L * C = N := ⟨_, rfl⟩
  rw [hN] at hp hQ hLC e10' hpe ⊢
  have hfN : f ≤ N := by
    rw [hf]
    split
    · omega
    · have := (hp (k - 1) (by omega)).2
      omega
  have hsk := (hs k (Nat.le_refl _)).2
  refine sp_wp rfl (lv := [_, _, _]) rfl (Nat.le_of_ble_eq_true rfl) ?_
  refine w_aload_n dX1_countErasables_0 rfl rfl ?_
  refine w_iconst dX1_countErasables_1 ?_
  refine w_aload_n dX1_countErasables_2 rfl rfl ?_
  refine w_getf fX1_50 dX1_countErasables_3 CU0 rfl ?_
  rw [h7]
  refine w_ishlR dX1_countErasables_6 ?_
  refine w_iconst dX1_countErasables_7 ?_
  refine w_isubR dX1_countErasables_8 ?_
  rw [pw1 k (by omega)]
  refine wc_V (Z := mX1_peelsAway) (As := [_]) (hpe ba (2 ^ k - 1) p (pw_lt k (by omega)) (fun i _ ht => by rw [Nat.testBit_two_pow_sub_one] at ht; exact hp i (of_decide_eq_true ht))) CU0 rfl kX1_peelsAway lX1_88 iX1_peelsAway vX1_peelsAway dX1_countErasables_9 rfl rfl rfl (Nat.le_of_ble_eq_true rfl) ⟨Nat.le_of_ble_eq_true rfl, Nat.le_of_ble_eq_true rfl⟩ ?_
  refine w_ifb_ne 17 dX1_countErasables_12 (by decide) (fun h0' => ?_) (fun h0' => ?_)
  rotate_left
  · rw [if_neg h0']
    refine w_iconst dX1_countErasables_15 ?_
    exact x_iret rfl rfl dX1_countErasables_16 ⟨rfl, ba, ⟨rfl, rfl, rfl, fun _ _ => rfl⟩, rfl⟩
  · rw [if_pos h0']
    refine w_iconst dX1_countErasables_17 ?_
    refine w_istore_n (lv' := [_, _, _]) dX1_countErasables_18 rfl (Nat.le_of_ble_eq_true rfl) rfl rfl ?_
    refine w_aload_n dX1_countErasables_19 rfl rfl ?_
    refine wc_V (Z := mX1_firstLast) (As := []) (c1_firstLast hk h7 (fun i hi => (hp i hi).1)) CU0 rfl kX1_firstLast lX1_81 iX1_firstLast vX1_firstLast dX1_countErasables_20 rfl rfl rfl (Nat.le_of_ble_eq_true rfl) ⟨Nat.le_of_ble_eq_true rfl, Nat.le_of_ble_eq_true rfl⟩ ?_
    rw [← hf]
    refine w_istore_n (lv' := [_, _, _]) dX1_countErasables_23 rfl (Nat.le_of_ble_eq_true rfl) rfl rfl ?_
    have lp : ∀ b, b ≤ N → f ≤ b → ∀ (n : Nat) (g : Nat → Nat → Int), KEP ba g k → n + (cm N b 1 (pks p k)).countP Q = (cm N f 1 (pks p k)).countP Q → wp mX1_countErasables 24 [.ref a, .int (zI (n : Int)), .int (zI (b : Int))] [] (CUH a g bi bf h0) 0 0 (px (some (.int (zI (((cm N f 1 (pks p k)).countP Q : Nat) : Int)))) (fun g : Nat → Nat → Int => KEP ba g k) (fun g => CUH a g bi bf h0)) := by
      refine up_ind (P := fun b => f ≤ b → ∀ (n : Nat) (g : Nat → Nat → Int), KEP ba g k → n + (cm N b 1 (pks p k)).countP Q = (cm N f 1 (pks p k)).countP Q → wp mX1_countErasables 24 [.ref a, .int (zI (n : Int)), .int (zI (b : Int))] [] (CUH a g bi bf h0) 0 0 (px (some (.int (zI (((cm N f 1 (pks p k)).countP Q : Nat) : Int)))) (fun g : Nat → Nat → Int => KEP ba g k) (fun g => CUH a g bi bf h0))) (fun b hbN ih hfb n g hg hn => ?_)
      refine w_iload_n dX1_countErasables_24 rfl rfl ?_
      refine w_aload_n dX1_countErasables_25 rfl rfl ?_
      refine w_getf fX1_35 dX1_countErasables_26 CU0 rfl ?_
      rw [hb]
      refine w_getf fX1_53 dX1_countErasables_29 o_c rfl ?_
      rw [hN]
      refine w_icmp_ge 93 dX1_countErasables_32 (by decide) (by first | assumption | (unfold ok32 at *; omega)) (by first | assumption | (unfold ok32 at *; omega)) (fun hc => ?_) (fun hc => ?_)
      · have : b = N := by omega
        subst this
        rw [cm_nil (by omega) (by omega)] at hn
        replace hn : n = _ := hn
        refine w_iload_n dX1_countErasables_93 rfl rfl ?_
        exact x_iret rfl rfl dX1_countErasables_94 ⟨by rw [hn], g, hg, rfl⟩
      · have hbl : b < N := by omega
        rw [cm_1 hbl, List.countP_cons] at hn
        have hq := hQ b hfb hbl
        rw [hMb] at hq
        refine w_aload_n dX1_countErasables_35 rfl rfl ?_
        refine w_getf fX1_26 dX1_countErasables_36 CU0 rfl ?_
        refine w_aload_n dX1_countErasables_39 rfl rfl ?_
        refine w_getf fX1_50 dX1_countErasables_40 CU0 rfl ?_
        rw [h7]
        refine w_iload_n dX1_countErasables_43 rfl rfl ?_
        refine cu_ist9 k rfl (by omega) dX1_countErasables_44 ?_
        obtain ⟨g', hg'⟩ : ∃ g', u1 g 9 (u1 (g 9) k (b : Int)) = g' := ⟨_, rfl⟩
        have k9 : g' 9 = u1 (g 9) k (b : Int) := by rw [← hg', u1_s]
        have hK' : KEP ba g' k := by
          refine ⟨?_, ?_, ?_, fun i hi => ?_⟩
          · rw [← hg']; exact hg.1
          · rw [← hg']; exact hg.2.1
          · rw [← hg']; exact hg.2.2.1
          · rw [k9, u1_n (by omega)]; exact hg.2.2.2 i hi
        have hall : ∀ i, i < k + 1 → g' 9 i = ((u1 p k b i : Nat) : Int) ∧ u1 p k b i < N := fun i hi => by
          by_cases hik : i = k
          · rw [hik, k9, u1_s, u1_s]; exact ⟨rfl, hbl⟩
          · rw [hK'.2.2.2 i (by omega), u1_n hik]; exact hp i (by omega)
        rw [hg']
        have yes : Q (pks p k ||| (1#64 <<< b)) = true → wp mX1_countErasables 84 [.ref a, .int (zI (n : Int)), .int (zI (b : Int))] [] (CUH a g' bi bf h0) 0 0 (px (some (.int (zI (((cm N f 1 (pks p k)).countP Q : Nat) : Int)))) (fun g : Nat → Nat → Int => KEP ba g k) (fun g => CUH a g bi bf h0)) := by
          intro hy
          rw [if_pos hy] at hn
          refine w_iinc (lv' := [_, _, _]) dX1_countErasables_84 rfl rfl rfl ?_
          refine w_iinc (lv' := [_, _, _]) dX1_countErasables_87 rfl rfl rfl ?_
          refine w_goto 24 dX1_countErasables_90 (by decide) ?_
          have := ih hbl (by omega) (n + 1) g' hK' (by omega)
          push_cast at this
          exact this
        refine w_aload_n dX1_countErasables_45 rfl rfl ?_
        refine w_getf fX1_35 dX1_countErasables_46 CU0 rfl ?_
        rw [hb]
        refine w_getf fX1_78 dX1_countErasables_49 o_c rfl ?_
        refine w_iload_n dX1_countErasables_52 rfl rfl ?_
        refine w_iald b r_10 rfl (by omega) (by decide) dX1_countErasables_53 ?_
        rw [e10' b hbl, zB]
        refine w_aload_n dX1_countErasables_54 rfl rfl ?_
        refine w_getf fX1_32 dX1_countErasables_55 CU0 rfl ?_
        refine w_aload_n dX1_countErasables_58 rfl rfl ?_
        refine w_getf fX1_50 dX1_countErasables_59 CU0 rfl ?_
        rw [h7]
        refine w_iald k CU11 rfl (by omega) (by decide) dX1_countErasables_62 ?_
        rw [hK'.2.2.1, hsk, zB]
        refine w_iconst dX1_countErasables_63 ?_
        refine w_ixorR dX1_countErasables_64 ?_
        refine w_iandR dX1_countErasables_65 ?_
        rw [iB_not, iB_and, iBz (M b &&& ~~~ psm M p k)]
        refine w_if_ne 84 dX1_countErasables_66 (by decide) (ok32_of (iB _)) (fun he => ?_) (fun he => ?_)
        · rw [toInt_0] at he
          exact yes (hq.2 (Or.inl he))
        · rw [toInt_0] at he
          refine w_aload_n dX1_countErasables_69 rfl rfl ?_
          refine w_iconst dX1_countErasables_70 ?_
          refine w_aload_n dX1_countErasables_71 rfl rfl ?_
          refine w_getf fX1_46 dX1_countErasables_72 CU0 rfl ?_
          rw [h8']
          refine w_ishlR dX1_countErasables_75 ?_
          refine w_iconst dX1_countErasables_76 ?_
          refine w_isubR dX1_countErasables_77 ?_
          rw [pw1 (k + 1) (by omega)]
          refine wc_V (Z := mX1_peelsAway) (As := [_]) (hpe g' (2 ^ (k + 1) - 1) (u1 p k b) (pw_lt (k + 1) (by omega)) (fun i hi _ => hall i hi)) CU0 rfl kX1_peelsAway lX1_88 iX1_peelsAway vX1_peelsAway dX1_countErasables_78 rfl rfl rfl (Nat.le_of_ble_eq_true rfl) ⟨Nat.le_of_ble_eq_true rfl, Nat.le_of_ble_eq_true rfl⟩ ?_
          refine w_ifb_eq 87 dX1_countErasables_81 (by decide) (fun hj => ?_) (fun hj => ?_)
          · rw [if_neg (fun z => (hq.1 z).elim (fun y => y he) hj)] at hn
            refine w_iinc (lv' := [_, _, _]) dX1_countErasables_87 rfl rfl rfl ?_
            refine w_goto 24 dX1_countErasables_90 (by decide) ?_
            have := ih hbl (by omega) n g' hK' (by omega)
            push_cast at this
            exact this
          · exact yes (hq.2 (Or.inr hj))
    exact lp f hfN (Nat.le_refl _) 0 ba ⟨rfl, rfl, rfl, fun _ _ => rfl⟩ (by omega)

