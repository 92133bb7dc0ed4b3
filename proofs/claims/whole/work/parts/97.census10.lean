/-! the census: what peels away -/
theorem prc : ∀ w : Nat, w < 16 → ∀ k : Nat, k < 4 → w.testBit k = true → zI (w : Int) &&& (zI 1 <<< (zI (k : Int) &&& 31) ^^^ zI (-1)) = zI ((w - 2 ^ k : Nat) : Int) := by decide
theorem pri : ∀ x : Nat, x < 16 → ∀ k : Nat, k < 4 → x.testBit k = true → ∀ i : Nat, i < 4 → (x - 2 ^ k).testBit i = true → x.testBit i = true := by decide
def lfP (M : Nat → BitVec 32) (p : Nat → Nat) (J : BitVec 32) (w : Nat) : Nat → Nat
  | 0 => w
  | k + 1 => if (lfP M p J w k).testBit k = true ∧ ¬ M (p k) &&& J = 0#32 then lfP M p J w k - 2 ^ k else lfP M p J w k
def plL (M : Nat → BitVec 32) (p : Nat → Nat) (n w : Nat) : Nat → Nat
  | 0 => w
  | r + 1 => lfP M p (jst M p (plL M p n w r) n) (plL M p n w r) n
theorem lfP_le {M : Nat → BitVec 32} {p : Nat → Nat} {J : BitVec 32} {w : Nat} : ∀ {k : Nat}, lfP M p J w k ≤ w
  | 0 => Nat.le_refl _
  | k + 1 => by
    have := lfP_le (M := M) (p := p) (J := J) (w := w) (k := k)
    unfold lfP
    split
    · exact Nat.le_trans (Nat.sub_le _ _) this
    · exact this
theorem lfP_sub {M : Nat → BitVec 32} {p : Nat → Nat} {J : BitVec 32} {w : Nat} (hw : w < 16) : ∀ {k : Nat}, k ≤ 4 → ∀ i, i < 4 → (lfP M p J w k).testBit i = true → w.testBit i = true
  | 0, _, i, _, h => h
  | k + 1, hk, i, hi, h => by
    have hl := lfP_le (M := M) (p := p) (J := J) (w := w) (k := k)
    unfold lfP at h
    split at h
    · rename_i q
      exact lfP_sub hw (by omega) i hi (pri _ (by omega) k (by omega) q.1 i hi h)
    · exact lfP_sub hw (by omega) i hi h
theorem plL_le {M : Nat → BitVec 32} {p : Nat → Nat} {n w : Nat} : ∀ {r : Nat}, plL M p n w r ≤ w
  | 0 => Nat.le_refl _
  | r + 1 => Nat.le_trans lfP_le plL_le
theorem plL_sub {M : Nat → BitVec 32} {p : Nat → Nat} {n w : Nat} (hw : w < 16) (hn : n ≤ 4) : ∀ {r : Nat}, ∀ i, i < 4 → (plL M p n w r).testBit i = true → w.testBit i = true
  | 0, i, _, h => h
  | r + 1, i, hi, h => by
    have hl := plL_le (M := M) (p := p) (n := n) (w := w) (r := r)
    exact plL_sub hw hn i hi (lfP_sub (by omega) hn i hi h)
theorem plL_z {M : Nat → BitVec 32} {p : Nat → Nat} {n w r : Nat} (h : plL M p n w r = 0) : ∀ {d : Nat}, plL M p n w (r + d) = 0
  | 0 => h
  | d + 1 => by
    have h1 := plL_z (d := d) h
    have h2 : plL M p n w (r + (d + 1)) ≤ plL M p n w (r + d) := lfP_le
    omega
set_option maxRecDepth 8000 in
theorem c1_peelsAway {a c : Nat} {ba : Nat → Nat → Int} {bi : Nat → Int} {bf : Nat → Nat} {h0 : HP} {B : Nat → Int} {L R C n w : Nat} {p : Nat → Nat} (hC : CDQ (outC a) h0 c B L R C) (hb : bf 0 = c) (hn : n ≤ 4) (h8 : bi 8 = (n : Int)) (hw : w < 16) (hp : ∀ i, i < n → w.testBit i = true → ba 9 i = (p i : Int) ∧ p i < L * C) : sp mX1_peelsAway [.ref a, .int (zI (w : Int))] (CUH a ba bi bf h0) 0 0 (pd (some (.int (zI (bI (plL (fun b => hgB (cs B L C) b (L * R)) p n w n = 0))))) (CUH a ba bi bf h0)) := by
  have hju := fun (x : Nat) (hx : x < 16) (hsub : ∀ i, i < 4 → x.testBit i = true → w.testBit i = true) => c1_justOnce (ba := ba) (bi := bi) (p := p) (n := n) (w := x) hC hb hn h8 hx (fun i hi ht => hp i hi (hsub i (by omega) ht))
  obtain ⟨ad, f7, f8, f10, f9, f11, rk, cr, hV, h6, h7', o_c0, r70, r80, r90, r100, r110, e7, e8, e9, e10, hRD, p0, p7, p8, p9, p10, p11⟩ := id hC
  obtain ⟨v1, v2, v3, v4, v5, v6, v7⟩ := id hV
  have hLC := mulLe (a := L) (b := C) (x := 6) (y := 8) (by omega) (by omega)
  have o_c : (CUH a ba bi bf h0).2 c = some (.inr (2, cfs L R C (B 6) (B 7) ad rk cr)) := CUo p0 o_c0
  have r_10 : (CUH a ba bi bf h0).2 (ad 10) = some (aI 48 f10) := CUo p10 r100
  obtain ⟨M, hM⟩ : ∃ M, (fun b => hgB (cs B L C) b (L * R)) = M := ⟨_, rfl⟩
  have hMb : ∀ b, hgB (cs B L C) b (L * R) = M b := fun b => by rw [← hM]
  have e10' : ∀ b, b < L * C → f10 b = (M b).toInt := fun b hb => by rw [← hMb]; exact e10 b hb
  rw [hM] at hju ⊢
  have fin : ∀ (x : Nat) (x3 x4 x5 : Value), x < 16 → (x = 0 ↔ plL M p n w n = 0) → wp mX1_peelsAway 86 [.ref a, .int (zI (w : Int)), .int (zI (x : Int)), x3, x4, x5] [] (CUH a ba bi bf h0) 0 0 (pd (some (.int (zI (bI (plL M p n w n = 0))))) (CUH a ba bi bf h0)) := by
    intro x x3 x4 x5 hx hxx
    refine w_iload_n dX1_peelsAway_86 rfl rfl ?_
    refine w_if_ne 94 dX1_peelsAway_87 (by decide) (by first | assumption | (unfold ok32 at *; omega)) (fun hc => ?_) (fun hc => ?_)
    · rw [bI_f (fun z => hc (by have := hxx.2 z; omega))]
      refine w_iconst dX1_peelsAway_94 ?_
      exact x_iret rfl rfl dX1_peelsAway_95 ⟨rfl, rfl⟩
    · rw [bI_t (hxx.1 (by omega))]
      refine w_iconst dX1_peelsAway_90 ?_
      refine w_goto 95 dX1_peelsAway_91 (by decide) ?_
      exact x_iret rfl rfl dX1_peelsAway_95 ⟨rfl, rfl⟩
  have rounds : ∀ r, r ≤ n → ∀ (x4 x5 : Value), wp mX1_peelsAway 4 [.ref a, .int (zI (w : Int)), .int (zI (plL M p n w r : Int)), .int (zI (r : Int)), x4, x5] [] (CUH a ba bi bf h0) 0 0 (pd (some (.int (zI (bI (plL M p n w n = 0))))) (CUH a ba bi bf h0)) := by
    refine up_ind (P := fun r => ∀ (x4 x5 : Value), wp mX1_peelsAway 4 [.ref a, .int (zI (w : Int)), .int (zI (plL M p n w r : Int)), .int (zI (r : Int)), x4, x5] [] (CUH a ba bi bf h0) 0 0 (pd (some (.int (zI (bI (plL M p n w n = 0))))) (CUH a ba bi bf h0))) (fun r hr ih x4 x5 => ?_)
    have hl := plL_le (M := M) (p := p) (n := n) (w := w) (r := r)
    have hsub := plL_sub (M := M) (p := p) (n := n) (w := w) (r := r) hw hn
    have hst : plL M p n w (r + 1) = lfP M p (jst M p (plL M p n w r) n) (plL M p n w r) n := rfl
    have hz := plL_z (M := M) (p := p) (n := n) (w := w) (r := r)
    obtain ⟨x, hx⟩ : ∃ x, plL M p n w r = x := ⟨_, rfl⟩
    rw [hx] at hl hsub hst hz ⊢
    refine w_iload_n dX1_peelsAway_4 rfl rfl ?_
    refine w_aload_n dX1_peelsAway_5 rfl rfl ?_
    refine w_getf fX1_46 dX1_peelsAway_6 CU0 rfl ?_
    rw [h8]
    refine w_icmp_ge 86 dX1_peelsAway_9 (by decide) (by first | assumption | (unfold ok32 at *; omega)) (by first | assumption | (unfold ok32 at *; omega)) (fun hc => ?_) (fun hc => ?_)
    · have er : r = n := by omega
      subst er
      exact fin x _ _ _ (by omega) (by rw [hx])
    · have hrn : r < n := by omega
      refine w_iload_n dX1_peelsAway_12 rfl rfl ?_
      refine w_if_eq 86 dX1_peelsAway_13 (by decide) (by first | assumption | (unfold ok32 at *; omega)) (fun hd => ?_) (fun hd => ?_)
      · refine fin x _ _ _ (by omega) ⟨fun z => ?_, fun _ => by omega⟩
        have := hz z (d := n - r)
        rw [show r + (n - r) = n by omega] at this
        exact this
      · refine w_aload_n dX1_peelsAway_16 rfl rfl ?_
        refine w_iload_n dX1_peelsAway_17 rfl rfl ?_
        refine wc_V (Z := mX1_justOnce) (As := [_]) (hju x (by omega) hsub) CU0 rfl kX1_justOnce lX1_84 iX1_justOnce vX1_justOnce dX1_peelsAway_18 rfl rfl rfl (Nat.le_of_ble_eq_true rfl) ⟨Nat.le_of_ble_eq_true rfl, Nat.le_of_ble_eq_true rfl⟩ ?_
        obtain ⟨J, hJ⟩ : ∃ J, jst M p x n = J := ⟨_, rfl⟩
        rw [hJ] at hst ⊢
        refine w_istore (lv' := [_, _, _, _, _, _]) dX1_peelsAway_21 (Nat.le_of_ble_eq_true rfl) rfl rfl ?_
        refine w_iconst dX1_peelsAway_23 ?_
        refine w_istore (lv' := [_, _, _, _, _, _]) dX1_peelsAway_24 (Nat.le_of_ble_eq_true rfl) rfl rfl ?_
        have inner : ∀ k, k ≤ n → wp mX1_peelsAway 26 [.ref a, .int (zI (w : Int)), .int (zI (lfP M p J x k : Int)), .int (zI (r : Int)), .int (iB J), .int (zI (k : Int))] [] (CUH a ba bi bf h0) 0 0 (pd (some (.int (zI (bI (plL M p n w n = 0))))) (CUH a ba bi bf h0)) := by
          refine up_ind (P := fun k => wp mX1_peelsAway 26 [.ref a, .int (zI (w : Int)), .int (zI (lfP M p J x k : Int)), .int (zI (r : Int)), .int (iB J), .int (zI (k : Int))] [] (CUH a ba bi bf h0) 0 0 (pd (some (.int (zI (bI (plL M p n w n = 0))))) (CUH a ba bi bf h0))) (fun k hk ih2 => ?_)
          have hl2 := lfP_le (M := M) (p := p) (J := J) (w := x) (k := k)
          refine w_iload dX1_peelsAway_26 rfl ?_
          refine w_aload_n dX1_peelsAway_28 rfl rfl ?_
          refine w_getf fX1_46 dX1_peelsAway_29 CU0 rfl ?_
          rw [h8]
          refine w_icmp_ge 80 dX1_peelsAway_32 (by decide) (by first | assumption | (unfold ok32 at *; omega)) (by first | assumption | (unfold ok32 at *; omega)) (fun he => ?_) (fun he => ?_)
          · have ek : k = n := by omega
            subst ek
            rw [← hst]
            refine w_iinc (lv' := [_, _, _, _, _, _]) dX1_peelsAway_80 rfl rfl rfl ?_
            refine w_goto 4 dX1_peelsAway_83 (by decide) ?_
            have := ih hrn (.int (iB J)) (.int (zI (k : Int)))
            push_cast at this
            exact this
          · have hkn : k < n := by omega
            have hs2 := lfP_sub (M := M) (p := p) (J := J) (w := x) (by omega) (show k ≤ 4 by omega) k (by omega)
            have skip : ¬ ((lfP M p J x k).testBit k = true ∧ ¬ M (p k) &&& J = 0#32) → wp mX1_peelsAway 74 [.ref a, .int (zI (w : Int)), .int (zI (lfP M p J x k : Int)), .int (zI (r : Int)), .int (iB J), .int (zI (k : Int))] [] (CUH a ba bi bf h0) 0 0 (pd (some (.int (zI (bI (plL M p n w n = 0))))) (CUH a ba bi bf h0)) := by
              intro hno
              have h3 := ih2 hkn
              have e3 : lfP M p J x (k + 1) = lfP M p J x k := if_neg hno
              rw [e3] at h3
              refine w_iinc (lv' := [_, _, _, _, _, _]) dX1_peelsAway_74 rfl rfl rfl ?_
              refine w_goto 26 dX1_peelsAway_77 (by decide) ?_
              push_cast at h3
              exact h3
            refine w_iload_n dX1_peelsAway_35 rfl rfl ?_
            refine w_iload dX1_peelsAway_36 rfl ?_
            refine w_ishrR dX1_peelsAway_38 ?_
            refine w_iconst dX1_peelsAway_39 ?_
            refine w_iandR dX1_peelsAway_40 ?_
            rw [prt (lfP M p J x k) (by omega) k (by omega)]
            by_cases ht : (lfP M p J x k).testBit k = true
            · rw [if_pos ht]
              obtain ⟨q1, q2⟩ := hp k hkn (hsub k (by omega) (hs2 ht))
              refine w_if_eq 74 dX1_peelsAway_41 (by decide) (by unfold ok32; omega) (fun hg => ?_) (fun hg => ?_)
              · omega
              · refine w_aload_n dX1_peelsAway_44 rfl rfl ?_
                refine w_getf fX1_35 dX1_peelsAway_45 CU0 rfl ?_
                rw [hb]
                refine w_getf fX1_78 dX1_peelsAway_48 o_c rfl ?_
                refine w_aload_n dX1_peelsAway_51 rfl rfl ?_
                refine w_getf fX1_26 dX1_peelsAway_52 CU0 rfl ?_
                refine w_iload dX1_peelsAway_55 rfl ?_
                refine w_iald k CU9 rfl (by omega) (by decide) dX1_peelsAway_57 ?_
                rw [q1]
                refine w_iald (p k) r_10 rfl (by omega) (by decide) dX1_peelsAway_58 ?_
                rw [e10' (p k) q2, zB]
                refine w_iload dX1_peelsAway_59 rfl ?_
                refine w_iandR dX1_peelsAway_61 ?_
                rw [iB_and, iBz (M (p k) &&& J)]
                refine w_if_eq 74 dX1_peelsAway_62 (by decide) (ok32_of (iB _)) (fun hj => ?_) (fun hj => ?_)
                · rw [toInt_0] at hj
                  exact skip (fun z => z.2 hj)
                · rw [toInt_0] at hj
                  refine w_iload_n dX1_peelsAway_65 rfl rfl ?_
                  refine w_iconst dX1_peelsAway_66 ?_
                  refine w_iload dX1_peelsAway_67 rfl ?_
                  refine w_ishlR dX1_peelsAway_69 ?_
                  refine w_iconst dX1_peelsAway_70 ?_
                  refine w_ixorR dX1_peelsAway_71 ?_
                  refine w_iandR dX1_peelsAway_72 ?_
                  rw [prc (lfP M p J x k) (by omega) k (by omega) ht]
                  refine w_istore_n (lv' := [_, _, _, _, _, _]) dX1_peelsAway_73 rfl (Nat.le_of_ble_eq_true rfl) rfl rfl ?_
                  have h3 := ih2 hkn
                  have e3 : lfP M p J x (k + 1) = lfP M p J x k - 2 ^ k := if_pos ⟨ht, hj⟩
                  rw [e3] at h3
                  refine w_iinc (lv' := [_, _, _, _, _, _]) dX1_peelsAway_74 rfl rfl rfl ?_
                  refine w_goto 26 dX1_peelsAway_77 (by decide) ?_
                  refine w_cast ?_ rfl rfl h3
                  push_cast
                  rfl
            · rw [if_neg ht]
              refine w_if_eq 74 dX1_peelsAway_41 (by decide) (by unfold ok32; omega) (fun hg => ?_) (fun hg => ?_)
              · exact skip (fun z => ht z.1)
              · omega
        exact inner 0 (Nat.zero_le _)
  refine sp_wp rfl (lv := [_, _, _, _, _, _]) rfl (Nat.le_of_ble_eq_true rfl) ?_
  refine w_iload_n dX1_peelsAway_0 rfl rfl ?_
  refine w_istore_n (lv' := [_, _, _, _, _, _]) dX1_peelsAway_1 rfl (Nat.le_of_ble_eq_true rfl) rfl rfl ?_
  refine w_iconst dX1_peelsAway_2 ?_
  refine w_istore_n (lv' := [_, _, _, _, _, _]) dX1_peelsAway_3 rfl (Nat.le_of_ble_eq_true rfl) rfl rfl ?_
  exact rounds 0 (Nat.zero_le _) jk jk

