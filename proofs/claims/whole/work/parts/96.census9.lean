/-! the census: is there a smaller knot -/
def sKn (M : Nat → BitVec 32) (p : Nat → Nat) (n : Nat) : Prop := ∃ w, 1 ≤ w ∧ w < 2 ^ n - 1 ∧ pKn M p w n
noncomputable def sKb (M : Nat → BitVec 32) (p : Nat → Nat) (n : Nat) : Int := @bI (sKn M p n) (Classical.propDecidable _)
theorem sKb_t {M : Nat → BitVec 32} {p : Nat → Nat} {n : Nat} (h : sKn M p n) : sKb M p n = 1 := @bI_t _ (Classical.propDecidable _) h
theorem sKb_f {M : Nat → BitVec 32} {p : Nat → Nat} {n : Nat} (h : ¬ sKn M p n) : sKb M p n = 0 := @bI_f _ (Classical.propDecidable _) h
theorem sKb_0 {M : Nat → BitVec 32} {p : Nat → Nat} {n : Nat} : sKb M p n = 0 ↔ ¬ sKn M p n := ⟨fun h z => by rw [sKb_t z] at h; omega, sKb_f⟩
theorem sKb_ok {M : Nat → BitVec 32} {p : Nat → Nat} {n : Nat} : ok32 (sKb M p n) := @bI_ok _ (Classical.propDecidable _)
set_option maxRecDepth 8000 in
theorem c1_anySmallerKnot {a c : Nat} {ba : Nat → Nat → Int} {bi : Nat → Int} {bf : Nat → Nat} {h0 : HP} {B : Nat → Int} {L R C n : Nat} {p : Nat → Nat} (hC : CDQ (outC a) h0 c B L R C) (hb : bf 0 = c) (hn : n ≤ 4) (h8 : bi 8 = (n : Int)) (hp : ∀ i, i < n → ba 9 i = (p i : Int) ∧ p i < L * C) : sp mX1_anySmallerKnot [.ref a] (CUH a ba bi bf h0) 0 0 (pd (some (.int (zI (sKb (fun b => hgB (cs B L C) b (L * R)) p n)))) (CUH a ba bi bf h0)) := by
  have hkn := fun (w : Nat) (hw : w < 16) => c1_isKnot (ba := ba) (bi := bi) (p := p) (n := n) (w := w) hC hb hn h8 hw (fun i hi _ => hp i hi)
  obtain ⟨M, hM⟩ : ∃ M, (fun b => hgB (cs B L C) b (L * R)) = M := ⟨_, rfl⟩
  rw [hM] at hkn ⊢
  have hpw := pw_lt n (by omega)
  obtain ⟨T, hT⟩ : ∃ T, 2 ^ n - 1 = T := ⟨_, rfl⟩
  have hpw1 := pw1 n (by omega)
  rw [hT] at hpw hpw1
  refine sp_wp rfl (lv := [_, _, _]) rfl (Nat.le_of_ble_eq_true rfl) ?_
  refine w_iconst dX1_anySmallerKnot_0 ?_
  refine w_aload_n dX1_anySmallerKnot_1 rfl rfl ?_
  refine w_getf fX1_46 dX1_anySmallerKnot_2 CU0 rfl ?_
  rw [h8]
  refine w_ishlR dX1_anySmallerKnot_5 ?_
  refine w_iconst dX1_anySmallerKnot_6 ?_
  refine w_isubR dX1_anySmallerKnot_7 ?_
  rw [hpw1]
  refine w_istore_n (lv' := [_, _, _]) dX1_anySmallerKnot_8 rfl (Nat.le_of_ble_eq_true rfl) rfl rfl ?_
  refine w_iconst dX1_anySmallerKnot_9 ?_
  refine w_istore_n (lv' := [_, _, _]) dX1_anySmallerKnot_10 rfl (Nat.le_of_ble_eq_true rfl) rfl rfl ?_
  have fin : ∀ (w : Nat), T ≤ w → (∀ u, 1 ≤ u → u < w → ¬ pKn M p u n) → wp mX1_anySmallerKnot 32 [.ref a, .int (zI (T : Int)), .int (zI (w : Int))] [] (CUH a ba bi bf h0) 0 0 (pd (some (.int (zI (sKb M p n)))) (CUH a ba bi bf h0)) := by
    intro w hw hall
    rw [sKb_f (fun z => by
      obtain ⟨u, u1, u2, u3⟩ := z
      exact hall u u1 (by omega) u3)]
    refine w_iconst dX1_anySmallerKnot_32 ?_
    exact x_iret rfl rfl dX1_anySmallerKnot_33 ⟨rfl, rfl⟩
  have lp : ∀ (f w : Nat), 17 ≤ f + w → 1 ≤ w → w ≤ 16 → (∀ u, 1 ≤ u → u < w → ¬ pKn M p u n) → wp mX1_anySmallerKnot 11 [.ref a, .int (zI (T : Int)), .int (zI (w : Int))] [] (CUH a ba bi bf h0) 0 0 (pd (some (.int (zI (sKb M p n)))) (CUH a ba bi bf h0)) := by
    intro f
    induction f with
    | zero => intro w hf h1 h16; omega
    | succ f ih =>
      intro w hf h1 h16 hall
      refine w_iload_n dX1_anySmallerKnot_11 rfl rfl ?_
      refine w_iload_n dX1_anySmallerKnot_12 rfl rfl ?_
      refine w_icmp_ge 32 dX1_anySmallerKnot_13 (by decide) (by first | assumption | (unfold ok32 at *; omega)) (by first | assumption | (unfold ok32 at *; omega)) (fun hc => ?_) (fun hc => ?_)
      · exact fin w (by omega) hall
      · have hwT : w < T := by omega
        refine w_aload_n dX1_anySmallerKnot_16 rfl rfl ?_
        refine w_iload_n dX1_anySmallerKnot_17 rfl rfl ?_
        refine wc_V (Z := mX1_isKnot) (As := [_]) (hkn w (by omega)) CU0 rfl kX1_isKnot lX1_105 iX1_isKnot vX1_isKnot dX1_anySmallerKnot_18 rfl rfl rfl (Nat.le_of_ble_eq_true rfl) ⟨Nat.le_of_ble_eq_true rfl, Nat.le_of_ble_eq_true rfl⟩ ?_
        refine w_if_eq 26 dX1_anySmallerKnot_21 (by decide) pKb_ok (fun hd => ?_) (fun hd => ?_)
        · refine w_iinc (lv' := [_, _, _]) dX1_anySmallerKnot_26 rfl rfl rfl ?_
          refine w_goto 11 dX1_anySmallerKnot_29 (by decide) ?_
          have := ih (w + 1) (by omega) (by omega) (by omega) (fun u u1 u2 => by
            by_cases huw : u = w
            · rw [huw]; exact pKb_0.mp hd
            · exact hall u u1 (by omega))
          push_cast at this
          exact this
        · rw [sKb_t ⟨w, h1, by omega, Classical.byContradiction fun z => hd (pKb_0.mpr z)⟩]
          refine w_iconst dX1_anySmallerKnot_24 ?_
          exact x_iret rfl rfl dX1_anySmallerKnot_25 ⟨rfl, rfl⟩
  exact lp 16 1 (by omega) (by omega) (by omega) (fun u u1 u2 => by omega)

