/-- a public method's end: the answer, the row a; image, texts, tape and the latest fault as they were -/
def pr (w : Option Value) (r : Nat) (A' : Nat → Int) (ia : Nat → Nat → Int) (fi : Nat → Int) (h0 : HP) : Option Value → HP → Prop := fun v h' => v = w ∧ ∃ (ia' : Nat → Nat → Int) (la' : Nat → Nat → BitVec 64) (fi' : Nat → Int) (fl' : Nat → BitVec 64), (ia' 2 = ia 2 ∧ ia' 3 = ia 3 ∧ ia' 4 = ia 4 ∧ fi' 4 = fi 4 ∧ fi' 5 = fi 5 ∧ fi' 6 = fi 6) ∧ h' = RH r A' ia' la' fi' fl' h0
theorem pr_end {v w : Option Value} {r : Nat} {A A1 : Nat → Int} {ia ia1 : Nat → Nat → Int} {la1 : Nat → Nat → BitVec 64} {fi fi1 : Nat → Int} {fl1 : Nat → BitVec 64} {h0 : HP} (hw : v = w) (hA : A1 = A) (k2 : ia1 2 = ia 2) (k3 : ia1 3 = ia 3) (k4 : ia1 4 = ia 4) (k5 : fi1 4 = fi 4) (k6 : fi1 5 = fi 5) (k7 : fi1 6 = fi 6) : pr w r A ia fi h0 v (RH r A1 ia1 la1 fi1 fl1 h0) := ⟨hw, ia1, la1, fi1, fl1, ⟨k2, k3, k4, k5, k6, k7⟩, by rw [hA]⟩
def TOP (A : Nat → Int) (L R C : Nat) : Prop := INV A ∧ VC A L R C ∧ SCN A R ∧ A 2 < 20
theorem kpA_n {A : Nat → Int} {k : Nat} (h1 : 3 ≤ k) (h2 : k < 433) : kpA A k = A k := by
  unfold kpA
  split
  · rw [u1_n (by omega), fillR_n (by omega), u1_n (by omega), u1_n (by omega)]
  · rw [u1_n (by omega), fillR_n (by omega)]
theorem loS {k : Nat} (hk : 433 ≤ k) : loA k = -2147483648 := by unfold loA; (repeat' split) <;> omega
theorem hiS {k : Nat} (hk : 433 ≤ k) : hiA k = 2147483647 := by unfold hiA; (repeat' split) <;> omega
theorem kpA_i {A : Nat → Int} (hI : INV A) (h2 : A 2 < 20) : INV (kpA A) ∧ kpA A 2 < 20 := by
  have h1 : 0 ≤ A 1 ∧ A 1 ≤ 20 := hI 1
  have h20 : 0 ≤ A 2 ∧ A 2 ≤ 20 := hI 2
  have hok : ∀ i, -2147483648 ≤ A (3 + i) ∧ A (3 + i) ≤ 2147483647 := fun i => by have := hI.ok (3 + i); unfold ok32 at this; omega
  unfold kpA
  split
  · refine ⟨INV.put (INV.fill (INV.put (INV.put hI (show (0 : Int) ≤ (A 2 + 1) % 20 ∧ (A 2 + 1) % 20 ≤ 20 by omega)) ⟨by decide, by decide⟩) (fun i hi => ?_)) ⟨by decide, by decide⟩, ?_⟩
    · rw [loS (by omega), hiS (by omega)]; exact hok i
    · rw [u1_n (by omega), fillR_n (by omega), u1_n (by omega), u1_s]; omega
  · refine ⟨INV.put (INV.fill hI (fun i hi => ?_)) (show (0 : Int) ≤ A 1 + 1 ∧ A 1 + 1 ≤ 20 by omega), ?_⟩
    · rw [loS (by omega), hiS (by omega)]; exact hok i
    · rw [u1_n (by omega), fillR_n (by omega)]; exact h2
theorem VC.of {A B : Nat → Int} {L R C : Nat} (hV : VC A L R C) (h : ∀ k, 3 ≤ k → k < 46 → ¬ (8 ≤ k ∧ k ≤ 13) → B k = A k) : VC B L R C := by
  obtain ⟨v1, v2, v3, v4, v5, v6, v7⟩ := hV
  exact ⟨by rw [h 3 (by omega) (by omega) (by omega)]; exact v1, by rw [h 4 (by omega) (by omega) (by omega)]; exact v2, by rw [h 5 (by omega) (by omega) (by omega)]; exact v3, v4, v5, v6, fun k hk => by rw [h (14 + k) (by omega) (by omega) (by omega)]; exact v7 k hk⟩
theorem SCN.of {A B : Nat → Int} {R : Nat} (hS : SCN A R) (h : ∀ k, 9 ≤ k → k < 433 → k ≠ 12 → k < 14 ∨ 385 ≤ k → B k = A k) : SCN B R := by
  obtain ⟨s1, s2, s3, s4⟩ := hS
  refine ⟨by rw [h 13 (by omega) (by omega) (by omega) (by omega)]; exact s1, by rw [h 11 (by omega) (by omega) (by omega) (by omega)]; exact s2, ?_, fun b hb => ?_⟩
  · rw [h 9 (by omega) (by omega) (by omega) (by omega), h 10 (by omega) (by omega) (by omega) (by omega)]; exact s3
  · rw [h (385 + b) (by omega) (by omega) (by omega) (by omega), h 10 (by omega) (by omega) (by omega) (by omega), h 11 (by omega) (by omega) (by omega) (by omega)]; exact s4 b hb
theorem kpA_top {A : Nat → Int} {L R C : Nat} (h : TOP A L R C) : TOP (kpA A) L R C :=
  ⟨(kpA_i h.1 h.2.2.2).1, h.2.1.of (fun k h1 h2 _ => kpA_n h1 (by omega)), h.2.2.1.of (fun k h1 h2 _ _ => kpA_n (by omega) h2), (kpA_i h.1 h.2.2.2).2⟩
theorem bgA_i {A : Nat → Int} {m : Int} {L R C : Nat} (hI : INV A) (hm : 0 ≤ m ∧ m ≤ 1) : INV (bgA A m L R C) := by
  refine INV.put ?_ (by have := bI_rng (oddN (cs A L C) (gset (fun b => A (48 + b)) (L * C)) (L * R) = 0); exact ⟨this.1, Int.le_trans this.2 (by decide)⟩)
  intro k
  unfold bg0
  split
  · rename_i h; subst h; exact hm
  · split
    · rename_i h; rcases h with h | h <;> subst h <;> exact ⟨by decide, by decide⟩
    · split
      · rename_i h
        have h1 := hI.he (k := k - 96) (by omega)
        rw [show 48 + (k - 96) = k - 48 by omega] at h1
        rw [show k = 96 + (k - 96) by omega, loB (by omega), hiB (by omega), show 96 + (k - 96) - 48 = k - 48 by omega]
        omega
      · split
        · rename_i h
          have h1 : loA k ≤ 0 := by unfold loA; (repeat' split) <;> omega
          have h2 : 0 ≤ hiA k := by unfold hiA; (repeat' split) <;> omega
          exact ⟨h1, h2⟩
        · exact hI k
theorem bgA_n {A : Nat → Int} {m : Int} {L R C k : Nat} (h : k < 96 ∨ 433 ≤ k) (h0 : k ≠ 9) (h1 : k ≠ 8) (h2 : k ≠ 10) (h3 : k ≠ 11) : bgA A m L R C k = A k := by
  unfold bgA
  rw [u1_n h0, bg0_n h h1 h2 h3]
theorem bgA_top {A : Nat → Int} {m : Int} {L R C : Nat} (hI : INV A) (hV : VC A L R C) (h13 : A 13 < fac R) (h2 : A 2 < 20) (hm : 0 ≤ m ∧ m ≤ 1) : TOP (bgA A m L R C) L R C := by
  refine ⟨bgA_i hI hm, hV.of (fun k a1 a2 a3 => bgA_n (by omega) (by omega) (by omega) (by omega) (by omega)), ⟨?_, ?_, fun _ => ?_, fun b hb => ?_⟩, ?_⟩
  · rw [bgA_n (by omega) (by omega) (by omega) (by omega) (by omega)]; exact h13
  · have := hV.2.2.2.2.1
    show u1 _ _ _ 11 < _
    rw [u1_n (by omega)]
    show (0 : Int) < R
    omega
  · show u1 _ _ _ 10 < _
    rw [u1_n (by omega)]
    show (0 : Int) < 20
    decide
  · show u1 _ _ _ _ ≤ 4 * u1 _ _ _ 10 + u1 _ _ _ 11
    rw [u1_n (by omega), u1_n (by omega), u1_n (by omega)]
    have e : bg0 A m (385 + b) = 0 := by
      unfold bg0
      rw [if_neg (by omega), if_neg (by omega), if_neg (by omega), if_pos (by omega)]
    rw [e]
    show (0 : Int) ≤ 4 * 0 + 0
    decide
  · rw [bgA_n (by omega) (by omega) (by omega) (by omega) (by omega)]; exact h2
theorem cm0_i {A : Nat → Int} (hI : INV A) : INV (cm0 A) := by
  unfold cm0 putS
  refine INV.fill (INV.put (INV.put (INV.put hI ⟨by decide, by decide⟩) ?_) ?_) (fun i hi => ?_)
  · have := ok32_of (zI (BitVec.toInt 0#64)); exact this
  · have := ok32_of (zI (BitVec.toInt (BitVec.sshiftRight 0#64 32))); exact this
  · have h1 : loA (48 + i) ≤ 0 := by unfold loA; (repeat' split) <;> omega
    have h2 : 0 ≤ hiA (48 + i) := by unfold hiA; (repeat' split) <;> omega
    exact ⟨h1, h2⟩
theorem fac_pos (R : Nat) : 0 < fac R := by
  induction R with
  | zero => decide
  | succ n ih => unfold fac; exact Nat.mul_pos (by omega) ih
theorem cmA_top {A : Nat → Int} {L R C : Nat} (hI : INV A) (hV : VC A L R C) (h2 : A 2 < 20) : TOP (cmA A L R C) L R C := by
  refine bgA_top (cm0_i hI) (cm0_s.vc hV) ?_ ?_ ⟨by decide, by decide⟩
  · unfold cm0 putS
    rw [fillR_n (by omega), u1_n (by omega), u1_n (by omega), u1_s]
    exact_mod_cast fac_pos R
  · unfold cm0 putS
    rw [fillR_n (by omega), u1_n (by omega), u1_n (by omega), u1_n (by omega)]
    exact h2

