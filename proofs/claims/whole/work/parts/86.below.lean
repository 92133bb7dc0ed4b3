/-! shifts that were read lie below the lift -/
def SLX (X : Nat → Int) (x : Nat) : Prop := ∀ r c : Nat, r < 4 → c < 8 → (r : Int) < X (x + 1) → (c : Int) < X (x + 2) → X (x + 5 + (8 * r + c)) < X x
theorem rwL_sl {T : Nat → Int} {n x r0 : Nat} : ∀ (f c : Nat) (X : Nat → Int) (y : LX), f + c = 10 → c ≤ 8 → X (x + 1) = (r0 : Int) + 1 → 1 ≤ X x → (∀ i, i < c → X (x + 5 + (8 * r0 + i)) < X x) → (∀ r i : Nat, r < r0 → r < 4 → i < 8 → (i : Int) < X (x + 2) → X (x + 5 + (8 * r + i)) < X x) → (rwL T n x (x + 5 + 8 * r0) f c X y).1 = 0 → SLX (rwL T n x (x + 5 + 8 * r0) f c X y).2.1 x := by
  intro f
  induction f with
  | zero => intro c X y hf hc; omega
  | succ f ih =>
    intro c X y hf hc h1 h0 hrow hold he
    unfold rwL at he ⊢
    by_cases e1 : y.2.2.1 = 1 ∨ y.2.2.1 = 46
    · rw [if_pos e1] at he ⊢
      by_cases e2 : y.2.2.1 = 1 ∧ X x ≤ y.2.2.2
      · rw [if_pos e2] at he
        replace he : (2 : Int) = 0 := he
        omega
      · rw [if_neg e2] at he ⊢
        by_cases e3 : c = 8
        · rw [if_pos e3] at he
          replace he : (3 : Int) = 0 := he
          omega
        · rw [if_neg e3] at he ⊢
          obtain ⟨w, hw⟩ : ∃ w : Int, (if y.2.2.1 = 46 then (-1 : Int) else y.2.2.2) = w := ⟨_, rfl⟩
          rw [hw] at he ⊢
          have hwx : w < X x := by
            rw [← hw]
            split
            · omega
            · omega
          refine ih (c + 1) (u1 X (x + 5 + 8 * r0 + c) w) (nt T n y.1) (by omega) (by omega) ?_ ?_ (fun i hi => ?_) (fun r i hr hr4 hi8 hi => ?_) he
          · rw [u1_n (by omega)]; exact h1
          · rw [u1_n (by omega)]; exact h0
          · rw [u1_n (show x ≠ x + 5 + 8 * r0 + c by omega)]
            by_cases hic : i = c
            · rw [hic, show x + 5 + (8 * r0 + c) = x + 5 + 8 * r0 + c by omega, u1_s]; exact hwx
            · rw [u1_n (by omega)]; exact hrow i (by omega)
          · rw [u1_n (show x + 2 ≠ x + 5 + 8 * r0 + c by omega)] at hi
            rw [u1_n (show x ≠ x + 5 + 8 * r0 + c by omega), u1_n (by omega)]
            exact hold r i hr hr4 hi8 hi
    · rw [if_neg e1] at he ⊢
      by_cases e2 : ¬ y.2.2.1 = 59 ∨ c = 0
      · rw [if_pos e2] at he
        replace he : (1 : Int) = 0 := he
        omega
      · rw [if_neg e2] at he ⊢
        by_cases e3 : X (x + 1) = 1
        · rw [if_pos e3] at he ⊢
          intro r i hr hi hr2 hi2
          replace hr2 : (r : Int) < u1 X (x + 2) (c : Int) (x + 1) := hr2
          replace hi2 : (i : Int) < u1 X (x + 2) (c : Int) (x + 2) := hi2
          show u1 X (x + 2) (c : Int) (x + 5 + (8 * r + i)) < u1 X (x + 2) (c : Int) x
          rw [u1_n (by omega)] at hr2
          rw [u1_s] at hi2
          rw [u1_n (by omega), u1_n (by omega)]
          have := hrow i (by omega)
          rw [show r = r0 by omega]
          exact this
        · rw [if_neg e3] at he ⊢
          have hcc : (c : Int) = X (x + 2) := by
            by_cases hq : (c : Int) = X (x + 2)
            · exact hq
            · rw [if_neg hq] at he
              replace he : (5 : Int) = 0 := he
              omega
          intro r i hr hi hr2 hi2
          replace hr2 : (r : Int) < X (x + 1) := hr2
          replace hi2 : (i : Int) < X (x + 2) := hi2
          show X (x + 5 + (8 * r + i)) < X x
          by_cases hrr : r = r0
          · rw [hrr]; exact hrow i (by omega)
          · exact hold r i (by omega) hr hi hi2
theorem rwC_sl {T X : Nat → Int} {n x : Nat} {y : LX} (x0 : 1 ≤ X x) (x1 : 0 ≤ X (x + 1)) (hS : SLX X x) (he : (rwC T n x X y).1 = 0) : SLX (rwC T n x X y).2.1 x := by
  unfold rwC at he ⊢
  by_cases h4 : X (x + 1) = 4
  · rw [if_pos h4] at he
    replace he : (3 : Int) = 0 := he
    omega
  · rw [if_neg h4] at he ⊢
    refine rwL_sl 10 0 _ _ (by omega) (by omega) ?_ ?_ (fun i hi => by omega) (fun r i hr hr4 hi8 hi => ?_) he
    · rw [u1_s]; omega
    · rw [u1_n (by omega)]; exact x0
    · rw [u1_n (by omega)] at hi
      rw [u1_n (by omega), u1_n (by omega)]
      exact hS r i hr4 hi8 (by omega) hi
theorem SLX.put {X : Nat → Int} {x k : Nat} {v : Int} (h : SLX X x) (hk : k = x + 3 ∨ k = x + 4) : SLX (u1 X k v) x := by
  intro r c hr hc h1 h2
  rw [u1_n (by omega)] at h1 h2
  rw [u1_n (by omega), u1_n (by omega)]
  exact h r c hr hc h1 h2
theorem clS_sl {T X : Nat → Int} {n x cl : Nat} {y : LX} {o s : Int} (x0 : 1 ≤ X x) (x1 : 0 ≤ X (x + 1)) (hS : SLX X x) (hc : cl = 0 → X (x + 1) = 0) (he : (clS T n x cl X y o s).1.1 = 0) : SLX (clS T n x cl X y o s).1.2.1 x := by
  unfold clS at he ⊢
  by_cases e1 : y.2.2.1 = 200
  · rw [if_pos e1] at he ⊢
    by_cases hcl : 0 < cl
    · rw [if_pos hcl] at he
      replace he : (4 : Int) = 0 := he
      omega
    · rw [if_neg hcl] at he ⊢
      have h0 := hc (by omega)
      show SLX (nmT T n x 1 6 X y.1).2.1 x
      rw [(nm_val he).1]
      intro r c hr hc h1 h2
      rw [u1_n (by omega)] at h1
      omega
  · rw [if_neg e1] at he ⊢
    by_cases e2 : y.2.2.1 = 201
    · rw [if_pos e2] at he ⊢
      exact rwC_sl x0 x1 hS he
    · rw [if_neg e2] at he ⊢
      by_cases e3 : y.2.2.1 = 202
      · rw [if_pos e3] at he ⊢
        by_cases ho : o = 0
        · rw [if_pos ho] at he ⊢
          show SLX (nmT T n (x + 3) 0 9 X y.1).2.1 x
          rw [(nm_val he).1]
          exact hS.put (Or.inl rfl)
        · rw [if_neg ho] at he
          replace he : (4 : Int) = 0 := he
          omega
      · rw [if_neg e3] at he ⊢
        by_cases e4 : y.2.2.1 = 203
        · rw [if_pos e4] at he ⊢
          by_cases hs : s = 0
          · rw [if_pos hs] at he ⊢
            show SLX (nmT T n (x + 4) 1 31 X y.1).2.1 x
            rw [(nm_val he).1]
            exact hS.put (Or.inr rfl)
          · rw [if_neg hs] at he
            replace he : (4 : Int) = 0 := he
            omega
        · rw [if_neg e4] at he
          replace he : (1 : Int) = 0 := he
          omega
theorem rdL_sl {T : Nat → Int} {n t : Nat} (hT : TB T) (ht : t < 4) : ∀ (f cl : Nat) (X : Nat → Int) (y : LX) (o s : Int), PXI X t → LXI n y → (0 ≤ o ∧ o ≤ 1) → (0 ≤ s ∧ s ≤ 1) → SLX X (37 * t) → (cl = 0 → X (37 * t + 1) = 0) → (rdL T n (37 * t) f cl X y o s).1 = 0 → SLX (rdL T n (37 * t) f cl X y o s).2.1 (37 * t) := by
  intro f
  induction f with
  | zero =>
    intro cl X y o s _ _ _ _ _ _ he
    replace he : (1 : Int) = 0 := he
    omega
  | succ f ih =>
    intro cl X y o s hP hy ho hs hS hc he
    have hok := clS_ok (T := T) (cl := cl) (o := o) (s := s) hT ht hP hy ho hs
    unfold rdL at he ⊢
    by_cases h0 : y.2.2.1 = 0
    · rw [if_pos h0]
      exact hS
    · rw [if_neg h0] at he ⊢
      by_cases hz : (clS T n (37 * t) cl X y o s).1.1 = 0
      · rw [if_neg (fun z => z hz)] at he ⊢
        have hsl := clS_sl hP.2.1.1 hP.2.2.1.1 hS hc hz
        exact ih (cl + 1) _ _ _ _ hok.1.1 (nt_lxi hT hok.1.2.2.1.1).1 hok.2.1 hok.2.2 hsl (fun z => by omega) he
      · rw [if_pos hz] at he
        exact absurd he hz

