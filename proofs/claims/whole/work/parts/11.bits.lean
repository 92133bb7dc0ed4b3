/-- how many of the first n hold -/
def pn (f : Nat → Bool) : Nat → Nat
  | 0 => 0
  | n + 1 => pn f n + if f n then 1 else 0
def pop (x : BitVec 64) : Nat := pn x.getLsbD 64
theorem pn_le (f : Nat → Bool) (n : Nat) : pn f n ≤ n := by
  induction n with
  | zero => exact Nat.le_refl _
  | succ n ih => unfold pn; split <;> omega
theorem pop_le (x : BitVec 64) : pop x ≤ 64 := pn_le _ _
theorem pn_congr {f g : Nat → Bool} {n : Nat} (h : ∀ i, i < n → f i = g i) : pn f n = pn g n := by
  induction n with
  | zero => rfl
  | succ n ih => unfold pn; rw [ih (fun i hi => h i (by omega)), h n (by omega)]
theorem pn_zero {f : Nat → Bool} {n : Nat} (h : ∀ i, i < n → f i = false) : pn f n = 0 := by
  induction n with
  | zero => rfl
  | succ n ih => unfold pn; rw [ih (fun i hi => h i (by omega)), h n (by omega)]; rfl
theorem pn_pos {f : Nat → Bool} {n t : Nat} (ht : t < n) (h : f t = true) : 0 < pn f n := by
  induction n with
  | zero => omega
  | succ n ih =>
    unfold pn
    by_cases htn : t = n
    · subst htn; rw [if_pos h]; omega
    · have := ih (by omega); omega
theorem pn_off {f g : Nat → Bool} {n t : Nat} (ht : t < n) (hf : f t = true) (hg : g t = false) (h : ∀ i, i < n → i ≠ t → g i = f i) : pn f n = pn g n + 1 := by
  induction n with
  | zero => omega
  | succ n ih =>
    unfold pn
    by_cases htn : t = n
    · subst htn
      rw [hf, hg, pn_congr (f := f) (g := g) (fun i hi => (h i (by omega) (by omega)).symm)]
      simp
    · rw [ih (by omega) (fun i hi hn => h i (by omega) hn), h n (by omega) (fun q => htn q.symm)]
      omega
theorem bv_ext {x y : BitVec 64} (h : ∀ i, i < 64 → x.getLsbD i = y.getLsbD i) : x = y := BitVec.eq_of_getLsbD_eq h
theorem bv_ne0 {x : BitVec 64} (h : ¬ x = 0#64) : ∃ t, t < 64 ∧ x.getLsbD t = true ∧ ∀ j, j < t → x.getLsbD j = false := by
  have hx : ∃ i, i < 64 ∧ x.getLsbD i = true := by
    refine Classical.byContradiction fun q => h (bv_ext fun i hi => ?_)
    rw [BitVec.getLsbD_zero]
    cases hb : x.getLsbD i with
    | false => rfl
    | true => exact absurd ⟨i, hi, hb⟩ q
  obtain ⟨t, ⟨h1, h2⟩, h3⟩ := pk_least (fun i => i < 64 ∧ x.getLsbD i = true) hx
  refine ⟨t, h1, h2, fun j hj => ?_⟩
  cases hb : x.getLsbD j with
  | false => rfl
  | true => exact absurd ⟨by omega, hb⟩ (h3 j hj)
theorem bit1 {t i : Nat} (ht : t < 64) (hi : i < 64) : (1#64 <<< t).getLsbD i = decide (i = t) := by
  have key : ∀ t : Nat, t < 64 → ∀ i : Nat, i < 64 → (1#64 <<< t).getLsbD i = decide (i = t) := by decide +kernel
  exact key t ht i hi
theorem bitm {t i : Nat} (ht : t < 64) (hi : i < 64) : ((1#64 <<< t) - 1#64).getLsbD i = decide (i < t) := by
  have key : ∀ t : Nat, t < 64 → ∀ i : Nat, i < 64 → ((1#64 <<< t) - 1#64).getLsbD i = decide (i < t) := by decide +kernel
  exact key t ht i hi
theorem bv_split {x : BitVec 64} {t : Nat} (ht : t < 64) (h1 : x.getLsbD t = true) (h2 : ∀ j, j < t → x.getLsbD j = false) : x - 1#64 = (x &&& ~~~(1#64 <<< t)) ||| ((1#64 <<< t) - 1#64) := by
  have e1 : x = (x &&& ~~~(1#64 <<< t)) + (1#64 <<< t) := by
    rw [BitVec.add_eq_or_of_and_eq_zero]
    · refine bv_ext fun i hi => ?_
      rw [BitVec.getLsbD_or, BitVec.getLsbD_and, BitVec.getLsbD_not, bit1 ht hi]
      by_cases hit : i = t
      · subst hit; simp [h1]
      · simp [hit, hi]
    · refine bv_ext fun i hi => ?_
      rw [BitVec.getLsbD_and, BitVec.getLsbD_and, BitVec.getLsbD_not, bit1 ht hi]
      by_cases hit : i = t
      · subst hit; simp [hi]
      · simp [hit]
  have e2 : (x &&& ~~~(1#64 <<< t)) + ((1#64 <<< t) - 1#64) = (x &&& ~~~(1#64 <<< t)) ||| ((1#64 <<< t) - 1#64) := by
    rw [BitVec.add_eq_or_of_and_eq_zero]
    refine bv_ext fun i hi => ?_
    rw [BitVec.getLsbD_and, BitVec.getLsbD_and, bitm ht hi]
    by_cases hit : i < t
    · simp [h2 i hit]
    · simp [hit]
  rw [← e2]
  have e3 : ∀ a b : BitVec 64, a + (b - 1#64) = (a + b) - 1#64 := fun a b => by rw [BitVec.sub_eq_add_neg, BitVec.sub_eq_add_neg, BitVec.add_assoc]
  rw [e3, ← e1]
theorem clr_bit {x : BitVec 64} {t i : Nat} (ht : t < 64) (hi : i < 64) (h1 : x.getLsbD t = true) (h2 : ∀ j, j < t → x.getLsbD j = false) : (x &&& (x - 1#64)).getLsbD i = (x.getLsbD i && !decide (i = t)) := by
  rw [bv_split ht h1 h2, BitVec.getLsbD_and, BitVec.getLsbD_or, BitVec.getLsbD_and, BitVec.getLsbD_not, bit1 ht hi, bitm ht hi]
  by_cases hit : i = t
  · subst hit; simp
  · by_cases hlt : i < t
    · simp [h2 i hlt]
    · cases hb : x.getLsbD i <;> simp [hit, hi]
theorem neg_bit {x : BitVec 64} {t i : Nat} (ht : t < 64) (hi : i < 64) (h1 : x.getLsbD t = true) (h2 : ∀ j, j < t → x.getLsbD j = false) : (x &&& (-x)).getLsbD i = decide (i = t) := by
  have e : -x = ~~~(x - 1#64) := by
    rw [BitVec.neg_eq_not_add]
    refine BitVec.eq_of_toNat_eq ?_
    have hx : x.toNat ≠ 0 := fun q => by
      have : x = 0#64 := BitVec.eq_of_toNat_eq q
      rw [this] at h1; simp at h1
    have hlt := x.isLt
    simp only [BitVec.toNat_add, BitVec.toNat_not, BitVec.toNat_sub, BitVec.toNat_ofNat]
    omega
  rw [e, bv_split ht h1 h2, BitVec.getLsbD_and, BitVec.getLsbD_not, BitVec.getLsbD_or, BitVec.getLsbD_and, BitVec.getLsbD_not, bit1 ht hi, bitm ht hi]
  by_cases hit : i = t
  · subst hit; simp [h1, hi]
  · by_cases hlt : i < t
    · simp [h2 i hlt, hit]
    · cases hb : x.getLsbD i <;> simp [hit, hi]
theorem pop_clr {x : BitVec 64} (h : ¬ x = 0#64) : pop x = pop (x &&& (x - 1#64)) + 1 := by
  obtain ⟨t, ht, h1, h2⟩ := bv_ne0 h
  refine pn_off ht h1 ?_ (fun i hi hit => ?_)
  · rw [clr_bit ht ht h1 h2]; simp
  · rw [clr_bit ht hi h1 h2]; simp [hit]
theorem pop_0 : pop 0#64 = 0 := pn_zero (fun i _ => by simp)

