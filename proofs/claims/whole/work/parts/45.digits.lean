/-! digits of w bits each -/
def dg (w : Nat) (f : Nat → Nat) : Nat → Nat
  | 0 => 0
  | n + 1 => dg w f n + 2 ^ (w * n) * f n
theorem dg_lt {w : Nat} {f : Nat → Nat} : ∀ {n : Nat}, (∀ i, i < n → f i < 2 ^ w) → dg w f n < 2 ^ (w * n)
  | 0, _ => by unfold dg; simp
  | n + 1, h => by
    have ih := dg_lt (fun i hi => h i (Nat.lt_succ_of_lt hi))
    have h1 : f n + 1 ≤ 2 ^ w := h n (Nat.lt_succ_self n)
    have h2 : 2 ^ (w * (n + 1)) = 2 ^ (w * n) * 2 ^ w := by rw [Nat.mul_succ, Nat.pow_add]
    have h3 : 2 ^ (w * n) * (f n + 1) ≤ 2 ^ (w * n) * 2 ^ w := Nat.mul_le_mul_left _ h1
    rw [Nat.mul_add, Nat.mul_one] at h3
    unfold dg
    rw [h2]
    omega
theorem dg_bit {w : Nat} {f : Nat → Nat} : ∀ {n i t : Nat}, (∀ i, i < n → f i < 2 ^ w) → i < n → t < w → (dg w f n).testBit (w * i + t) = (f i).testBit t
  | 0, i, t, _, hi, _ => absurd hi (Nat.not_lt_zero _)
  | n + 1, i, t, h, hi, ht => by
    have hl := dg_lt (w := w) (f := f) (n := n) (fun i hi => h i (Nat.lt_succ_of_lt hi))
    unfold dg
    rw [Nat.add_comm, Nat.testBit_two_pow_mul_add _ hl]
    by_cases hin : i = n
    · subst hin
      rw [if_neg (by omega), Nat.add_sub_cancel_left]
    · have hi2 : i < n := by omega
      have hm : w * (i + 1) ≤ w * n := Nat.mul_le_mul_left _ hi2
      rw [Nat.mul_add, Nat.mul_one] at hm
      rw [if_pos (by omega)]
      exact dg_bit (fun i hi => h i (Nat.lt_succ_of_lt hi)) hi2 ht
theorem dg_c {w : Nat} {f g : Nat → Nat} : ∀ {n : Nat}, (∀ i, i < n → f i = g i) → dg w f n = dg w g n
  | 0, _ => rfl
  | n + 1, h => by unfold dg; rw [dg_c (fun i hi => h i (Nat.lt_succ_of_lt hi)), h n (Nat.lt_succ_self n)]
theorem dg_add {w : Nat} {f g : Nat → Nat} : ∀ {n : Nat}, dg w f n + dg w g n = dg w (fun i => f i + g i) n
  | 0 => rfl
  | n + 1 => by
    have ih := dg_add (w := w) (f := f) (g := g) (n := n)
    unfold dg
    rw [← ih, Nat.mul_add]
    omega
theorem dg_two {w : Nat} {f : Nat → Nat} : ∀ {n : Nat}, dg w f (2 * n) = dg (2 * w) (fun i => f (2 * i) + 2 ^ w * f (2 * i + 1)) n
  | 0 => rfl
  | n + 1 => by
    have ih := dg_two (w := w) (f := f) (n := n)
    show dg w f (2 * n) + 2 ^ (w * (2 * n)) * f (2 * n) + 2 ^ (w * (2 * n + 1)) * f (2 * n + 1) = dg (2 * w) (fun i => f (2 * i) + 2 ^ w * f (2 * i + 1)) n + 2 ^ (2 * w * n) * (f (2 * n) + 2 ^ w * f (2 * n + 1))
    have e1 : w * (2 * n) = 2 * w * n := by rw [Nat.mul_comm 2 w, Nat.mul_assoc]
    have e2 : 2 ^ (w * (2 * n + 1)) = 2 ^ (2 * w * n) * 2 ^ w := by rw [Nat.mul_add, Nat.mul_one, e1, Nat.pow_add]
    rw [ih, e2, e1, Nat.mul_add (2 ^ (2 * w * n)), Nat.mul_assoc (2 ^ (2 * w * n)) (2 ^ w), Nat.add_assoc]
theorem nat_ext {w n : Nat} {x y : Nat} (hw : 0 < w) (hx : x < 2 ^ (w * n)) (hy : y < 2 ^ (w * n)) (h : ∀ i, i < n → ∀ t, t < w → x.testBit (w * i + t) = y.testBit (w * i + t)) : x = y := by
  apply Nat.eq_of_testBit_eq
  intro p
  by_cases hp : p < w * n
  · have h1 : p = w * (p / w) + p % w := (Nat.div_add_mod p w).symm
    have h2 : p / w < n := (Nat.div_lt_iff_lt_mul hw).mpr (by rw [Nat.mul_comm]; exact hp)
    rw [h1]
    exact h _ h2 _ (Nat.mod_lt _ hw)
  · rw [Nat.testBit_lt_two_pow (Nat.lt_of_lt_of_le hx (Nat.pow_le_pow_right (by omega) (by omega))), Nat.testBit_lt_two_pow (Nat.lt_of_lt_of_le hy (Nat.pow_le_pow_right (by omega) (by omega)))]
theorem dg_and {w n : Nat} {f g : Nat → Nat} (hw : 0 < w) (hf : ∀ i, i < n → f i < 2 ^ w) (hg : ∀ i, i < n → g i < 2 ^ w) : dg w f n &&& dg w g n = dg w (fun i => f i &&& g i) n := by
  have hfg : ∀ i, i < n → f i &&& g i < 2 ^ w := fun i hi => Nat.lt_of_le_of_lt Nat.and_le_left (hf i hi)
  refine nat_ext (w := w) (n := n) hw (Nat.lt_of_le_of_lt Nat.and_le_left (dg_lt hf)) (dg_lt hfg) (fun i hi t ht => ?_)
  rw [Nat.testBit_and, dg_bit hf hi ht, dg_bit hg hi ht, dg_bit hfg hi ht, Nat.testBit_and]
theorem dg_shr {w n s : Nat} {f : Nat → Nat} (hw : 0 < w) (hf : ∀ i, i < n → f i < 2 ^ w) : dg w f n >>> (w * s) = dg w (fun i => if i + s < n then f (i + s) else 0) n := by
  have hg : ∀ i, i < n → (fun i => if i + s < n then f (i + s) else 0) i < 2 ^ w := fun i hi => by
    show (if i + s < n then f (i + s) else 0) < 2 ^ w
    split
    · exact hf _ (by assumption)
    · exact Nat.pow_pos (by omega)
  refine nat_ext (w := w) (n := n) hw (Nat.lt_of_le_of_lt (Nat.shiftRight_le _ _) (dg_lt hf)) (dg_lt hg) (fun i hi t ht => ?_)
  rw [Nat.testBit_shiftRight, dg_bit hg hi ht, show w * s + (w * i + t) = w * (i + s) + t by rw [Nat.mul_add]; omega]
  by_cases h : i + s < n
  · rw [dg_bit hf h ht, if_pos h]
  · rw [if_neg h, Nat.zero_testBit]
    refine Nat.testBit_lt_two_pow (Nat.lt_of_lt_of_le (dg_lt hf) (Nat.pow_le_pow_right (by omega) ?_))
    have := Nat.mul_le_mul_left w (show n ≤ i + s by omega)
    omega
/-- together -/
def sN (f : Nat → Nat) : Nat → Nat
  | 0 => 0
  | n + 1 => sN f n + f n
theorem sN_two {f : Nat → Nat} : ∀ {n : Nat}, sN f (2 * n) = sN (fun i => f (2 * i) + f (2 * i + 1)) n
  | 0 => rfl
  | n + 1 => by
    have ih := sN_two (f := f) (n := n)
    show sN f (2 * n) + f (2 * n) + f (2 * n + 1) = sN (fun i => f (2 * i) + f (2 * i + 1)) n + (f (2 * n) + f (2 * n + 1))
    rw [ih]
    omega
def bt (x : Nat) (i : Nat) : Nat := if x.testBit i then 1 else 0
theorem bt_le (x i : Nat) : bt x i ≤ 1 := by unfold bt; split <;> omega
theorem bt_dg {x n : Nat} (h : x < 2 ^ n) : x = dg 1 (bt x) n := by
  have hb : ∀ i, i < n → bt x i < 2 ^ 1 := fun i _ => by have := bt_le x i; omega
  refine nat_ext (w := 1) (n := n) (by omega) (by rw [Nat.one_mul]; exact h) (dg_lt hb) (fun i hi t ht => ?_)
  rw [dg_bit hb hi ht, show 1 * i + t = i by omega, show t = 0 by omega]
  unfold bt
  cases x.testBit i <;> rfl
theorem pn_sN {f : Nat → Bool} {g : Nat → Nat} : ∀ {n : Nat}, (∀ i, i < n → g i = if f i then 1 else 0) → pn f n = sN g n
  | 0, _ => rfl
  | n + 1, h => by unfold pn sN; rw [pn_sN (fun i hi => h i (Nat.lt_succ_of_lt hi)), h n (Nat.lt_succ_self n)]
/-! how many bits a number has -/
def pc1 (m x : Nat) : Nat := x - ((x >>> 1) &&& m)
def pc2 (m x : Nat) : Nat := (x &&& m) + ((x >>> 2) &&& m)
def pc3 (m x : Nat) : Nat := (x + (x >>> 4)) &&& m
def pcS (k x : Nat) : Nat := x + (x >>> k)
theorem pc1_ok {n x : Nat} (h : x < 2 ^ (2 * n)) : pc1 (dg 2 (fun _ => 1) n) x = dg 2 (fun i => bt x (2 * i) + bt x (2 * i + 1)) n ∧ (x >>> 1) &&& dg 2 (fun _ => 1) n ≤ x := by
  have hb : ∀ i, i < 2 * n → bt x i < 2 ^ 1 := fun i _ => by have := bt_le x i; omega
  have e0 : x = dg 2 (fun i => bt x (2 * i) + 2 ^ 1 * bt x (2 * i + 1)) n := (bt_dg h).trans (dg_two (w := 1) (n := n))
  have e1 : x >>> 1 = dg 2 (fun i => (if 2 * i + 1 < 2 * n then bt x (2 * i + 1) else 0) + 2 ^ 1 * (if 2 * i + 1 + 1 < 2 * n then bt x (2 * i + 1 + 1) else 0)) n := by
    have := dg_shr (w := 1) (n := 2 * n) (s := 1) (by omega) hb
    rw [← bt_dg h] at this
    exact this.trans (dg_two (w := 1) (n := n))
  have e2 : (x >>> 1) &&& dg 2 (fun _ => 1) n = dg 2 (fun i => bt x (2 * i + 1)) n := by
    rw [e1, dg_and (by omega) ?_ (fun _ _ => by omega)]
    · refine dg_c (fun i hi => ?_)
      have a1 := bt_le x (2 * i + 1)
      have a2 := bt_le x (2 * i + 1 + 1)
      rw [if_pos (by omega)]
      show (bt x (2 * i + 1) + 2 ^ 1 * (if 2 * i + 1 + 1 < 2 * n then bt x (2 * i + 1 + 1) else 0)) &&& (2 ^ 1 - 1) = _
      rw [Nat.and_two_pow_sub_one_eq_mod]
      omega
    · intro i hi
      have a1 := bt_le x (2 * i + 1)
      have a2 := bt_le x (2 * i + 1 + 1)
      show (if 2 * i + 1 < 2 * n then bt x (2 * i + 1) else 0) + 2 ^ 1 * (if 2 * i + 1 + 1 < 2 * n then bt x (2 * i + 1 + 1) else 0) < 2 ^ 2
      split <;> split <;> omega
  have e3 : dg 2 (fun i => bt x (2 * i) + bt x (2 * i + 1)) n + dg 2 (fun i => bt x (2 * i + 1)) n = x := by
    rw [dg_add]
    refine (dg_c (fun i hi => ?_)).trans e0.symm
    show bt x (2 * i) + bt x (2 * i + 1) + bt x (2 * i + 1) = bt x (2 * i) + 2 ^ 1 * bt x (2 * i + 1)
    omega
  unfold pc1
  rw [e2]
  omega
theorem pc2_ok {n : Nat} {f : Nat → Nat} (h : ∀ i, i < 2 * n → f i ≤ 2) : pc2 (dg 4 (fun _ => 3) n) (dg 2 f (2 * n)) = dg 4 (fun i => f (2 * i) + f (2 * i + 1)) n := by
  have hb : ∀ i, i < 2 * n → f i < 2 ^ 2 := fun i hi => by have := h i hi; omega
  have e0 : dg 2 f (2 * n) = dg 4 (fun i => f (2 * i) + 2 ^ 2 * f (2 * i + 1)) n := dg_two (w := 2) (n := n)
  have e1 : dg 2 f (2 * n) >>> 2 = dg 4 (fun i => (if 2 * i + 1 < 2 * n then f (2 * i + 1) else 0) + 2 ^ 2 * (if 2 * i + 1 + 1 < 2 * n then f (2 * i + 1 + 1) else 0)) n := (dg_shr (w := 2) (n := 2 * n) (s := 1) (by omega) hb).trans (dg_two (w := 2) (n := n))
  unfold pc2
  rw [e1, e0, dg_and (by omega) ?_ (fun _ _ => by omega), dg_and (by omega) ?_ (fun _ _ => by omega), dg_add]
  · refine dg_c (fun i hi => ?_)
    have a1 := h (2 * i) (by omega)
    have a2 := h (2 * i + 1) (by omega)
    rw [if_pos (by omega)]
    show ((f (2 * i) + 2 ^ 2 * f (2 * i + 1)) &&& (2 ^ 2 - 1)) + ((f (2 * i + 1) + 2 ^ 2 * (if 2 * i + 1 + 1 < 2 * n then f (2 * i + 1 + 1) else 0)) &&& (2 ^ 2 - 1)) = _
    rw [Nat.and_two_pow_sub_one_eq_mod, Nat.and_two_pow_sub_one_eq_mod]
    omega
  · intro i hi
    rw [if_pos (by omega)]
    have a1 := h (2 * i + 1) (by omega)
    split
    · have a2 := h (2 * i + 1 + 1) (by omega)
      omega
    · omega
  · intro i hi
    have a1 := h (2 * i) (by omega)
    have a2 := h (2 * i + 1) (by omega)
    omega
theorem pc3_ok {n : Nat} {f : Nat → Nat} (h : ∀ i, i < 2 * n → f i ≤ 4) : pc3 (dg 8 (fun _ => 15) n) (dg 4 f (2 * n)) = dg 8 (fun i => f (2 * i) + f (2 * i + 1)) n ∧ dg 4 f (2 * n) + dg 4 f (2 * n) >>> 4 < 2 ^ (4 * (2 * n)) := by
  have hb : ∀ i, i < 2 * n → f i < 2 ^ 4 := fun i hi => by have := h i hi; omega
  have e1 : dg 4 f (2 * n) >>> 4 = dg 4 (fun i => if i + 1 < 2 * n then f (i + 1) else 0) (2 * n) := dg_shr (w := 4) (n := 2 * n) (s := 1) (by omega) hb
  have hs : ∀ i, i < 2 * n → (fun i => f i + if i + 1 < 2 * n then f (i + 1) else 0) i < 2 ^ 4 := fun i hi => by
    have a1 := h i hi
    show f i + (if i + 1 < 2 * n then f (i + 1) else 0) < 2 ^ 4
    split
    · have a2 := h (i + 1) (by omega)
      omega
    · omega
  have e2 : dg 4 f (2 * n) + dg 4 f (2 * n) >>> 4 = dg 8 (fun i => (f (2 * i) + if 2 * i + 1 < 2 * n then f (2 * i + 1) else 0) + 2 ^ 4 * (f (2 * i + 1) + if 2 * i + 1 + 1 < 2 * n then f (2 * i + 1 + 1) else 0)) n := by
    rw [e1, dg_add]
    exact dg_two (w := 4) (n := n)
  refine ⟨?_, ?_⟩
  · unfold pc3
    rw [e2, dg_and (by omega) ?_ (fun _ _ => by omega)]
    · refine dg_c (fun i hi => ?_)
      have b1 : f (2 * i) + (if 2 * i + 1 < 2 * n then f (2 * i + 1) else 0) < 2 ^ 4 := hs (2 * i) (by omega)
      rw [if_pos (by omega)] at b1 ⊢
      show ((f (2 * i) + f (2 * i + 1)) + 2 ^ 4 * (f (2 * i + 1) + if 2 * i + 1 + 1 < 2 * n then f (2 * i + 1 + 1) else 0)) &&& (2 ^ 4 - 1) = _
      rw [Nat.and_two_pow_sub_one_eq_mod]
      omega
    · intro i hi
      have b1 : f (2 * i) + (if 2 * i + 1 < 2 * n then f (2 * i + 1) else 0) < 2 ^ 4 := hs (2 * i) (by omega)
      have b2 : f (2 * i + 1) + (if 2 * i + 1 + 1 < 2 * n then f (2 * i + 1 + 1) else 0) < 2 ^ 4 := hs (2 * i + 1) (by omega)
      omega
  · rw [e1, dg_add]
    exact dg_lt (w := 4) (n := 2 * n) hs
theorem pcS_ok {n s : Nat} {f : Nat → Nat} (h : ∀ i, i < n → f i ≤ 64) : pcS (8 * s) (dg 8 f n) = dg 8 (fun i => f i + if i + s < n then f (i + s) else 0) n ∧ dg 8 f n + dg 8 f n >>> (8 * s) < 2 ^ (8 * n) := by
  have hb : ∀ i, i < n → f i < 2 ^ 8 := fun i hi => by have := h i hi; omega
  have e1 : dg 8 f n >>> (8 * s) = dg 8 (fun i => if i + s < n then f (i + s) else 0) n := dg_shr (by omega) hb
  refine ⟨?_, ?_⟩
  · unfold pcS
    rw [e1, dg_add]
  · rw [e1, dg_add]
    refine dg_lt (w := 8) (n := n) (fun i hi => ?_)
    have a1 := h i hi
    show f i + (if i + s < n then f (i + s) else 0) < 2 ^ 8
    split
    · have a2 := h (i + s) (by omega)
      omega
    · omega
theorem pop_sN {x : BitVec 64} : pop x = sN (bt x.toNat) 64 := pn_sN (fun i _ => by
  unfold bt
  rw [BitVec.testBit_toNat])
def pcA (m1 m2 m3 x : Nat) : Nat := pc3 m3 (pc2 m2 (pc1 m1 x))
theorem pc_all {N x : Nat} (h : x < 2 ^ (2 * (2 * (2 * N)))) : ∃ e : Nat → Nat, pcA (dg 2 (fun _ => 1) (2 * (2 * N))) (dg 4 (fun _ => 3) (2 * N)) (dg 8 (fun _ => 15) N) x = dg 8 e N ∧ (∀ i, i < N → e i ≤ 8) ∧ sN e N = sN (bt x) (2 * (2 * (2 * N))) ∧ pc2 (dg 4 (fun _ => 3) (2 * N)) (pc1 (dg 2 (fun _ => 1) (2 * (2 * N))) x) + pc2 (dg 4 (fun _ => 3) (2 * N)) (pc1 (dg 2 (fun _ => 1) (2 * (2 * N))) x) >>> 4 < 2 ^ (4 * (2 * N)) ∧ (x >>> 1) &&& dg 2 (fun _ => 1) (2 * (2 * N)) ≤ x ∧ pc2 (dg 4 (fun _ => 3) (2 * N)) (pc1 (dg 2 (fun _ => 1) (2 * (2 * N))) x) < 2 ^ (4 * (2 * N)) := by
  have h1 := (pc1_ok h).1
  have b1 : ∀ i, i < 2 * (2 * N) → bt x (2 * i) + bt x (2 * i + 1) ≤ 2 := fun i _ => by have := bt_le x (2 * i); have := bt_le x (2 * i + 1); omega
  have h2 := pc2_ok (n := 2 * N) (f := fun i => bt x (2 * i) + bt x (2 * i + 1)) b1
  have b2 : ∀ i, i < 2 * N → (fun i => (fun i => bt x (2 * i) + bt x (2 * i + 1)) (2 * i) + (fun i => bt x (2 * i) + bt x (2 * i + 1)) (2 * i + 1)) i ≤ 4 := fun i hi => Nat.add_le_add (b1 (2 * i) (by omega)) (b1 (2 * i + 1) (by omega))
  have h3 := pc3_ok (n := N) (f := fun i => (fun i => bt x (2 * i) + bt x (2 * i + 1)) (2 * i) + (fun i => bt x (2 * i) + bt x (2 * i + 1)) (2 * i + 1)) b2
  rw [← h1] at h2
  rw [← h2] at h3
  refine ⟨_, h3.1, fun i hi => Nat.add_le_add (b2 (2 * i) (by omega)) (b2 (2 * i + 1) (by omega)), ?_, h3.2, (pc1_ok h).2, ?_⟩
  · rw [sN_two, sN_two, sN_two]
  · rw [h2]
    exact dg_lt (w := 4) (n := 2 * N) (fun i hi => by have := b2 i hi; exact Nat.lt_of_le_of_lt this (by omega))

