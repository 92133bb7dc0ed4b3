/-! what is picked, as a set: odd checks, checks had once, parts -/
def pkw (q : Nat → Nat) (s : Nat → Bool) : Nat → BitVec 64
  | 0 => 0#64
  | j + 1 => if s j = true then pkw q s j ||| (1#64 <<< q j) else pkw q s j
def ijQ (q : Nat → Nat) (s : Nat → Bool) (n : Nat) : Prop := ∀ i j, i < n → j < n → s i = true → s j = true → q i = q j → i = j
def bdQ (q : Nat → Nat) (s : Nat → Bool) (n : Nat) : Prop := ∀ i, i < n → s i = true → q i < 64
theorem pkw_bit {q : Nat → Nat} {s : Nat → Bool} {t : Nat} : ∀ {n : Nat}, bdQ q s n → ((pkw q s n).getLsbD t = true ↔ ∃ i, i < n ∧ s i = true ∧ q i = t)
  | 0, _ => ⟨fun h => by simp [pkw] at h, fun ⟨i, h, _⟩ => absurd h (Nat.not_lt_zero _)⟩
  | n + 1, h => by
    have ih := pkw_bit (q := q) (s := s) (t := t) (n := n) (fun i hi hs => h i (by omega) hs)
    unfold pkw
    by_cases hw : s n = true
    · rw [if_pos hw, BitVec.getLsbD_or, Bool.or_eq_true, ih, bit1o (h n (by omega) hw)]
      constructor
      · rintro (⟨i, a, b, e⟩ | e)
        · exact ⟨i, by omega, b, e⟩
        · exact ⟨n, by omega, hw, (of_decide_eq_true e).symm⟩
      · rintro ⟨i, a, b, e⟩
        by_cases hi : i = n
        · subst hi; right; rw [e]; simp
        · left; exact ⟨i, by omega, b, e⟩
    · rw [if_neg hw, ih]
      constructor
      · rintro ⟨i, a, b, e⟩; exact ⟨i, by omega, b, e⟩
      · rintro ⟨i, a, b, e⟩
        by_cases hi : i = n
        · subst hi; exact absurd b hw
        · exact ⟨i, by omega, b, e⟩
theorem pkw_all {q : Nat → Nat} {s : Nat → Bool} : ∀ {n : Nat}, (∀ i, i < n → s i = true) → pkw q s n = pks q n
  | 0, _ => rfl
  | n + 1, h => by
    unfold pkw
    rw [if_pos (h n (by omega)), pkw_all (fun i hi => h i (by omega))]
    rfl
theorem pkw_new {q : Nat → Nat} {s : Nat → Bool} {n : Nat} (hi : ijQ q s (n + 1)) (hq : bdQ q s (n + 1)) (hs : s n = true) : (pkw q s n).getLsbD (q n) = false := by
  cases h : (pkw q s n).getLsbD (q n) with
  | false => rfl
  | true =>
    obtain ⟨i, a, b, e⟩ := (pkw_bit (fun i hi hs => hq i (by omega) hs)).mp h
    have := hi i n (by omega) (by omega) b hs e
    omega
theorem ijQ.lt {q : Nat → Nat} {s : Nat → Bool} {n k : Nat} (h : ijQ q s n) (hk : k ≤ n) : ijQ q s k := fun i j hi hj => h i j (by omega) (by omega)
theorem bdQ.lt {q : Nat → Nat} {s : Nat → Bool} {n k : Nat} (h : bdQ q s n) (hk : k ≤ n) : bdQ q s k := fun i hi => h i (by omega)
theorem or_same {y : BitVec 64} {t i : Nat} (ht : t < 64) (h : i ≠ t) : (y ||| (1#64 <<< t)).getLsbD i = y.getLsbD i := by
  rw [BitVec.getLsbD_or, bit1o ht, decide_eq_false h, Bool.or_false]
theorem or_it {y : BitVec 64} {t : Nat} (ht : t < 64) : (y ||| (1#64 <<< t)).getLsbD t = true := by
  rw [BitVec.getLsbD_or, bit1o ht]; simp
theorem xoS_or {M : Nat → BitVec 32} {y : BitVec 64} {t : Nat} (ht : t < 64) (hy : y.getLsbD t = false) : xoS M (y ||| (1#64 <<< t)) = M t ^^^ xoS M y := xo_off (M := M) (f := (y ||| (1#64 <<< t)).getLsbD) (f' := y.getLsbD) (n := 64) (or_it ht) hy ht (fun i _ hit => (or_same ht hit).symm)
theorem pop_or {z y : BitVec 64} {t : Nat} (ht : t < 64) (hy : y.getLsbD t = false) : pop (z &&& (y ||| (1#64 <<< t))) = pop (z &&& y) + (if z.getLsbD t = true then 1 else 0) := by
  by_cases hz : z.getLsbD t = true
  · rw [if_pos hz]
    exact pn_off (f := (z &&& (y ||| (1#64 <<< t))).getLsbD) (g := (z &&& y).getLsbD) ht (by rw [BitVec.getLsbD_and, hz, or_it ht]; rfl) (by rw [BitVec.getLsbD_and, hy]; simp) (fun i _ hit => by rw [BitVec.getLsbD_and, BitVec.getLsbD_and, or_same ht hit])
  · rw [if_neg hz, Nat.add_zero]
    refine pn_congr (f := (z &&& (y ||| (1#64 <<< t))).getLsbD) (g := (z &&& y).getLsbD) (n := 64) (fun i _ => ?_)
    rw [BitVec.getLsbD_and, BitVec.getLsbD_and]
    by_cases hit : i = t
    · subst hit
      rw [Bool.not_eq_true] at hz
      rw [hz]
      rfl
    · rw [or_same ht hit]
/-- how many of the picked a check has -/
def cnw (z : BitVec 64) (q : Nat → Nat) (s : Nat → Bool) : Nat → Nat
  | 0 => 0
  | j + 1 => cnw z q s j + (if s j = true ∧ z.getLsbD (q j) = true then 1 else 0)
theorem pop_pkw {z : BitVec 64} {q : Nat → Nat} {s : Nat → Bool} : ∀ {n : Nat}, ijQ q s n → bdQ q s n → pop (z &&& pkw q s n) = cnw z q s n
  | 0, _, _ => by
    show pop (z &&& 0#64) = 0
    rw [BitVec.and_zero]
    exact pop_0
  | n + 1, hi, hq => by
    have ih := pop_pkw (z := z) (s := s) (hi.lt (Nat.le_succ n)) (hq.lt (Nat.le_succ n))
    unfold pkw cnw
    by_cases hs : s n = true
    · rw [if_pos hs, pop_or (hq n (by omega) hs) (pkw_new hi hq hs), ih]
      simp only [hs, true_and]
    · rw [if_neg hs, ih, if_neg (fun z => hs z.1)]
      rfl
theorem xoS_pkw {M : Nat → BitVec 32} {q : Nat → Nat} {w : Nat} : ∀ {n : Nat}, ijQ q w.testBit n → bdQ q w.testBit n → xoS M (pkw q w.testBit n) = pxr M q w n
  | 0, _, _ => xoS_0
  | n + 1, hi, hq => by
    have ih := xoS_pkw (M := M) (w := w) (hi.lt (Nat.le_succ n)) (hq.lt (Nat.le_succ n))
    unfold pkw pxr
    by_cases hs : w.testBit n = true
    · rw [if_pos hs, xoS_or (hq n (by omega) hs) (pkw_new hi hq hs), ih, if_pos hs, BitVec.xor_comm]
    · rw [if_neg hs, ih, if_neg hs]
theorem xoS_pks {M : Nat → BitVec 32} {q : Nat → Nat} : ∀ {n : Nat}, ijQ q (fun _ => true) n → bdQ q (fun _ => true) n → xoS M (pks q n) = pod M q n
  | 0, _, _ => xoS_0
  | n + 1, hi, hq => by
    have ih := xoS_pks (M := M) (hi.lt (Nat.le_succ n)) (hq.lt (Nat.le_succ n))
    have hn := pkw_new (s := fun _ => true) hi hq rfl
    rw [pkw_all (fun _ _ => rfl)] at hn
    show xoS M (pks q n ||| (1#64 <<< q n)) = _
    rw [xoS_or (hq n (by omega) rfl) hn, ih, BitVec.xor_comm]
    rfl
/-- masks of checks: bit i of a bit's mask says that check i has it -/
def MSK (M : Nat → BitVec 32) (c : Nat → BitVec 64) (m : Nat) : Prop := m ≤ 31 ∧ (∀ b i, i < m → (M b).getLsbD i = (c i).getLsbD b) ∧ ∀ b i, m ≤ i → (M b).getLsbD i = false
theorem msk_hgB {c : Nat → BitVec 64} {m : Nat} (hm : m ≤ 31) : MSK (fun b => hgB c b m) c m := by
  refine ⟨hm, fun b i hi => ?_, fun b i hi => ?_⟩
  · have h := hgB_bit (c := c) (b := b) (i := i) (n := m) (by omega)
    cases h1 : (hgB c b m).getLsbD i with
    | true => exact ((h.mp h1).2).symm
    | false =>
      cases h2 : (c i).getLsbD b with
      | false => rfl
      | true => rw [h.mpr ⟨hi, h2⟩] at h1; cases h1
  · have h := hgB_bit (c := c) (b := b) (i := i) (n := m) (by omega)
    cases h1 : (hgB c b m).getLsbD i with
    | true => have := (h.mp h1).1; omega
    | false => rfl
theorem b32_0 {v : BitVec 32} : v = 0#32 ↔ ∀ i, i < 32 → v.getLsbD i = false := ⟨fun h i _ => by rw [h]; simp, fun h => BitVec.eq_of_getLsbD_eq fun i hi => by rw [h i hi]; simp⟩
theorem b32_an {u v : BitVec 32} : u &&& ~~~v = 0#32 ↔ ∀ i, i < 32 → u.getLsbD i = true → v.getLsbD i = true := by
  rw [b32_0]
  refine ⟨fun h i hi hu => ?_, fun h i hi => ?_⟩
  · have := h i hi
    rw [BitVec.getLsbD_and, BitVec.getLsbD_not, hu] at this
    simpa [hi] using this
  · rw [BitVec.getLsbD_and, BitVec.getLsbD_not]
    cases hu : u.getLsbD i with
    | false => rfl
    | true => rw [h i hi hu]; simp
theorem jo_bit {M : Nat → BitVec 32} {c : Nat → BitVec 64} {m i : Nat} {q : Nat → Nat} {w : Nat} (hM : MSK M c m) (hi : i < m) : ∀ {n : Nat}, (jo M q w n).1.getLsbD i = decide (1 ≤ cnw (c i) q w.testBit n) ∧ (jo M q w n).2.getLsbD i = decide (2 ≤ cnw (c i) q w.testBit n)
  | 0 => by
    show (0#32).getLsbD i = decide (1 ≤ 0) ∧ (0#32).getLsbD i = decide (2 ≤ 0)
    simp
  | n + 1 => by
    obtain ⟨h1, h2⟩ := jo_bit (q := q) (w := w) hM hi (n := n)
    unfold jo cnw
    by_cases hs : w.testBit n = true
    · rw [if_pos hs]
      show ((jo M q w n).1 ||| M (q n)).getLsbD i = _ ∧ ((jo M q w n).2 ||| ((jo M q w n).1 &&& M (q n))).getLsbD i = _
      rw [BitVec.getLsbD_or, BitVec.getLsbD_or, BitVec.getLsbD_and, h1, h2, hM.2.1 _ i hi]
      by_cases hc : (c i).getLsbD (q n) = true
      · rw [hc, if_pos ⟨hs, rfl⟩]
        generalize cnw (c i) q w.testBit n = k
        constructor
        · simp
        · rcases (show k = 0 ∨ k = 1 ∨ 2 ≤ k by omega) with e | e | e
          · subst e; decide
          · subst e; decide
          · simp [e, show 2 ≤ k + 1 by omega]
      · rw [if_neg (fun z => hc z.2)]
        rw [Bool.not_eq_true] at hc
        rw [hc]
        simp
    · rw [if_neg hs, if_neg (fun z => hs z.1)]
      exact ⟨h1, h2⟩
theorem jo_hi {M : Nat → BitVec 32} {c : Nat → BitVec 64} {m i : Nat} {q : Nat → Nat} {w : Nat} (hM : MSK M c m) (hi : m ≤ i) : ∀ {n : Nat}, (jo M q w n).1.getLsbD i = false
  | 0 => by show (0#32).getLsbD i = false; simp
  | n + 1 => by
    have ih := jo_hi (q := q) (w := w) hM hi (n := n)
    unfold jo
    by_cases hs : w.testBit n = true
    · rw [if_pos hs]
      show ((jo M q w n).1 ||| M (q n)).getLsbD i = _
      rw [BitVec.getLsbD_or, ih, hM.2.2 _ i hi]
      rfl
    · rw [if_neg hs]; exact ih
theorem jst_bit {M : Nat → BitVec 32} {c : Nat → BitVec 64} {m i n : Nat} {q : Nat → Nat} {w : Nat} (hM : MSK M c m) : (jst M q w n).getLsbD i = true ↔ i < m ∧ cnw (c i) q w.testBit n = 1 := by
  unfold jst
  rw [BitVec.getLsbD_and, BitVec.getLsbD_not]
  by_cases hi : i < m
  · have hm := hM.1
    rw [(jo_bit hM hi).1, (jo_bit hM hi).2, decide_eq_true (show i < 32 by omega)]
    generalize cnw (c i) q w.testBit n = k
    rcases (show k = 0 ∨ k = 1 ∨ 2 ≤ k by omega) with e | e | e
    · subst e; simp
    · subst e; simp [hi]
    · have : ¬ k = 1 := by omega
      simp [e, this]
  · rw [jo_hi hM (by omega)]
    simp [hi]
theorem pod_bit {M : Nat → BitVec 32} {c : Nat → BitVec 64} {m i : Nat} {q : Nat → Nat} {s : Nat → Bool} (hM : MSK M c m) (hi : i < m) : ∀ {n : Nat}, (∀ j, j < n → s j = true) → (pod M q n).getLsbD i = decide (cnw (c i) q s n % 2 = 1)
  | 0, _ => by show (0#32).getLsbD i = decide (0 % 2 = 1); simp
  | n + 1, hs => by
    have ih := pod_bit (q := q) (s := s) hM hi (n := n) (fun j hj => hs j (by omega))
    unfold pod cnw
    rw [BitVec.getLsbD_xor, ih, hM.2.1 _ i hi]
    have hsn := hs n (by omega)
    by_cases hc : (c i).getLsbD (q n) = true
    · rw [hc, if_pos ⟨hsn, rfl⟩]
      generalize cnw (c i) q s n = k
      rcases (show k % 2 = 0 ∨ k % 2 = 1 by omega) with e | e
      · rw [decide_eq_false (by omega), decide_eq_true (show (k + 1) % 2 = 1 by omega)]; rfl
      · rw [decide_eq_true e, decide_eq_false (show ¬ (k + 1) % 2 = 1 by omega)]; rfl
    · rw [if_neg (fun z => hc z.2)]
      rw [Bool.not_eq_true] at hc
      rw [hc]
      simp
theorem pod_hi {M : Nat → BitVec 32} {c : Nat → BitVec 64} {m i : Nat} {q : Nat → Nat} (hM : MSK M c m) (hi : m ≤ i) : ∀ {n : Nat}, (pod M q n).getLsbD i = false
  | 0 => by show (0#32).getLsbD i = false; simp
  | n + 1 => by
    unfold pod
    rw [BitVec.getLsbD_xor, pod_hi hM hi (n := n), hM.2.2 _ i hi]
    rfl
theorem psm_bit {M : Nat → BitVec 32} {c : Nat → BitVec 64} {m i : Nat} {q : Nat → Nat} {s : Nat → Bool} (hM : MSK M c m) (hi : i < m) : ∀ {n : Nat}, (∀ j, j < n → s j = true) → (psm M q n).getLsbD i = decide (1 ≤ cnw (c i) q s n)
  | 0, _ => by show (0#32).getLsbD i = decide (1 ≤ 0); simp
  | n + 1, hs => by
    have ih := psm_bit (q := q) (s := s) hM hi (n := n) (fun j hj => hs j (by omega))
    unfold psm cnw
    rw [BitVec.getLsbD_or, ih, hM.2.1 _ i hi]
    have hsn := hs n (by omega)
    by_cases hc : (c i).getLsbD (q n) = true
    · rw [hc, if_pos ⟨hsn, rfl⟩]
      simp
    · rw [if_neg (fun z => hc z.2)]
      rw [Bool.not_eq_true] at hc
      rw [hc]
      simp
theorem cnw_c {z : BitVec 64} {q q' : Nat → Nat} {s s' : Nat → Bool} : ∀ {n : Nat}, (∀ i, i < n → q i = q' i ∧ s i = s' i) → cnw z q s n = cnw z q' s' n
  | 0, _ => rfl
  | n + 1, h => by
    unfold cnw
    rw [cnw_c (fun i hi => h i (by omega)), (h n (by omega)).1, (h n (by omega)).2]

