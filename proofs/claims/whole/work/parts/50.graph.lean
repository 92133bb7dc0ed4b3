/-! ways, rings, pieces, what peeling leaves: what the class finds and what the reference finds -/
theorem and_ne {x y : BitVec 64} : ¬ x &&& y = 0#64 ↔ ∃ i, i < 64 ∧ x.getLsbD i = true ∧ y.getLsbD i = true := by
  constructor
  · intro h
    obtain ⟨t, a, b, -⟩ := bv_ne0 h
    rw [BitVec.getLsbD_and, Bool.and_eq_true] at b
    exact ⟨t, a, b.1, b.2⟩
  · rintro ⟨i, hi, a, b⟩ h
    have := congrArg (fun z => BitVec.getLsbD z i) h
    simp [a, b] at this
theorem gt64 {x : BitVec 64} {i : Nat} (h : x.getLsbD i = true) : i < 64 := by
  by_cases h1 : i < 64
  · exact h1
  · rw [BitVec.getLsbD_of_ge _ _ (by omega)] at h; cases h
theorem sbs_eq {x y : BitVec 64} (h1 : sbs x y) (h2 : sbs y x) : x = y := bv_ext fun i _ => by
  cases hx : x.getLsbD i with
  | true => exact (h1 i hx).symm
  | false =>
    cases hy : y.getLsbD i with
    | false => rfl
    | true => rw [h2 i hy] at hx; cases hx
theorem sbs_tr {x y z : BitVec 64} (h1 : sbs x y) (h2 : sbs y z) : sbs x z := fun i h => h2 i (h1 i h)
theorem bsN_bit {c : Nat → BitVec 64} {x : BitVec 64} {i : Nat} : ∀ {n : Nat}, (bsN c x n).getLsbD i = true ↔ x.getLsbD i = true ∨ ∃ k, k < n ∧ ¬ c k &&& x = 0#64 ∧ (c k).getLsbD i = true
  | 0 => by unfold bsN; exact ⟨Or.inl, fun h => h.elim id (fun ⟨k, hk, _⟩ => absurd hk (Nat.not_lt_zero _))⟩
  | n + 1 => by
    have ih := @bsN_bit c x i n
    unfold bsN
    by_cases h0 : c n &&& x = 0#64
    · rw [if_pos h0, ih]
      constructor
      · rintro (h | ⟨k, hk, a, b⟩)
        · exact Or.inl h
        · exact Or.inr ⟨k, by omega, a, b⟩
      · rintro (h | ⟨k, hk, a, b⟩)
        · exact Or.inl h
        · refine Or.inr ⟨k, ?_, a, b⟩
          by_cases hkn : k = n
          · subst hkn; exact absurd h0 a
          · omega
    · rw [if_neg h0, BitVec.getLsbD_or, Bool.or_eq_true, ih]
      constructor
      · rintro ((h | ⟨k, hk, a, b⟩) | h)
        · exact Or.inl h
        · exact Or.inr ⟨k, by omega, a, b⟩
        · exact Or.inr ⟨n, by omega, h0, h⟩
      · rintro (h | ⟨k, hk, a, b⟩)
        · exact Or.inl (Or.inl h)
        · by_cases hkn : k = n
          · subst hkn; exact Or.inr b
          · exact Or.inl (Or.inr ⟨k, by omega, a, b⟩)
theorem bsN_mono {c : Nat → BitVec 64} {x y : BitVec 64} {n : Nat} (h : sbs x y) : sbs (bsN c x n) (bsN c y n) := by
  intro i hi
  rw [bsN_bit] at hi ⊢
  rcases hi with hi | ⟨k, hk, a, b⟩
  · exact Or.inl (h i hi)
  · refine Or.inr ⟨k, hk, ?_, b⟩
    obtain ⟨j, a1, a2, a3⟩ := and_ne.mp a
    exact and_ne.mpr ⟨j, a1, a2, h j a3⟩
/-- k rounds of beside -/
def dK (c : Nat → BitVec 64) (m : Nat) (x : BitVec 64) : Nat → BitVec 64
  | 0 => x
  | k + 1 => bsN c (dK c m x k) m
theorem dK_sub {c : Nat → BitVec 64} {m : Nat} {x : BitVec 64} {k : Nat} : sbs (dK c m x k) (dK c m x (k + 1)) := fun i h => bsN_sub h
theorem dK_le {c : Nat → BitVec 64} {m : Nat} {x : BitVec 64} {j : Nat} : ∀ {k : Nat}, j ≤ k → sbs (dK c m x j) (dK c m x k) := by
  intro k
  induction k with
  | zero => intro h; rw [Nat.le_zero.mp h]; exact fun _ h => h
  | succ k ih =>
    intro h
    by_cases hj : j = k + 1
    · rw [hj]; exact fun _ h => h
    · exact sbs_tr (ih (by omega)) dK_sub
theorem dK_st {c : Nat → BitVec 64} {m : Nat} {x : BitVec 64} {j : Nat} (h : dK c m x (j + 1) = dK c m x j) : ∀ {k : Nat}, j ≤ k → dK c m x k = dK c m x j := by
  intro k
  induction k with
  | zero => intro h; rw [Nat.le_zero.mp h]
  | succ k ih =>
    intro hk
    by_cases hj : j = k + 1
    · rw [hj]
    · rw [dK, ih (by omega)]; exact h
/-- checks that aren't swallowed -/
noncomputable def muK (c : Nat → BitVec 64) (m : Nat) (x : BitVec 64) : Nat := pn (fun k => !dP (¬ c k &&& x = 0#64 ∧ sbs (c k) x)) m
theorem pn_lt {f g : Nat → Bool} : ∀ {n : Nat}, (∀ i, i < n → f i = true → g i = true) → (∃ i, i < n ∧ f i = false ∧ g i = true) → pn f n < pn g n
  | 0, _, ⟨i, hi, _⟩ => absurd hi (Nat.not_lt_zero _)
  | n + 1, h, ⟨i, hi, a, b⟩ => by
    have hle : ∀ {m : Nat}, m ≤ n + 1 → pn f m ≤ pn g m := by
      intro m
      induction m with
      | zero => intro _; exact Nat.le_refl _
      | succ m ih =>
        intro hm
        rw [pn, pn]
        have h1 := ih (by omega)
        cases hf : f m with
        | false => simp; omega
        | true => rw [h m (by omega) hf]; simp; exact h1
    rw [pn, pn]
    by_cases hin : i = n
    · subst hin
      rw [a, b]
      have := hle (m := i) (by omega)
      simp
      omega
    · have ih := pn_lt (f := f) (g := g) (n := n) (fun j hj => h j (by omega)) ⟨i, by omega, a, b⟩
      cases hf : f n with
      | false => simp; omega
      | true => rw [h n (by omega) hf]; simp; exact ih
theorem muK_lt {c : Nat → BitVec 64} {m : Nat} {x : BitVec 64} (h : ¬ bsN c x m = x) : muK c m (bsN c x m) < muK c m x := by
  have hex : ∃ i, (bsN c x m).getLsbD i = true ∧ x.getLsbD i = false := by
    refine Classical.byContradiction fun hn => h (sbs_eq (fun i hi => ?_) (fun i hi => bsN_sub hi))
    cases hx : x.getLsbD i with
    | true => rfl
    | false => exact absurd ⟨i, hi, hx⟩ hn
  obtain ⟨i, h1, h2⟩ := hex
  rcases bsN_bit.mp h1 with h3 | ⟨k, hk, a, b⟩
  · rw [h3] at h2; cases h2
  refine pn_lt (fun j hj hf => ?_) ⟨k, hk, ?_, ?_⟩
  · simp only [Bool.not_eq_true'] at hf ⊢
    cases hq : dP (¬ c j &&& x = 0#64 ∧ sbs (c j) x) with
    | false => rfl
    | true =>
      exfalso
      obtain ⟨q1, q2⟩ := dP_iff.mp hq
      have : dP (¬ c j &&& bsN c x m = 0#64 ∧ sbs (c j) (bsN c x m)) = true := by
        refine dP_iff.mpr ⟨?_, fun i hi => bsN_sub (q2 i hi)⟩
        obtain ⟨t, t1, t2, t3⟩ := and_ne.mp q1
        exact and_ne.mpr ⟨t, t1, t2, bsN_sub t3⟩
      rw [this] at hf
      cases hf
  · simp only [Bool.not_eq_false']
    refine dP_iff.mpr ⟨?_, fun i hi => bsN_bit.mpr (Or.inr ⟨k, hk, a, hi⟩)⟩
    obtain ⟨t, t1, t2, t3⟩ := and_ne.mp a
    exact and_ne.mpr ⟨t, t1, t2, bsN_sub t3⟩
  · simp only [Bool.not_eq_true']
    cases hq : dP (¬ c k &&& x = 0#64 ∧ sbs (c k) x) with
    | false => rfl
    | true =>
      have := (dP_iff.mp hq).2 i b
      rw [this] at h2
      cases h2
theorem dK_stop {c : Nat → BitVec 64} {m : Nat} {x : BitVec 64} : ∀ {k : Nat}, m ≤ k → dK c m x k = dK c m x m := by
  have key : ∀ k, (∃ j, j < k ∧ dK c m x (j + 1) = dK c m x j) ∨ muK c m (dK c m x k) + k ≤ m := by
    intro k
    induction k with
    | zero => right; exact pn_le _ _
    | succ k ih =>
      rcases ih with ⟨j, a, b⟩ | h
      · exact Or.inl ⟨j, by omega, b⟩
      · by_cases hs : dK c m x (k + 1) = dK c m x k
        · exact Or.inl ⟨k, by omega, hs⟩
        · right
          have := muK_lt (c := c) (m := m) (x := dK c m x k) hs
          rw [dK]
          omega
  intro k hk
  have hm : dK c m x (m + 1) = dK c m x m := by
    rcases key (m + 1) with ⟨j, a, b⟩ | h
    · rw [dK_st b (show j ≤ m + 1 by omega), dK_st b (show j ≤ m by omega)]
    · omega
  exact dK_st hm hk
def mts (x g : BitVec 64) : Prop := ¬ x &&& g = 0#64
theorem mts_le {x y g : BitVec 64} (h : sbs x y) (hm : mts x g) : mts y g := by
  obtain ⟨j, a1, a2, a3⟩ := and_ne.mp hm
  exact and_ne.mpr ⟨j, a1, h j a2, a3⟩
/-- the class's way -/
def wyF (c : Nat → BitVec 64) (m : Nat) (g : BitVec 64) : Nat → BitVec 64 → Nat → Int
  | 0, _, _ => -1
  | f + 1, x, l => if bsN c x m &&& g = 0#64 then (if bsN c x m = x then -1 else wyF c m g f (bsN c x m) (l + 1)) else (l : Int)
/-- how many rounds it takes to meet g -/
def fst (D : Nat → Prop) (v : Int) (w : Nat → Int) : Prop := (v = -1 ∧ ∀ k, ¬ D k) ∨ ∃ k, v = w k ∧ D k ∧ ∀ j, j < k → ¬ D j
theorem fst_eq {D D' : Nat → Prop} {v v' : Int} {w : Nat → Int} (h : fst D v w) (h' : fst D' v' w) (hD : ∀ k, D k ↔ D' k) : v = v' := by
  rcases h with ⟨a, b⟩ | ⟨k, a, b, c⟩
  · rcases h' with ⟨a', b'⟩ | ⟨k', a', b', c'⟩
    · rw [a, a']
    · exact absurd ((hD k').mpr b') (b k')
  · rcases h' with ⟨a', b'⟩ | ⟨k', a', b', c'⟩
    · exact absurd ((hD k).mp b) (b' k)
    · rw [a, a']
      congr 1
      rcases Nat.lt_trichotomy k k' with q | q | q
      · exact absurd ((hD k).mp b) (c' k q)
      · exact q
      · exact absurd ((hD k').mpr b') (c k' q)
theorem wyF_fst {c : Nat → BitVec 64} {m : Nat} {g x0 : BitVec 64} : ∀ (f k : Nat), f + k = m → (∀ j, j ≤ k → ¬ mts (dK c m x0 j) g) → fst (fun j => mts (dK c m x0 j) g) (wyF c m g f (dK c m x0 k) (k + 1)) (fun j => (j : Int)) := by
  intro f
  induction f with
  | zero =>
    intro k hk hj
    refine Or.inl ⟨rfl, fun j => ?_⟩
    by_cases hjk : j ≤ k
    · exact hj j hjk
    · show ¬ mts (dK c m x0 j) g
      rw [dK_stop (show m ≤ j by omega)]
      exact hj m (by omega)
  | succ f ih =>
    intro k hk hj
    unfold wyF
    have e : bsN c (dK c m x0 k) m = dK c m x0 (k + 1) := rfl
    rw [e]
    by_cases h1 : dK c m x0 (k + 1) &&& g = 0#64
    · rw [if_pos h1]
      have hj2 : ∀ j, j ≤ k + 1 → ¬ mts (dK c m x0 j) g := by
        intro j hjk
        by_cases h : j = k + 1
        · rw [h]; exact fun q => q h1
        · exact hj j (by omega)
      by_cases h2 : dK c m x0 (k + 1) = dK c m x0 k
      · rw [if_pos h2]
        refine Or.inl ⟨rfl, fun j => ?_⟩
        by_cases hjk : j ≤ k
        · exact hj j hjk
        · show ¬ mts (dK c m x0 j) g
          rw [dK_st h2 (show k ≤ j by omega)]
          exact hj k (Nat.le_refl _)
      · rw [if_neg h2]
        exact ih (k + 1) (by omega) hj2
    · rw [if_neg h1]
      exact Or.inr ⟨k + 1, rfl, h1, fun j hjk => hj j (by omega)⟩
def wyV (c : Nat → BitVec 64) (m b : Nat) (g : BitVec 64) : Int := if (1#64 <<< b) &&& g = 0#64 then wyF c m g m (1#64 <<< b) 1 else 0
theorem wyV_fst {c : Nat → BitVec 64} {m b : Nat} {g : BitVec 64} : fst (fun j => mts (dK c m (1#64 <<< b) j) g) (wyV c m b g) (fun j => (j : Int)) := by
  unfold wyV
  by_cases h : (1#64 <<< b) &&& g = 0#64
  · rw [if_pos h]
    exact wyF_fst (x0 := 1#64 <<< b) m 0 (by omega) (fun j hj => by rw [Nat.le_zero.mp hj]; exact fun q => q h)
  · rw [if_neg h]
    exact Or.inr ⟨0, rfl, h, fun j hj => absurd hj (Nat.not_lt_zero _)⟩
theorem ptF_fst {c : Nat → BitVec 64} {m t : Nat} {x0 : BitVec 64} (hm : m ≤ 60) : ∀ (f k : Nat), f + k = 64 → (∀ j, j < k → ¬ (dK c m x0 j).getLsbD t = true) → fst (fun j => (dK c m x0 j).getLsbD t = true) (ptF c m t f (dK c m x0 k) (k : Int)) (fun j => (j : Int)) := by
  intro f
  induction f with
  | zero =>
    intro k hk hj
    refine Or.inl ⟨rfl, fun j => ?_⟩
    by_cases hjk : j < k
    · exact hj j hjk
    · show ¬ (dK c m x0 j).getLsbD t = true
      rw [dK_stop (show m ≤ j by omega)]
      exact hj m (by omega)
  | succ f ih =>
    intro k hk hj
    unfold ptF
    have e : bsN c (dK c m x0 k) m = dK c m x0 (k + 1) := rfl
    rw [e]
    by_cases h1 : (dK c m x0 k).getLsbD t = true
    · rw [if_pos h1]
      exact Or.inr ⟨k, rfl, h1, hj⟩
    · rw [if_neg h1]
      have hj2 : ∀ j, j < k + 1 → ¬ (dK c m x0 j).getLsbD t = true := by
        intro j hjk
        by_cases h : j = k
        · rw [h]; exact h1
        · exact hj j (by omega)
      by_cases h2 : dK c m x0 (k + 1) = dK c m x0 k
      · rw [if_pos h2]
        refine Or.inl ⟨rfl, fun j => ?_⟩
        by_cases hjk : j < k
        · exact hj j hjk
        · show ¬ (dK c m x0 j).getLsbD t = true
          rw [dK_st h2 (show k ≤ j by omega)]
          exact h1
      · rw [if_neg h2]
        have := ih (k + 1) (by omega) hj2
        push_cast at this
        exact this
theorem mts1 {x : BitVec 64} {t : Nat} (ht : t < 64) : mts x (1#64 <<< t) ↔ x.getLsbD t = true := by
  unfold mts
  rw [and_ne]
  constructor
  · rintro ⟨i, hi, a, b⟩
    rw [bit1 ht hi] at b
    rw [← of_decide_eq_true b]; exact a
  · intro h
    exact ⟨t, ht, h, by rw [bit1 ht ht]; simp⟩
theorem way_path {c : Nat → BitVec 64} {m b t : Nat} (hm : m ≤ 60) (ht : t < 64) : wyV c m b (1#64 <<< t) = ptF c m t 64 (1#64 <<< b) 0 :=
  fst_eq wyV_fst (ptF_fst (x0 := 1#64 <<< b) hm 64 0 rfl (fun j hj => absurd hj (Nat.not_lt_zero _))) (fun k => mts1 ht)
/-- all checks but one -/
def cWo (c : Nat → BitVec 64) (w : Nat) : Nat → BitVec 64 := fun i => if i = w then 0#64 else c i
theorem rgN_is {c : Nat → BitVec 64} {w : Nat} {s u : BitVec 64} {U : Nat → Prop} (hU : ∀ i, i < 64 → (u.getLsbD i = true ↔ U i)) (hw : U w) (hs : ∀ i, U i → i ≠ w → sbs (c i) s) : ∀ {n : Nat}, n ≤ 64 → (∀ i, i < 64 → ((rgN c s u n).1.getLsbD i = true ↔ U i ∨ (i < n ∧ ¬ c i &&& s = 0#64))) ∧ (rgN c s u n).2.1 = bsN (cWo c w) s n ∧ ((rgN c s u n).2.2 = false → ∀ i, i < n → ¬ c i &&& s = 0#64 → U i) := by
  intro n
  induction n with
  | zero =>
    intro _
    refine ⟨fun i hi => ?_, rfl, fun _ i hi => absurd hi (Nat.not_lt_zero _)⟩
    show u.getLsbD i = true ↔ _
    rw [hU i hi]
    exact ⟨Or.inl, fun h => h.elim id (fun q => absurd q.1 (Nat.not_lt_zero _))⟩
  | succ n ih =>
    intro hn
    obtain ⟨i1, i2, i3⟩ := ih (by omega)
    have hun : (rgN c s u n).1.getLsbD n = true ↔ U n := by
      rw [i1 n (by omega)]
      exact ⟨fun h => h.elim id (fun q => absurd q.1 (Nat.lt_irrefl _)), Or.inl⟩
    unfold rgN
    by_cases h : (rgN c s u n).1.getLsbD n = true ∨ c n &&& s = 0#64
    · rw [if_pos h]
      refine ⟨fun i hi => ?_, ?_, fun hf i hi hc => ?_⟩
      · rw [i1 i hi]
        constructor
        · rintro (q | q)
          · exact Or.inl q
          · exact Or.inr ⟨by omega, q.2⟩
        · rintro (q | q)
          · exact Or.inl q
          · by_cases hin : i = n
            · subst hin
              rcases h with h | h
              · exact Or.inl (hun.mp h)
              · exact absurd h q.2
            · exact Or.inr ⟨by omega, q.2⟩
      · rw [i2, bsN]
        by_cases h0 : cWo c w n &&& s = 0#64
        · rw [if_pos h0]
        · rw [if_neg h0]
          have hnw : ¬ n = w := fun e => h0 (by unfold cWo; rw [if_pos e]; simp)
          have he : cWo c w n = c n := if_neg hnw
          rcases h with h | h
          · have hsb := hs n (hun.mp h) hnw
            rw [he]
            refine sbs_eq (fun i hi => by rw [BitVec.getLsbD_or, hi]; rfl) (fun i hi => ?_)
            rw [BitVec.getLsbD_or, Bool.or_eq_true] at hi
            rcases hi with hi | hi
            · exact hi
            · exact bsN_sub (hsb i hi)
          · rw [he] at h0; exact absurd h h0
      · by_cases hin : i = n
        · subst hin
          rcases h with h | h
          · exact hun.mp h
          · exact absurd h hc
        · exact i3 hf i (by omega) hc
    · rw [if_neg h]
      have h1 : ¬ (rgN c s u n).1.getLsbD n = true := fun q => h (Or.inl q)
      have h2 : ¬ c n &&& s = 0#64 := fun q => h (Or.inr q)
      have hnw : ¬ n = w := fun e => h1 (hun.mpr (e ▸ hw))
      refine ⟨fun i hi => ?_, ?_, fun hf => by cases hf⟩
      · show ((rgN c s u n).1 ||| (1#64 <<< n)).getLsbD i = true ↔ _
        rw [BitVec.getLsbD_or, Bool.or_eq_true, i1 i hi, bit1 (by omega) hi]
        constructor
        · rintro ((q | q) | q)
          · exact Or.inl q
          · exact Or.inr ⟨by omega, q.2⟩
          · have := of_decide_eq_true q
            subst this
            exact Or.inr ⟨by omega, h2⟩
        · rintro (q | q)
          · exact Or.inl (Or.inl q)
          · by_cases hin : i = n
            · right; simp [hin]
            · exact Or.inl (Or.inr ⟨by omega, q.2⟩)
      · show (rgN c s u n).2.1 ||| c n = _
        rw [i2, bsN, if_neg (show ¬ cWo c w n &&& s = 0#64 by rw [show cWo c w n = c n from if_neg hnw]; exact h2), show cWo c w n = c n from if_neg hnw]
theorem rgF_fst {c : Nat → BitVec 64} {m w b : Nat} {G : BitVec 64} (hm : m ≤ 60) : ∀ (f k : Nat) (u : BitVec 64) (U : Nat → Prop), f + k = 64 → (∀ i, i < 64 → (u.getLsbD i = true ↔ U i)) → U w → (∀ i, U i → i ≠ w → sbs (c i) (dK (cWo c w) m G k)) → (∀ j, j ≤ k → ¬ (dK (cWo c w) m G j).getLsbD b = true) → fst (fun j => (dK (cWo c w) m G j).getLsbD b = true) (rgF c m b f (dK (cWo c w) m G k) u (2 + 2 * (k : Int))) (fun j => 2 + 2 * (j : Int)) := by
  intro f
  induction f with
  | zero =>
    intro k u U hk _ _ _ hj
    refine Or.inl ⟨rfl, fun j => ?_⟩
    by_cases hjk : j ≤ k
    · exact hj j hjk
    · show ¬ (dK (cWo c w) m G j).getLsbD b = true
      rw [dK_stop (show m ≤ j by omega)]
      exact hj m (by omega)
  | succ f ih =>
    intro k u U hk hU hw hs hj
    obtain ⟨r1, r2, r3⟩ := rgN_is hU hw hs (n := m) (by omega)
    unfold rgF
    rw [r2, show bsN (cWo c w) (dK (cWo c w) m G k) m = dK (cWo c w) m G (k + 1) from rfl]
    by_cases h1 : (dK (cWo c w) m G (k + 1)).getLsbD b = true
    · rw [if_pos h1]
      exact Or.inr ⟨k + 1, by push_cast; omega, h1, fun j hjk => hj j (by omega)⟩
    · rw [if_neg h1]
      have hj2 : ∀ j, j ≤ k + 1 → ¬ (dK (cWo c w) m G j).getLsbD b = true := by
        intro j hjk
        by_cases h : j = k + 1
        · rw [h]; exact h1
        · exact hj j (by omega)
      cases h2 : (rgN c (dK (cWo c w) m G k) u m).2.2 with
      | true =>
        rw [if_pos rfl]
        have := ih (k + 1) (rgN c (dK (cWo c w) m G k) u m).1 (fun i => U i ∨ (i < m ∧ ¬ c i &&& dK (cWo c w) m G k = 0#64)) (by omega) r1 (Or.inl hw) (fun i hi hiw => ?_) hj2
        · rw [show 2 + 2 * (k : Int) + 2 = 2 + 2 * ((k + 1 : Nat) : Int) by push_cast; omega]
          exact this
        · rcases hi with hi | hi
          · exact sbs_tr (hs i hi hiw) dK_sub
          · exact fun j hjj => bsN_bit.mpr (Or.inr ⟨i, hi.1, by rw [show cWo c w i = c i from if_neg hiw]; exact hi.2, by rw [show cWo c w i = c i from if_neg hiw]; exact hjj⟩)
      | false =>
        rw [if_neg (by decide)]
        have hst : dK (cWo c w) m G (k + 1) = dK (cWo c w) m G k := by
          refine sbs_eq (fun i hi => ?_) dK_sub
          rcases bsN_bit.mp hi with q | ⟨n, hn, a, bb⟩
          · exact q
          · by_cases hnw : n = w
            · exfalso; apply a; unfold cWo; rw [if_pos hnw]; simp
            · rw [show cWo c w n = c n from if_neg hnw] at a bb
              exact hs n (r3 h2 n hn a) hnw i bb
        refine Or.inl ⟨rfl, fun j => ?_⟩
        by_cases hjk : j ≤ k
        · exact hj j hjk
        · show ¬ (dK (cWo c w) m G j).getLsbD b = true
          rw [dK_st hst (show k ≤ j by omega)]
          exact hj k (Nat.le_refl _)
/-- from one bit to another in k rounds: as far as back -/
theorem dK_split {c : Nat → BitVec 64} {m : Nat} {x : BitVec 64} {i : Nat} : ∀ {k : Nat}, (dK c m x k).getLsbD i = true ↔ ∃ j, x.getLsbD j = true ∧ (dK c m (1#64 <<< j) k).getLsbD i = true := by
  intro k
  induction k generalizing i with
  | zero =>
    constructor
    · intro h; exact ⟨i, h, by show (1#64 <<< i).getLsbD i = true; rw [bit1 (gt64 h) (gt64 h)]; simp⟩
    · rintro ⟨j, a, b⟩
      have b' : (1#64 <<< j).getLsbD i = true := b
      rw [bit1 (gt64 a) (gt64 b')] at b'
      rw [of_decide_eq_true b']; exact a
  | succ k ih =>
    rw [dK, bsN_bit]
    constructor
    · rintro (h | ⟨n, hn, a, b⟩)
      · obtain ⟨j, j1, j2⟩ := ih.mp h
        exact ⟨j, j1, dK_sub i j2⟩
      · obtain ⟨t, t1, t2, t3⟩ := and_ne.mp a
        obtain ⟨j, j1, j2⟩ := ih.mp t3
        exact ⟨j, j1, bsN_bit.mpr (Or.inr ⟨n, hn, and_ne.mpr ⟨t, t1, t2, j2⟩, b⟩)⟩
    · rintro ⟨j, j1, j2⟩
      rcases bsN_bit.mp j2 with h | ⟨n, hn, a, b⟩
      · exact Or.inl (ih.mpr ⟨j, j1, h⟩)
      · obtain ⟨t, t1, t2, t3⟩ := and_ne.mp a
        exact Or.inr ⟨n, hn, and_ne.mpr ⟨t, t1, t2, ih.mpr ⟨j, j1, t3⟩⟩, b⟩
theorem dK_first {c : Nat → BitVec 64} {m : Nat} {x : BitVec 64} : ∀ {k : Nat}, dK c m x (k + 1) = dK c m (bsN c x m) k := by
  intro k
  induction k with
  | zero => rfl
  | succ k ih => rw [dK, ih]; rfl
theorem dK_sym {c : Nat → BitVec 64} {m : Nat} : ∀ {k i j : Nat}, (dK c m (1#64 <<< j) k).getLsbD i = true → (dK c m (1#64 <<< i) k).getLsbD j = true := by
  intro k
  induction k with
  | zero =>
    intro i j h
    have h' : (1#64 <<< j).getLsbD i = true := h
    have hi := gt64 h'
    by_cases hj : j < 64
    · rw [bit1 hj hi] at h'
      show (1#64 <<< i).getLsbD j = true
      rw [bit1 hi hj, of_decide_eq_true h']
      simp
    · simp at h'
      omega
  | succ k ih =>
    intro i j h
    rw [dK_first] at h
    obtain ⟨t, t1, t2⟩ := dK_split.mp h
    have h3 := ih t2
    rcases bsN_bit.mp t1 with q | ⟨n, hn, a, b⟩
    · have hj : j < 64 := by
        by_cases hj : j < 64
        · exact hj
        · simp at q; omega
      rw [bit1 hj (gt64 q)] at q
      rw [of_decide_eq_true q] at h3
      exact dK_sub j h3
    · obtain ⟨s, s1, s2, s3⟩ := and_ne.mp a
      have hj : j < 64 := by
        by_cases hj : j < 64
        · exact hj
        · simp at s3; omega
      rw [bit1 hj s1] at s3
      have := of_decide_eq_true s3
      subst this
      exact bsN_bit.mpr (Or.inr ⟨n, hn, and_ne.mpr ⟨t, gt64 b, b, h3⟩, s2⟩)
theorem way_ring {c : Nat → BitVec 64} {m w b : Nat} (hm : m ≤ 60) (hw : w < m) (hb : b < 64) : rgF c m b 64 (c w &&& ~~~(1#64 <<< b)) (1#64 <<< w) 2 = if wyV (cWo c w) m b (c w &&& ~~~(1#64 <<< b)) = -1 then -1 else 2 + 2 * wyV (cWo c w) m b (c w &&& ~~~(1#64 <<< b)) := by
  have hR := rgF_fst (c := c) (m := m) (w := w) (b := b) (G := c w &&& ~~~(1#64 <<< b)) hm 64 0 (1#64 <<< w) (fun i => i = w) rfl (fun i hi => by rw [bit1 (by omega) hi]; simp) rfl (fun i h1 h2 => absurd h1 h2) (fun j hj => by
    rw [Nat.le_zero.mp hj]
    show ¬ (c w &&& ~~~(1#64 <<< b)).getLsbD b = true
    rw [BitVec.getLsbD_and, BitVec.getLsbD_not, bit1 hb hb]
    simp)
  have hW := wyV_fst (c := cWo c w) (m := m) (b := b) (g := c w &&& ~~~(1#64 <<< b))
  have hS : ∀ k, (dK (cWo c w) m (c w &&& ~~~(1#64 <<< b)) k).getLsbD b = true ↔ mts (dK (cWo c w) m (1#64 <<< b) k) (c w &&& ~~~(1#64 <<< b)) := by
    intro k
    unfold mts
    rw [and_ne, dK_split]
    constructor
    · rintro ⟨j, a, d⟩
      exact ⟨j, gt64 a, dK_sym d, a⟩
    · rintro ⟨j, -, a, d⟩
      exact ⟨j, d, dK_sym a⟩
  have hR' : rgF c m b 64 (c w &&& ~~~(1#64 <<< b)) (1#64 <<< w) 2 = rgF c m b 64 (dK (cWo c w) m (c w &&& ~~~(1#64 <<< b)) 0) (1#64 <<< w) (2 + 2 * ((0 : Nat) : Int)) := rfl
  rw [hR']
  rcases hW with ⟨a, d⟩ | ⟨k, a, d, e⟩
  · rw [if_pos a]
    rcases hR with ⟨a', d'⟩ | ⟨k', a', d', e'⟩
    · exact a'
    · exact absurd ((hS k').mp d') (d k')
  · have hne : ¬ wyV (cWo c w) m b (c w &&& ~~~(1#64 <<< b)) = -1 := by rw [a]; show ¬ ((k : Nat) : Int) = -1; omega
    rw [if_neg hne, a]
    rcases hR with ⟨a', d'⟩ | ⟨k', a', d', e'⟩
    · exact absurd ((hS k).mpr d) (d' k)
    · rw [a']
      rcases Nat.lt_trichotomy k k' with q | q | q
      · exact absurd ((hS k).mpr d) (e' k q)
      · rw [q]
      · exact absurd ((hS k').mp d') (e k' q)

