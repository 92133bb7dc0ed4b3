/-! the census's tests say what is counted -/
def TT : Nat → Bool := fun _ => true
theorem inc_lt {p : Nat → Nat} {k : Nat} (h : ∀ i, i + 1 < k → p i < p (i + 1)) : ∀ {d i : Nat}, i + d + 1 < k → p i < p (i + d + 1)
  | 0, i, hi => h i hi
  | d + 1, i, hi => Nat.lt_trans (inc_lt h (d := d) (i := i) (by omega)) (h (i + d + 1) hi)
/-- a prefix and a bit behind it -/
def PFX (p : Nat → Nat) (k b : Nat) : Prop := b < 64 ∧ (∀ i, i < k → p i < b) ∧ ∀ i, i + 1 < k → p i < p (i + 1)
theorem PFX.inj {p : Nat → Nat} {k b : Nat} (h : PFX p k b) : ∀ i j, i < k → j < k → p i = p j → i = j := fun i j hi hj e => by
  rcases Nat.lt_trichotomy i j with w | w | w
  · have := inc_lt h.2.2 (d := j - i - 1) (i := i) (by omega)
    rw [show i + (j - i - 1) + 1 = j by omega] at this
    omega
  · exact w
  · have := inc_lt h.2.2 (d := i - j - 1) (i := j) (by omega)
    rw [show j + (i - j - 1) + 1 = i by omega] at this
    omega
theorem PFX.ij {p : Nat → Nat} {k b : Nat} {s : Nat → Bool} (h : PFX p k b) : ijQ p s k := fun i j hi hj _ _ => h.inj i j hi hj
theorem PFX.bd {p : Nat → Nat} {k b : Nat} {s : Nat → Bool} (h : PFX p k b) : bdQ p s k := fun i hi _ => by have := h.1; have := h.2.1 i hi; omega
theorem PFX.ij' {p : Nat → Nat} {k b : Nat} {s : Nat → Bool} (h : PFX p k b) : ijQ (u1 p k b) s (k + 1) := fun i j hi hj _ _ e => by
  by_cases h1 : i = k
  · by_cases h2 : j = k
    · omega
    · rw [h1, u1_s, u1_n h2] at e
      have := h.2.1 j (by omega)
      omega
  · by_cases h2 : j = k
    · rw [h2, u1_s, u1_n h1] at e
      have := h.2.1 i (by omega)
      omega
    · rw [u1_n h1, u1_n h2] at e
      exact h.inj i j (by omega) (by omega) e
theorem PFX.bd' {p : Nat → Nat} {k b : Nat} {s : Nat → Bool} (h : PFX p k b) : bdQ (u1 p k b) s (k + 1) := fun i hi _ => by
  by_cases h1 : i = k
  · rw [h1, u1_s]; exact h.1
  · rw [u1_n h1]; have := h.1; have := h.2.1 i (by omega); omega
theorem pks_u {p : Nat → Nat} {k b : Nat} : pks (u1 p k b) (k + 1) = pks p k ||| (1#64 <<< b) := by
  show pks (u1 p k b) k ||| (1#64 <<< (u1 p k b k)) = _
  rw [u1_s, pks_c (p := u1 p k b) (p' := p) (fun i hi => u1_n (by omega))]
theorem PFX.new {p : Nat → Nat} {k b : Nat} (h : PFX p k b) : (pks p k).getLsbD b = false := by
  rw [← pkw_all (s := TT) (fun _ _ => rfl)]
  cases hq : (pkw p TT k).getLsbD b with
  | false => rfl
  | true =>
    obtain ⟨i, a, -, e⟩ := (pkw_bit h.bd).mp hq
    have := h.2.1 i a
    omega
theorem PFX.cnt {p : Nat → Nat} {k b : Nat} {z : BitVec 64} (h : PFX p k b) : pop (z &&& (pks p k ||| (1#64 <<< b))) = cnw z p TT k + (if z.getLsbD b = true then 1 else 0) := by
  rw [pop_or h.1 h.new, ← pkw_all (q := p) (s := TT) (fun _ _ => rfl), pop_pkw h.ij h.bd]
theorem words_iff {M : Nat → BitVec 32} {c : Nat → BitVec 64} {m k b : Nat} {p : Nat → Nat} (hM : MSK M c m) (h : PFX p k b) : M b = pod M p k ↔ ∀ i, i < m → ¬ pop (c i &&& (pks p k ||| (1#64 <<< b))) % 2 = 1 := by
  constructor
  · intro e i hi
    have e1 := hM.2.1 b i hi
    rw [e, pod_bit (s := TT) hM hi (fun _ _ => rfl)] at e1
    rw [h.cnt, ← e1]
    by_cases hc : cnw (c i) p TT k % 2 = 1
    · rw [decide_eq_true hc, if_pos rfl]; omega
    · rw [decide_eq_false hc, if_neg (by simp)]; omega
  · intro e
    refine BitVec.eq_of_getLsbD_eq fun i _ => ?_
    by_cases hi : i < m
    · have e1 := e i hi
      rw [h.cnt] at e1
      rw [pod_bit (s := TT) hM hi (fun _ _ => rfl), hM.2.1 b i hi]
      by_cases hc : (c i).getLsbD b = true
      · rw [if_pos hc] at e1
        rw [hc, decide_eq_true (show cnw (c i) p TT k % 2 = 1 by omega)]
      · rw [if_neg hc] at e1
        rw [Bool.not_eq_true] at hc
        rw [hc, decide_eq_false (show ¬ cnw (c i) p TT k % 2 = 1 by omega)]
    · rw [hM.2.2 b i (by omega), pod_hi hM (by omega)]
theorem cnw_pre {z : BitVec 64} {p : Nat → Nat} {k : Nat} : cnw z p (2 ^ k - 1).testBit (k + 1) = cnw z p TT k := by
  show cnw z p (2 ^ k - 1).testBit k + (if (2 ^ k - 1).testBit k = true ∧ z.getLsbD (p k) = true then 1 else 0) = _
  rw [if_neg (by rw [Nat.testBit_two_pow_sub_one]; simp), Nat.add_zero]
  exact cnw_c (z := z) (q := p) (q' := p) (s := (2 ^ k - 1).testBit) (s' := TT) (n := k) (fun i hi => ⟨rfl, by rw [Nat.testBit_two_pow_sub_one, decide_eq_true hi]; rfl⟩)
theorem stop_iff {M : Nat → BitVec 32} {c : Nat → BitVec 64} {m k b : Nat} {p : Nat → Nat} (hM : MSK M c m) (h : PFX p k b) : (jst M p (2 ^ k - 1) (k + 1) &&& ~~~ M b = 0#32 ∧ M b &&& ~~~ psm M p k = 0#32) ↔ ∀ i, i < m → ¬ pop (c i &&& (pks p k ||| (1#64 <<< b))) = 1 := by
  have hm := hM.1
  rw [b32_an, b32_an]
  constructor
  · rintro ⟨e1, e2⟩ i hi e3
    have g1 := e1 i (by omega)
    have g2 := e2 i (by omega)
    rw [jst_bit hM, cnw_pre, hM.2.1 b i hi] at g1
    rw [hM.2.1 b i hi, psm_bit (s := TT) hM hi (fun _ _ => rfl)] at g2
    rw [h.cnt] at e3
    by_cases hc : (c i).getLsbD b = true
    · rw [if_pos hc] at e3
      have := of_decide_eq_true (g2 hc)
      omega
    · rw [if_neg hc] at e3
      exact hc (g1 ⟨hi, by omega⟩)
  · intro e
    constructor
    · intro i _ h1
      rw [jst_bit hM, cnw_pre] at h1
      rw [hM.2.1 b i h1.1]
      have := e i h1.1
      rw [h.cnt] at this
      refine Classical.byContradiction fun hc => ?_
      rw [if_neg hc] at this
      omega
    · intro i _ h1
      by_cases hi : i < m
      · rw [hM.2.1 b i hi] at h1
        rw [psm_bit (s := TT) hM hi (fun _ _ => rfl)]
        have := e i hi
        rw [h.cnt, if_pos h1] at this
        exact decide_eq_true (by omega)
      · rw [hM.2.2 b i (by omega)] at h1
        cases h1
/-! what peels away -/
theorem pn_ex {f : Nat → Bool} : ∀ {n : Nat}, 0 < pn f n → ∃ t, t < n ∧ f t = true
  | 0, h => absurd h (Nat.lt_irrefl _)
  | n + 1, h => by
    by_cases hf : f n = true
    · exact ⟨n, by omega, hf⟩
    · unfold pn at h
      rw [if_neg hf] at h
      obtain ⟨t, a, b⟩ := pn_ex (n := n) h
      exact ⟨t, by omega, b⟩
def sub4 (w' w : Nat) : Prop := ∀ i, i < 4 → w'.testBit i = true → w.testBit i = true
def nb4 (w : Nat) : Nat := (if w.testBit 0 then 1 else 0) + (if w.testBit 1 then 1 else 0) + (if w.testBit 2 then 1 else 0) + (if w.testBit 3 then 1 else 0)
theorem nb_tab : ∀ w : Nat, w < 16 → ∀ v : Nat, v < 16 → (∀ i : Nat, i < 4 → v.testBit i = true → w.testBit i = true) → ¬ v = w → nb4 v < nb4 w := by decide +kernel
theorem nb_le : ∀ n : Nat, n < 5 → ∀ w : Nat, w < 16 → w < 2 ^ n → nb4 w ≤ n := by decide +kernel
theorem tb_rm : ∀ x : Nat, x < 16 → ∀ k : Nat, k < 4 → x.testBit k = true → ∀ i : Nat, i < 4 → ((x - 2 ^ k).testBit i = (x.testBit i && !(decide (i = k)))) := by decide +kernel
/-- bits whose masks miss J stay -/
theorem lfP_stay {M : Nat → BitVec 32} {q : Nat → Nat} {J : BitVec 32} {w j : Nat} (hw : w < 16) (hj : j < 4) (hb : w.testBit j = true) (hJ : M (q j) &&& J = 0#32) : ∀ {k : Nat}, k ≤ 4 → (lfP M q J w k).testBit j = true
  | 0, _ => hb
  | k + 1, hk => by
    have ih := lfP_stay hw hj hb hJ (k := k) (by omega)
    have hl := lfP_le (M := M) (p := q) (J := J) (w := w) (k := k)
    unfold lfP
    split
    · rename_i z
      rw [tb_rm _ (by omega) k (by omega) z.1 j hj, ih, decide_eq_false (fun e => ?_)]
      · rfl
      · rw [e] at hJ
        exact z.2 hJ
    · exact ih
theorem lfP_fix {M : Nat → BitVec 32} {q : Nat → Nat} {J : BitVec 32} {w : Nat} (hw : w < 16) : ∀ {n : Nat}, n ≤ 4 → lfP M q J w n = w → ∀ k, k < n → w.testBit k = true → M (q k) &&& J = 0#32
  | 0, _, _, k, hk, _ => absurd hk (Nat.not_lt_zero _)
  | n + 1, hn, he, k, hk, hb => by
    have hl := lfP_le (M := M) (p := q) (J := J) (w := w) (k := n)
    have hp : ∀ x, lfP M q J w n = x → x.testBit n = true → 2 ^ n ≤ x := fun x _ hx => Nat.ge_two_pow_of_testBit hx
    unfold lfP at he
    split at he
    · rename_i z
      have := hp _ rfl z.1
      have := Nat.two_pow_pos n
      omega
    · rename_i z
      by_cases hkn : k = n
      · subst hkn
        refine Classical.byContradiction fun hc => z ⟨?_, hc⟩
        rw [he]
        exact hb
      · exact lfP_fix hw (by omega) he k (by omega) hb
theorem pl_stay {M : Nat → BitVec 32} {c : Nat → BitVec 64} {m n w : Nat} {q : Nat → Nat} {U : BitVec 64} (hM : MSK M c m) (hn : n ≤ 4) (hw : w < 16) (hi : ijQ q w.testBit n) (hq : bdQ q w.testBit n) (hU : STP c m U) (hs : sbs U (pkw q w.testBit n)) : ∀ {r : Nat}, sbs U (pkw q (plL M q n w r).testBit n)
  | 0 => hs
  | r + 1 => by
    have ih := pl_stay hM hn hw hi hq hU hs (r := r)
    have hl := plL_le (M := M) (p := q) (n := n) (w := w) (r := r)
    have hsub := plL_sub (M := M) (p := q) (n := n) (w := w) hw hn (r := r)
    show sbs U (pkw q (lfP M q (jst M q (plL M q n w r) n) (plL M q n w r) n).testBit n)
    have hl2 := lfP_le (M := M) (p := q) (J := jst M q (plL M q n w r) n) (w := plL M q n w r) (k := n)
    have hsub2 := fun i hi => lfP_sub (M := M) (p := q) (J := jst M q (plL M q n w r) n) (w := plL M q n w r) (by omega) (k := n) hn i hi
    generalize plL M q n w r = v at *
    have hi' : ijQ q v.testBit n := fun i j a b d e => hi i j a b (hsub i (by omega) d) (hsub j (by omega) e)
    have hq' : bdQ q v.testBit n := fun i a b => hq i a (hsub i (by omega) b)
    have hq2 : bdQ q (lfP M q (jst M q v n) v n).testBit n := fun i a b => hq' i a (hsub2 i (by omega) b)
    intro t ht
    obtain ⟨i, a, b, e⟩ := (pkw_bit hq').mp (ih t ht)
    refine (pkw_bit hq2).mpr ⟨i, a, lfP_stay (by omega) (by omega) b ?_ hn, e⟩
    rw [b32_0]
    intro x hx
    rw [BitVec.getLsbD_and]
    cases hj : (jst M q v n).getLsbD x with
    | false => simp
    | true =>
      obtain ⟨hxm, hc1⟩ := (jst_bit hM).mp hj
      rw [hM.2.1 _ x hxm]
      cases hcx : (c x).getLsbD (q i) with
      | false => rfl
      | true =>
        exfalso
        refine hU x hxm ?_
        rw [← pop_pkw hi' hq'] at hc1
        have h1 : pop (c x &&& U) ≤ pop (c x &&& pkw q v.testBit n) := pop_sb (fun y hy => by
          rw [BitVec.getLsbD_and, Bool.and_eq_true] at hy ⊢
          exact ⟨hy.1, ih y hy.2⟩)
        have h2 : 0 < pop (c x &&& U) := pn_pos (f := (c x &&& U).getLsbD) (t := t) (by have := hq' i a b; omega) (by rw [BitVec.getLsbD_and, ht, ← e, hcx]; rfl)
        omega
theorem pl_fix {M : Nat → BitVec 32} {q : Nat → Nat} {n w : Nat} (hn : n ≤ 4) (hw : w < 16) (hw2 : w < 2 ^ n) : plL M q n w (n + 1) = plL M q n w n := by
  have key : ∀ r, plL M q n w (r + 1) = plL M q n w r ∨ nb4 (plL M q n w (r + 1)) + (r + 1) ≤ nb4 w := by
    intro r
    induction r with
    | zero =>
      by_cases h : plL M q n w 1 = w
      · exact Or.inl h
      · right
        have hl := plL_le (M := M) (p := q) (n := n) (w := w) (r := 1)
        have := nb_tab w hw (plL M q n w 1) (by omega) (plL_sub hw hn) h
        show nb4 (plL M q n w 1) + 1 ≤ nb4 w
        omega
    | succ r ih =>
      rcases ih with h | h
      · left
        show lfP M q (jst M q (plL M q n w (r + 1)) n) (plL M q n w (r + 1)) n = _
        rw [h]
        exact h
      · by_cases he : plL M q n w (r + 1 + 1) = plL M q n w (r + 1)
        · exact Or.inl he
        · right
          have hl := plL_le (M := M) (p := q) (n := n) (w := w) (r := r + 1)
          have hl2 := plL_le (M := M) (p := q) (n := n) (w := w) (r := r + 1 + 1)
          have := nb_tab (plL M q n w (r + 1)) (by omega) (plL M q n w (r + 1 + 1)) (by omega) (fun i hi => lfP_sub (by omega) hn i hi) he
          omega
  rcases key n with h | h
  · exact h
  · have := nb_le n (by omega) w hw hw2
    omega
theorem pl_stp {M : Nat → BitVec 32} {c : Nat → BitVec 64} {m n w : Nat} {q : Nat → Nat} (hM : MSK M c m) (hn : n ≤ 4) (hw : w < 16) (hw2 : w < 2 ^ n) (hi : ijQ q w.testBit n) (hq : bdQ q w.testBit n) : STP c m (pkw q (plL M q n w n).testBit n) := by
  have hf := pl_fix (M := M) (q := q) hn hw hw2
  have hl := plL_le (M := M) (p := q) (n := n) (w := w) (r := n)
  have hsub := plL_sub (M := M) (p := q) (n := n) (w := w) hw hn (r := n)
  replace hf : lfP M q (jst M q (plL M q n w n) n) (plL M q n w n) n = plL M q n w n := hf
  generalize plL M q n w n = v at *
  have hi' : ijQ q v.testBit n := fun i j a b d e => hi i j a b (hsub i (by omega) d) (hsub j (by omega) e)
  have hq' : bdQ q v.testBit n := fun i a b => hq i a (hsub i (by omega) b)
  intro x hx h1
  obtain ⟨t, ht, hb⟩ := pn_ex (f := (c x &&& pkw q v.testBit n).getLsbD) (n := 64) (by show 0 < pop _; omega)
  rw [BitVec.getLsbD_and, Bool.and_eq_true] at hb
  obtain ⟨i, a, b, e⟩ := (pkw_bit hq').mp hb.2
  have h2 := lfP_fix (by omega) hn hf i a b
  have h3 := (b32_0.mp h2) x (by have := hM.1; omega)
  rw [BitVec.getLsbD_and, hM.2.1 _ x hx, e, hb.1, (jst_bit hM).mpr ⟨hx, by rw [← pop_pkw hi' hq']; exact h1⟩] at h3
  cases h3
theorem pl_iff {M : Nat → BitVec 32} {c : Nat → BitVec 64} {m n w : Nat} {q : Nat → Nat} (hM : MSK M c m) (hn : n ≤ 4) (hw : w < 16) (hw2 : w < 2 ^ n) (hi : ijQ q w.testBit n) (hq : bdQ q w.testBit n) : plL M q n w n = 0 ↔ ∀ U, sbs U (pkw q w.testBit n) → STP c m U → U = 0#64 := by
  have hl := plL_le (M := M) (p := q) (n := n) (w := w) (r := n)
  have hsub := plL_sub (M := M) (p := q) (n := n) (w := w) hw hn (r := n)
  have hq' : bdQ q (plL M q n w n).testBit n := fun i a b => hq i a (hsub i (by omega) b)
  constructor
  · intro h U h1 h2
    have h3 := pl_stay hM hn hw hi hq h2 h1 (r := n)
    refine bv_ext fun t _ => ?_
    cases ht : U.getLsbD t with
    | false => simp
    | true =>
      obtain ⟨i, a, b, e⟩ := (pkw_bit hq').mp (h3 t ht)
      rw [h] at b
      simp at b
  · intro h
    have h1 := h _ (fun t ht => by
      obtain ⟨i, a, b, e⟩ := (pkw_bit hq').mp ht
      exact (pkw_bit hq).mpr ⟨i, a, hsub i (by omega) b, e⟩) (pl_stp hM hn hw hw2 hi hq)
    refine Nat.eq_of_testBit_eq fun i => ?_
    rw [Nat.zero_testBit]
    cases hb : (plL M q n w n).testBit i with
    | false => rfl
    | true =>
      exfalso
      by_cases hin : i < n
      · have h2 := (pkw_bit (t := q i) hq').mpr ⟨i, hin, hb, rfl⟩
        rw [h1] at h2
        simp at h2
      · have h3 := Nat.ge_two_pow_of_testBit hb
        have h4 := Nat.pow_le_pow_right (show 0 < 2 by omega) (show n ≤ i by omega)
        omega
theorem plF_iff {c : Nat → BitVec 64} {m : Nat} {x : BitVec 64} : plF c m 65 x = 0#64 ↔ ∀ U, sbs U x → STP c m U → U = 0#64 := by
  have hg := plF_gs (c := c) (m := m) (f := 65) (x := x) (by have := pop_le x; omega)
  constructor
  · intro h U h1 h2
    have h3 := hg.2.2 U h1 h2
    rw [h] at h3
    refine bv_ext fun t _ => ?_
    cases ht : U.getLsbD t with
    | false => simp
    | true => have := h3 t ht; simp at this
  · intro h
    exact h _ hg.1 hg.2.1

