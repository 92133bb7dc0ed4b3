/-! the census's tests, the rest: erasables and least knots -/
theorem pks_sub {p : Nat → Nat} {k b : Nat} : sbs (pks p k) (pks p k ||| (1#64 <<< b)) := fun t ht => by rw [BitVec.getLsbD_or, ht]; rfl
theorem pre_iff {M : Nat → BitVec 32} {c : Nat → BitVec 64} {m k : Nat} {p : Nat → Nat} (hM : MSK M c m) (hk : k ≤ 3) (h1 : ∀ i, i < k → p i < 64) (h2 : ∀ i, i + 1 < k → p i < p (i + 1)) : plL M p (k + 1) (2 ^ k - 1) (k + 1) = 0 ↔ ∀ U, sbs U (pks p k) → STP c m U → U = 0#64 := by
  have hP : ∀ i j, i < k → j < k → p i = p j → i = j := fun i j hi hj e => by
    rcases Nat.lt_trichotomy i j with w | w | w
    · have := inc_lt h2 (d := j - i - 1) (i := i) (by omega)
      rw [show i + (j - i - 1) + 1 = j by omega] at this
      omega
    · exact w
    · have := inc_lt h2 (d := i - j - 1) (i := j) (by omega)
      rw [show j + (i - j - 1) + 1 = i by omega] at this
      omega
  have tb : ∀ i, (2 ^ k - 1).testBit i = true → i < k := fun i hi => by
    rw [Nat.testBit_two_pow_sub_one] at hi
    exact of_decide_eq_true hi
  have lt := pw_lt k (by omega)
  have lt2 : 2 ^ k - 1 < 2 ^ (k + 1) := by
    have := Nat.pow_succ (n := 2) (m := k)
    have := Nat.two_pow_pos k
    omega
  have e : pkw p (2 ^ k - 1).testBit (k + 1) = pks p k := by
    unfold pkw
    rw [if_neg (fun z => by have := tb k z; omega)]
    exact pkw_all (fun i hi => by rw [Nat.testBit_two_pow_sub_one]; exact decide_eq_true hi)
  have := pl_iff (M := M) (c := c) (m := m) (n := k + 1) (w := 2 ^ k - 1) (q := p) hM (by omega) lt lt2 (fun i j _ _ a b => hP i j (tb i a) (tb j b)) (fun i _ a => h1 i (tb i a))
  rw [e] at this
  exact this
theorem full_iff {M : Nat → BitVec 32} {c : Nat → BitVec 64} {m k b : Nat} {p : Nat → Nat} (hM : MSK M c m) (hk : k ≤ 3) (h : PFX p k b) : plL M (u1 p k b) (k + 1) (2 ^ (k + 1) - 1) (k + 1) = 0 ↔ ∀ U, sbs U (pks p k ||| (1#64 <<< b)) → STP c m U → U = 0#64 := by
  have lt := pw_lt (k + 1) (by omega)
  have := pl_iff (M := M) (c := c) (m := m) (n := k + 1) (w := 2 ^ (k + 1) - 1) (q := u1 p k b) hM (by omega) lt (by have := Nat.two_pow_pos (k + 1); omega) h.ij' h.bd'
  rw [pkw_all (fun i hi => by rw [Nat.testBit_two_pow_sub_one]; exact decide_eq_true hi), pks_u] at this
  exact this
theorem era_iff {M : Nat → BitVec 32} {c : Nat → BitVec 64} {m k b : Nat} {p : Nat → Nat} (hM : MSK M c m) (hk : k ≤ 3) (h : PFX p k b) (hpre : ∀ U, sbs U (pks p k) → STP c m U → U = 0#64) : plF c m 65 (pks p k ||| (1#64 <<< b)) = 0#64 ↔ (¬ M b &&& ~~~ psm M p k = 0#32 ∨ plL M (u1 p k b) (k + 1) (2 ^ (k + 1) - 1) (k + 1) = 0) := by
  rw [plF_iff, full_iff hM hk h]
  constructor
  · exact Or.inr
  · rintro (h1 | h1)
    · rw [b32_an] at h1
      obtain ⟨i, hi⟩ := Classical.not_forall.mp h1
      obtain ⟨hi32, hi⟩ := Classical.not_imp.mp hi
      obtain ⟨hb, hns⟩ := Classical.not_imp.mp hi
      have him : i < m := Classical.byContradiction fun z => by rw [hM.2.2 b i (by omega)] at hb; cases hb
      rw [hM.2.1 b i him] at hb
      rw [psm_bit (s := TT) hM him (fun _ _ => rfl)] at hns
      have hc0 : cnw (c i) p TT k = 0 := Classical.byContradiction fun z => hns (decide_eq_true (by omega))
      intro U hU hS
      refine hpre U (fun t ht => ?_) hS
      have ht2 := hU t ht
      by_cases htb : t = b
      · exfalso
        subst htb
        refine hS i him ?_
        have u1 : pop (c i &&& U) ≤ pop (c i &&& (pks p k ||| (1#64 <<< t))) := pop_sb (fun y hy => by
          rw [BitVec.getLsbD_and, Bool.and_eq_true] at hy ⊢
          exact ⟨hy.1, hU y hy.2⟩)
        rw [h.cnt, hc0, if_pos hb] at u1
        have u2 : 0 < pop (c i &&& U) := pn_pos (f := (c i &&& U).getLsbD) (t := t) h.1 (by rw [BitVec.getLsbD_and, ht, hb]; rfl)
        omega
      · rw [or_same h.1 htb] at ht2
        exact ht2
    · exact h1
theorem era_not {c : Nat → BitVec 64} {m k b : Nat} {p : Nat → Nat} (hpre : ¬ ∀ U, sbs U (pks p k) → STP c m U → U = 0#64) : ¬ plF c m 65 (pks p k ||| (1#64 <<< b)) = 0#64 := fun h => hpre (fun U hU hS => plF_iff.mp h U (fun t ht => pks_sub t (hU t ht)) hS)
/-! knots -/
theorem pq_32 {v : BitVec 32} (h : v.getLsbD 31 = false) : pq v = pop32 v := by
  have hb : ∀ i, i < 64 → (v.signExtend 64).getLsbD i = if i < 32 then v.getLsbD i else false := fun i hi => by
    rw [BitVec.getLsbD_signExtend]
    by_cases h1 : i < 32
    · simp [h1, hi]
    · have hm : v.msb = false := by rw [BitVec.msb_eq_getLsbD_last]; exact h
      simp [h1, hm]
  show pn (v.signExtend 64).getLsbD 64 = pn v.getLsbD 32
  rw [pn_cut (n := 32) (by omega) (fun i h1 h2 => by rw [hb i h2, if_neg (by omega)])]
  exact pn_congr (fun i hi => by rw [hb i (by omega), if_pos hi])
theorem hdB_32 {M : Nat → BitVec 32} {c : Nat → BitVec 64} {m t : Nat} {od : BitVec 32} (hM : MSK M c m) : hdB M od t ↔ 2 * pop32 (M t &&& od) < pop32 (M t) := by
  unfold hdB
  have h31 : (M t).getLsbD 31 = false := hM.2.2 t 31 hM.1
  rw [pq_32 h31, pq_32 (by rw [BitVec.getLsbD_and, h31]; rfl)]
theorem knt_w {M : Nat → BitVec 32} {c : Nat → BitVec 64} {m n w : Nat} {q : Nat → Nat} (hM : MSK M c m) (hi : ijQ q w.testBit n) (hq : bdQ q w.testBit n) : kntP M (pkw q w.testBit n) ↔ pKn M q w n := by
  unfold kntP pKn
  rw [xoS_pkw hi hq]
  constructor
  · intro h i hi hw
    exact (hdB_32 hM).mp (h (q i) ((pkw_bit hq).mpr ⟨i, hi, hw, rfl⟩))
  · intro h t ht
    obtain ⟨i, a, b, e⟩ := (pkw_bit hq).mp ht
    rw [← e]
    exact (hdB_32 hM).mpr (h i a b)
theorem mask_ex (f : Nat → Bool) : ∀ n : Nat, ∃ w, w < 2 ^ n ∧ ∀ i, i < n → w.testBit i = f i
  | 0 => ⟨0, by decide, fun i hi => absurd hi (Nat.not_lt_zero _)⟩
  | n + 1 => by
    obtain ⟨w, h1, h2⟩ := mask_ex f n
    have hpw : 2 ^ (n + 1) = 2 ^ n + 2 ^ n := by rw [Nat.pow_succ]; omega
    have hwn : w.testBit n = false := Nat.testBit_lt_two_pow h1
    by_cases hf : f n = true
    · refine ⟨2 ^ n + w, by omega, fun i hi => ?_⟩
      by_cases hin : i = n
      · rw [hin, Nat.testBit_two_pow_add_eq, hwn, hf]; rfl
      · rw [Nat.testBit_two_pow_add_gt (by omega)]
        exact h2 i (by omega)
    · refine ⟨w, by omega, fun i hi => ?_⟩
      by_cases hin : i = n
      · rw [hin, hwn]; rw [Bool.not_eq_true] at hf; exact hf.symm
      · exact h2 i (by omega)
theorem mask_0 {w n : Nat} (hw : w < 2 ^ n) (h : ∀ i, i < n → w.testBit i = false) : w = 0 := by
  refine Nat.eq_of_testBit_eq fun i => ?_
  rw [Nat.zero_testBit]
  by_cases hi : i < n
  · exact h i hi
  · exact Nat.testBit_lt_two_pow (Nat.lt_of_lt_of_le hw (Nat.pow_le_pow_right (by omega) (by omega)))
theorem mask_1 {w n : Nat} (hw : w < 2 ^ n) (h : ∀ i, i < n → w.testBit i = true) : w = 2 ^ n - 1 := by
  refine Nat.eq_of_testBit_eq fun i => ?_
  rw [Nat.testBit_two_pow_sub_one]
  by_cases hi : i < n
  · rw [h i hi, decide_eq_true hi]
  · rw [decide_eq_false hi]
    exact Nat.testBit_lt_two_pow (Nat.lt_of_lt_of_le hw (Nat.pow_le_pow_right (by omega) (by omega)))
theorem lst_iff {M : Nat → BitVec 32} {c : Nat → BitVec 64} {m k b : Nat} {p : Nat → Nat} (hM : MSK M c m) (h : PFX p k b) : lstP M (pks p k ||| (1#64 <<< b)) ↔ (2 * pop32 (M b &&& (pod M p k ^^^ M b)) < pop32 (M b) ∧ (∀ i, i < k → 2 * pop32 (M (p i) &&& (pod M p k ^^^ M b)) < pop32 (M (p i))) ∧ ¬ sKn M (u1 p k b) (k + 1)) := by
  have full : pkw (u1 p k b) (2 ^ (k + 1) - 1).testBit (k + 1) = pks p k ||| (1#64 <<< b) := by
    rw [pkw_all (fun i hi => by rw [Nat.testBit_two_pow_sub_one]; exact decide_eq_true hi), pks_u]
  have bits : ∀ t, (pks p k ||| (1#64 <<< b)).getLsbD t = true ↔ ∃ i, i < k + 1 ∧ u1 p k b i = t := fun t => by
    rw [← pks_u, ← pkw_all (s := TT) (fun _ _ => rfl), pkw_bit h.bd']
    exact ⟨fun ⟨i, a, _, e⟩ => ⟨i, a, e⟩, fun ⟨i, a, e⟩ => ⟨i, a, rfl, e⟩⟩
  have xo1 : xoS M (pks p k ||| (1#64 <<< b)) = pod M p k ^^^ M b := by
    rw [xoS_or h.1 h.new, xoS_pks h.ij h.bd, BitVec.xor_comm]
  have knt : kntP M (pks p k ||| (1#64 <<< b)) ↔ (2 * pop32 (M b &&& (pod M p k ^^^ M b)) < pop32 (M b) ∧ ∀ i, i < k → 2 * pop32 (M (p i) &&& (pod M p k ^^^ M b)) < pop32 (M (p i))) := by
    unfold kntP
    rw [xo1]
    constructor
    · intro g
      refine ⟨(hdB_32 hM).mp (g b ((bits b).mpr ⟨k, by omega, u1_s⟩)), fun i hi => (hdB_32 hM).mp (g (p i) ((bits _).mpr ⟨i, by omega, u1_n (by omega)⟩))⟩
    · rintro ⟨g1, g2⟩ t ht
      obtain ⟨i, a, e⟩ := (bits t).mp ht
      refine (hdB_32 hM).mpr ?_
      by_cases hik : i = k
      · rw [hik, u1_s] at e
        rw [← e]; exact g1
      · rw [u1_n hik] at e
        rw [← e]; exact g2 i (by omega)
  unfold lstP
  rw [knt, and_assoc]
  refine and_congr_right fun _ => and_congr_right fun _ => ?_
  constructor
  · rintro g ⟨w, w1, w2, w3⟩
    have hw : w < 2 ^ (k + 1) := by omega
    have hy := (knt_w (q := u1 p k b) (n := k + 1) (w := w) hM h.ij' h.bd').mpr w3
    refine g _ (fun t ht => ?_) (fun e => ?_) (fun e => ?_) hy
    · obtain ⟨i, a, _, e⟩ := (pkw_bit h.bd').mp ht
      exact (bits t).mpr ⟨i, a, e⟩
    · have := mask_0 hw (fun i hi => by
        cases hb : w.testBit i with
        | false => rfl
        | true =>
          have h1 := (pkw_bit (t := u1 p k b i) (h.bd' (s := w.testBit))).mpr ⟨i, hi, hb, rfl⟩
          rw [e] at h1
          simp at h1)
      omega
    · have := mask_1 hw (fun i hi => by
        have h1 := (bits (u1 p k b i)).mpr ⟨i, hi, rfl⟩
        rw [← e] at h1
        obtain ⟨j, a, b', e'⟩ := (pkw_bit h.bd').mp h1
        have := h.ij' (s := TT) j i a hi rfl rfl e'
        rw [← this]
        exact b')
      omega
  · intro g y y1 y2 y3 y4
    obtain ⟨w, hw, hwb⟩ := mask_ex (fun i => y.getLsbD (u1 p k b i)) (k + 1)
    have e : pkw (u1 p k b) w.testBit (k + 1) = y := by
      refine bv_ext fun t _ => ?_
      cases hy : y.getLsbD t with
      | true =>
        obtain ⟨i, a, e⟩ := (bits t).mp (y1 t hy)
        exact (pkw_bit h.bd').mpr ⟨i, a, by rw [hwb i a, e]; exact hy, e⟩
      | false =>
        cases hq : (pkw (u1 p k b) w.testBit (k + 1)).getLsbD t with
        | false => rfl
        | true =>
          obtain ⟨i, a, b', e⟩ := (pkw_bit h.bd').mp hq
          rw [hwb i a] at b'
          rw [← e] at hy
          rw [hy] at b'
          cases b'
    refine g ⟨w, ?_, ?_, (knt_w hM h.ij' h.bd').mp (by rw [e]; exact y4)⟩
    · refine Nat.pos_of_ne_zero fun z => y2 ?_
      rw [← e, z]
      refine bv_ext fun t _ => ?_
      cases hq : (pkw (u1 p k b) (Nat.testBit 0) (k + 1)).getLsbD t with
      | false => simp
      | true =>
        obtain ⟨i, a, b', e⟩ := (pkw_bit h.bd').mp hq
        simp at b'
    · refine Nat.lt_of_le_of_ne (by omega) fun z => y3 ?_
      rw [← e, z, full]
/-! prefixes and their last bits -/
def tpN (x : BitVec 64) : Nat → Nat
  | 0 => 0
  | n + 1 => if x.getLsbD n = true then n + 1 else tpN x n
def tp (x : BitVec 64) : Nat := tpN x 64
theorem tpN_at {x : BitVec 64} {b : Nat} (hb : x.getLsbD b = true) : ∀ {n : Nat}, b < n → (∀ t, b < t → t < n → x.getLsbD t = false) → tpN x n = b + 1
  | 0, h, _ => absurd h (Nat.not_lt_zero _)
  | n + 1, h, hf => by
    unfold tpN
    by_cases e : b = n
    · subst e; rw [if_pos hb]
    · rw [if_neg (by rw [hf n (by omega) (by omega)]; simp), tpN_at hb (by omega) (fun t h1 h2 => hf t h1 (by omega))]
theorem tpN_z {x : BitVec 64} : ∀ {n : Nat}, (∀ t, t < n → x.getLsbD t = false) → tpN x n = 0
  | 0, _ => rfl
  | n + 1, h => by
    unfold tpN
    rw [if_neg (by rw [h n (by omega)]; simp)]
    exact tpN_z (fun t ht => h t (by omega))
theorem tp_0 : tp 0#64 = 0 := tpN_z (fun t _ => by simp)
theorem tp_or {y : BitVec 64} {b : Nat} (hb : b < 64) (h : ∀ t, y.getLsbD t = true → t < b) : tp (y ||| (1#64 <<< b)) = b + 1 := by
  refine tpN_at (or_it hb) hb (fun t h1 h2 => ?_)
  rw [or_same hb (by omega)]
  cases hy : y.getLsbD t with
  | false => rfl
  | true => have := h t hy; omega
theorem cm_pre {N : Nat} (hN : N ≤ 64) : ∀ (m : Nat) (lo d : Nat) (acc : BitVec 64), N ≤ lo + m → (d = 0 → tp acc = lo) → (∀ t, acc.getLsbD t = true → t < lo) → cm N lo (d + 1) acc = (cm (N - 1) lo d acc).flatMap (fun x => cm N (tp x) 1 x) := by
  intro m
  induction m with
  | zero =>
    intro lo d acc hm h0 _
    cases d with
    | zero => rw [cm_0, List.flatMap_cons, List.flatMap_nil, List.append_nil, h0 rfl]
    | succ d => rw [cm_nil (by omega) (by omega), cm_nil (n := N - 1) (by omega) (by omega)]; rfl
  | succ m ih =>
    intro lo d acc hm h0 hacc
    cases d with
    | zero => rw [cm_0, List.flatMap_cons, List.flatMap_nil, List.append_nil, h0 rfl]
    | succ d =>
      by_cases hl : lo < N - 1
      · rw [cm_s (show lo < N by omega), cm_s hl, List.flatMap_append, ih (lo + 1) d _ (by omega) (fun _ => tp_or (by omega) hacc) (fun t ht => ?_), ih (lo + 1) (d + 1) acc (by omega) (fun z => absurd z (by omega)) (fun t ht => by have := hacc t ht; omega)]
        by_cases htl : t = lo
        · omega
        · rw [or_same (by omega) htl] at ht
          have := hacc t ht
          omega
      · rw [cm_nil (by omega) (by omega), cm_nil (n := N - 1) (by omega) (by omega)]; rfl
theorem tp_pks {p : Nat → Nat} {k : Nat} (h1 : ∀ i, i < k → p i < 64) (h2 : ∀ i, i + 1 < k → p i < p (i + 1)) : tp (pks p k) = if k = 0 then 0 else p (k - 1) + 1 := by
  cases k with
  | zero => exact tp_0
  | succ k =>
    rw [if_neg (by omega)]
    show tp (pks p k ||| (1#64 <<< p k)) = p k + 1
    refine tp_or (h1 k (by omega)) (fun t ht => ?_)
    rw [← pkw_all (s := TT) (fun _ _ => rfl)] at ht
    obtain ⟨i, a, -, e⟩ := (pkw_bit (fun i hi _ => h1 i (by omega))).mp ht
    have := inc_lt h2 (d := k - i - 1) (i := i) (by omega)
    rw [show i + (k - i - 1) + 1 = k by omega] at this
    omega
def chs : Nat → Nat → Nat
  | 0, d => if d = 0 then 1 else 0
  | f + 1, d => if d = 0 then 1 else chs f (d - 1) + chs f d
theorem cmb_len {n : Nat} : ∀ {f d : Nat} {acc : BitVec 64}, (cmb n f d acc).length = chs f d
  | 0, d, acc => by
    unfold cmb chs
    split <;> rfl
  | f + 1, d, acc => by
    unfold cmb chs
    split
    · rfl
    · rw [List.length_append, cmb_len, cmb_len]
theorem chs_s {f d : Nat} : chs f d ≤ chs (f + 1) d := by
  show _ ≤ if d = 0 then 1 else chs f (d - 1) + chs f d
  split
  · rename_i h
    subst h
    cases f <;> exact Nat.le_refl _
  · omega
theorem chs_m {f d : Nat} : ∀ {e : Nat}, chs f d ≤ chs (f + e) d
  | 0 => Nat.le_refl _
  | e + 1 => Nat.le_trans (chs_m (e := e)) chs_s
theorem chs_tab : chs 48 1 ≤ 194580 ∧ chs 48 2 ≤ 194580 ∧ chs 48 3 ≤ 194580 ∧ chs 48 4 ≤ 194580 ∧ chs 48 0 ≤ 194580 := by decide +kernel
theorem cm_len {n lo d : Nat} {acc : BitVec 64} (hn : n ≤ 48) (hd : d ≤ 4) : (cm n lo d acc).length ≤ 194580 := by
  unfold cm
  rw [cmb_len]
  have h1 := chs_m (f := n - lo) (d := d) (e := 48 - (n - lo))
  rw [show n - lo + (48 - (n - lo)) = 48 by omega] at h1
  obtain ⟨t1, t2, t3, t4, t0⟩ := chs_tab
  rcases (show d = 0 ∨ d = 1 ∨ d = 2 ∨ d = 3 ∨ d = 4 by omega) with w | w | w | w | w <;> subst w <;> omega

