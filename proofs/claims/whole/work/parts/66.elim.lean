/-! elimination: the class's and the reference's tell the same carriers and the same words -/
def rzX (S : Nat → BitVec 64) (row : BitVec 64) (b t : Nat) (n : Nat) : Nat → BitVec 64 := fun i => if i ≠ t ∧ i < n ∧ (S i).getLsbD b = true then S i ^^^ row else S i
def rzS (m b : Nat) (x : EL) : EL := if fk x.1 b (m - x.2.2) x.2.2 = m then (x.1, x.2.1 ||| (1#64 <<< b), x.2.2) else (rzX (u1 (u1 x.1 (fk x.1 b (m - x.2.2) x.2.2) (x.1 x.2.2)) x.2.2 (x.1 (fk x.1 b (m - x.2.2) x.2.2))) (x.1 (fk x.1 b (m - x.2.2) x.2.2)) b x.2.2 m, x.2.1, x.2.2 + 1)
def rzN (m : Nat) (S0 : Nat → BitVec 64) : Nat → EL
  | 0 => (S0, 0#64, 0)
  | b + 1 => rzS m b (rzN m S0 b)
theorem pn_xor {f g : Nat → Bool} : ∀ {n : Nat}, pn (fun i => f i ^^ g i) n % 2 = (pn f n + pn g n) % 2
  | 0 => rfl
  | n + 1 => by
    have ih := @pn_xor f g n
    rw [pn, pn, pn]
    cases f n <;> cases g n <;> simp <;> omega
theorem par_xor {a b w : BitVec 64} : pop ((a ^^^ b) &&& w) % 2 = (pop (a &&& w) + pop (b &&& w)) % 2 := by
  unfold pop
  rw [← pn_xor]
  congr 1
  refine pn_congr fun i _ => ?_
  simp only [BitVec.getLsbD_and, BitVec.getLsbD_xor]
  cases a.getLsbD i <;> cases b.getLsbD i <;> cases w.getLsbD i <;> rfl
theorem par_xorR {a v w : BitVec 64} : pop (a &&& (v ^^^ w)) % 2 = (pop (a &&& v) + pop (a &&& w)) % 2 := by
  rw [BitVec.and_comm a, BitVec.and_comm a v, BitVec.and_comm a w]
  exact par_xor
def KER (S : Nat → BitVec 64) (m : Nat) (w : BitVec 64) : Prop := ∀ i, i < m → pop (S i &&& w) % 2 = 0
theorem ker_swap {S : Nat → BitVec 64} {m t f : Nat} {w : BitVec 64} (ht : t < m) (hf : f < m) : KER (u1 (u1 S f (S t)) t (S f)) m w ↔ KER S m w := by
  constructor
  · intro h i hi
    by_cases h1 : i = f
    · have := h t ht
      rw [u1_s] at this
      rw [h1]; exact this
    · by_cases h2 : i = t
      · have := h f hf
        rw [h2]
        by_cases h3 : f = t
        · exact absurd (h2.trans h3.symm) h1
        · rw [u1_n h3, u1_s] at this; exact this
      · have := h i hi
        rw [u1_n h2, u1_n h1] at this
        exact this
  · intro h i hi
    by_cases h1 : i = t
    · rw [h1, u1_s]; exact h f hf
    · rw [u1_n h1]
      by_cases h2 : i = f
      · rw [h2, u1_s]; exact h t ht
      · rw [u1_n h2]; exact h i hi
theorem ker_add {P S : Nat → BitVec 64} {m t : Nat} {w : BitVec 64} (ht : t < m) (h0 : S t = P t) (hS : ∀ i, i < m → S i = P i ∨ S i = P i ^^^ P t) : KER S m w ↔ KER P m w := by
  constructor
  · intro h i hi
    have h1 := h t ht
    rw [h0] at h1
    rcases hS i hi with e | e
    · rw [← e]; exact h i hi
    · have := h i hi
      rw [e, par_xor] at this
      omega
  · intro h i hi
    have h1 := h t ht
    rcases hS i hi with e | e
    · rw [e]; exact h i hi
    · have := h i hi
      rw [e, par_xor]
      omega
/-- both eliminations side by side, the first b bits being done -/
def ELB (m b : Nat) (S0 : Nat → BitVec 64) (X Z : EL) : Prop := X.2.2 ≤ m ∧ Z.2.2 = X.2.2 ∧ (∀ i, X.2.2 ≤ i → i < m → Z.1 i = X.1 i) ∧ (∀ j, Z.2.1.getLsbD j = (decide (j < b) && !X.2.1.getLsbD j)) ∧ (∀ w, KER X.1 m w ↔ KER S0 m w) ∧ (∀ w, KER Z.1 m w ↔ KER S0 m w) ∧ (∀ i, X.2.2 ≤ i → i < m → ∀ j, j < b → (X.1 i).getLsbD j = false) ∧ ∃ pv : Nat → Nat, (∀ i, i < X.2.2 → pv i < b ∧ isLow (X.1 i) (pv i) ∧ isLow (Z.1 i) (pv i) ∧ X.2.1.getLsbD (pv i) = true) ∧ (∀ i j, i < j → j < X.2.2 → pv i < pv j) ∧ (∀ q, X.2.1.getLsbD q = true → ∃ i, i < X.2.2 ∧ q = pv i) ∧ ∀ i, i < X.2.2 → ∀ j, j < X.2.2 → j ≠ i → (Z.1 i).getLsbD (pv j) = false
theorem fk_c {S T : Nat → BitVec 64} {b : Nat} : ∀ {d k : Nat}, (∀ i, k ≤ i → i < k + d → S i = T i) → fk S b d k = fk T b d k
  | 0, _, _ => rfl
  | d + 1, k, h => by
    rw [fk, fk, h k (Nat.le_refl _) (by omega), fk_c (fun i h1 h2 => h i (by omega) (by omega))]
theorem elB {m : Nat} {S0 T0 : Nat → BitVec 64} (hST : ∀ i, i < m → S0 i = T0 i) : ∀ {b : Nat}, b ≤ 64 → ELB m b T0 (elN m T0 b) (rzN m S0 b) := by
  intro b
  induction b with
  | zero =>
    intro _
    refine ⟨Nat.zero_le _, rfl, fun i _ hi => hST i hi, fun j => ?_, fun w => Iff.rfl, fun w => ?_, fun i _ _ j hj => absurd hj (Nat.not_lt_zero _), fun _ => 0, fun i hi => absurd hi (Nat.not_lt_zero _), fun i j _ hj => absurd hj (Nat.not_lt_zero _), fun q hq => ?_, fun i hi => absurd hi (Nat.not_lt_zero _)⟩
    · show (0#64).getLsbD j = _
      simp
    · exact ⟨fun h i hi => by rw [← hST i hi]; exact h i hi, fun h i hi => by show pop (S0 i &&& w) % 2 = 0; rw [hST i hi]; exact h i hi⟩
    · have hq' : (0#64).getLsbD q = true := hq
      simp at hq'
  | succ b ih =>
    intro hb
    obtain ⟨t0, t1, t2, t3, t4, t5, t6, pv, p1, p2, p3, p4⟩ := ih (by omega)
    rw [elN, rzN]
    generalize elN m T0 b = X at *
    generalize rzN m S0 b = Z at *
    obtain ⟨XS, XF, t⟩ := X
    obtain ⟨ZS, ZF, tz⟩ := Z
    dsimp only at t0 t1 t2 t3 t4 t5 t6 p1 p2 p3 p4
    subst t1
    unfold elS rzS
    dsimp only
    have hfk : fk ZS b (m - tz) tz = fk XS b (m - tz) tz := by
      exact fk_c (fun i h1 h2 => t2 i h1 (by omega))
    rw [hfk]
    have hr := @fk_rng XS b (m - tz) tz
    by_cases hf : fk XS b (m - tz) tz = m
    · rw [if_pos hf, if_pos hf]
      have hno := @fk_no XS b (m - tz) tz
      refine ⟨t0, rfl, t2, fun j => ?_, t4, t5, fun i h1 h2 j hj => ?_, pv, fun i hi => ?_, p2, p3, p4⟩
      · show (ZF ||| (1#64 <<< b)).getLsbD j = _
        rw [BitVec.getLsbD_or, t3 j, bit1o (by omega)]
        by_cases hj : j = b
        · subst hj
          have : XF.getLsbD j = false := by
            cases hq : XF.getLsbD j with
            | false => rfl
            | true =>
              obtain ⟨i, hi, e⟩ := p3 j hq
              have := (p1 i hi).1
              omega
          rw [this]
          simp
        · simp only [hj, decide_false, Bool.or_false]
          congr 1
          simp only [decide_eq_decide]
          omega
      · by_cases hjb : j = b
        · subst hjb
          exact hno h1 (by rw [hf]; exact h2)
        · exact t6 i h1 h2 j (by omega)
      · obtain ⟨q1, q2⟩ := p1 i hi
        exact ⟨by omega, q2⟩
    · rw [if_neg hf, if_neg hf]
      have hfm : fk XS b (m - tz) tz < m := by omega
      have hbit := fk_bit (S := XS) (b := b) (d := m - tz) (k := tz) (by omega)
      generalize fk XS b (m - tz) tz = f at *
      have hf1 : tz ≤ f := hr.1
      have htm : tz < m := by omega
      have hZf : ZS f = XS f := t2 f hf1 hfm
      have hZt : ZS tz = XS tz := t2 _ (Nat.le_refl _) htm
      rw [hZf, hZt]
      obtain ⟨row, hrow⟩ : ∃ row, XS f = row := ⟨_, rfl⟩
      rw [hrow] at hbit ⊢
      have hlow : isLow row b := ⟨by omega, hbit, fun j hj => by rw [← hrow]; exact t6 f hf1 hfm j hj⟩
      -- rows from tz + 1 on
      have hXr : ∀ i, (elX (u1 (u1 XS f (XS tz)) tz row) row b tz m) i = if tz < i ∧ i < m ∧ ((u1 (u1 XS f (XS tz)) tz row) i).getLsbD b = true then (u1 (u1 XS f (XS tz)) tz row) i ^^^ row else (u1 (u1 XS f (XS tz)) tz row) i := fun i => rfl
      have hZr : ∀ i, (rzX (u1 (u1 ZS f (XS tz)) tz row) row b tz m) i = if i ≠ tz ∧ i < m ∧ ((u1 (u1 ZS f (XS tz)) tz row) i).getLsbD b = true then (u1 (u1 ZS f (XS tz)) tz row) i ^^^ row else (u1 (u1 ZS f (XS tz)) tz row) i := fun i => rfl
      have hPe : ∀ i, tz ≤ i → i < m → (u1 (u1 ZS f (XS tz)) tz row) i = (u1 (u1 XS f (XS tz)) tz row) i := by
        intro i h1 h2
        by_cases hit : i = tz
        · rw [hit, u1_s, u1_s]
        · rw [u1_n hit, u1_n hit]
          by_cases hif : i = f
          · rw [hif, u1_s, u1_s]
          · rw [u1_n hif, u1_n hif]; exact t2 i h1 h2
      have hP0 : ∀ i, tz < i → i < m → ∀ j, j < b → ((u1 (u1 XS f (XS tz)) tz row) i).getLsbD j = false := by
        intro i h1 h2 j hj
        rw [u1_n (by omega)]
        by_cases hif : i = f
        · rw [hif, u1_s]; exact t6 tz (Nat.le_refl _) htm j hj
        · rw [u1_n hif]; exact t6 i (by omega) h2 j hj
      have hXlo : ∀ i, i < tz → (elX (u1 (u1 XS f (XS tz)) tz row) row b tz m) i = XS i := by
        intro i hi
        rw [hXr i, if_neg (by omega), u1_n (by omega), u1_n (by omega)]
      have hXt : (elX (u1 (u1 XS f (XS tz)) tz row) row b tz m) tz = row := by rw [hXr tz, if_neg (by omega), u1_s]
      have hZt' : (rzX (u1 (u1 ZS f (XS tz)) tz row) row b tz m) tz = row := by rw [hZr tz, if_neg (fun q => q.1 rfl), u1_s]
      have hZlo : ∀ i, i < tz → (rzX (u1 (u1 ZS f (XS tz)) tz row) row b tz m) i = if (ZS i).getLsbD b = true then ZS i ^^^ row else ZS i := by
        intro i hi
        rw [hZr i, u1_n (show i ≠ tz by omega), u1_n (show i ≠ f by omega)]
        by_cases hbi : (ZS i).getLsbD b = true
        · rw [if_pos ⟨by omega, by omega, hbi⟩, if_pos hbi]
        · rw [if_neg (fun q => hbi q.2.2), if_neg hbi]
      refine ⟨by show tz + 1 ≤ m; omega, rfl, fun i h1 h2 => ?_, fun j => ?_, fun w => ?_, fun w => ?_, fun i h1 h2 j hj => ?_, u1 pv tz b, fun i hi => ?_, fun i j hij hj => ?_, fun q hq => ?_, fun i hi j hj hne => ?_⟩
      · have h1' : tz + 1 ≤ i := h1
        show (rzX _ _ _ _ _) i = (elX _ _ _ _ _) i
        rw [hZr i, hXr i, hPe i (by omega) h2]
        by_cases hbi : ((u1 (u1 XS f (XS tz)) tz row) i).getLsbD b = true
        · rw [if_pos ⟨by omega, h2, hbi⟩, if_pos ⟨by omega, h2, hbi⟩]
        · rw [if_neg (fun q => hbi q.2.2), if_neg (fun q => hbi q.2.2)]
      · show ZF.getLsbD j = (decide (j < b + 1) && !(XF ||| (1#64 <<< b)).getLsbD j)
        rw [BitVec.getLsbD_or, t3 j, bit1o (by omega)]
        by_cases hj : j = b
        · subst hj; simp
        · simp only [hj, decide_false, Bool.or_false]
          congr 1
          simp only [decide_eq_decide]
          omega
      · rw [← t4 w, ← ker_swap (S := XS) (f := f) htm hfm, hrow]
        refine ker_add htm (by show (elX _ _ _ _ _) tz = _; rw [hXt, u1_s]) (fun i hi => ?_)
        show (elX _ _ _ _ _) i = _ ∨ (elX _ _ _ _ _) i = _
        rw [hXr i, show (u1 (u1 XS f (XS tz)) tz row) tz = row from u1_s]
        by_cases hc : tz < i ∧ i < m ∧ ((u1 (u1 XS f (XS tz)) tz row) i).getLsbD b = true
        · rw [if_pos hc]; exact Or.inr rfl
        · rw [if_neg hc]; exact Or.inl rfl
      · rw [← t5 w, ← ker_swap (S := ZS) (f := f) htm hfm, hZf, hZt, hrow]
        refine ker_add htm (by show (rzX _ _ _ _ _) tz = _; rw [hZt', u1_s]) (fun i hi => ?_)
        show (rzX _ _ _ _ _) i = _ ∨ (rzX _ _ _ _ _) i = _
        rw [hZr i, show (u1 (u1 ZS f (XS tz)) tz row) tz = row from u1_s]
        by_cases hc : i ≠ tz ∧ i < m ∧ ((u1 (u1 ZS f (XS tz)) tz row) i).getLsbD b = true
        · rw [if_pos hc]; exact Or.inr rfl
        · rw [if_neg hc]; exact Or.inl rfl
      · have h1' : tz + 1 ≤ i := h1
        show ((elX _ _ _ _ _) i).getLsbD j = false
        rw [hXr i]
        by_cases hc : tz < i ∧ i < m ∧ ((u1 (u1 XS f (XS tz)) tz row) i).getLsbD b = true
        · rw [if_pos hc, BitVec.getLsbD_xor]
          by_cases hjb : j = b
          · rw [hjb, hc.2.2, hlow.2.1]; rfl
          · rw [hP0 i (by omega) h2 j (by omega), hlow.2.2 j (by omega)]; rfl
        · rw [if_neg hc]
          by_cases hjb : j = b
          · rw [hjb]
            cases hq : ((u1 (u1 XS f (XS tz)) tz row) i).getLsbD b with
            | false => rfl
            | true => exact absurd ⟨by omega, h2, hq⟩ hc
          · exact hP0 i (by omega) h2 j (by omega)
      · have hi' : i < tz + 1 := hi
        show u1 pv tz b i < b + 1 ∧ isLow ((elX _ _ _ _ _) i) _ ∧ isLow ((rzX _ _ _ _ _) i) _ ∧ (XF ||| (1#64 <<< b)).getLsbD _ = true
        by_cases hit : i = tz
        · subst hit
          rw [hXt, hZt', u1_s]
          refine ⟨by omega, hlow, hlow, ?_⟩
          rw [BitVec.getLsbD_or, bit1o (by omega)]
          simp
        · obtain ⟨q1, q2, q3, q4⟩ := p1 i (by omega)
          rw [u1_n hit, hXlo i (by omega), hZlo i (by omega)]
          refine ⟨by omega, q2, ?_, ?_⟩
          · by_cases hbi : (ZS i).getLsbD b = true
            · rw [if_pos hbi]
              refine ⟨q3.1, ?_, fun j hj => ?_⟩
              · rw [BitVec.getLsbD_xor, q3.2.1, hlow.2.2 _ q1]; rfl
              · rw [BitVec.getLsbD_xor, q3.2.2 j hj, hlow.2.2 _ (by omega)]; rfl
            · rw [if_neg hbi]; exact q3
          · rw [BitVec.getLsbD_or, q4]; rfl
      · have hj' : j < tz + 1 := hj
        by_cases hjt : j = tz
        · rw [hjt, u1_s, u1_n (by omega)]
          exact (p1 i (by omega)).1
        · rw [u1_n hjt, u1_n (by omega)]
          exact p2 i j hij (by omega)
      · have hq' : (XF ||| (1#64 <<< b)).getLsbD q = true := hq
        rw [BitVec.getLsbD_or, Bool.or_eq_true, bit1o (by omega)] at hq'
        rcases hq' with hq' | hq'
        · obtain ⟨i, hi, e⟩ := p3 q hq'
          exact ⟨i, by show i < tz + 1; omega, by rw [u1_n (by omega)]; exact e⟩
        · exact ⟨tz, by show tz < tz + 1; omega, by rw [u1_s]; exact of_decide_eq_true hq'⟩
      · have hi' : i < tz + 1 := hi
        have hj' : j < tz + 1 := hj
        show ((rzX _ _ _ _ _) i).getLsbD _ = false
        by_cases hit : i = tz
        · rw [hit, hZt', u1_n (by omega)]
          exact hlow.2.2 _ (p1 j (by omega)).1
        · rw [hZlo i (by omega)]
          by_cases hjt : j = tz
          · rw [hjt, u1_s]
            by_cases hbi : (ZS i).getLsbD b = true
            · rw [if_pos hbi, BitVec.getLsbD_xor, hbi, hlow.2.1]; rfl
            · rw [if_neg hbi]; simpa using hbi
          · rw [u1_n hjt]
            have h5 := p4 i (by omega) j (by omega) hne
            by_cases hbi : (ZS i).getLsbD b = true
            · rw [if_pos hbi, BitVec.getLsbD_xor, h5, hlow.2.2 _ (p1 j (by omega)).1]; rfl
            · rw [if_neg hbi]; exact h5
theorem cw1_bit {cr x : BitVec 64} : ∀ {k : Nat}, k ≤ pop cr → ∀ j, j < 64 → ((cw1 cr x k).getLsbD j = true ↔ cr.getLsbD j = true ∧ pn cr.getLsbD j < k ∧ x.getLsbD (pn cr.getLsbD j) = true)
  | 0, _, j, hj => by
    show (0#64).getLsbD j = true ↔ _
    simp
  | k + 1, hk, j, hj => by
    have ih := cw1_bit (cr := cr) (x := x) (k := k) (by omega) j hj
    obtain ⟨t, a1, a2, a3⟩ := nth_ex (x := cr) (i := k) (by omega)
    have hl := low_eq (nth_low a1 a2 a3)
    have huni : cr.getLsbD j = true → pn cr.getLsbD j = k → j = t := by
      intro h1 h2
      rcases Nat.lt_trichotomy j t with q | q | q
      · have := pn_mono (f := cr.getLsbD) (a := j + 1) (b := t) (by omega)
        rw [pn, h1] at this
        simp at this
        omega
      · exact q
      · have := pn_mono (f := cr.getLsbD) (a := t + 1) (b := j) (by omega)
        rw [pn, a2] at this
        simp at this
        omega
    unfold cw1
    by_cases hx : x.getLsbD k = true
    · rw [if_pos hx, BitVec.getLsbD_or, Bool.or_eq_true, ih, hl, bit1 a1 hj]
      constructor
      · rintro (⟨h1, h2, h3⟩ | h)
        · exact ⟨h1, by omega, h3⟩
        · have := of_decide_eq_true h
          subst this
          exact ⟨a2, by omega, by rw [a3]; exact hx⟩
      · rintro ⟨h1, h2, h3⟩
        by_cases he : pn cr.getLsbD j = k
        · right
          simp [huni h1 he]
        · exact Or.inl ⟨h1, by omega, h3⟩
    · rw [if_neg hx, ih]
      constructor
      · rintro ⟨h1, h2, h3⟩
        exact ⟨h1, by omega, h3⟩
      · rintro ⟨h1, h2, h3⟩
        refine ⟨h1, ?_, h3⟩
        by_cases he : pn cr.getLsbD j = k
        · rw [he] at h3; exact absurd h3 hx
        · omega
theorem wb1_bit {F x : BitVec 64} : ∀ {n : Nat}, n ≤ 64 → ∀ j, j < 64 → ((wb1 F x n).getLsbD j = true ↔ j < n ∧ F.getLsbD j = false ∧ x.getLsbD (pn (fun i => !F.getLsbD i) j) = true)
  | 0, _, j, hj => by
    show (0#64).getLsbD j = true ↔ _
    simp
  | n + 1, hn, j, hj => by
    have ih := wb1_bit (F := F) (x := x) (n := n) (by omega) j hj
    unfold wb1
    by_cases hF : F.getLsbD n = true
    · rw [if_pos hF, ih]
      constructor
      · rintro ⟨a, b, c⟩; exact ⟨by omega, b, c⟩
      · rintro ⟨a, b, c⟩
        refine ⟨?_, b, c⟩
        by_cases hjn : j = n
        · rw [hjn, hF] at b; cases b
        · omega
    · rw [if_neg hF]
      by_cases hx : x.getLsbD (pn (fun i => !F.getLsbD i) n) = true
      · rw [if_pos hx, BitVec.getLsbD_or, Bool.or_eq_true, ih, bit1 (by omega) hj]
        constructor
        · rintro (⟨a, b, c⟩ | h)
          · exact ⟨by omega, b, c⟩
          · have := of_decide_eq_true h
            subst this
            exact ⟨by omega, by simpa using hF, hx⟩
        · rintro ⟨a, b, c⟩
          by_cases hjn : j = n
          · right; simp [hjn]
          · exact Or.inl ⟨by omega, b, c⟩
      · rw [if_neg hx, ih]
        constructor
        · rintro ⟨a, b, c⟩; exact ⟨by omega, b, c⟩
        · rintro ⟨a, b, c⟩
          refine ⟨?_, b, c⟩
          by_cases hjn : j = n
          · rw [hjn] at c; exact absurd c hx
          · omega
theorem pn_pre {f g : Nat → Bool} {n : Nat} (h : ∀ i, i < n → f i = g i) {j : Nat} (hj : j ≤ n) : pn f j = pn g j := pn_congr (fun i hi => h i (by omega))
theorem par_or1 {a w : BitVec 64} {t : Nat} (ht : t < 64) (hw : w.getLsbD t = false) : pop (a &&& (w ||| (1#64 <<< t))) % 2 = (pop (a &&& w) + (if a.getLsbD t = true then 1 else 0)) % 2 := by
  have he : w ||| (1#64 <<< t) = w ^^^ (1#64 <<< t) := bv_ext fun i hi => by
    rw [BitVec.getLsbD_or, BitVec.getLsbD_xor, bit1 ht hi]
    by_cases hit : i = t
    · rw [hit, hw]; simp
    · simp [hit]
  rw [he, par_xorR]
  congr 2
  by_cases h : a.getLsbD t = true
  · rw [if_pos h]
    have h1 : a &&& (1#64 <<< t) = 1#64 <<< t := bv_ext fun i hi => by
      rw [BitVec.getLsbD_and, bit1 ht hi]
      by_cases hit : i = t
      · rw [hit, h]; simp
      · simp [hit]
    rw [h1]
    have := pop_rm (x := 1#64 <<< t) ht
    rw [show (1#64 <<< t).getLsbD t = true by rw [bit1 ht ht]; simp, if_pos rfl] at this
    rw [← this, show (1#64 <<< t) &&& ~~~(1#64 <<< t) = 0#64 from bv_ext fun i hi => by rw [BitVec.getLsbD_and, BitVec.getLsbD_not]; cases (1#64 <<< t).getLsbD i <;> simp [hi], pop_0]
  · rw [if_neg h]
    have h1 : a &&& (1#64 <<< t) = 0#64 := bv_ext fun i hi => by
      rw [BitVec.getLsbD_and, bit1 ht hi]
      by_cases hit : i = t
      · rw [hit]; simp at h; simp [h]
      · simp [hit]
    rw [h1, pop_0]
theorem word_same {m n : Nat} {T0 : Nat → BitVec 64} {X Z : EL} (hn : n ≤ 48) (hB : ELB m n T0 X Z) (hhi : ∀ i, i < m → ∀ j, n ≤ j → (T0 i).getLsbD j = false) (hXhi : ∀ i, i < m → ∀ j, n ≤ j → (X.1 i).getLsbD j = false) (x : BitVec 64) : cwd Z.1 X.2.2 Z.2.1 x = wordX X n x := by
  obtain ⟨t0, t1, t2, t3, t4, t5, t6, pv, p1, p2, p3, p4⟩ := hB
  have hX0 : ∀ i, X.2.2 ≤ i → i < m → X.1 i = 0#64 := fun i h1 h2 => bv_ext fun j hj => by
    by_cases hjn : j < n
    · rw [t6 i h1 h2 j hjn]; simp
    · rw [hXhi i h2 j (by omega)]; simp
  have hfr : ∀ i, i < X.2.2 → Z.2.1.getLsbD (pv i) = false := fun i hi => by rw [t3, (p1 i hi).2.2.2]; simp
  -- what both begin with
  have hy : cw1 Z.2.1 x (pop Z.2.1) = wb1 X.2.1 x n := bv_ext fun j hj => by
    have h1 := cw1_bit (cr := Z.2.1) (x := x) (k := pop Z.2.1) (Nat.le_refl _) j hj
    have h2 := wb1_bit (F := X.2.1) (x := x) (n := n) (by omega) j hj
    have h3 : (cw1 Z.2.1 x (pop Z.2.1)).getLsbD j = true ↔ (wb1 X.2.1 x n).getLsbD j = true := by
      rw [h1, h2, t3 j]
      constructor
      · rintro ⟨a, b, c⟩
        simp only [Bool.and_eq_true, decide_eq_true_eq, Bool.not_eq_true'] at a
        rw [pn_pre (g := fun i => !X.2.1.getLsbD i) (n := n) (fun i hi => by rw [t3]; simp [hi]) (by omega)] at c
        exact ⟨a.1, a.2, c⟩
      · rintro ⟨a, b, c⟩
        rw [pn_pre (f := Z.2.1.getLsbD) (g := fun i => !X.2.1.getLsbD i) (n := n) (fun i hi => by rw [t3]; simp [hi]) (by omega)]
        refine ⟨by simp [a, b], ?_, c⟩
        have hzj : Z.2.1.getLsbD j = true := by rw [t3]; simp [a, b]
        have := pn_mono (f := Z.2.1.getLsbD) (a := j + 1) (b := 64) (by omega)
        rw [pn, hzj] at this
        simp at this
        rw [← pn_pre (f := Z.2.1.getLsbD) (g := fun i => !X.2.1.getLsbD i) (n := n) (fun i hi => by rw [t3]; simp [hi]) (by omega)]
        unfold pop
        omega
    cases ha : (cw1 Z.2.1 x (pop Z.2.1)).getLsbD j with
    | true => exact (h3.mp ha).symm
    | false =>
      cases hb : (wb1 X.2.1 x n).getLsbD j with
      | false => rfl
      | true => rw [h3.mpr hb] at ha; cases ha
  unfold cwd wordX
  rw [hy]
  have hy0 : ∀ i, i < X.2.2 → (wb1 X.2.1 x n).getLsbD (pv i) = false := by
    intro i hi
    cases h : (wb1 X.2.1 x n).getLsbD (pv i) with
    | false => rfl
    | true =>
      have h2 := ((wb1_bit (F := X.2.1) (x := x) (n := n) (by omega) (pv i) (p1 i hi).2.1.1).mp h).2.1
      rw [(p1 i hi).2.2.2] at h2
      cases h2
  have hyn : ∀ j, n ≤ j → (wb1 X.2.1 x n).getLsbD j = false := by
    intro j hj
    cases h : (wb1 X.2.1 x n).getLsbD j with
    | false => rfl
    | true =>
      have h2 := ((wb1_bit (F := X.2.1) (x := x) (n := n) (by omega) j (gt64 h)).mp h).1
      omega
  generalize wb1 X.2.1 x n = y at *
  -- the class's word
  have hc : ∀ k, k ≤ X.2.2 → (∀ j, (∀ i, i < X.2.2 → j ≠ pv i) → (cw2 Z.1 y k).getLsbD j = y.getLsbD j) ∧ (∀ i, i < X.2.2 → (cw2 Z.1 y k).getLsbD (pv i) = (decide (i < k) && decide (pop (Z.1 i &&& y) % 2 = 1))) := by
    intro k
    induction k with
    | zero =>
      intro _
      exact ⟨fun j _ => rfl, fun i hi => by show y.getLsbD (pv i) = _; rw [hy0 i hi]; simp⟩
    | succ k ih =>
      intro hk
      obtain ⟨i1, i2⟩ := ih (by omega)
      have hl := low_eq (p1 k (by omega)).2.2.1
      have h64 := (p1 k (by omega)).2.2.1.1
      unfold cw2
      by_cases ho : pop (Z.1 k &&& y) % 2 = 1
      · rw [if_pos ho, hl]
        refine ⟨fun j hj => ?_, fun i hi => ?_⟩
        · rw [BitVec.getLsbD_or, i1 j hj, bit1o h64]
          simp [hj k (by omega)]
        · rw [BitVec.getLsbD_or, i2 i hi, bit1o h64]
          by_cases hik : i = k
          · subst hik; simp [ho]
          · have : ¬ pv i = pv k := fun e => by
              rcases Nat.lt_or_gt_of_ne hik with q | q
              · have := p2 i k q (by omega); omega
              · have := p2 k i q hi; omega
            simp only [this, decide_false, Bool.or_false]
            congr 1
            simp only [decide_eq_decide]
            omega
      · rw [if_neg ho]
        refine ⟨i1, fun i hi => ?_⟩
        rw [i2 i hi]
        by_cases hik : i = k
        · subst hik; simp [ho]
        · congr 1
          simp only [decide_eq_decide]
          omega
  obtain ⟨c1, c2⟩ := hc X.2.2 (Nat.le_refl _)
  -- the reference's word
  have hr : ∀ k, k ≤ X.2.2 → ∀ w, (∀ j, (∀ i, i < X.2.2 → j ≠ pv i) → w.getLsbD j = y.getLsbD j) → (∀ i, i < k → w.getLsbD (pv i) = false) → (∀ i, k ≤ i → i < X.2.2 → pop (X.1 i &&& w) % 2 = 0) → (∀ j, (∀ i, i < X.2.2 → j ≠ pv i) → (wb2 X.1 k w).getLsbD j = y.getLsbD j) ∧ ∀ i, i < X.2.2 → pop (X.1 i &&& wb2 X.1 k w) % 2 = 0 := by
    intro k
    induction k with
    | zero => intro _ w a1 _ a3; exact ⟨a1, fun i hi => a3 i (Nat.zero_le _) hi⟩
    | succ k ih =>
      intro hk w a1 a2 a3
      have hlk := (p1 k (by omega)).2.1
      unfold wb2
      by_cases ho : pop (X.1 k &&& w) % 2 = 1
      · rw [if_pos ho, lowN_eq hlk]
        refine ih (by omega) _ (fun j hj => ?_) (fun i hi => ?_) (fun i h1 h2 => ?_)
        · rw [BitVec.getLsbD_or, a1 j hj, bit1o hlk.1]
          simp [hj k (by omega)]
        · rw [BitVec.getLsbD_or, a2 i (by omega), bit1o hlk.1]
          have := p2 i k hi (by omega)
          simp
          omega
        · rw [par_or1 hlk.1 (a2 k (by omega))]
          by_cases hik : i = k
          · rw [hik, if_pos hlk.2.1]; omega
          · have h3 := a3 i (by omega) h2
            have h4 := p2 k i (by omega) h2
            rw [if_neg (by rw [(p1 i h2).2.1.2.2 _ h4]; decide)]
            omega
      · rw [if_neg ho]
        refine ih (by omega) w a1 (fun i hi => a2 i (by omega)) (fun i h1 h2 => ?_)
        by_cases hik : i = k
        · rw [hik]; omega
        · exact a3 i (by omega) h2
  obtain ⟨r1, r2⟩ := hr X.2.2 (Nat.le_refl _) y (fun _ _ => rfl) hy0 (fun i h1 h2 => by omega)
  generalize hW : cw2 Z.1 y X.2.2 = W at *
  generalize hV : wb2 X.1 X.2.2 y = V at *
  -- parities of the class's rows
  have only : ∀ i, i < X.2.2 → ∀ d : BitVec 64, (∀ j, (∀ i, i < X.2.2 → j ≠ pv i) → d.getLsbD j = false) → pop (Z.1 i &&& d) % 2 = if d.getLsbD (pv i) = true then 1 else 0 := by
    intro i hi d hd
    have h64 := (p1 i hi).2.2.1.1
    have he : Z.1 i &&& d = if d.getLsbD (pv i) = true then 1#64 <<< pv i else 0#64 := bv_ext fun j hj => by
      rw [BitVec.getLsbD_and]
      by_cases hjp : j = pv i
      · rw [hjp, (p1 i hi).2.2.1.2.1]
        by_cases hdi : d.getLsbD (pv i) = true
        · rw [if_pos hdi, hdi, bit1o h64]; simp
        · rw [if_neg hdi]; simp at hdi; simp [hdi]
      · have hz : ((Z.1 i).getLsbD j && d.getLsbD j) = false := by
          by_cases hex : ∃ k, k < X.2.2 ∧ j = pv k
          · obtain ⟨k, hk, e⟩ := hex
            rw [e, p4 i hi k hk (fun q => hjp (by rw [e, q]))]
            rfl
          · rw [hd j (fun k hk e => hex ⟨k, hk, e⟩)]
            simp
        rw [hz]
        by_cases hdi : d.getLsbD (pv i) = true
        · rw [if_pos hdi, bit1o h64]; simp [hjp]
        · rw [if_neg hdi]; simp
    rw [he]
    by_cases hdi : d.getLsbD (pv i) = true
    · rw [if_pos hdi, if_pos hdi]
      have := pop_rm (x := 1#64 <<< pv i) h64
      rw [show (1#64 <<< pv i).getLsbD (pv i) = true by rw [bit1o h64]; simp, if_pos rfl] at this
      rw [← this, show (1#64 <<< pv i) &&& ~~~(1#64 <<< pv i) = 0#64 from bv_ext fun j hj => by rw [BitVec.getLsbD_and, BitVec.getLsbD_not]; cases (1#64 <<< pv i).getLsbD j <;> simp [hj], pop_0]
    · rw [if_neg hdi, if_neg hdi, pop_0]
  have hVX : KER X.1 m V := by
    intro i hi
    by_cases h1 : i < X.2.2
    · exact r2 i h1
    · rw [hX0 i (by omega) hi, show (0#64) &&& V = 0#64 by simp, pop_0]
  have hVZ : KER Z.1 m V := (t5 V).mpr ((t4 V).mp hVX)
  have hd : ∀ j, (∀ i, i < X.2.2 → j ≠ pv i) → (V ^^^ y).getLsbD j = false := fun j hj => by
    rw [BitVec.getLsbD_xor, r1 j hj]; cases y.getLsbD j <;> rfl
  refine bv_ext fun j hj => ?_
  by_cases hex : ∃ k, k < X.2.2 ∧ j = pv k
  · obtain ⟨k, hk, e⟩ := hex
    rw [e, c2 k hk]
    have h1 := hVZ k (by omega)
    have h2 : V = (V ^^^ y) ^^^ y := bv_ext fun i _ => by
      simp only [BitVec.getLsbD_xor]; cases V.getLsbD i <;> cases y.getLsbD i <;> rfl
    rw [h2, par_xorR, Nat.add_mod, only k hk _ hd] at h1
    have h3 : (V ^^^ y).getLsbD (pv k) = V.getLsbD (pv k) := by rw [BitVec.getLsbD_xor, hy0 k hk]; cases V.getLsbD (pv k) <;> rfl
    rw [h3] at h1
    cases hv : V.getLsbD (pv k) with
    | true =>
      rw [hv, if_pos rfl] at h1
      simp [hk]
      omega
    | false =>
      rw [hv, if_neg (by decide)] at h1
      simp [hk]
      omega
  · rw [c1 j (fun k hk e => hex ⟨k, hk, e⟩), r1 j (fun k hk e => hex ⟨k, hk, e⟩)]

