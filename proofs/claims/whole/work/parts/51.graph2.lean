/-! pieces, peeling, fours and sixes: the class's sums and the reference's -/
def chN (c : Nat → BitVec 64) (x : BitVec 64) : Nat → BitVec 64
  | 0 => x
  | n + 1 => if c n &&& chN c x n = 0#64 then chN c x n else chN c x n ||| c n
theorem chN_sub {c : Nat → BitVec 64} {x : BitVec 64} : ∀ {n : Nat}, sbs x (chN c x n)
  | 0 => fun _ h => h
  | n + 1 => fun i h => by
    unfold chN
    split
    · exact chN_sub i h
    · rw [BitVec.getLsbD_or, chN_sub (n := n) i h]; rfl
theorem chN_sup {c : Nat → BitVec 64} {x : BitVec 64} : ∀ {n : Nat}, sbs (bsN c x n) (chN c x n)
  | 0 => fun _ h => h
  | n + 1 => by
    have ih := @chN_sup c x n
    unfold chN bsN
    by_cases h0 : c n &&& x = 0#64
    · rw [if_pos h0]
      split
      · exact ih
      · exact fun i h => by rw [BitVec.getLsbD_or, ih i h]; rfl
    · have h1 : ¬ c n &&& chN c x n = 0#64 := by
        obtain ⟨j, a1, a2, a3⟩ := and_ne.mp h0
        exact and_ne.mpr ⟨j, a1, a2, chN_sub j a3⟩
      rw [if_neg h0, if_neg h1]
      intro i h
      rw [BitVec.getLsbD_or, Bool.or_eq_true] at h ⊢
      exact h.imp (ih i) id
theorem chN_in {c : Nat → BitVec 64} {m : Nat} {x K : BitVec 64} (hK : bsN c K m = K) (hx : sbs x K) : ∀ {n : Nat}, n ≤ m → sbs (chN c x n) K
  | 0, _ => hx
  | n + 1, hn => by
    have ih := chN_in hK hx (n := n) (by omega)
    unfold chN
    split
    · exact ih
    · rename_i h0
      intro i h
      rw [BitVec.getLsbD_or, Bool.or_eq_true] at h
      rcases h with h | h
      · exact ih i h
      · rw [← hK, bsN_bit]
        obtain ⟨j, a1, a2, a3⟩ := and_ne.mp h0
        exact Or.inr ⟨n, by omega, and_ne.mpr ⟨j, a1, a2, ih j a3⟩, h⟩
def pgF (c : Nat → BitVec 64) (m : Nat) : Nat → BitVec 64 → BitVec 64
  | 0, p => p
  | f + 1, p => if chN c p m = p then p else pgF c m f (chN c p m)
theorem dK_in {c : Nat → BitVec 64} {m : Nat} {x p : BitVec 64} (hx : sbs x p) (hp : sbs (bsN c p m) p) : ∀ {k : Nat}, sbs (dK c m x k) p
  | 0 => hx
  | k + 1 => sbs_tr (bsN_mono (dK_in hx hp (k := k))) hp
theorem pgF_is {c : Nat → BitVec 64} {m : Nat} {x : BitVec 64} : ∀ {f k : Nat} {p : BitVec 64}, f + k = m + 1 → sbs (dK c m x k) p → sbs p (dK c m x m) → pgF c m f p = dK c m x m := by
  have hcl : bsN c (dK c m x m) m = dK c m x m := dK_stop (k := m + 1) (by omega)
  intro f
  induction f with
  | zero =>
    intro k p hk h1 h2
    rw [dK_stop (show m ≤ k by omega)] at h1
    exact sbs_eq h2 h1
  | succ f ih =>
    intro k p hk h1 h2
    unfold pgF
    by_cases hq : chN c p m = p
    · rw [if_pos hq]
      refine sbs_eq h2 (dK_in (sbs_tr (dK_le (Nat.zero_le _)) h1) ?_)
      have := @chN_sup c p m
      rw [hq] at this
      exact this
    · rw [if_neg hq]
      exact ih (k := k + 1) (by omega) (sbs_tr (bsN_mono h1) chN_sup) (chN_in hcl h2 (Nat.le_refl _))
theorem clF_is {c : Nat → BitVec 64} {m : Nat} {x : BitVec 64} (hm : m ≤ 60) : ∀ {f k : Nat}, f + k = 64 → clF c m f (dK c m x k) = dK c m x m := by
  intro f
  induction f with
  | zero => intro k hk; exact dK_stop (by omega)
  | succ f ih =>
    intro k hk
    unfold clF
    rw [show bsN c (dK c m x k) m = dK c m x (k + 1) from rfl]
    by_cases h : dK c m x (k + 1) = dK c m x k
    · rw [if_pos h]
      rcases Nat.lt_or_ge m k with q | q
      · exact dK_stop (by omega)
      · exact (dK_st h q).symm
    · rw [if_neg h]; exact ih (by omega)
theorem piece_is {c : Nat → BitVec 64} {m : Nat} {x : BitVec 64} (hm : m ≤ 60) : pgF c m (m + 1) x = clF c m 64 x := by
  rw [pgF_is (c := c) (m := m) (f := m + 1) (p := x) (x := x) (k := 0) (by omega) (fun _ h => h) (dK_le (Nat.zero_le _))]
  exact (clF_is (x := x) (k := 0) hm (by omega)).symm
/-- bits below n -/
theorem all_bit {n i : Nat} (hn : n < 64) : ((1#64 <<< n) - 1#64).getLsbD i = decide (i < n) := by
  by_cases hi : i < 64
  · exact bitm hn hi
  · rw [BitVec.getLsbD_of_ge _ _ (by omega)]; simp; omega
theorem pop_0i {x : BitVec 64} (h : pop x = 0) : x = 0#64 := by
  refine Classical.byContradiction fun hn => ?_
  have := pop_clr hn
  omega
theorem one_le {o : BitVec 64} : o &&& (o - 1#64) = 0#64 ↔ pop o ≤ 1 := by
  by_cases h0 : o = 0#64
  · rw [h0]; simp [pop_0]
  · have := pop_clr h0
    constructor
    · intro h; rw [h, pop_0] at this; omega
    · intro h; exact pop_0i (by omega)
theorem pop_sb {x y : BitVec 64} (h : sbs x y) : pop x ≤ pop y := by
  by_cases he : y = x
  · rw [he]; exact Nat.le_refl _
  · exact Nat.le_of_lt (pop_lt (fun i _ hi => h i hi) he)
def STP (c : Nat → BitVec 64) (m : Nat) (y : BitVec 64) : Prop := ∀ i, i < m → ¬ pop (c i &&& y) = 1
def GS (c : Nat → BitVec 64) (m : Nat) (x T : BitVec 64) : Prop := sbs T x ∧ STP c m T ∧ ∀ U, sbs U x → STP c m U → sbs U T
theorem GS_eq {c : Nat → BitVec 64} {m : Nat} {x T T' : BitVec 64} (h : GS c m x T) (h' : GS c m x T') : T = T' := sbs_eq (h'.2.2 T h.1 h.2.1) (h.2.2 T' h'.1 h'.2.1)
theorem and_sb {a x y : BitVec 64} (h : sbs x y) : sbs (a &&& x) (a &&& y) := fun i hi => by
  rw [BitVec.getLsbD_and, Bool.and_eq_true] at hi ⊢
  exact ⟨hi.1, h i hi.2⟩
theorem stp_out {a U x : BitVec 64} (h1 : pop (a &&& x) ≤ 1) (hU : sbs U x) (hs : ¬ pop (a &&& U) = 1) : sbs U (x &&& ~~~(a &&& x)) := by
  have h2 := pop_sb (and_sb (a := a) hU)
  have h3 : a &&& U = 0#64 := pop_0i (by omega)
  intro i hi
  rw [BitVec.getLsbD_and, BitVec.getLsbD_not, BitVec.getLsbD_and, hU i hi]
  have h4 : (a &&& U).getLsbD i = false := by rw [h3]; simp
  rw [BitVec.getLsbD_and, hi] at h4
  simp at h4
  rw [h4]
  simp [gt64 hi]
theorem pw_in {c : Nat → BitVec 64} {m : Nat} {x U : BitVec 64} (hU : sbs U x) (hs : STP c m U) : ∀ {n : Nat}, n ≤ m → sbs U (pw c n x)
  | 0, _ => hU
  | n + 1, hn => by
    have ih := pw_in hU hs (n := n) (by omega)
    unfold pw
    split
    · rename_i h
      exact stp_out (one_le.mp h) ih (hs n (by omega))
    · exact ih
theorem pw_le {c : Nat → BitVec 64} {x : BitVec 64} {n : Nat} : ∀ {k : Nat}, n ≤ k → sbs (pw c k x) (pw c n x) := by
  intro k
  induction k with
  | zero => intro h; rw [Nat.le_zero.mp h]; exact fun _ h => h
  | succ k ih =>
    intro h
    by_cases hk : n = k + 1
    · rw [hk]; exact fun _ h => h
    · refine sbs_tr ?_ (ih (by omega))
      intro i hi
      unfold pw at hi
      split at hi
      · rw [BitVec.getLsbD_and, Bool.and_eq_true] at hi; exact hi.1
      · exact hi
theorem pw_fix {c : Nat → BitVec 64} {m : Nat} {x : BitVec 64} (h : pw c m x = x) : STP c m x := by
  intro i hi h1
  have e1 : pw c i x = x := sbs_eq (pw_le (n := 0) (Nat.zero_le _)) (by have := pw_le (c := c) (x := x) (n := i) (k := m) (by omega); rw [h] at this; exact this)
  have e2 : pw c (i + 1) x = x := sbs_eq (pw_le (n := 0) (Nat.zero_le _)) (by have := pw_le (c := c) (x := x) (n := i + 1) (k := m) (by omega); rw [h] at this; exact this)
  unfold pw at e2
  rw [e1, if_pos (one_le.mpr (by omega))] at e2
  have hne : ¬ c i &&& x = 0#64 := fun q => by rw [q, pop_0] at h1; omega
  obtain ⟨t, t1, t2, t3⟩ := and_ne.mp hne
  have := congrArg (fun z => BitVec.getLsbD z t) e2
  simp [t2, t3] at this
theorem plF_gs {c : Nat → BitVec 64} {m : Nat} : ∀ {f : Nat} {x : BitVec 64}, pop x < f → GS c m x (plF c m f x) := by
  intro f
  induction f with
  | zero => intro x h; exact absurd h (Nat.not_lt_zero _)
  | succ f ih =>
    intro x h
    unfold plF
    by_cases hp : pw c m x = x
    · rw [if_pos hp]
      exact ⟨fun _ h => h, pw_fix hp, fun U h _ => h⟩
    · rw [if_neg hp]
      have hlt : pop (pw c m x) < pop x := pop_lt (fun i _ hi => pw_le (n := 0) (Nat.zero_le _) i hi) (fun q => hp q.symm)
      obtain ⟨a, b, d⟩ := ih (x := pw c m x) (by omega)
      exact ⟨sbs_tr a (pw_le (n := 0) (Nat.zero_le _)), b, fun U hU hs => d U (pw_in hU hs (Nat.le_refl _)) hs⟩
def fdN (c : Nat → BitVec 64) (x : BitVec 64) : Nat → BitVec 64
  | 0 => 0#64
  | n + 1 => if fdN c x n = 0#64 then (if pop (c n &&& x) = 1 then c n &&& x else 0#64) else fdN c x n
theorem fdN_0 {c : Nat → BitVec 64} {x : BitVec 64} : ∀ {n : Nat}, fdN c x n = 0#64 → STP c n x
  | 0, _ => fun i hi => absurd hi (Nat.not_lt_zero _)
  | n + 1, h => by
    unfold fdN at h
    by_cases h0 : fdN c x n = 0#64
    · rw [if_pos h0] at h
      have ih := fdN_0 h0
      intro i hi h1
      by_cases hin : i = n
      · subst hin
        rw [if_pos h1] at h
        rw [h, pop_0] at h1
        omega
      · exact ih i (by omega) h1
    · rw [if_neg h0] at h; exact absurd h h0
theorem fdN_ex {c : Nat → BitVec 64} {x : BitVec 64} : ∀ {n : Nat}, ¬ fdN c x n = 0#64 → ∃ i, i < n ∧ fdN c x n = c i &&& x ∧ pop (c i &&& x) = 1
  | 0, h => absurd rfl h
  | n + 1, h => by
    unfold fdN at h ⊢
    by_cases h0 : fdN c x n = 0#64
    · rw [if_pos h0] at h ⊢
      by_cases h1 : pop (c n &&& x) = 1
      · rw [if_pos h1]; exact ⟨n, by omega, rfl, h1⟩
      · rw [if_neg h1] at h; exact absurd rfl h
    · rw [if_neg h0]
      obtain ⟨i, a, b, d⟩ := fdN_ex h0
      exact ⟨i, by omega, b, d⟩
def plC (c : Nat → BitVec 64) (m : Nat) : Nat → BitVec 64 → BitVec 64
  | 0, x => x
  | f + 1, x => if fdN c x m = 0#64 then x else plC c m f (x &&& ~~~(fdN c x m))
theorem plC_gs {c : Nat → BitVec 64} {m : Nat} : ∀ {f : Nat} {x : BitVec 64}, pop x ≤ f → GS c m x (plC c m f x) := by
  intro f
  induction f with
  | zero =>
    intro x h
    have : x = 0#64 := pop_0i (by omega)
    subst this
    exact ⟨fun _ h => h, fun i _ => by show ¬ pop (c i &&& 0#64) = 1; rw [show c i &&& 0#64 = 0#64 by simp, pop_0]; omega, fun U h _ => h⟩
  | succ f ih =>
    intro x h
    unfold plC
    by_cases h0 : fdN c x m = 0#64
    · rw [if_pos h0]
      exact ⟨fun _ h => h, fdN_0 h0, fun U h _ => h⟩
    · rw [if_neg h0]
      obtain ⟨i, a, b, d⟩ := fdN_ex h0
      rw [b]
      have hsub : sbs (x &&& ~~~(c i &&& x)) x := fun j hj => by rw [BitVec.getLsbD_and, Bool.and_eq_true] at hj; exact hj.1
      have hlt : pop (x &&& ~~~(c i &&& x)) < pop x := pop_lt (fun j _ hj => hsub j hj) (fun q => by
        obtain ⟨t, t1, t2, t3⟩ := and_ne.mp (b ▸ h0)
        have := congrArg (fun z => BitVec.getLsbD z t) q
        simp [t2, t3] at this)
      obtain ⟨g1, g2, g3⟩ := ih (x := x &&& ~~~(c i &&& x)) (by omega)
      exact ⟨sbs_tr g1 hsub, g2, fun U hU hs => g3 U (stp_out (by omega) hU (hs i a)) hs⟩
theorem peel_is {c : Nat → BitVec 64} {m n : Nat} {x : BitVec 64} (h : pop x ≤ n) : plC c m n x = plF c m 65 x := GS_eq (plC_gs h) (plF_gs (by have := pop_le x; omega))
/-! sums over pairs and triples -/
def f2 (p : Nat → Nat → Nat) (a : Nat) : Nat → Nat
  | 0 => 0
  | b + 1 => f2 p a b + if a < b then p a b else 0
def t2 (p : Nat → Nat → Nat) (m : Nat) : Nat → Nat
  | 0 => 0
  | a + 1 => t2 p m a + f2 p a m
def g2 (p : Nat → Nat → Nat) (c : Nat) : Nat → Nat
  | 0 => 0
  | e + 1 => g2 p c e + p e c
def s2 (p : Nat → Nat → Nat) : Nat → Nat
  | 0 => 0
  | c + 1 => s2 p c + g2 p c c
theorem f2_0 {p : Nat → Nat → Nat} {a : Nat} : ∀ {b : Nat}, b ≤ a + 1 → f2 p a b = 0
  | 0, _ => rfl
  | b + 1, h => by unfold f2; rw [f2_0 (by omega), if_neg (by omega)]
theorem f2_s {p : Nat → Nat → Nat} {a b : Nat} : f2 p a (b + 1) = f2 p a b + if a < b then p a b else 0 := rfl
theorem t2_up {p : Nat → Nat → Nat} {m : Nat} : ∀ {a : Nat}, a ≤ m → t2 p (m + 1) a = t2 p m a + g2 p m a
  | 0, _ => rfl
  | a + 1, h => by
    show t2 p (m + 1) a + f2 p a (m + 1) = t2 p m a + f2 p a m + (g2 p m a + p a m)
    rw [t2_up (by omega), f2_s, if_pos (by omega)]
    omega
theorem t2_s2 {p : Nat → Nat → Nat} : ∀ {m : Nat}, t2 p m m = s2 p m
  | 0 => rfl
  | m + 1 => by
    rw [t2, t2_up (Nat.le_refl _), f2_0 (by omega), t2_s2, s2]
    omega
theorem fr_s2 {q : Nat → Nat → Nat} {c : Nat} : ∀ {e : Nat}, fr2 q c e = g2 (fun e c => q c e * (q c e - 1) / 2) c e
  | 0 => rfl
  | e + 1 => by rw [fr2, fr_s2, g2]
theorem fr1_s2 {q : Nat → Nat → Nat} : ∀ {m : Nat}, fr1 q m = s2 (fun e c => q c e * (q c e - 1) / 2) m
  | 0 => rfl
  | m + 1 => by rw [fr1, fr1_s2, fr_s2, s2]
def u2 (p : Nat → Nat → Nat → Nat) (a m : Nat) : Nat → Nat
  | 0 => 0
  | b + 1 => u2 p a m b + if a < b then f2 (p a) b m else 0
theorem u2_s {p : Nat → Nat → Nat → Nat} {a m b : Nat} : u2 p a m (b + 1) = u2 p a m b + if a < b then f2 (p a) b m else 0 := rfl
def t3 (p : Nat → Nat → Nat → Nat) (m : Nat) : Nat → Nat
  | 0 => 0
  | a + 1 => t3 p m a + u2 p a m m
def s3 (p : Nat → Nat → Nat → Nat) : Nat → Nat
  | 0 => 0
  | c + 1 => s3 p c + s2 (fun g e => p g e c) c
theorem u2_0 {p : Nat → Nat → Nat → Nat} {a m : Nat} : ∀ {b : Nat}, b ≤ a + 1 → u2 p a m b = 0
  | 0, _ => rfl
  | b + 1, h => by unfold u2; rw [u2_0 (by omega), if_neg (by omega)]
theorem u2_up {p : Nat → Nat → Nat → Nat} {a m : Nat} : ∀ {b : Nat}, b ≤ m → u2 p a (m + 1) b = u2 p a m b + f2 (fun a b => p a b m) a b
  | 0, _ => rfl
  | b + 1, h => by
    rw [u2_s, u2_s, u2_up (by omega), f2_s (p := fun a b => p a b m)]
    by_cases hab : a < b
    · rw [if_pos hab, if_pos hab, if_pos hab, f2_s, if_pos (by omega)]
      omega
    · rw [if_neg hab, if_neg hab, if_neg hab]
      omega
theorem u2_up1 {p : Nat → Nat → Nat → Nat} {a m : Nat} : u2 p a (m + 1) (m + 1) = u2 p a m m + f2 (fun a b => p a b m) a m := by
  rw [u2_s, u2_up (Nat.le_refl _), f2_0 (p := p a) (a := m) (Nat.le_refl _)]
  simp
theorem t3_up {p : Nat → Nat → Nat → Nat} {m : Nat} : ∀ {a : Nat}, t3 p (m + 1) a = t3 p m a + t2 (fun a b => p a b m) m a
  | 0 => rfl
  | a + 1 => by
    unfold t3 t2
    rw [t3_up, u2_up1]
    omega
theorem t3_s3 {p : Nat → Nat → Nat → Nat} : ∀ {m : Nat}, t3 p m m = s3 p m
  | 0 => rfl
  | m + 1 => by
    rw [t3, t3_up, u2_0 (by omega), t3_s3, s3, t2_s2]
    omega
theorem ss3_g2 {p : Nat → Nat → Nat → Nat} {c e : Nat} : ∀ {g : Nat}, ss3 p c e g = g2 (fun g e => p c e g) e g
  | 0 => rfl
  | g + 1 => by rw [ss3, ss3_g2, g2]
theorem ss2_s2 {p : Nat → Nat → Nat → Nat} {c : Nat} : ∀ {e : Nat}, ss2 p c e = s2 (fun g e => p c e g) e
  | 0 => rfl
  | e + 1 => by rw [ss2, ss2_s2, ss3_g2, s2]
theorem ss1_s3 {p : Nat → Nat → Nat → Nat} : ∀ {m : Nat}, ss1 p m = s3 (fun g e c => p c e g) m
  | 0 => rfl
  | m + 1 => by rw [ss1, ss1_s3, ss2_s2, s3]
theorem g2_c {p q : Nat → Nat → Nat} {c : Nat} : ∀ {e : Nat}, (∀ i, i < e → p i c = q i c) → g2 p c e = g2 q c e
  | 0, _ => rfl
  | e + 1, h => by rw [g2, g2, g2_c (fun i hi => h i (by omega)), h e (by omega)]
theorem s2_c {p q : Nat → Nat → Nat} : ∀ {m : Nat}, (∀ i j, i < j → j < m → p i j = q i j) → s2 p m = s2 q m
  | 0, _ => rfl
  | m + 1, h => by rw [s2, s2, s2_c (fun i j hi hj => h i j hi (by omega)), g2_c (fun i hi => h i m hi (by omega))]
theorem s3_c {p q : Nat → Nat → Nat → Nat} : ∀ {m : Nat}, (∀ i j k, i < j → j < k → k < m → p i j k = q i j k) → s3 p m = s3 q m
  | 0, _ => rfl
  | m + 1, h => by rw [s3, s3, s3_c (fun i j k a b d => h i j k a b (by omega)), s2_c (fun i j a b => h i j m a b (by omega))]
theorem pop_rm {x : BitVec 64} {t : Nat} (ht : t < 64) : pop (x &&& ~~~(1#64 <<< t)) + (if x.getLsbD t = true then 1 else 0) = pop x := by
  by_cases h : x.getLsbD t = true
  · rw [if_pos h]
    exact (pn_off ht h (by rw [BitVec.getLsbD_and, BitVec.getLsbD_not, bit1 ht ht]; simp) (fun i hi hne => by rw [BitVec.getLsbD_and, BitVec.getLsbD_not, bit1 ht hi]; simp [hne, hi])).symm
  · rw [if_neg h, Nat.add_zero]
    refine pn_congr fun i hi => ?_
    rw [BitVec.getLsbD_and, BitVec.getLsbD_not, bit1 ht hi]
    by_cases hit : i = t
    · subst hit; simp at h; simp [h]
    · simp [hit, hi]
theorem sum_lin {g : Nat → Nat} {x y : BitVec 64} {α β : Int} (h : ∀ t, t < 64 → x.getLsbD t = true → (g t : Int) = α - (if y.getLsbD t = true then β else 0)) : ((sumS g x : Nat) : Int) = (pop x : Int) * α - (pop (x &&& y) : Int) * β := by
  have key : ∀ n, n ≤ 64 → ((sm g x.getLsbD n : Nat) : Int) = (pn x.getLsbD n : Int) * α - (pn (x &&& y).getLsbD n : Int) * β := by
    intro n
    induction n with
    | zero => intro _; simp [sm, pn]
    | succ n ih =>
      intro hn
      rw [sm, pn, pn]
      push_cast
      rw [ih (by omega), BitVec.getLsbD_and]
      cases hx : x.getLsbD n with
      | false => simp
      | true =>
        have := h n (by omega) hx
        cases hy : y.getLsbD n with
        | false =>
          rw [hy] at this
          simp at this ⊢
          rw [this, Int.add_mul]
          omega
        | true =>
          rw [hy] at this
          simp at this ⊢
          rw [this, Int.add_mul, Int.add_mul]
          omega
  exact key 64 (Nat.le_refl _)
theorem sxV_is {a b c : BitVec 64} : ((sxV a b c : Nat) : Int) = (pop (a &&& b) : Int) * (pop (b &&& c) : Int) * (pop (c &&& a) : Int) - (pop (a &&& b &&& c) : Int) * ((pop (a &&& b) : Int) + (pop (b &&& c) : Int) + (pop (c &&& a) : Int)) + 2 * (pop (a &&& b &&& c) : Int) := by
  have h1 : ∀ t, t < 64 → (a &&& b).getLsbD t = true → ((sx1 a b c t : Nat) : Int) = ((pop (b &&& c) : Int) * (pop (c &&& a) : Int) - (pop (a &&& b &&& c) : Int)) - (if c.getLsbD t = true then ((pop (b &&& c) : Int) + (pop (c &&& a) : Int) - 2) else 0) := by
    intro t ht hab
    rw [BitVec.getLsbD_and, Bool.and_eq_true] at hab
    have e1 := pop_rm (x := c &&& a) ht
    have e2 := pop_rm (x := b &&& c) ht
    have e3 := pop_rm (x := a &&& b &&& c) ht
    have h2 : ∀ s, s < 64 → ((b &&& c) &&& ~~~(1#64 <<< t)).getLsbD s = true → ((sx2 a c t s : Nat) : Int) = (pop ((c &&& a) &&& ~~~(1#64 <<< t)) : Int) - (if a.getLsbD s = true then 1 else 0) := by
      intro s hs hbs
      rw [BitVec.getLsbD_and, BitVec.getLsbD_not, BitVec.getLsbD_and, bit1 ht hs] at hbs
      simp at hbs
      have e4 := pop_rm (x := (c &&& a) &&& ~~~(1#64 <<< t)) hs
      rw [BitVec.getLsbD_and, BitVec.getLsbD_not, BitVec.getLsbD_and, bit1 ht hs, hbs.1.2] at e4
      unfold sx2
      cases ha : a.getLsbD s with
      | false => rw [ha] at e4; simp at e4 ⊢; omega
      | true =>
        rw [ha] at e4
        have hne : ¬ s = t := hbs.2.2
        simp [hne, hs] at e4 ⊢
        omega
    have h3 := sum_lin h2
    have e5 : ((b &&& c) &&& ~~~(1#64 <<< t)) &&& a = (a &&& b &&& c) &&& ~~~(1#64 <<< t) := bv_ext fun i _ => by
      simp only [BitVec.getLsbD_and]
      cases a.getLsbD i <;> cases b.getLsbD i <;> cases c.getLsbD i <;> simp
    rw [e5] at h3
    unfold sx1
    rw [h3]
    rw [BitVec.getLsbD_and, hab.1] at e1
    rw [BitVec.getLsbD_and, hab.2] at e2
    rw [BitVec.getLsbD_and, BitVec.getLsbD_and, hab.1, hab.2] at e3
    cases hc : c.getLsbD t with
    | false =>
      rw [hc] at e1 e2 e3
      simp at e1 e2 e3 ⊢
      rw [e1, e2, e3]
    | true =>
      rw [hc] at e1 e2 e3
      simp at e1 e2 e3 ⊢
      rw [← e1, ← e2, ← e3]
      push_cast
      simp only [Int.add_mul, Int.mul_add, Int.one_mul, Int.mul_one]
      omega
  have h4 := sum_lin h1
  unfold sxV
  rw [h4]
  simp only [Int.mul_add, Int.mul_sub]
  have e6 : (pop (a &&& b) : Int) * ((pop (b &&& c) : Int) * (pop (c &&& a) : Int)) = (pop (a &&& b) : Int) * (pop (b &&& c) : Int) * (pop (c &&& a) : Int) := (Int.mul_assoc _ _ _).symm
  have e7 : (pop (a &&& b) : Int) * (pop (a &&& b &&& c) : Int) = (pop (a &&& b &&& c) : Int) * (pop (a &&& b) : Int) := Int.mul_comm _ _
  rw [e6, e7]
  omega

