/-- the first row from k on that has the bit, d rows being left -/
def fk (S : Nat → BitVec 64) (b : Nat) : Nat → Nat → Nat
  | 0, k => k
  | d + 1, k => if (S k).getLsbD b = true then k else fk S b d (k + 1)
theorem fk_rng {S : Nat → BitVec 64} {b : Nat} : ∀ {d k : Nat}, k ≤ fk S b d k ∧ fk S b d k ≤ k + d
  | 0, k => ⟨Nat.le_refl _, Nat.le_refl _⟩
  | d + 1, k => by
    have ih := fk_rng (S := S) (b := b) (d := d) (k := k + 1)
    unfold fk
    split <;> omega
theorem fk_bit {S : Nat → BitVec 64} {b : Nat} : ∀ {d k : Nat}, fk S b d k < k + d → (S (fk S b d k)).getLsbD b = true
  | 0, k => fun h => by unfold fk at h; omega
  | d + 1, k => fun h => by
    unfold fk at h ⊢
    split
    · rename_i hb; exact hb
    · rename_i hb
      rw [if_neg hb] at h
      exact fk_bit (by omega)
theorem fk_no {S : Nat → BitVec 64} {b : Nat} : ∀ {d k i : Nat}, k ≤ i → i < fk S b d k → (S i).getLsbD b = false
  | 0, k, i, h1, h2 => by unfold fk at h2; omega
  | d + 1, k, i, h1, h2 => by
    unfold fk at h2
    split at h2
    · omega
    · rename_i hb
      by_cases hik : i = k
      · subst hik; simpa using hb
      · exact fk_no (by omega) h2
/-- rows behind t that have the bit get the row added -/
def elX (S : Nat → BitVec 64) (row : BitVec 64) (b t : Nat) (n : Nat) : Nat → BitVec 64 := fun i => if t < i ∧ i < n ∧ (S i).getLsbD b = true then S i ^^^ row else S i
abbrev EL : Type := (Nat → BitVec 64) × BitVec 64 × Nat
def elS (m b : Nat) (x : EL) : EL := if fk x.1 b (m - x.2.2) x.2.2 = m then x else (elX (u1 (u1 x.1 (fk x.1 b (m - x.2.2) x.2.2) (x.1 x.2.2)) x.2.2 (x.1 (fk x.1 b (m - x.2.2) x.2.2))) (x.1 (fk x.1 b (m - x.2.2) x.2.2)) b x.2.2 m, x.2.1 ||| (1#64 <<< b), x.2.2 + 1)
def elN (m : Nat) (S0 : Nat → BitVec 64) : Nat → EL
  | 0 => (S0, 0#64, 0)
  | b + 1 => elS m b (elN m S0 b)
def el0 (q c : Nat → BitVec 64) (m : Nat) : Nat → BitVec 64 := fun i => if i < m then c i else q i
theorem elN_rk {m : Nat} {S0 : Nat → BitVec 64} : ∀ {b : Nat}, (elN m S0 b).2.2 ≤ m ∧ (elN m S0 b).2.2 ≤ b
  | 0 => ⟨Nat.zero_le _, Nat.le_refl _⟩
  | b + 1 => by
    have ih := elN_rk (m := m) (S0 := S0) (b := b)
    have h := fk_rng (S := (elN m S0 b).1) (b := b) (d := m - (elN m S0 b).2.2) (k := (elN m S0 b).2.2)
    unfold elN elS
    split
    · omega
    · show _ + 1 ≤ _ ∧ _ + 1 ≤ _
      omega
theorem el0_s {q c : Nat → BitVec 64} {k : Nat} : u1 (el0 q c k) k (c k) = el0 q c (k + 1) := by
  funext i
  by_cases h : i = k
  · subst h; rw [u1_s, el0, if_pos (by omega)]
  · rw [u1_n h, el0, el0]
    by_cases h2 : i < k
    · rw [if_pos h2, if_pos (by omega)]
    · rw [if_neg h2, if_neg (by omega)]
theorem el0_0 {q c : Nat → BitVec 64} : el0 q c 0 = q := funext fun i => if_neg (by omega)
theorem elX_0 {S : Nat → BitVec 64} {row : BitVec 64} {b t : Nat} : elX S row b t (t + 1) = S := funext fun i => if_neg (by omega)
theorem elX_s {S : Nat → BitVec 64} {row : BitVec 64} {b t n : Nat} (ht : t < n) (hb : (S n).getLsbD b = true) : u1 (elX S row b t n) n (S n ^^^ row) = elX S row b t (n + 1) := by
  funext i
  by_cases h : i = n
  · subst h; rw [u1_s, elX, if_pos ⟨ht, by omega, hb⟩]
  · rw [u1_n h, elX, elX]
    by_cases h2 : t < i ∧ i < n ∧ (S i).getLsbD b = true
    · rw [if_pos h2, if_pos ⟨h2.1, by omega, h2.2.2⟩]
    · rw [if_neg h2, if_neg (fun q => h2 ⟨q.1, by omega, q.2.2⟩)]
theorem elX_k {S : Nat → BitVec 64} {row : BitVec 64} {b t n : Nat} (hb : ¬ (S n).getLsbD b = true) : elX S row b t (n + 1) = elX S row b t n := by
  funext i
  rw [elX, elX]
  by_cases h2 : t < i ∧ i < n ∧ (S i).getLsbD b = true
  · rw [if_pos h2, if_pos ⟨h2.1, by omega, h2.2.2⟩]
  · rw [if_neg h2, if_neg (fun q => by
      by_cases h3 : i = n
      · subst h3; exact hb q.2.2
      · exact h2 ⟨q.1, by omega, q.2.2⟩)]
theorem elX_n {S : Nat → BitVec 64} {row : BitVec 64} {b t n : Nat} : elX S row b t n n = S n := if_neg (by omega)
def lsR (A : Nat → Int) (q : Nat → BitVec 64) (L R C : Nat) : EL := elN (L * R) (el0 q (cs A L C) (L * R)) (L * C)
set_option maxRecDepth 4000 in
theorem c_laySums {r : Nat} {A : Nat → Int} {ia : Nat → Nat → Int} {la : Nat → Nat → BitVec 64} {fi : Nat → Int} {fl : Nat → BitVec 64} {h0 : HP} {L R C : Nat} (hV : VC A L R C) : sp mX10_laySums [.ref r] (RH r A ia la fi fl h0) 0 0 (pd none (RH r A ia (u1 la 6 (lsR A (la 6) L R C).1) (u1 fi 17 (((lsR A (la 6) L R C).2.2 : Nat) : Int)) (u1 fl 16 (lsR A (la 6) L R C).2.1) h0)) := by
  obtain ⟨v1, v2, v3, v4, v5, v6, v7⟩ := id hV
  have hLR := mulLe (a := L) (b := R) (x := 6) (y := 4) (by omega) (by omega)
  have hLC := mulLe (a := L) (b := C) (x := 6) (y := 8) (by omega) (by omega)
  have main : ∀ b : Nat, b ≤ L * C → ∀ x2 x5 : Value, prevOk [jk, jk, x2, jk, jk, x5] 2 = true → wp mX10_laySums 39 [.ref r, .int (zI (b : Int)), x2, jk, jk, x5] [] (RH r A ia (u1 la 6 (elN (L * R) (el0 (la 6) (cs A L C) (L * R)) b).1) (u1 fi 17 (((elN (L * R) (el0 (la 6) (cs A L C) (L * R)) b).2.2 : Nat) : Int)) (u1 fl 16 (elN (L * R) (el0 (la 6) (cs A L C) (L * R)) b).2.1) h0) 0 0 (pd none (RH r A ia (u1 la 6 (lsR A (la 6) L R C).1) (u1 fi 17 (((lsR A (la 6) L R C).2.2 : Nat) : Int)) (u1 fl 16 (lsR A (la 6) L R C).2.1) h0)) := by
    refine up_ind (N := L * C) (fun b hb ih => ?_)
    intro x2 x5 _
    have hk := elN_rk (m := L * R) (S0 := el0 (la 6) (cs A L C) (L * R)) (b := b)
    rw [elN] at ih
    generalize elN (L * R) (el0 (la 6) (cs A L C) (L * R)) b = X at ih hk ⊢
    obtain ⟨S, F, k⟩ := X
    have hk1 : k ≤ L * R := hk.1
    refine w_iload_n dX10_laySums_39 rfl rfl ?_
    refine w_aload_n dX10_laySums_40 rfl rfl ?_
    refine wc_V (Z := mX10_bits) (As := []) c_bits RH0 rfl kX10_bits lX10_66 iX10_bits vX10_bits dX10_laySums_41 rfl rfl rfl (Nat.le_of_ble_eq_true rfl) ⟨Nat.le_of_ble_eq_true rfl, Nat.le_of_ble_eq_true rfl⟩ ?_
    rw [v1, v3]
    refine w_icmp_ge 198 dX10_laySums_44 (by decide) (by unfold ok32; omega) (by unfold ok32; omega) (fun hn => ?_) (fun hn => ?_)
    · sorry
    · sorry
  sorry
