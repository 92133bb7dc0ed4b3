/-- the first row from k on that has the bit, d rows being left -/
def fk (S : Nat → BitVec 64) (b : Nat) : Nat → Nat → Nat
  | 0, k => k
  | d + 1, k => if (S k).getLsbD b = true then k else fk S b d (k + 1)
theorem fk_rng {S : Nat → BitVec 64} {b : Nat} : ∀ {d k : Nat}, k ≤ fk S b d k ∧ fk S b d k ≤ k + d
  | 0, k => ⟨Nat.le_refl _, Nat.le_refl _⟩
  | d + 1, k => by
    have ih := fk_rng (S := S) (b := b) (d := d) (k := k + 1)
    unfold fk
    split <;> omega
theorem fk_bit {S : Nat → BitVec 64} {b : Nat} : ∀ {d k : Nat}, fk S b d k < k + d → (S (fk S b d k)).getLsbD b = true
  | 0, k => fun h => by unfold fk at h; omega
  | d + 1, k => fun h => by
    unfold fk at h ⊢
    split
    · rename_i hb; exact hb
    · rename_i hb
      rw [if_neg hb] at h
      exact fk_bit (by omega)
theorem fk_no {S : Nat → BitVec 64} {b : Nat} : ∀ {d k i : Nat}, k ≤ i → i < fk S b d k → (S i).getLsbD b = false
  | 0, k, i, h1, h2 => by unfold fk at h2; omega
  | d + 1, k, i, h1, h2 => by
    unfold fk at h2
    split at h2
    · omega
    · rename_i hb
      by_cases hik : i = k
      · subst hik; simpa using hb
      · exact fk_no (by omega) h2
/-- rows behind t that have the bit get the row added -/
def elX (S : Nat → BitVec 64) (row : BitVec 64) (b t : Nat) (n : Nat) : Nat → BitVec 64 := fun i => if t < i ∧ i < n ∧ (S i).getLsbD b = true then S i ^^^ row else S i
abbrev EL : Type := (Nat → BitVec 64) × BitVec 64 × Nat
def elS (m b : Nat) (x : EL) : EL := if fk x.1 b (m - x.2.2) x.2.2 = m then x else (elX (u1 (u1 x.1 (fk x.1 b (m - x.2.2) x.2.2) (x.1 x.2.2)) x.2.2 (x.1 (fk x.1 b (m - x.2.2) x.2.2))) (x.1 (fk x.1 b (m - x.2.2) x.2.2)) b x.2.2 m, x.2.1 ||| (1#64 <<< b), x.2.2 + 1)
def elN (m : Nat) (S0 : Nat → BitVec 64) : Nat → EL
  | 0 => (S0, 0#64, 0)
  | b + 1 => elS m b (elN m S0 b)
def el0 (q c : Nat → BitVec 64) (m : Nat) : Nat → BitVec 64 := fun i => if i < m then c i else q i
theorem elN_rk {m : Nat} {S0 : Nat → BitVec 64} : ∀ {b : Nat}, (elN m S0 b).2.2 ≤ m ∧ (elN m S0 b).2.2 ≤ b
  | 0 => ⟨Nat.zero_le _, Nat.le_refl _⟩
  | b + 1 => by
    have ih := elN_rk (m := m) (S0 := S0) (b := b)
    have h := fk_rng (S := (elN m S0 b).1) (b := b) (d := m - (elN m S0 b).2.2) (k := (elN m S0 b).2.2)
    unfold elN elS
    split
    · omega
    · show _ + 1 ≤ _ ∧ _ + 1 ≤ _
      omega
theorem el0_s {q c : Nat → BitVec 64} {k : Nat} : u1 (el0 q c k) k (c k) = el0 q c (k + 1) := by
  funext i
  by_cases h : i = k
  · subst h; rw [u1_s, el0, if_pos (by omega)]
  · rw [u1_n h, el0, el0]
    by_cases h2 : i < k
    · rw [if_pos h2, if_pos (by omega)]
    · rw [if_neg h2, if_neg (by omega)]
theorem el0_0 {q c : Nat → BitVec 64} : el0 q c 0 = q := funext fun i => if_neg (by omega)
theorem elX_0 {S : Nat → BitVec 64} {row : BitVec 64} {b t : Nat} : elX S row b t (t + 1) = S := funext fun i => if_neg (by omega)
theorem elX_s {S : Nat → BitVec 64} {row : BitVec 64} {b t n : Nat} (ht : t < n) (hb : (S n).getLsbD b = true) : u1 (elX S row b t n) n (S n ^^^ row) = elX S row b t (n + 1) := by
  funext i
  by_cases h : i = n
  · subst h; rw [u1_s, elX, if_pos ⟨ht, by omega, hb⟩]
  · rw [u1_n h, elX, elX]
    by_cases h2 : t < i ∧ i < n ∧ (S i).getLsbD b = true
    · rw [if_pos h2, if_pos ⟨h2.1, by omega, h2.2.2⟩]
    · rw [if_neg h2, if_neg (fun q => h2 ⟨q.1, by omega, q.2.2⟩)]
theorem elX_k {S : Nat → BitVec 64} {row : BitVec 64} {b t n : Nat} (hb : ¬ (S n).getLsbD b = true) : elX S row b t (n + 1) = elX S row b t n := by
  funext i
  rw [elX, elX]
  by_cases h2 : t < i ∧ i < n ∧ (S i).getLsbD b = true
  · rw [if_pos h2, if_pos ⟨h2.1, by omega, h2.2.2⟩]
  · rw [if_neg h2, if_neg (fun q => by
      by_cases h3 : i = n
      · subst h3; exact hb q.2.2
      · exact h2 ⟨q.1, by omega, q.2.2⟩)]
theorem elX_n {S : Nat → BitVec 64} {row : BitVec 64} {b t n : Nat} : elX S row b t n n = S n := if_neg (by omega)
def lsR (A : Nat → Int) (q : Nat → BitVec 64) (L R C : Nat) : EL := elN (L * R) (el0 q (cs A L C) (L * R)) (L * C)
set_option maxRecDepth 4000 in
theorem c_laySums {r : Nat} {A : Nat → Int} {ia : Nat → Nat → Int} {la : Nat → Nat → BitVec 64} {fi : Nat → Int} {fl : Nat → BitVec 64} {h0 : HP} {L R C : Nat} (hV : VC A L R C) : sp mX10_laySums [.ref r] (RH r A ia la fi fl h0) 0 0 (pd none (RH r A ia (u1 la 6 (lsR A (la 6) L R C).1) (u1 fi 17 (((lsR A (la 6) L R C).2.2 : Nat) : Int)) (u1 fl 16 (lsR A (la 6) L R C).2.1) h0)) := by
  obtain ⟨v1, v2, v3, v4, v5, v6, v7⟩ := id hV
  have hLR := mulLe (a := L) (b := R) (x := 6) (y := 4) (by omega) (by omega)
  have hLC := mulLe (a := L) (b := C) (x := 6) (y := 8) (by omega) (by omega)
  have main : ∀ b : Nat, b ≤ L * C → ∀ x2 x3 x5 : Value, wp mX10_laySums 39 [.ref r, .int (zI (b : Int)), x2, x3, jk, x5] [] (RH r A ia (u1 la 6 (elN (L * R) (el0 (la 6) (cs A L C) (L * R)) b).1) (u1 fi 17 (((elN (L * R) (el0 (la 6) (cs A L C) (L * R)) b).2.2 : Nat) : Int)) (u1 fl 16 (elN (L * R) (el0 (la 6) (cs A L C) (L * R)) b).2.1) h0) 0 0 (pd none (RH r A ia (u1 la 6 (lsR A (la 6) L R C).1) (u1 fi 17 (((lsR A (la 6) L R C).2.2 : Nat) : Int)) (u1 fl 16 (lsR A (la 6) L R C).2.1) h0)) := by
    refine up_ind (N := L * C) (fun b hb ih => ?_)
    intro x2 x3 x5
    have hk := elN_rk (m := L * R) (S0 := el0 (la 6) (cs A L C) (L * R)) (b := b)
    rw [elN] at ih
    generalize hX : elN (L * R) (el0 (la 6) (cs A L C) (L * R)) b = X at ih hk ⊢
    obtain ⟨S, F, k⟩ := X
    have hk1 : k ≤ L * R := hk.1
    simp only [elS] at ih
    show wp mX10_laySums 39 [.ref r, .int (zI (b : Int)), x2, x3, jk, x5] [] (RH r A ia (u1 la 6 S) (u1 fi 17 (k : Int)) (u1 fl 16 F) h0) 0 0 (pd none (RH r A ia (u1 la 6 (lsR A (la 6) L R C).1) (u1 fi 17 (((lsR A (la 6) L R C).2.2 : Nat) : Int)) (u1 fl 16 (lsR A (la 6) L R C).2.1) h0))
    refine w_iload_n dX10_laySums_39 rfl rfl ?_
    refine w_aload_n dX10_laySums_40 rfl rfl ?_
    refine wc_V (Z := mX10_bits) (As := []) c_bits RH0 rfl kX10_bits lX10_66 iX10_bits vX10_bits dX10_laySums_41 rfl rfl rfl (Nat.le_of_ble_eq_true rfl) ⟨Nat.le_of_ble_eq_true rfl, Nat.le_of_ble_eq_true rfl⟩ ?_
    rw [v1, v3]
    refine w_icmp_ge 198 dX10_laySums_44 (by decide) (by unfold ok32; omega) (by unfold ok32; omega) (fun hn => ?_) (fun hn => ?_)
    · refine x_vret rfl dX10_laySums_198 ⟨rfl, ?_⟩
      rw [show lsR A (la 6) L R C = (S, F, k) by unfold lsR; rw [← hX, show b = L * C by omega]]
    · have hT := fk_rng (S := S) (b := b) (d := L * R - k) (k := k)
      generalize hTe : fk S b (L * R - k) k = T at hT ih
      refine w_aload_n dX10_laySums_47 rfl rfl ?_
      refine w_getf fX10_205 dX10_laySums_48 RH0 rfl ?_
      rw [u1_s]
      refine w_istore_n (lv' := [_, _, _, _, _, _]) dX10_laySums_51 rfl (Nat.le_of_ble_eq_true rfl) rfl rfl ?_
      have after : wp mX10_laySums 79 [.ref r, .int (zI (b : Int)), .int (zI (T : Int)), x3, jk, x5] [] (RH r A ia (u1 la 6 S) (u1 fi 17 (k : Int)) (u1 fl 16 F) h0) 0 0 (pd none (RH r A ia (u1 la 6 (lsR A (la 6) L R C).1) (u1 fi 17 (((lsR A (la 6) L R C).2.2 : Nat) : Int)) (u1 fl 16 (lsR A (la 6) L R C).2.1) h0)) := by
        refine w_iload_n dX10_laySums_79 rfl rfl ?_
        refine w_aload_n dX10_laySums_80 rfl rfl ?_
        refine wc_V (Z := mX10_checks) (As := []) c_checks RH0 rfl kX10_checks lX10_74 iX10_checks vX10_checks dX10_laySums_81 rfl rfl rfl (Nat.le_of_ble_eq_true rfl) ⟨Nat.le_of_ble_eq_true rfl, Nat.le_of_ble_eq_true rfl⟩ ?_
        rw [v1, v2]
        refine w_icmp_ne 90 dX10_laySums_84 (by decide) (by unfold ok32; omega) (by unfold ok32; omega) (fun hTm => ?_) (fun hTm => ?_)
        rotate_left
        · refine w_goto 192 dX10_laySums_87 (by decide) ?_
          refine w_iinc (lv' := [_, _, _, _, _, _]) dX10_laySums_192 rfl rfl rfl ?_
          refine w_goto 39 dX10_laySums_195 (by decide) ?_
          have hTm2 : T = L * R := by omega
          simp only [if_pos hTm2] at ih
          exact ih (by omega) _ _ _
        · have hTm2 : ¬ T = L * R := by omega
          simp only [if_neg hTm2] at ih
          have hbT : (S T).getLsbD b = true := by rw [← hTe]; exact fk_bit (by rw [hTe]; omega)
          refine w_aload_n dX10_laySums_90 rfl rfl ?_
          refine w_getf fX10_32 dX10_laySums_91 RH0 rfl ?_
          refine w_iload_n dX10_laySums_94 rfl rfl ?_
          refine w_lald T RH6 rfl (by omega) (by decide) dX10_laySums_95 ?_
          rw [u1_s]
          refine w_lstore_n (lv' := [_, _, _, _, _, _]) dX10_laySums_96 rfl (Nat.le_of_ble_eq_true rfl) rfl rfl ?_
          refine w_aload_n dX10_laySums_97 rfl rfl ?_
          refine w_getf fX10_32 dX10_laySums_98 RH0 rfl ?_
          refine w_iload_n dX10_laySums_101 rfl rfl ?_
          refine w_aload_n dX10_laySums_102 rfl rfl ?_
          refine w_getf fX10_32 dX10_laySums_103 RH0 rfl ?_
          refine w_aload_n dX10_laySums_106 rfl rfl ?_
          refine w_getf fX10_205 dX10_laySums_107 RH0 rfl ?_
          rw [u1_s]
          refine w_lald k RH6 rfl (by omega) (by decide) dX10_laySums_110 ?_
          rw [u1_s]
          refine r_lst6K T rfl (by omega) dX10_laySums_111 ?_
          rw [u1_u1, u1_s]
          refine w_aload_n dX10_laySums_112 rfl rfl ?_
          refine w_getf fX10_32 dX10_laySums_113 RH0 rfl ?_
          refine w_aload_n dX10_laySums_116 rfl rfl ?_
          refine w_getf fX10_205 dX10_laySums_117 RH0 rfl ?_
          rw [u1_s]
          refine w_lload_n dX10_laySums_120 rfl rfl ?_
          refine r_lst6K k rfl (by omega) dX10_laySums_121 ?_
          rw [u1_u1, u1_s]
          refine w_aload_n dX10_laySums_122 rfl rfl ?_
          refine w_getf fX10_205 dX10_laySums_123 RH0 rfl ?_
          rw [u1_s]
          refine w_iconst dX10_laySums_126 ?_
          refine w_iadd dX10_laySums_127 ?_
          refine w_istore (lv' := [_, _, _, _, _, _]) dX10_laySums_128 (Nat.le_of_ble_eq_true rfl) rfl rfl ?_
          generalize hS2 : u1 (u1 S T (S k)) k (S T) = S2 at ih ⊢
          suffices h3 : ∀ i : Nat, i ≤ L * R → k < i → wp mX10_laySums 130 [.ref r, .int (zI (b : Int)), .int (zI (T : Int)), .long (lB (S T)), jk, .int (zI (i : Int))] [] (RH r A ia (u1 la 6 (elX S2 (S T) b k i)) (u1 fi 17 (k : Int)) (u1 fl 16 F) h0) 0 0 (pd none (RH r A ia (u1 la 6 (lsR A (la 6) L R C).1) (u1 fi 17 (((lsR A (la 6) L R C).2.2 : Nat) : Int)) (u1 fl 16 (lsR A (la 6) L R C).2.1) h0)) by
            have h4 := h3 (k + 1) (by omega) (by omega)
            rw [elX_0] at h4
            exact h4
          refine up_ind (N := L * R) (fun i hi ih2 => ?_)
          intro hki
          refine w_iload dX10_laySums_130 rfl ?_
          refine w_aload_n dX10_laySums_132 rfl rfl ?_
          refine wc_V (Z := mX10_checks) (As := []) c_checks RH0 rfl kX10_checks lX10_74 iX10_checks vX10_checks dX10_laySums_133 rfl rfl rfl (Nat.le_of_ble_eq_true rfl) ⟨Nat.le_of_ble_eq_true rfl, Nat.le_of_ble_eq_true rfl⟩ ?_
          rw [v1, v2]
          refine w_icmp_ge 170 dX10_laySums_136 (by decide) (by unfold ok32; omega) (by unfold ok32; omega) (fun hi2 => ?_) (fun hi2 => ?_)
          · have ei : i = L * R := by omega
            subst ei
            refine w_aload_n dX10_laySums_170 rfl rfl ?_
            refine w_dup dX10_laySums_171 rfl ?_
            refine w_getf fX10_205 dX10_laySums_172 RH0 rfl ?_
            rw [u1_s]
            refine w_iconst dX10_laySums_175 ?_
            refine w_iadd dX10_laySums_176 ?_
            refine r_pf17 fX10_205 dX10_laySums_177 ?_
            rw [u1_u1]
            refine w_aload_n dX10_laySums_180 rfl rfl ?_
            refine w_dup dX10_laySums_181 rfl ?_
            refine w_getf fX10_201 dX10_laySums_182 RH0 rfl ?_
            rw [u1_s]
            refine w_lconst1 dX10_laySums_185 ?_
            refine w_iload_n dX10_laySums_186 rfl rfl ?_
            refine w_lshl _ rfl (by omega) dX10_laySums_187 ?_
            refine w_lor dX10_laySums_188 ?_
            refine r_pf16 fX10_201 dX10_laySums_189 ?_
            rw [u1_u1]
            refine w_iinc (lv' := [_, _, _, _, _, _]) dX10_laySums_192 rfl rfl rfl ?_
            refine w_goto 39 dX10_laySums_195 (by decide) ?_
            exact ih (by omega) _ _ _
          · refine w_aload_n dX10_laySums_139 rfl rfl ?_
            refine w_getf fX10_32 dX10_laySums_140 RH0 rfl ?_
            refine w_iload dX10_laySums_143 rfl ?_
            refine w_lald i RH6 rfl (by omega) (by decide) dX10_laySums_145 ?_
            rw [u1_s, elX_n]
            refine w_iload_n dX10_laySums_146 rfl rfl ?_
            refine wc_S (Z := mX10_hasIt) (As := [_, _]) (c_hasIt (by omega)) kX10_hasIt lX10_62 sX10_hasIt dX10_laySums_147 rfl rfl rfl (Nat.le_of_ble_eq_true rfl) ⟨Nat.le_of_ble_eq_true rfl, Nat.le_of_ble_eq_true rfl⟩ ?_
            refine w_ifb_eq 164 dX10_laySums_150 (by decide) (fun hbi => ?_) (fun hbi => ?_)
            · refine w_iinc (lv' := [_, _, _, _, _, _]) dX10_laySums_164 rfl rfl rfl ?_
              refine w_goto 130 dX10_laySums_167 (by decide) ?_
              have h5 := ih2 (by omega) (by omega)
              rw [elX_k hbi] at h5
              exact h5
            · refine w_aload_n dX10_laySums_153 rfl rfl ?_
              refine w_getf fX10_32 dX10_laySums_154 RH0 rfl ?_
              refine w_iload dX10_laySums_157 rfl ?_
              refine w_dup2 dX10_laySums_159 rfl rfl ?_
              refine w_lald i RH6 rfl (by omega) (by decide) dX10_laySums_160 ?_
              rw [u1_s, elX_n]
              refine w_lload_n dX10_laySums_161 rfl rfl ?_
              refine w_lxor dX10_laySums_162 ?_
              refine r_lst6K i rfl (by omega) dX10_laySums_163 ?_
              rw [u1_u1, u1_s, elX_s hki hbi]
              refine w_iinc (lv' := [_, _, _, _, _, _]) dX10_laySums_164 rfl rfl rfl ?_
              refine w_goto 130 dX10_laySums_167 (by decide) ?_
              exact ih2 (by omega) (by omega)
      have find : ∀ t : Nat, t ≤ L * R → k ≤ t → fk S b (L * R - t) t = T → wp mX10_laySums 52 [.ref r, .int (zI (b : Int)), .int (zI (t : Int)), x3, jk, x5] [] (RH r A ia (u1 la 6 S) (u1 fi 17 (k : Int)) (u1 fl 16 F) h0) 0 0 (pd none (RH r A ia (u1 la 6 (lsR A (la 6) L R C).1) (u1 fi 17 (((lsR A (la 6) L R C).2.2 : Nat) : Int)) (u1 fl 16 (lsR A (la 6) L R C).2.1) h0)) := by
        refine up_ind (N := L * R) (fun t ht ih2 => ?_)
        intro hkt hft
        refine w_iload_n dX10_laySums_52 rfl rfl ?_
        refine w_aload_n dX10_laySums_53 rfl rfl ?_
        refine wc_V (Z := mX10_checks) (As := []) c_checks RH0 rfl kX10_checks lX10_74 iX10_checks vX10_checks dX10_laySums_54 rfl rfl rfl (Nat.le_of_ble_eq_true rfl) ⟨Nat.le_of_ble_eq_true rfl, Nat.le_of_ble_eq_true rfl⟩ ?_
        rw [v1, v2]
        refine w_icmp_ge 79 dX10_laySums_57 (by decide) (by unfold ok32; omega) (by unfold ok32; omega) (fun ht2 => ?_) (fun ht2 => ?_)
        · rw [show L * R - t = 0 by omega, fk] at hft
          rw [hft]
          exact after
        · rw [show L * R - t = (L * R - (t + 1)) + 1 by omega, fk] at hft
          refine w_aload_n dX10_laySums_60 rfl rfl ?_
          refine w_getf fX10_32 dX10_laySums_61 RH0 rfl ?_
          refine w_iload_n dX10_laySums_64 rfl rfl ?_
          refine w_lald t RH6 rfl (by omega) (by decide) dX10_laySums_65 ?_
          rw [u1_s]
          refine w_iload_n dX10_laySums_66 rfl rfl ?_
          refine wc_S (Z := mX10_hasIt) (As := [_, _]) (c_hasIt (by omega)) kX10_hasIt lX10_62 sX10_hasIt dX10_laySums_67 rfl rfl rfl (Nat.le_of_ble_eq_true rfl) ⟨Nat.le_of_ble_eq_true rfl, Nat.le_of_ble_eq_true rfl⟩ ?_
          refine w_ifb_ne 79 dX10_laySums_70 (by decide) (fun hbt => ?_) (fun hbt => ?_)
          · rw [if_pos hbt] at hft
            rw [hft]
            exact after
          · rw [if_neg hbt] at hft
            refine w_iinc (lv' := [_, _, _, _, _, _]) dX10_laySums_73 rfl rfl rfl ?_
            refine w_goto 52 dX10_laySums_76 (by decide) ?_
            exact ih2 (by omega) (by omega) hft
      exact find k hk1 (Nat.le_refl _) hTe
  refine sp_wp rfl (lv := [_, _, _, _, _, _]) rfl (Nat.le_of_ble_eq_true rfl) ?_
  refine w_iconst dX10_laySums_0 ?_
  refine w_istore_n (lv' := [_, _, _, _, _, _]) dX10_laySums_1 rfl (Nat.le_of_ble_eq_true rfl) rfl rfl ?_
  suffices h3 : ∀ c : Nat, c ≤ L * R → wp mX10_laySums 2 [.ref r, .int (zI (c : Int)), jk, jk, jk, jk] [] (RH r A ia (u1 la 6 (el0 (la 6) (cs A L C) c)) fi fl h0) 0 0 (pd none (RH r A ia (u1 la 6 (lsR A (la 6) L R C).1) (u1 fi 17 (((lsR A (la 6) L R C).2.2 : Nat) : Int)) (u1 fl 16 (lsR A (la 6) L R C).2.1) h0)) by
    have h4 := h3 0 (Nat.zero_le _)
    rw [el0_0, u1_id] at h4
    exact h4
  refine up_ind (N := L * R) (fun c hc ih => ?_)
  refine w_iload_n dX10_laySums_2 rfl rfl ?_
  refine w_aload_n dX10_laySums_3 rfl rfl ?_
  refine wc_V (Z := mX10_checks) (As := []) c_checks RH0 rfl kX10_checks lX10_74 iX10_checks vX10_checks dX10_laySums_4 rfl rfl rfl (Nat.le_of_ble_eq_true rfl) ⟨Nat.le_of_ble_eq_true rfl, Nat.le_of_ble_eq_true rfl⟩ ?_
  rw [v1, v2]
  refine w_icmp_ge 27 dX10_laySums_7 (by decide) (by unfold ok32; omega) (by unfold ok32; omega) (fun hn => ?_) (fun hn => ?_)
  · have ec : c = L * R := by omega
    subst ec
    refine w_aload_n dX10_laySums_27 rfl rfl ?_
    refine w_lconst0 dX10_laySums_28 ?_
    refine r_pf16 fX10_201 dX10_laySums_29 ?_
    refine w_aload_n dX10_laySums_32 rfl rfl ?_
    refine w_iconst dX10_laySums_33 ?_
    refine r_pf17 fX10_205 dX10_laySums_34 ?_
    refine w_iconst dX10_laySums_37 ?_
    refine w_istore_n (lv' := [_, _, _, _, _, _]) dX10_laySums_38 rfl (Nat.le_of_ble_eq_true rfl) rfl rfl ?_
    exact main 0 (Nat.zero_le _) _ _ _
  · refine w_aload_n dX10_laySums_10 rfl rfl ?_
    refine w_getf fX10_32 dX10_laySums_11 RH0 rfl ?_
    refine w_iload_n dX10_laySums_14 rfl rfl ?_
    refine w_aload_n dX10_laySums_15 rfl rfl ?_
    refine w_iload_n dX10_laySums_16 rfl rfl ?_
    refine wc_V (Z := mX10_checkSet) (As := [_]) (c_checkSet hV (by omega)) RH0 rfl kX10_checkSet lX10_83 iX10_checkSet vX10_checkSet dX10_laySums_17 rfl rfl rfl (Nat.le_of_ble_eq_true rfl) ⟨Nat.le_of_ble_eq_true rfl, Nat.le_of_ble_eq_true rfl⟩ ?_
    refine r_lst6K c rfl (by omega) dX10_laySums_20 ?_
    rw [u1_u1, u1_s, show csetN (shA A) L c C = cs A L C c from rfl, el0_s]
    refine w_iinc (lv' := [_, _, _, _, _, _]) dX10_laySums_21 rfl rfl rfl ?_
    refine w_goto 2 dX10_laySums_24 (by decide) ?_
    exact ih (by omega)

