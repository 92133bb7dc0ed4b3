/-! tokens -/
def ntF (fi : Nat → Int) (a p t m : Int) : Nat → Int := fun j => if j = 7 then a else if j = 8 then p else if j = 9 then t else if j = 10 then m else fi j
theorem nt7 {fi : Nat → Int} {a p t m : Int} : ntF fi a p t m 7 = a := rfl
theorem nt8 {fi : Nat → Int} {a p t m : Int} : ntF fi a p t m 8 = p := rfl
theorem nt9 {fi : Nat → Int} {a p t m : Int} : ntF fi a p t m 9 = t := rfl
theorem nt10 {fi : Nat → Int} {a p t m : Int} : ntF fi a p t m 10 = m := rfl
theorem nt_n {fi : Nat → Int} {a p t m : Int} {j : Nat} (h : j < 7 ∨ 10 < j) : ntF fi a p t m j = fi j := by
  unfold ntF
  rw [if_neg (by omega), if_neg (by omega), if_neg (by omega), if_neg (by omega)]
theorem ntu7 {fi : Nat → Int} {a p t m v : Int} : u1 (ntF fi a p t m) 7 v = ntF fi v p t m := by
  funext j
  unfold u1 ntF
  by_cases h : j = 7
  · rw [if_pos h, if_pos h]
  · rw [if_neg h, if_neg h, if_neg h]
theorem ntu8 {fi : Nat → Int} {a p t m v : Int} : u1 (ntF fi a p t m) 8 v = ntF fi a v t m := by
  funext j
  unfold u1 ntF
  by_cases h : j = 8
  · subst h; rfl
  · rw [if_neg h, if_neg h, if_neg h]
theorem ntu9 {fi : Nat → Int} {a p t m v : Int} : u1 (ntF fi a p t m) 9 v = ntF fi a p v m := by
  funext j
  unfold u1 ntF
  by_cases h : j = 9
  · subst h; rfl
  · rw [if_neg h, if_neg h, if_neg h]
theorem ntu10 {fi : Nat → Int} {a p t m v : Int} : u1 (ntF fi a p t m) 10 v = ntF fi a p t v := by
  funext j
  unfold u1 ntF
  by_cases h : j = 10
  · subst h; rfl
  · rw [if_neg h, if_neg h, if_neg h]
def skp (T : Nat → Int) (n : Nat) : Nat → Nat → Nat
  | 0, a => a
  | f + 1, a => if byt T n a = 32 ∨ byt T n a = 10 then skp T n f (a + 1) else a
def fgN (T : Nat → Int) (n : Nat) : Nat → Nat → Int → Nat × Int
  | 0, a, m => (a, m)
  | f + 1, a, m => if 48 ≤ byt T n a ∧ byt T n a ≤ 57 then fgN T n f (a + 1) (if 9999 < m then m else 10 * m + byt T n a - 48) else (a, m)
def ltN (T : Nat → Int) (n : Nat) : Nat → Nat → Nat
  | 0, a => a
  | f + 1, a => if 97 ≤ byt T n a ∧ byt T n a ≤ 122 then ltN T n f (a + 1) else a
theorem byt_lt {T : Nat → Int} {n a : Nat} (h : 0 ≤ byt T n a) : a < n := by
  refine Classical.byContradiction fun z => ?_
  unfold byt at h
  rw [if_neg z] at h
  omega
theorem skp_rng {T : Nat → Int} {n : Nat} : ∀ {f a : Nat}, a ≤ n → a ≤ skp T n f a ∧ skp T n f a ≤ n
  | 0, a, h => ⟨Nat.le_refl _, h⟩
  | f + 1, a, h => by
    unfold skp
    split
    · rename_i hc
      have hl : a < n := byt_lt (T := T) (by omega)
      have := skp_rng (T := T) (f := f) (a := a + 1) (n := n) hl
      omega
    · omega
theorem ltN_rng {T : Nat → Int} {n : Nat} : ∀ {f a : Nat}, a ≤ n → a ≤ ltN T n f a ∧ ltN T n f a ≤ n
  | 0, a, h => ⟨Nat.le_refl _, h⟩
  | f + 1, a, h => by
    unfold ltN
    split
    · rename_i hc
      have hl : a < n := byt_lt (T := T) (by omega)
      have := ltN_rng (T := T) (f := f) (a := a + 1) (n := n) hl
      omega
    · omega
theorem fgN_rng {T : Nat → Int} {n : Nat} : ∀ {f a : Nat} {m : Int}, a ≤ n → 0 ≤ m → m ≤ 99999 → (a ≤ (fgN T n f a m).1 ∧ (fgN T n f a m).1 ≤ n) ∧ 0 ≤ (fgN T n f a m).2 ∧ (fgN T n f a m).2 ≤ 99999
  | 0, a, m, h, h1, h2 => ⟨⟨Nat.le_refl _, h⟩, h1, h2⟩
  | f + 1, a, m, h, h1, h2 => by
    unfold fgN
    split
    · rename_i hc
      have hl : a < n := byt_lt (T := T) (by omega)
      have := fgN_rng (T := T) (f := f) (a := a + 1) (n := n) (m := if 9999 < m then m else 10 * m + byt T n a - 48) hl (by split <;> omega) (by split <;> omega)
      omega
    · exact ⟨⟨Nat.le_refl _, h⟩, h1, h2⟩
abbrev LX : Type := Nat × Nat × Int × Int
noncomputable def nt (T : Nat → Int) (n a : Nat) : LX :=
  if byt T n (skp T n 301 a) < 0 then (skp T n 301 a, skp T n 301 a, 0, 0)
  else if 48 ≤ byt T n (skp T n 301 a) ∧ byt T n (skp T n 301 a) ≤ 57 then ((fgN T n 301 (skp T n 301 a) 0).1, skp T n 301 a, 1, (fgN T n 301 (skp T n 301 a) 0).2)
  else if 97 ≤ byt T n (skp T n 301 a) ∧ byt T n (skp T n 301 a) ≤ 122 then (ltN T n 301 (skp T n 301 a), skp T n 301 a, wdO T n (skp T n 301 a) (ltN T n 301 (skp T n 301 a) - skp T n 301 a), 0)
  else (skp T n 301 a + 1, skp T n 301 a, if byt T n (skp T n 301 a) = 46 ∨ byt T n (skp T n 301 a) = 59 then byt T n (skp T n 301 a) else 2, 0)
theorem wdO_rng {T : Nat → Int} {n p l : Nat} : wdO T n p l = 2 ∨ (200 ≤ wdO T n p l ∧ wdO T n p l ≤ 203) := by
  unfold wdO
  split
  · omega
  · split
    · omega
    · split
      · omega
      · split <;> omega
theorem nt_rng {T : Nat → Int} {n a : Nat} (hT : TB T) (h : a ≤ n) : a ≤ (nt T n a).2.1 ∧ (nt T n a).2.1 ≤ (nt T n a).1 ∧ (nt T n a).1 ≤ n ∧ (0 ≤ (nt T n a).2.2.1 ∧ (nt T n a).2.2.1 ≤ 203) ∧ 0 ≤ (nt T n a).2.2.2 ∧ (nt T n a).2.2.2 ≤ 99999 := by
  have h1 := skp_rng (T := T) (f := 301) h
  have hb := byt_rng (n := n) (k := skp T n 301 a) hT
  unfold nt
  split
  · show a ≤ skp T n 301 a ∧ skp T n 301 a ≤ skp T n 301 a ∧ skp T n 301 a ≤ n ∧ ((0 : Int) ≤ 0 ∧ (0 : Int) ≤ 203) ∧ (0 : Int) ≤ 0 ∧ (0 : Int) ≤ 99999
    omega
  · rename_i hc
    have hl := byt_lt (Int.not_lt.mp hc)
    split
    · have := fgN_rng (T := T) (n := n) (f := 301) (a := skp T n 301 a) (m := 0) (by omega) (by omega) (by omega)
      show a ≤ skp T n 301 a ∧ skp T n 301 a ≤ (fgN T n 301 (skp T n 301 a) 0).1 ∧ (fgN T n 301 (skp T n 301 a) 0).1 ≤ n ∧ ((0 : Int) ≤ 1 ∧ (1 : Int) ≤ 203) ∧ 0 ≤ (fgN T n 301 (skp T n 301 a) 0).2 ∧ (fgN T n 301 (skp T n 301 a) 0).2 ≤ 99999
      omega
    · split
      · have := ltN_rng (T := T) (n := n) (f := 301) (a := skp T n 301 a) (by omega)
        have hw := wdO_rng (T := T) (n := n) (p := skp T n 301 a) (l := ltN T n 301 (skp T n 301 a) - skp T n 301 a)
        show a ≤ skp T n 301 a ∧ skp T n 301 a ≤ ltN T n 301 (skp T n 301 a) ∧ ltN T n 301 (skp T n 301 a) ≤ n ∧ (0 ≤ wdO T n (skp T n 301 a) (ltN T n 301 (skp T n 301 a) - skp T n 301 a) ∧ wdO T n (skp T n 301 a) (ltN T n 301 (skp T n 301 a) - skp T n 301 a) ≤ 203) ∧ (0 : Int) ≤ 0 ∧ (0 : Int) ≤ 99999
        omega
      · show a ≤ skp T n 301 a ∧ skp T n 301 a ≤ skp T n 301 a + 1 ∧ skp T n 301 a + 1 ≤ n ∧ (0 ≤ (if byt T n (skp T n 301 a) = 46 ∨ byt T n (skp T n 301 a) = 59 then byt T n (skp T n 301 a) else 2) ∧ (if byt T n (skp T n 301 a) = 46 ∨ byt T n (skp T n 301 a) = 59 then byt T n (skp T n 301 a) else 2) ≤ 203) ∧ (0 : Int) ≤ 0 ∧ (0 : Int) ≤ 99999
        refine ⟨by omega, by omega, by omega, ?_, by omega, by omega⟩
        split <;> omega
set_option maxRecDepth 4000 in
theorem c_nextToken {r : Nat} {A : Nat → Int} {ia : Nat → Nat → Int} {la : Nat → Nat → BitVec 64} {fi : Nat → Int} {fl : Nat → BitVec 64} {h0 : HP} {n a : Nat} {p t m : Int} (h4 : fi 4 = (n : Int)) (hn : n ≤ 300) (ha : a ≤ n) (hT : TB (ia 4)) : sp mX10_nextToken [.ref r] (RH r A ia la (ntF fi a p t m) fl h0) 0 0 (pd none (RH r A ia la (ntF fi (nt (ia 4) n a).1 (nt (ia 4) n a).2.1 (nt (ia 4) n a).2.2.1 (nt (ia 4) n a).2.2.2) fl h0)) := by
  obtain ⟨X, hX⟩ : ∃ X, nt (ia 4) n a = X := ⟨_, rfl⟩
  rw [hX]
  obtain ⟨S0, hS0⟩ : ∃ S0, skp (ia 4) n 301 a = S0 := ⟨_, rfl⟩
  unfold nt at hX
  rw [hS0] at hX
  have ob : ∀ k, ok32 (byt (ia 4) n k) := fun k => by have := byt_rng (n := n) (k := k) hT; unfold ok32; omega
  have hb : ∀ (a p t m : Int) (k : Nat), k ≤ 1000 → sp mX10_byteAt [.ref r, .int (zI (k : Int))] (RH r A ia la (ntF fi a p t m) fl h0) 0 0 (pd (some (.int (zI (byt (ia 4) n k)))) (RH r A ia la (ntF fi a p t m) fl h0)) := fun a p t m k hk => c_byteAt ((nt_n (by omega)).trans h4) hn hk
  have figs : ∀ (f b pl : Nat) (m : Int) (c : Int32), b ≤ n → n < b + f → 0 ≤ m → m ≤ 99999 → ((fgN (ia 4) n f b m).1, pl, (1 : Int), (fgN (ia 4) n f b m).2) = X → wp mX10_nextToken 85 [.ref r, .int c] [] (RH r A ia la (ntF fi b pl 1 m) fl h0) 0 0 (pd none (RH r A ia la (ntF fi X.1 X.2.1 X.2.2.1 X.2.2.2) fl h0)) := by
    intro f
    induction f with
    | zero => intro b pl m c h1 h2; omega
    | succ f ih =>
      intro b pl m c h1 h2 h3 h5 hx
      unfold fgN at hx
      refine w_aload_n dX10_nextToken_85 rfl rfl ?_
      refine w_aload_n dX10_nextToken_86 rfl rfl ?_
      refine w_getf fX10_108 dX10_nextToken_87 RH0 rfl ?_
      rw [nt7]
      refine wc_V (Z := mX10_byteAt) (As := [_]) (hb _ _ _ _ _ (by omega)) RH0 rfl kX10_byteAt lX10_97 iX10_byteAt vX10_byteAt dX10_nextToken_90 rfl rfl rfl (Nat.le_of_ble_eq_true rfl) ⟨Nat.le_of_ble_eq_true rfl, Nat.le_of_ble_eq_true rfl⟩ ?_
      refine wc_S (Z := mX10_isFigure) (As := [_]) (c_isFigure (ob _)) kX10_isFigure lX10_117 sX10_isFigure dX10_nextToken_93 rfl rfl rfl (Nat.le_of_ble_eq_true rfl) ⟨Nat.le_of_ble_eq_true rfl, Nat.le_of_ble_eq_true rfl⟩ ?_
      refine w_ifb_eq 237 dX10_nextToken_96 (by decide) (fun hc => ?_) (fun hc => ?_)
      · rw [if_neg hc] at hx
        subst hx
        exact x_vret rfl dX10_nextToken_237 ⟨rfl, rfl⟩
      · rw [if_pos hc] at hx
        have hl : b < n := byt_lt (T := ia 4) (by omega)
        have tail : ∀ v : Int, v = (if 9999 < m then m else 10 * m + byt (ia 4) n b - 48) → wp mX10_nextToken 136 [.ref r, .int c] [.int (zI v), .ref r] (RH r A ia la (ntF fi b pl 1 m) fl h0) 0 0 (pd none (RH r A ia la (ntF fi X.1 X.2.1 X.2.2.1 X.2.2.2) fl h0)) := by
          intro v hv
          rw [← hv] at hx
          refine r_pf10 fX10_111 dX10_nextToken_136 ?_
          rw [ntu10]
          refine w_aload_n dX10_nextToken_139 rfl rfl ?_
          refine w_dup dX10_nextToken_140 rfl ?_
          refine w_getf fX10_108 dX10_nextToken_141 RH0 rfl ?_
          refine w_iconst dX10_nextToken_144 ?_
          refine w_iadd dX10_nextToken_145 ?_
          rw [nt7, show ((b : Int) + 1) = ((b + 1 : Nat) : Int) by omega]
          refine r_pf7 fX10_108 dX10_nextToken_146 ?_
          rw [ntu7]
          refine w_goto 85 dX10_nextToken_149 (by decide) ?_
          refine ih (b + 1) pl v c (by omega) (by omega) ?_ ?_ hx
          · rw [hv]; split <;> omega
          · rw [hv]; split <;> omega
        refine w_aload_n dX10_nextToken_99 rfl rfl ?_
        refine w_aload_n dX10_nextToken_100 rfl rfl ?_
        refine w_getf fX10_111 dX10_nextToken_101 RH0 rfl ?_
        rw [nt10]
        refine w_sipush dX10_nextToken_104 (by decide) ?_
        refine w_icmp_le 117 dX10_nextToken_107 (by decide) (by first | assumption | (unfold ok32 at *; omega)) (by first | assumption | (unfold ok32 at *; omega)) (fun h9 => ?_) (fun h9 => ?_)
        · refine w_bipush dX10_nextToken_117 (by decide) ?_
          refine w_aload_n dX10_nextToken_119 rfl rfl ?_
          refine w_getf fX10_111 dX10_nextToken_120 RH0 rfl ?_
          rw [nt10]
          refine w_imul dX10_nextToken_123 ?_
          refine w_aload_n dX10_nextToken_124 rfl rfl ?_
          refine w_aload_n dX10_nextToken_125 rfl rfl ?_
          refine w_getf fX10_108 dX10_nextToken_126 RH0 rfl ?_
          rw [nt7]
          refine wc_V (Z := mX10_byteAt) (As := [_]) (hb _ _ _ _ _ (by omega)) RH0 rfl kX10_byteAt lX10_97 iX10_byteAt vX10_byteAt dX10_nextToken_129 rfl rfl rfl (Nat.le_of_ble_eq_true rfl) ⟨Nat.le_of_ble_eq_true rfl, Nat.le_of_ble_eq_true rfl⟩ ?_
          refine w_iadd dX10_nextToken_132 ?_
          refine w_bipush dX10_nextToken_133 (by decide) ?_
          refine w_isub dX10_nextToken_135 ?_
          exact tail _ (by rw [if_neg (by omega)])
        · refine w_aload_n dX10_nextToken_110 rfl rfl ?_
          refine w_getf fX10_111 dX10_nextToken_111 RH0 rfl ?_
          rw [nt10]
          refine w_goto 136 dX10_nextToken_114 (by decide) ?_
          exact tail _ (by rw [if_pos (by omega)])
  have lets : ∀ (f b pl : Nat) (t0 : Int) (c : Int32), b ≤ n → n < b + f → pl ≤ b → (ltN (ia 4) n f b, pl, wdO (ia 4) n pl (ltN (ia 4) n f b - pl), (0 : Int)) = X → wp mX10_nextToken 159 [.ref r, .int c] [] (RH r A ia la (ntF fi b pl t0 0) fl h0) 0 0 (pd none (RH r A ia la (ntF fi X.1 X.2.1 X.2.2.1 X.2.2.2) fl h0)) := by
    intro f
    induction f with
    | zero => intro b pl t0 c h1 h2; omega
    | succ f ih =>
      intro b pl t0 c h1 h2 h3 hx
      unfold ltN at hx
      refine w_aload_n dX10_nextToken_159 rfl rfl ?_
      refine w_aload_n dX10_nextToken_160 rfl rfl ?_
      refine w_getf fX10_108 dX10_nextToken_161 RH0 rfl ?_
      rw [nt7]
      refine wc_V (Z := mX10_byteAt) (As := [_]) (hb _ _ _ _ _ (by omega)) RH0 rfl kX10_byteAt lX10_97 iX10_byteAt vX10_byteAt dX10_nextToken_164 rfl rfl rfl (Nat.le_of_ble_eq_true rfl) ⟨Nat.le_of_ble_eq_true rfl, Nat.le_of_ble_eq_true rfl⟩ ?_
      refine wc_S (Z := mX10_isLetterByte) (As := [_]) (c_isLetterByte (ob _)) kX10_isLetterByte lX10_121 sX10_isLetterByte dX10_nextToken_167 rfl rfl rfl (Nat.le_of_ble_eq_true rfl) ⟨Nat.le_of_ble_eq_true rfl, Nat.le_of_ble_eq_true rfl⟩ ?_
      refine w_ifb_eq 186 dX10_nextToken_170 (by decide) (fun hc => ?_) (fun hc => ?_)
      · rw [if_neg hc] at hx
        refine w_aload_n dX10_nextToken_186 rfl rfl ?_
        refine w_aload_n dX10_nextToken_187 rfl rfl ?_
        refine w_aload_n dX10_nextToken_188 rfl rfl ?_
        refine w_getf fX10_108 dX10_nextToken_189 RH0 rfl ?_
        rw [nt7]
        refine w_aload_n dX10_nextToken_192 rfl rfl ?_
        refine w_getf fX10_101 dX10_nextToken_193 RH0 rfl ?_
        rw [nt8]
        refine w_isub dX10_nextToken_196 ?_
        rw [show ((b : Int) - (pl : Int)) = ((b - pl : Nat) : Int) by omega]
        refine wc_V (Z := mX10_wordOf) (As := [_]) (c_wordOf ((nt_n (by omega)).trans h4) nt8 hn (by omega) (by omega) hT) RH0 rfl kX10_wordOf lX10_124 iX10_wordOf vX10_wordOf dX10_nextToken_197 rfl rfl rfl (Nat.le_of_ble_eq_true rfl) ⟨Nat.le_of_ble_eq_true rfl, Nat.le_of_ble_eq_true rfl⟩ ?_
        refine r_pf9 fX10_114 dX10_nextToken_200 ?_
        rw [ntu9]
        refine w_goto 237 dX10_nextToken_203 (by decide) ?_
        subst hx
        exact x_vret rfl dX10_nextToken_237 ⟨rfl, rfl⟩
      · rw [if_pos hc] at hx
        have hl : b < n := byt_lt (T := ia 4) (by omega)
        refine w_aload_n dX10_nextToken_173 rfl rfl ?_
        refine w_dup dX10_nextToken_174 rfl ?_
        refine w_getf fX10_108 dX10_nextToken_175 RH0 rfl ?_
        refine w_iconst dX10_nextToken_178 ?_
        refine w_iadd dX10_nextToken_179 ?_
        rw [nt7, show ((b : Int) + 1) = ((b + 1 : Nat) : Int) by omega]
        refine r_pf7 fX10_108 dX10_nextToken_180 ?_
        rw [ntu7]
        refine w_goto 159 dX10_nextToken_183 (by decide) ?_
        exact ih (b + 1) pl t0 c (by omega) (by omega) (by omega) hx
  have skips : ∀ (f b : Nat), b ≤ n → n < b + f → skp (ia 4) n f b = S0 → wp mX10_nextToken 0 [.ref r, jk] [] (RH r A ia la (ntF fi b p t m) fl h0) 0 0 (pd none (RH r A ia la (ntF fi X.1 X.2.1 X.2.2.1 X.2.2.2) fl h0)) := by
    intro f
    induction f with
    | zero => intro b h1 h2; omega
    | succ f ih =>
      intro b h1 h2 hs
      unfold skp at hs
      have again : (byt (ia 4) n b = 32 ∨ byt (ia 4) n b = 10) → wp mX10_nextToken 26 [.ref r, jk] [] (RH r A ia la (ntF fi b p t m) fl h0) 0 0 (pd none (RH r A ia la (ntF fi X.1 X.2.1 X.2.2.1 X.2.2.2) fl h0)) := by
        intro hc
        rw [if_pos hc] at hs
        have hl : b < n := byt_lt (T := ia 4) (by omega)
        refine w_aload_n dX10_nextToken_26 rfl rfl ?_
        refine w_dup dX10_nextToken_27 rfl ?_
        refine w_getf fX10_108 dX10_nextToken_28 RH0 rfl ?_
        refine w_iconst dX10_nextToken_31 ?_
        refine w_iadd dX10_nextToken_32 ?_
        rw [nt7, show ((b : Int) + 1) = ((b + 1 : Nat) : Int) by omega]
        refine r_pf7 fX10_108 dX10_nextToken_33 ?_
        rw [ntu7]
        refine w_goto 0 dX10_nextToken_36 (by decide) ?_
        exact ih (b + 1) (by omega) (by omega) hs
      refine w_aload_n dX10_nextToken_0 rfl rfl ?_
      refine w_aload_n dX10_nextToken_1 rfl rfl ?_
      refine w_getf fX10_108 dX10_nextToken_2 RH0 rfl ?_
      rw [nt7]
      refine wc_V (Z := mX10_byteAt) (As := [_]) (hb _ _ _ _ _ (by omega)) RH0 rfl kX10_byteAt lX10_97 iX10_byteAt vX10_byteAt dX10_nextToken_5 rfl rfl rfl (Nat.le_of_ble_eq_true rfl) ⟨Nat.le_of_ble_eq_true rfl, Nat.le_of_ble_eq_true rfl⟩ ?_
      refine w_bipush dX10_nextToken_8 (by decide) ?_
      refine w_icmp_eq 26 dX10_nextToken_10 (by decide) (ob _) (by first | assumption | (unfold ok32 at *; omega)) (fun c1 => ?_) (fun c1 => ?_)
      · exact again (Or.inl c1)
      · refine w_aload_n dX10_nextToken_13 rfl rfl ?_
        refine w_aload_n dX10_nextToken_14 rfl rfl ?_
        refine w_getf fX10_108 dX10_nextToken_15 RH0 rfl ?_
        rw [nt7]
        refine wc_V (Z := mX10_byteAt) (As := [_]) (hb _ _ _ _ _ (by omega)) RH0 rfl kX10_byteAt lX10_97 iX10_byteAt vX10_byteAt dX10_nextToken_18 rfl rfl rfl (Nat.le_of_ble_eq_true rfl) ⟨Nat.le_of_ble_eq_true rfl, Nat.le_of_ble_eq_true rfl⟩ ?_
        refine w_bipush dX10_nextToken_21 (by decide) ?_
        refine w_icmp_ne 39 dX10_nextToken_23 (by decide) (ob _) (by first | assumption | (unfold ok32 at *; omega)) (fun c2 => ?_) (fun c2 => ?_)
        rotate_left
        · exact again (Or.inr c2)
        · rw [if_neg (fun q => q.elim c1 c2)] at hs
          refine w_aload_n dX10_nextToken_39 rfl rfl ?_
          refine w_aload_n dX10_nextToken_40 rfl rfl ?_
          refine w_getf fX10_108 dX10_nextToken_41 RH0 rfl ?_
          rw [nt7]
          refine r_pf8 fX10_101 dX10_nextToken_44 ?_
          rw [ntu8]
          refine w_aload_n dX10_nextToken_47 rfl rfl ?_
          refine w_iconst dX10_nextToken_48 ?_
          refine r_pf10 fX10_111 dX10_nextToken_49 ?_
          rw [ntu10]
          refine w_aload_n dX10_nextToken_52 rfl rfl ?_
          refine w_aload_n dX10_nextToken_53 rfl rfl ?_
          refine w_getf fX10_108 dX10_nextToken_54 RH0 rfl ?_
          rw [nt7]
          refine wc_V (Z := mX10_byteAt) (As := [_]) (hb _ _ _ _ _ (by omega)) RH0 rfl kX10_byteAt lX10_97 iX10_byteAt vX10_byteAt dX10_nextToken_57 rfl rfl rfl (Nat.le_of_ble_eq_true rfl) ⟨Nat.le_of_ble_eq_true rfl, Nat.le_of_ble_eq_true rfl⟩ ?_
          refine w_istore_n (lv' := [_, _]) dX10_nextToken_60 rfl (Nat.le_of_ble_eq_true rfl) rfl rfl ?_
          refine w_iload_n dX10_nextToken_61 rfl rfl ?_
          rw [← hs] at hX
          refine w_if_ge 73 dX10_nextToken_62 (by decide) (ob _) (fun c3 => ?_) (fun c3 => ?_)
          · rw [if_neg (by omega)] at hX
            have hl : b < n := byt_lt c3
            refine w_iload_n dX10_nextToken_73 rfl rfl ?_
            refine wc_S (Z := mX10_isFigure) (As := [_]) (c_isFigure (ob _)) kX10_isFigure lX10_117 sX10_isFigure dX10_nextToken_74 rfl rfl rfl (Nat.le_of_ble_eq_true rfl) ⟨Nat.le_of_ble_eq_true rfl, Nat.le_of_ble_eq_true rfl⟩ ?_
            refine w_ifb_eq 152 dX10_nextToken_77 (by decide) (fun c4 => ?_) (fun c4 => ?_)
            · rw [if_neg c4] at hX
              refine w_iload_n dX10_nextToken_152 rfl rfl ?_
              refine wc_S (Z := mX10_isLetterByte) (As := [_]) (c_isLetterByte (ob _)) kX10_isLetterByte lX10_121 sX10_isLetterByte dX10_nextToken_153 rfl rfl rfl (Nat.le_of_ble_eq_true rfl) ⟨Nat.le_of_ble_eq_true rfl, Nat.le_of_ble_eq_true rfl⟩ ?_
              refine w_ifb_eq 206 dX10_nextToken_156 (by decide) (fun c5 => ?_) (fun c5 => ?_)
              · rw [if_neg c5] at hX
                have tail : ∀ v : Int, v = (if byt (ia 4) n b = 46 ∨ byt (ia 4) n b = 59 then byt (ia 4) n b else 2) → wp mX10_nextToken 224 [.ref r, .int (zI (byt (ia 4) n b))] [.int (zI v), .ref r] (RH r A ia la (ntF fi b b t 0) fl h0) 0 0 (pd none (RH r A ia la (ntF fi X.1 X.2.1 X.2.2.1 X.2.2.2) fl h0)) := by
                  intro v hv
                  rw [← hv] at hX
                  refine r_pf9 fX10_114 dX10_nextToken_224 ?_
                  rw [ntu9]
                  refine w_aload_n dX10_nextToken_227 rfl rfl ?_
                  refine w_dup dX10_nextToken_228 rfl ?_
                  refine w_getf fX10_108 dX10_nextToken_229 RH0 rfl ?_
                  refine w_iconst dX10_nextToken_232 ?_
                  refine w_iadd dX10_nextToken_233 ?_
                  rw [nt7, show ((b : Int) + 1) = ((b + 1 : Nat) : Int) by omega]
                  refine r_pf7 fX10_108 dX10_nextToken_234 ?_
                  rw [ntu7]
                  subst hX
                  exact x_vret rfl dX10_nextToken_237 ⟨rfl, rfl⟩
                refine w_aload_n dX10_nextToken_206 rfl rfl ?_
                refine w_iload_n dX10_nextToken_207 rfl rfl ?_
                refine w_bipush dX10_nextToken_208 (by decide) ?_
                refine w_icmp_eq 219 dX10_nextToken_210 (by decide) (ob _) (by first | assumption | (unfold ok32 at *; omega)) (fun c6 => ?_) (fun c6 => ?_)
                · refine w_iload_n dX10_nextToken_219 rfl rfl ?_
                  refine w_goto 224 dX10_nextToken_220 (by decide) ?_
                  exact tail _ (by rw [if_pos (Or.inl c6)])
                · refine w_iload_n dX10_nextToken_213 rfl rfl ?_
                  refine w_bipush dX10_nextToken_214 (by decide) ?_
                  refine w_icmp_ne 223 dX10_nextToken_216 (by decide) (ob _) (by first | assumption | (unfold ok32 at *; omega)) (fun c7 => ?_) (fun c7 => ?_)
                  · refine w_iconst dX10_nextToken_223 ?_
                    exact tail _ (by rw [if_neg (fun q => q.elim c6 c7)])
                  · refine w_iload_n dX10_nextToken_219 rfl rfl ?_
                    refine w_goto 224 dX10_nextToken_220 (by decide) ?_
                    exact tail _ (by rw [if_pos (Or.inr c7)])
              · rw [if_pos c5] at hX
                exact lets 301 b b t _ (by omega) (by omega) (Nat.le_refl _) hX
            · rw [if_pos c4] at hX
              refine w_aload_n dX10_nextToken_80 rfl rfl ?_
              refine w_iconst dX10_nextToken_81 ?_
              refine r_pf9 fX10_114 dX10_nextToken_82 ?_
              rw [ntu9]
              exact figs 301 b b 0 _ (by omega) (by omega) (by omega) (by omega) hX
          · rw [if_pos (by omega)] at hX
            refine w_aload_n dX10_nextToken_65 rfl rfl ?_
            refine w_iconst dX10_nextToken_66 ?_
            refine r_pf9 fX10_114 dX10_nextToken_67 ?_
            rw [ntu9]
            refine w_goto 237 dX10_nextToken_70 (by decide) ?_
            subst hX
            exact x_vret rfl dX10_nextToken_237 ⟨rfl, rfl⟩
  refine sp_wp rfl (lv := [_, _]) rfl (Nat.le_of_ble_eq_true rfl) ?_
  exact skips 301 a ha (by omega) hS0

