/-! the mean: quotients of small whole numbers -/
theorem fp_near {A B k : Nat} (hk : 0 < k) : FP.Core.nearest (A * k) (B * k) = FP.Core.nearest A B := by
  unfold FP.Core.nearest
  rw [Nat.mul_div_mul_right _ _ hk, Nat.mul_mod_mul_right]
  have e : 2 * (A % B * k) = 2 * (A % B) * k := by rw [Nat.mul_assoc]
  rw [e]
  by_cases h1 : 2 * (A % B) < B
  · rw [if_pos h1, if_pos (Nat.mul_lt_mul_of_pos_right h1 hk)]
  · rw [if_neg h1, if_neg (fun z => h1 (Nat.lt_of_mul_lt_mul_right z))]
    by_cases h2 : B < 2 * (A % B)
    · rw [if_pos h2, if_pos (Nat.mul_lt_mul_of_pos_right h2 hk)]
    · rw [if_neg h2, if_neg (fun z => h2 (Nat.lt_of_mul_lt_mul_right z))]
theorem fp_lg {s : Nat} (h : 0 < s) : 2 ^ s.log2 ≤ s ∧ s < 2 ^ (s.log2 + 1) := ⟨Nat.log2_self_le (by omega), Nat.lt_log2_self⟩
theorem fp_lg_u {s k : Nat} (h1 : 2 ^ k ≤ s) (h2 : s < 2 ^ (k + 1)) : s.log2 = k := by
  have hs : s ≠ 0 := by have := Nat.two_pow_pos k; omega
  exact (Nat.log2_eq_iff hs).mpr ⟨h1, h2⟩
/-- a small whole number as a datum: its digits moved up to 53 -/
theorem fp_int {s : Nat} (h : 0 < s) (h2 : s < 2 ^ 31) : FP.Core.roundRatio FP.Core.b64 false s 1 0 = .fin false (s * 2 ^ (52 - s.log2)) ((s.log2 : Int) - 52) ∧ s.log2 ≤ 30 ∧ 2 ^ 52 ≤ s * 2 ^ (52 - s.log2) ∧ s * 2 ^ (52 - s.log2) < 2 ^ 53 := by
  obtain ⟨l1, l2⟩ := fp_lg h
  have hk : s.log2 ≤ 30 := by
    refine Nat.le_of_not_lt fun z => ?_
    have := Nat.pow_le_pow_right (n := 2) (by omega) (show 31 ≤ s.log2 by omega)
    omega
  obtain ⟨k, hkk⟩ : ∃ k, s.log2 = k := ⟨_, rfl⟩
  rw [hkk] at l1 l2 hk ⊢
  have b1 : 2 ^ 52 ≤ s * 2 ^ (52 - k) := by
    have := Nat.mul_le_mul_right (2 ^ (52 - k)) l1
    rw [← Nat.pow_add, show k + (52 - k) = 52 by omega] at this
    exact this
  have b2 : s * 2 ^ (52 - k) < 2 ^ 53 := by
    have := Nat.mul_lt_mul_of_pos_right l2 (Nat.two_pow_pos (52 - k))
    rw [← Nat.pow_add, show k + 1 + (52 - k) = 53 by omega] at this
    exact this
  refine ⟨?_, hk, b1, b2⟩
  have e1 : FP.Core.leading s 1 = (k : Int) := by
    unfold FP.Core.leading
    rw [hkk, show Nat.log2 1 = 0 from by decide]
    show (if 1 * 2 ^ ((k : Int) - ((0 : Nat) : Int)).toNat ≤ s * 2 ^ (-((k : Int) - ((0 : Nat) : Int))).toNat then (k : Int) - ((0 : Nat) : Int) else (k : Int) - ((0 : Nat) : Int) - 1) = _
    rw [show ((k : Int) - ((0 : Nat) : Int)).toNat = k by omega, show (-((k : Int) - ((0 : Nat) : Int))).toNat = 0 by omega, if_pos (by omega)]
    omega
  unfold FP.Core.roundRatio
  rw [if_neg (by omega)]
  have e2 : FP.Core.quantum FP.Core.b64 s 1 0 = (k : Int) - 52 := by
    unfold FP.Core.quantum
    rw [e1]
    show max (2 - ((2 ^ (11 - 1) - 1 : Nat) : Int) - ((53 : Nat) : Int)) ((k : Int) + 0 - (((53 : Nat) : Int) - 1)) = _
    omega
  rw [e2]
  unfold FP.Core.roundAt FP.Core.unitsNum FP.Core.unitsDen
  rw [show (0 - ((k : Int) - 52)).toNat = 52 - k by omega, show ((k : Int) - 52 - 0).toNat = 0 by omega]
  have e3 : FP.Core.nearest (s * 2 ^ (52 - k)) (1 * 2 ^ 0) = s * 2 ^ (52 - k) := by
    unfold FP.Core.nearest
    rw [show 1 * 2 ^ 0 = 1 from rfl, Nat.mod_one, if_pos (by omega), Nat.div_one]
  rw [e3]
  unfold FP.Core.settle FP.Core.bound
  rw [if_pos (show s * 2 ^ (52 - k) < 2 ^ FP.Core.b64.p from b2), if_pos (show (k : Int) - 52 ≤ FP.Core.b64.qmax from by
    show (k : Int) - 52 ≤ ((2 ^ (11 - 1) - 1 : Nat) : Int) - ((53 : Nat) : Int) + 1
    omega)]
theorem fp_dec {c : Nat} {q : Int} (h1 : 2 ^ 52 ≤ c) (h2 : c < 2 ^ 53) (h3 : -1000 ≤ q) (h4 : q ≤ 900) : FP.Core.decode FP.Core.b64 (FP.Core.encode FP.Core.b64 (.fin false c q)) = .fin false c q ∧ FP.Core.encode FP.Core.b64 (.fin false c q) = (q + 1074).toNat * 2 ^ 52 + c := by
  have e : FP.Core.encode FP.Core.b64 (.fin false c q) = (q + 1074).toNat * 2 ^ 52 + c := by
    unfold FP.Core.encode
    show (if c < 2 ^ 52 then _ else FP.Core.assemble FP.Core.b64 false ((q - (2 - ((2 ^ (11 - 1) - 1 : Nat) : Int) - ((53 : Nat) : Int))).toNat + 1) (c - 2 ^ 52)) = _
    rw [if_neg (by omega)]
    show (0 * 2048 + ((q - (2 - ((2 ^ (11 - 1) - 1 : Nat) : Int) - ((53 : Nat) : Int))).toNat + 1)) * 2 ^ 52 + (c - 2 ^ 52) = _
    rw [show (q - (2 - ((2 ^ (11 - 1) - 1 : Nat) : Int) - ((53 : Nat) : Int))).toNat = (q + 1074).toNat by omega]
    omega
  refine ⟨?_, e⟩
  rw [e]
  obtain ⟨E, hE⟩ : ∃ E, (q + 1074).toNat = E := ⟨_, rfl⟩
  rw [hE]
  have fE : FP.Core.fieldE FP.Core.b64 (E * 2 ^ 52 + c) = E + 1 := by
    show (E * 2 ^ 52 + c) / 2 ^ 52 % 2048 = E + 1
    omega
  have fT : FP.Core.fieldT FP.Core.b64 (E * 2 ^ 52 + c) = c - 2 ^ 52 := by
    show (E * 2 ^ 52 + c) % 2 ^ 52 = c - 2 ^ 52
    omega
  have fS : FP.Core.fieldS FP.Core.b64 (E * 2 ^ 52 + c) = false := by
    show ((E * 2 ^ 52 + c) / 2 ^ 52 / 2048 % 2 == 1) = false
    rw [show (E * 2 ^ 52 + c) / 2 ^ 52 / 2048 = 0 by omega]
    rfl
  unfold FP.Core.decode
  rw [fE, fT, fS, if_neg (show ¬ E + 1 = FP.Core.b64.exps - 1 from by show ¬ E + 1 = 2047; omega), if_neg (by omega)]
  show FP.Core.Datum.fin false (2 ^ 52 + (c - 2 ^ 52)) ((2 - ((2 ^ (11 - 1) - 1 : Nat) : Int) - ((53 : Nat) : Int)) + (((E + 1 : Nat) : Int) - 1)) = _
  rw [show 2 ^ 52 + (c - 2 ^ 52) = c by omega, show (2 - ((2 ^ (11 - 1) - 1 : Nat) : Int) - ((53 : Nat) : Int)) + (((E + 1 : Nat) : Int) - 1) = q by omega]
theorem fp_t {X Y : Nat} (x1 : 2 ^ 52 ≤ X) (x2 : X < 2 ^ 53) (y1 : 2 ^ 52 ≤ Y) (y2 : Y < 2 ^ 53) : ∃ t : Nat, (t = 52 ∨ t = 53) ∧ (if X ≤ Y then (0 : Int) else -1) = 52 - (t : Int) ∧ X * 2 ^ 52 ≤ Y * 2 ^ t ∧ Y * 2 ^ (t - 1) < X * 2 ^ 52 := by
  by_cases hc : X ≤ Y
  · refine ⟨52, Or.inl rfl, (if_pos hc).trans (by decide), Nat.mul_le_mul_right _ hc, ?_⟩
    have e : (2 : Nat) ^ 52 = 2 ^ (52 - 1) * 2 := by decide
    rw [e, Nat.mul_comm _ 2, ← Nat.mul_assoc]
    exact Nat.mul_lt_mul_of_pos_right (by omega) (Nat.two_pow_pos _)
  · refine ⟨53, Or.inr rfl, (if_neg hc).trans (by decide), ?_, ?_⟩
    · have e : (2 : Nat) ^ 53 = 2 * 2 ^ 52 := by decide
      rw [e, ← Nat.mul_assoc]
      exact Nat.mul_le_mul_right _ (by omega)
    · exact Nat.mul_lt_mul_of_pos_right (by omega) (Nat.two_pow_pos _)
theorem fp_quo {s n D : Nat} (h1 : 0 < s) (h2 : s ≤ 4752) (h3 : 0 < n) (h4 : n ≤ 48) (d0 : 1 ≤ D) (d1 : n * 2 ^ 52 ≤ s * 2 ^ D) (d2 : s * 2 ^ (D - 1) < n * 2 ^ 52) : D ≤ 59 ∧ ∃ q : Int, FP.Core.roundRatio FP.Core.b64 false (s * 2 ^ (52 - s.log2)) (n * 2 ^ (52 - n.log2)) (((s.log2 : Int) - 52) - ((n.log2 : Int) - 52)) = FP.Core.settle FP.Core.b64 false (FP.Core.nearest (s * 2 ^ D) n) q ∧ q = -(D : Int) := by
  obtain ⟨-, ls, s1, s2⟩ := fp_int h1 (by omega)
  obtain ⟨-, ln, n1, n2⟩ := fp_int h3 (by omega)
  have lgs : s.log2 ≤ 12 := by
    have := (fp_lg h1).1
    refine Nat.le_of_not_lt fun z => ?_
    have := Nat.pow_le_pow_right (n := 2) (by omega) (show 13 ≤ s.log2 by omega)
    omega
  have lgn : n.log2 ≤ 5 := by
    have := (fp_lg h3).1
    refine Nat.le_of_not_lt fun z => ?_
    have := Nat.pow_le_pow_right (n := 2) (by omega) (show 6 ≤ n.log2 by omega)
    omega
  obtain ⟨a, ha⟩ : ∃ a, 52 - s.log2 = a := ⟨_, rfl⟩
  obtain ⟨b, hb⟩ : ∃ b, 52 - n.log2 = b := ⟨_, rfl⟩
  have hqs : ((s.log2 : Int) - 52) - ((n.log2 : Int) - 52) = (b : Int) - a := by omega
  rw [hqs]
  rw [ha] at s1 s2 ⊢
  rw [hb] at n1 n2 ⊢
  have hlead : FP.Core.leading (s * 2 ^ a) (n * 2 ^ b) = if n * 2 ^ b ≤ s * 2 ^ a then 0 else -1 := by
    unfold FP.Core.leading
    rw [fp_lg_u s1 s2, fp_lg_u n1 n2]
    show (if n * 2 ^ b * 2 ^ (((52 : Nat) : Int) - ((52 : Nat) : Int)).toNat ≤ s * 2 ^ a * 2 ^ (-(((52 : Nat) : Int) - ((52 : Nat) : Int))).toNat then (((52 : Nat) : Int) - ((52 : Nat) : Int)) else (((52 : Nat) : Int) - ((52 : Nat) : Int)) - 1) = _
    rw [show (((52 : Nat) : Int) - ((52 : Nat) : Int)).toNat = 0 from rfl, show (-(((52 : Nat) : Int) - ((52 : Nat) : Int))).toNat = 0 from rfl, Nat.pow_zero, Nat.mul_one, Nat.mul_one]
    rfl
  obtain ⟨t, ht, hlt, hlo, hup⟩ : ∃ t : Nat, (t = 52 ∨ t = 53) ∧ FP.Core.leading (s * 2 ^ a) (n * 2 ^ b) = 52 - (t : Int) ∧ n * 2 ^ b * 2 ^ 52 ≤ s * 2 ^ a * 2 ^ t ∧ s * 2 ^ a * 2 ^ (t - 1) < n * 2 ^ b * 2 ^ 52 := by
    rw [hlead]
    exact fp_t n1 n2 s1 s2
  have hD : D + b = a + t := by
    have p1 : n * 2 ^ b * 2 ^ 52 ≤ s * 2 ^ (D + b) := by
      have := Nat.mul_le_mul_right (2 ^ b) d1
      rw [Nat.pow_add, ← Nat.mul_assoc]
      have e : n * 2 ^ b * 2 ^ 52 = n * 2 ^ 52 * 2 ^ b := by rw [Nat.mul_assoc, Nat.mul_comm (2 ^ b), ← Nat.mul_assoc]
      rw [e]
      exact this
    have p2 : s * 2 ^ (D - 1 + b) < n * 2 ^ b * 2 ^ 52 := by
      have := Nat.mul_lt_mul_of_pos_right d2 (Nat.two_pow_pos b)
      rw [Nat.pow_add, ← Nat.mul_assoc]
      have e : n * 2 ^ b * 2 ^ 52 = n * 2 ^ 52 * 2 ^ b := by rw [Nat.mul_assoc, Nat.mul_comm (2 ^ b), ← Nat.mul_assoc]
      rw [e]
      exact this
    rw [Nat.mul_assoc s, ← Nat.pow_add] at hlo hup
    have q1 : s * 2 ^ (a + (t - 1)) < s * 2 ^ (D + b) := Nat.lt_of_lt_of_le hup p1
    have q2 : s * 2 ^ (D - 1 + b) < s * 2 ^ (a + t) := Nat.lt_of_lt_of_le p2 hlo
    have r1 := (Nat.pow_lt_pow_iff_right (a := 2) (by omega)).mp (Nat.lt_of_mul_lt_mul_left q1)
    have r2 := (Nat.pow_lt_pow_iff_right (a := 2) (by omega)).mp (Nat.lt_of_mul_lt_mul_left q2)
    omega
  refine ⟨by omega, -(D : Int), ?_, rfl⟩
  unfold FP.Core.roundRatio
  rw [if_neg (by omega)]
  have e2 : FP.Core.quantum FP.Core.b64 (s * 2 ^ a) (n * 2 ^ b) ((b : Int) - a) = -(D : Int) := by
    unfold FP.Core.quantum
    rw [hlt]
    show max (2 - ((2 ^ (11 - 1) - 1 : Nat) : Int) - ((53 : Nat) : Int)) (52 - (t : Int) + ((b : Int) - a) - (((53 : Nat) : Int) - 1)) = _
    omega
  rw [e2]
  unfold FP.Core.roundAt FP.Core.unitsNum FP.Core.unitsDen
  rw [show (((b : Int) - a) - (-(D : Int))).toNat = t by omega, show (-(D : Int) - ((b : Int) - a)).toNat = 0 by omega, Nat.pow_zero, Nat.mul_one]
  congr 1
  rw [Nat.mul_assoc s, ← Nat.pow_add, ← hD, Nat.pow_add, ← Nat.mul_assoc, fp_near (Nat.two_pow_pos b)]
theorem fp_i2d {a : Int32} {s : Nat} (ha : a.toInt = (s : Int)) (h : 0 < s) (h2 : s < 2 ^ 31) : FP.Core.decode FP.Core.b64 (FP.i2d a).toNat = .fin false (s * 2 ^ (52 - s.log2)) ((s.log2 : Int) - 52) := by
  obtain ⟨e1, e2, e3, e4⟩ := fp_int h h2
  obtain ⟨d1, d2⟩ := fp_dec e3 e4 (show -1000 ≤ (s.log2 : Int) - 52 by omega) (show (s.log2 : Int) - 52 ≤ 900 by omega)
  have hr : FP.Core.fromInt FP.Core.b64 a.toInt = FP.Core.encode FP.Core.b64 (.fin false (s * 2 ^ (52 - s.log2)) ((s.log2 : Int) - 52)) := by
    unfold FP.Core.fromInt FP.Core.ofInt
    rw [ha, show decide ((s : Int) < 0) = false from decide_eq_false (by omega), Int.natAbs_natCast]
    show FP.Core.encode FP.Core.b64 (FP.Core.roundRatio FP.Core.b64 false s 1 0) = _
    rw [e1]
  have hn : (FP.i2d a).toNat = FP.Core.fromInt FP.Core.b64 a.toInt := by
    show (UInt64.ofNat (FP.Core.fromInt FP.Core.b64 a.toInt)).toNat = _
    refine UInt64.toNat_ofNat_of_lt' ?_
    rw [hr, d2]
    show _ < 2 ^ 64
    omega
  rw [hn, hr]
  exact d1
theorem fp_i2d0 {a : Int32} (ha : a.toInt = 0) : FP.Core.decode FP.Core.b64 (FP.i2d a).toNat = .fin false 0 (-1074) := by
  have e : FP.i2d a = 0 := by
    show UInt64.ofNat (FP.Core.fromInt FP.Core.b64 a.toInt) = 0
    rw [ha]
    decide
  rw [e]
  decide
theorem fp_ddiv {x y : UInt64} {c d : Nat} {q r : Int} (hx : FP.Core.decode FP.Core.b64 x.toNat = .fin false c q) (hy : FP.Core.decode FP.Core.b64 y.toNat = .fin false d r) (hd : d ≠ 0) : FP.ddiv x y = UInt64.ofNat (FP.Core.encode FP.Core.b64 (FP.Core.roundRatio FP.Core.b64 false c d (q - r))) := by
  show UInt64.ofNat (FP.Core.encode FP.Core.b64 (FP.Core.quotient FP.Core.b64 (FP.Core.decode FP.Core.b64 x.toNat) (FP.Core.decode FP.Core.b64 y.toNat))) = _
  rw [hx, hy]
  show UInt64.ofNat (FP.Core.encode FP.Core.b64 (if d = 0 then _ else FP.Core.roundRatio FP.Core.b64 false c d (q - r))) = _
  rw [if_neg hd]
theorem fp_cmp {x : UInt64} {c : Nat} {q : Int} (hx : FP.Core.decode FP.Core.b64 x.toNat = .fin false c q) : FP.dcmp x x = some .eq := by
  show FP.Core.order (FP.Core.decode FP.Core.b64 x.toNat) (FP.Core.decode FP.Core.b64 x.toNat) = _
  rw [hx]
  show some (compare (FP.Core.signed false (FP.Core.inUnits c q (min q q))) (FP.Core.signed false (FP.Core.inUnits c q (min q q)))) = _
  generalize FP.Core.signed false (FP.Core.inUnits c q (min q q)) = v
  simp [compare, compareOfLessAndEq]
/-- the bits of the quotient of two small whole numbers, D doublings bringing the first to 53 digits -/
def qbN (s n D : Nat) : Nat := (1074 - D) * 2 ^ 52 + FP.Core.nearest (s * 2 ^ D) n
theorem fp_mean {a b : Int32} {s n D : Nat} (ha : a.toInt = (s : Int)) (hb : b.toInt = (n : Int)) (h1 : 0 < s) (h2 : s ≤ 4752) (h3 : 0 < n) (h4 : n ≤ 48) (d0 : 1 ≤ D) (d1 : n * 2 ^ 52 ≤ s * 2 ^ D) (d2 : s * 2 ^ (D - 1) < n * 2 ^ 52) : FP.ddiv (FP.i2d a) (FP.i2d b) = UInt64.ofNat (qbN s n D) ∧ qbN s n D < 1100 * 2 ^ 52 ∧ D ≤ 59 ∧ FP.dcmp (UInt64.ofNat (qbN s n D)) (UInt64.ofNat (qbN s n D)) = some .eq := by
  obtain ⟨hD, q, e1, e2⟩ := fp_quo h1 h2 h3 h4 d0 d1 d2
  have x1 := fp_i2d ha h1 (by omega)
  have y1 := fp_i2d hb h3 (by omega)
  have hnz : n * 2 ^ (52 - n.log2) ≠ 0 := by have := (fp_int h3 (by omega)).2.2.1; omega
  have e3 := fp_ddiv x1 y1 hnz
  rw [e1, e2] at e3
  have hb2 : s * 2 ^ D < n * 2 ^ 53 := by
    have e : 2 ^ D = 2 ^ (D - 1) * 2 := by rw [← Nat.pow_succ]; congr 1; omega
    rw [e, ← Nat.mul_assoc, show (2 : Nat) ^ 53 = 2 ^ 52 * 2 by decide, ← Nat.mul_assoc]
    exact Nat.mul_lt_mul_of_pos_right d2 (by omega)
  have hq1 : 2 ^ 52 ≤ s * 2 ^ D / n := (Nat.le_div_iff_mul_le h3).mpr (by rw [Nat.mul_comm]; exact d1)
  have hq2 : s * 2 ^ D / n < 2 ^ 53 := (Nat.div_lt_iff_lt_mul h3).mpr (by rw [Nat.mul_comm (2 ^ 53) n]; exact hb2)
  obtain ⟨N, hN⟩ : ∃ N, FP.Core.nearest (s * 2 ^ D) n = N := ⟨_, rfl⟩
  have hN1 : 2 ^ 52 ≤ N ∧ N ≤ 2 ^ 53 := by
    rw [← hN]
    unfold FP.Core.nearest
    split
    · omega
    · split
      · omega
      · omega
  unfold qbN
  rw [hN] at e3 ⊢
  have key : ∃ c q, FP.Core.settle FP.Core.b64 false N (-(D : Int)) = .fin false c q ∧ 2 ^ 52 ≤ c ∧ c < 2 ^ 53 ∧ -1000 ≤ q ∧ q ≤ 900 ∧ (q + 1074).toNat * 2 ^ 52 + c = (1074 - D) * 2 ^ 52 + N := by
    unfold FP.Core.settle FP.Core.bound
    by_cases hc : N < 2 ^ 53
    · refine ⟨N, -(D : Int), ?_, hN1.1, hc, by omega, by omega, by omega⟩
      rw [if_pos (show N < 2 ^ FP.Core.b64.p from hc), if_pos (show -(D : Int) ≤ FP.Core.b64.qmax from by
        show -(D : Int) ≤ ((2 ^ (11 - 1) - 1 : Nat) : Int) - ((53 : Nat) : Int) + 1
        omega)]
    · refine ⟨2 ^ 52, -(D : Int) + 1, ?_, Nat.le_refl _, by decide, by omega, by omega, by omega⟩
      rw [if_neg (show ¬ N < 2 ^ FP.Core.b64.p from hc), if_pos (show -(D : Int) + 1 ≤ FP.Core.b64.qmax from by
        show -(D : Int) + 1 ≤ ((2 ^ (11 - 1) - 1 : Nat) : Int) - ((53 : Nat) : Int) + 1
        omega)]
      rfl
  obtain ⟨c, q', k1, k2, k3, k4, k5, k6⟩ := key
  obtain ⟨f1, f2⟩ := fp_dec k2 k3 k4 k5
  rw [k1, f2, k6] at e3
  have hlt : (1074 - D) * 2 ^ 52 + N < 1100 * 2 ^ 52 := by omega
  refine ⟨e3, hlt, hD, fp_cmp (c := c) (q := q') ?_⟩
  rw [UInt64.toNat_ofNat_of_lt' (show _ < 2 ^ 64 by omega), ← k6, ← f2]
  exact f1
theorem fp_mean0 {a b : Int32} {n : Nat} (ha : a.toInt = 0) (hb : b.toInt = (n : Int)) (h3 : 0 < n) (h4 : n ≤ 48) : FP.ddiv (FP.i2d a) (FP.i2d b) = 0 ∧ FP.dcmp 0 0 = some .eq := by
  have x1 := fp_i2d0 ha
  have y1 := fp_i2d hb h3 (by omega)
  have hnz : n * 2 ^ (52 - n.log2) ≠ 0 := by have := (fp_int h3 (by omega)).2.2.1; omega
  refine ⟨?_, by decide⟩
  rw [fp_ddiv x1 y1 hnz]
  unfold FP.Core.roundRatio
  rw [if_pos rfl]
  decide
theorem fp_nan {x : Nat} (h : x < 1100 * 2 ^ 52) : UInt64.ofNat x &&& 0x7fffffffffffffff ≤ 0x7ff0000000000000 := by
  rw [UInt64.le_iff_toNat_le, UInt64.toNat_and, UInt64.toNat_ofNat_of_lt' (show x < 2 ^ 64 by omega)]
  refine Nat.le_trans Nat.and_le_left ?_
  show x ≤ 9218868437227405312
  omega
abbrev lZ (z : Int) : Int64 := lB (BitVec.ofInt 64 z)
theorem lZ_i {z : Int} (h0 : 0 ≤ z) (h : z < 2 ^ 63) : (BitVec.ofInt 64 z).toInt = z := by
  obtain ⟨n, rfl⟩ : ∃ n : Nat, z = (n : Int) := ⟨z.toNat, by omega⟩
  rw [BitVec.ofInt_natCast, BitVec.toInt_eq_toNat_of_lt (by rw [BitVec.toNat_ofNat]; omega), BitVec.toNat_ofNat, Nat.mod_eq_of_lt (by omega)]
theorem lZ_mul (a b : Int) : lZ a * lZ b = lZ (a * b) := (Int64.ofInt_mul a b).symm
theorem lZ_sub (a b : Int) : lZ a - lZ b = lZ (a - b) := (Int64.ofInt_sub a b).symm
theorem lZ_div {a d : Int} (h0 : 0 ≤ a) (ha : a < 2 ^ 63) (hd : 0 < d) (hd2 : d < 2 ^ 63) : lZ a / lZ d = lZ (a / d) := by
  have h1 : lZ (a.tdiv d) = lZ a / lZ d := Int64.ofInt_tdiv (Int.le_trans (show Int64.minValue.toInt ≤ 0 by decide) h0) (Int.le_trans (show a ≤ 9223372036854775807 by omega) (show (9223372036854775807 : Int) ≤ Int64.maxValue.toInt by decide)) (Int.le_trans (show Int64.minValue.toInt ≤ 0 by decide) (Int.le_of_lt hd)) (Int.le_trans (show d ≤ 9223372036854775807 by omega) (show (9223372036854775807 : Int) ≤ Int64.maxValue.toInt by decide))
  rw [← h1, Int.tdiv_eq_ediv_of_nonneg h0]
theorem lZ_rem {a d : Int} (h0 : 0 ≤ a) (ha : a < 2 ^ 63) (hd : 0 < d) (hd2 : d < 2 ^ 63) : lZ a - lZ a / lZ d * lZ d = lZ (a % d) := by
  rw [lZ_div h0 ha hd hd2, lZ_mul, lZ_sub]
  congr 2
  have := Int.mul_ediv_add_emod a d
  rw [Int.mul_comm] at this
  omega
theorem bv_shl {x : BitVec 64} {k : Nat} : x <<< k = x * BitVec.ofNat 64 (2 ^ k) := by
  refine BitVec.eq_of_toNat_eq ?_
  rw [BitVec.toNat_shiftLeft, BitVec.toNat_mul, BitVec.toNat_ofNat, Nat.shiftLeft_eq, Nat.mul_mod_mod]
theorem lZ_shl {z : Int} {k : Nat} : BitVec.ofInt 64 z <<< k = BitVec.ofInt 64 (z * ((2 ^ k : Nat) : Int)) := by
  rw [bv_shl, BitVec.ofInt_mul, BitVec.ofInt_natCast]
theorem lZ_odd {d : Nat} : (BitVec.ofInt 64 (d : Int) &&& 1#64 = 0#64) ↔ d % 2 = 0 := by
  have e : (BitVec.ofInt 64 (d : Int) &&& 1#64).toNat = d % 2 := by
    rw [BitVec.toNat_and, BitVec.ofInt_natCast, BitVec.toNat_ofNat, show (1#64).toNat = 1 from rfl, Nat.and_one_is_mod]
    omega
  constructor
  · intro h; rw [h] at e; exact e.symm
  · intro h; exact BitVec.eq_of_toNat_eq (by rw [e, h]; rfl)
theorem lZ_ne {d : Int} (hd : 0 < d) (hd2 : d < 2 ^ 63) : ¬ lZ d = 0 := fun e => by
  have h1 : (BitVec.ofInt 64 d) = 0#64 := congrArg Int64.toBitVec e
  have h2 := lZ_i (Int.le_of_lt hd) hd2
  rw [h1] at h2
  have h3 : (0#64).toInt = 0 := by decide
  omega
theorem fst_D {P : Nat → Prop} : ∀ m, P m → ∃ D, D ≤ m ∧ P D ∧ (D = 0 ∨ ¬ P (D - 1))
  | 0, h => ⟨0, Nat.le_refl _, h, Or.inl rfl⟩
  | m + 1, h => by
    by_cases hp : P m
    · obtain ⟨D, h1, h2⟩ := fst_D m hp
      exact ⟨D, by omega, h2⟩
    · exact ⟨m + 1, Nat.le_refl _, h, Or.inr hp⟩
theorem ex_D {s n : Nat} (h1 : 0 < s) (h2 : s ≤ 4752) (h3 : 0 < n) (h4 : n ≤ 48) : ∃ D, 1 ≤ D ∧ n * 2 ^ 52 ≤ s * 2 ^ D ∧ s * 2 ^ (D - 1) < n * 2 ^ 52 := by
  obtain ⟨D, e1, e2, e3⟩ := fst_D (P := fun D => n * 2 ^ 52 ≤ s * 2 ^ D) 58 (by show n * 2 ^ 52 ≤ s * 2 ^ 58; omega)
  replace e2 : n * 2 ^ 52 ≤ s * 2 ^ D := e2
  rcases e3 with e3 | e3
  · subst e3; rw [Nat.pow_zero] at e2; omega
  · replace e3 : ¬ n * 2 ^ 52 ≤ s * 2 ^ (D - 1) := e3
    refine ⟨D, ?_, e2, by omega⟩
    refine Nat.pos_of_ne_zero fun z => ?_
    subst z
    rw [Nat.pow_zero] at e2
    omega
theorem w_i2dR {Y : MT} {pc : Nat} {lv st : List Value} {h : HP} {rc rs : Nat} {Φ : Option Value → HP → Prop} {x : Int32} (hd : decode Y.2.1 pc = .ok (.i2d, 1)) (k : wp Y (pc + 1) lv (.double (FP.i2d x) :: st) h rc rs Φ) : wp Y pc lv (.int x :: st) h rc rs Φ :=
  fun p l e R s m args below meth c H locs cells slots mc ms G b ls Q C hP hS hb hc hs hR hl HR => lv_i2d C.1 C.2.1 hd (k p l e R s m args below meth c H locs cells slots mc ms G b ls Q C hP hS hb hc hs hR hl HR)
theorem w_ddivR {Y : MT} {pc : Nat} {lv st : List Value} {h : HP} {rc rs : Nat} {Φ : Option Value → HP → Prop} {x y : UInt64} (hd : decode Y.2.1 pc = .ok (.ddiv, 1)) (hne : vf_n64 (FP.ddiv x y)) (k : wp Y (pc + 1) lv (.double (FP.ddiv x y) :: st) h rc rs Φ) : wp Y pc lv (.double y :: .double x :: st) h rc rs Φ :=
  fun p l e R s m args below meth c H locs cells slots mc ms G b ls Q C hP hS hb hc hs hR hl HR => lv_ddiv C.1 C.2.1 hd hne (k p l e R s m args below meth c H locs cells slots mc ms G b ls Q C hP hS hb hc hs hR hl HR)
theorem w_dcmpR {Y : MT} {pc : Nat} {lv st : List Value} {h : HP} {rc rs : Nat} {Φ : Option Value → HP → Prop} {x y : UInt64} {op : CmpOp} (hd : decode Y.2.1 pc = .ok (.dcmp op, 1)) (k : wp Y (pc + 1) lv (.int (Op.cmpValue (FP.dcmp x y) op) :: st) h rc rs Φ) : wp Y pc lv (.double y :: .double x :: st) h rc rs Φ :=
  fun p l e R s m args below meth c H locs cells slots mc ms G b ls Q C hP hS hb hc hs hR hl HR => lv_dcmp C.1 C.2.1 hd (k p l e R s m args below meth c H locs cells slots mc ms G b ls Q C hP hS hb hc hs hR hl HR)
theorem lD2L : Cond.methodLink RJxe99ae 134 ⟨"java/lang/Double", "doubleToRawLongBits", "(D)J"⟩ ∈ gw := gw_in (i := 1890) (by decide +kernel) (by decide +kernel)
theorem sD2L : Cond.static ⟨"java/lang/Double", "doubleToRawLongBits", "(D)J"⟩ ∈ gw := gw_in (i := 1891) (by decide +kernel) (by decide +kernel)
theorem nD2L : Cond.native ⟨"java/lang/Double", "doubleToRawLongBits", "(D)J"⟩ ∈ gw := gw_in (i := 1892) (by decide +kernel) (by decide +kernel)
theorem iD2L : Cond.initialized "java/lang/Double" ∈ gw := gw_in (i := 127) (by decide +kernel) (by decide +kernel)
theorem w_d2l {Y : MT} {pc : Nat} {lv st : List Value} {h : HP} {rc rs : Nat} {Φ : Option Value → HP → Prop} {idx : Nat} {x : UInt64} (w1 : Cond.methodLink Y.1.cls idx ⟨"java/lang/Double", "doubleToRawLongBits", "(D)J"⟩ ∈ gw) (hlen : lv.length = Y.2.2.1) (hfr : 1 ≤ Y.2.2.2.2.1) (hlo : (st.map fun v => v.category).sum + 15 ≤ Y.2.2.2.2.2) (hd : decode Y.2.1 pc = .ok (.invokestatic idx, 3)) (k : wp Y (pc + 3) lv (.long x.toInt64 :: st) h rc rs Φ) : wp Y pc lv (.double x :: st) h rc rs Φ :=
  fun p l e R s m args below meth c H locs cells slots mc ms G b ls Q C hP hS hb hc hs hR hl HR => vn_d2l C.1 C.2.1 (hml_of C.2.2.1 hl hlen) C.2.2.2.1 (C.2.2.2.2.1 _ w1) (C.2.2.2.2.1 _ nD2L) (C.2.2.2.2.1 _ sD2L) (C.2.2.2.2.1 _ iD2L) (Nat.le_trans hfr hR.2.2.1) (Nat.le_trans hlo hR.2.2.2) hd (k p l e R s m args below meth c H locs cells slots mc ms G b ls Q C hP hS hb hc hs hR hl HR)
theorem lgc_gt {x y : Int64} : 0 < lg_cmp x y ↔ y < x := by
  unfold lg_cmp
  by_cases h1 : y < x
  · rw [if_pos h1]
    exact ⟨fun _ => h1, fun _ => by decide⟩
  · rw [if_neg h1]
    by_cases h2 : x = y
    · rw [if_pos h2]; exact ⟨fun q => absurd q (by decide), fun q => absurd q h1⟩
    · rw [if_neg h2]; exact ⟨fun q => absurd q (by decide), fun q => absurd q h1⟩
theorem w_lc_gt {Y : MT} {pc : Nat} {lv st : List Value} {h : HP} {rc rs : Nat} {Φ : Option Value → HP → Prop} {x y : BitVec 64} {off : Int} (tgt : Nat) (hd1 : decode Y.2.1 pc = .ok (.lcmp, 1)) (hd2 : decode Y.2.1 (pc + 1) = .ok (.ifCond .gt off, 3)) (ht : ((pc + 1 : Nat) : Int) + off = (tgt : Int)) (kt : y.toInt < x.toInt → wp Y tgt lv st h rc rs Φ) (kf : ¬ y.toInt < x.toInt → wp Y (pc + 4) lv st h rc rs Φ) : wp Y pc lv (.long (lB y) :: .long (lB x) :: st) h rc rs Φ :=
  w_lcmpR hd1 (fun p l e R s m args below meth c H locs cells slots mc ms G b ls Q C hP hS hb hc hs hR hl HR => lv_if_gt C.1 C.2.1 hd2 ht (fun q => kt (lB_lt.mp (lgc_gt.mp q)) p l e R s m args below meth c H locs cells slots mc ms G b ls Q C hP hS hb hc hs hR hl HR) (fun q => kf (fun z => q (lgc_gt.mpr (lB_lt.mpr z))) p l e R s m args below meth c H locs cells slots mc ms G b ls Q C hP hS hb hc hs hR hl HR))
/-- the bits of the quotient as the machine divides -/
def mnB (s n : Int) : BitVec 64 := (FP.ddiv (FP.i2d (zI s)) (FP.i2d (zI n))).toBitVec
theorem mn_pos {s n D : Nat} (h1 : 0 < s) (h2 : s ≤ 4752) (h3 : 0 < n) (h4 : n ≤ 48) (d0 : 1 ≤ D) (d1 : n * 2 ^ 52 ≤ s * 2 ^ D) (d2 : s * 2 ^ (D - 1) < n * 2 ^ 52) : D ≤ 59 ∧ mnB s n = BitVec.ofNat 64 (qbN s n D) := by
  obtain ⟨e1, -, e3, -⟩ := fp_mean (a := zI s) (b := zI n) (zI_toInt (by unfold ok32; omega)) (zI_toInt (by unfold ok32; omega)) h1 h2 h3 h4 d0 d1 d2
  refine ⟨e3, ?_⟩
  unfold mnB
  rw [e1]
  rfl
theorem mn_zero {n : Nat} (h3 : 0 < n) (h4 : n ≤ 48) : mnB 0 n = 0#64 := by
  unfold mnB
  rw [(fp_mean0 (a := zI 0) (b := zI n) rfl (zI_toInt (by unfold ok32; omega)) h3 h4).1]
  rfl
theorem mn_nan {s n : Nat} (h2 : s ≤ 4752) (h3 : 0 < n) (h4 : n ≤ 48) : vf_n64 (FP.ddiv (FP.i2d (zI s)) (FP.i2d (zI n))) ∧ FP.dcmp (FP.ddiv (FP.i2d (zI s)) (FP.i2d (zI n))) (FP.ddiv (FP.i2d (zI s)) (FP.i2d (zI n))) = some .eq := by
  have hn : (zI (n : Int)).toInt = (n : Int) := zI_toInt (by unfold ok32; omega)
  by_cases h1 : s = 0
  · subst h1
    obtain ⟨e1, e2⟩ := fp_mean0 (a := zI ((0 : Nat) : Int)) (b := zI n) rfl hn h3 h4
    rw [e1]
    exact ⟨by unfold vf_n64; decide, e2⟩
  · obtain ⟨D, d0, d1, d2⟩ := ex_D (by omega) h2 h3 h4
    obtain ⟨e1, e2, -, e4⟩ := fp_mean (a := zI s) (b := zI n) (zI_toInt (by unfold ok32; omega)) hn (by omega) h2 h3 h4 d0 d1 d2
    rw [e1]
    exact ⟨fp_nan e2, e4⟩
theorem c_isNaN {x : UInt64} {h : HP} (hx : FP.dcmp x x = some .eq) : sp mJxe99ae_isNaN_b9ae7 [.double x] h 0 0 (pd (some (.int (zI 0))) h) := by
  refine sp_wp rfl (lv := [_, _]) rfl (Nat.le_of_ble_eq_true rfl) ?_
  refine w_dload_n dJxe99ae_isNaN_b9ae7_0 rfl rfl ?_
  refine w_dload_n dJxe99ae_isNaN_b9ae7_1 rfl rfl ?_
  refine w_dcmpR dJxe99ae_isNaN_b9ae7_2 ?_
  rw [hx]
  refine w_if_eq (z := 0) 10 dJxe99ae_isNaN_b9ae7_3 (by decide) ok32_0 (fun _ => ?_) (fun z => absurd rfl z)
  refine w_iconst dJxe99ae_isNaN_b9ae7_10 ?_
  exact x_iret rfl rfl dJxe99ae_isNaN_b9ae7_11 ⟨rfl, rfl⟩
theorem c_d2lb {x : UInt64} {h : HP} (hx : FP.dcmp x x = some .eq) : sp mJxe99ae_doubleToLongBits_ccdee [.double x] h 0 0 (pd (some (.long (lB x.toBitVec))) h) := by
  refine sp_wp rfl (lv := [_, _]) rfl (Nat.le_of_ble_eq_true rfl) ?_
  refine w_dload_n dJxe99ae_doubleToLongBits_ccdee_0 rfl rfl ?_
  refine wc_S (Z := mJxe99ae_isNaN_b9ae7) (As := [_]) (c_isNaN hx) kJxe99ae_isNaN_b9ae7 lJxe99ae_122 sJxe99ae_isNaN_b9ae7 dJxe99ae_doubleToLongBits_ccdee_1 rfl rfl rfl (Nat.le_of_ble_eq_true rfl) ⟨Nat.le_of_ble_eq_true rfl, Nat.le_of_ble_eq_true rfl⟩ ?_
  refine w_if_ne 12 dJxe99ae_doubleToLongBits_ccdee_4 (by decide) ok32_0 (fun z => absurd rfl z) (fun _ => ?_)
  refine w_dload_n dJxe99ae_doubleToLongBits_ccdee_7 rfl rfl ?_
  refine w_d2l lD2L rfl (Nat.le_of_ble_eq_true rfl) (Nat.le_of_ble_eq_true rfl) dJxe99ae_doubleToLongBits_ccdee_8 ?_
  exact x_lret rfl dJxe99ae_doubleToLongBits_ccdee_11 ⟨rfl, rfl⟩
/-- the sum of the beliefs' sizes -/
def bmN (A : Nat → Int) : Nat → Int
  | 0 => 0
  | b + 1 => bmN A b + szd (A (96 + b))
theorem bmN_rng {A : Nat → Int} (hI : INV A) : ∀ {n : Nat}, n ≤ 48 → 0 ≤ bmN A n ∧ bmN A n ≤ 99 * n
  | 0, _ => by unfold bmN; omega
  | n + 1, h => by
    have ih := bmN_rng hI (n := n) (by omega)
    have h2 := hI.be (k := n) (by omega)
    have h3 : 0 ≤ szd (A (96 + n)) ∧ szd (A (96 + n)) ≤ 99 := by unfold szd; split <;> omega
    unfold bmN
    omega
set_option maxRecDepth 4000 in
theorem c_mean {r : Nat} {A : Nat → Int} {ia : Nat → Nat → Int} {la : Nat → Nat → BitVec 64} {fi : Nat → Int} {fl : Nat → BitVec 64} {h0 : HP} {L R C : Nat} (hT : TOP A L R C) : sp mX10_mean [.ref r] (RH r A ia la fi fl h0) 0 0 (pd (some (.long (lB (mnB (bmN A (L * C)) ((L * C : Nat) : Int))))) (RH r A ia la fi fl h0)) := by
  obtain ⟨hI, hV, hS, h2⟩ := id hT
  obtain ⟨v1, v2, v3, v4, v5, v6, v7⟩ := id hV
  have hLCn := mulLe (a := L) (b := C) (x := 6) (y := 8) (by omega) (by omega)
  have hLC : (L : Int) * C = ((L * C : Nat) : Int) := by push_cast; rfl
  have hpos : 0 < L * C := Nat.mul_pos (by omega) (by omega)
  refine sp_wp rfl (lv := [_, _, _]) rfl (Nat.le_of_ble_eq_true rfl) ?_
  refine w_iconst dX10_mean_0 ?_
  refine w_istore_n (lv' := [_, _, _]) dX10_mean_1 rfl (Nat.le_of_ble_eq_true rfl) rfl rfl ?_
  refine w_iconst dX10_mean_2 ?_
  refine w_istore_n (lv' := [_, _, _]) dX10_mean_3 rfl (Nat.le_of_ble_eq_true rfl) rfl rfl ?_
  have key : ∀ b : Nat, b ≤ L * C → wp mX10_mean 4 [.ref r, .int (zI (bmN A b)), .int (zI (b : Int))] [] (RH r A ia la fi fl h0) 0 0 (pd (some (.long (lB (mnB (bmN A (L * C)) ((L * C : Nat) : Int))))) (RH r A ia la fi fl h0)) := by
    refine up_ind (N := L * C) (fun b hb ih => ?_)
    refine w_iload_n dX10_mean_4 rfl rfl ?_
    refine w_aload_n dX10_mean_5 rfl rfl ?_
    refine wc_V (Z := mX10_bits) (As := []) c_bits RH0 rfl kX10_bits lX10_66 iX10_bits vX10_bits dX10_mean_6 rfl rfl rfl (Nat.le_of_ble_eq_true rfl) ⟨Nat.le_of_ble_eq_true rfl, Nat.le_of_ble_eq_true rfl⟩ ?_
    rw [v1, v3, hLC]
    refine w_icmp_ge 33 dX10_mean_9 (by decide) (by unfold ok32; omega) (by unfold ok32; omega) (fun hn => ?_) (fun hn => ?_)
    · have hbe : b = L * C := by omega
      rw [hbe]
      have hrg := bmN_rng hI (n := L * C) (by omega)
      obtain ⟨sN, hsN⟩ : ∃ sN : Nat, bmN A (L * C) = (sN : Int) := ⟨(bmN A (L * C)).toNat, by omega⟩
      rw [hsN]
      obtain ⟨n1, n2⟩ := mn_nan (s := sN) (n := L * C) (by omega) hpos (by omega)
      refine w_iload_n dX10_mean_33 rfl rfl ?_
      refine w_i2dR dX10_mean_34 ?_
      refine w_aload_n dX10_mean_35 rfl rfl ?_
      refine wc_V (Z := mX10_bits) (As := []) c_bits RH0 rfl kX10_bits lX10_66 iX10_bits vX10_bits dX10_mean_36 rfl rfl rfl (Nat.le_of_ble_eq_true rfl) ⟨Nat.le_of_ble_eq_true rfl, Nat.le_of_ble_eq_true rfl⟩ ?_
      rw [v1, v3, hLC]
      refine w_i2dR dX10_mean_39 ?_
      refine w_ddivR dX10_mean_40 n1 ?_
      refine wc_S (Z := mJxe99ae_doubleToLongBits_ccdee) (As := [_]) (c_d2lb n2) kJxe99ae_doubleToLongBits_ccdee lX10_358 sJxe99ae_doubleToLongBits_ccdee dX10_mean_41 rfl rfl rfl (Nat.le_of_ble_eq_true rfl) ⟨Nat.le_of_ble_eq_true rfl, Nat.le_of_ble_eq_true rfl⟩ ?_
      exact x_lret rfl dX10_mean_44 ⟨rfl, rfl⟩
    · have hhe := hI.be (k := b) (by omega)
      refine w_iload_n dX10_mean_12 rfl rfl ?_
      refine w_aload_n dX10_mean_13 rfl rfl ?_
      refine w_getf fX10_7 dX10_mean_14 RH0 rfl ?_
      refine w_bipush dX10_mean_17 (by decide) ?_
      refine w_iload_n dX10_mean_19 rfl rfl ?_
      refine w_iadd dX10_mean_20 ?_
      refine w_iald (96 + b) RH1 (by omega) (by omega) (by decide) dX10_mean_21 ?_
      refine wc_S (Z := mX10_sized) (As := [_]) (c_sized (by unfold ok32; omega)) kX10_sized lX10_166 sX10_sized dX10_mean_22 rfl rfl rfl (Nat.le_of_ble_eq_true rfl) ⟨Nat.le_of_ble_eq_true rfl, Nat.le_of_ble_eq_true rfl⟩ ?_
      refine w_iadd dX10_mean_25 ?_
      refine w_istore_n (lv' := [_, _, _]) dX10_mean_26 rfl (Nat.le_of_ble_eq_true rfl) rfl rfl ?_
      refine w_iinc (lv' := [_, _, _]) dX10_mean_27 rfl rfl rfl ?_
      refine w_goto 4 dX10_mean_30 (by decide) ?_
      exact ih (by omega)
  exact key 0 (by omega)
theorem c9_quot0 {n : Nat} {h : HP} (h3 : 0 < n) (h4 : n ≤ 48) : sp mX9_quotientBits [.int (zI 0), .int (zI (n : Int))] h 0 0 (pd (some (.long (lB (mnB 0 (n : Int))))) h) := by
  rw [mn_zero h3 h4]
  refine sp_wp rfl (lv := [_, _, _, _, _, _, _, _, _]) rfl (Nat.le_of_ble_eq_true rfl) ?_
  refine w_iload_n dX9_quotientBits_0 rfl rfl ?_
  refine w_if_le 8 dX9_quotientBits_1 (by decide) ok32_0 (fun _ => ?_) (fun z => absurd (Int.le_refl _) z)
  refine w_lconst0 dX9_quotientBits_8 ?_
  exact x_lret rfl dX9_quotientBits_9 ⟨rfl, rfl⟩
set_option maxRecDepth 4000 in
theorem c9_quotP {s n : Nat} {h : HP} (h1 : 0 < s) (h2 : s ≤ 4752) (h3 : 0 < n) (h4 : n ≤ 48) : sp mX9_quotientBits [.int (zI (s : Int)), .int (zI (n : Int))] h 0 0 (pd (some (.long (lB (mnB (s : Int) (n : Int))))) h) := by
  obtain ⟨D, d0, d1, d2⟩ := ex_D h1 h2 h3 h4
  obtain ⟨hD, hm⟩ := mn_pos h1 h2 h3 h4 d0 d1 d2
  have okn : ok32 (n : Int) := by unfold ok32; omega
  have oks : ok32 (s : Int) := by unfold ok32; omega
  have hup : ∀ j, j ≤ D → s * 2 ^ j < n * 2 ^ 53 := fun j hj => by
    have e : 2 ^ D = 2 ^ (D - 1) * 2 := by rw [← Nat.pow_succ]; congr 1; omega
    have hb2 : s * 2 ^ D < n * 2 ^ 53 := by
      rw [e, ← Nat.mul_assoc, show (2 : Nat) ^ 53 = 2 ^ 52 * 2 by decide, ← Nat.mul_assoc]
      exact Nat.mul_lt_mul_of_pos_right d2 (by omega)
    exact Nat.lt_of_le_of_lt (Nat.mul_le_mul_left s (Nat.pow_le_pow_right (by omega) hj)) hb2
  obtain ⟨X, hX⟩ : ∃ X, s * 2 ^ D = X := ⟨_, rfl⟩
  have hXb := hup D (Nat.le_refl _)
  rw [hX] at hXb d1
  obtain ⟨q, hq⟩ : ∃ q, X / n = q := ⟨_, rfl⟩
  obtain ⟨t, ht⟩ : ∃ t, X % n = t := ⟨_, rfl⟩
  have hqI : (X : Int) / (n : Int) = (q : Int) := by rw [← hq]; omega
  have htI : (X : Int) % (n : Int) = (t : Int) := by rw [← ht]; omega
  have htn : t < n := by rw [← ht]; exact Nat.mod_lt _ h3
  have hq2 : q < 2 ^ 53 := by rw [← hq]; exact (Nat.div_lt_iff_lt_mul h3).mpr (by rw [Nat.mul_comm (2 ^ 53) n]; exact hXb)
  have hqb : qbN s n D = (1074 - D) * 2 ^ 52 + (if 2 * t < n then q else if n < 2 * t then q + 1 else q + q % 2) := by
    unfold qbN FP.Core.nearest
    rw [hX, hq, ht]
  have fin : ∀ (N : Nat) (w : Value), (if 2 * t < n then q else if n < 2 * t then q + 1 else q + q % 2) = N → wp mX9_quotientBits 97 [.int (zI (s : Int)), .int (zI (n : Int)), .long (lZ (X : Int)), jk, .int (zI (D : Int)), .long (lZ (N : Int)), jk, w, jk] [] h 0 0 (pd (some (.long (lB (mnB (s : Int) (n : Int))))) h) := by
    intro N w hN
    refine w_sipush dX9_quotientBits_97 (by decide) ?_
    refine w_iload dX9_quotientBits_100 rfl ?_
    refine w_isub dX9_quotientBits_102 ?_
    refine w_i2l (by unfold ok32; omega) dX9_quotientBits_103 ?_
    refine w_bipush dX9_quotientBits_104 (by decide) ?_
    refine w_lshl 52 rfl (by omega) dX9_quotientBits_106 ?_
    refine w_lload dX9_quotientBits_107 rfl ?_
    refine w_ladd dX9_quotientBits_109 ?_
    refine x_lret rfl dX9_quotientBits_110 ⟨?_, rfl⟩
    rw [hm, hqb, hN, lZ_shl, ← BitVec.ofInt_add, ← BitVec.ofInt_natCast]
    congr 4
    omega
  have tail : ∀ w1 w2 w3 w4 : Value, wp mX9_quotientBits 50 [.int (zI (s : Int)), .int (zI (n : Int)), .long (lZ (X : Int)), jk, .int (zI (D : Int)), .int (zI (D : Int)), w1, w2, w3] [] h 0 0 (pd (some (.long (lB (mnB (s : Int) (n : Int))))) h) := by
    intro w1 w2 w3 w4
    have xb : (X : Int) < 2 ^ 63 := by omega
    refine w_lload_n dX9_quotientBits_50 rfl rfl ?_
    refine w_iload_n dX9_quotientBits_51 rfl rfl ?_
    refine w_i2l okn dX9_quotientBits_52 ?_
    refine w_ldivR dX9_quotientBits_53 (lZ_ne (by omega) (by omega)) ?_
    rw [lZ_div (by omega) xb (by omega) (by omega), hqI]
    refine w_lstore (lv' := [_, _, _, _, _, _, _, _, _]) dX9_quotientBits_54 (Nat.le_of_ble_eq_true rfl) rfl rfl ?_
    refine w_ldc2B (BitVec.ofInt 64 2) qX9_382 rfl dX9_quotientBits_56 ?_
    refine w_lload_n dX9_quotientBits_59 rfl rfl ?_
    refine w_iload_n dX9_quotientBits_60 rfl rfl ?_
    refine w_i2l okn dX9_quotientBits_61 ?_
    refine w_lremR dX9_quotientBits_62 (lZ_ne (by omega) (by omega)) ?_
    rw [lZ_rem (by omega) xb (by omega) (by omega), htI]
    refine w_lmulR dX9_quotientBits_63 ?_
    rw [lZ_mul]
    refine w_lstore (lv' := [_, _, _, _, _, _, _, _, _]) dX9_quotientBits_64 (Nat.le_of_ble_eq_true rfl) rfl rfl ?_
    have inc : (if 2 * t < n then q else if n < 2 * t then q + 1 else q + q % 2) = q + 1 → wp mX9_quotientBits 91 [.int (zI (s : Int)), .int (zI (n : Int)), .long (lZ (X : Int)), jk, .int (zI (D : Int)), .long (lZ (q : Int)), jk, .long (lZ (2 * (t : Int))), jk] [] h 0 0 (pd (some (.long (lB (mnB (s : Int) (n : Int))))) h) := by
      intro hN
      refine w_lload dX9_quotientBits_91 rfl ?_
      refine w_lconst1 dX9_quotientBits_93 ?_
      refine w_ladd dX9_quotientBits_94 ?_
      refine w_lstore (lv' := [_, _, _, _, _, _, _, _, _]) dX9_quotientBits_95 (Nat.le_of_ble_eq_true rfl) rfl rfl ?_
      rw [show BitVec.ofInt 64 (q : Int) + 1#64 = BitVec.ofInt 64 ((q + 1 : Nat) : Int) from by rw [show ((q + 1 : Nat) : Int) = (q : Int) + 1 by omega, BitVec.ofInt_add]; rfl]
      exact fin (q + 1) _ hN
    refine w_lload dX9_quotientBits_66 rfl ?_
    refine w_iload_n dX9_quotientBits_68 rfl rfl ?_
    refine w_i2l okn dX9_quotientBits_69 ?_
    refine w_lc_gt 91 dX9_quotientBits_70 dX9_quotientBits_71 (by decide) (fun hc => ?_) (fun hc => ?_)
    · rw [lZ_i (by omega) (by omega), lZ_i (by omega) (by omega)] at hc
      exact inc (by rw [if_neg (by omega), if_pos (by omega)])
    · rw [lZ_i (by omega) (by omega), lZ_i (by omega) (by omega)] at hc
      refine w_lload dX9_quotientBits_74 rfl ?_
      refine w_iload_n dX9_quotientBits_76 rfl rfl ?_
      refine w_i2l okn dX9_quotientBits_77 ?_
      refine w_lc_ne 97 dX9_quotientBits_78 dX9_quotientBits_79 (by decide) (fun he => ?_) (fun he => ?_)
      · refine fin q _ ?_
        have hne : ¬ 2 * t = n := fun e => he (by rw [show (2 : Int) * (t : Int) = (n : Int) by omega])
        rw [if_pos (by omega)]
      · have hee : 2 * t = n := by
          have e1 := congrArg BitVec.toInt he
          rw [lZ_i (by omega) (by omega), lZ_i (by omega) (by omega)] at e1
          omega
        refine w_lload dX9_quotientBits_82 rfl ?_
        refine w_lconst1 dX9_quotientBits_84 ?_
        refine w_land dX9_quotientBits_85 ?_
        refine w_lconst0 dX9_quotientBits_86 ?_
        refine w_lc_eq 97 dX9_quotientBits_87 dX9_quotientBits_88 (by decide) (fun ho => ?_) (fun ho => ?_)
        · have h0 := lZ_odd.mp ho
          exact fin q _ (by rw [if_neg (by omega), if_neg (by omega)]; omega)
        · have h0 : ¬ q % 2 = 0 := fun z => ho (lZ_odd.mpr z)
          exact inc (by rw [if_neg (by omega), if_neg (by omega)]; omega)
  have key : ∀ j, j ≤ D → wp mX9_quotientBits 19 [.int (zI (s : Int)), .int (zI (n : Int)), .long (lZ ((s * 2 ^ j : Nat) : Int)), jk, .int (zI (j : Int)), .int (zI (j : Int)), jk, jk, jk] [] h 0 0 (pd (some (.long (lB (mnB (s : Int) (n : Int))))) h) := by
    refine up_ind (fun j hj ih => ?_)
    have hjb := hup j hj
    have hstop : j = D → wp mX9_quotientBits 50 [.int (zI (s : Int)), .int (zI (n : Int)), .long (lZ ((s * 2 ^ j : Nat) : Int)), jk, .int (zI (j : Int)), .int (zI (j : Int)), jk, jk, jk] [] h 0 0 (pd (some (.long (lB (mnB (s : Int) (n : Int))))) h) := fun e => by
      rw [e, hX]
      exact tail _ _ _ jk
    obtain ⟨Z, hZ⟩ : ∃ Z, s * 2 ^ j = Z := ⟨_, rfl⟩
    have hZn : s * 2 ^ (j + 1) = Z * 2 := by rw [Nat.pow_succ, ← Nat.mul_assoc, hZ]
    have hge : n * 2 ^ 52 ≤ Z ↔ j = D := by
      rw [← hZ]
      constructor
      · intro hle
        refine Nat.le_antisymm hj (Nat.le_of_not_lt fun hlt => ?_)
        have := Nat.mul_le_mul_left s (Nat.pow_le_pow_right (n := 2) (by omega) (show j ≤ D - 1 by omega))
        omega
      · intro e
        rw [e, hX]
        exact d1
    rw [hZ] at hjb hstop ⊢
    refine w_iload dX9_quotientBits_19 rfl ?_
    refine w_bipush dX9_quotientBits_21 (by decide) ?_
    refine w_icmp_ge 50 dX9_quotientBits_23 (by decide) (by unfold ok32; omega) (by unfold ok32; omega) (fun hc => absurd hc (by omega)) (fun _ => ?_)
    refine w_lload_n dX9_quotientBits_26 rfl rfl ?_
    refine w_iload_n dX9_quotientBits_27 rfl rfl ?_
    refine w_i2l okn dX9_quotientBits_28 ?_
    refine w_ldivR dX9_quotientBits_29 (lZ_ne (by omega) (by omega)) ?_
    rw [lZ_div (by omega) (by omega) (by omega) (by omega)]
    refine w_ldc2B (BitVec.ofInt 64 4503599627370496) qX9_380 rfl dX9_quotientBits_30 ?_
    obtain ⟨W, hW⟩ : ∃ W, Z / n = W := ⟨_, rfl⟩
    have hdv : (Z : Int) / (n : Int) = (W : Int) := by rw [← hW]; omega
    have hzn : W < 2 ^ 53 := by rw [← hW]; exact (Nat.div_lt_iff_lt_mul h3).mpr (by rw [Nat.mul_comm (2 ^ 53) n]; exact hjb)
    have hqq : 2 ^ 52 ≤ W ↔ n * 2 ^ 52 ≤ Z := by rw [← hW, Nat.le_div_iff_mul_le h3, Nat.mul_comm]
    rw [hdv]
    refine w_lc_ge 50 dX9_quotientBits_33 dX9_quotientBits_34 (by decide) (fun hc => ?_) (fun hc => ?_)
    · rw [lZ_i (by omega) (by omega), lZ_i (by omega) (by omega)] at hc
      exact hstop (hge.mp (hqq.mp (by omega)))
    · rw [lZ_i (by omega) (by omega), lZ_i (by omega) (by omega)] at hc
      have hjD : ¬ j = D := fun e => by have := hqq.mpr (hge.mpr e); omega
      refine w_lload_n dX9_quotientBits_37 rfl rfl ?_
      refine w_iconst dX9_quotientBits_38 ?_
      refine w_lshl 1 rfl (by omega) dX9_quotientBits_39 ?_
      rw [lZ_shl, show (Z : Int) * ((2 ^ 1 : Nat) : Int) = ((s * 2 ^ (j + 1) : Nat) : Int) by rw [hZn]; omega]
      refine w_lstore_n (lv' := [_, _, _, _, _, _, _, _, _]) dX9_quotientBits_40 rfl (Nat.le_of_ble_eq_true rfl) rfl rfl ?_
      refine w_iinc (lv' := [_, _, _, _, _, _, _, _, _]) dX9_quotientBits_41 rfl rfl rfl ?_
      refine w_iinc (lv' := [_, _, _, _, _, _, _, _, _]) dX9_quotientBits_44 rfl rfl rfl ?_
      refine w_goto 19 dX9_quotientBits_47 (by decide) ?_
      exact ih (by omega)
  refine sp_wp rfl (lv := [_, _, _, _, _, _, _, _, _]) rfl (Nat.le_of_ble_eq_true rfl) ?_
  refine w_iload_n dX9_quotientBits_0 rfl rfl ?_
  refine w_if_le 8 dX9_quotientBits_1 (by decide) oks (fun z => absurd z (by omega)) (fun _ => ?_)
  refine w_iload_n dX9_quotientBits_4 rfl rfl ?_
  refine w_if_gt 10 dX9_quotientBits_5 (by decide) okn (fun _ => ?_) (fun z => absurd (show (0 : Int) < (n : Int) by omega) z)
  refine w_iload_n dX9_quotientBits_10 rfl rfl ?_
  refine w_i2l oks dX9_quotientBits_11 ?_
  refine w_lstore_n (lv' := [_, _, _, _, _, _, _, _, _]) dX9_quotientBits_12 rfl (Nat.le_of_ble_eq_true rfl) rfl rfl ?_
  refine w_iconst dX9_quotientBits_13 ?_
  refine w_istore (lv' := [_, _, _, _, _, _, _, _, _]) dX9_quotientBits_14 (Nat.le_of_ble_eq_true rfl) rfl rfl ?_
  refine w_iconst dX9_quotientBits_16 ?_
  refine w_istore (lv' := [_, _, _, _, _, _, _, _, _]) dX9_quotientBits_17 (Nat.le_of_ble_eq_true rfl) rfl rfl ?_
  have k0 := key 0 (by omega)
  rw [Nat.pow_zero, Nat.mul_one] at k0
  exact k0
theorem c9_quot {s n : Nat} {h : HP} (h2 : s ≤ 4752) (h3 : 0 < n) (h4 : n ≤ 48) : sp mX9_quotientBits [.int (zI (s : Int)), .int (zI (n : Int))] h 0 0 (pd (some (.long (lB (mnB (s : Int) (n : Int))))) h) := by
  by_cases h1 : s = 0
  · subst h1; exact c9_quot0 h3 h4
  · exact c9_quotP (by omega) h2 h3 h4
set_option maxRecDepth 4000 in
theorem x_mean {o c : Nat} {sa : Nat → Nat → Int} {si : Nat → Int} {sl : Nat → BitVec 64} {h : HP} {A : Nat → Int} {L R C : Nat} (hX : VX h o c sa si sl A L R C) : sp mX9_mean [.ref o] h 0 0 (pd (some (.long (lB (mnB (bmN A (L * C)) ((L * C : Nat) : Int))))) h) := by
  obtain ⟨o_o, ⟨nh, o_h⟩, hS, hR, hQ, hT⟩ := id hX
  have o_n : h.2 (o + 8 + 4) = some (.inr (7, sfs (o + 8 + 4) c si sl)) := hS 0 (by omega)
  have r_b : h.2 (o + 8 + 4 + 2) = some (aI 48 (sa 2)) := hS 2 (by omega)
  obtain ⟨ad, f7, f8, f10, f9, f11, rk, cr, hV, h6, h7, o_c, -⟩ := id hQ
  obtain ⟨v1, v2, v3, v4, v5, v6, v7⟩ := id hV
  obtain ⟨hI, -, hSN, hA2⟩ := id hT
  obtain ⟨-, -, -, b1, b2, -⟩ := id hR
  have hLC := mulLe (a := L) (b := C) (x := 6) (y := 8) (by omega) (by omega)
  have hLCi : (L : Int) * C = ((L * C : Nat) : Int) := by push_cast; rfl
  have hpos : 0 < L * C := Nat.mul_pos (by omega) (by omega)
  have key : ∀ b : Nat, b ≤ L * C → wp mX9_mean 4 [.ref o, .int (zI (bmN A b)), .int (zI (b : Int))] [] h 0 0 (pd (some (.long (lB (mnB (bmN A (L * C)) ((L * C : Nat) : Int))))) h) := by
    refine up_ind (N := L * C) (fun b hb ih => ?_)
    refine w_iload_n dX9_mean_4 rfl rfl ?_
    refine w_aload_n dX9_mean_5 rfl rfl ?_
    refine w_getf fX9_19 dX9_mean_6 o_o rfl ?_
    refine w_getf fX9_89 dX9_mean_9 o_h rfl ?_
    refine w_getf fX9_98 dX9_mean_12 o_n rfl ?_
    refine w_getf fX9_95 dX9_mean_15 o_c rfl ?_
    refine w_icmp_ge 45 dX9_mean_18 (by decide) (by unfold ok32; omega) (by unfold ok32; omega) (fun hn => ?_) (fun hn => ?_)
    · have hbe : b = L * C := by omega
      rw [hbe]
      have hrg := bmN_rng hI (n := L * C) (by omega)
      obtain ⟨sN, hsN⟩ : ∃ sN : Nat, bmN A (L * C) = (sN : Int) := ⟨(bmN A (L * C)).toNat, by omega⟩
      rw [hsN]
      refine w_iload_n dX9_mean_45 rfl rfl ?_
      refine w_aload_n dX9_mean_46 rfl rfl ?_
      refine w_getf fX9_19 dX9_mean_47 o_o rfl ?_
      refine w_getf fX9_89 dX9_mean_50 o_h rfl ?_
      refine w_getf fX9_98 dX9_mean_53 o_n rfl ?_
      refine w_getf fX9_95 dX9_mean_56 o_c rfl ?_
      refine wc_S (Z := mX9_quotientBits) (As := [_, _]) (c9_quot (s := sN) (n := L * C) (by omega) hpos (by omega)) kX9_quotientBits lX9_361 sX9_quotientBits dX9_mean_59 rfl rfl rfl (Nat.le_of_ble_eq_true rfl) ⟨Nat.le_of_ble_eq_true rfl, Nat.le_of_ble_eq_true rfl⟩ ?_
      exact x_lret rfl dX9_mean_62 ⟨rfl, rfl⟩
    · have hhe := hI.be (k := b) (by omega)
      refine w_iload_n dX9_mean_21 rfl rfl ?_
      refine w_aload_n dX9_mean_22 rfl rfl ?_
      refine w_getf fX9_19 dX9_mean_23 o_o rfl ?_
      refine w_getf fX9_89 dX9_mean_26 o_h rfl ?_
      refine w_getf fX9_226 dX9_mean_29 o_n rfl ?_
      refine w_iload_n dX9_mean_32 rfl rfl ?_
      refine w_iald b r_b rfl (by omega) (by decide) dX9_mean_33 ?_
      rw [b2 b (by omega)]
      refine w_mabs lX9_358 sJ9_abs_0f7a4 kJ9_abs_0f7a4.2.1 kJ9_abs_0f7a4.1 (by unfold ok32; omega) rfl (Nat.le_of_ble_eq_true rfl) (Nat.le_of_ble_eq_true rfl) dX9_mean_34 ?_
      refine w_iadd dX9_mean_37 ?_
      refine w_istore_n (lv' := [_, _, _]) dX9_mean_38 rfl (Nat.le_of_ble_eq_true rfl) rfl rfl ?_
      refine w_iinc (lv' := [_, _, _]) dX9_mean_39 rfl rfl rfl ?_
      refine w_goto 4 dX9_mean_42 (by decide) ?_
      exact ih (by omega)
  refine sp_wp rfl (lv := [_, _, _]) rfl (Nat.le_of_ble_eq_true rfl) ?_
  refine w_iconst dX9_mean_0 ?_
  refine w_istore_n (lv' := [_, _, _]) dX9_mean_1 rfl (Nat.le_of_ble_eq_true rfl) rfl rfl ?_
  refine w_iconst dX9_mean_2 ?_
  refine w_istore_n (lv' := [_, _, _]) dX9_mean_3 rfl (Nat.le_of_ble_eq_true rfl) rfl rfl ?_
  exact key 0 (by omega)

