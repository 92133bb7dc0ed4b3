/-! a code is laid -/
theorem cset_bit {sh : Nat → Int} {L c b : Nat} : ∀ {C : Nat}, (∀ j, j < C → bitN sh L c j < 64 ∧ -1 ≤ bitN sh L c j) → ((csetN sh L c C).getLsbD b = true ↔ ∃ j, j < C ∧ bitN sh L c j = (b : Int))
  | 0, _ => by
    show (0#64).getLsbD b = true ↔ _
    exact ⟨fun h => by simp at h, fun ⟨j, hj, _⟩ => absurd hj (Nat.not_lt_zero _)⟩
  | C + 1, h => by
    have ih := cset_bit (b := b) (C := C) (fun j hj => h j (by omega))
    have hC := h C (by omega)
    unfold csetN
    by_cases h0 : bitN sh L c C = -1
    · rw [if_pos h0, ih]
      constructor
      · rintro ⟨j, a, e⟩; exact ⟨j, by omega, e⟩
      · rintro ⟨j, a, e⟩
        refine ⟨j, ?_, e⟩
        by_cases hj : j = C
        · rw [hj, h0] at e; omega
        · omega
    · rw [if_neg h0, BitVec.getLsbD_or, Bool.or_eq_true, ih, bit1o (by omega)]
      constructor
      · rintro (⟨j, a, e⟩ | e)
        · exact ⟨j, by omega, e⟩
        · have := of_decide_eq_true e
          exact ⟨C, by omega, by omega⟩
      · rintro ⟨j, a, e⟩
        by_cases hj : j = C
        · right
          rw [hj] at e
          rw [e]
          simp
        · exact Or.inl ⟨j, by omega, e⟩
theorem hgB_bit {c : Nat → BitVec 64} {b i : Nat} : ∀ {n : Nat}, n ≤ 32 → ((hgB c b n).getLsbD i = true ↔ i < n ∧ (c i).getLsbD b = true)
  | 0, _ => by
    show (0#32).getLsbD i = true ↔ _
    exact ⟨fun h => by simp at h, fun h => absurd h.1 (Nat.not_lt_zero _)⟩
  | n + 1, hn => by
    have ih := hgB_bit (c := c) (b := b) (i := i) (n := n) (by omega)
    have hb : (1#32 <<< n).getLsbD i = decide (i = n) := by
      by_cases hi : i < 32
      · exact bit32 (by omega) hi
      · rw [BitVec.getLsbD_of_ge _ _ (by omega)]
        simp
        omega
    unfold hgB
    by_cases h : (c n).getLsbD b = true
    · rw [if_pos h, BitVec.getLsbD_or, Bool.or_eq_true, ih, hb]
      constructor
      · rintro (q | q)
        · exact ⟨by omega, q.2⟩
        · have := of_decide_eq_true q
          subst this
          exact ⟨by omega, h⟩
      · rintro ⟨q1, q2⟩
        by_cases hin : i = n
        · right; simp [hin]
        · exact Or.inl ⟨by omega, q2⟩
    · rw [if_neg h, ih]
      constructor
      · rintro ⟨q1, q2⟩; exact ⟨by omega, q2⟩
      · rintro ⟨q1, q2⟩
        refine ⟨?_, q2⟩
        by_cases hin : i = n
        · rw [hin] at q2; exact absurd q2 h
        · omega
def LAYP (sh : Nat → Int) (L R C : Nat) (p : Nat → Nat → Prop) (E : Nat → Int) (F : Nat → BitVec 64) (G : Nat → BitVec 32) : Prop := (∀ c, c < L * R → ∀ j, j < C → (p c j → E (8 * c + j) = bitN sh L c j) ∧ (¬ p c j → E (8 * c + j) = -1)) ∧ (∀ c, c < L * R → ∀ b, (F c).getLsbD b = true ↔ ∃ j, j < C ∧ p c j ∧ bitN sh L c j = (b : Int)) ∧ ∀ b, b < L * C → ∀ c, (G b).getLsbD c = true ↔ c < L * R ∧ ∃ j, j < C ∧ p c j ∧ bitN sh L c j = (b : Int)
theorem LAYP.c {sh : Nat → Int} {L R C : Nat} {p p' : Nat → Nat → Prop} {E : Nat → Int} {F : Nat → BitVec 64} {G : Nat → BitVec 32} (h : LAYP sh L R C p E F G) (hp : ∀ c, c < L * R → ∀ j, j < C → (p' c j ↔ p c j)) : LAYP sh L R C p' E F G := by
  refine ⟨fun c hc j hj => ⟨fun q => (h.1 c hc j hj).1 ((hp c hc j hj).mp q), fun q => (h.1 c hc j hj).2 (fun z => q ((hp c hc j hj).mpr z))⟩, fun c hc b => ?_, fun b hb c => ?_⟩
  · rw [h.2.1 c hc b]
    exact ⟨fun ⟨j, a, d, e⟩ => ⟨j, a, (hp c hc j a).mpr d, e⟩, fun ⟨j, a, d, e⟩ => ⟨j, a, (hp c hc j a).mp d, e⟩⟩
  · rw [h.2.2 b hb c]
    exact ⟨fun ⟨hc, j, a, d, e⟩ => ⟨hc, j, a, (hp c hc j a).mpr d, e⟩, fun ⟨hc, j, a, d, e⟩ => ⟨hc, j, a, (hp c hc j a).mp d, e⟩⟩
theorem LAYP.none {sh : Nat → Int} {L R C : Nat} {p p' : Nat → Nat → Prop} {E : Nat → Int} {F : Nat → BitVec 64} {G : Nat → BitVec 32} (h : LAYP sh L R C p E F G) (hp : ∀ c, c < L * R → ∀ j, j < C → (p' c j ↔ p c j) ∨ bitN sh L c j = -1) : LAYP sh L R C p' E F G := by
  refine ⟨fun c hc j hj => ?_, fun c hc b => ?_, fun b hb c => ?_⟩
  · rcases hp c hc j hj with q | q
    · exact ⟨fun z => (h.1 c hc j hj).1 (q.mp z), fun z => (h.1 c hc j hj).2 (fun y => z (q.mpr y))⟩
    · have : E (8 * c + j) = -1 := by
        by_cases hpj : p c j
        · rw [(h.1 c hc j hj).1 hpj, q]
        · exact (h.1 c hc j hj).2 hpj
      exact ⟨fun _ => by rw [this, q], fun _ => this⟩
  · rw [h.2.1 c hc b]
    constructor
    · rintro ⟨j, a, d, e⟩
      rcases hp c hc j a with q | q
      · exact ⟨j, a, q.mpr d, e⟩
      · rw [q] at e; omega
    · rintro ⟨j, a, d, e⟩
      rcases hp c hc j a with q | q
      · exact ⟨j, a, q.mp d, e⟩
      · rw [q] at e; omega
  · rw [h.2.2 b hb c]
    constructor
    · rintro ⟨hc, j, a, d, e⟩
      rcases hp c hc j a with q | q
      · exact ⟨hc, j, a, q.mpr d, e⟩
      · rw [q] at e; omega
    · rintro ⟨hc, j, a, d, e⟩
      rcases hp c hc j a with q | q
      · exact ⟨hc, j, a, q.mp d, e⟩
      · rw [q] at e; omega
theorem LAYP.put {sh : Nat → Int} {L R C c0 j0 t : Nat} {p : Nat → Nat → Prop} {E : Nat → Int} {F : Nat → BitVec 64} {G : Nat → BitVec 32} (h : LAYP sh L R C p E F G) (hc0 : c0 < L * R) (hR : L * R ≤ 24) (hj0 : j0 < C) (hC8 : C ≤ 8) (ht : t < 64) (hb : bitN sh L c0 j0 = (t : Int)) : LAYP sh L R C (fun c j => p c j ∨ (c = c0 ∧ j = j0)) (u1 E (8 * c0 + j0) (t : Int)) (u1 F c0 (F c0 ||| (1#64 <<< t))) (u1 G t (G t ||| (1#32 <<< c0))) := by
  refine ⟨fun c hc j hj => ?_, fun c hc b => ?_, fun b hb' c => ?_⟩
  · by_cases he : c = c0 ∧ j = j0
    · rw [he.1, he.2, u1_s, hb]
      exact ⟨fun _ => rfl, fun q => absurd (Or.inr ⟨rfl, rfl⟩) q⟩
    · rw [u1_n (by omega)]
      exact ⟨fun q => (h.1 c hc j hj).1 (q.elim id (fun z => absurd z he)), fun q => (h.1 c hc j hj).2 (fun z => q (Or.inl z))⟩
  · by_cases hcc : c = c0
    · subst hcc
      rw [u1_s, BitVec.getLsbD_or, Bool.or_eq_true, h.2.1 c hc b, bit1o ht]
      constructor
      · rintro (⟨j, a, d, e⟩ | e)
        · exact ⟨j, a, Or.inl d, e⟩
        · exact ⟨j0, hj0, Or.inr ⟨rfl, rfl⟩, by rw [hb, of_decide_eq_true e]⟩
      · rintro ⟨j, a, d | d, e⟩
        · exact Or.inl ⟨j, a, d, e⟩
        · right
          rw [d.2, hb] at e
          simp
          omega
    · rw [u1_n hcc, h.2.1 c hc b]
      exact ⟨fun ⟨j, a, d, e⟩ => ⟨j, a, Or.inl d, e⟩, fun ⟨j, a, d, e⟩ => ⟨j, a, d.elim id (fun z => absurd z.1 hcc), e⟩⟩
  · have hb32 : (1#32 <<< c0).getLsbD c = decide (c = c0) := by
      by_cases hi : c < 32
      · exact bit32 (by omega) hi
      · rw [BitVec.getLsbD_of_ge _ _ (by omega)]
        simp
        omega
    by_cases hbt : b = t
    · subst hbt
      rw [u1_s, BitVec.getLsbD_or, Bool.or_eq_true, h.2.2 b hb' c, hb32]
      constructor
      · rintro (⟨hc, j, a, d, e⟩ | e)
        · exact ⟨hc, j, a, Or.inl d, e⟩
        · have := of_decide_eq_true e
          subst this
          exact ⟨hc0, j0, hj0, Or.inr ⟨rfl, rfl⟩, hb⟩
      · rintro ⟨hc, j, a, d | d, e⟩
        · exact Or.inl ⟨hc, j, a, d, e⟩
        · right; simp [d.1]
    · rw [u1_n hbt, h.2.2 b hb' c]
      constructor
      · rintro ⟨hc, j, a, d, e⟩; exact ⟨hc, j, a, Or.inl d, e⟩
      · rintro ⟨hc, j, a, d | d, e⟩
        · exact ⟨hc, j, a, d, e⟩
        · rw [d.1, d.2, hb] at e
          exact absurd (by omega) hbt
def lfs (L R C : Nat) (o m : Int) (s n0 : Nat) : List Value := [.int (zI (L : Int)), .int (zI (R : Int)), .int (zI (C : Int)), .int (zI o), .int (zI m), .int (zI ((L * C : Nat) : Int)), .int (zI ((L * R : Nat) : Int)), .ref s, .ref (n0 + 0), .ref (n0 + 1), .ref (n0 + 2), .null, .int 0, .long 0, .null]
def lar (E : Nat → Int) (F : Nat → BitVec 64) (G : Nat → BitVec 32) : Nat → CE := fun j => match j with
  | 0 => aI 192 E
  | 1 => aL 24 F
  | _ => aI 48 (fun b => (G b).toInt)
theorem lar0 {E E' : Nat → Int} {F : Nat → BitVec 64} {G : Nat → BitVec 32} : u1 (lar E F G) 0 (aI 192 E') = lar E' F G := funext fun j => match j with
  | 0 => rfl
  | 1 => rfl
  | _ + 2 => rfl
theorem lar1 {E : Nat → Int} {F F' : Nat → BitVec 64} {G : Nat → BitVec 32} : u1 (lar E F G) 1 (aL 24 F') = lar E F' G := funext fun j => match j with
  | 0 => rfl
  | 1 => rfl
  | _ + 2 => rfl
theorem NB_ar {a ci : Nat} {fs : List Value} {n0 : Nat} {ar ar' : Nat → CE} {n : Nat} {h0 : HP} (h : ∀ j, j < n → ar j = ar' j) : NB a ci fs n0 ar n h0 = NB a ci fs n0 ar' n h0 := by
  refine Prod.ext rfl (funext fun x => ?_)
  show (if x = a then _ else if n0 ≤ x ∧ x < n0 + n then some (ar (x - n0)) else h0.2 x) = (if x = a then _ else if n0 ≤ x ∧ x < n0 + n then some (ar' (x - n0)) else h0.2 x)
  by_cases h1 : x = a
  · rw [if_pos h1, if_pos h1]
  · rw [if_neg h1, if_neg h1]
    by_cases h2 : n0 ≤ x ∧ x < n0 + n
    · rw [if_pos h2, if_pos h2, h (x - n0) (by omega)]
    · rw [if_neg h2, if_neg h2]
theorem modL {L i : Nat} {v : Int} (hL : 1 ≤ L ∧ L ≤ 6) (hi : i < L) (hv : 0 ≤ v ∧ v < (L : Int)) : ((i : Int) + v) % (L : Int) = if (i : Int) + v < (L : Int) then (i : Int) + v else (i : Int) + v - (L : Int) := by
  rcases (show L = 1 ∨ L = 2 ∨ L = 3 ∨ L = 4 ∨ L = 5 ∨ L = 6 by omega) with e | e | e | e | e | e <;> subst e <;> split <;> omega
abbrev TL3 : Type := (Nat → Int) × (Nat → BitVec 64) × (Nat → BitVec 32)
set_option maxRecDepth 8000 in
theorem c2_lay {a s n0 : Nat} {h0 : HP} {f7 : Nat → Int} {L R C r j : Nat} {o m : Int} {p : Nat → Nat → Prop} {E : Nat → Int} {F : Nat → BitVec 64} {G : Nat → BitVec 32} (ha : a < n0) (hs : s < n0) (hsa : s ≠ a) (hS : h0.2 s = some (aI 32 f7)) (hL : 1 ≤ L ∧ L ≤ 6) (hR : 1 ≤ R ∧ R ≤ 4) (hC : 1 ≤ C ∧ C ≤ 8) (hr : r < R) (hj : j < C) (hsh : ∀ i, i < R → ∀ k, k < C → -1 ≤ f7 (8 * i + k) ∧ f7 (8 * i + k) < (L : Int)) (hP : LAYP f7 L R C p E F G) : sp mX2_lay [.ref a, .int (zI (r : Int)), .int (zI (j : Int))] (NB a 2 (lfs L R C o m s n0) n0 (lar E F G) 3 h0) 0 0 (px none (fun x : TL3 => LAYP f7 L R C (fun c k => p c k ∨ (c / L = r ∧ k = j)) x.1 x.2.1 x.2.2) (fun x => NB a 2 (lfs L R C o m s n0) n0 (lar x.1 x.2.1 x.2.2) 3 h0)) := by
  have hLC := mulLe (a := L) (b := C) (x := 6) (y := 8) (by omega) (by omega)
  have hLR := mulLe (a := L) (b := R) (x := 6) (y := 4) (by omega) (by omega)
  have r_s : ∀ {E : Nat → Int} {F : Nat → BitVec 64} {G : Nat → BitVec 32}, (NB a 2 (lfs L R C o m s n0) n0 (lar E F G) 3 h0).2 s = some (aI 32 f7) := (NB_n hsa (by omega)).trans hS
  have hv := hsh r hr j hj
  refine sp_wp rfl (lv := [_, _, _, _, _, _, _, _]) rfl (Nat.le_of_ble_eq_true rfl) ?_
  refine w_aload_n dX2_lay_0 rfl rfl ?_
  refine w_getf fX2_27 dX2_lay_1 NB_o rfl ?_
  refine w_iload_n dX2_lay_4 rfl rfl ?_
  refine w_bipush dX2_lay_5 (by decide) ?_
  refine w_imul dX2_lay_7 ?_
  refine w_iload_n dX2_lay_8 rfl rfl ?_
  refine w_iadd dX2_lay_9 ?_
  refine w_iald (8 * r + j) r_s (by first | rfl | omega | (push_cast; rfl) | (push_cast; omega)) (by omega) (by decide) dX2_lay_10 ?_
  obtain ⟨v, hvv⟩ : ∃ v, f7 (8 * r + j) = v := ⟨_, rfl⟩
  rw [hvv] at hv ⊢
  refine w_istore_n (lv' := [_, _, _, _, _, _, _, _]) dX2_lay_11 rfl (Nat.le_of_ble_eq_true rfl) rfl rfl ?_
  refine w_iload_n dX2_lay_12 rfl rfl ?_
  refine w_if_ge 17 dX2_lay_13 (by decide) (by first | assumption | (unfold ok32 at *; omega)) (fun h1 => ?_) (fun h1 => ?_)
  rotate_left
  · refine x_vret rfl dX2_lay_16 ⟨rfl, (E, F, G), hP.none (fun c hc k hk => ?_), rfl⟩
    by_cases he : c / L = r ∧ k = j
    · right
      unfold bitN
      rw [he.1, he.2, hvv, if_pos (by omega)]
    · left
      exact ⟨fun q => q.elim id (fun z => absurd z he), Or.inl⟩
  · refine w_iconst dX2_lay_17 ?_
    refine w_istore (lv' := [_, _, _, _, _, _, _, _]) dX2_lay_18 (Nat.le_of_ble_eq_true rfl) rfl rfl ?_
    have key : ∀ i, i ≤ L → ∀ (E : Nat → Int) (F : Nat → BitVec 64) (G : Nat → BitVec 32) (x5 x6 x7 : Value), LAYP f7 L R C (fun c k => p c k ∨ (c / L = r ∧ k = j ∧ c % L < i)) E F G → wp mX2_lay 20 [.ref a, .int (zI (r : Int)), .int (zI (j : Int)), .int (zI v), .int (zI (i : Int)), x5, x6, x7] [] (NB a 2 (lfs L R C o m s n0) n0 (lar E F G) 3 h0) 0 0 (px none (fun x : TL3 => LAYP f7 L R C (fun c k => p c k ∨ (c / L = r ∧ k = j)) x.1 x.2.1 x.2.2) (fun x => NB a 2 (lfs L R C o m s n0) n0 (lar x.1 x.2.1 x.2.2) 3 h0)) := by
      refine up_ind (P := fun i => ∀ (E : Nat → Int) (F : Nat → BitVec 64) (G : Nat → BitVec 32) (x5 x6 x7 : Value), LAYP f7 L R C (fun c k => p c k ∨ (c / L = r ∧ k = j ∧ c % L < i)) E F G → wp mX2_lay 20 [.ref a, .int (zI (r : Int)), .int (zI (j : Int)), .int (zI v), .int (zI (i : Int)), x5, x6, x7] [] (NB a 2 (lfs L R C o m s n0) n0 (lar E F G) 3 h0) 0 0 (px none (fun x : TL3 => LAYP f7 L R C (fun c k => p c k ∨ (c / L = r ∧ k = j)) x.1 x.2.1 x.2.2) (fun x => NB a 2 (lfs L R C o m s n0) n0 (lar x.1 x.2.1 x.2.2) 3 h0))) (fun i hi ih E F G x5 x6 x7 hP => ?_)
      refine w_iload dX2_lay_20 rfl ?_
      refine w_aload_n dX2_lay_22 rfl rfl ?_
      refine w_getf fX2_9 dX2_lay_23 NB_o rfl ?_
      refine w_icmp_ge 128 dX2_lay_26 (by decide) (by first | assumption | (unfold ok32 at *; omega)) (by first | assumption | (unfold ok32 at *; omega)) (fun hc => ?_) (fun hc => ?_)
      · refine x_vret rfl dX2_lay_128 ⟨rfl, (E, F, G), hP.c (fun c hc' k hk => ?_), rfl⟩
        have := Nat.mod_lt c (show 0 < L by omega)
        constructor
        · rintro (q | q)
          · exact Or.inl q
          · exact Or.inr ⟨q.1, q.2, by omega⟩
        · rintro (q | q)
          · exact Or.inl q
          · exact Or.inr ⟨q.1, q.2.1⟩
      · have hiL : i < L := by omega
        obtain ⟨c0, hc0⟩ : ∃ c0, L * r + i = c0 := ⟨_, rfl⟩
        have hc0R : c0 < L * R := by rw [← hc0]; exact layLt hr hiL
        have hdiv : c0 / L = r := by rw [← hc0, Nat.mul_add_div (by omega), Nat.div_eq_of_lt hiL]; omega
        have hmod : c0 % L = i := by rw [← hc0, Nat.mul_add_mod, Nat.mod_eq_of_lt hiL]
        obtain ⟨tt, htt⟩ : ∃ tt : Int, ((i : Int) + v) % (L : Int) = tt := ⟨_, rfl⟩
        have htr : 0 ≤ tt ∧ tt < (L : Int) := by rw [← htt]; exact ⟨Int.emod_nonneg _ (by omega), Int.emod_lt_of_pos _ (by omega)⟩
        have hbit : bitN f7 L c0 j = (L : Int) * j + tt := by
          unfold bitN
          rw [hdiv, hmod, hvv, if_neg (by omega), htt]
        obtain ⟨t, htn⟩ : ∃ t : Nat, (L : Int) * j + tt = (t : Int) := ⟨((L : Int) * j + tt).toNat, by
          have : 0 ≤ (L : Int) * j := by exact_mod_cast Nat.zero_le (L * j)
          omega⟩
        have htC : t < L * C := by
          have h2 := bitN_le (sh := f7) (c := c0) (j := j) hL hj hC.2 (by rw [hdiv, hvv]; omega)
          rw [hbit, htn] at h2
          exact_mod_cast h2.2.1
        rw [htn] at hbit
        have hput := hP.put hc0R (by omega) hj hC.2 (show t < 64 by omega) hbit
        have fin : ∀ v5 : Value, wp mX2_lay 56 [.ref a, .int (zI (r : Int)), .int (zI (j : Int)), .int (zI v), .int (zI (i : Int)), v5, x6, x7] [.int (zI tt)] (NB a 2 (lfs L R C o m s n0) n0 (lar E F G) 3 h0) 0 0 (px none (fun x : TL3 => LAYP f7 L R C (fun c k => p c k ∨ (c / L = r ∧ k = j)) x.1 x.2.1 x.2.2) (fun x => NB a 2 (lfs L R C o m s n0) n0 (lar x.1 x.2.1 x.2.2) 3 h0)) := by
          intro v5
          refine w_istore (lv' := [_, _, _, _, _, _, _, _]) dX2_lay_56 (Nat.le_of_ble_eq_true rfl) rfl rfl ?_
          refine w_iload_n dX2_lay_58 rfl rfl ?_
          refine w_aload_n dX2_lay_59 rfl rfl ?_
          refine w_getf fX2_9 dX2_lay_60 NB_o rfl ?_
          refine w_imul dX2_lay_63 ?_
          refine w_iload dX2_lay_64 rfl ?_
          refine w_iadd dX2_lay_66 ?_
          rw [show (j : Int) * (L : Int) + tt = (t : Int) by rw [Int.mul_comm]; exact htn]
          refine w_istore (lv' := [_, _, _, _, _, _, _, _]) dX2_lay_67 (Nat.le_of_ble_eq_true rfl) rfl rfl ?_
          refine w_iload_n dX2_lay_69 rfl rfl ?_
          refine w_aload_n dX2_lay_70 rfl rfl ?_
          refine w_getf fX2_9 dX2_lay_71 NB_o rfl ?_
          refine w_imul dX2_lay_74 ?_
          refine w_iload dX2_lay_75 rfl ?_
          refine w_iadd dX2_lay_77 ?_
          rw [show (r : Int) * (L : Int) + (i : Int) = (c0 : Int) by rw [← hc0, Int.mul_comm]; push_cast; rfl]
          refine w_istore (lv' := [_, _, _, _, _, _, _, _]) dX2_lay_78 (Nat.le_of_ble_eq_true rfl) rfl rfl ?_
          refine w_aload_n dX2_lay_80 rfl rfl ?_
          refine w_getf fX2_37 dX2_lay_81 NB_o rfl ?_
          refine w_iload dX2_lay_84 rfl ?_
          refine w_bipush dX2_lay_86 (by decide) ?_
          refine w_imul dX2_lay_88 ?_
          refine w_iload_n dX2_lay_89 rfl rfl ?_
          refine w_iadd dX2_lay_90 ?_
          refine w_iload dX2_lay_91 rfl ?_
          refine w_iast (8 * c0 + j) (NB_c 0 ha (by omega)) (by omega) (by omega) (by decide) dX2_lay_93 ?_
          refine w_cast rfl rfl (NB_uc (j := 0) ha (by omega)) ?_
          rw [lar0]
          refine w_aload_n dX2_lay_94 rfl rfl ?_
          refine w_getf fX2_40 dX2_lay_95 NB_o rfl ?_
          refine w_iload dX2_lay_98 rfl ?_
          refine w_dup2 dX2_lay_100 rfl rfl ?_
          refine w_lald c0 (NB_c 1 ha (by omega)) rfl (by omega) (by decide) dX2_lay_101 ?_
          refine w_lconst1 dX2_lay_102 ?_
          refine w_iload dX2_lay_103 rfl ?_
          refine w_lshl t rfl (by omega) dX2_lay_105 ?_
          refine w_lor dX2_lay_106 ?_
          refine w_last c0 (NB_c 1 ha (by omega)) rfl (by omega) (by decide) dX2_lay_107 ?_
          refine w_cast rfl rfl (NB_uc (j := 1) ha (by omega)) ?_
          rw [lar1]
          refine w_aload_n dX2_lay_108 rfl rfl ?_
          refine w_getf fX2_44 dX2_lay_109 NB_o rfl ?_
          refine w_iload dX2_lay_112 rfl ?_
          refine w_dup2 dX2_lay_114 rfl rfl ?_
          refine w_iald t (NB_c 2 ha (by omega)) rfl (by omega) (by decide) dX2_lay_115 ?_
          refine w_iconst dX2_lay_116 ?_
          refine w_iload dX2_lay_117 rfl ?_
          refine w_ishlR dX2_lay_119 ?_
          rw [iB_one (show c0 < 31 by omega), zI_iB]
          refine w_iorR dX2_lay_120 ?_
          rw [iB_or, ← zI_iB]
          refine w_iast t (NB_c 2 ha (by omega)) rfl (by omega) (by decide) dX2_lay_121 ?_
          refine w_cast rfl rfl (NB_uc (j := 2) ha (by omega)) ?_
          refine w_iinc (lv' := [_, _, _, _, _, _, _, _]) dX2_lay_122 rfl rfl rfl ?_
          refine w_goto 20 dX2_lay_125 (by decide) ?_
          refine w_cast rfl rfl (NB_ar (ar' := lar (u1 E (8 * c0 + j) (t : Int)) (u1 F c0 (F c0 ||| (1#64 <<< t))) (u1 G t (G t ||| (1#32 <<< c0)))) (fun k hk => ?_)) (ih hiL _ _ _ _ _ _ (hput.c (fun c hc' k hk => ?_)))
          · match k, hk with
            | 0, _ => rfl
            | 1, _ => rfl
            | 2, _ =>
              show aI 48 _ = aI 48 _
              congr 1
              funext b
              unfold u1
              split <;> rfl
            | k + 3, hk => omega
          · have := Nat.div_add_mod c L
            constructor
            · rintro (q | ⟨q1, q2, q3⟩)
              · exact Or.inl (Or.inl q)
              · by_cases h5 : c % L = i
                · right
                  refine ⟨?_, q2⟩
                  rw [q1, h5] at this
                  omega
                · exact Or.inl (Or.inr ⟨q1, q2, by omega⟩)
            · rintro ((q | q) | q)
              · exact Or.inl q
              · exact Or.inr ⟨q.1, q.2.1, by omega⟩
              · exact Or.inr ⟨by rw [q.1]; exact hdiv, q.2, by rw [q.1, hmod]; omega⟩
        refine w_iload dX2_lay_29 rfl ?_
        refine w_iload_n dX2_lay_31 rfl rfl ?_
        refine w_iadd dX2_lay_32 ?_
        refine w_aload_n dX2_lay_33 rfl rfl ?_
        refine w_getf fX2_9 dX2_lay_34 NB_o rfl ?_
        refine w_icmp_ge 47 dX2_lay_37 (by decide) (by first | assumption | (unfold ok32 at *; omega)) (by first | assumption | (unfold ok32 at *; omega)) (fun hge => ?_) (fun hge => ?_)
        · refine w_iload dX2_lay_47 rfl ?_
          refine w_iload_n dX2_lay_49 rfl rfl ?_
          refine w_iadd dX2_lay_50 ?_
          refine w_aload_n dX2_lay_51 rfl rfl ?_
          refine w_getf fX2_9 dX2_lay_52 NB_o rfl ?_
          refine w_isub dX2_lay_55 ?_
          refine w_cast rfl ?_ rfl (fin x5)
          rw [show (i : Int) + v - (L : Int) = tt by rw [← htt, modL hL hiL ⟨h1, hv.2⟩, if_neg (by omega)]]
        · refine w_iload dX2_lay_40 rfl ?_
          refine w_iload_n dX2_lay_42 rfl rfl ?_
          refine w_iadd dX2_lay_43 ?_
          refine w_goto 56 dX2_lay_44 (by decide) ?_
          refine w_cast rfl ?_ rfl (fin x5)
          rw [show (i : Int) + v = tt by rw [← htt, modL hL hiL ⟨h1, hv.2⟩, if_pos (by omega)]]
    exact key 0 (Nat.zero_le _) E F G jk jk jk (hP.c (fun c hc k hk => ⟨fun q => q.elim id (fun z => absurd z.2.2 (Nat.not_lt_zero _)), Or.inl⟩))

