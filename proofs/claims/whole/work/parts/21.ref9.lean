/-- what holds of a scene beside its bounds -/
def SCN (A : Nat → Int) (R : Nat) : Prop := A 13 < fac R ∧ A 11 < R ∧ (A 9 = 0 → A 10 < 20) ∧ ∀ b, b < 48 → A (385 + b) ≤ 4 * A 10 + A 11
def st1 (A : Nat → Int) (L R C : Nat) : Nat → Int := if A 8 = 0 then stL A L R C else stA A L R C
def gA (A : Nat → Int) (n : Nat) : BitVec 64 := gset (fun b => A (96 + b)) n
def tnd (A : Nat → Int) (L R C : Nat) : BitVec 64 := gA A (L * C) ^^^ gA (st1 A L R C) (L * C)
def odA (A : Nat → Int) (L R C : Nat) : Nat := oddN (cs A L C) (gA (st1 A L R C) (L * C)) (L * R)
def st2 (A : Nat → Int) (L R C : Nat) : Nat → Int := fillR (st1 A L R C) 385 (L * C) (fun b => st1 A L R C (385 + b) + bI ((tnd A L R C).getLsbD b = true))
def lyr (A : Nat → Int) (R : Nat) : Int := if A 8 = 0 then ((lay R (A 13).toNat (A 11).toNat : Nat) : Int) else -1
def st3 (A : Nat → Int) (L R C : Nat) : Nat → Int := wdA (st2 A L R C) (lyr A R) ((pop (tnd A L R C) : Nat) : Int) ((odA A L R C : Nat) : Int)
def stepF (A : Nat → Int) (L R C : Nat) : Nat → Int := if odA A L R C = 0 then u1 (st3 A L R C) 9 1 else if st3 A L R C 10 = 20 then u1 (st3 A L R C) 9 2 else st3 A L R C
theorem stL_n {A : Nat → Int} {L R C k : Nat} (hI : INV A) (hV : VC A L R C) (ho : A 13 < fac R) (hp : A 11 < R) (hk : k < 96 ∨ 336 ≤ k) (h1 : k ≠ 10) (h2 : k ≠ 11) : stL A L R C k = A k := by
  have h13 : 0 ≤ A 13 ∧ A 13 ≤ 23 := hI 13
  have h11 : 0 ≤ A 11 ∧ A 11 ≤ 3 := hI 11
  have hy := lay_lt (R := R) (o := (A 13).toNat) (p := (A 11).toNat) hV.2.2.2.2.1 (by omega) (by omega)
  unfold stL
  split
  · rw [u1_n h2]; exact slN_n hV hy hk (Nat.le_refl _)
  · rw [u1_n h1, u1_n h2]; exact slN_n hV hy hk (Nat.le_refl _)
theorem stA_n {A : Nat → Int} {L R C k : Nat} (hV : VC A L R C) (hk : k < 96 ∨ 336 ≤ k) (h1 : k ≠ 10) : stA A L R C k = A k := by
  obtain ⟨v1, v2, v3, v4, v5, v6, v7⟩ := hV
  have hLR := mulLe (a := L) (b := R) (x := 6) (y := 4) (by omega) (by omega)
  have hLC := mulLe (a := L) (b := C) (x := 6) (y := 8) (by omega) (by omega)
  unfold stA
  rw [u1_n h1, fillR_n (by omega)]
  exact saN_n v6.2 (by omega)
theorem st1_n {A : Nat → Int} {L R C k : Nat} (hI : INV A) (hV : VC A L R C) (ho : A 13 < fac R) (hp : A 11 < R) (hk : k < 96 ∨ 336 ≤ k) (h1 : k ≠ 10) (h2 : k ≠ 11) : st1 A L R C k = A k := by
  unfold st1
  split
  · exact stL_n hI hV ho hp hk h1 h2
  · exact stA_n hV hk h1
theorem st1_s {A : Nat → Int} {L R C : Nat} (hI : INV A) (hV : VC A L R C) (ho : A 13 < fac R) (hp : A 11 < R) : SmC A (st1 A L R C) := fun k a1 _ _ a4 a5 _ _ => st1_n hI hV ho hp (by omega) a4 a5
theorem INV.fill {A : Nat → Int} {s n : Nat} {g : Nat → Int} (h : INV A) (hg : ∀ i, i < n → loA (s + i) ≤ g i ∧ g i ≤ hiA (s + i)) : INV (fillR A s n g) := by
  intro k
  by_cases hk : s ≤ k ∧ k < s + n
  · have := hg (k - s) (by omega)
    rw [show s + (k - s) = k by omega] at this
    rw [fillR, if_pos hk]; exact this
  · rw [fillR_n hk]; exact h k
theorem st1_i {A : Nat → Int} {L R C : Nat} (hI : INV A) (hV : VC A L R C) (ho : A 13 < fac R) (hp : A 11 < R) (h20 : A 10 < 20) : INV (st1 A L R C) := by
  obtain ⟨v1, v2, v3, v4, v5, v6, v7⟩ := id hV
  have h13 : 0 ≤ A 13 ∧ A 13 ≤ 23 := hI 13
  have h11 : 0 ≤ A 11 ∧ A 11 ≤ 3 := hI 11
  have h10 : 0 ≤ A 10 ∧ A 10 ≤ 20 := hI 10
  have hLR := mulLe (a := L) (b := R) (x := 6) (y := 4) (by omega) (by omega)
  have hLC := mulLe (a := L) (b := C) (x := 6) (y := 8) (by omega) (by omega)
  have hy := lay_lt (R := R) (o := (A 13).toNat) (p := (A 11).toNat) v5 (by omega) (by omega)
  unfold st1
  split
  · unfold stL
    split
    · exact (slN_i hI hV hy (Nat.le_refl _)).put (show (0 : Int) ≤ A 11 + 1 ∧ A 11 + 1 ≤ 3 by omega)
    · exact ((slN_i hI hV hy (Nat.le_refl _)).put (show (0 : Int) ≤ 0 ∧ (0 : Int) ≤ 3 by omega)).put (show (0 : Int) ≤ A 10 + 1 ∧ A 10 + 1 ≤ 20 by omega)
  · unfold stA
    refine INV.put (INV.fill (saN_i hI v6.2 hLR) (fun i hi => ?_)) (show (0 : Int) ≤ A 10 + 1 ∧ A 10 + 1 ≤ 20 by omega)
    rw [loB (by omega), hiB (by omega)]; exact hld_rng (by omega)
theorem st1_t {A : Nat → Int} {L R C : Nat} (hI : INV A) (hV : VC A L R C) (ho : A 13 < fac R) (hp : A 11 < R) : 4 * A 10 + A 11 + 1 ≤ 4 * st1 A L R C 10 + st1 A L R C 11 ∧ st1 A L R C 11 < R ∧ 0 ≤ st1 A L R C 11 := by
  obtain ⟨v1, v2, v3, v4, v5, v6, v7⟩ := id hV
  have h13 : 0 ≤ A 13 ∧ A 13 ≤ 23 := hI 13
  have h11 : 0 ≤ A 11 ∧ A 11 ≤ 3 := hI 11
  have hy := lay_lt (R := R) (o := (A 13).toNat) (p := (A 11).toNat) v5 (by omega) (by omega)
  unfold st1
  split
  · unfold stL
    split
    · rw [u1_s, u1_n (by omega), slN_n hV hy (by omega) (Nat.le_refl _)]; omega
    · rw [u1_s, u1_n (by omega), u1_s]; omega
  · unfold stA
    rw [u1_s, u1_n (by omega), fillR_n (by omega), saN_n v6.2 (by omega)]; omega
theorem loT {k : Nat} (hk : k < 48) : loA (385 + k) = 0 := by unfold loA; (repeat' split) <;> omega
theorem hiT {k : Nat} (hk : k < 48) : hiA (385 + k) = 84 := by unfold hiA; (repeat' split) <;> omega
theorem loW {k : Nat} (hk : k < 48) : loA (336 + k) = -1 := by unfold loA; (repeat' split) <;> omega
theorem hiW {k : Nat} (hk : k < 48) : hiA (336 + k) = 48 := by unfold hiA; (repeat' split) <;> omega
theorem bI_rng (p : Prop) [Decidable p] : 0 ≤ bI p ∧ bI p ≤ 1 := by unfold bI; split <;> omega
theorem st2_i {A : Nat → Int} {L R C : Nat} (hI : INV A) (hV : VC A L R C) (hS : SCN A R) (h9 : A 9 = 0) : INV (st2 A L R C) := by
  obtain ⟨ho, hp, h20, ht⟩ := hS
  have hI1 := st1_i hI hV ho hp (h20 h9)
  have ht1 := st1_t hI hV ho hp
  have h10 : 0 ≤ st1 A L R C 10 ∧ st1 A L R C 10 ≤ 20 := hI1 10
  have h11 : 0 ≤ st1 A L R C 11 ∧ st1 A L R C 11 ≤ 3 := hI1 11
  obtain ⟨v1, v2, v3, v4, v5, v6, v7⟩ := id hV
  have hLC := mulLe (a := L) (b := C) (x := 6) (y := 8) (by omega) (by omega)
  refine hI1.fill (fun i hi => ?_)
  have h1 := hI (385 + i)
  rw [loT (by omega), hiT (by omega)] at h1
  have h2 := ht i (by omega)
  have h3 := bI_rng ((tnd A L R C).getLsbD i = true)
  rw [loT (by omega), hiT (by omega), st1_n hI hV ho hp (by omega) (by omega) (by omega)]
  omega
theorem wdA_n {A : Nat → Int} {x y z : Int} {k : Nat} (h384 : 0 ≤ A 384 ∧ A 384 ≤ 16) (hk : k < 336 ∨ 385 ≤ k) : wdA A x y z k = A k := by
  unfold wdA
  split
  · rw [u1_n (by omega), u1_n (by omega), u1_n (by omega), u1_n (by omega), u1_n (by omega), fillR_n (by omega)]
  · rw [u1_n (by omega), u1_n (by omega), u1_n (by omega), u1_n (by omega)]
theorem wdA_i {A : Nat → Int} {x y z : Int} (hI : INV A) (hx : -1 ≤ x ∧ x ≤ 48) (hy : -1 ≤ y ∧ y ≤ 48) (hz : -1 ≤ z ∧ z ≤ 48) : INV (wdA A x y z) := by
  have h384 : 0 ≤ A 384 ∧ A 384 ≤ 16 := hI 384
  unfold wdA
  split
  · refine INV.put (INV.put (INV.put (INV.put (INV.put (hI.fill fun i hi => ?_) ?_) hx) hy) hz) ?_
    · have h1 := hI (336 + (3 + i))
      rw [loW (by omega), hiW (by omega), ← Nat.add_assoc] at h1
      rw [loW (by omega), hiW (by omega)]; exact h1
    · exact ⟨by decide, by decide⟩
    · exact ⟨by decide, by decide⟩
  · refine INV.put (INV.put (INV.put (INV.put hI ?_) ?_) ?_) (show (0 : Int) ≤ A 384 + 1 ∧ A 384 + 1 ≤ 16 by omega)
    · rw [loW (by omega), hiW (by omega)]; exact hx
    · rw [show 337 + 3 * (A 384).toNat = 336 + (1 + 3 * (A 384).toNat) by omega, loW (by omega), hiW (by omega)]; exact hy
    · rw [show 338 + 3 * (A 384).toNat = 336 + (2 + 3 * (A 384).toNat) by omega, loW (by omega), hiW (by omega)]; exact hz
theorem gset_hi {f : Nat → Int} : ∀ {n i : Nat}, n ≤ 64 → n ≤ i → (gset f n).getLsbD i = false
  | 0, i, _, _ => by unfold gset; simp
  | n + 1, i, h1, h2 => by
    unfold gset
    split
    · rw [BitVec.getLsbD_or, gset_hi (by omega) (by omega)]
      by_cases hi : i < 64
      · rw [bit1 (by omega) hi]; simp; omega
      · rw [BitVec.getLsbD_of_ge _ _ (by omega)]; rfl
    · exact gset_hi (by omega) (by omega)
theorem pn_cut {f : Nat → Bool} {n : Nat} : ∀ {m : Nat}, n ≤ m → (∀ i, n ≤ i → i < m → f i = false) → pn f m = pn f n
  | 0, h, _ => by rw [show n = 0 by omega]
  | m + 1, h, hf => by
    by_cases hm : n = m + 1
    · rw [hm]
    · show pn f m + (if f m = true then 1 else 0) = pn f n
      rw [hf m (by omega) (by omega), pn_cut (m := m) (by omega) (fun i h1 h2 => hf i h1 (by omega))]
      rfl
theorem pop_cut {x : BitVec 64} {n : Nat} (hn : n ≤ 64) (hx : ∀ i, n ≤ i → i < 64 → x.getLsbD i = false) : pop x ≤ n := by
  unfold pop
  rw [pn_cut hn hx]
  exact pn_le _ _
theorem tnd_pop {A : Nat → Int} {L R C : Nat} (h : L * C ≤ 48) : pop (tnd A L R C) ≤ 48 := by
  refine Nat.le_trans (pop_cut (n := L * C) (by omega) (fun i h1 h2 => ?_)) h
  unfold tnd gA
  rw [BitVec.getLsbD_xor, gset_hi (by omega) h1, gset_hi (by omega) h1]; rfl
theorem st3_i {A : Nat → Int} {L R C : Nat} (hI : INV A) (hV : VC A L R C) (hS : SCN A R) (h9 : A 9 = 0) : INV (st3 A L R C) := by
  obtain ⟨v1, v2, v3, v4, v5, v6, v7⟩ := id hV
  have hLC := mulLe (a := L) (b := C) (x := 6) (y := 8) (by omega) (by omega)
  have hLR := mulLe (a := L) (b := R) (x := 6) (y := 4) (by omega) (by omega)
  have h13 : 0 ≤ A 13 ∧ A 13 ≤ 23 := hI 13
  have h11 : 0 ≤ A 11 ∧ A 11 ≤ 3 := hI 11
  have ho1 := hS.1
  have hp1 := hS.2.1
  have hp := tnd_pop (A := A) (R := R) hLC
  have ho := oddN_le (cs A L C) (gA (st1 A L R C) (L * C)) (L * R)
  refine wdA_i (st2_i hI hV hS h9) ?_ ⟨by omega, by omega⟩ ⟨by unfold odA; omega, by unfold odA; omega⟩
  unfold lyr
  have hy := lay_lt (R := R) (o := (A 13).toNat) (p := (A 11).toNat) v5 (by omega) (by omega)
  split <;> omega
theorem st2_n {A : Nat → Int} {L R C k : Nat} (hk : k < 385 ∨ 433 ≤ k) (hLC : L * C ≤ 48) : st2 A L R C k = st1 A L R C k := fillR_n (by omega)
theorem st3_n {A : Nat → Int} {L R C k : Nat} (hI : INV A) (hV : VC A L R C) (hS : SCN A R) (h9 : A 9 = 0) (hk : k < 336 ∨ 433 ≤ k) : st3 A L R C k = st1 A L R C k := by
  obtain ⟨v1, v2, v3, v4, v5, v6, v7⟩ := id hV
  have hLC := mulLe (a := L) (b := C) (x := 6) (y := 8) (by omega) (by omega)
  unfold st3
  rw [wdA_n (st2_i hI hV hS h9 384) (by omega), st2_n (by omega) hLC]
theorem stepF_i {A : Nat → Int} {L R C : Nat} (hI : INV A) (hV : VC A L R C) (hS : SCN A R) (h9 : A 9 = 0) : INV (stepF A L R C) := by
  have h := st3_i hI hV hS h9
  unfold stepF
  split
  · exact h.put ⟨by decide, by decide⟩
  · split
    · exact h.put ⟨by decide, by decide⟩
    · exact h
theorem stepF_n {A : Nat → Int} {L R C k : Nat} (hI : INV A) (hV : VC A L R C) (hS : SCN A R) (h9 : A 9 = 0) (hk : k < 96 ∨ 433 ≤ k) (h1 : k ≠ 9) (h2 : k ≠ 10) (h3 : k ≠ 11) : stepF A L R C k = A k := by
  have h : st3 A L R C k = A k := by rw [st3_n hI hV hS h9 (by omega), st1_n hI hV hS.1 hS.2.1 (by omega) h2 h3]
  unfold stepF
  split
  · rw [u1_n h1]; exact h
  · split
    · rw [u1_n h1]; exact h
    · exact h
theorem stepF_s {A : Nat → Int} {L R C : Nat} (hI : INV A) (hV : VC A L R C) (hS : SCN A R) (h9 : A 9 = 0) : SmC A (stepF A L R C) := fun k a1 _ a3 a4 a5 _ _ => stepF_n hI hV hS h9 (by omega) a3 a4 a5
theorem stepF_scn {A : Nat → Int} {L R C : Nat} (hI : INV A) (hV : VC A L R C) (hS : SCN A R) (h9 : A 9 = 0) : SCN (stepF A L R C) R := by
  have ht := st1_t hI hV hS.1 hS.2.1
  have e13 := stepF_n (k := 13) hI hV hS h9 (by omega) (by omega) (by omega) (by omega)
  have hI1 := st1_i hI hV hS.1 hS.2.1 (hS.2.2.1 h9)
  have h10 : 0 ≤ st1 A L R C 10 ∧ st1 A L R C 10 ≤ 20 := hI1 10
  obtain ⟨v1, v2, v3, v4, v5, v6, v7⟩ := id hV
  have hLC := mulLe (a := L) (b := C) (x := 6) (y := 8) (by omega) (by omega)
  have e11 : stepF A L R C 11 = st1 A L R C 11 := by
    unfold stepF
    split
    · rw [u1_n (by omega), st3_n hI hV hS h9 (by omega)]
    · split
      · rw [u1_n (by omega), st3_n hI hV hS h9 (by omega)]
      · rw [st3_n hI hV hS h9 (by omega)]
  have e10 : stepF A L R C 10 = st1 A L R C 10 := by
    unfold stepF
    split
    · rw [u1_n (by omega), st3_n hI hV hS h9 (by omega)]
    · split
      · rw [u1_n (by omega), st3_n hI hV hS h9 (by omega)]
      · rw [st3_n hI hV hS h9 (by omega)]
  refine ⟨by rw [e13]; exact hS.1, by rw [e11]; exact ht.2.1, fun h0 => ?_, fun b hb => ?_⟩
  · rw [e10]
    unfold stepF at h0
    split at h0
    · rw [u1_s] at h0; exact absurd h0 (by decide)
    · split at h0
      · rw [u1_s] at h0; exact absurd h0 (by decide)
      · rename_i h20
        rw [st3_n hI hV hS h9 (by omega)] at h20
        omega
  · rw [e10, e11]
    have h384 := st2_i hI hV hS h9 384
    have e385 : stepF A L R C (385 + b) = st2 A L R C (385 + b) := by
      unfold stepF
      split
      · rw [u1_n (by omega)]; exact wdA_n h384 (by omega)
      · split
        · rw [u1_n (by omega)]; exact wdA_n h384 (by omega)
        · exact wdA_n h384 (by omega)
    have h2 := hS.2.2.2 b hb
    have h3 := bI_rng ((tnd A L R C).getLsbD b = true)
    have e1 : st1 A L R C (385 + b) = A (385 + b) := st1_n hI hV hS.1 hS.2.1 (by omega) (by omega) (by omega)
    rw [e385]
    unfold st2
    by_cases hbn : b < L * C
    · rw [fillR_i hbn, e1]; omega
    · rw [fillR_n (by omega), e1]; omega
set_option maxRecDepth 4000 in
theorem c_stepNow {r : Nat} {A : Nat → Int} {ia : Nat → Nat → Int} {la : Nat → Nat → BitVec 64} {fi : Nat → Int} {fl : Nat → BitVec 64} {h0 : HP} {L R C : Nat} (hI : INV A) (hV : VC A L R C) (hS : SCN A R) (h9 : A 9 = 0) : sp mX10_stepNow [.ref r] (RH r A ia la fi fl h0) 0 0 (px none (fun _ : Nat → Int => True) (fun q => (RH r (stepF A L R C) (u1 ia 5 q) la fi fl h0))) := by
  obtain ⟨v1, v2, v3, v4, v5, v6, v7⟩ := id hV
  obtain ⟨ho, hp, h20, ht⟩ := id hS
  have hLR := mulLe (a := L) (b := R) (x := 6) (y := 4) (by omega) (by omega)
  have hLC := mulLe (a := L) (b := C) (x := 6) (y := 8) (by omega) (by omega)
  have h13 : 0 ≤ A 13 ∧ A 13 ≤ 23 := hI 13
  have h11 : 0 ≤ A 11 ∧ A 11 ≤ 3 := hI 11
  have h8 : 0 ≤ A 8 ∧ A 8 ≤ 1 := hI 8
  have hI1 := st1_i hI hV ho hp (h20 h9)
  have hs1 := st1_s hI hV ho hp
  have hV1 := hs1.vc hV
  have tail : ∀ q : Nat → Int, wp mX10_stepNow 59 [.ref r, .long (lB (gset (fun b => A (96 + b)) (L * C))), jk, .int (zI (lyr A R)), jk, jk, jk, jk] [] (RH r (st1 A L R C) (u1 ia 5 q) la fi fl h0) 0 0 (px none (fun _ : Nat → Int => True) (fun q => (RH r (stepF A L R C) (u1 ia 5 q) la fi fl h0))) := by
    intro q
    have htp := tnd_pop (A := A) (R := R) hLC
    have hod := oddN_le (cs A L C) (gA (st1 A L R C) (L * C)) (L * R)
    refine w_lload_n dX10_stepNow_59 rfl rfl ?_
    refine w_aload_n dX10_stepNow_60 rfl rfl ?_
    refine wc_V (Z := mX10_guessed) (As := []) (c_guessed hV1 hI1.ok) RH0 rfl kX10_guessed lX10_156 iX10_guessed vX10_guessed dX10_stepNow_61 rfl rfl rfl (Nat.le_of_ble_eq_true rfl) ⟨Nat.le_of_ble_eq_true rfl, Nat.le_of_ble_eq_true rfl⟩ ?_
    refine w_lxor dX10_stepNow_64 ?_
    refine w_lstore (lv' := [_, _, _, _, _, _, _, _]) dX10_stepNow_65 (Nat.le_of_ble_eq_true rfl) rfl rfl ?_
    refine w_aload_n dX10_stepNow_67 rfl rfl ?_
    refine w_aload_n dX10_stepNow_68 rfl rfl ?_
    refine wc_V (Z := mX10_guessed) (As := []) (c_guessed hV1 hI1.ok) RH0 rfl kX10_guessed lX10_156 iX10_guessed vX10_guessed dX10_stepNow_69 rfl rfl rfl (Nat.le_of_ble_eq_true rfl) ⟨Nat.le_of_ble_eq_true rfl, Nat.le_of_ble_eq_true rfl⟩ ?_
    refine wc_V (Z := mX10_oddsOf) (As := [_]) (c_oddsOf hV1) RH0 rfl kX10_oddsOf lX10_160 iX10_oddsOf vX10_oddsOf dX10_stepNow_72 rfl rfl rfl (Nat.le_of_ble_eq_true rfl) ⟨Nat.le_of_ble_eq_true rfl, Nat.le_of_ble_eq_true rfl⟩ ?_
    rw [show (fun c => csetN (shA (st1 A L R C)) L c C) = cs (st1 A L R C) L C from rfl, oddN_cs (cs' := cs A L C) (fun c hc => hs1.cs hV hc)]
    rw [show oddN (cs A L C) (gset (fun b => st1 A L R C (96 + b)) (L * C)) (L * R) = odA A L R C from rfl, show gset (fun b => A (96 + b)) (L * C) ^^^ gset (fun b => st1 A L R C (96 + b)) (L * C) = tnd A L R C from rfl]
    refine w_istore (lv' := [_, _, _, _, _, _, _, _]) dX10_stepNow_75 (Nat.le_of_ble_eq_true rfl) rfl rfl ?_
    refine w_iconst dX10_stepNow_77 ?_
    refine w_istore (lv' := [_, _, _, _, _, _, _, _]) dX10_stepNow_78 (Nat.le_of_ble_eq_true rfl) rfl rfl ?_
    suffices h2 : ∀ b, b ≤ L * C → wp mX10_stepNow 80 [.ref r, .long (lB (gset (fun b => A (96 + b)) (L * C))), jk, .int (zI (lyr A R)), .long (lB (tnd A L R C)), jk, .int (zI ((odA A L R C : Nat) : Int)), .int (zI (b : Int))] [] (RH r (fillR (st1 A L R C) 385 b (fun b => st1 A L R C (385 + b) + bI ((tnd A L R C).getLsbD b = true))) (u1 ia 5 q) la fi fl h0) 0 0 (px none (fun _ : Nat → Int => True) (fun q => (RH r (stepF A L R C) (u1 ia 5 q) la fi fl h0))) by
      have h3 := h2 0 (Nat.zero_le _)
      rw [fillR_0] at h3
      exact h3
    refine up_ind (N := L * C) (fun b hb ih => ?_)
    have hsF : SmC A (fillR (st1 A L R C) 385 b (fun b => st1 A L R C (385 + b) + bI ((tnd A L R C).getLsbD b = true))) := fun k a1 a2 a3 a4 a5 a6 a7 => by rw [fillR_n (by omega)]; exact hs1 k a1 a2 a3 a4 a5 a6 a7
    have hVF := hsF.vc hV
    refine w_iload dX10_stepNow_80 rfl ?_
    refine w_aload_n dX10_stepNow_82 rfl rfl ?_
    refine wc_V (Z := mX10_bits) (As := []) c_bits RH0 rfl kX10_bits lX10_66 iX10_bits vX10_bits dX10_stepNow_83 rfl rfl rfl (Nat.le_of_ble_eq_true rfl) ⟨Nat.le_of_ble_eq_true rfl, Nat.le_of_ble_eq_true rfl⟩ ?_
    rw [hVF.1, hVF.2.2.1]
    refine w_icmp_ge 124 dX10_stepNow_86 (by decide) (by unfold ok32; omega) (by unfold ok32; omega) (fun hn => ?_) (fun hn => ?_)
    · have eb : b = L * C := by omega
      subst eb
      rw [show fillR (st1 A L R C) 385 (L * C) (fun b => st1 A L R C (385 + b) + bI ((tnd A L R C).getLsbD b = true)) = st2 A L R C from rfl]
      refine w_aload_n dX10_stepNow_124 rfl rfl ?_
      refine w_iload_n dX10_stepNow_125 rfl rfl ?_
      refine w_lload dX10_stepNow_126 rfl ?_
      refine wc_S (Z := mX10_many) (As := [_]) c_many kX10_many lX10_87 sX10_many dX10_stepNow_128 rfl rfl rfl (Nat.le_of_ble_eq_true rfl) ⟨Nat.le_of_ble_eq_true rfl, Nat.le_of_ble_eq_true rfl⟩ ?_
      refine w_iload dX10_stepNow_131 rfl ?_
      refine wc_Vv (Z := mX10_writeDown) (As := [_, _, _]) (c_writeDown (st2_i hI hV hS h9 384)) RH0 rfl kX10_writeDown lX10_194 iX10_writeDown vX10_writeDown dX10_stepNow_133 rfl rfl rfl (Nat.le_of_ble_eq_true rfl) ⟨Nat.le_of_ble_eq_true rfl, Nat.le_of_ble_eq_true rfl⟩ ?_
      rw [show wdA (st2 A L R C) (lyr A R) ((pop (tnd A L R C) : Nat) : Int) ((odA A L R C : Nat) : Int) = st3 A L R C from rfl]
      have hz : odA A L R C ≤ 24 := by unfold odA; omega
      refine w_iload dX10_stepNow_136 rfl ?_
      refine w_if_ne 152 dX10_stepNow_138 (by decide) (by unfold ok32; omega) (fun hz0 => ?_) (fun hz0 => ?_)
      · refine w_aload_n dX10_stepNow_152 rfl rfl ?_
        refine w_getf fX10_7 dX10_stepNow_153 RH0 rfl ?_
        refine w_bipush dX10_stepNow_156 (by decide) ?_
        refine w_iald 10 RH1 rfl (by decide) (by decide) dX10_stepNow_158 ?_
        refine w_bipush dX10_stepNow_159 (by decide) ?_
        have h10 := st3_i hI hV hS h9
        refine w_icmp_ne 172 dX10_stepNow_161 (by decide) (h10.ok 10) (by unfold ok32; omega) (fun h20a => ?_) (fun h20a => ?_)
        · refine x_vret rfl dX10_stepNow_172 ⟨rfl, q, trivial, ?_⟩
          rw [stepF, if_neg (by omega), if_neg h20a]
        · refine w_aload_n dX10_stepNow_164 rfl rfl ?_
          refine w_getf fX10_7 dX10_stepNow_165 RH0 rfl ?_
          refine w_bipush dX10_stepNow_168 (by decide) ?_
          refine w_iconst dX10_stepNow_170 ?_
          refine r_ist1K 9 rfl (by decide) dX10_stepNow_171 ?_
          refine x_vret rfl dX10_stepNow_172 ⟨rfl, q, trivial, ?_⟩
          rw [stepF, if_neg (by omega), if_pos h20a]
      · refine w_aload_n dX10_stepNow_141 rfl rfl ?_
        refine w_getf fX10_7 dX10_stepNow_142 RH0 rfl ?_
        refine w_bipush dX10_stepNow_145 (by decide) ?_
        refine w_iconst dX10_stepNow_147 ?_
        refine r_ist1K 9 rfl (by decide) dX10_stepNow_148 ?_
        refine w_goto 172 dX10_stepNow_149 (by decide) ?_
        refine x_vret rfl dX10_stepNow_172 ⟨rfl, q, trivial, ?_⟩
        rw [stepF, if_pos (by omega)]
    · refine w_aload_n dX10_stepNow_89 rfl rfl ?_
      refine w_getf fX10_7 dX10_stepNow_90 RH0 rfl ?_
      refine w_sipush dX10_stepNow_93 (by decide) ?_
      refine w_iload dX10_stepNow_96 rfl ?_
      refine w_iadd dX10_stepNow_98 ?_
      refine w_dup2 dX10_stepNow_99 rfl rfl ?_
      refine w_iald (385 + b) RH1 (by omega) (by omega) (by decide) dX10_stepNow_100 ?_
      rw [fillR_n (by omega)]
      refine w_lload dX10_stepNow_101 rfl ?_
      refine w_iload dX10_stepNow_103 rfl ?_
      refine wc_S (Z := mX10_hasIt) (As := [_, _]) (c_hasIt (by omega)) kX10_hasIt lX10_62 sX10_hasIt dX10_stepNow_105 rfl rfl rfl (Nat.le_of_ble_eq_true rfl) ⟨Nat.le_of_ble_eq_true rfl, Nat.le_of_ble_eq_true rfl⟩ ?_
      refine w_ifb_eq 115 dX10_stepNow_108 (by decide) (fun hbt => ?_) (fun hbt => ?_)
      · refine w_iconst dX10_stepNow_115 ?_
        refine w_iadd dX10_stepNow_116 ?_
        refine r_ist1K (385 + b) (by omega) (by omega) dX10_stepNow_117 ?_
        rw [fillR_s (by rw [bI_f hbt])]
        refine w_iinc (lv' := [_, _, _, _, _, _, _, _]) dX10_stepNow_118 rfl rfl rfl ?_
        refine w_goto 80 dX10_stepNow_121 (by decide) ?_
        exact ih (by omega)
      · refine w_iconst dX10_stepNow_111 ?_
        refine w_goto 116 dX10_stepNow_112 (by decide) ?_
        refine w_iadd dX10_stepNow_116 ?_
        refine r_ist1K (385 + b) (by omega) (by omega) dX10_stepNow_117 ?_
        rw [fillR_s (by rw [bI_t hbt])]
        refine w_iinc (lv' := [_, _, _, _, _, _, _, _]) dX10_stepNow_118 rfl rfl rfl ?_
        refine w_goto 80 dX10_stepNow_121 (by decide) ?_
        exact ih (by omega)
  refine sp_wp rfl (lv := [_, _, _, _, _, _, _, _]) rfl (Nat.le_of_ble_eq_true rfl) ?_
  refine w_aload_n dX10_stepNow_0 rfl rfl ?_
  refine wc_V (Z := mX10_guessed) (As := []) (c_guessed hV hI.ok) RH0 rfl kX10_guessed lX10_156 iX10_guessed vX10_guessed dX10_stepNow_1 rfl rfl rfl (Nat.le_of_ble_eq_true rfl) ⟨Nat.le_of_ble_eq_true rfl, Nat.le_of_ble_eq_true rfl⟩ ?_
  refine w_lstore_n (lv' := [_, _, _, _, _, _, _, _]) dX10_stepNow_4 rfl (Nat.le_of_ble_eq_true rfl) rfl rfl ?_
  refine w_aload_n dX10_stepNow_5 rfl rfl ?_
  refine w_getf fX10_7 dX10_stepNow_6 RH0 rfl ?_
  refine w_bipush dX10_stepNow_9 (by decide) ?_
  refine w_iald 8 RH1 rfl (by decide) (by decide) dX10_stepNow_11 ?_
  refine w_if_ne 36 dX10_stepNow_12 (by decide) (by unfold ok32; omega) (fun h80 => ?_) (fun h80 => ?_)
  · refine w_iconst dX10_stepNow_36 ?_
    refine w_istore_n (lv' := [_, _, _, _, _, _, _, _]) dX10_stepNow_37 rfl (Nat.le_of_ble_eq_true rfl) rfl rfl ?_
    refine w_aload_n dX10_stepNow_38 rfl rfl ?_
    refine w_getf fX10_7 dX10_stepNow_39 RH0 rfl ?_
    refine w_bipush dX10_stepNow_42 (by decide) ?_
    refine w_iald 8 RH1 rfl (by decide) (by decide) dX10_stepNow_44 ?_
    refine w_if_ne 55 dX10_stepNow_45 (by decide) (by unfold ok32; omega) (fun h81 => ?_) (fun h81 => ?_)
    rotate_left
    · exact absurd h81 h80
    refine w_aload_n dX10_stepNow_55 rfl rfl ?_
    refine wx_Vv (Z := mX10_stepAll) (As := []) (c_stepAll hI hV) RH0 rfl kX10_stepAll lX10_191 iX10_stepAll vX10_stepAll dX10_stepNow_56 rfl rfl rfl (Nat.le_of_ble_eq_true rfl) ⟨Nat.le_of_ble_eq_true rfl, Nat.le_of_ble_eq_true rfl⟩ (fun q hq => ?_)
    have h2 := tail q
    rw [show lyr A R = -1 from if_neg h80, show st1 A L R C = stA A L R C from if_neg h80] at h2
    exact h2
  · refine w_aload_n dX10_stepNow_15 rfl rfl ?_
    refine w_aload_n dX10_stepNow_16 rfl rfl ?_
    refine w_getf fX10_7 dX10_stepNow_17 RH0 rfl ?_
    refine w_bipush dX10_stepNow_20 (by decide) ?_
    refine w_iald 13 RH1 rfl (by decide) (by decide) dX10_stepNow_22 ?_
    refine w_aload_n dX10_stepNow_23 rfl rfl ?_
    refine w_getf fX10_7 dX10_stepNow_24 RH0 rfl ?_
    refine w_bipush dX10_stepNow_27 (by decide) ?_
    refine w_iald 11 RH1 rfl (by decide) (by decide) dX10_stepNow_29 ?_
    rw [show A 13 = (((A 13).toNat : Nat) : Int) by omega, show A 11 = (((A 11).toNat : Nat) : Int) by omega]
    refine wc_V (Z := mX10_layerOf) (As := [_, _]) (c_layerOf v2 v5 (by omega) (by omega)) RH0 rfl kX10_layerOf lX10_178 iX10_layerOf vX10_layerOf dX10_stepNow_30 rfl rfl rfl (Nat.le_of_ble_eq_true rfl) ⟨Nat.le_of_ble_eq_true rfl, Nat.le_of_ble_eq_true rfl⟩ ?_
    refine w_goto 37 dX10_stepNow_33 (by decide) ?_
    refine w_istore_n (lv' := [_, _, _, _, _, _, _, _]) dX10_stepNow_37 rfl (Nat.le_of_ble_eq_true rfl) rfl rfl ?_
    refine w_aload_n dX10_stepNow_38 rfl rfl ?_
    refine w_getf fX10_7 dX10_stepNow_39 RH0 rfl ?_
    refine w_bipush dX10_stepNow_42 (by decide) ?_
    refine w_iald 8 RH1 rfl (by decide) (by decide) dX10_stepNow_44 ?_
    refine w_if_ne 55 dX10_stepNow_45 (by decide) (by unfold ok32; omega) (fun h81 => ?_) (fun h81 => ?_)
    · exact absurd h80 h81
    refine w_aload_n dX10_stepNow_48 rfl rfl ?_
    refine wx_Vv (Z := mX10_stepLayer) (As := []) (c_stepLayer hI hV ho hp) RH0 rfl kX10_stepLayer lX10_188 iX10_stepLayer vX10_stepLayer dX10_stepNow_49 rfl rfl rfl (Nat.le_of_ble_eq_true rfl) ⟨Nat.le_of_ble_eq_true rfl, Nat.le_of_ble_eq_true rfl⟩ (fun q hq => ?_)
    refine w_goto 59 dX10_stepNow_52 (by decide) ?_
    have h2 := tail q
    rw [show lyr A R = ((lay R (A 13).toNat (A 11).toNat : Nat) : Int) from if_pos h80, show st1 A L R C = stL A L R C from if_pos h80] at h2
    exact h2
/-- n steps, as long as the state is 0 -/
def stpN (A : Nat → Int) (L R C : Nat) : Nat → Nat → Int
  | 0 => A
  | k + 1 => if stpN A L R C k 9 = 0 then stepF (stpN A L R C k) L R C else stpN A L R C k
def stpC (A : Nat → Int) (L R C : Nat) : Nat → Nat
  | 0 => 0
  | k + 1 => if stpN A L R C k 9 = 0 then stpC A L R C k + 1 else stpC A L R C k
theorem stpN_ok {A : Nat → Int} {L R C : Nat} (hI : INV A) (hV : VC A L R C) (hS : SCN A R) : ∀ n, INV (stpN A L R C n) ∧ SmC A (stpN A L R C n) ∧ SCN (stpN A L R C n) R
  | 0 => ⟨hI, SmC.rf, hS⟩
  | n + 1 => by
    obtain ⟨i1, i2, i3⟩ := stpN_ok hI hV hS n
    unfold stpN
    split
    · rename_i h
      exact ⟨stepF_i i1 (i2.vc hV) i3 h, i2.tr (stepF_s i1 (i2.vc hV) i3 h), stepF_scn i1 (i2.vc hV) i3 h⟩
    · exact ⟨i1, i2, i3⟩
theorem stpN_end {A : Nat → Int} {L R C k : Nat} (h : ¬ stpN A L R C k 9 = 0) : ∀ m, stpN A L R C (k + m) = stpN A L R C k ∧ stpC A L R C (k + m) = stpC A L R C k
  | 0 => ⟨rfl, rfl⟩
  | m + 1 => by
    obtain ⟨h1, h2⟩ := stpN_end h m
    constructor
    · rw [show k + (m + 1) = (k + m) + 1 from rfl, stpN, if_neg (by rw [h1]; exact h), h1]
    · rw [show k + (m + 1) = (k + m) + 1 from rfl, stpC, if_neg (by rw [h1]; exact h), h2]
set_option maxRecDepth 4000 in
theorem c_stepsNow {r : Nat} {A : Nat → Int} {ia : Nat → Nat → Int} {la : Nat → Nat → BitVec 64} {fi : Nat → Int} {fl : Nat → BitVec 64} {h0 : HP} {L R C n : Nat} (hI : INV A) (hV : VC A L R C) (hS : SCN A R) (hn0 : n ≤ 1000) : sp mX10_stepsNow [.ref r, .int (zI (n : Int))] (RH r A ia la fi fl h0) 0 0 (px (some (.int (zI (stpC A L R C n : Nat)))) (fun _ : Nat → Int => True) (fun q => (RH r (stpN A L R C n) (u1 ia 5 q) la fi fl h0))) := by
  refine sp_wp rfl (lv := [_, _, _]) rfl (Nat.le_of_ble_eq_true rfl) ?_
  refine w_iconst dX10_stepsNow_0 ?_
  refine w_istore_n (lv' := [_, _, _]) dX10_stepsNow_1 rfl (Nat.le_of_ble_eq_true rfl) rfl rfl ?_
  have key : ∀ k, k ≤ n → stpC A L R C k = k → ∀ q : Nat → Int, wp mX10_stepsNow 2 [.ref r, .int (zI (n : Int)), .int (zI (k : Int))] [] (RH r (stpN A L R C k) (u1 ia 5 q) la fi fl h0) 0 0 (px (some (.int (zI (stpC A L R C n : Nat)))) (fun _ : Nat → Int => True) (fun q => (RH r (stpN A L R C n) (u1 ia 5 q) la fi fl h0))) := by
    refine up_ind (N := n) (fun k hk ih => ?_)
    intro hck q
    obtain ⟨i1, i2, i3⟩ := stpN_ok hI hV hS k
    refine w_iload_n dX10_stepsNow_2 rfl rfl ?_
    refine w_iload_n dX10_stepsNow_3 rfl rfl ?_
    refine w_icmp_ge 27 dX10_stepsNow_4 (by decide) (by unfold ok32; omega) (by unfold ok32; omega) (fun hkn => ?_) (fun hkn => ?_)
    · refine w_iload_n dX10_stepsNow_27 rfl rfl ?_
      have ek : k = n := by omega
      subst ek
      refine x_iret rfl rfl dX10_stepsNow_28 ⟨?_, q, trivial, rfl⟩
      rw [hck]
    · refine w_aload_n dX10_stepsNow_7 rfl rfl ?_
      refine w_getf fX10_7 dX10_stepsNow_8 RH0 rfl ?_
      refine w_bipush dX10_stepsNow_11 (by decide) ?_
      refine w_iald 9 RH1 rfl (by decide) (by decide) dX10_stepsNow_13 ?_
      refine w_if_ne 27 dX10_stepsNow_14 (by decide) (i1.ok 9) (fun h9 => ?_) (fun h9 => ?_)
      · refine w_iload_n dX10_stepsNow_27 rfl rfl ?_
        have h2 := stpN_end h9 (n - k)
        rw [show k + (n - k) = n by omega] at h2
        refine x_iret rfl rfl dX10_stepsNow_28 ⟨?_, q, trivial, ?_⟩
        · rw [h2.2, hck]
        · rw [h2.1]
      · refine w_aload_n dX10_stepsNow_17 rfl rfl ?_
        refine wx_Vv (Z := mX10_stepNow) (As := []) (c_stepNow i1 (i2.vc hV) i3 h9) RH0 rfl kX10_stepNow lX10_198 iX10_stepNow vX10_stepNow dX10_stepsNow_18 rfl rfl rfl (Nat.le_of_ble_eq_true rfl) ⟨Nat.le_of_ble_eq_true rfl, Nat.le_of_ble_eq_true rfl⟩ (fun q2 _ => ?_)
        rw [u1_u1]
        refine w_iinc (lv' := [_, _, _]) dX10_stepsNow_21 rfl rfl rfl ?_
        refine w_goto 2 dX10_stepsNow_24 (by decide) ?_
        have h3 := ih (by omega) (by rw [stpC, if_pos h9, hck]) q2
        rw [stpN, if_pos h9] at h3
        exact h3
  have h2 := key 0 (Nat.zero_le _) rfl (ia 5)
  rw [u1_id] at h2
  exact h2

