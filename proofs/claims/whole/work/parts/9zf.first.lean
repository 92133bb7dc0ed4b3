/-! the world at first -/
theorem cm0_B0 : cm0 B0 = B0 := funext fun k => by
  unfold cm0
  unfold fillR
  by_cases h1 : 48 ≤ k ∧ k < 48 + 48
  · rw [if_pos h1, B0_z (by omega)]
  · rw [if_neg h1]
    unfold putS
    by_cases h2 : k = 46
    · subst h2; decide
    · by_cases h3 : k = 47
      · subst h3; decide
      · rw [u1_n (by omega), u1_n (by omega)]
        by_cases h4 : k = 13
        · subst h4; decide
        · rw [u1_n h4]
theorem A0_cm : cmA B0 1 1 2 = A0 := by unfold cmA A0; rw [cm0_B0]
theorem B0_inv : INV B0 := fun k => by
  by_cases h : k ≠ 3 ∧ k ≠ 4 ∧ k ≠ 5 ∧ k ≠ 6 ∧ k ≠ 7 ∧ k ≠ 12
  · rw [B0_z h]
    unfold loA hiA
    constructor
    · (repeat' split) <;> omega
    · (repeat' split) <;> omega
  · rcases (show k = 3 ∨ k = 4 ∨ k = 5 ∨ k = 6 ∨ k = 7 ∨ k = 12 by omega) with e | e | e | e | e | e <;> subst e <;> exact ⟨by decide, by decide⟩
theorem A0_inv : INV A0 := bgA_i B0_inv ⟨by decide, by decide⟩
theorem A0_n {k : Nat} (h : k < 96 ∨ 433 ≤ k) (h0 : k ≠ 9) (h1 : k ≠ 8) (h2 : k ≠ 10) (h3 : k ≠ 11) : A0 k = B0 k := bgA_n h h0 h1 h2 h3
theorem A0_top : TOP A0 1 1 2 := bgA_top B0_inv B0_vc (by decide) (by decide) ⟨by decide, by decide⟩
theorem A0_012 : A0 0 = 0 ∧ A0 1 = 0 ∧ A0 2 = 0 := ⟨(A0_n (by omega) (by omega) (by omega) (by omega) (by omega)).trans rfl, (A0_n (by omega) (by omega) (by omega) (by omega) (by omega)).trans rfl, (A0_n (by omega) (by omega) (by omega) (by omega) (by omega)).trans rfl⟩
theorem im_0 : fillR (fun _ => 0) 0 9033 A0 = A0 := funext fun k => by
  unfold fillR
  by_cases h1 : 0 ≤ k ∧ k < 0 + 9033
  · rw [if_pos h1]
    rw [Nat.sub_zero]
  · rw [if_neg h1, A0_n (by omega) (by omega) (by omega) (by omega) (by omega), B0_z (by omega)]
theorem A0_slt : SLT A0 1 1 2 := fun i hi j hj => by
  rw [A0_n (by omega) (by omega) (by omega) (by omega) (by omega), B0_z (by omega)]
  decide
theorem A0_bok : BOK A0 1 1 2 := bok_top A0_top A0_slt
def cap0 : Nat → Nat := fun k => if k < 10 then 16 else 0
def ow0 (o : Nat) : Nat → Nat := fun x => if o + 1 ≤ x ∧ x ≤ o + 6 then 1 else if x = o + 7 then 1000 + (o + 1) else if o + 46 ≤ x ∧ x ≤ o + 50 then 10 + (x - (o + 46)) else 0
theorem ow0_1 {o x : Nat} (h : o + 1 ≤ x ∧ x ≤ o + 6) : ow0 o x = 1 := if_pos h
theorem ow0_7 {o : Nat} : ow0 o (o + 7) = 1000 + (o + 1) := by unfold ow0; rw [if_neg (by omega), if_pos rfl]
theorem ow0_l {o K : Nat} (h : K < 5) : ow0 o (o + 43 + 3 + K) = 10 + K := by unfold ow0; rw [if_neg (by omega), if_neg (by omega), if_pos (by omega)]; omega
theorem ow0_z {o x : Nat} (h : stZ o x) : ow0 o x = 0 := by
  unfold stZ at h
  unfold ow0
  rw [if_neg (by omega), if_neg (by omega), if_neg (by omega)]
theorem cls_0 {o : Nat} {h0 h h' : HP} (H : CL0 o h0 h) (g1 : h'.1 = o + 73) (g2 : ∀ x, x < o + 60 → h'.2 x = h.2 x) : CLS o h' cap0 A0 A0 (fun _ => 0) (fun _ => 0) 0 (-1) (-1) 1 1 2 := by
  obtain ⟨-, -, p1, p2, ⟨fs, p3, p4⟩, ⟨T, p5, p6⟩, q1, q2, p7, ⟨ra, ri, rl, p8⟩, ⟨p9, p10, p11, p12⟩, p13, p14⟩ := H
  obtain ⟨z0, z1, z2⟩ := A0_012
  have hQ : CDQ (CK (ow0 o) h') h' (o + 1) B0 1 1 2 := p2.mono (fun x hx => ⟨by omega, ow0_1 hx⟩) (fun x hx => g2 x (by omega))
  have hQA : CDQ (CK (ow0 o) h') h' (o + 1) A0 1 1 2 := hQ.same (fun k h1 h2 h3 => A0_n (by omega) (by omega) (by omega) (by omega) (by omega))
  have hl : ∀ a, o + 8 ≤ a → a ≤ o + 20 → HL1 a (o + 1) h B0 1 1 2 → ∀ tg, 100 ≤ tg → (a = o + 8 ∨ a = o + 20) → (HTX h' (ow0 o) (fun x => x = o + 1) a (A0 0) (fun _ => 0) ∧ HPS h' (ow0 o) (fun x => x = o + 1) a tg A0) ∧ SCB h' (ow0 o) (fun x => x = o + 1) (a + 4) A0 1 1 2 (o + 1) := by
    intro a a1 a2 hq tg htg haa
    obtain ⟨u1', u2, u3, u4, sa, si, sl, u5, u6⟩ := hq
    refine ⟨⟨⟨fun _ => none, ?_, (g2 _ (by omega)).trans u4, fun i x _ hx => absurd hx (by simp), fun i hi => ?_⟩, 0, fun _ => none, ⟨?_, (g2 _ (by omega)).trans u3, by omega, by rw [z1]; decide, ⟨by omega, ?_, ?_⟩, fun s _ a hx => absurd hx (by simp)⟩, fun i hi => ?_⟩, sa, si, sl, fun j hj => (g2 _ (by omega)).trans (u5 j hj), rfl, ?_, hQA, A0_bok⟩
    · rw [z0]; exact (g2 _ (by omega)).trans u1'
    · rw [z0] at hi; omega
    · rw [z1]; exact (g2 _ (by omega)).trans u2
    · rw [ow0_z (by unfold stZ; omega)]; omega
    · rw [ow0_z (by unfold stZ; omega)]; omega
    · rw [z1] at hi; exact absurd hi (by show ¬ i < 0; omega)
    · rw [← A0_cm]; exact u6
  obtain ⟨n1, n2⟩ := hl (o + 8) (by omega) (by omega) q1 100 (by omega) (Or.inl rfl)
  obtain ⟨⟨m1, m2⟩, m3⟩ := hl (o + 20) (by omega) (by omega) q2 200 (by omega) (Or.inr rfl)
  refine ⟨ow0 o, fun x => x = o + 1, fun _ => (B0, 1, 1, 2), o + 1, ⟨⟨by omega, fun x hx => ow0_z hx⟩, fun c hc => ?_, (g2 _ (by omega)).trans p1, n1, ⟨m1, m2, 1, 1, 2, o + 1, m3⟩, ⟨_, _, fun j hj => (g2 _ (by omega)).trans (p7 j hj), rfl, rfl, rfl, rfl⟩, ⟨o + 1, ra, ri, rl, fun j hj => (g2 _ (by omega)).trans (p8 j hj)⟩, ⟨_, _, _, _, _, fun j hj => (g2 _ (by omega)).trans (p9 j hj), ⟨rfl, rfl⟩, (g2 _ (by omega)).trans p10, (g2 _ (by omega)).trans p11, fun K hK => ?_⟩, ⟨⟨_, _, _, fun j hj => (g2 _ (by omega)).trans (p13 j hj)⟩, _, _, fun j hj => (g2 _ (by omega)).trans (p14 j hj)⟩, ?_⟩, n2⟩
  · replace hc : c = o + 1 := hc
    subst hc
    exact ⟨hQ, fs, o + 7, T, (g2 _ (by omega)).trans p3, p4, ⟨by omega, ow0_7⟩, (g2 _ (by omega)).trans p5, fun kd k h1 h2 => Or.inl (p6 _ (by omega))⟩
  · refine ⟨o + 43 + 3 + K, fun _ => 0, rfl, ⟨by omega, ow0_l hK⟩, ?_, ⟨?_, ?_⟩, fun c hc => absurd hc (by simp)⟩
    · rw [show cap0 K = 16 from if_pos (by omega)]
      exact (g2 _ (by omega)).trans (p12 K hK)
    · rw [show cap0 K = 16 from if_pos (by omega)]
      unfold mxc
      omega
    · rw [show cap0 (10 + K) = 0 from if_neg (by omega)]
      rfl
  · refine ⟨⟨A0_inv, by rw [z0]; decide, by rw [z2]; decide⟩, ⟨A0_inv, by rw [z2]; decide, Int.le_refl _⟩, ⟨fun _ _ _ _ => ⟨show (-1 : Int) ≤ 0 by decide, show (0 : Int) ≤ 5 by decide⟩, fun i hi => ?_⟩, fun _ => ⟨show (0 : Int) ≤ 0 by decide, show (0 : Int) ≤ 255 by decide⟩, ⟨by decide, by decide⟩, ⟨by decide, by decide⟩, ⟨by decide, by decide⟩⟩
    rw [z0] at hi
    exact absurd hi (by show ¬ i < 0; omega)
