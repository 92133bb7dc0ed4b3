/-! the class's reader: a clause -/
theorem w_spells {Y : MT} {pc : Nat} {lv st : List Value} {h : HP} {rc rs : Nat} {Φ : Option Value → HP → Prop} {i a : Nat} {fs : List Value} {v : Int} (hi : i < 4) (hM : ∀ (G : DG) (b : Nat), sq G b mX7_spells [.ref a, .ref (G.2.2.1 i)] h 0 0 (pd (some (.int (zI v))) h)) (hcls : Y.1.cls = RX7) (ho : h.2 a = some (.inr (6, fs))) (hd1 : decode Y.2.1 pc = .ok (.ldc (scI i), 2)) (hd2 : decode Y.2.1 (pc + 2) = .ok (.invokevirtual 75, 3)) (hlen : lv.length = Y.2.2.1) (hw : (st.map fun v => v.category).sum ≤ 8) (hfr : RM Y mX7_spells) (kk : wp Y (pc + 2 + 3) lv (.int (zI v) :: st) h rc rs Φ) : wp Y pc lv (.ref a :: st) h rc rs Φ := by
  intro p l e R s m args below meth c H locs cells slots mc ms G b ls Q C hP hS hb hc hs hR hl HR
  refine va_ldcS C.1 C.2.1 (own := RX7) (index := scI i) (q := G.2.2.1 i) (tx := scT i) (by rw [← hcls]; exact C.2.2.2.1) (C.2.2.2.2.2.2.2.1.2.2.1 i hi) hd1 ?_
  have key : wq G b Y (pc + 2) lv (.ref (G.2.2.1 i) :: .ref a :: st) h rc rs Φ := yc_V (Z := mX7_spells) (As := [.ref (G.2.2.1 i)]) (rest := st) (hM G b) ho rfl kX7_spells (by rw [hcls]; exact lX7_75) iX7_spells vX7_spells hd2 rfl rfl hlen hw hfr (wq_of kk)
  exact key p l e R s m args below meth c H locs cells slots mc ms ls Q C hP hS hb hc hs hR hl HR
theorem SPb_0 {k : Int} {s e i : Nat} {T : Nat → Int} : SPb k s e i T = 0 ↔ ¬ SPL k s e i T := ⟨fun h z => by rw [SPb_t z] at h; omega, SPb_f⟩
theorem SPb_ok {k : Int} {s e i : Nat} {T : Nat → Int} : ok32 (SPb k s e i T) := @bI_ok _ (Classical.propDecidable _)
theorem f4B_is {T : Nat → Int} {n p : Nat} {x y z w : Int} : f4B T n p x y z w = true ↔ (byt T n p = x ∧ byt T n (p + 1) = y ∧ byt T n (p + 2) = z ∧ byt T n (p + 3) = w) := dP_iff
theorem pick4 {A1 A2 A3 A4 : Prop} [Decidable A1] [Decidable A2] [Decidable A3] [Decidable A4] {w : Int} (hw : w = if A1 then 200 else if A2 then 203 else if A3 then 201 else if A4 then 202 else 2) (n12 : A1 → ¬ A2) (n13 : A1 → ¬ A3) (n14 : A1 → ¬ A4) (n23 : A2 → ¬ A3) (n24 : A2 → ¬ A4) (n34 : A3 → ¬ A4) : (A3 ↔ w = 201) ∧ (A1 ↔ w = 200) ∧ (A4 ↔ w = 202) ∧ (A2 ↔ w = 203) := by
  by_cases h1 : A1
  · rw [if_pos h1] at hw
    exact ⟨⟨fun z => absurd z (n13 h1), fun z => by omega⟩, ⟨fun _ => hw, fun _ => h1⟩, ⟨fun z => absurd z (n14 h1), fun z => by omega⟩, ⟨fun z => absurd z (n12 h1), fun z => by omega⟩⟩
  · rw [if_neg h1] at hw
    by_cases h2 : A2
    · rw [if_pos h2] at hw
      exact ⟨⟨fun z => absurd z (n23 h2), fun z => by omega⟩, ⟨fun z => absurd z h1, fun z => by omega⟩, ⟨fun z => absurd z (n24 h2), fun z => by omega⟩, ⟨fun _ => hw, fun _ => h2⟩⟩
    · rw [if_neg h2] at hw
      by_cases h3 : A3
      · rw [if_pos h3] at hw
        exact ⟨⟨fun _ => hw, fun _ => h3⟩, ⟨fun z => absurd z h1, fun z => by omega⟩, ⟨fun z => absurd z (n34 h3), fun z => by omega⟩, ⟨fun z => absurd z h2, fun z => by omega⟩⟩
      · rw [if_neg h3] at hw
        by_cases h4 : A4
        · rw [if_pos h4] at hw
          exact ⟨⟨fun z => absurd z h3, fun z => by omega⟩, ⟨fun z => absurd z h1, fun z => by omega⟩, ⟨fun _ => hw, fun _ => h4⟩, ⟨fun z => absurd z h2, fun z => by omega⟩⟩
        · rw [if_neg h4] at hw
          exact ⟨⟨fun z => absurd z h3, fun z => by omega⟩, ⟨fun z => absurd z h1, fun z => by omega⟩, ⟨fun z => absurd z h4, fun z => by omega⟩, ⟨fun z => absurd z h2, fun z => by omega⟩⟩
theorem SPL_is {T : Nat → Int} {n : Nat} {k v : Int} {y : LX} (hK : KD T n k v y) (h1 : y.2.1 ≤ y.1) (h2 : y.1 ≤ n) : (SPL k y.2.1 y.1 0 T ↔ y.2.2.1 = 201) ∧ (SPL k y.2.1 y.1 1 T ↔ y.2.2.1 = 200) ∧ (SPL k y.2.1 y.1 2 T ↔ y.2.2.1 = 202) ∧ (SPL k y.2.1 y.1 3 T ↔ y.2.2.1 = 203) := by
  obtain ⟨s, hs⟩ : ∃ s, y.2.1 = s := ⟨_, rfl⟩
  obtain ⟨e, he⟩ : ∃ e, y.1 = e := ⟨_, rfl⟩
  obtain ⟨w, hwy⟩ : ∃ w, y.2.2.1 = w := ⟨_, rfl⟩
  unfold KD at hK
  rw [hs, he, hwy] at hK
  rw [hs, he] at h1
  rw [he] at h2
  rw [hs, he, hwy]
  clear hs he hwy
  have hkw : k = 1 → w = wdO T n s (e - s) := fun hk => by
    rcases hK with q | q | q | q | q | q
    · have := q.1; omega
    · exact q.2
    · have := q.1; omega
    · have := q.1; omega
    · have := q.1; omega
    · have := q.1; omega
  have hkn : ¬ k = 1 → w < 200 := fun hk => by
    rcases hK with q | q | q | q | q | q
    · have := q.2; omega
    · exact absurd q.1 hk
    · have := q.2.1; omega
    · have := q.2; omega
    · have := q.2; omega
    · have := q.2; omega
  clear hK
  have e0 : SPL k s e 0 T ↔ k = 1 ∧ e = s + 3 ∧ T s = 114 ∧ T (s + 1) = 111 ∧ T (s + 2) = 119 := by
    constructor
    · intro h
      exact ⟨h.1, h.2.1, h.2.2 0 (by decide), h.2.2 1 (by decide), h.2.2 2 (by decide)⟩
    · intro h
      refine ⟨h.1, h.2.1, fun j hj => ?_⟩
      replace hj : j < 3 := hj
      rcases (show j = 0 ∨ j = 1 ∨ j = 2 by omega) with q | q | q
      · rw [q]; exact h.2.2.1
      · rw [q]; exact h.2.2.2.1
      · rw [q]; exact h.2.2.2.2
  have four : ∀ (i : Nat) (a b c d : Int), scL.getD i 0 = 4 → sB i 0 = a → sB i 1 = b → sB i 2 = c → sB i 3 = d → (SPL k s e i T ↔ k = 1 ∧ e = s + 4 ∧ T s = a ∧ T (s + 1) = b ∧ T (s + 2) = c ∧ T (s + 3) = d) := by
    intro i a b c d hl ha hb hc hd
    unfold SPL
    rw [hl]
    constructor
    · intro h
      exact ⟨h.1, h.2.1, (h.2.2 0 (by omega)).trans ha, (h.2.2 1 (by omega)).trans hb, (h.2.2 2 (by omega)).trans hc, (h.2.2 3 (by omega)).trans hd⟩
    · intro h
      refine ⟨h.1, h.2.1, fun j hj => ?_⟩
      rcases (show j = 0 ∨ j = 1 ∨ j = 2 ∨ j = 3 by omega) with q | q | q | q
      · rw [q, ha]; exact h.2.2.1
      · rw [q, hb]; exact h.2.2.2.1
      · rw [q, hc]; exact h.2.2.2.2.1
      · rw [q, hd]; exact h.2.2.2.2.2
  have e1 := four 1 108 105 102 116 (by decide) (by decide) (by decide) (by decide) (by decide)
  have e3 := four 3 109 111 115 116 (by decide) (by decide) (by decide) (by decide) (by decide)
  have e2 : SPL k s e 2 T ↔ k = 1 ∧ e = s + 6 ∧ T s = 111 ∧ T (s + 1) = 102 ∧ T (s + 2) = 102 ∧ T (s + 3) = 115 ∧ T (s + 4) = 101 ∧ T (s + 5) = 116 := by
    constructor
    · intro h
      exact ⟨h.1, h.2.1, h.2.2 0 (by decide), h.2.2 1 (by decide), h.2.2 2 (by decide), h.2.2 3 (by decide), h.2.2 4 (by decide), h.2.2 5 (by decide)⟩
    · intro h
      refine ⟨h.1, h.2.1, fun j hj => ?_⟩
      replace hj : j < 6 := hj
      rcases (show j = 0 ∨ j = 1 ∨ j = 2 ∨ j = 3 ∨ j = 4 ∨ j = 5 by omega) with q | q | q | q | q | q
      · rw [q]; exact h.2.2.1
      · rw [q]; exact h.2.2.2.1
      · rw [q]; exact h.2.2.2.2.1
      · rw [q]; exact h.2.2.2.2.2.1
      · rw [q]; exact h.2.2.2.2.2.2.1
      · rw [q]; exact h.2.2.2.2.2.2.2
  by_cases hk : k = 1
  · have hw : w = wdO T n s (e - s) := hkw hk
    unfold wdO at hw
    have bt : ∀ j, s + j < e → byt T n (s + j) = T (s + j) := fun j hj => byt_in (by omega)
    have p := pick4 hw (fun x z => by have := (f4B_is.mp x.2).1; have := (f4B_is.mp z.2).1; omega) (fun x z => by have := x.1; have := z.1; omega) (fun x z => by have := x.1; have := z.1; omega) (fun x z => by have := x.1; have := z.1; omega) (fun x z => by have := x.1; have := z.1; omega) (fun x z => by have := x.1; have := z.1; omega)
    obtain ⟨p0, p1, p2, p3⟩ := p
    clear hw hkw hkn four
    rw [e0, e1, e2, e3]
    clear e0 e1 e2 e3
    refine ⟨?_, ?_, ?_, ?_⟩
    · rw [← p0]
      clear p0 p1 p2 p3
      constructor
      · rintro ⟨-, q, q0, q1, q2⟩
        refine ⟨by omega, ?_, ?_, ?_⟩
        · rw [byt_in (by omega)]; exact q0
        · rw [byt_in (by omega)]; exact q1
        · rw [byt_in (by omega)]; exact q2
      · rintro ⟨q, q0, q1, q2⟩
        rw [byt_in (by omega)] at q0 q1 q2
        exact ⟨hk, by omega, q0, q1, q2⟩
    · rw [← p1, f4B_is]
      clear p0 p1 p2 p3
      constructor
      · rintro ⟨-, q, q0, q1, q2, q3⟩
        refine ⟨by omega, ?_, ?_, ?_, ?_⟩
        · rw [byt_in (by omega)]; exact q0
        · rw [byt_in (by omega)]; exact q1
        · rw [byt_in (by omega)]; exact q2
        · rw [byt_in (by omega)]; exact q3
      · rintro ⟨q, q0, q1, q2, q3⟩
        rw [byt_in (by omega)] at q0 q1 q2 q3
        exact ⟨hk, by omega, q0, q1, q2, q3⟩
    · rw [← p2, f4B_is]
      clear p0 p1 p2 p3
      constructor
      · rintro ⟨-, q, q0, q1, q2, q3, q4, q5⟩
        refine ⟨by omega, ⟨?_, ?_, ?_, ?_⟩, ?_, ?_⟩
        · rw [byt_in (by omega)]; exact q0
        · rw [byt_in (by omega)]; exact q1
        · rw [byt_in (by omega)]; exact q2
        · rw [byt_in (by omega)]; exact q3
        · rw [byt_in (by omega)]; exact q4
        · rw [byt_in (by omega)]; exact q5
      · rintro ⟨q, ⟨q0, q1, q2, q3⟩, q4, q5⟩
        rw [byt_in (by omega)] at q0 q1 q2 q3 q4 q5
        exact ⟨hk, by omega, q0, q1, q2, q3, q4, q5⟩
    · rw [← p3, f4B_is]
      clear p0 p1 p2 p3
      constructor
      · rintro ⟨-, q, q0, q1, q2, q3⟩
        refine ⟨by omega, ?_, ?_, ?_, ?_⟩
        · rw [byt_in (by omega)]; exact q0
        · rw [byt_in (by omega)]; exact q1
        · rw [byt_in (by omega)]; exact q2
        · rw [byt_in (by omega)]; exact q3
      · rintro ⟨q, q0, q1, q2, q3⟩
        rw [byt_in (by omega)] at q0 q1 q2 q3
        exact ⟨hk, by omega, q0, q1, q2, q3⟩
  · have hlt : w < 200 := hkn hk
    rw [e0, e1, e2, e3]
    clear e0 e1 e2 e3 four hkw hkn
    exact ⟨⟨fun z => absurd z.1 hk, fun z => by omega⟩, ⟨fun z => absurd z.1 hk, fun z => by omega⟩, ⟨fun z => absurd z.1 hk, fun z => by omega⟩, ⟨fun z => absurd z.1 hk, fun z => by omega⟩⟩
theorem nm_val {T X : Nat → Int} {n k a : Nat} {lo hi : Int} (h : (nmT T n k lo hi X a).1 = 0) : (nmT T n k lo hi X a).2.1 = u1 X k (nmVl T n lo hi a) ∧ lo ≤ nmVl T n lo hi a ∧ nmVl T n lo hi a ≤ hi := by
  by_cases h1 : (nt T n a).2.2.1 = 1
  · by_cases h2 : lo ≤ (nt T n a).2.2.2 ∧ (nt T n a).2.2.2 ≤ hi
    · have hv : nmVl T n lo hi a = (nt T n a).2.2.2 := by unfold nmVl; rw [if_pos ⟨h1, h2⟩]
      rw [hv]
      unfold nmT
      rw [if_neg (fun z => z h1), if_neg (fun z => z h2)]
      exact ⟨rfl, h2⟩
    · unfold nmT at h
      rw [if_neg (fun z => z h1), if_pos h2] at h
      replace h : (2 : Int) = 0 := h
      omega
  · unfold nmT at h
    rw [if_pos h1] at h
    replace h : (1 : Int) = 0 := h
    omega
theorem nmVl_in {T : Nat → Int} {n a : Nat} {lo hi : Int} (h : lo ≤ hi) : lo ≤ nmVl T n lo hi a ∧ nmVl T n lo hi a ≤ hi := by
  unfold nmVl
  split
  · rename_i q
    exact q.2
  · omega
theorem rwL_n {T : Nat → Int} {n x row j : Nat} (hj : j ≠ x + 2) (hr : j < row) : ∀ {f c : Nat} {X : Nat → Int} {y : LX}, (rwL T n x row f c X y).2.1 j = X j := by
  intro f
  induction f with
  | zero => intro c X y; rfl
  | succ f ih =>
    intro c X y
    unfold rwL
    by_cases h1 : y.2.2.1 = 1 ∨ y.2.2.1 = 46
    · rw [if_pos h1]
      by_cases h2 : y.2.2.1 = 1 ∧ X x ≤ y.2.2.2
      · rw [if_pos h2]
      · rw [if_neg h2]
        by_cases h3 : c = 8
        · rw [if_pos h3]
        · rw [if_neg h3, ih, u1_n (by omega)]
    · rw [if_neg h1]
      by_cases h2 : ¬ y.2.2.1 = 59 ∨ c = 0
      · rw [if_pos h2]
      · rw [if_neg h2]
        show (if X (x + 1) = 1 then u1 X (x + 2) (c : Int) else X) j = X j
        split
        · rw [u1_n hj]
        · rfl
theorem rwC_n {T X : Nat → Int} {n x j : Nat} {y : LX} (hj : j = x + 3 ∨ j = x + 4) : (rwC T n x X y).2.1 j = X j := by
  unfold rwC
  split
  · rfl
  · rw [rwL_n (by omega) (by omega), u1_n (by omega)]
def CLI (bi X : Nat → Int) (x : Nat) (o s : Int) : Prop := (o = 0 ∧ bi 11 = -1 ∧ X (x + 3) = 1 ∨ o = 1 ∧ bi 11 = X (x + 3)) ∧ (s = 0 ∧ bi 12 = -1 ∧ X (x + 4) = 15 ∨ s = 1 ∧ bi 12 = X (x + 4))
def RCP (bi : Nat → Int) (x : Nat) (Z : C5) (q : (Nat → Int) × (Nat → Int)) : Prop := q.2 2 = Z.1.1 ∧ (¬ Z.1.1 = 0 → q.2 3 = (Z.1.2.2.2.1 : Int)) ∧ (Z.1.1 = 0 → RSX q.2 q.1 Z.1.2.1 x ∧ CLI q.2 Z.1.2.1 x Z.2.1 Z.2.2 ∧ q.2 4 = (Z.1.2.2.1 : Int) ∧ 0 ≤ q.2 10 ∧ q.2 10 ≤ 8) ∧ q.2 1 = bi 1 ∧ (Z.1.1 = 0 → q.2 3 = bi 3)
theorem RSX.u {bi bj sh X X' : Nat → Int} {x : Nat} (h : RSX bi sh X x) (h8 : bj 8 = X' x) (h9 : bj 9 = bi 9) (h10 : bj 10 = bi 10) (hX : ∀ j, j ≠ x → j ≠ x + 3 → j ≠ x + 4 → X' j = X j) : RSX bj sh X' x := by
  obtain ⟨g1, g2, g3, g4⟩ := h
  refine ⟨h8, ?_, fun z => ?_, fun r c hr hc h1 h2 => ?_⟩
  · rw [h9, hX _ (by omega) (by omega) (by omega)]; exact g2
  · rw [hX _ (by omega) (by omega) (by omega)] at z ⊢
    rw [h10]; exact g3 z
  · rw [hX _ (by omega) (by omega) (by omega)] at h1 h2 ⊢
    exact g4 r c hr hc h1 h2
set_option maxRecDepth 8000 in
theorem c7_readClause {a : Nat} {ba : Nat → Nat → Int} {bi : Nat → Int} {h0 : HP} {n t cl : Nat} {X : Nat → Int} {y : LX} {o s fb : Int} (ht : t < 4) (h1 : bi 1 = (n : Int)) (hn : n ≤ 300) (h4 : bi 4 = (y.1 : Int)) (hyy : y.2.1 ≤ y.1) (hy : y.1 ≤ n) (h6 : bi 6 = (y.2.1 : Int)) (hT : TB (ba 1)) (hK : KD (ba 1) n (bi 5) (bi 7) y) (h2 : bi 2 = 0) (hX : RSX bi (ba 2) X (37 * t)) (hP : PXI X t) (h10 : 0 ≤ bi 10 ∧ bi 10 ≤ 8) (hC : CLI bi X (37 * t) o s) (hf : fb = 1 ∧ cl = 0 ∨ fb = 0 ∧ 0 < cl) : sp mX7_readClause [.ref a, .int (zI fb)] (RDH a ba bi h0) 0 0 (px none (fun q : (Nat → Int) × (Nat → Int) => RCP bi (37 * t) (clS (ba 1) n (37 * t) cl X y o s) q) (fun q => RDH a (u1 ba 2 q.1) q.2 h0)) := by
  obtain ⟨-, x0, x1, x2, x3, x4⟩ := hP
  obtain ⟨s0, s1, s2, s3⟩ := SPL_is hK hyy hy
  have hk5 := hK.is.1
  have o5 : ok32 (bi 5) := by unfold ok32; omega
  have o2 : ok32 (bi 2) := by rw [h2]; unfold ok32; omega
  have spell : ∀ i, i < 4 → ∀ (G : DG) (b : Nat), sq G b mX7_spells [.ref a, .ref (G.2.2.1 i)] (RDH a ba bi h0) 0 0 (pd (some (.int (zI (SPb (bi 5) y.2.1 y.1 i (ba 1))))) (RDH a ba bi h0)) := fun i hi G b => c7_spells hi h4 h6 hyy (by omega) o5 hT
  have refu : ∀ (e : Int), ¬ e = 0 → RCP bi (37 * t) ((e, X, y), o, s) (ba 2, rfF e bi) := fun e he => ⟨rfF_2 h2, fun _ => (rfF_3 h2 he).trans h6, fun z => absurd z he, rfF_n (by omega) (by omega), fun z => absurd z he⟩
  have hh : ∀ bj : Nat → Int, RDH a ba bj h0 = RDH a (u1 ba 2 (ba 2)) bj h0 := fun bj => by rw [u1_id]
  obtain ⟨C11, C12⟩ := hC
  have o11 : ok32 (bi 11) := by unfold ok32; omega
  have o12 : ok32 (bi 12) := by unfold ok32; omega
  have of : ok32 fb := by unfold ok32; omega
  unfold clS
  refine sp_wp rfl (lv := [_, _]) rfl (Nat.le_of_ble_eq_true rfl) ?_
  refine w_aload_n dX7_readClause_0 rfl rfl ?_
  refine w_spells (i := 0) (by omega) (spell 0 (by omega)) rfl RD0 dX7_readClause_1 dX7_readClause_3 rfl (Nat.le_of_ble_eq_true rfl) ⟨Nat.le_of_ble_eq_true rfl, Nat.le_of_ble_eq_true rfl⟩ ?_
  refine w_if_eq 16 dX7_readClause_6 (by decide) SPb_ok (fun hq => ?_) (fun hq => ?_)
  rotate_left
  · have h201 : y.2.2.1 = 201 := s0.mp (Classical.byContradiction fun z => hq (SPb_0.mpr z))
    rw [if_neg (show ¬ y.2.2.1 = 200 by omega), if_pos h201]
    refine w_aload_n dX7_readClause_9 rfl rfl ?_
    refine wx_Vv (Z := mX7_readRow) (As := []) (c7_readRow h1 hn h4 hy h6 hT h2 hX x0 x1 x2 (by unfold ok32; omega)) RD0 rfl kX7_readRow lX7_79 iX7_readRow vX7_readRow dX7_readClause_10 rfl rfl rfl (Nat.le_of_ble_eq_true rfl) ⟨Nat.le_of_ble_eq_true rfl, Nat.le_of_ble_eq_true rfl⟩ (fun q hq => ?_)
    refine w_goto 134 dX7_readClause_13 (by decide) ?_
    refine x_vret rfl dX7_readClause_134 ⟨rfl, q, ⟨hq.1, hq.2.1, fun z => ⟨(hq.2.2.1 z).1, ⟨?_, ?_⟩, (hq.2.2.1 z).2⟩, hq.2.2.2 1 (by omega), fun z => hq.2.2.2 3 (Or.inr (Or.inr ⟨rfl, z⟩))⟩, rfl⟩
    · show o = 0 ∧ q.2 11 = -1 ∧ (rwC (ba 1) n (37 * t) X y).2.1 (37 * t + 3) = 1 ∨ o = 1 ∧ q.2 11 = (rwC (ba 1) n (37 * t) X y).2.1 (37 * t + 3)
      rw [rwC_n (by omega), hq.2.2.2 11 (by omega)]
      exact C11
    · show s = 0 ∧ q.2 12 = -1 ∧ (rwC (ba 1) n (37 * t) X y).2.1 (37 * t + 4) = 15 ∨ s = 1 ∧ q.2 12 = (rwC (ba 1) n (37 * t) X y).2.1 (37 * t + 4)
      rw [rwC_n (by omega), hq.2.2.2 12 (by omega)]
      exact C12
  · have n201 : ¬ y.2.2.1 = 201 := fun z => SPb_0.mp hq (s0.mpr z)
    rw [if_neg n201]
    clear hq
    refine w_aload_n dX7_readClause_16 rfl rfl ?_
    refine w_spells (i := 1) (by omega) (spell 1 (by omega)) rfl RD0 dX7_readClause_17 dX7_readClause_19 rfl (Nat.le_of_ble_eq_true rfl) ⟨Nat.le_of_ble_eq_true rfl, Nat.le_of_ble_eq_true rfl⟩ ?_
    refine w_if_eq 51 dX7_readClause_22 (by decide) SPb_ok (fun hq => ?_) (fun hq => ?_)
    rotate_left
    · have h200 : y.2.2.1 = 200 := s1.mp (Classical.byContradiction fun z => hq (SPb_0.mpr z))
      rw [if_pos h200]
      refine w_iload_n dX7_readClause_25 rfl rfl ?_
      refine w_if_eq 43 dX7_readClause_26 (by decide) (by first | assumption | (unfold ok32 at *; omega)) (fun hfb => ?_) (fun hfb => ?_)
      · rw [if_pos (by omega)]
        refine w_aload_n dX7_readClause_43 rfl rfl ?_
        refine w_iconst dX7_readClause_44 ?_
        refine wc_Vv (Z := mX7_refuse) (As := [_]) (c7_refuse (by unfold ok32; omega) o2) RD0 rfl kX7_refuse lX7_65 iX7_refuse vX7_refuse dX7_readClause_45 rfl rfl rfl (Nat.le_of_ble_eq_true rfl) ⟨Nat.le_of_ble_eq_true rfl, Nat.le_of_ble_eq_true rfl⟩ ?_
        refine w_goto 134 dX7_readClause_48 (by decide) ?_
        exact x_vret rfl dX7_readClause_134 ⟨rfl, (ba 2, rfF 4 bi), refu 4 (by omega), hh _⟩
      · rw [if_neg (by omega)]
        refine w_aload_n dX7_readClause_29 rfl rfl ?_
        refine w_aload_n dX7_readClause_30 rfl rfl ?_
        refine w_iconst dX7_readClause_31 ?_
        refine w_bipush dX7_readClause_32 (by decide) ?_
        refine wx_V (Z := mX7_readNumber) (As := [_, _]) (c7_readNumber (x := 37 * t) (X := X) h1 hn h4 hy hT h2 (by omega) (by omega) (by omega)) RD0 rfl kX7_readNumber lX7_83 iX7_readNumber vX7_readNumber dX7_readClause_34 rfl rfl rfl (Nat.le_of_ble_eq_true rfl) ⟨Nat.le_of_ble_eq_true rfl, Nat.le_of_ble_eq_true rfl⟩ (fun bj hj => ?_)
        refine rd_pf8 fX7_31 dX7_readClause_37 ?_
        refine w_goto 134 dX7_readClause_40 (by decide) ?_
        refine x_vret rfl dX7_readClause_134 ⟨rfl, (ba 2, u1 bj 8 _), ⟨hj.1, hj.2.1, fun z => ?_, hj.2.2.2 1 (by omega), fun z => hj.2.2.2 3 (Or.inr (Or.inr ⟨rfl, z⟩))⟩, hh _⟩
        obtain ⟨v1, v2⟩ := nm_val z
        refine ⟨RSX.u hX ?_ (hj.2.2.2 9 (by omega)) (hj.2.2.2 10 (by omega)) (fun j j0 j3 j4 => ?_), ⟨?_, ?_⟩, hj.2.2.1, ?_, ?_⟩
        · show _ = (nmT (ba 1) n (37 * t) 1 6 X y.1).2.1 (37 * t)
          rw [v1, u1_s]
          rfl
        · show (nmT (ba 1) n (37 * t) 1 6 X y.1).2.1 j = X j
          rw [v1, u1_n j0]
        · show o = 0 ∧ bj 11 = -1 ∧ (nmT (ba 1) n (37 * t) 1 6 X y.1).2.1 (37 * t + 3) = 1 ∨ o = 1 ∧ bj 11 = (nmT (ba 1) n (37 * t) 1 6 X y.1).2.1 (37 * t + 3)
          rw [v1, u1_n (by omega), hj.2.2.2 11 (by omega)]
          exact C11
        · show s = 0 ∧ bj 12 = -1 ∧ (nmT (ba 1) n (37 * t) 1 6 X y.1).2.1 (37 * t + 4) = 15 ∨ s = 1 ∧ bj 12 = (nmT (ba 1) n (37 * t) 1 6 X y.1).2.1 (37 * t + 4)
          rw [v1, u1_n (by omega), hj.2.2.2 12 (by omega)]
          exact C12
        · show 0 ≤ bj 10
          rw [hj.2.2.2 10 (by omega)]; exact h10.1
        · show bj 10 ≤ 8
          rw [hj.2.2.2 10 (by omega)]; exact h10.2
    · have n200 : ¬ y.2.2.1 = 200 := fun z => SPb_0.mp hq (s1.mpr z)
      rw [if_neg n200]
      clear hq
      refine w_aload_n dX7_readClause_51 rfl rfl ?_
      refine w_spells (i := 2) (by omega) (spell 2 (by omega)) rfl RD0 dX7_readClause_52 dX7_readClause_54 rfl (Nat.le_of_ble_eq_true rfl) ⟨Nat.le_of_ble_eq_true rfl, Nat.le_of_ble_eq_true rfl⟩ ?_
      refine w_if_eq 90 dX7_readClause_57 (by decide) SPb_ok (fun hq => ?_) (fun hq => ?_)
      rotate_left
      · have h202 : y.2.2.1 = 202 := s2.mp (Classical.byContradiction fun z => hq (SPb_0.mpr z))
        rw [if_pos h202]
        refine w_aload_n dX7_readClause_60 rfl rfl ?_
        refine w_getf fX7_40 dX7_readClause_61 RD0 rfl ?_
        refine w_iconst dX7_readClause_64 ?_
        refine w_icmp_ne 82 dX7_readClause_65 (by decide) (by first | assumption | (unfold ok32 at *; omega)) (by first | assumption | (unfold ok32 at *; omega)) (fun hfb => ?_) (fun hfb => ?_)
        · rw [if_neg (by omega)]
          refine w_aload_n dX7_readClause_82 rfl rfl ?_
          refine w_iconst dX7_readClause_83 ?_
          refine wc_Vv (Z := mX7_refuse) (As := [_]) (c7_refuse (by unfold ok32; omega) o2) RD0 rfl kX7_refuse lX7_65 iX7_refuse vX7_refuse dX7_readClause_84 rfl rfl rfl (Nat.le_of_ble_eq_true rfl) ⟨Nat.le_of_ble_eq_true rfl, Nat.le_of_ble_eq_true rfl⟩ ?_
          refine w_goto 134 dX7_readClause_87 (by decide) ?_
          exact x_vret rfl dX7_readClause_134 ⟨rfl, (ba 2, rfF 4 bi), refu 4 (by omega), hh _⟩
        · rw [if_pos (by omega)]
          refine w_aload_n dX7_readClause_68 rfl rfl ?_
          refine w_aload_n dX7_readClause_69 rfl rfl ?_
          refine w_iconst dX7_readClause_70 ?_
          refine w_bipush dX7_readClause_71 (by decide) ?_
          refine wx_V (Z := mX7_readNumber) (As := [_, _]) (c7_readNumber (x := 37 * t + 3) (X := X) h1 hn h4 hy hT h2 (by omega) (by omega) (by omega)) RD0 rfl kX7_readNumber lX7_83 iX7_readNumber vX7_readNumber dX7_readClause_73 rfl rfl rfl (Nat.le_of_ble_eq_true rfl) ⟨Nat.le_of_ble_eq_true rfl, Nat.le_of_ble_eq_true rfl⟩ (fun bj hj => ?_)
          refine rd_pf11 fX7_40 dX7_readClause_76 ?_
          refine w_goto 134 dX7_readClause_79 (by decide) ?_
          refine x_vret rfl dX7_readClause_134 ⟨rfl, (ba 2, u1 bj 11 _), ⟨hj.1, hj.2.1, fun z => ?_, hj.2.2.2 1 (by omega), fun z => hj.2.2.2 3 (Or.inr (Or.inr ⟨rfl, z⟩))⟩, hh _⟩
          obtain ⟨v1, v2⟩ := nm_val z
          refine ⟨RSX.u hX ?_ (hj.2.2.2 9 (by omega)) (hj.2.2.2 10 (by omega)) (fun j j0 j3 j4 => ?_), ⟨?_, ?_⟩, hj.2.2.1, ?_, ?_⟩
          · show bj 8 = (nmT (ba 1) n (37 * t + 3) 0 9 X y.1).2.1 (37 * t)
            rw [v1, u1_n (by omega), hj.2.2.2 8 (by omega)]
            exact hX.1
          · show (nmT (ba 1) n (37 * t + 3) 0 9 X y.1).2.1 j = X j
            rw [v1, u1_n j3]
          · refine Or.inr ⟨rfl, ?_⟩
            show _ = (nmT (ba 1) n (37 * t + 3) 0 9 X y.1).2.1 (37 * t + 3)
            rw [v1, u1_s]
            rfl
          · show s = 0 ∧ bj 12 = -1 ∧ (nmT (ba 1) n (37 * t + 3) 0 9 X y.1).2.1 (37 * t + 4) = 15 ∨ s = 1 ∧ bj 12 = (nmT (ba 1) n (37 * t + 3) 0 9 X y.1).2.1 (37 * t + 4)
            rw [v1, u1_n (by omega), hj.2.2.2 12 (by omega)]
            exact C12
          · show 0 ≤ bj 10
            rw [hj.2.2.2 10 (by omega)]; exact h10.1
          · show bj 10 ≤ 8
            rw [hj.2.2.2 10 (by omega)]; exact h10.2
      · have n202 : ¬ y.2.2.1 = 202 := fun z => SPb_0.mp hq (s2.mpr z)
        rw [if_neg n202]
        clear hq
        refine w_aload_n dX7_readClause_90 rfl rfl ?_
        refine w_spells (i := 3) (by omega) (spell 3 (by omega)) rfl RD0 dX7_readClause_91 dX7_readClause_93 rfl (Nat.le_of_ble_eq_true rfl) ⟨Nat.le_of_ble_eq_true rfl, Nat.le_of_ble_eq_true rfl⟩ ?_
        refine w_if_eq 129 dX7_readClause_96 (by decide) SPb_ok (fun hq => ?_) (fun hq => ?_)
        rotate_left
        · have h203 : y.2.2.1 = 203 := s3.mp (Classical.byContradiction fun z => hq (SPb_0.mpr z))
          rw [if_pos h203]
          refine w_aload_n dX7_readClause_99 rfl rfl ?_
          refine w_getf fX7_43 dX7_readClause_100 RD0 rfl ?_
          refine w_iconst dX7_readClause_103 ?_
          refine w_icmp_ne 121 dX7_readClause_104 (by decide) (by first | assumption | (unfold ok32 at *; omega)) (by first | assumption | (unfold ok32 at *; omega)) (fun hfb => ?_) (fun hfb => ?_)
          · rw [if_neg (by omega)]
            refine w_aload_n dX7_readClause_121 rfl rfl ?_
            refine w_iconst dX7_readClause_122 ?_
            refine wc_Vv (Z := mX7_refuse) (As := [_]) (c7_refuse (by unfold ok32; omega) o2) RD0 rfl kX7_refuse lX7_65 iX7_refuse vX7_refuse dX7_readClause_123 rfl rfl rfl (Nat.le_of_ble_eq_true rfl) ⟨Nat.le_of_ble_eq_true rfl, Nat.le_of_ble_eq_true rfl⟩ ?_
            refine w_goto 134 dX7_readClause_126 (by decide) ?_
            exact x_vret rfl dX7_readClause_134 ⟨rfl, (ba 2, rfF 4 bi), refu 4 (by omega), hh _⟩
          · rw [if_pos (by omega)]
            refine w_aload_n dX7_readClause_107 rfl rfl ?_
            refine w_aload_n dX7_readClause_108 rfl rfl ?_
            refine w_iconst dX7_readClause_109 ?_
            refine w_bipush dX7_readClause_110 (by decide) ?_
            refine wx_V (Z := mX7_readNumber) (As := [_, _]) (c7_readNumber (x := 37 * t + 4) (X := X) h1 hn h4 hy hT h2 (by omega) (by omega) (by omega)) RD0 rfl kX7_readNumber lX7_83 iX7_readNumber vX7_readNumber dX7_readClause_112 rfl rfl rfl (Nat.le_of_ble_eq_true rfl) ⟨Nat.le_of_ble_eq_true rfl, Nat.le_of_ble_eq_true rfl⟩ (fun bj hj => ?_)
            refine rd_pf12 fX7_43 dX7_readClause_115 ?_
            refine w_goto 134 dX7_readClause_118 (by decide) ?_
            refine x_vret rfl dX7_readClause_134 ⟨rfl, (ba 2, u1 bj 12 _), ⟨hj.1, hj.2.1, fun z => ?_, hj.2.2.2 1 (by omega), fun z => hj.2.2.2 3 (Or.inr (Or.inr ⟨rfl, z⟩))⟩, hh _⟩
            obtain ⟨v1, v2⟩ := nm_val z
            refine ⟨RSX.u hX ?_ (hj.2.2.2 9 (by omega)) (hj.2.2.2 10 (by omega)) (fun j j0 j3 j4 => ?_), ⟨?_, ?_⟩, hj.2.2.1, ?_, ?_⟩
            · show bj 8 = (nmT (ba 1) n (37 * t + 4) 1 31 X y.1).2.1 (37 * t)
              rw [v1, u1_n (by omega), hj.2.2.2 8 (by omega)]
              exact hX.1
            · show (nmT (ba 1) n (37 * t + 4) 1 31 X y.1).2.1 j = X j
              rw [v1, u1_n j4]
            · show o = 0 ∧ bj 11 = -1 ∧ (nmT (ba 1) n (37 * t + 4) 1 31 X y.1).2.1 (37 * t + 3) = 1 ∨ o = 1 ∧ bj 11 = (nmT (ba 1) n (37 * t + 4) 1 31 X y.1).2.1 (37 * t + 3)
              rw [v1, u1_n (by omega), hj.2.2.2 11 (by omega)]
              exact C11
            · refine Or.inr ⟨rfl, ?_⟩
              show _ = (nmT (ba 1) n (37 * t + 4) 1 31 X y.1).2.1 (37 * t + 4)
              rw [v1, u1_s]
              rfl
            · show 0 ≤ bj 10
              rw [hj.2.2.2 10 (by omega)]; exact h10.1
            · show bj 10 ≤ 8
              rw [hj.2.2.2 10 (by omega)]; exact h10.2
        · have n203 : ¬ y.2.2.1 = 203 := fun z => SPb_0.mp hq (s3.mpr z)
          rw [if_neg n203]
          refine w_aload_n dX7_readClause_129 rfl rfl ?_
          refine w_iconst dX7_readClause_130 ?_
          refine wc_Vv (Z := mX7_refuse) (As := [_]) (c7_refuse (by unfold ok32; omega) o2) RD0 rfl kX7_refuse lX7_65 iX7_refuse vX7_refuse dX7_readClause_131 rfl rfl rfl (Nat.le_of_ble_eq_true rfl) ⟨Nat.le_of_ble_eq_true rfl, Nat.le_of_ble_eq_true rfl⟩ ?_
          exact x_vret rfl dX7_readClause_134 ⟨rfl, (ba 2, rfF 1 bi), refu 1 (by omega), hh _⟩

