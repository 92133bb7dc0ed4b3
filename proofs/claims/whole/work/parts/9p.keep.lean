/-! the world: a step is kept -/
theorem REL.same {sa : Nat → Nat → Int} {si : Nat → Int} {sl : Nat → BitVec 64} {B D : Nat → Int} {L R C : Nat} (H : REL sa si sl B L R C) (hV : VC B L R C) (hs : ∀ k, 3 ≤ k → k < 433 → D k = B k) : REL sa si sl D L R C := by
  obtain ⟨⟨s1, s2, s3, s4, s5, s6⟩, ⟨g8, g9⟩, ⟨n, l7, lb, hBK⟩, b1, b2, b3, b4, b6⟩ := H
  obtain ⟨v1, v2, v3, v4, v5, v6, v7⟩ := id hV
  have hLC := mulLe (a := L) (b := C) (x := 6) (y := 8) (by omega) (by omega)
  have hLR := mulLe (a := L) (b := R) (x := 6) (y := 4) (by omega) (by omega)
  have hsh : ∀ k, k < 32 → shA D k = shA B k := fun k hk => hs (14 + k) (by omega) (by omega)
  have hg : gA D (L * C) = gA B (L * C) := gset_c (fun b hb => hs (96 + b) (by omega) (by omega))
  have hcs : ∀ i, i < L * R → cs D L C i = cs B L C i := fun i hi => csetN_sh (fun j hj => hsh _ (by have := rowLt hi v4.1; omega))
  refine ⟨⟨?_, s2.trans (hs 12 (by omega) (by omega)).symm, s3.trans (hs 8 (by omega) (by omega)).symm, s4.trans (hs 9 (by omega) (by omega)).symm, s5.trans (hs 10 (by omega) (by omega)).symm, s6.trans (hs 11 (by omega) (by omega)).symm⟩, ⟨by rw [hg]; exact g8, by rw [hg, oddN_c hcs]; exact g9⟩, ⟨n, l7, by rw [hs 10 (by omega) (by omega), hs 11 (by omega) (by omega)]; exact lb, hBK.same (fun _ _ => rfl) (fun k h1 h2 => hs k (by omega) (by omega))⟩, fun b hb => ?_, fun b hb => ?_, fun b hb => ?_, fun k hk j hj hok => ?_, fun p hp => ?_⟩
  · rw [s1]
    exact (sentB_c (hs 46 (by omega) (by omega)) (hs 47 (by omega) (by omega))).symm
  · rw [b1 b hb, hs _ (by omega) (by omega)]
  · rw [b2 b hb, hs _ (by omega) (by omega)]
  · rw [b3 b hb, hs _ (by omega) (by omega)]
  · have e : okc (shA D) L k j = okc (shA B) L k j := by
      unfold okc bitN
      rw [hsh _ (by have := rowLt hk v4.1; omega)]
    rw [e] at hok
    rw [b4 k hk j hj hok, hs _ (by omega) (by omega)]
  · rw [b6 p hp, hs 13 (by omega) (by omega)]
theorem BOK.same {B D : Nat → Int} {L R C : Nat} (H : BOK B L R C) (hs : ∀ k, 3 ≤ k → k < 433 → D k = B k) : BOK D L R C := by
  obtain ⟨a1, a2, a3, a4⟩ := H
  have a5 := a2.2.2.2.2.1
  have a6 := a2.2.2.2.2.2.1
  exact ⟨fun k h1 h2 => by rw [hs k h1 h2]; exact a1 k h1 h2, a2.of (fun k h1 h2 _ => hs k h1 (by omega)), a3.of (fun k h1 h2 _ _ => hs k (by omega) h2), fun i hi j hj => by rw [hs _ (by omega) (by omega)]; exact a4 i hi j hj⟩
theorem SCB.same {h : HP} {ow : Nat → Nat} {cd : Nat → Prop} {a : Nat} {B D : Nat → Int} {L R C c : Nat} (H : SCB h ow cd a B L R C c) (hs : ∀ k, 3 ≤ k → k < 433 → D k = B k) : SCB h ow cd a D L R C c := by
  obtain ⟨sa, si, sl, b1, b2, b3, b4, b5⟩ := H
  exact ⟨sa, si, sl, b1, b2, b3.same b5.2.1 hs, b4.same (fun k h1 h2 _ => hs k h1 (by omega)), b5.same hs⟩
theorem CLS.sc {o : Nat} {h h' : HP} {cap : Nat → Nat} {A im tx tp : Nat → Int} {f4 f5 f6 : Int} {L R C : Nat} (H : CLS o h cap A im tx tp f4 f5 f6 L R C) (h1 : h.1 = h'.1) (h3 : ∀ x, ¬ (o + 35 ≤ x ∧ x ≤ o + 42) → ¬ (o + 55 ≤ x ∧ x ≤ o + 59) → h'.2 x = h.2 x) (p : ∃ (c : Nat) (sa : Nat → Nat → Int) (si : Nat → Int) (sl : Nat → BitVec 64), SCP h' (o + 35) c sa si sl) (w : ∃ (bl : Nat → Nat → BitVec 64) (bi : Nat → Int) (bq : Nat → BitVec 64), AWP h' (o + 55) bl bi bq) (f : ∃ (ba : Nat → Nat → Int) (bi : Nat → Int), FLP h' (o + 57) ba bi) : CLS o h' cap A im tx tp f4 f5 f6 L R C := by
  obtain ⟨ow, cd, cb, c, ⟨⟨a1, a2⟩, a3, a4, ⟨a5, a6⟩, ⟨a7, a8, L', R', C', c', a9⟩, ⟨ba, bi, r1, r2⟩, -, a10, -, a11⟩, b⟩ := H
  have g1 : h.1 ≤ h'.1 := by omega
  have hn : ∀ x, 1 ≤ ow x → h'.2 x = h.2 x := fun x ho => h3 x (fun z => by have := a2 x (by unfold stZ; omega); omega) (fun z => by have := a2 x (by unfold stZ; omega); omega)
  refine ⟨ow, cd, cb, c, ⟨⟨by omega, a2⟩, a3.go g1 (fun _ _ => rfl) (fun x _ ho => hn x (by omega)), (h3 o (by omega) (by omega)).trans a4, ⟨?_, ?_⟩, ⟨?_, ?_, L', R', C', c', ?_⟩, ⟨ba, bi, fun j hj => (h3 _ (by omega) (by omega)).trans (r1 j hj), r2⟩, p, ?_, ⟨w, f⟩, a11⟩, b.go g1 (fun _ _ => rfl) (fun x _ ho => hn x (by omega)) (fun j hj => h3 _ (by omega) (by omega))⟩
  · exact a5.go g1 (fun _ _ => rfl) (fun x _ ho => hn x (by omega)) ⟨h3 _ (by omega) (by omega), h3 _ (by omega) (by omega)⟩ (fun _ z => z)
  · exact a6.go g1 (fun _ _ => rfl) (fun x _ ho => hn x (by omega)) ⟨h3 _ (by omega) (by omega), h3 _ (by omega) (by omega)⟩ (fun _ z => z) rfl (fun _ _ => rfl)
  · exact a7.go g1 (fun _ _ => rfl) (fun x _ ho => hn x (by omega)) ⟨h3 _ (by omega) (by omega), h3 _ (by omega) (by omega)⟩ (fun _ z => z)
  · exact a8.go g1 (fun _ _ => rfl) (fun x _ ho => hn x (by omega)) ⟨h3 _ (by omega) (by omega), h3 _ (by omega) (by omega)⟩ (fun _ z => z) rfl (fun _ _ => rfl)
  · exact a9.go g1 (fun _ _ => rfl) (fun x _ ho => hn x (by omega)) (fun j hj => h3 _ (by omega) (by omega))
  · exact a10.go g1 (fun _ _ => rfl) (fun x _ ho => hn x (by omega)) (fun x hx2 => h3 x (by omega) (by omega)) (fun c hc => ⟨hc, rfl⟩)
/-! the past of kpA -/
theorem kp_1 {A : Nat → Int} (h : 0 ≤ A 1 ∧ A 1 ≤ 20) : (kpA A 1).toNat = cntP (A 1).toNat ∧ (0 ≤ kpA A 1 ∧ kpA A 1 ≤ 20) := by
  unfold kpA cntP
  by_cases h20 : A 1 = 20
  · rw [if_pos h20, u1_s, if_pos (by omega)]; omega
  · rw [if_neg h20, u1_s, if_neg (by omega)]; omega
theorem kp_0 {A : Nat → Int} : kpA A 0 = A 0 := by
  unfold kpA
  split
  · rw [u1_n (by omega), fillR_n (by omega), u1_n (by omega), u1_n (by omega)]
  · rw [u1_n (by omega), fillR_n (by omega)]
/-- the new one of the past is what is now; the others stay, one further on where all twenty were there -/
theorem kp_bk {A : Nat → Int} {i : Nat} (h : 0 ≤ A 1 ∧ A 1 ≤ 20) (h2 : 0 ≤ A 2 ∧ A 2 < 20) (hi : i < cntP (A 1).toNat) : (i + 1 = cntP (A 1).toNat → ∀ k, 3 ≤ k → k < 433 → bkA (kpA A) i k = A k) ∧ (i + 1 < cntP (A 1).toNat → ∀ k, 3 ≤ k → k < 433 → bkA (kpA A) i k = bkA A (if A 1 = 20 then i + 1 else i) k) := by
  unfold cntP at hi ⊢
  by_cases h20 : A 1 = 20
  · have e2 : kpA A 2 = (A 2 + 1) % 20 := by
      unfold kpA
      rw [if_pos h20, u1_n (by omega), fillR_n (by omega), u1_n (by omega), u1_s]
    have ek : ∀ x, 433 ≤ x → kpA A x = if 433 + 430 * (((A 2 + 1) % 20 + 19).toNat % 20) ≤ x ∧ x < 433 + 430 * (((A 2 + 1) % 20 + 19).toNat % 20) + 430 then A (3 + (x - (433 + 430 * (((A 2 + 1) % 20 + 19).toNat % 20)))) else A x := fun x hx => by
      unfold kpA
      rw [if_pos h20, u1_n (by omega)]
      unfold fillR
      split
      · rfl
      · rw [u1_n (by omega), u1_n (by omega)]
    rw [if_pos (by omega)] at hi ⊢
    constructor
    · intro hi2 k k1 k2
      unfold bkA
      rw [e2, ek _ (by omega), if_pos (by omega)]
      congr 1
      omega
    · intro hi2 k k1 k2
      unfold bkA
      rw [e2, ek _ (by omega), if_neg (by omega), if_pos h20]
      congr 1
      omega
  · have e2 : kpA A 2 = A 2 := by
      unfold kpA
      rw [if_neg h20, u1_n (by omega), fillR_n (by omega)]
    have ek : ∀ x, 433 ≤ x → kpA A x = if 433 + 430 * ((A 2 + A 1).toNat % 20) ≤ x ∧ x < 433 + 430 * ((A 2 + A 1).toNat % 20) + 430 then A (3 + (x - (433 + 430 * ((A 2 + A 1).toNat % 20)))) else A x := fun x hx => by
      unfold kpA
      rw [if_neg h20, u1_n (by omega)]
      rfl
    rw [if_neg (by omega)] at hi ⊢
    constructor
    · intro hi2 k k1 k2
      unfold bkA
      rw [e2, ek _ (by omega), if_pos (by omega)]
      congr 1
      omega
    · intro hi2 k k1 k2
      unfold bkA
      rw [e2, ek _ (by omega), if_neg (by omega), if_neg h20]
def KPT (o : Nat) (h h' : HP) (cap : Nat → Nat) (A im tx tp : Nat → Int) (f4 f5 f6 : Int) (ow ow' : Nat → Nat) (cd : Nat → Prop) (cb : Nat → CBK) : Prop := REST o h' cap (kpA A) im tx tp f4 f5 f6 ow' cd cb ∧ FRM o h h' ∧ (∀ x, x < h.1 → ow' x = ow x) ∧ ∀ x, x < h.1 → (ow x = 1 ∨ (o + 12 ≤ x ∧ x ≤ o + 19)) → h'.2 x = h.2 x
set_option maxRecDepth 4000 in
theorem x_keep {o : Nat} {h : HP} {cap : Nat → Nat} {A im tx tp : Nat → Int} {f4 f5 f6 : Int} {ow : Nat → Nat} {cd : Nat → Prop} {cb : Nat → CBK} {L R C c : Nat} (H : REST o h cap A im tx tp f4 f5 f6 ow cd cb) (hb : SCB h ow cd (o + 8 + 4) A L R C c) : sp mX9_keep [.ref o] h 8 413 (fun v h' => v = none ∧ ∃ ow', KPT o h h' cap A im tx tp f4 f5 f6 ow ow' cd cb) := by
  obtain ⟨⟨a1, a2⟩, a3, o_o, ⟨a5, f, sc, a6, a6b⟩, ⟨a7, a8, L', R', C', c', a9⟩, ⟨rba, rbi, r1, r2⟩, ⟨pc, psa, psi, psl, p1⟩, a10, ⟨⟨bl, bi2, bq, w1⟩, fa, fb, w2⟩, ⟨⟨u1', u2, u3⟩, u4, u5⟩⟩ := id H
  obtain ⟨txs, o_h, t2, t3, t4⟩ := id a5
  obtain ⟨sa, si, sl, b1, b2, b3, b4, b5⟩ := id hb
  have o_n : h.2 (o + 8 + 4) = some (.inr (7, sfs (o + 8 + 4) c si sl)) := b1 0 (by omega)
  have h1 : 0 ≤ A 1 ∧ A 1 ≤ 20 := u1' 1
  have h2 : 0 ≤ A 2 ∧ A 2 < 20 := ⟨(u1' 2).1, u3⟩
  have z0 : ∀ x, stZ o x → ow x < 100 := fun x hx => by rw [a2 x hx]; omega
  have pu := c6_put a6 b1 (by omega) (fun j hj => z0 _ (by unfold stZ; omega)) ⟨by unfold outS; omega, by unfold outS; omega⟩
  refine sp_wp rfl (lv := [_]) rfl (Nat.le_of_ble_eq_true rfl) ?_
  refine w_aload_n dX9_keep_0 rfl rfl ?_
  refine w_getf fX9_19 dX9_keep_1 o_o rfl ?_
  refine w_getf fX9_173 dX9_keep_4 o_h rfl ?_
  refine w_aload_n dX9_keep_7 rfl rfl ?_
  refine w_getf fX9_19 dX9_keep_8 o_o rfl ?_
  refine w_getf fX9_89 dX9_keep_11 o_h rfl ?_
  refine w_callV (Z := mX6_put) (As := [_]) pu a6.1 rfl kX6_put lX9_368 iX6_put vX6_put dX9_keep_14 rfl rfl rfl (Nat.le_of_ble_eq_true rfl) ⟨Nat.le_of_ble_eq_true rfl, Nat.le_of_ble_eq_true rfl⟩ (by omega) (by omega) (fun v h' q => ?_)
  obtain ⟨rfl, ow', ⟨q1, q2⟩, q3, q4, sc', an, sn, q5, q6, q7, q8, q9⟩ := q
  refine x_vret rfl dX9_keep_17 ⟨rfl, ow', ?_⟩
  obtain ⟨fs5, fn5, -⟩ := id a6.2.2
  obtain ⟨k1, k12⟩ := kp_1 h1
  have hsl : slotP f (A 1).toNat < 20 := by unfold slotP; split <;> omega
  have same : ∀ x, x < h.1 → x ≠ o + 8 + 1 → x ≠ o + 8 + 1 + 1 → ¬ (100 ≤ ow x ∧ ow x < 120) → h'.2 x = h.2 x := fun x hx n1 n2 n3 => q4 x hx n1 n2 (by omega)
  have st : ∀ x, x ≤ o + 72 → stZ o x → x ≠ o + 8 + 1 → x ≠ o + 8 + 1 + 1 → h'.2 x = h.2 x := fun x hx hz n1 n2 => same x (by omega) n1 n2 (by rw [a2 x hz]; omega)
  have one : ∀ x, x < h.1 → ow x = 1 → h'.2 x = h.2 x := fun x hx ho => same x hx (fun e => by have := a2 x (by unfold stZ; omega); omega) (fun e => by have := a2 x (by unfold stZ; omega); omega) (by omega)
  have oth : ∀ x, x < h.1 → 1 ≤ ow x → ¬ (100 ≤ ow x ∧ ow x < 120) → h'.2 x = h.2 x := fun x hx ho => same x hx (fun e => by have := a2 x (by unfold stZ; omega); omega) (fun e => by have := a2 x (by unfold stZ; omega); omega)
  have hin : INV (kpA A) := (kpA_i u1' u3).1
  refine ⟨⟨⟨by omega, fun x hx => ?_⟩, a3.go q1 q3 (fun x hx ho => oth x hx (by omega) (by omega)), (st o (by omega) (by unfold stZ; omega) (by omega) (by omega)).trans o_o, ⟨?_, fstP f (A 1).toNat, sc', ?_, fun i hi => ?_⟩, ⟨?_, ?_, L', R', C', c', ?_⟩, ⟨rba, rbi, fun j hj => (st _ (by omega) (by unfold stZ; omega) (by omega) (by omega)).trans (r1 j hj), r2⟩, ⟨pc, psa, psi, psl, fun j hj => (st _ (by omega) (by unfold stZ; omega) (by omega) (by omega)).trans (p1 j hj)⟩, ?_, ⟨⟨bl, bi2, bq, fun j hj => (st _ (by omega) (by unfold stZ; omega) (by omega) (by omega)).trans (w1 j hj)⟩, fa, fb, fun j hj => (st _ (by omega) (by unfold stZ; omega) (by omega) (by omega)).trans (w2 j hj)⟩, ⟨⟨hin, by rw [kp_0]; exact u2, (kpA_i u1' u3).2⟩, by rw [kp_0]; exact u4, by rw [kp_0]; exact u5⟩⟩, ⟨q1, fun x hx => ?_⟩, q3, fun x hx ho => ?_⟩
  · by_cases hxl : x < h.1
    · rw [q3 x hxl]; exact a2 x hx
    · unfold stZ at hx; omega
  · rw [kp_0]
    exact a5.go q1 q3 one ⟨st _ (by omega) (by unfold stZ; omega) (by omega) (by omega), st _ (by omega) (by unfold stZ; omega) (by omega) (by omega)⟩ (fun _ z => z)
  · rw [k1]; exact q5
  · rw [k1] at hi
    obtain ⟨kb1, kb2⟩ := kp_bk h1 h2 hi
    by_cases hl : i + 1 = cntP (A 1).toNat
    · refine ⟨an, c, L, R, C, ?_, ?_⟩
      · rw [show (fstP f (A 1).toNat + i) % 20 = slotP f (A 1).toNat from by
          unfold fstP slotP
          unfold cntP at hl
          split
          · rename_i e; rw [if_pos e] at hl; omega
          · rename_i e; rw [if_neg e] at hl; omega]
        exact q6
      · refine SCB.same (B := A) ?_ (kb1 hl)
        exact ⟨sn, si, sl, q7, b2, b3.copy q8 b5.2.1, cdq_go b4 q1 q3 one, b5⟩
    · have hsn : (fstP f (A 1).toNat + i) % 20 ≠ slotP f (A 1).toNat := by
        unfold fstP slotP
        unfold cntP at hl hi
        split
        · rename_i e; rw [if_pos e] at hl hi; omega
        · rename_i e; rw [if_neg e] at hl hi; omega
      have hj : (if A 1 = 20 then i + 1 else i) < (A 1).toNat := by
        unfold cntP at hl hi
        split
        · rename_i e; rw [if_pos (by omega)] at hl hi; omega
        · rename_i e; rw [if_neg (by omega)] at hl hi; omega
      have hje : (f + (if A 1 = 20 then i + 1 else i)) % 20 = (fstP f (A 1).toNat + i) % 20 := by
        unfold fstP
        split
        · rename_i e; rw [if_pos (by omega)]; omega
        · rename_i e; rw [if_neg (by omega)]
      obtain ⟨ax, cx, Lx, Rx, Cx, e1, e2⟩ := a6b _ hj
      rw [hje] at e1
      have hs := a6.2.2.2.2.2 _ (Nat.mod_lt _ (by omega)) ax e1
      refine ⟨ax, cx, Lx, Rx, Cx, (q9 _ hsn).trans e1, ?_⟩
      refine SCB.same (e2.go q1 q3 one (fun j hj => q4 _ (by omega) (fun z => ?_) (fun z => ?_) (by rw [hs.2.1 j hj]; omega))) (kb2 (by omega))
      · have := a2 (ax + j) (by unfold stZ; omega)
        have := hs.2.1 j hj
        omega
      · have := a2 (ax + j) (by unfold stZ; omega)
        have := hs.2.1 j hj
        omega
  · exact a7.go q1 q3 one ⟨st _ (by omega) (by unfold stZ; omega) (by omega) (by omega), st _ (by omega) (by unfold stZ; omega) (by omega) (by omega)⟩ (fun _ z => z)
  · exact a8.go q1 q3 (fun x hx ho => oth x hx (by omega) (by omega)) ⟨st _ (by omega) (by unfold stZ; omega) (by omega) (by omega), st _ (by omega) (by unfold stZ; omega) (by omega) (by omega)⟩ (fun _ z => z) rfl (fun _ _ => rfl)
  · exact a9.go q1 q3 one (fun j hj => st _ (by omega) (by unfold stZ; omega) (by omega) (by omega))
  · exact a10.go q1 q3 (fun x hx ho => oth x hx (by omega) (by omega)) (fun x hx2 => st x (by omega) (by unfold stZ; omega) (by omega) (by omega)) (fun c hc => ⟨hc, rfl⟩)
  · exact st x (by omega) (by unfold stZ; omega) (by omega) (by omega)
  · rcases ho with ho | ho
    · exact one x hx ho
    · exact st x (by omega) (by unfold stZ; omega) (by omega) (by omega)

