/-! the census counts -/
def outJ (a la n : Nat) : Nat → Prop := fun x => outC a x ∧ x ≠ a + 1 ∧ x ≠ a + 2 ∧ x ≠ la ∧ x < n
def ksr (kd : Nat) : Nat := if kd = 0 then 2 else if kd = 1 then 1 else if kd = 2 then 3 else 0
/-- what a kind tells apart -/
noncomputable def knQ (B : Nat → Int) (L R C kd : Nat) : BitVec 64 → Bool := fun x => dP (srtP (cs B L C) (fun b => hgB (cs B L C) b (L * R)) (L * R) (ksr kd) x)
noncomputable def knE (B : Nat → Int) (L R C kd k : Nat) : List (BitVec 64) := (cm (L * C) 0 k 0#64).filter (knQ B L R C kd)
def lsH (a c K : Nat) (Ls : Nat → Option Nat) (h : HP) : HP := (h.1, up h.2 (a + 1) (aR 2 5 (u1 Ls K (some c))))
/-- how the census stands when the sets of D are counted -/
def CST (a c k kd c0 : Nat) (H0 : HP) (A : Nat → Option Nat) (la : Nat) (z8 : Nat → Int) (h1 : HP) (gg : Nat → Nat → Int) (D : List (BitVec 64)) : Prop := (kd = 3 → gg 8 = u1 z8 (k + 1) (D.length : Int) ∧ LDS a (k + 1) c0 H0 h1 A la D) ∧ (kd ≠ 3 → gg 8 = z8 ∧ h1 = H0)
theorem cnt_fil {Q : BitVec 64 → Bool} {l : List (BitVec 64)} : l.countP Q = (l.filter Q).length := List.countP_eq_length_filter
theorem pfx_of {M : Nat → BitVec 32} {n k b : Nat} {p : Nat → Nat} {g : Nat → Nat → Int} (hA : AHD M n k p g) (hb : b < 64) (hf : (if k = 0 then 0 else p (k - 1) + 1) ≤ b) : PFX p k b := by
  refine ⟨hb, fun i hi => ?_, hA.2.2.1⟩
  rw [if_neg (by omega)] at hf
  by_cases hik : i = k - 1
  · rw [hik]; omega
  · have := inc_lt hA.2.2.1 (d := k - 1 - i - 1) (i := i) (by omega)
    rw [show i + (k - 1 - i - 1) + 1 = k - 1 by omega] at this
    omega
theorem srt_0 {c : Nat → BitVec 64} {M : Nat → BitVec 32} {m : Nat} {x : BitVec 64} : srtP c M m (ksr 3) x ↔ lstP M x := Iff.rfl
theorem srt_1 {c : Nat → BitVec 64} {M : Nat → BitVec 32} {m : Nat} {x : BitVec 64} : srtP c M m (ksr 1) x ↔ ∀ i, i < m → ¬ pop (c i &&& x) = 1 := Iff.rfl
theorem srt_2 {c : Nat → BitVec 64} {M : Nat → BitVec 32} {m : Nat} {x : BitVec 64} : srtP c M m (ksr 0) x ↔ ∀ i, i < m → ¬ pop (c i &&& x) % 2 = 1 := Iff.rfl
theorem srt_3 {c : Nat → BitVec 64} {M : Nat → BitVec 32} {m : Nat} {x : BitVec 64} : srtP c M m (ksr 2) x ↔ plF c m 65 x = 0#64 := Iff.rfl
theorem cm1_zero {N : Nat} {acc : BitVec 64} {Q : BitVec 64 → Bool} : ∀ (m f : Nat), N ≤ f + m → (∀ b, f ≤ b → b < N → ¬ Q (acc ||| (1#64 <<< b)) = true) → (cm N f 1 acc).countP Q = 0
  | 0, f, h, _ => by rw [cm_nil (by omega) (by omega)]; rfl
  | m + 1, f, h, hq => by
    by_cases hf : f < N
    · rw [cm_1 hf, List.countP_cons, cm1_zero m (f + 1) (by omega) (fun b h1 h2 => hq b (by omega) h2), if_neg (hq f (by omega) hf)]
    · rw [cm_nil (by omega) (by omega)]; rfl
set_option maxRecDepth 8000 in
set_option maxHeartbeats 4000000 in
theorem c1_count {a c : Nat} {ba : Nat → Nat → Int} {bi : Nat → Int} {bf : Nat → Nat} {h0 : HP} {B : Nat → Int} {L R C k kd la c0 : Nat} {A Ls : Nat → Option Nat} {g : Nat → BitVec 64} (hC : CDQ (outJ a la h0.1) h0 c B L R C) (hkd : kd < 4) (hk : k ≤ 3) (hls : h0.2 (a + 1) = some (aR 2 5 Ls)) (hL : LSP a (k + 1) h0 A la c0 g) (h10 : ba 10 0 = 0) (h11 : ba 11 0 = 0) (ha : a + 11 < h0.1) (hla : la < h0.1) (hc0 : c0 ≤ 500000) : sp mX1_count [.ref a, .ref c, .int (zI (kd : Int)), .int (zI ((k + 1 : Nat) : Int))] (CUH a ba bi bf h0) (if kd = 3 then gcp c0 (knE B L R C kd (k + 1)).length - c0 else 0) (2 * (if kd = 3 then gcp c0 (knE B L R C kd (k + 1)).length - c0 else 0)) (px (some (.int (zI ((knE B L R C kd (k + 1)).length : Int)))) (fun q : HP × (Nat → Nat → Int) => q.2 10 0 = 0 ∧ q.2 11 0 = 0 ∧ CST a c k kd c0 (if kd = 3 then lsH a c (k + 1) Ls h0 else h0) A la (ba 8) q.1 q.2 (knE B L R C kd (k + 1))) (fun q => CUH a q.2 (u1 (u1 bi 8 ((k + 1 : Nat) : Int)) 7 (k : Int)) (u1 bf 0 c) q.1)) := by
  have hV := hC.vc
  obtain ⟨v1, v2, v3, v4, v5, v6, v7⟩ := id hV
  have hLC := mulLe (a := L) (b := C) (x := 6) (y := 8) (by omega) (by omega)
  have hLC1 : 1 ≤ L * C := Nat.mul_pos (by omega) (by omega)
  have hLR := mulLe (a := L) (b := R) (x := 6) (y := 4) (by omega) (by omega)
  obtain ⟨l1, l2, l3, l4⟩ := id hL
  have nl1 : la ≠ a + 1 := fun e => by rw [e, hls] at l3; cases l3
  obtain ⟨H0, hH0⟩ : ∃ H0, (if kd = 3 then lsH a c (k + 1) Ls h0 else h0) = H0 := ⟨_, rfl⟩
  have H01 : H0.1 = h0.1 := by rw [← hH0]; split <;> rfl
  have H02 : ∀ x, x ≠ a + 1 → H0.2 x = h0.2 x := fun x hx => by
    rw [← hH0]
    split
    · exact up_n hx
    · rfl
  have hC0 : CDQ (outK a la H0.1) H0 c B L R C := hC.mono (fun x hx => ⟨hx.1, hx.2.2.1, hx.2.2.2.1, by rw [H01]; exact hx.2.2.2.2⟩) (fun x hx => H02 x hx.2.1)
  have hL0 : LSP a (k + 1) H0 A la c0 g := ⟨(H02 _ (by omega)).trans l1, l2, (H02 _ nl1).trans l3, l4⟩
  have hM : MSK (fun b => hgB (cs B L C) b (L * R)) (cs B L C) (L * R) := msk_hgB (by omega)
  obtain ⟨Q, hQe⟩ : ∃ Q, knQ B L R C kd = Q := ⟨_, rfl⟩
  have hQi : ∀ x, Q x = true ↔ srtP (cs B L C) (fun b => hgB (cs B L C) b (L * R)) (L * R) (ksr kd) x := fun x => by rw [← hQe]; exact dP_iff
  obtain ⟨bi1, hbi⟩ : ∃ bi1, u1 (u1 bi 8 ((k + 1 : Nat) : Int)) 7 (k : Int) = bi1 := ⟨_, rfl⟩
  have h7 : bi1 7 = (k : Int) := by rw [← hbi, u1_s]
  have h8' : bi1 8 = ((k + 1 : Nat) : Int) := by rw [← hbi, u1_n (by decide), u1_s]
  have h8 : bi1 8 = (k : Int) + 1 := by rw [h8']; push_cast; rfl
  obtain ⟨bf1, hbf⟩ : ∃ bf1, u1 bf 0 c = bf1 := ⟨_, rfl⟩
  have hb : bf1 0 = c := by rw [← hbf, u1_s]
  obtain ⟨E, hE⟩ : ∃ E, knE B L R C kd (k + 1) = E := ⟨_, rfl⟩
  have hE0 : (cm (L * C) 0 (k + 1) 0#64).filter Q = E := by rw [← hE, ← hQe]; rfl
  have hElen : E.length ≤ 194580 := by
    rw [← hE0]
    exact Nat.le_trans (List.length_filter_le _ _) (cm_len (by omega) (by omega))
  rw [hH0, hE]
  obtain ⟨N, hN⟩ : ∃ N, L * C = N := ⟨_, rfl⟩
  rw [hN] at hLC hLC1 hE0
  obtain ⟨Φ, hΦ⟩ : ∃ Φ, (px (some (.int (zI (E.length : Int)))) (fun q : HP × (Nat → Nat → Int) => q.2 10 0 = 0 ∧ q.2 11 0 = 0 ∧ CST a c k kd c0 H0 A la (ba 8) q.1 q.2 E) (fun q => CUH a q.2 (u1 (u1 bi 8 ((k + 1 : Nat) : Int)) 7 (k : Int)) (u1 bf 0 c) q.1)) = Φ := ⟨_, rfl⟩
  rw [hΦ]
  rw [hbi, hbf] at hΦ
  have code : ∀ {h1 : HP} {gg : Nat → Nat → Int} {D : List (BitVec 64)}, CST a c k kd c0 H0 A la (ba 8) h1 gg D → CDQ (outC a) h1 c B L R C := fun {h1 gg D} hg => by
    by_cases h3 : kd = 3
    · obtain ⟨A1, la1, g1, L1, L2, L3⟩ := (hg.1 h3).2
      exact hC0.mono (fun x hx => hx.1) (fun x hx => L2.2.2.2 x hx.2.2.2 hx.2.1 hx.2.2.1)
    · rw [(hg.2 h3).2]
      exact hC0.mono (fun x hx => hx.1) (fun _ _ => rfl)
  have fin : ∀ (h1 : HP) (gg : Nat → Nat → Int) (rc rs : Nat) (x5 x6 : Value), gg 10 0 = 0 → gg 11 0 = 0 → CST a c k kd c0 H0 A la (ba 8) h1 gg E → wp mX1_count 193 [.ref a, .ref c, .int (zI (kd : Int)), .int (zI ((k + 1 : Nat) : Int)), .int (zI (E.length : Int)), x5, x6] [] (CUH a gg bi1 bf1 h1) rc rs Φ := by
    intro h1 gg rc rs x5 x6 g10 g11 hst
    refine w_iload dX1_count_193 rfl ?_
    refine x_iret rfl rfl dX1_count_195 ?_
    rw [← hΦ]
    exact ⟨rfl, (h1, gg), ⟨g10, g11, hst⟩, rfl⟩
  have loop : ∀ (l : List (BitVec 64)) (t : Nat) (h1 : HP) (gg : Nat → Nat → Int) (D : List (BitVec 64)), (l = [] ∨ ∃ p, AHD (fun b => hgB (cs B L C) b (L * R)) (N - 1) k p gg ∧ l = pks p k :: rsL (N - 1) k p k) → t + l.length ≤ 1000000 → gg 10 0 = 0 → gg 11 0 = 0 → CST a c k kd c0 H0 A la (ba 8) h1 gg D → D ++ (l.flatMap (fun x => cm N (tp x) 1 x)).filter Q = E → wp mX1_count 95 [.ref a, .ref c, .int (zI (kd : Int)), .int (zI ((k + 1 : Nat) : Int)), .int (zI (D.length : Int)), .int (zI (bI (¬ l = []))), .int (zI (t : Int))] [] (CUH a gg bi1 bf1 h1) (if kd = 3 then gcp c0 E.length - gcp c0 D.length else 0) (2 * (if kd = 3 then gcp c0 E.length - gcp c0 D.length else 0)) Φ := by
    intro l
    induction l with
    | nil =>
      intro t h1 gg D _ ht g10 g11 hst hD
      have e : D = E := by rw [← hD]; simp
      subst e
      simp only [List.length_nil] at ht
      refine w_iload dX1_count_95 rfl ?_
      refine w_ldc qX1_60 dX1_count_97 ?_
      refine w_cast rfl (show _ = [.int (zI 1000000), .int (zI (t : Int))] from rfl) rfl ?_
      refine w_icmp_ge 193 dX1_count_99 (by decide) (by unfold ok32; omega) (by unfold ok32; omega) (fun _ => fin h1 gg _ _ _ _ g10 g11 hst) (fun _ => ?_)
      refine w_iload dX1_count_102 rfl ?_
      refine w_ifb_eq 193 dX1_count_104 (by decide) (fun _ => fin h1 gg _ _ _ _ g10 g11 hst) (fun z => absurd rfl z)
    | cons x l ih =>
      intro t h1 gg D hl ht g10 g11 hst hD
      rcases hl with hl | ⟨p, hA, hl⟩
      · cases hl
      obtain ⟨hx, hl⟩ := List.cons.inj hl
      have hC1 := code hst
      have hp : ∀ i, i < k → gg 9 i = (p i : Int) ∧ p i < L * C := fun i hi => ⟨hA.1 i hi, by have := hA.2.1 i hi; omega⟩
      have hf0 : tp x = if k = 0 then 0 else p (k - 1) + 1 := by
        rw [hx]
        exact tp_pks (fun i hi => by have := (hp i hi).2; omega) hA.2.2.1
      obtain ⟨f, hf⟩ : ∃ f, (if k = 0 then 0 else p (k - 1) + 1) = f := ⟨_, rfl⟩
      have pfx : ∀ b, f ≤ b → b < N → PFX p k b := fun b h1 h2 => pfx_of hA (by omega) (by rw [hf]; exact h1)
      rw [List.flatMap_cons, List.filter_append, hf0, hf, hx] at hD
      simp only [List.length_cons] at ht
      refine w_iload dX1_count_95 rfl ?_
      refine w_ldc qX1_60 dX1_count_97 ?_
      refine w_cast rfl (show _ = [.int (zI 1000000), .int (zI (t : Int))] from rfl) rfl ?_
      refine w_icmp_ge 193 dX1_count_99 (by decide) (by unfold ok32; omega) (by unfold ok32; omega) (fun z => by omega) (fun _ => ?_)
      refine w_iload dX1_count_102 rfl ?_
      refine w_ifb_eq 193 dX1_count_104 (by decide) (fun z => absurd (List.cons_ne_nil _ _) z) (fun _ => ?_)
      have nx : ∀ (h2 : HP) (g2 : Nat → Nat → Int), (∀ i, i < k → g2 9 i = gg 9 i) → g2 10 = gg 10 → g2 11 = gg 11 → CST a c k kd c0 H0 A la (ba 8) h2 g2 (D ++ (cm N f 1 (pks p k)).filter Q) → ∀ x5 : Value, wp mX1_count 181 [.ref a, .ref c, .int (zI (kd : Int)), .int (zI ((k + 1 : Nat) : Int)), .int (zI ((D ++ (cm N f 1 (pks p k)).filter Q).length : Int)), x5, .int (zI (t : Int))] [] (CUH a g2 bi1 bf1 h2) (if kd = 3 then gcp c0 E.length - gcp c0 (D ++ (cm N f 1 (pks p k)).filter Q).length else 0) (2 * (if kd = 3 then gcp c0 E.length - gcp c0 (D ++ (cm N f 1 (pks p k)).filter Q).length else 0)) Φ := by
        intro h2 g2 q9 q10 q11 hst2 x5
        have hA2 : AHD (fun b => hgB (cs B L C) b (L * R)) (N - 1) k p g2 := ⟨fun i hi => (q9 i hi).trans (hA.1 i hi), hA.2.1, hA.2.2.1, fun i hi => by rw [q10, q11]; exact hA.2.2.2 i hi⟩
        refine w_aload_n dX1_count_181 rfl rfl ?_
        refine wx_V (Z := mX1_turn) (As := []) (c1_turn (ba := g2) (code hst2) hb hk h7 h8 (by omega) hA2) CU0 rfl kX1_turn lX1_74 iX1_turn vX1_turn dX1_count_182 rfl rfl rfl (Nat.le_of_ble_eq_true rfl) ⟨Nat.le_of_ble_eq_true rfl, Nat.le_of_ble_eq_true rfl⟩ (fun g3 hT => ?_)
        refine w_istore (lv' := [_, _, _, _, _, _, _]) dX1_count_185 (Nat.le_of_ble_eq_true rfl) rfl rfl ?_
        refine w_iinc (lv' := [_, _, _, _, _, _, _]) dX1_count_187 rfl rfl rfl ?_
        refine w_goto 95 dX1_count_190 (by decide) ?_
        obtain ⟨t8, tr⟩ := hT
        rw [← hl]
        have hst3 : CST a c k kd c0 H0 A la (ba 8) h2 g3 (D ++ (cm N f 1 (pks p k)).filter Q) := ⟨fun z => ⟨t8.trans (hst2.1 z).1, (hst2.1 z).2⟩, fun z => ⟨t8.trans (hst2.2 z).1, (hst2.2 z).2⟩⟩
        have s0 : ∀ (p' : Nat → Nat), SUMS (fun b => hgB (cs B L C) b (L * R)) p' k g3 → g3 10 0 = 0 ∧ g3 11 0 = 0 := fun p' hs => hs 0 (Nat.zero_le _)
        rcases tr with ⟨e1, e2⟩ | ⟨p', e1, e2⟩
        · have := ih (t + 1) h2 g3 _ (Or.inl (by rw [hl]; exact e1)) (by omega) (by rw [e2, q10]; exact g10) (by rw [e2, q11]; exact g11) hst3 (by rw [List.append_assoc]; exact hD)
          push_cast at this ⊢
          exact this
        · have := ih (t + 1) h2 g3 _ (Or.inr ⟨p', e1, by rw [hl]; exact e2⟩) (by omega) (s0 p' e1.2.2.2).1 (s0 p' e1.2.2.2).2 hst3 (by rw [List.append_assoc]; exact hD)
          push_cast at this ⊢
          exact this
      have lenA : (D ++ (cm N f 1 (pks p k)).filter Q).length = D.length + (cm N f 1 (pks p k)).countP Q := by rw [List.length_append, cnt_fil]
      have nx3 : kd ≠ 3 → ∀ (g2 : Nat → Nat → Int), (∀ i, i < k → g2 9 i = gg 9 i) → g2 8 = gg 8 → g2 10 = gg 10 → g2 11 = gg 11 → ∀ x5 : Value, wp mX1_count 181 [.ref a, .ref c, .int (zI (kd : Int)), .int (zI ((k + 1 : Nat) : Int)), .int (zI ((D.length : Int) + ((cm N f 1 (pks p k)).countP Q : Int))), x5, .int (zI (t : Int))] [] (CUH a g2 bi1 bf1 h1) (if kd = 3 then gcp c0 E.length - gcp c0 D.length else 0) (2 * (if kd = 3 then gcp c0 E.length - gcp c0 D.length else 0)) Φ := by
        intro h3 g2 q9 q8 q10 q11 x5
        have := nx h1 g2 q9 q10 q11 ⟨fun z => absurd z h3, fun z => ⟨q8.trans (hst.2 z).1, (hst.2 z).2⟩⟩ x5
        rw [lenA] at this
        rw [if_neg h3] at this ⊢
        push_cast at this ⊢
        exact this
      refine w_iload_n dX1_count_107 rfl rfl ?_
      rcases (show kd = 0 ∨ kd = 1 ∨ kd = 2 ∨ kd = 3 by omega) with e | e | e | e
      · subst e
        refine w_tsw_in 136 dX1_count_108 (by unfold ok32; omega) (by omega) (by omega) rfl (by decide) ?_
        refine w_iload dX1_count_136 rfl ?_
        refine w_aload_n dX1_count_138 rfl rfl ?_
        refine wc_V (Z := mX1_countWords) (As := []) (c1_countWords (Q := Q) (f := f) (p := p) hC1 hb hk h7 hp hA.2.2.2 hf.symm (fun b b1 b2 => (hQi _).trans (srt_2.trans (words_iff hM (pfx b b1 (by omega))).symm))) CU0 rfl kX1_countWords lX1_61 iX1_countWords vX1_countWords dX1_count_139 rfl rfl rfl (Nat.le_of_ble_eq_true rfl) ⟨Nat.le_of_ble_eq_true rfl, Nat.le_of_ble_eq_true rfl⟩ ?_
        rw [hN]
        refine w_iadd dX1_count_142 ?_
        refine w_istore (lv' := [_, _, _, _, _, _, _]) dX1_count_143 (Nat.le_of_ble_eq_true rfl) rfl rfl ?_
        refine w_goto 181 dX1_count_145 (by decide) ?_
        exact nx3 (by omega) gg (fun _ _ => rfl) rfl rfl rfl _
      · subst e
        refine w_tsw_in 148 dX1_count_108 (by unfold ok32; omega) (by omega) (by omega) rfl (by decide) ?_
        refine w_iload dX1_count_148 rfl ?_
        refine w_aload_n dX1_count_150 rfl rfl ?_
        refine wc_V (Z := mX1_countStoppers) (As := []) (c1_countStoppers (Q := Q) (f := f) (p := p) hC1 hb hk h7 h8 hp hA.2.2.2 hf.symm (fun b b1 b2 => (hQi _).trans (srt_1.trans (stop_iff hM (pfx b b1 (by omega))).symm))) CU0 rfl kX1_countStoppers lX1_65 iX1_countStoppers vX1_countStoppers dX1_count_151 rfl rfl rfl (Nat.le_of_ble_eq_true rfl) ⟨Nat.le_of_ble_eq_true rfl, Nat.le_of_ble_eq_true rfl⟩ ?_
        rw [hN]
        refine w_iadd dX1_count_154 ?_
        refine w_istore (lv' := [_, _, _, _, _, _, _]) dX1_count_155 (Nat.le_of_ble_eq_true rfl) rfl rfl ?_
        refine w_goto 181 dX1_count_157 (by decide) ?_
        exact nx3 (by omega) gg (fun _ _ => rfl) rfl rfl rfl _
      · subst e
        refine w_tsw_in 160 dX1_count_108 (by unfold ok32; omega) (by omega) (by omega) rfl (by decide) ?_
        refine w_iload dX1_count_160 rfl ?_
        refine w_aload_n dX1_count_162 rfl rfl ?_
        have hpi := pre_iff (c := cs B L C) (k := k) (p := p) hM hk (fun i hi => by have := (hp i hi).2; omega) hA.2.2.1
        by_cases hpre : ∀ U, sbs U (pks p k) → STP (cs B L C) (L * R) U → U = 0#64
        · refine wx_V (Z := mX1_countErasables) (As := []) (c1_countErasables (Q := Q) (f := f) (p := p) hC1 hb hk h7 h8 hp hA.2.2.2 hf.symm (fun b b1 b2 => (hQi _).trans (srt_3.trans (era_iff hM hk (pfx b b1 (by omega)) hpre)))) CU0 rfl kX1_countErasables lX1_68 iX1_countErasables vX1_countErasables dX1_count_163 rfl rfl rfl (Nat.le_of_ble_eq_true rfl) ⟨Nat.le_of_ble_eq_true rfl, Nat.le_of_ble_eq_true rfl⟩ (fun g2 hg2 => ?_)
          rw [if_pos (hpi.mpr hpre), hN]
          refine w_iadd dX1_count_166 ?_
          refine w_istore (lv' := [_, _, _, _, _, _, _]) dX1_count_167 (Nat.le_of_ble_eq_true rfl) rfl rfl ?_
          refine w_goto 181 dX1_count_169 (by decide) ?_
          exact nx3 (by omega) g2 hg2.2.2.2 hg2.1 hg2.2.1 hg2.2.2.1 _
        · have hz : (cm N f 1 (pks p k)).countP Q = 0 := cm1_zero N f (by omega) (fun b b1 b2 z => era_not hpre (srt_3.mp ((hQi _).mp z)))
          refine wx_V (Z := mX1_countErasables) (As := []) (c1_countErasables (Q := fun x => dP (¬ hgB (cs B L C) (tp x - 1) (L * R) &&& ~~~ psm (fun b => hgB (cs B L C) b (L * R)) p k = 0#32 ∨ plL (fun b => hgB (cs B L C) b (L * R)) (u1 p k (tp x - 1)) (k + 1) (2 ^ (k + 1) - 1) (k + 1) = 0)) (f := f) (p := p) hC1 hb hk h7 h8 hp hA.2.2.2 hf.symm (fun b b1 b2 => by have hpx := pfx b b1 (by omega); rw [dP_iff, tp_or hpx.1 (fun t ht => by rw [← pkw_all (s := TT) (fun _ _ => rfl)] at ht; obtain ⟨i, a1, -, e1⟩ := (pkw_bit hpx.bd).mp ht; have := hpx.2.1 i a1; omega), Nat.add_sub_cancel])) CU0 rfl kX1_countErasables lX1_68 iX1_countErasables vX1_countErasables dX1_count_163 rfl rfl rfl (Nat.le_of_ble_eq_true rfl) ⟨Nat.le_of_ble_eq_true rfl, Nat.le_of_ble_eq_true rfl⟩ (fun g2 hg2 => ?_)
          rw [if_neg (fun z => hpre (hpi.mp z))]
          refine w_iadd dX1_count_166 ?_
          refine w_istore (lv' := [_, _, _, _, _, _, _]) dX1_count_167 (Nat.le_of_ble_eq_true rfl) rfl rfl ?_
          refine w_goto 181 dX1_count_169 (by decide) ?_
          have := nx3 (by omega) g2 hg2.2.2.2 hg2.1 hg2.2.1 hg2.2.2.1 (.int (zI (bI (¬ x :: l = []))))
          rw [hz] at this
          exact this
      · subst e
        rw [if_pos rfl]
        obtain ⟨s8, A1, la1, g1, L1, L2, L3⟩ := hst.1 rfl
        have hDl : (D ++ (cm N f 1 (pks p k)).filter Q).length ≤ E.length := by rw [← hD, List.length_append, List.length_append, List.length_append]; omega
        have L21 := L2.1
        have L22 := L2.2.1
        have cc := c1_countKnots (ba := gg) (bi := bi1) (bf := bf1) (h0 := h1) (la := la1) (c0 := c0) (A := A1) (g := g1) (D := D) (Q := Q) (f := f) (p := p) (hC0.mono (P' := outK a la1 h1.1) (fun x hx => ⟨hx.1, hx.2.1, by have := hx.2.2.1; have := hx.2.2.2; omega, by have := hx.2.2.2; omega⟩) (fun x hx => L2.2.2.2 x hx.2.2.2 hx.2.1 hx.2.2.1)) hb hk h7 h8 hp hA.2.2.2 hf.symm L1 L3 (by rw [s8, u1_s]) (by omega) (by omega) hc0 (by rw [hN]; omega) (fun b b1 b2 => (hQi _).trans (srt_0.trans (lst_iff hM (pfx b b1 (by omega)))))
        rw [hN] at cc
        have hgm := gcp_m (c := c0) (n := (D ++ (cm N f 1 (pks p k)).filter Q).length) (d := E.length - (D ++ (cm N f 1 (pks p k)).filter Q).length)
        rw [show (D ++ (cm N f 1 (pks p k)).filter Q).length + (E.length - (D ++ (cm N f 1 (pks p k)).filter Q).length) = E.length by omega] at hgm
        have hgd := gcp_m (c := c0) (n := D.length) (d := ((cm N f 1 (pks p k)).filter Q).length)
        rw [← List.length_append] at hgd
        refine w_tsw_out 172 dX1_count_108 (by unfold ok32; omega) (by omega) (by decide) ?_
        refine w_iload dX1_count_172 rfl ?_
        refine w_aload_n dX1_count_174 rfl rfl ?_
        refine w_callV (Z := mX1_countKnots) (As := []) cc CU0 rfl kX1_countKnots lX1_71 iX1_countKnots vX1_countKnots dX1_count_175 rfl rfl rfl (Nat.le_of_ble_eq_true rfl) ⟨Nat.le_of_ble_eq_true rfl, Nat.le_of_ble_eq_true rfl⟩ (by omega) (by omega) (fun v h' q => ?_)
        obtain ⟨rfl, ⟨h2, g2⟩, ⟨k1, A2, la2, g2', M1, M2, M3⟩, rfl⟩ := q
        have hlen : (D ++ (cm N f 1 (pks p k)).filter Q).length = D.length + ((cm N f 1 (pks p k)).filter Q).length := List.length_append
        have := nx h2 g2 k1.2.2.2.2 k1.2.2.1 k1.2.2.2.1 ⟨fun _ => ⟨funext fun i => ?_, A2, la2, g2', M1, L2.trans M2, M3⟩, fun z => absurd rfl z⟩ (.int (zI (bI (¬ x :: l = []))))
        · rw [if_pos rfl, hlen] at this
          rw [show gcp c0 E.length - gcp c0 D.length - (gcp c0 (D ++ (cm N f 1 (pks p k)).filter Q).length - gcp c0 D.length) = gcp c0 E.length - gcp c0 (D ++ (cm N f 1 (pks p k)).filter Q).length by omega, show 2 * (gcp c0 E.length - gcp c0 D.length) - 2 * (gcp c0 (D ++ (cm N f 1 (pks p k)).filter Q).length - gcp c0 D.length) = 2 * (gcp c0 E.length - gcp c0 (D ++ (cm N f 1 (pks p k)).filter Q).length) by omega, hlen]
          refine w_cast rfl rfl rfl ?_
          refine w_iadd dX1_count_178 ?_
          refine w_istore (lv' := [_, _, _, _, _, _, _]) dX1_count_179 (Nat.le_of_ble_eq_true rfl) rfl rfl ?_
          push_cast at this ⊢
          exact this
        · by_cases hi : i = k + 1
          · rw [hi, u1_s]; exact k1.2.1
          · rw [u1_n hi]
            exact (k1.1 i hi).trans (by rw [s8, u1_n hi])
  have main : ∀ b1 : Nat → Nat → Int, b1 8 = (if kd = 3 then u1 (ba 8) (k + 1) 0 else ba 8) → b1 10 = ba 10 → b1 11 = ba 11 → wp mX1_count 36 [.ref a, .ref c, .int (zI (kd : Int)), .int (zI ((k + 1 : Nat) : Int)), jk, jk, jk] [] (CUH a b1 bi1 bf1 H0) (if kd = 3 then gcp c0 E.length - c0 else 0) (2 * (if kd = 3 then gcp c0 E.length - c0 else 0)) Φ := by
    intro b1 z8 z10 z11
    have hst : ∀ gg : Nat → Nat → Int, gg 8 = b1 8 → CST a c k kd c0 H0 A la (ba 8) H0 gg [] := fun gg g8 => ⟨fun h3 => ⟨by rw [g8, z8, if_pos h3]; rfl, A, la, g, hL0, LGO.refl, fun i x hx => by simp at hx⟩, fun h3 => ⟨by rw [g8, z8, if_neg h3], rfl⟩⟩
    have hC1 := code (hst b1 rfl)
    obtain ⟨ad, f7, f8, f10, f9, f11, rk, cr, hV', h6, h7', o_c0, r70, r80, r90, r100, r110, e7, e8, e9, e10, hRD, p0, p7, p8, p9, p10, p11⟩ := id hC1
    have o_c : (CUH a b1 bi1 bf1 H0).2 c = some (.inr (2, cfs L R C (B 6) (B 7) ad rk cr)) := CUo p0 o_c0
    have picks : ∀ z : Int, (∀ gg : Nat → Nat → Int, gg 8 = b1 8 → gg 10 = b1 10 → gg 11 = b1 11 → (∀ j, j < k → gg 9 j = (j : Int)) → wp mX1_count 87 [.ref a, .ref c, .int (zI (kd : Int)), .int (zI ((k + 1 : Nat) : Int)), .int (zI 0), .int (zI z), .int (zI (k : Int))] [] (CUH a gg bi1 bf1 H0) (if kd = 3 then gcp c0 E.length - c0 else 0) (2 * (if kd = 3 then gcp c0 E.length - c0 else 0)) Φ) → wp mX1_count 60 [.ref a, .ref c, .int (zI (kd : Int)), .int (zI ((k + 1 : Nat) : Int)), .int (zI 0), .int (zI z), jk] [] (CUH a b1 bi1 bf1 H0) (if kd = 3 then gcp c0 E.length - c0 else 0) (2 * (if kd = 3 then gcp c0 E.length - c0 else 0)) Φ := by
      intro z nxt
      refine w_iconst dX1_count_60 ?_
      refine w_istore (lv' := [_, _, _, _, _, _, _]) dX1_count_61 (Nat.le_of_ble_eq_true rfl) rfl rfl ?_
      have lp : ∀ i, i ≤ k → ∀ gg : Nat → Nat → Int, gg 8 = b1 8 → gg 10 = b1 10 → gg 11 = b1 11 → (∀ j, j < i → gg 9 j = (j : Int)) → wp mX1_count 63 [.ref a, .ref c, .int (zI (kd : Int)), .int (zI ((k + 1 : Nat) : Int)), .int (zI 0), .int (zI z), .int (zI (i : Int))] [] (CUH a gg bi1 bf1 H0) (if kd = 3 then gcp c0 E.length - c0 else 0) (2 * (if kd = 3 then gcp c0 E.length - c0 else 0)) Φ := by
        refine up_ind (P := fun i => ∀ gg : Nat → Nat → Int, gg 8 = b1 8 → gg 10 = b1 10 → gg 11 = b1 11 → (∀ j, j < i → gg 9 j = (j : Int)) → wp mX1_count 63 [.ref a, .ref c, .int (zI (kd : Int)), .int (zI ((k + 1 : Nat) : Int)), .int (zI 0), .int (zI z), .int (zI (i : Int))] [] (CUH a gg bi1 bf1 H0) (if kd = 3 then gcp c0 E.length - c0 else 0) (2 * (if kd = 3 then gcp c0 E.length - c0 else 0)) Φ) (fun i hi ih gg g8 g10 g11 g9 => ?_)
        refine w_iload dX1_count_63 rfl ?_
        refine w_aload_n dX1_count_65 rfl rfl ?_
        refine w_getf fX1_50 dX1_count_66 CU0 rfl ?_
        rw [h7]
        refine w_icmp_ge 87 dX1_count_69 (by decide) (by unfold ok32; omega) (by unfold ok32; omega) (fun hc => ?_) (fun hc => ?_)
        · have : i = k := by omega
          subst this
          exact nxt gg g8 g10 g11 g9
        · refine w_aload_n dX1_count_72 rfl rfl ?_
          refine w_getf fX1_26 dX1_count_73 CU0 rfl ?_
          refine w_iload dX1_count_76 rfl ?_
          refine w_iload dX1_count_78 rfl ?_
          refine cu_ist9 i rfl (by omega) dX1_count_80 ?_
          refine w_iinc (lv' := [_, _, _, _, _, _, _]) dX1_count_81 rfl rfl rfl ?_
          refine w_goto 63 dX1_count_84 (by decide) ?_
          have := ih (by omega) (u1 gg 9 (u1 (gg 9) i (i : Int))) g8 g10 g11 (fun j hj => by
            show u1 (gg 9) i (i : Int) j = _
            by_cases hji : j = i
            · rw [hji, u1_s]
            · rw [u1_n hji]; exact g9 j (by omega))
          push_cast at this
          exact this
      exact lp 0 (Nat.zero_le _) b1 rfl rfl rfl (fun j hj => absurd hj (Nat.not_lt_zero _))
    refine w_iconst dX1_count_36 ?_
    refine w_istore (lv' := [_, _, _, _, _, _, _]) dX1_count_37 (Nat.le_of_ble_eq_true rfl) rfl rfl ?_
    refine w_aload_n dX1_count_39 rfl rfl ?_
    refine w_getf fX1_50 dX1_count_40 CU0 rfl ?_
    rw [h7]
    refine w_aload_n dX1_count_43 rfl rfl ?_
    refine w_getf fX1_35 dX1_count_44 CU0 rfl ?_
    rw [hb]
    refine w_getf fX1_53 dX1_count_47 o_c rfl ?_
    rw [hN]
    refine w_icmp_ge 57 dX1_count_50 (by decide) (by unfold ok32; omega) (by unfold ok32; omega) (fun hc => ?_) (fun hc => ?_)
    · have hEn : E = [] := by rw [← hE0, cm_nil (by omega) (by omega)]; rfl
      refine w_iconst dX1_count_57 ?_
      refine w_istore (lv' := [_, _, _, _, _, _, _]) dX1_count_58 (Nat.le_of_ble_eq_true rfl) rfl rfl ?_
      refine picks 0 (fun gg g8 g10 g11 g9 => ?_)
      refine w_aload_n dX1_count_87 rfl rfl ?_
      refine w_iconst dX1_count_88 ?_
      refine wx_Vv (Z := mX1_refresh) (As := [_]) (c1_refreshX (p := fun i => i) hC1 hb hk h7 (fun i hi => ⟨g9 i hi, by omega⟩)) CU0 rfl kX1_refresh lX1_56 iX1_refresh vX1_refresh dX1_count_89 rfl rfl rfl (Nat.le_of_ble_eq_true rfl) ⟨Nat.le_of_ble_eq_true rfl, Nat.le_of_ble_eq_true rfl⟩ (fun g2 hg2 => ?_)
      refine w_iconst dX1_count_92 ?_
      refine w_istore (lv' := [_, _, _, _, _, _, _]) dX1_count_93 (Nat.le_of_ble_eq_true rfl) rfl rfl ?_
      refine w_iload dX1_count_95 rfl ?_
      refine w_ldc qX1_60 dX1_count_97 ?_
      refine w_cast rfl (show _ = [.int (zI 1000000), .int (zI 0)] from rfl) rfl ?_
      refine w_icmp_ge 193 dX1_count_99 (by decide) (by unfold ok32; omega) (by unfold ok32; omega) (fun z => by omega) (fun _ => ?_)
      refine w_iload dX1_count_102 rfl ?_
      refine w_if_eq 193 dX1_count_104 (by decide) (by unfold ok32; omega) (fun _ => ?_) (fun z => absurd rfl z)
      have := fin H0 g2 (if kd = 3 then gcp c0 E.length - c0 else 0) (2 * (if kd = 3 then gcp c0 E.length - c0 else 0)) (.int (zI 0)) (.int (zI 0)) (by rw [hg2.2.1, g10, z10]; exact h10) (by rw [hg2.2.2, g11, z11]; exact h11) (by rw [hEn]; exact hst g2 (hg2.1.trans g8))
      rw [hEn] at this ⊢
      exact this
    · refine w_iconst dX1_count_53 ?_
      refine w_goto 58 dX1_count_54 (by decide) ?_
      refine w_istore (lv' := [_, _, _, _, _, _, _]) dX1_count_58 (Nat.le_of_ble_eq_true rfl) rfl rfl ?_
      refine picks 1 (fun gg g8 g10 g11 g9 => ?_)
      refine w_aload_n dX1_count_87 rfl rfl ?_
      refine w_iconst dX1_count_88 ?_
      refine wx_Vv (Z := mX1_refresh) (As := [_]) (c1_refresh (j := 0) (p := fun i => i) hC1 hb hk h7 (Nat.zero_le _) (fun i hi => ⟨g9 i hi, by omega⟩) (fun i hi => by rw [show i = 0 by omega, g10, g11, z10, z11]; exact ⟨h10, h11⟩)) CU0 rfl kX1_refresh lX1_56 iX1_refresh vX1_refresh dX1_count_89 rfl rfl rfl (Nat.le_of_ble_eq_true rfl) ⟨Nat.le_of_ble_eq_true rfl, Nat.le_of_ble_eq_true rfl⟩ (fun g2 hg2 => ?_)
      refine w_iconst dX1_count_92 ?_
      refine w_istore (lv' := [_, _, _, _, _, _, _]) dX1_count_93 (Nat.le_of_ble_eq_true rfl) rfl rfl ?_
      have hl := cm_all (n := N - 1) (k := k) (by omega)
      have hA : AHD (fun b => hgB (cs B L C) b (L * R)) (N - 1) k (fun i => i) g2 := ⟨fun i hi => by rw [hg2.2.1]; exact g9 i hi, fun i hi => by show i + k ≤ N - 1 + i; omega, fun i hi => by show i < i + 1; omega, hg2.2.2⟩
      have hlen := cm_len (n := N - 1) (lo := 0) (d := k) (acc := 0#64) (by omega) (by omega)
      have := loop (cm (N - 1) 0 k 0#64) 0 H0 g2 [] (Or.inr ⟨_, hA, hl⟩) (by omega) (hg2.2.2 0 (Nat.zero_le _)).1 (hg2.2.2 0 (Nat.zero_le _)).2 (hst g2 (hg2.1.trans g8)) (by
        rw [List.nil_append, ← cm_pre (by omega) N 0 k 0#64 (by omega) (fun _ => tp_0) (fun t ht => by simp at ht)]
        exact hE0)
      rw [bI_t (by rw [hl]; exact List.cons_ne_nil _ _)] at this
      exact this
  refine sp_wp rfl (lv := [_, _, _, _, _, _, _]) rfl (Nat.le_of_ble_eq_true rfl) ?_
  refine w_aload_n dX1_count_0 rfl rfl ?_
  refine w_aload_n dX1_count_1 rfl rfl ?_
  refine cu_pf0 fX1_35 dX1_count_2 ?_
  refine w_aload_n dX1_count_5 rfl rfl ?_
  refine w_iload_n dX1_count_6 rfl rfl ?_
  refine cu_pf8 fX1_46 dX1_count_7 ?_
  refine w_aload_n dX1_count_10 rfl rfl ?_
  refine w_iload_n dX1_count_11 rfl rfl ?_
  refine w_iconst dX1_count_12 ?_
  refine w_isub dX1_count_13 ?_
  refine cu_pf7 fX1_50 dX1_count_14 ?_
  rw [show ((k + 1 : Nat) : Int) - 1 = (k : Int) by omega]
  refine w_cast rfl rfl (show _ = CUH a ba bi1 bf1 h0 from by rw [← hbi, ← hbf]) ?_
  refine w_iload_n dX1_count_17 rfl rfl ?_
  refine w_iconst dX1_count_18 ?_
  refine w_icmp_ne 36 dX1_count_19 (by decide) (by unfold ok32; omega) (by unfold ok32; omega) (fun hc => ?_) (fun hc => ?_)
  · have h3 : kd ≠ 3 := by omega
    rw [if_neg h3] at hH0
    subst hH0
    exact main ba (by rw [if_neg h3]) rfl rfl
  · have h3 : kd = 3 := by omega
    rw [if_pos h3] at hH0
    obtain ⟨ad, f7, f8, f10, f9, f11, rk, cr, hV', h6, h7', o_c0, r70, r80, r90, r100, r110, e7, e8, e9, e10, hRD, p0, p7, p8, p9, p10, p11⟩ := id hC
    have e1 : outC a (a + 1) := by unfold outC; omega
    refine w_aload_n dX1_count_22 rfl rfl ?_
    refine w_getf fX1_11 dX1_count_23 CU0 rfl ?_
    refine w_iload_n dX1_count_26 rfl rfl ?_
    refine w_aload_n dX1_count_27 rfl rfl ?_
    refine w_aast2 (k + 1) (CUo e1 hls) (CUo p0.1 o_c0) rfl (by omega) (by decide) dX1_count_28 ?_
    refine w_cast rfl rfl (show _ = CUH a ba bi1 bf1 H0 from by rw [← hH0]; exact CU_in e1) ?_
    refine w_aload_n dX1_count_29 rfl rfl ?_
    refine w_getf fX1_22 dX1_count_30 CU0 rfl ?_
    refine w_iload_n dX1_count_33 rfl rfl ?_
    refine w_iconst dX1_count_34 ?_
    refine cu_ist8 (k + 1) rfl (by omega) dX1_count_35 ?_
    exact main (u1 ba 8 (u1 (ba 8) (k + 1) 0)) (by rw [if_pos h3, u1_s]) rfl rfl

