/-! the census: knots counted and listed -/
theorem pn_add {f : Nat → Bool} {n : Nat} : ∀ {m : Nat}, pn f (n + m) = pn f n + pn (fun i => f (n + i)) m
  | 0 => rfl
  | m + 1 => by
    show pn f (n + m) + (if f (n + m) then 1 else 0) = pn f n + (pn (fun i => f (n + i)) m + if f (n + m) then 1 else 0)
    rw [pn_add (m := m)]
    omega
theorem pn_one {f : Nat → Bool} : ∀ {n : Nat}, (∀ i j, i < n → j < n → f i = true → f j = true → i = j) → pn f n ≤ 1
  | 0, _ => Nat.zero_le _
  | n + 1, h => by
    show pn f n + (if f n then 1 else 0) ≤ 1
    by_cases hf : f n = true
    · have : pn f n = 0 := pn_zero (fun i hi => by
        cases hi' : f i with
        | false => rfl
        | true =>
          have := h i n (by omega) (by omega) hi' hf
          omega)
      rw [this, if_pos hf]
      omega
    · rw [if_neg hf]
      exact pn_one (fun i j hi hj => h i j (by omega) (by omega))
theorem pn_rows {f : Nat → Bool} {L : Nat} (h : ∀ r i j, i < L → j < L → f (L * r + i) = true → f (L * r + j) = true → i = j) : ∀ {r : Nat}, pn f (L * r) ≤ r
  | 0 => by rw [Nat.mul_zero]; exact Nat.le_refl _
  | r + 1 => by
    rw [Nat.mul_succ, pn_add]
    have h1 := pn_rows h (r := r)
    have h2 := pn_one (f := fun i => f (L * r + i)) (n := L) (fun i j hi hj => h r i j hi hj)
    omega
theorem bitN_row {sh : Nat → Int} {L r i i' j j' : Nat} (hL : 1 ≤ L ∧ L ≤ 6) (hi : i < L) (hi' : i' < L) (h0 : ¬ bitN sh L (L * r + i) j = -1) (h : bitN sh L (L * r + i) j = bitN sh L (L * r + i') j') : i = i' := by
  have d1 : ∀ t, t < L → (L * r + t) / L = r := fun t ht => by rw [Nat.mul_add_div (by omega), Nat.div_eq_of_lt ht]; rfl
  have d2 : ∀ t, t < L → (L * r + t) % L = t := fun t ht => by rw [Nat.mul_add_mod, Nat.mod_eq_of_lt ht]
  unfold bitN at h0 h
  rw [d1 i hi, d2 i hi] at h0 h
  rw [d1 i' hi', d2 i' hi'] at h
  by_cases e1 : sh (8 * r + j) = -1
  · rw [if_pos e1] at h0; exact absurd rfl h0
  rw [if_neg e1] at h0 h
  by_cases e2 : sh (8 * r + j') = -1
  · rw [if_pos e2] at h; exact absurd h h0
  rw [if_neg e2] at h
  have hj : j = j' := by
    clear h0 e1 e2 d1 d2
    generalize sh (8 * r + j) = s at *
    generalize sh (8 * r + j') = s' at *
    rcases (show L = 1 ∨ L = 2 ∨ L = 3 ∨ L = 4 ∨ L = 5 ∨ L = 6 by omega) with w | w | w | w | w | w <;> subst w <;> omega
  subst hj
  clear h0 e1 e2 d1 d2
  generalize sh (8 * r + j) = s at *
  rcases (show L = 1 ∨ L = 2 ∨ L = 3 ∨ L = 4 ∨ L = 5 ∨ L = 6 by omega) with w | w | w | w | w | w <;> subst w <;> omega
theorem bitN_b {B : Nat → Int} {L R C c j : Nat} (hV : VC B L R C) (hc : c < L * R) (hj : j < C) : bitN (shA B) L c j < 64 ∧ -1 ≤ bitN (shA B) L c j := by
  obtain ⟨v1, v2, v3, v4, v5, v6, v7⟩ := id hV
  have hq : c / L < R := (Nat.div_lt_iff_lt_mul (by omega)).mpr (by rw [Nat.mul_comm]; exact hc)
  have := bitN_le (sh := shA B) (L := L) (C := C) (c := c) (j := j) v4 hj v6.2 (v7 _ (by omega)).1
  omega
theorem hgB_four {B : Nat → Int} {L R C b : Nat} (hV : VC B L R C) (hb : b < L * C) : pop32 (hgB (cs B L C) b (L * R)) ≤ 4 := by
  obtain ⟨v1, v2, v3, v4, v5, v6, v7⟩ := id hV
  have hLR := mulLe (a := L) (b := R) (x := 6) (y := 4) (by omega) (by omega)
  have key : pn (hgB (cs B L C) b (L * R)).getLsbD (L * R) ≤ R := by
    refine pn_rows (fun r i j hi hj h1 h2 => ?_)
    obtain ⟨-, q1⟩ := (hgB_bit (by omega)).mp h1
    obtain ⟨-, q2⟩ := (hgB_bit (by omega)).mp h2
    rcases (show L * r + i < L * R ∨ ¬ L * r + i < L * R by omega) with w1 | w1
    · rcases (show L * r + j < L * R ∨ ¬ L * r + j < L * R by omega) with w2 | w2
      · obtain ⟨t1, -, e1⟩ := (cset_bit (fun j hj => bitN_b hV w1 hj)).mp q1
        obtain ⟨t2, -, e2⟩ := (cset_bit (fun j hj => bitN_b hV w2 hj)).mp q2
        exact bitN_row v4 hi hj (by rw [e1]; omega) (e1.trans e2.symm)
      · exact absurd ((hgB_bit (by omega)).mp h2).1 w2
    · exact absurd ((hgB_bit (by omega)).mp h1).1 w1
  have cut : pop32 (hgB (cs B L C) b (L * R)) = pn (hgB (cs B L C) b (L * R)).getLsbD (L * R) := pn_cut (by omega) (fun i h1 h2 => by
    cases hq : (hgB (cs B L C) b (L * R)).getLsbD i with
    | false => rfl
    | true => exact absurd ((hgB_bit (by omega)).mp hq).1 (by omega))
  rw [cut]
  omega
theorem one_tab : ∀ t : Nat, t < 32 → (1#32 <<< t) &&& ((1#32 <<< t) - 1#32) = 0#32 := by decide
theorem wrg_0 {x : BitVec 32} (h : pop32 x ≤ 1) : x &&& (x - 1#32) = 0#32 := by
  by_cases h0 : ∃ t, t < 32 ∧ x.getLsbD t = true
  · obtain ⟨t, ht, hx⟩ := h0
    have e : x = 1#32 <<< t := by
      refine BitVec.eq_of_getLsbD_eq fun i hi => ?_
      have hb : (1#32 <<< t).getLsbD i = decide (i = t) := by
        rw [BitVec.getLsbD_shiftLeft]
        by_cases hit : i = t
        · subst hit; simp [hi]
        · by_cases hlt : i < t
          · simp [hlt, hit]
          · have : i - t ≠ 0 := by omega
            simp [hit, hlt, hi, BitVec.getLsbD_one, this]
      rw [hb]
      by_cases hit : i = t
      · subst hit; rw [hx]; simp
      · rw [decide_eq_false hit]
        cases hq : x.getLsbD i with
        | false => rfl
        | true =>
          exfalso
          have h1 := pn_off (f := x.getLsbD) (g := fun u => if u = t then false else x.getLsbD u) (n := 32) ht hx (if_pos rfl) (fun u _ hu => if_neg hu)
          have h2 := pn_pos (f := fun u => if u = t then false else x.getLsbD u) (n := 32) (t := i) hi ((if_neg hit).trans hq)
          unfold pop32 at h
          omega
    rw [e]
    exact one_tab t ht
  · have e : x = 0#32 := BitVec.eq_of_getLsbD_eq fun i hi => by
      cases hq : x.getLsbD i with
      | false => simp
      | true => exact absurd ⟨i, hi, hq⟩ h0
    rw [e]
    rfl
def outK (a la n : Nat) : Nat → Prop := fun x => outC a x ∧ x ≠ a + 2 ∧ x ≠ la ∧ x < n
/-- what lies in the list of K-sets: these -/
def LDS (a K c0 : Nat) (h h1 : HP) (A : Nat → Option Nat) (la : Nat) (D : List (BitVec 64)) : Prop := ∃ (A1 : Nat → Option Nat) (la1 : Nat) (g1 : Nat → BitVec 64), LSP a K h1 A1 la1 (gcp c0 D.length) g1 ∧ LGO a K h h1 A A1 la la1 ∧ ∀ i x, D[i]? = some x → g1 i = x
def KEK (ba g : Nat → Nat → Int) (k K n : Nat) : Prop := (∀ i, i ≠ K → g 8 i = ba 8 i) ∧ g 8 K = (n : Int) ∧ g 10 = ba 10 ∧ g 11 = ba 11 ∧ ∀ i, i < k → g 9 i = ba 9 i
set_option maxRecDepth 8000 in
theorem c1_countKnots {a c : Nat} {ba : Nat → Nat → Int} {bi : Nat → Int} {bf : Nat → Nat} {h0 : HP} {B : Nat → Int} {L R C k f la c0 : Nat} {p : Nat → Nat} {A : Nat → Option Nat} {g : Nat → BitVec 64} {D : List (BitVec 64)} {Q : BitVec 64 → Bool} (hC : CDQ (outK a la h0.1) h0 c B L R C) (hb : bf 0 = c) (hk : k ≤ 3) (h7 : bi 7 = (k : Int)) (h8 : bi 8 = (k : Int) + 1) (hp : ∀ i, i < k → ba 9 i = (p i : Int) ∧ p i < L * C) (hs : SUMS (fun b => hgB (cs B L C) b (L * R)) p k ba) (hf : f = if k = 0 then 0 else p (k - 1) + 1) (hL : LSP a (k + 1) h0 A la (gcp c0 D.length) g) (hD : ∀ i x, D[i]? = some x → g i = x) (hz : ba 8 (k + 1) = (D.length : Int)) (ha : a + 11 < h0.1) (hla : la < h0.1) (hc0 : c0 ≤ 500000) (hE : (D ++ (cm (L * C) f 1 (pks p k)).filter Q).length ≤ 200000) (hQ : ∀ b, f ≤ b → b < L * C → (Q (pks p k ||| (1#64 <<< b)) = true ↔ (2 * pop32 (hgB (cs B L C) b (L * R) &&& (pod (fun b => hgB (cs B L C) b (L * R)) p k ^^^ hgB (cs B L C) b (L * R))) < pop32 (hgB (cs B L C) b (L * R)) ∧ (∀ i, i < k → 2 * pop32 (hgB (cs B L C) (p i) (L * R) &&& (pod (fun b => hgB (cs B L C) b (L * R)) p k ^^^ hgB (cs B L C) b (L * R))) < pop32 (hgB (cs B L C) (p i) (L * R))) ∧ ¬ sKn (fun b => hgB (cs B L C) b (L * R)) (u1 p k b) (k + 1)))) : sp mX1_countKnots [.ref a] (CUH a ba bi bf h0) (gcp c0 (D ++ (cm (L * C) f 1 (pks p k)).filter Q).length - gcp c0 D.length) (2 * (gcp c0 (D ++ (cm (L * C) f 1 (pks p k)).filter Q).length - gcp c0 D.length)) (px (some (.int (zI ((((cm (L * C) f 1 (pks p k)).filter Q).length : Nat) : Int)))) (fun q : HP × (Nat → Nat → Int) => KEK ba q.2 k (k + 1) (D ++ (cm (L * C) f 1 (pks p k)).filter Q).length ∧ LDS a (k + 1) c0 h0 q.1 A la (D ++ (cm (L * C) f 1 (pks p k)).filter Q)) (fun q => CUH a q.2 bi bf q.1)) := by
  have h8' : bi 8 = ((k + 1 : Nat) : Int) := by rw [h8]; push_cast; rfl
  have hV := hC.vc
  have four : ∀ b, b < L * C → pop32 (hgB (cs B L C) b (L * R)) ≤ 4 := fun b hb => hgB_four hV hb
  obtain ⟨v1, v2, v3, v4, v5, v6, v7⟩ := id hV
  have hLC := mulLe (a := L) (b := C) (x := 6) (y := 8) (by omega) (by omega)
  have code : ∀ {h1 : HP} {A1 : Nat → Option Nat} {la1 : Nat}, LGO a (k + 1) h0 h1 A A1 la la1 → CDQ (outC a) h1 c B L R C := fun {h1 A1 la1} hg => hC.mono (fun x hx => hx.1) (fun x hx => hg.2.2.2 x hx.2.2.2 hx.2.1 hx.2.2.1)
  have hah := fun (h1 : HP) (hC1 : CDQ (outC a) h1 c B L R C) (gg : Nat → Nat → Int) (od : BitVec 32) hpp => c1_areHeldBy (h0 := h1) (ba := gg) (p := p) (od := od) hC1 hb hk h7 hpp
  have hsm := fun (h1 : HP) (hC1 : CDQ (outC a) h1 c B L R C) (gg : Nat → Nat → Int) (q : Nat → Nat) hpp => c1_anySmallerKnot (h0 := h1) (ba := gg) (n := k + 1) (p := q) hC1 hb (by omega) h8' hpp
  have hhb := fun (h1 : HP) (hC1 : CDQ (outC a) h1 c B L R C) (gg : Nat → Nat → Int) (b : Nat) (hbb : b < L * C) (od : BitVec 32) => c2_isHeldBy (h := CUH a gg bi bf h1) (b := b) (od := od) ((hC1.mono (P' := outC a) (fun _ z => z) (fun x hx => CUn hx)).cdp) hbb
  have hMx : ∀ {h1 : HP}, CDQ (outC a) h1 c B L R C → ∃ (ad : Nat → Nat) (rk : Nat) (cr : BitVec 64) (f10 : Nat → Int), (∀ {gg : Nat → Nat → Int}, (CUH a gg bi bf h1).2 c = some (.inr (2, cfs L R C (B 6) (B 7) ad rk cr))) ∧ (∀ {gg : Nat → Nat → Int}, (CUH a gg bi bf h1).2 (ad 10) = some (aI 48 f10)) ∧ ∀ b, b < L * C → f10 b = (hgB (cs B L C) b (L * R)).toInt := fun {h1} hC1 => by
    obtain ⟨ad, f7, f8, f10, f9, f11, rk, cr, hV, h6, h7', o_c0, r70, r80, r90, r100, r110, e7, e8, e9, e10, hRD, p0, p7, p8, p9, p10, p11⟩ := id hC1
    exact ⟨ad, rk, cr, f10, CUo p0 o_c0, CUo p10 r100, e10⟩
  obtain ⟨M, hM⟩ : ∃ M, (fun b => hgB (cs B L C) b (L * R)) = M := ⟨_, rfl⟩
  have hMb : ∀ b, hgB (cs B L C) b (L * R) = M b := fun b => by rw [← hM]
  simp only [hMb] at hs hQ hsm hah hhb four hMx
  have hMM : (fun b => M b) = M := rfl
  rw [hMM] at hs hQ
  obtain ⟨N, hN⟩ : ∃ N, L * C = N := ⟨_, rfl⟩
  rw [hN] at hp hQ hLC hE ⊢
  simp only [hN] at hsm hah hhb four hMx
  have hfN : f ≤ N := by
    rw [hf]
    split
    · omega
    · have := (hp (k - 1) (by omega)).2
      omega
  have hsk := (hs k (Nat.le_refl _)).1
  obtain ⟨E, hEe⟩ : ∃ E, D ++ (cm N f 1 (pks p k)).filter Q = E := ⟨_, rfl⟩
  rw [hEe] at hE ⊢
  have hEl : D.length + ((cm N f 1 (pks p k)).filter Q).length = E.length := by rw [← hEe, List.length_append]
  refine sp_wp rfl (lv := [_, _, _, _, _, _]) rfl (Nat.le_of_ble_eq_true rfl) ?_
  refine w_aload_n dX1_countKnots_0 rfl rfl ?_
  refine w_getf fX1_29 dX1_countKnots_1 CU0 rfl ?_
  refine w_aload_n dX1_countKnots_4 rfl rfl ?_
  refine w_getf fX1_50 dX1_countKnots_5 CU0 rfl ?_
  rw [h7]
  refine w_iald k CU10 rfl (by omega) (by decide) dX1_countKnots_8 ?_
  rw [hsk, zB]
  refine w_istore_n (lv' := [_, _, _, _, _, _]) dX1_countKnots_9 rfl (Nat.le_of_ble_eq_true rfl) rfl rfl ?_
  refine w_iconst dX1_countKnots_10 ?_
  refine w_istore_n (lv' := [_, _, _, _, _, _]) dX1_countKnots_11 rfl (Nat.le_of_ble_eq_true rfl) rfl rfl ?_
  refine w_aload_n dX1_countKnots_12 rfl rfl ?_
  refine wc_V (Z := mX1_firstLast) (As := []) (c1_firstLast hk h7 (fun i hi => (hp i hi).1)) CU0 rfl kX1_firstLast lX1_81 iX1_firstLast vX1_firstLast dX1_countKnots_13 rfl rfl rfl (Nat.le_of_ble_eq_true rfl) ⟨Nat.le_of_ble_eq_true rfl, Nat.le_of_ble_eq_true rfl⟩ ?_
  rw [← hf]
  refine w_istore_n (lv' := [_, _, _, _, _, _]) dX1_countKnots_16 rfl (Nat.le_of_ble_eq_true rfl) rfl rfl ?_
  have lp : ∀ b, b ≤ N → f ≤ b → ∀ (n : Nat) (h1 : HP) (D1 : List (BitVec 64)) (gg : Nat → Nat → Int) (x4 x5 : Value), KEK ba gg k (k + 1) D1.length → LDS a (k + 1) c0 h0 h1 A la D1 → D1 ++ (cm N b 1 (pks p k)).filter Q = E → D.length + n = D1.length → wp mX1_countKnots 17 [.ref a, .int (iB (pod M p k)), .int (zI (n : Int)), .int (zI (b : Int)), x4, x5] [] (CUH a gg bi bf h1) (gcp c0 E.length - gcp c0 D1.length) (2 * (gcp c0 E.length - gcp c0 D1.length)) (px (some (.int (zI ((((cm N f 1 (pks p k)).filter Q).length : Nat) : Int)))) (fun q : HP × (Nat → Nat → Int) => KEK ba q.2 k (k + 1) E.length ∧ LDS a (k + 1) c0 h0 q.1 A la E) (fun q => CUH a q.2 bi bf q.1)) := by
    refine up_ind (P := fun b => f ≤ b → ∀ (n : Nat) (h1 : HP) (D1 : List (BitVec 64)) (gg : Nat → Nat → Int) (x4 x5 : Value), KEK ba gg k (k + 1) D1.length → LDS a (k + 1) c0 h0 h1 A la D1 → D1 ++ (cm N b 1 (pks p k)).filter Q = E → D.length + n = D1.length → wp mX1_countKnots 17 [.ref a, .int (iB (pod M p k)), .int (zI (n : Int)), .int (zI (b : Int)), x4, x5] [] (CUH a gg bi bf h1) (gcp c0 E.length - gcp c0 D1.length) (2 * (gcp c0 E.length - gcp c0 D1.length)) (px (some (.int (zI ((((cm N f 1 (pks p k)).filter Q).length : Nat) : Int)))) (fun q : HP × (Nat → Nat → Int) => KEK ba q.2 k (k + 1) E.length ∧ LDS a (k + 1) c0 h0 q.1 A la E) (fun q => CUH a q.2 bi bf q.1))) (fun b hbN ih hfb n h1 D1 gg x4 x5 hkk hl hdd hn => ?_)
    obtain ⟨A1, la1, g1, L1, L2, L3⟩ := id hl
    have hC1 := code L2
    obtain ⟨ad, rk, cr, f10, o_c, r_10, e10'⟩ := hMx hC1
    refine w_iload_n dX1_countKnots_17 rfl rfl ?_
    refine w_aload_n dX1_countKnots_18 rfl rfl ?_
    refine w_getf fX1_35 dX1_countKnots_19 CU0 rfl ?_
    rw [hb]
    refine w_getf fX1_53 dX1_countKnots_22 o_c rfl ?_
    rw [hN]
    refine w_icmp_ge 114 dX1_countKnots_25 (by decide) (by first | assumption | (unfold ok32 at *; omega)) (by first | assumption | (unfold ok32 at *; omega)) (fun hc => ?_) (fun hc => ?_)
    · have : b = N := by omega
      subst this
      rw [cm_nil (by omega) (by omega), List.filter_nil, List.append_nil] at hdd
      subst hdd
      refine w_iload_n dX1_countKnots_114 rfl rfl ?_
      exact x_iret rfl rfl dX1_countKnots_115 ⟨by rw [show n = ((cm b f 1 (pks p k)).filter Q).length by omega], (h1, gg), ⟨hkk, hl⟩, rfl⟩
    · have hbl : b < N := by omega
      rw [cm_1 hbl, List.filter_cons] at hdd
      have hq := hQ b hfb hbl
      refine w_aload_n dX1_countKnots_28 rfl rfl ?_
      refine w_getf fX1_35 dX1_countKnots_29 CU0 rfl ?_
      rw [hb]
      refine w_getf fX1_78 dX1_countKnots_32 o_c rfl ?_
      refine w_iload_n dX1_countKnots_35 rfl rfl ?_
      refine w_iald b r_10 rfl (by omega) (by decide) dX1_countKnots_36 ?_
      rw [e10' b hbl, zB]
      refine w_istore (lv' := [_, _, _, _, _, _]) dX1_countKnots_37 (Nat.le_of_ble_eq_true rfl) rfl rfl ?_
      refine w_iload dX1_countKnots_39 rfl ?_
      refine w_iload_n dX1_countKnots_41 rfl rfl ?_
      refine w_iload dX1_countKnots_42 rfl ?_
      refine w_ixorR dX1_countKnots_44 ?_
      refine w_iandR dX1_countKnots_45 ?_
      rw [iB_xor, iB_and]
      obtain ⟨od, hod⟩ : ∃ od, pod M p k ^^^ M b = od := ⟨_, rfl⟩
      rw [hod] at hq ⊢
      refine w_istore (lv' := [_, _, _, _, _, _]) dX1_countKnots_46 (Nat.le_of_ble_eq_true rfl) rfl rfl ?_
      refine w_iload dX1_countKnots_48 rfl ?_
      refine w_iload dX1_countKnots_50 rfl ?_
      refine w_iconst dX1_countKnots_52 ?_
      refine w_isubR dX1_countKnots_53 ?_
      refine w_iandR dX1_countKnots_54 ?_
      rw [show iB (M b &&& od) &&& (iB (M b &&& od) - zI 1) = zI ((M b &&& od) &&& ((M b &&& od) - 1#32)).toInt from by rw [zB]; rfl]
      have no : ∀ (gg' : Nat → Nat → Int) (x4 x5 : Value), KEK ba gg' k (k + 1) D1.length → ¬ Q (pks p k ||| (1#64 <<< b)) = true → wp mX1_countKnots 108 [.ref a, .int (iB (pod M p k)), .int (zI (n : Int)), .int (zI (b : Int)), x4, x5] [] (CUH a gg' bi bf h1) (gcp c0 E.length - gcp c0 D1.length) (2 * (gcp c0 E.length - gcp c0 D1.length)) (px (some (.int (zI ((((cm N f 1 (pks p k)).filter Q).length : Nat) : Int)))) (fun q : HP × (Nat → Nat → Int) => KEK ba q.2 k (k + 1) E.length ∧ LDS a (k + 1) c0 h0 q.1 A la E) (fun q => CUH a q.2 bi bf q.1)) := by
        intro gg' x4 x5 hk' hnq
        rw [if_neg hnq] at hdd
        refine w_iinc (lv' := [_, _, _, _, _, _]) dX1_countKnots_108 rfl rfl rfl ?_
        refine w_goto 17 dX1_countKnots_111 (by decide) ?_
        have := ih hbl (by omega) n h1 D1 gg' x4 x5 hk' hl hdd hn
        push_cast at this
        exact this
      refine w_if_ne 108 dX1_countKnots_55 (by decide) (ok32_of (iB _)) (fun he => ?_) (fun he => ?_)
      · rw [toInt_0] at he
        refine no gg _ _ hkk (fun z => he (wrg_0 ?_))
        have h1 := (hq.mp z).1
        have h2 := four b hbl
        omega
      · clear he
        refine w_aload_n dX1_countKnots_58 rfl rfl ?_
        refine w_getf fX1_35 dX1_countKnots_59 CU0 rfl ?_
        rw [hb]
        refine w_iload_n dX1_countKnots_62 rfl rfl ?_
        refine w_iload_n dX1_countKnots_63 rfl rfl ?_
        refine w_iload dX1_countKnots_64 rfl ?_
        refine w_ixorR dX1_countKnots_66 ?_
        rw [iB_xor, hod]
        refine wc_V (Z := mX2_isHeldBy) (As := [_, _]) (hhb h1 hC1 gg b hbl od) o_c rfl kX2_isHeldBy lX1_92 iX2_isHeldBy vX2_isHeldBy dX1_countKnots_67 rfl rfl rfl (Nat.le_of_ble_eq_true rfl) ⟨Nat.le_of_ble_eq_true rfl, Nat.le_of_ble_eq_true rfl⟩ ?_
        refine w_ifb_eq 108 dX1_countKnots_70 (by decide) (fun w1 => ?_) (fun w1 => ?_)
        · exact no gg _ _ hkk (fun z => w1 (hq.mp z).1)
        · refine w_aload_n dX1_countKnots_73 rfl rfl ?_
          refine w_iload_n dX1_countKnots_74 rfl rfl ?_
          refine w_iload dX1_countKnots_75 rfl ?_
          refine w_ixorR dX1_countKnots_77 ?_
          rw [iB_xor, hod]
          refine wc_V (Z := mX1_areHeldBy) (As := [_]) (hah h1 hC1 gg od (fun i hi => ⟨(hkk.2.2.2.2 i hi).trans (hp i hi).1, (hp i hi).2⟩)) CU0 rfl kX1_areHeldBy lX1_96 iX1_areHeldBy vX1_areHeldBy dX1_countKnots_78 rfl rfl rfl (Nat.le_of_ble_eq_true rfl) ⟨Nat.le_of_ble_eq_true rfl, Nat.le_of_ble_eq_true rfl⟩ ?_
          refine w_ifb_eq 108 dX1_countKnots_81 (by decide) (fun w2 => ?_) (fun w2 => ?_)
          · exact no gg _ _ hkk (fun z => w2 (hq.mp z).2.1)
          · refine w_aload_n dX1_countKnots_84 rfl rfl ?_
            refine w_getf fX1_26 dX1_countKnots_85 CU0 rfl ?_
            refine w_aload_n dX1_countKnots_88 rfl rfl ?_
            refine w_getf fX1_50 dX1_countKnots_89 CU0 rfl ?_
            rw [h7]
            refine w_iload_n dX1_countKnots_92 rfl rfl ?_
            refine cu_ist9 k rfl (by omega) dX1_countKnots_93 ?_
            obtain ⟨g', hg'⟩ : ∃ g', u1 gg 9 (u1 (gg 9) k (b : Int)) = g' := ⟨_, rfl⟩
            have k9 : g' 9 = u1 (gg 9) k (b : Int) := by rw [← hg', u1_s]
            have k8 : g' 8 = gg 8 := by rw [← hg']; rfl
            have hK' : KEK ba g' k (k + 1) D1.length := by
              refine ⟨?_, ?_, ?_, ?_, fun i hi => ?_⟩
              · rw [k8]; exact hkk.1
              · rw [k8]; exact hkk.2.1
              · rw [← hg']; exact hkk.2.2.1
              · rw [← hg']; exact hkk.2.2.2.1
              · rw [k9, u1_n (by omega)]; exact hkk.2.2.2.2 i hi
            have hall : ∀ i, i < k + 1 → g' 9 i = ((u1 p k b i : Nat) : Int) ∧ u1 p k b i < N := fun i hi => by
              by_cases hik : i = k
              · rw [hik, k9, u1_s, u1_s]; exact ⟨rfl, hbl⟩
              · rw [hK'.2.2.2.2 i (by omega), u1_n hik]; exact hp i (by omega)
            rw [hg']
            refine w_aload_n dX1_countKnots_94 rfl rfl ?_
            refine wc_V (Z := mX1_anySmallerKnot) (As := []) (hsm h1 hC1 g' (u1 p k b) hall) CU0 rfl kX1_anySmallerKnot lX1_99 iX1_anySmallerKnot vX1_anySmallerKnot dX1_countKnots_95 rfl rfl rfl (Nat.le_of_ble_eq_true rfl) ⟨Nat.le_of_ble_eq_true rfl, Nat.le_of_ble_eq_true rfl⟩ ?_
            refine w_if_ne 108 dX1_countKnots_98 (by decide) sKb_ok (fun w3 => ?_) (fun w3 => ?_)
            · exact no g' _ _ hK' (fun z => w3 (sKb_f (hq.mp z).2.2))
            · have hy : Q (pks p k ||| (1#64 <<< b)) = true := hq.mpr ⟨w1, w2, sKb_0.mp w3⟩
              rw [if_pos hy] at hdd
              have hpq : pks (u1 p k b) (k + 1) = pks p k ||| (1#64 <<< b) := by
                show pks (u1 p k b) k ||| (1#64 <<< (u1 p k b k)) = _
                rw [u1_s, pks_c (p := u1 p k b) (p' := p) (fun i hi => u1_n (by omega))]
              have hle : D1.length + 1 ≤ E.length := by rw [← hdd, List.length_append, List.length_cons]; omega
              have hge := gcp_ge (c := c0) (n := D1.length)
              have hgl := gcp_le (c := c0) (n := D1.length)
              have hgs := gcp_s (c := c0) (n := D1.length)
              have hgm := gcp_m (c := c0) (n := D1.length + 1) (d := E.length - (D1.length + 1))
              rw [show D1.length + 1 + (E.length - (D1.length + 1)) = E.length by omega] at hgm
              have L21 := L2.1
              have L22 := L2.2.1
              have cl := c1_list (ba := g') (bi := bi) (bf := bf) (p := u1 p k b) L1 (by omega) (by omega) (by omega) h8' hK'.2.1 hge (by omega) (by omega) (fun i hi => ⟨(hall i hi).1, by have := (hall i hi).2; omega⟩)
              rw [show (if D1.length < gcp c0 D1.length then gcp c0 D1.length else 2 * D1.length + 1) = gcp c0 (D1.length + 1) from rfl] at cl
              refine w_aload_n dX1_countKnots_101 rfl rfl ?_
              refine w_callV (Z := mX1_list) (As := []) cl CU0 rfl kX1_list lX1_102 iX1_list vX1_list dX1_countKnots_102 rfl rfl rfl (Nat.le_of_ble_eq_true rfl) ⟨Nat.le_of_ble_eq_true rfl, Nat.le_of_ble_eq_true rfl⟩ (by omega) (by omega) (fun v h' q => ?_)
              obtain ⟨rfl, h2, ⟨A2, la2, g2, M1, M2, M3, M4⟩, rfl⟩ := q
              rw [show gcp c0 E.length - gcp c0 D1.length - (gcp c0 (D1.length + 1) - gcp c0 D1.length) = gcp c0 E.length - gcp c0 (D1.length + 1) by omega, show 2 * (gcp c0 E.length - gcp c0 D1.length) - 2 * (gcp c0 (D1.length + 1) - gcp c0 D1.length) = 2 * (gcp c0 E.length - gcp c0 (D1.length + 1)) by omega]
              have hl1 : (D1 ++ [pks p k ||| (1#64 <<< b)]).length = D1.length + 1 := by rw [List.length_append]; rfl
              refine w_cast rfl rfl rfl ?_
              refine w_iinc (lv' := [_, _, _, _, _, _]) dX1_countKnots_105 rfl rfl rfl ?_
              refine w_iinc (lv' := [_, _, _, _, _, _]) dX1_countKnots_108 rfl rfl rfl ?_
              refine w_goto 17 dX1_countKnots_111 (by decide) ?_
              have := ih hbl (by omega) (n + 1) h2 (D1 ++ [pks p k ||| (1#64 <<< b)]) (u1 g' 8 (u1 (g' 8) (k + 1) ((D1.length + 1 : Nat) : Int))) (.int (iB (M b))) (.int (iB (M b &&& od))) ⟨fun i hi => ?_, ?_, hK'.2.2.1, hK'.2.2.2.1, hK'.2.2.2.2⟩ ⟨A2, la2, g2, ?_, L2.trans M2, fun i x hx => ?_⟩ (by rw [List.append_assoc]; exact hdd) (by rw [hl1]; omega)
              · rw [hl1] at this
                push_cast at this
                exact this
              · rw [u1_s, u1_n hi]; exact hK'.1 i hi
              · rw [u1_s, u1_s, hl1]
              · rw [hl1]; exact M1
              · rcases Nat.lt_trichotomy i D1.length with hi | hi | hi
                · rw [List.getElem?_append_left hi] at hx
                  rw [M3 i hi]
                  exact L3 i x hx
                · subst hi
                  rw [List.getElem?_append_right (Nat.le_refl _), Nat.sub_self] at hx
                  cases hx
                  rw [M4, hpq]
                · rw [List.getElem?_eq_none (by rw [hl1]; omega)] at hx
                  cases hx
  exact lp f hfN (Nat.le_refl _) 0 h0 D ba _ _ ⟨fun _ _ => rfl, hz, rfl, rfl, fun _ _ => rfl⟩ ⟨A, la, g, hL, LGO.refl, hD⟩ hEe (by omega)

