/-! the face: bits and checks -/
theorem srch {f : Nat → Bool} {v : Nat → Int} {i w : Int} {G : Nat → Int} {C : Nat} (h0 : G 0 = w) (hs : ∀ d, d < C → G (d + 1) = if f (C - (d + 1)) = true ∧ ((pn f (C - (d + 1)) : Nat) : Int) = i then v (C - (d + 1)) else G d) : (∃ j, j < C ∧ f j = true ∧ ((pn f j : Nat) : Int) = i ∧ G C = v j) ∨ ((∀ j, j < C → f j = true → ¬ ((pn f j : Nat) : Int) = i) ∧ G C = w) := by
  have key : ∀ d, d ≤ C → (∃ j, j < C ∧ f j = true ∧ ((pn f j : Nat) : Int) = i ∧ G d = v j) ∨ ((∀ j, C - d ≤ j → j < C → f j = true → ¬ ((pn f j : Nat) : Int) = i) ∧ G d = w) := by
    intro d
    induction d with
    | zero => exact fun _ => Or.inr ⟨fun j h1 h2 => by omega, h0⟩
    | succ d ih =>
      intro hd
      rw [hs d (by omega)]
      by_cases hq : f (C - (d + 1)) = true ∧ ((pn f (C - (d + 1)) : Nat) : Int) = i
      · rw [if_pos hq]
        exact Or.inl ⟨C - (d + 1), by omega, hq.1, hq.2, rfl⟩
      · rw [if_neg hq]
        rcases ih (by omega) with h | ⟨h1, h2⟩
        · exact Or.inl h
        · refine Or.inr ⟨fun j a b e z => ?_, h2⟩
          by_cases hj : j = C - (d + 1)
          · rw [hj] at e z
            exact hq ⟨e, z⟩
          · exact h1 j (by omega) b e z
  rcases key C (Nat.le_refl _) with h | ⟨h1, h2⟩
  · exact Or.inl h
  · exact Or.inr ⟨fun j a => h1 j (by omega) a, h2⟩
theorem pn_nth {f : Nat → Bool} {i : Nat} : ∀ {m : Nat}, i < pn f m → ∃ t, t < m ∧ f t = true ∧ pn f t = i
  | 0, h => absurd h (Nat.not_lt_zero _)
  | m + 1, h => by
    by_cases h1 : i < pn f m
    · obtain ⟨t, a, b, e⟩ := pn_nth h1
      exact ⟨t, by omega, b, e⟩
    · rw [pn] at h
      cases hb : f m with
      | false => rw [hb] at h; simp at h; omega
      | true => rw [hb] at h; simp at h; exact ⟨m, by omega, hb, by omega⟩
theorem csb_col {A : Nat → Int} {L R C i b : Nat} (hV : VC A L R C) (hi : i < L * R) (hb : b < L * C) : (cs A L C i).getLsbD b = decide (bitN (shA A) L i (b / L) = (b : Int)) := by
  obtain ⟨v1, v2, v3, v4, v5, v6, v7⟩ := id hV
  have hr := rowLt hi v4.1
  have hq : b / L < C := (Nat.div_lt_iff_lt_mul (by omega)).mpr (by rw [Nat.mul_comm]; exact hb)
  have e : (cs A L C i).getLsbD b = true ↔ bitN (shA A) L i (b / L) = (b : Int) := by
    refine (cset_bit (fun j hj => bitN_b hV hi hj)).trans ⟨?_, fun h => ⟨b / L, hq, h⟩⟩
    rintro ⟨j, hj, he⟩
    rcases bitN_rng (sh := shA A) (L := L) (c := i) (j := j) v4.1 (v7 _ (by omega)).1 with h | ⟨h1, h2⟩
    · omega
    · have hjb : b / L = j := by
        rw [he] at h1 h2
        have h3 : L * j ≤ b := by exact_mod_cast h1
        have h4 : b < L * j + L := by exact_mod_cast h2
        exact Nat.div_eq_of_lt_le (by rw [Nat.mul_comm]; exact h3) (by rw [Nat.succ_mul, Nat.mul_comm]; exact h4)
      rw [hjb]
      exact he
  cases h : (cs A L C i).getLsbD b with
  | true => exact (decide_eq_true (e.mp h)).symm
  | false => exact (decide_eq_false (fun q => by rw [e.mpr q] at h; cases h)).symm
/-- bits below a column: one for each column that is there -/
theorem csb_pn {A : Nat → Int} {L R C i : Nat} (hV : VC A L R C) (hi : i < L * R) : ∀ {j : Nat}, j ≤ C → pn (cs A L C i).getLsbD (L * j) = pn (okc (shA A) L i) j ∧ ∀ d, d ≤ L → j < C → (∀ e, e < d → ¬ bitN (shA A) L i j = ((L * j + e : Nat) : Int)) → pn (cs A L C i).getLsbD (L * j + d) = pn (cs A L C i).getLsbD (L * j) := by
  obtain ⟨v1, v2, v3, v4, v5, v6, v7⟩ := id hV
  have hr := rowLt hi v4.1
  have hcol : ∀ j e, j < C → e < L → (cs A L C i).getLsbD (L * j + e) = decide (bitN (shA A) L i j = ((L * j + e : Nat) : Int)) := fun j e hj he => by
    have hlt : L * j + e < L * C := by
      have := Nat.mul_le_mul_left L (show j + 1 ≤ C by omega)
      rw [Nat.mul_succ] at this
      omega
    rw [csb_col hV hi hlt, show (L * j + e) / L = j by rw [Nat.mul_add_div (by omega), Nat.div_eq_of_lt he]; rfl]
  have hz : ∀ j, j < C → ∀ d, d ≤ L → (∀ e, e < d → ¬ bitN (shA A) L i j = ((L * j + e : Nat) : Int)) → pn (cs A L C i).getLsbD (L * j + d) = pn (cs A L C i).getLsbD (L * j) := fun j hj d hd h => by
    rw [pn_add, pn_zero (f := fun t => (cs A L C i).getLsbD (L * j + t)) (n := d) (fun e he => by rw [hcol j e hj (by omega)]; exact decide_eq_false (h e he))]
    rfl
  intro j
  induction j with
  | zero => exact fun _ => ⟨by rw [Nat.mul_zero]; rfl, fun d hd hj h => hz 0 hj d hd h⟩
  | succ j ih =>
    intro hj
    refine ⟨?_, fun d hd hj2 h => hz (j + 1) hj2 d hd h⟩
    have h1 := (ih (by omega)).1
    rw [Nat.mul_succ]
    show _ = pn (okc (shA A) L i) j + (if okc (shA A) L i j then 1 else 0)
    rcases bitN_rng (sh := shA A) (L := L) (c := i) (j := j) v4.1 (v7 _ (by omega)).1 with h | ⟨h2, h3⟩
    · have hok : okc (shA A) L i j = false := by unfold okc; rw [h]; rfl
      rw [hz j (by omega) L (Nat.le_refl _) (fun e _ => by rw [h]; omega), h1, hok]
      rfl
    · have hok : okc (shA A) L i j = true := by
        unfold okc
        rw [decide_eq_false (by have : (0 : Int) ≤ (L : Int) * j := by exact_mod_cast Nat.zero_le (L * j)
                                omega)]
        rfl
      obtain ⟨e, he⟩ : ∃ e : Nat, bitN (shA A) L i j = ((L * j + e : Nat) : Int) := ⟨(bitN (shA A) L i j - (L : Int) * j).toNat, by push_cast; omega⟩
      have heL : e < L := by rw [he] at h3; push_cast at h3; omega
      rw [hok, pn_add, h1]
      have h5 := pn_off (f := fun t => (cs A L C i).getLsbD (L * j + t)) (g := fun _ => false) (n := L) heL (by show (cs A L C i).getLsbD (L * j + e) = true; rw [hcol j e (by omega) heL]; exact decide_eq_true he) rfl (fun t ht hte => by
        show false = (cs A L C i).getLsbD (L * j + t)
        rw [hcol j t (by omega) ht, decide_eq_false (fun q => by rw [he] at q; omega)])
      rw [h5, pn_zero (fun _ _ => rfl)]
      rfl
theorem csb_pop {A : Nat → Int} {L R C i : Nat} (hV : VC A L R C) (hi : i < L * R) : pop (cs A L C i) = pn (okc (shA A) L i) C := by
  obtain ⟨v1, v2, v3, v4, v5, v6, v7⟩ := id hV
  have hLC := mulLe (a := L) (b := C) (x := 6) (y := 8) (by omega) (by omega)
  rw [← (csb_pn hV hi (Nat.le_refl C)).1]
  exact pn_cut (by omega) (fun t h1 _ => cs_hi hV hi h1)
theorem has_mbr {A : Nat → Int} {L R C i : Nat} {x : Int} (hV : VC A L R C) (hi : i < L * R) (hx : ¬ x = -1) : mbr (cs A L C i) x (if -1 ≤ x then hasG (shA A) L i C x C else -1) := by
  obtain ⟨v1, v2, v3, v4, v5, v6, v7⟩ := id hV
  have hLC := mulLe (a := L) (b := C) (x := 6) (y := 8) (by omega) (by omega)
  have hr := rowLt hi v4.1
  by_cases h0 : x < 0
  · rw [if_neg (by omega)]
    exact Or.inl ⟨h0, rfl⟩
  rw [if_pos (by omega)]
  rcases srch (f := okc (shA A) L i) (v := bitN (shA A) L i) (i := x) (w := -1) (G := hasG (shA A) L i C x) (C := C) (by show (if x = -1 then _ else _) = _; rw [if_neg hx]) (fun d hd => rfl) with ⟨j, hj, hf, hp, he⟩ | ⟨hall, he⟩
  · rcases bitN_rng (sh := shA A) (L := L) (c := i) (j := j) v4.1 (v7 _ (by omega)).1 with h | ⟨h2, h3⟩
    · exfalso
      unfold okc at hf
      rw [h] at hf
      cases hf
    · obtain ⟨e, hb⟩ : ∃ e : Nat, bitN (shA A) L i j = ((L * j + e : Nat) : Int) := ⟨(bitN (shA A) L i j - (L : Int) * j).toNat, by push_cast; omega⟩
      have heL : e < L := by rw [hb] at h3; push_cast at h3; omega
      have hlt : L * j + e < L * C := by
        have := Nat.mul_le_mul_left L (show j + 1 ≤ C by omega)
        rw [Nat.mul_succ] at this
        omega
      refine Or.inr (Or.inr ⟨L * j + e, by omega, ?_, ?_, he.trans hb⟩)
      · rw [csb_col hV hi hlt, show (L * j + e) / L = j by rw [Nat.mul_add_div (by omega), Nat.div_eq_of_lt heL]; rfl]
        exact decide_eq_true hb
      · rw [(csb_pn hV hi (show j ≤ C by omega)).2 e (by omega) hj (fun t ht q => by rw [hb] at q; omega), (csb_pn hV hi (show j ≤ C by omega)).1]
        exact hp
  · refine Or.inr (Or.inl ⟨?_, he⟩)
    rw [csb_pop hV hi]
    refine Int.not_lt.mp fun hlt => ?_
    obtain ⟨t, a, b, e⟩ := pn_nth (f := okc (shA A) L i) (i := x.toNat) (m := C) (by omega)
    exact hall t a b (by omega)
theorem has_all {A : Nat → Int} {L R C i : Nat} (hV : VC A L R C) (hi : i < L * R) : hasG (shA A) L i C (-1) C = ((pop (cs A L C i) : Nat) : Int) := by
  rw [csb_pop hV hi]
  rcases srch (f := okc (shA A) L i) (v := bitN (shA A) L i) (i := -1) (w := ((pn (okc (shA A) L i) C : Nat) : Int)) (G := hasG (shA A) L i C (-1)) (C := C) (by show (if (-1 : Int) = -1 then _ else _) = _; rw [if_pos rfl]) (fun d hd => rfl) with ⟨j, hj, hf, hp, he⟩ | ⟨hall, he⟩
  · omega
  · exact he
theorem p32_0 {v : BitVec 32} : pop32 v = 0 ↔ v = 0#32 := by
  rw [b32_0]
  constructor
  · intro h i hi
    cases hb : v.getLsbD i with
    | false => rfl
    | true => have := pn_pos (f := v.getLsbD) hi hb; unfold pop32 at h; omega
  · intro h
    exact pn_zero h
theorem deg_eq {A : Nat → Int} {L R C b : Nat} (hV : VC A L R C) (hb : b < L * C) : pop32 (hgB (cs A L C) b (L * R)) = dgN (shA A) L b (L * R) := by
  obtain ⟨v1, v2, v3, v4, v5, v6, v7⟩ := id hV
  have hLR := mulLe (a := L) (b := R) (x := 6) (y := 4) (by omega) (by omega)
  have hm := msk_hgB (c := cs A L C) (m := L * R) (by omega)
  unfold pop32 dgN
  rw [pn_cut (n := L * R) (by omega) (fun i h1 _ => hm.2.2 b i h1)]
  exact pn_congr (fun i hi => by rw [← csb_col hV hi hb]; exact hm.2.1 b i hi)
theorem car_mbr {F cr : BitVec 64} {n : Nat} {z : Int} (hn : n ≤ 64) (hc : ∀ j, cr.getLsbD j = (decide (j < n) && !F.getLsbD j)) : mbr cr z (if z < 0 then -1 else crG F n z n) := by
  by_cases h0 : z < 0
  · rw [if_pos h0]
    exact Or.inl ⟨h0, rfl⟩
  rw [if_neg h0]
  have pe : ∀ t, t ≤ n → pn cr.getLsbD t = pn (fun i => !F.getLsbD i) t := fun t ht => pn_congr (fun i hi => by rw [hc i, decide_eq_true (show i < n by omega)]; rfl)
  rcases srch (f := fun i => !F.getLsbD i) (v := fun j => (j : Int)) (i := z) (w := -1) (G := crG F n z) (C := n) rfl (fun d hd => by
    show (if F.getLsbD (n - (d + 1)) = false ∧ _ then _ else _) = _
    simp only [Bool.not_eq_true']) with ⟨j, hj, hf, hp, he⟩ | ⟨hall, he⟩
  · refine Or.inr (Or.inr ⟨j, by omega, ?_, ?_, he⟩)
    · rw [hc j, decide_eq_true hj]; exact hf
    · rw [pe j (by omega)]; exact hp
  · refine Or.inr (Or.inl ⟨?_, he⟩)
    refine Int.not_lt.mp fun hlt => ?_
    have hpop : pop cr = pn (fun i => !F.getLsbD i) n := by
      rw [← pe n (Nat.le_refl _)]
      exact pn_cut hn (fun i h1 _ => by rw [hc i, decide_eq_false (by omega)]; rfl)
    obtain ⟨t, a, b, e⟩ := pn_nth (f := fun i => !F.getLsbD i) (i := z.toNat) (m := n) (by omega)
    exact hall t a b (by omega)
theorem x_has {o hd c : Nat} {sa : Nat → Nat → Int} {si : Nat → Int} {sl : Nat → BitVec 64} {h : HP} {A : Nat → Int} {L R C : Nat} {z x : Int} (hW : VW h o hd c sa si sl A L R C) (hz : ok32 z) (hx : ok32 x) : sp mX9_has [.ref o, .int (zI z), .int (zI x)] h 0 0 (pd (some (.int (zI (if (0 ≤ z ∧ z ≤ (L : Int) * R - 1) ∧ -1 ≤ x then hasG (shA A) L z.toNat C x C else -1)))) h) := by
  obtain ⟨⟨kd, rd, pl, cu, aw, fw, o_o⟩, ⟨nh, o_h⟩, hS, hR, hC, hT⟩ := id hW
  have o_n : h.2 (hd + 4) = some (.inr (7, sfs (hd + 4) c si sl)) := hS 0 (by omega)
  have r_heard : h.2 (hd + 4 + 1) = some (aI 48 (sa 1)) := hS 1 (by omega)
  have r_belief : h.2 (hd + 4 + 2) = some (aI 48 (sa 2)) := hS 2 (by omega)
  have r_turned : h.2 (hd + 4 + 3) = some (aI 48 (sa 3)) := hS 3 (by omega)
  have r_message : h.2 (hd + 4 + 4) = some (aI 192 (sa 4)) := hS 4 (by omega)
  have r_book : h.2 (hd + 4 + 5) = some (aI 48 (sa 5)) := hS 5 (by omega)
  have r_order : h.2 (hd + 4 + 6) = some (aI 4 (sa 6)) := hS 6 (by omega)
  obtain ⟨ad, f7, f8, f10, f9, f11, rk, cr, hV, h6, h7, o_c, r_c_shifts, r_c_edges, r_c_bitsOf, r_c_checksOf, r_c_sums, e7, e8, e9, e10, hRD⟩ := id hC
  obtain ⟨v1, v2, v3, v4, v5, v6, v7⟩ := id hV
  obtain ⟨hI, -, hSN, hA2⟩ := id hT
  obtain ⟨⟨s1, s2, s3, s4, s5, s6⟩, ⟨g8, g9⟩, ⟨nl, l7, lb, hBK⟩, b1, b2, b3, b4, b6⟩ := id hR
  have hLC := mulLe (a := L) (b := C) (x := 6) (y := 8) (by omega) (by omega)
  have hLR := mulLe (a := L) (b := R) (x := 6) (y := 4) (by omega) (by omega)
  have hLCi : (L : Int) * C = ((L * C : Nat) : Int) := by push_cast; rfl
  have hLRi : (L : Int) * R = ((L * R : Nat) : Int) := by push_cast; rfl
  refine sp_wp rfl (lv := [_, _, _, _, _]) rfl (Nat.le_of_ble_eq_true rfl) ?_
  refine w_aload_n dX9_has_0 rfl rfl ?_
  refine w_iload_n dX9_has_1 rfl rfl ?_
  refine wc_V (Z := mX9_isCheck) (As := [_]) (x_isCheck hW hz) o_o rfl kX9_isCheck lX9_208 iX9_isCheck vX9_isCheck dX9_has_2 rfl rfl rfl (Nat.le_of_ble_eq_true rfl) ⟨Nat.le_of_ble_eq_true rfl, Nat.le_of_ble_eq_true rfl⟩ ?_
  refine w_ifb_ne 10 dX9_has_5 (by decide) (fun hc => ?_) (fun hc => ?_)
  · refine w_aload_n dX9_has_10 rfl rfl ?_
    refine w_getf fX9_19 dX9_has_11 o_o rfl ?_
    refine w_getf fX9_89 dX9_has_14 o_h rfl ?_
    refine w_getf fX9_98 dX9_has_17 o_n rfl ?_
    refine w_getf fX9_211 dX9_has_20 o_c rfl ?_
    refine w_iload_n dX9_has_23 rfl rfl ?_
    refine w_lald (z.toNat) r_c_bitsOf (by first | rfl | omega | (push_cast; rfl) | (push_cast; omega)) (by omega) (by decide) dX9_has_24 ?_
    rw [e9 z.toNat (by omega)]
    refine w_lstore_n (lv' := [_, _, _, _, _]) dX9_has_25 rfl (Nat.le_of_ble_eq_true rfl) rfl rfl ?_
    refine w_iload_n dX9_has_26 rfl rfl ?_
    refine w_iconst dX9_has_27 ?_
    refine w_icmp_ne 38 dX9_has_28 (by decide) (by first | assumption | (unfold ok32 at *; omega)) (by first | assumption | (unfold ok32 at *; omega)) (fun hq => ?_) (fun hq => ?_)
    · have hm := has_mbr (x := x) hV (show z.toNat < L * R by omega) (by omega)
      refine w_lload_n dX9_has_38 rfl rfl ?_
      refine w_iload_n dX9_has_39 rfl rfl ?_
      refine wc_S (Z := mX9_memberOf) (As := [_, _]) (c9_memberOf hx hm) kX9_memberOf lX9_215 sX9_memberOf dX9_has_40 rfl rfl rfl (Nat.le_of_ble_eq_true rfl) ⟨Nat.le_of_ble_eq_true rfl, Nat.le_of_ble_eq_true rfl⟩ ?_
      refine x_iret rfl rfl dX9_has_43 ⟨?_, rfl⟩
      by_cases h1 : -1 ≤ x
      · rw [if_pos h1, if_pos ⟨hc, h1⟩]
      · rw [if_neg h1, if_neg (fun q => h1 q.2)]
    · have hx1 : x = -1 := by omega
      rw [if_pos ⟨hc, by omega⟩, hx1, has_all hV (by omega)]
      refine w_lload_n dX9_has_31 rfl rfl ?_
      refine wc_S (Z := mJ13_bitCount_95d88) (As := [_]) c_bitCount kJ13_bitCount_95d88 lX9_113 sJ13_bitCount_95d88 dX9_has_32 rfl rfl rfl (Nat.le_of_ble_eq_true rfl) ⟨Nat.le_of_ble_eq_true rfl, Nat.le_of_ble_eq_true rfl⟩ ?_
      refine w_goto 43 dX9_has_35 (by decide) ?_
      refine x_iret rfl rfl dX9_has_43 ⟨?_, rfl⟩
      rfl
  · rw [if_neg (fun q => hc q.1)]
    refine w_iconst dX9_has_8 ?_
    refine x_iret rfl rfl dX9_has_9 ⟨?_, rfl⟩
    rfl
theorem x_degree {o hd c : Nat} {sa : Nat → Nat → Int} {si : Nat → Int} {sl : Nat → BitVec 64} {h : HP} {A : Nat → Int} {L R C : Nat} {z : Int} (hW : VW h o hd c sa si sl A L R C) (hz : ok32 z) : sp mX9_degree [.ref o, .int (zI z)] h 0 0 (pd (some (.int (zI (if 0 ≤ z ∧ z ≤ (L : Int) * C - 1 then ((dgN (shA A) L z.toNat (L * R) : Nat) : Int) else -1)))) h) := by
  obtain ⟨⟨kd, rd, pl, cu, aw, fw, o_o⟩, ⟨nh, o_h⟩, hS, hR, hC, hT⟩ := id hW
  have o_n : h.2 (hd + 4) = some (.inr (7, sfs (hd + 4) c si sl)) := hS 0 (by omega)
  have r_heard : h.2 (hd + 4 + 1) = some (aI 48 (sa 1)) := hS 1 (by omega)
  have r_belief : h.2 (hd + 4 + 2) = some (aI 48 (sa 2)) := hS 2 (by omega)
  have r_turned : h.2 (hd + 4 + 3) = some (aI 48 (sa 3)) := hS 3 (by omega)
  have r_message : h.2 (hd + 4 + 4) = some (aI 192 (sa 4)) := hS 4 (by omega)
  have r_book : h.2 (hd + 4 + 5) = some (aI 48 (sa 5)) := hS 5 (by omega)
  have r_order : h.2 (hd + 4 + 6) = some (aI 4 (sa 6)) := hS 6 (by omega)
  obtain ⟨ad, f7, f8, f10, f9, f11, rk, cr, hV, h6, h7, o_c, r_c_shifts, r_c_edges, r_c_bitsOf, r_c_checksOf, r_c_sums, e7, e8, e9, e10, hRD⟩ := id hC
  obtain ⟨v1, v2, v3, v4, v5, v6, v7⟩ := id hV
  obtain ⟨hI, -, hSN, hA2⟩ := id hT
  obtain ⟨⟨s1, s2, s3, s4, s5, s6⟩, ⟨g8, g9⟩, ⟨nl, l7, lb, hBK⟩, b1, b2, b3, b4, b6⟩ := id hR
  have hLC := mulLe (a := L) (b := C) (x := 6) (y := 8) (by omega) (by omega)
  have hLR := mulLe (a := L) (b := R) (x := 6) (y := 4) (by omega) (by omega)
  have hLCi : (L : Int) * C = ((L * C : Nat) : Int) := by push_cast; rfl
  have hLRi : (L : Int) * R = ((L * R : Nat) : Int) := by push_cast; rfl
  refine sp_wp rfl (lv := [_, _]) rfl (Nat.le_of_ble_eq_true rfl) ?_
  refine w_aload_n dX9_degree_0 rfl rfl ?_
  refine w_iload_n dX9_degree_1 rfl rfl ?_
  refine wc_V (Z := mX9_isBit) (As := [_]) (x_isBit hW hz) o_o rfl kX9_isBit lX9_129 iX9_isBit vX9_isBit dX9_degree_2 rfl rfl rfl (Nat.le_of_ble_eq_true rfl) ⟨Nat.le_of_ble_eq_true rfl, Nat.le_of_ble_eq_true rfl⟩ ?_
  refine w_ifb_eq 29 dX9_degree_5 (by decide) (fun hc => ?_) (fun hc => ?_)
  · rw [if_neg hc]
    refine w_iconst dX9_degree_29 ?_
    refine x_iret rfl rfl dX9_degree_30 ⟨?_, rfl⟩
    rfl
  · rw [if_pos hc, ← deg_eq hV (show z.toNat < L * C by omega)]
    refine w_aload_n dX9_degree_8 rfl rfl ?_
    refine w_getf fX9_19 dX9_degree_9 o_o rfl ?_
    refine w_getf fX9_89 dX9_degree_12 o_h rfl ?_
    refine w_getf fX9_98 dX9_degree_15 o_n rfl ?_
    refine w_getf fX9_219 dX9_degree_18 o_c rfl ?_
    refine w_iload_n dX9_degree_21 rfl rfl ?_
    refine w_iald (z.toNat) r_c_checksOf (by first | rfl | omega | (push_cast; rfl) | (push_cast; omega)) (by omega) (by decide) dX9_degree_22 ?_
    rw [e10 z.toNat (by omega), zB]
    refine wc_S (Z := mJ6_bitCount_0f7a4) (As := [_]) c_ibitCount kJ6_bitCount_0f7a4 lX9_222 sJ6_bitCount_0f7a4 dX9_degree_23 rfl rfl rfl (Nat.le_of_ble_eq_true rfl) ⟨Nat.le_of_ble_eq_true rfl, Nat.le_of_ble_eq_true rfl⟩ ?_
    refine w_goto 30 dX9_degree_26 (by decide) ?_
    refine x_iret rfl rfl dX9_degree_30 ⟨?_, rfl⟩
    rfl
theorem x_loose {o hd c : Nat} {sa : Nat → Nat → Int} {si : Nat → Int} {sl : Nat → BitVec 64} {h : HP} {A : Nat → Int} {L R C : Nat} (hW : VW h o hd c sa si sl A L R C) : sp mX9_loose [.ref o] h 0 0 (pd (some (.long (lB (lsB (shA A) L (L * R) (L * C))))) h) := by
  obtain ⟨⟨kd, rd, pl, cu, aw, fw, o_o⟩, ⟨nh, o_h⟩, hS, hR, hC, hT⟩ := id hW
  have o_n : h.2 (hd + 4) = some (.inr (7, sfs (hd + 4) c si sl)) := hS 0 (by omega)
  have r_heard : h.2 (hd + 4 + 1) = some (aI 48 (sa 1)) := hS 1 (by omega)
  have r_belief : h.2 (hd + 4 + 2) = some (aI 48 (sa 2)) := hS 2 (by omega)
  have r_turned : h.2 (hd + 4 + 3) = some (aI 48 (sa 3)) := hS 3 (by omega)
  have r_message : h.2 (hd + 4 + 4) = some (aI 192 (sa 4)) := hS 4 (by omega)
  have r_book : h.2 (hd + 4 + 5) = some (aI 48 (sa 5)) := hS 5 (by omega)
  have r_order : h.2 (hd + 4 + 6) = some (aI 4 (sa 6)) := hS 6 (by omega)
  obtain ⟨ad, f7, f8, f10, f9, f11, rk, cr, hV, h6, h7, o_c, r_c_shifts, r_c_edges, r_c_bitsOf, r_c_checksOf, r_c_sums, e7, e8, e9, e10, hRD⟩ := id hC
  obtain ⟨v1, v2, v3, v4, v5, v6, v7⟩ := id hV
  obtain ⟨hI, -, hSN, hA2⟩ := id hT
  obtain ⟨⟨s1, s2, s3, s4, s5, s6⟩, ⟨g8, g9⟩, ⟨nl, l7, lb, hBK⟩, b1, b2, b3, b4, b6⟩ := id hR
  have hLC := mulLe (a := L) (b := C) (x := 6) (y := 8) (by omega) (by omega)
  have hLR := mulLe (a := L) (b := R) (x := 6) (y := 4) (by omega) (by omega)
  have hLCi : (L : Int) * C = ((L * C : Nat) : Int) := by push_cast; rfl
  have hLRi : (L : Int) * R = ((L * R : Nat) : Int) := by push_cast; rfl
  refine sp_wp rfl (lv := [_, _, _, _, _]) rfl (Nat.le_of_ble_eq_true rfl) ?_
  refine w_aload_n dX9_loose_0 rfl rfl ?_
  refine w_getf fX9_19 dX9_loose_1 o_o rfl ?_
  refine w_getf fX9_89 dX9_loose_4 o_h rfl ?_
  refine w_getf fX9_98 dX9_loose_7 o_n rfl ?_
  refine w_astore_n (lv' := [_, _, _, _, _]) dX9_loose_10 rfl (Nat.le_of_ble_eq_true rfl) rfl rfl ?_
  refine w_lconst0 dX9_loose_11 ?_
  refine w_lstore_n (lv' := [_, _, _, _, _]) dX9_loose_12 rfl (Nat.le_of_ble_eq_true rfl) rfl rfl ?_
  refine w_iconst dX9_loose_13 ?_
  refine w_istore (lv' := [_, _, _, _, _]) dX9_loose_14 (Nat.le_of_ble_eq_true rfl) rfl rfl ?_
  have key : ∀ k, k ≤ L * C → wp mX9_loose 16 [.ref o, .ref c, .long (lB (lsB (shA A) L (L * R) k)), jk, .int (zI (k : Int))] [] h 0 0 (pd (some (.long (lB (lsB (shA A) L (L * R) (L * C))))) h) := by
    refine up_ind (fun k hk ih => ?_)
    refine w_iload dX9_loose_16 rfl ?_
    refine w_aload_n dX9_loose_18 rfl rfl ?_
    refine w_getf fX9_95 dX9_loose_19 o_c rfl ?_
    refine w_icmp_ge 48 dX9_loose_22 (by decide) (by first | assumption | (unfold ok32 at *; omega)) (by first | assumption | (unfold ok32 at *; omega)) (fun hc => ?_) (fun hc => ?_)
    · refine w_lload_n dX9_loose_48 rfl rfl ?_
      refine x_lret rfl dX9_loose_49 ⟨?_, rfl⟩
      rw [show k = L * C by omega]
    · refine w_aload_n dX9_loose_25 rfl rfl ?_
      refine w_getf fX9_219 dX9_loose_26 o_c rfl ?_
      refine w_iload dX9_loose_29 rfl ?_
      refine w_iald (k) r_c_checksOf (by first | rfl | omega | (push_cast; rfl) | (push_cast; omega)) (by omega) (by decide) dX9_loose_31 ?_
      have he := e10 k (by omega)
      have hdk := deg_eq hV (show k < L * C by omega)
      have hi32 : ok32 (f10 k) := by rw [he]; exact ok32_of (iB _)
      refine w_if_ne 42 dX9_loose_32 (by decide) hi32 (fun hz => ?_) (fun hz => ?_)
      · refine w_iinc (lv' := [_, _, _, _, _]) dX9_loose_42 rfl rfl rfl ?_
        refine w_goto 16 dX9_loose_45 (by decide) ?_
        refine w_cast ?_ rfl rfl (ih (by omega))
        rw [lsB, if_neg (fun q => hz (by rw [he]; rw [← hdk] at q; exact toInt_0.mpr (p32_0.mp q)))]
        rfl
      · refine w_lload_n dX9_loose_35 rfl rfl ?_
        refine w_lconst1 dX9_loose_36 ?_
        refine w_iload dX9_loose_37 rfl ?_
        refine w_lshl k rfl (by omega) dX9_loose_39 ?_
        refine w_lor dX9_loose_40 ?_
        refine w_lstore_n (lv' := [_, _, _, _, _]) dX9_loose_41 rfl (Nat.le_of_ble_eq_true rfl) rfl rfl ?_
        refine w_iinc (lv' := [_, _, _, _, _]) dX9_loose_42 rfl rfl rfl ?_
        refine w_goto 16 dX9_loose_45 (by decide) ?_
        refine w_cast ?_ rfl rfl (ih (by omega))
        rw [lsB, if_pos (by rw [← hdk]; exact p32_0.mpr (toInt_0.mp (by rw [← he]; exact hz)))]
        rfl
  exact key 0 (Nat.zero_le _)
theorem x_carrier {o hd c : Nat} {sa : Nat → Nat → Int} {si : Nat → Int} {sl : Nat → BitVec 64} {h : HP} {A : Nat → Int} {L R C : Nat} {z : Int} {q0 : Nat → BitVec 64} (hW : VW h o hd c sa si sl A L R C) (hz : ok32 z) : sp mX9_carrier [.ref o, .int (zI z)] h 0 0 (pd (some (.int (zI (if z < 0 then -1 else crG (lsR A q0 L R C).2.1 (L * C) z (L * C))))) h) := by
  obtain ⟨⟨kd, rd, pl, cu, aw, fw, o_o⟩, ⟨nh, o_h⟩, hS, hR, hC, hT⟩ := id hW
  have o_n : h.2 (hd + 4) = some (.inr (7, sfs (hd + 4) c si sl)) := hS 0 (by omega)
  have r_heard : h.2 (hd + 4 + 1) = some (aI 48 (sa 1)) := hS 1 (by omega)
  have r_belief : h.2 (hd + 4 + 2) = some (aI 48 (sa 2)) := hS 2 (by omega)
  have r_turned : h.2 (hd + 4 + 3) = some (aI 48 (sa 3)) := hS 3 (by omega)
  have r_message : h.2 (hd + 4 + 4) = some (aI 192 (sa 4)) := hS 4 (by omega)
  have r_book : h.2 (hd + 4 + 5) = some (aI 48 (sa 5)) := hS 5 (by omega)
  have r_order : h.2 (hd + 4 + 6) = some (aI 4 (sa 6)) := hS 6 (by omega)
  obtain ⟨ad, f7, f8, f10, f9, f11, rk, cr, hV, h6, h7, o_c, r_c_shifts, r_c_edges, r_c_bitsOf, r_c_checksOf, r_c_sums, e7, e8, e9, e10, hRD⟩ := id hC
  obtain ⟨v1, v2, v3, v4, v5, v6, v7⟩ := id hV
  obtain ⟨hI, -, hSN, hA2⟩ := id hT
  obtain ⟨⟨s1, s2, s3, s4, s5, s6⟩, ⟨g8, g9⟩, ⟨nl, l7, lb, hBK⟩, b1, b2, b3, b4, b6⟩ := id hR
  have hLC := mulLe (a := L) (b := C) (x := 6) (y := 8) (by omega) (by omega)
  have hLR := mulLe (a := L) (b := R) (x := 6) (y := 4) (by omega) (by omega)
  have hLCi : (L : Int) * C = ((L * C : Nat) : Int) := by push_cast; rfl
  have hLRi : (L : Int) * R = ((L * R : Nat) : Int) := by push_cast; rfl
  refine sp_wp rfl (lv := [_, _]) rfl (Nat.le_of_ble_eq_true rfl) ?_
  refine w_aload_n dX9_carrier_0 rfl rfl ?_
  refine w_getf fX9_19 dX9_carrier_1 o_o rfl ?_
  refine w_getf fX9_89 dX9_carrier_4 o_h rfl ?_
  refine w_getf fX9_98 dX9_carrier_7 o_n rfl ?_
  refine w_getf fX9_232 dX9_carrier_10 o_c rfl ?_
  refine w_iload_n dX9_carrier_13 rfl rfl ?_
  refine wc_S (Z := mX9_memberOf) (As := [_, _]) (c9_memberOf hz (car_mbr (by omega) (hRD q0).2.1)) kX9_memberOf lX9_215 sX9_memberOf dX9_carrier_14 rfl rfl rfl (Nat.le_of_ble_eq_true rfl) ⟨Nat.le_of_ble_eq_true rfl, Nat.le_of_ble_eq_true rfl⟩ ?_
  refine x_iret rfl rfl dX9_carrier_17 ⟨?_, rfl⟩
  rfl
theorem x_path {o hd c : Nat} {sa : Nat → Nat → Int} {si : Nat → Int} {sl : Nat → BitVec 64} {h : HP} {A : Nat → Int} {L R C : Nat} {z x : Int} (hW : VW h o hd c sa si sl A L R C) (hz : ok32 z) (hx : ok32 x) : sp mX9_path [.ref o, .int (zI z), .int (zI x)] h 0 0 (pd (some (.int (zI (if (0 ≤ z ∧ z ≤ (L : Int) * C - 1) ∧ (0 ≤ x ∧ x ≤ (L : Int) * C - 1) then ptF (cs A L C) (L * R) x.toNat 64 (1#64 <<< z.toNat) 0 else -1)))) h) := by
  obtain ⟨⟨kd, rd, pl, cu, aw, fw, o_o⟩, ⟨nh, o_h⟩, hS, hR, hC, hT⟩ := id hW
  have o_n : h.2 (hd + 4) = some (.inr (7, sfs (hd + 4) c si sl)) := hS 0 (by omega)
  have r_heard : h.2 (hd + 4 + 1) = some (aI 48 (sa 1)) := hS 1 (by omega)
  have r_belief : h.2 (hd + 4 + 2) = some (aI 48 (sa 2)) := hS 2 (by omega)
  have r_turned : h.2 (hd + 4 + 3) = some (aI 48 (sa 3)) := hS 3 (by omega)
  have r_message : h.2 (hd + 4 + 4) = some (aI 192 (sa 4)) := hS 4 (by omega)
  have r_book : h.2 (hd + 4 + 5) = some (aI 48 (sa 5)) := hS 5 (by omega)
  have r_order : h.2 (hd + 4 + 6) = some (aI 4 (sa 6)) := hS 6 (by omega)
  obtain ⟨ad, f7, f8, f10, f9, f11, rk, cr, hV, h6, h7, o_c, r_c_shifts, r_c_edges, r_c_bitsOf, r_c_checksOf, r_c_sums, e7, e8, e9, e10, hRD⟩ := id hC
  obtain ⟨v1, v2, v3, v4, v5, v6, v7⟩ := id hV
  obtain ⟨hI, -, hSN, hA2⟩ := id hT
  obtain ⟨⟨s1, s2, s3, s4, s5, s6⟩, ⟨g8, g9⟩, ⟨nl, l7, lb, hBK⟩, b1, b2, b3, b4, b6⟩ := id hR
  have hLC := mulLe (a := L) (b := C) (x := 6) (y := 8) (by omega) (by omega)
  have hLR := mulLe (a := L) (b := R) (x := 6) (y := 4) (by omega) (by omega)
  have hLCi : (L : Int) * C = ((L * C : Nat) : Int) := by push_cast; rfl
  have hLRi : (L : Int) * R = ((L * R : Nat) : Int) := by push_cast; rfl
  refine sp_wp rfl (lv := [_, _, _]) rfl (Nat.le_of_ble_eq_true rfl) ?_
  refine w_aload_n dX9_path_0 rfl rfl ?_
  refine w_iload_n dX9_path_1 rfl rfl ?_
  refine wc_V (Z := mX9_isBit) (As := [_]) (x_isBit hW hz) o_o rfl kX9_isBit lX9_129 iX9_isBit vX9_isBit dX9_path_2 rfl rfl rfl (Nat.le_of_ble_eq_true rfl) ⟨Nat.le_of_ble_eq_true rfl, Nat.le_of_ble_eq_true rfl⟩ ?_
  refine w_ifb_eq 16 dX9_path_5 (by decide) (fun hc => ?_) (fun hc => ?_)
  · rw [if_neg (fun q => hc q.1)]
    refine w_iconst dX9_path_16 ?_
    refine x_iret rfl rfl dX9_path_17 ⟨?_, rfl⟩
    rfl
  · refine w_aload_n dX9_path_8 rfl rfl ?_
    refine w_iload_n dX9_path_9 rfl rfl ?_
    refine wc_V (Z := mX9_isBit) (As := [_]) (x_isBit hW hx) o_o rfl kX9_isBit lX9_129 iX9_isBit vX9_isBit dX9_path_10 rfl rfl rfl (Nat.le_of_ble_eq_true rfl) ⟨Nat.le_of_ble_eq_true rfl, Nat.le_of_ble_eq_true rfl⟩ ?_
    refine w_ifb_ne 18 dX9_path_13 (by decide) (fun hd2 => ?_) (fun hd2 => ?_)
    · rw [if_pos ⟨hc, hd2⟩, ← way_path (by omega) (by omega)]
      refine w_aload_n dX9_path_18 rfl rfl ?_
      refine w_getf fX9_19 dX9_path_19 o_o rfl ?_
      refine w_getf fX9_89 dX9_path_22 o_h rfl ?_
      refine w_getf fX9_98 dX9_path_25 o_n rfl ?_
      refine w_iload_n dX9_path_28 rfl rfl ?_
      refine w_lconst1 dX9_path_29 ?_
      refine w_iload_n dX9_path_30 rfl rfl ?_
      refine w_lshl x.toNat (by omega) (by omega) dX9_path_31 ?_
      rw [show z = ((z.toNat : Nat) : Int) by omega, Int.toNat_natCast]
      refine w_iconst dX9_path_32 ?_
      refine wc_S (Z := mX4_way) (As := [_, _, _, _]) (c4_way (cc := cs A L C) hC (by omega) (by unfold ok32; omega) (fun i hi => by rw [if_neg (by omega)])) kX4_way lX9_271 sX4_way dX9_path_33 rfl rfl rfl (Nat.le_of_ble_eq_true rfl) ⟨Nat.le_of_ble_eq_true rfl, Nat.le_of_ble_eq_true rfl⟩ ?_
      refine x_iret rfl rfl dX9_path_36 ⟨?_, rfl⟩
      rfl
    · rw [if_neg (fun q => hd2 q.2)]
      refine w_iconst dX9_path_16 ?_
      refine x_iret rfl rfl dX9_path_17 ⟨?_, rfl⟩
      rfl

