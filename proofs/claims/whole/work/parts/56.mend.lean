/-! the class's messages: two least rests -/
def tlS (ok : Nat → Bool) (q : Nat → Int) : Nat → Int × Int × Int × Bool
  | 0 => (1000, 1000, -1, false)
  | k + 1 => if ok k = false then tlS ok q k else if szd (q k) < (tlS ok q k).1 then (szd (q k), (tlS ok q k).1, (k : Int), if q k < 0 then !(tlS ok q k).2.2.2 else (tlS ok q k).2.2.2) else if szd (q k) < (tlS ok q k).2.1 then ((tlS ok q k).1, szd (q k), (tlS ok q k).2.2.1, if q k < 0 then !(tlS ok q k).2.2.2 else (tlS ok q k).2.2.2) else ((tlS ok q k).1, (tlS ok q k).2.1, (tlS ok q k).2.2.1, if q k < 0 then !(tlS ok q k).2.2.2 else (tlS ok q k).2.2.2)
theorem tlS_ok {ok : Nat → Bool} {q : Nat → Int} : ∀ {k : Nat}, (∀ i, i < k → ok i = true → -130 ≤ q i ∧ q i ≤ 130) → (0 ≤ (tlS ok q k).1 ∧ (tlS ok q k).1 ≤ (tlS ok q k).2.1 ∧ (tlS ok q k).2.1 ≤ 1000) ∧ (-1 ≤ (tlS ok q k).2.2.1 ∧ (tlS ok q k).2.2.1 < (k : Int)) ∧ ∀ j, (if (nmS ok q j k).1 = -1 then 1000 else (nmS ok q j k).1) = (if (tlS ok q k).2.2.1 = (j : Int) then (tlS ok q k).2.1 else (tlS ok q k).1) ∧ (nmS ok q j k).2 = (if j < k ∧ ok j = true ∧ q j < 0 then !(tlS ok q k).2.2.2 else (tlS ok q k).2.2.2)
  | 0, _ => by
    refine ⟨⟨show (0 : Int) ≤ 1000 by decide, show (1000 : Int) ≤ 1000 by decide, show (1000 : Int) ≤ 1000 by decide⟩, ⟨show (-1 : Int) ≤ -1 by decide, show (-1 : Int) < ((0 : Nat) : Int) by decide⟩, fun j => ⟨?_, ?_⟩⟩
    · show (if (-1 : Int) = -1 then (1000 : Int) else -1) = (if (-1 : Int) = (j : Int) then 1000 else 1000)
      rw [if_pos rfl]; split <;> rfl
    · show false = if j < 0 ∧ _ then !false else false
      rw [if_neg (fun h => absurd h.1 (Nat.not_lt_zero _))]
  | k + 1, h => by
    obtain ⟨⟨a1, a2, a3⟩, ⟨b1, b2⟩, c1⟩ := tlS_ok (k := k) (fun i hi => h i (by omega))
    have hn := fun j => nmS_rng (ok := ok) (q := q) (j := j) (k := k) (fun i hi => h i (by omega))
    unfold tlS nmS
    by_cases hk : ok k = false
    · rw [if_pos hk]
      refine ⟨⟨a1, a2, a3⟩, ⟨b1, by omega⟩, fun j => ?_⟩
      rw [if_pos (Or.inr hk)]
      refine ⟨(c1 j).1, ?_⟩
      rw [(c1 j).2]
      by_cases hj : j < k
      · simp only [hj, show j < k + 1 by omega, true_and]
      · by_cases hjk : j = k
        · subst hjk; simp [hk]
        · simp only [hj, show ¬ j < k + 1 by omega, false_and]
    · rw [if_neg hk]
      have hkt : ok k = true := by simpa using hk
      have hs := szd_rng (h k (by omega) hkt)
      obtain ⟨s, hse⟩ : ∃ s, szd (q k) = s := ⟨_, rfl⟩
      rw [hse] at hs ⊢
      obtain ⟨T, hT⟩ : ∃ T, tlS ok q k = T := ⟨_, rfl⟩
      rw [hT] at a1 a2 a3 b1 b2 ⊢
      simp only [hT] at c1
      obtain ⟨l, d, w, p⟩ := T
      dsimp only at a1 a2 a3 b1 b2 c1 ⊢
      have hpar : ∀ j, (if k = j ∨ ok k = false then nmS ok q j k else (if (nmS ok q j k).1 = -1 ∨ s < (nmS ok q j k).1 then s else (nmS ok q j k).1, if q k < 0 then !(nmS ok q j k).2 else (nmS ok q j k).2)).2 = if j < k + 1 ∧ ok j = true ∧ q j < 0 then !(if q k < 0 then !p else p) else (if q k < 0 then !p else p) := by
        intro j
        by_cases hjk : k = j
        · subst hjk
          rw [if_pos (Or.inl rfl), (c1 k).2, if_neg (fun z => absurd z.1 (Nat.lt_irrefl _))]
          by_cases hq : q k < 0
          · rw [if_pos ⟨by omega, hkt, hq⟩, if_pos hq]; simp
          · rw [if_neg (fun z => hq z.2.2), if_neg hq]
        · rw [if_neg (fun z => z.elim hjk hk)]
          show (if q k < 0 then !(nmS ok q j k).2 else (nmS ok q j k).2) = _
          rw [(c1 j).2]
          have he : (j < k + 1 ∧ ok j = true ∧ q j < 0) ↔ (j < k ∧ ok j = true ∧ q j < 0) := ⟨fun z => ⟨by omega, z.2⟩, fun z => ⟨by omega, z.2⟩⟩
          by_cases hq : q k < 0
          · rw [if_pos hq, if_pos hq]
            by_cases h3 : j < k ∧ ok j = true ∧ q j < 0
            · rw [if_pos h3, if_pos (he.mpr h3)]
            · rw [if_neg h3, if_neg (fun z => h3 (he.mp z))]
          · rw [if_neg hq, if_neg hq]
            by_cases h3 : j < k ∧ ok j = true ∧ q j < 0
            · rw [if_pos h3, if_pos (he.mpr h3)]
            · rw [if_neg h3, if_neg (fun z => h3 (he.mp z))]
      have hmin : ∀ j, ¬ k = j → (if (if k = j ∨ ok k = false then nmS ok q j k else (if (nmS ok q j k).1 = -1 ∨ s < (nmS ok q j k).1 then s else (nmS ok q j k).1, if q k < 0 then !(nmS ok q j k).2 else (nmS ok q j k).2)).1 = -1 then 1000 else (if k = j ∨ ok k = false then nmS ok q j k else (if (nmS ok q j k).1 = -1 ∨ s < (nmS ok q j k).1 then s else (nmS ok q j k).1, if q k < 0 then !(nmS ok q j k).2 else (nmS ok q j k).2)).1) = if s < (if w = (j : Int) then d else l) then s else (if w = (j : Int) then d else l) := by
        intro j hjk
        have hz : ¬ (k = j ∨ ok k = false) := fun z => z.elim hjk hk
        simp only [if_neg hz]
        show (if (if (nmS ok q j k).1 = -1 ∨ s < (nmS ok q j k).1 then s else (nmS ok q j k).1) = -1 then (1000 : Int) else (if (nmS ok q j k).1 = -1 ∨ s < (nmS ok q j k).1 then s else (nmS ok q j k).1)) = _
        have h2 := (c1 j).1
        have h3 := hn j
        obtain ⟨v, hv⟩ : ∃ v, (nmS ok q j k).1 = v := ⟨_, rfl⟩
        obtain ⟨u, hu⟩ : ∃ u, (if w = (j : Int) then d else l) = u := ⟨_, rfl⟩
        rw [hv] at h2 h3 ⊢
        rw [hu] at h2 ⊢
        by_cases q1 : v = -1
        · rw [if_pos q1] at h2
          rw [if_pos (Or.inl q1), if_neg (by omega), if_pos (by omega)]
        · rw [if_neg q1] at h2
          subst h2
          by_cases q2 : s < v
          · rw [if_pos (Or.inr q2), if_neg (by omega), if_pos q2]
          · have hz2 : ¬ (v = -1 ∨ s < v) := fun z => z.elim q1 q2
            simp only [if_neg hz2, if_neg q1, if_neg q2]
      have hown : (if (if k = k ∨ ok k = false then nmS ok q k k else (if (nmS ok q k k).1 = -1 ∨ s < (nmS ok q k k).1 then s else (nmS ok q k k).1, if q k < 0 then !(nmS ok q k k).2 else (nmS ok q k k).2)).1 = -1 then 1000 else (if k = k ∨ ok k = false then nmS ok q k k else (if (nmS ok q k k).1 = -1 ∨ s < (nmS ok q k k).1 then s else (nmS ok q k k).1, if q k < 0 then !(nmS ok q k k).2 else (nmS ok q k k).2)).1) = l := by
        rw [if_pos (Or.inl rfl), (c1 k).1, if_neg (by omega)]
      by_cases h1 : s < l
      · rw [if_pos h1]
        refine ⟨⟨hs.1, by show s ≤ l; omega, by show l ≤ 1000; omega⟩, ⟨by show (-1 : Int) ≤ (k : Int); omega, by show (k : Int) < ((k + 1 : Nat) : Int); omega⟩, fun j => ⟨?_, hpar j⟩⟩
        show _ = if (k : Int) = (j : Int) then l else s
        by_cases hjk : k = j
        · subst hjk
          rw [hown, if_pos rfl]
        · rw [hmin j hjk, if_neg (show ¬ (k : Int) = (j : Int) by omega), if_pos (by split <;> omega)]
      · rw [if_neg h1]
        by_cases h2 : s < d
        · rw [if_pos h2]
          refine ⟨⟨a1, by show l ≤ s; omega, by show s ≤ 1000; omega⟩, ⟨b1, by show w < ((k + 1 : Nat) : Int); omega⟩, fun j => ⟨?_, hpar j⟩⟩
          show _ = if w = (j : Int) then s else l
          by_cases hjk : k = j
          · subst hjk
            rw [hown, if_neg (by omega)]
          · rw [hmin j hjk]
            by_cases hwj : w = (j : Int)
            · rw [if_pos hwj, if_pos hwj, if_pos h2]
            · rw [if_neg hwj, if_neg hwj, if_neg h1]
        · rw [if_neg h2]
          refine ⟨⟨a1, a2, a3⟩, ⟨b1, by show w < ((k + 1 : Nat) : Int); omega⟩, fun j => ⟨?_, hpar j⟩⟩
          show _ = if w = (j : Int) then d else l
          by_cases hjk : k = j
          · subst hjk
            rw [hown, if_neg (by omega)]
          · rw [hmin j hjk, if_neg (by split <;> omega)]
def szO (off mo z : Int) : Int := if 1000 ≤ z ∨ z ≤ off then 0 else if z - off < mo then z - off else mo
theorem two_least {ok : Nat → Bool} {q : Nat → Int} {j C : Nat} {off mo : Int} (hq : ∀ i, i < C → ok i = true → -130 ≤ q i ∧ q i ≤ 130) (ho : 0 ≤ off ∧ off ≤ 9) (hm : 1 ≤ mo ∧ mo ≤ 31) : hld ((nmS ok q j C).1 - off) 0 mo = szO off mo (if (tlS ok q C).2.2.1 = (j : Int) then (tlS ok q C).2.1 else (tlS ok q C).1) := by
  obtain ⟨-, -, h⟩ := tlS_ok hq
  rw [← (h j).1]
  have h3 := nmS_rng (ok := ok) (q := q) (j := j) (k := C) hq
  obtain ⟨v, hv⟩ : ∃ v, (nmS ok q j C).1 = v := ⟨_, rfl⟩
  rw [hv] at h3 ⊢
  unfold hld szO
  by_cases h1 : v = -1
  · rw [if_pos h1, if_pos (by omega), if_pos (by omega)]
  · rw [if_neg h1]
    by_cases h2 : v - off < 0
    · rw [if_pos h2, if_pos (by omega)]
    · rw [if_neg h2]
      by_cases h4 : mo < v - off
      · rw [if_pos h4, if_neg (by omega), if_neg (by omega)]
      · rw [if_neg h4]
        by_cases h5 : v ≤ off
        · rw [if_pos (by omega)]; omega
        · rw [if_neg (by omega)]
          split <;> omega
theorem neg31_tab : ((List.range 401).all fun i => decide (((zI ((i : Int) - 200)).toUInt32 >>> ((zI 31).toUInt32 &&& Int32.toUInt32 31)).toInt32 = zI (bI ((i : Int) - 200 < 0)))) = true := by decide +kernel
theorem neg31 {z : Int} (h : -200 ≤ z ∧ z ≤ 200) : ((zI z).toUInt32 >>> ((zI 31).toUInt32 &&& Int32.toUInt32 31)).toInt32 = zI (bI (z < 0)) := by
  have h1 := List.all_eq_true.mp neg31_tab (z + 200).toNat (List.mem_range.mpr (by omega))
  rw [show (((z + 200).toNat : Nat) : Int) - 200 = z by omega] at h1
  exact of_decide_eq_true h1
theorem xorb (p : Bool) (z : Int) : zI (bI (p = true)) ^^^ zI (bI (z < 0)) = zI (bI ((if z < 0 then !p else p) = true)) := by
  by_cases h : z < 0
  · rw [if_pos h, bI_t h]
    cases p <;> decide
  · rw [if_neg h, bI_f h]
    cases p <;> decide
theorem u1_sw {α : Type} {f : Nat → α} {k j : Nat} {v w : α} (h : k ≠ j) : u1 (u1 f k v) j w = u1 (u1 f j w) k v := by
  funext x
  unfold u1
  by_cases h1 : x = j
  · rw [if_pos h1, if_neg (by omega), if_pos h1]
  · rw [if_neg h1, if_neg h1]
theorem c8_hold {z : Int} {h : HP} (hz : ok32 z) : sp mX8_hold [.int (zI z)] h 0 0 (pd (some (.int (zI (hld z (-99) 99)))) h) := by
  refine sp_wp rfl (lv := [_]) rfl (Nat.le_of_ble_eq_true rfl) ?_
  refine w_iload_n dX8_hold_0 rfl rfl ?_
  refine w_bipush dX8_hold_1 (by decide) ?_
  refine w_icmp_ge 9 dX8_hold_3 (by decide) (by first | assumption | (unfold ok32 at *; omega)) (by first | assumption | (unfold ok32 at *; omega)) (fun h1 => ?_) (fun h1 => ?_)
  · refine w_iload_n dX8_hold_9 rfl rfl ?_
    refine w_bipush dX8_hold_10 (by decide) ?_
    refine w_icmp_le 20 dX8_hold_12 (by decide) (by first | assumption | (unfold ok32 at *; omega)) (by first | assumption | (unfold ok32 at *; omega)) (fun h2 => ?_) (fun h2 => ?_)
    · refine w_iload_n dX8_hold_20 rfl rfl ?_
      refine x_iret rfl rfl dX8_hold_21 ⟨?_, rfl⟩
      unfold hld
      rw [if_neg (by omega), if_neg (by omega)]
    · refine w_bipush dX8_hold_15 (by decide) ?_
      refine w_goto 21 dX8_hold_17 (by decide) ?_
      refine x_iret rfl rfl dX8_hold_21 ⟨?_, rfl⟩
      unfold hld
      rw [if_neg (by omega), if_pos (by omega)]
  · refine w_bipush dX8_hold_6 (by decide) ?_
    refine x_iret rfl rfl dX8_hold_8 ⟨?_, rfl⟩
    unfold hld
    rw [if_pos (by omega)]
theorem c8_sizeOf {a c : Nat} {sa : Nat → Nat → Int} {si : Nat → Int} {sl : Nat → BitVec 64} {h0 : HP} {B : Nat → Int} {L R C : Nat} {z : Int} (hC : CDQ (outS a) h0 c B L R C) (hz : 0 ≤ z ∧ z ≤ 1000) : sp mX8_sizeOf [.ref a, .int (zI z)] (SH a (c) (sa) (si) (sl) h0) 0 0 (pd (some (.int (zI (szO (B 6) (B 7) z)))) (SH a (c) (sa) (si) (sl) h0)) := by
  obtain ⟨ad, f7, f8, f10, f9, f11, rk, cr, hV, h6, h7, o_c0, r70, r80, r90, r100, r110, e7, e8, e9, e10, hRD, p0, p7, p8, p9, p10, p11⟩ := id hC
  obtain ⟨v1, v2, v3, v4, v5, v6, v7⟩ := id hV
  have hLC := mulLe (a := L) (b := C) (x := 6) (y := 8) (by omega) (by omega)
  have hLR := mulLe (a := L) (b := R) (x := 6) (y := 4) (by omega) (by omega)
  have o_c : ∀ {c' : Nat} {sa : Nat → Nat → Int} {si : Nat → Int} {sl : Nat → BitVec 64}, (SH a c' sa si sl h0).2 c = some (.inr (2, cfs L R C (B 6) (B 7) ad rk cr)) := SHo p0 o_c0
  have r_c_shifts : ∀ {c' : Nat} {sa : Nat → Nat → Int} {si : Nat → Int} {sl : Nat → BitVec 64}, (SH a c' sa si sl h0).2 (ad 7) = some (aI 32 f7) := SHo p7 r70
  have r_c_edges : ∀ {c' : Nat} {sa : Nat → Nat → Int} {si : Nat → Int} {sl : Nat → BitVec 64}, (SH a c' sa si sl h0).2 (ad 8) = some (aI 192 f8) := SHo p8 r80
  have r_c_bitsOf : ∀ {c' : Nat} {sa : Nat → Nat → Int} {si : Nat → Int} {sl : Nat → BitVec 64}, (SH a c' sa si sl h0).2 (ad 9) = some (aL 24 f9) := SHo p9 r90
  refine sp_wp rfl (lv := [_, _]) rfl (Nat.le_of_ble_eq_true rfl) ?_
  refine w_iload_n dX8_sizeOf_0 rfl rfl ?_
  refine w_sipush dX8_sizeOf_1 (by decide) ?_
  refine w_icmp_ge 18 dX8_sizeOf_4 (by decide) (by first | assumption | (unfold ok32 at *; omega)) (by first | assumption | (unfold ok32 at *; omega)) (fun h1 => ?_) (fun h1 => ?_)
  · refine w_iconst dX8_sizeOf_18 ?_
    refine x_iret rfl rfl dX8_sizeOf_19 ⟨?_, rfl⟩
    unfold szO
    rw [if_pos (by omega)]
  · refine w_iload_n dX8_sizeOf_7 rfl rfl ?_
    refine w_aload_n dX8_sizeOf_8 rfl rfl ?_
    refine w_getf fX8_37 dX8_sizeOf_9 SC0 rfl ?_
    refine w_getf fX8_144 dX8_sizeOf_12 o_c rfl ?_
    refine w_icmp_gt 20 dX8_sizeOf_15 (by decide) (by first | assumption | (unfold ok32 at *; omega)) (by first | assumption | (unfold ok32 at *; omega)) (fun h2 => ?_) (fun h2 => ?_)
    · refine w_iload_n dX8_sizeOf_20 rfl rfl ?_
      refine w_aload_n dX8_sizeOf_21 rfl rfl ?_
      refine w_getf fX8_37 dX8_sizeOf_22 SC0 rfl ?_
      refine w_getf fX8_144 dX8_sizeOf_25 o_c rfl ?_
      refine w_isub dX8_sizeOf_28 ?_
      refine w_aload_n dX8_sizeOf_29 rfl rfl ?_
      refine w_getf fX8_37 dX8_sizeOf_30 SC0 rfl ?_
      refine w_getf fX8_147 dX8_sizeOf_33 o_c rfl ?_
      refine w_icmp_ge 51 dX8_sizeOf_36 (by decide) (by first | assumption | (unfold ok32 at *; omega)) (by first | assumption | (unfold ok32 at *; omega)) (fun h3 => ?_) (fun h3 => ?_)
      · refine w_aload_n dX8_sizeOf_51 rfl rfl ?_
        refine w_getf fX8_37 dX8_sizeOf_52 SC0 rfl ?_
        refine w_getf fX8_147 dX8_sizeOf_55 o_c rfl ?_
        refine x_iret rfl rfl dX8_sizeOf_58 ⟨?_, rfl⟩
        unfold szO
        rw [if_neg (by omega), if_neg (by omega)]
      · refine w_iload_n dX8_sizeOf_39 rfl rfl ?_
        refine w_aload_n dX8_sizeOf_40 rfl rfl ?_
        refine w_getf fX8_37 dX8_sizeOf_41 SC0 rfl ?_
        refine w_getf fX8_144 dX8_sizeOf_44 o_c rfl ?_
        refine w_isub dX8_sizeOf_47 ?_
        refine w_goto 58 dX8_sizeOf_48 (by decide) ?_
        refine x_iret rfl rfl dX8_sizeOf_58 ⟨?_, rfl⟩
        unfold szO
        rw [if_neg (by omega), if_pos (by omega)]
    · refine w_iconst dX8_sizeOf_18 ?_
      refine x_iret rfl rfl dX8_sizeOf_19 ⟨?_, rfl⟩
      unfold szO
      rw [if_pos (by omega)]
def mmP (sa : Nat → Nat → Int) (B : Nat → Int) (L C k0 : Nat) (q0 : Nat → Int) (x : (Nat → Int) × (Nat → Int)) : Prop := (∀ j, j < C → okc (shA B) L k0 j = true → x.1 j = q0 j) ∧ (∀ j, j < C → okc (shA B) L k0 j = true → x.2 (8 * k0 + j) = nmV (okc (shA B) L k0) q0 j C (B 6) (B 7)) ∧ ∀ k, ¬ (8 * k0 ≤ k ∧ k < 8 * k0 + 8) → x.2 k = sa 4 k
set_option maxRecDepth 8000 in
theorem c8_mendMessages {a c : Nat} {sa : Nat → Nat → Int} {si : Nat → Int} {sl : Nat → BitVec 64} {h0 : HP} {B : Nat → Int} {L R C : Nat} {k0 : Nat} {q0 : Nat → Int} (hC : CDQ (outS a) h0 c B L R C) (hk0 : k0 < L * R) (hq : ∀ j, j < C → okc (shA B) L k0 j = true → sa 2 (bitN (shA B) L k0 j).toNat - sa 4 (8 * k0 + j) = q0 j ∧ -130 ≤ q0 j ∧ q0 j ≤ 130) : sp mX8_mendMessages [.ref a, .int (zI ((8 * k0 : Nat) : Int))] (SH a (c) (sa) (si) (sl) h0) 0 0 (px none (mmP sa B L C k0 q0) (fun x => (SH a (c) (u1 (u1 sa 7 x.1) 4 x.2) (si) (sl) h0))) := by
  obtain ⟨ad, f7, f8, f10, f9, f11, rk, cr, hV, h6, h7, o_c0, r70, r80, r90, r100, r110, e7, e8, e9, e10, hRD, p0, p7, p8, p9, p10, p11⟩ := id hC
  obtain ⟨v1, v2, v3, v4, v5, v6, v7⟩ := id hV
  have hLC := mulLe (a := L) (b := C) (x := 6) (y := 8) (by omega) (by omega)
  have hLR := mulLe (a := L) (b := R) (x := 6) (y := 4) (by omega) (by omega)
  have o_c : ∀ {c' : Nat} {sa : Nat → Nat → Int} {si : Nat → Int} {sl : Nat → BitVec 64}, (SH a c' sa si sl h0).2 c = some (.inr (2, cfs L R C (B 6) (B 7) ad rk cr)) := SHo p0 o_c0
  have r_c_shifts : ∀ {c' : Nat} {sa : Nat → Nat → Int} {si : Nat → Int} {sl : Nat → BitVec 64}, (SH a c' sa si sl h0).2 (ad 7) = some (aI 32 f7) := SHo p7 r70
  have r_c_edges : ∀ {c' : Nat} {sa : Nat → Nat → Int} {si : Nat → Int} {sl : Nat → BitVec 64}, (SH a c' sa si sl h0).2 (ad 8) = some (aI 192 f8) := SHo p8 r80
  have r_c_bitsOf : ∀ {c' : Nat} {sa : Nat → Nat → Int} {si : Nat → Int} {sl : Nat → BitVec 64}, (SH a c' sa si sl h0).2 (ad 9) = some (aL 24 f9) := SHo p9 r90
  have hbit : ∀ j, j < C → -1 ≤ bitN (shA B) L k0 j ∧ bitN (shA B) L k0 j < (L : Int) * C ∧ bitN (shA B) L k0 j < 48 := fun j hj => bitN_le (sh := shA B) (c := k0) v4 hj (by omega) (v7 _ (by have := rowLt hk0 v4.1; omega)).1
  have hqr : ∀ i, i < C → okc (shA B) L k0 i = true → -130 ≤ q0 i ∧ q0 i ≤ 130 := fun i hi ho => (hq i hi ho).2
  obtain ⟨ok, hok⟩ : ∃ ok, okc (shA B) L k0 = ok := ⟨_, rfl⟩
  have hokb : ∀ j, (ok j = false ↔ bitN (shA B) L k0 j = -1) := fun j => by rw [← hok]; unfold okc; simp
  rw [hok] at hq hqr
  unfold mmP
  rw [hok]
  refine sp_wp rfl (lv := [_, _, _, _, _, _, _, _, _, _]) rfl (Nat.le_of_ble_eq_true rfl) ?_
  refine w_sipush dX8_mendMessages_0 (by decide) ?_
  refine w_istore_n (lv' := [_, _, _, _, _, _, _, _, _, _]) dX8_mendMessages_3 rfl (Nat.le_of_ble_eq_true rfl) rfl rfl ?_
  refine w_sipush dX8_mendMessages_4 (by decide) ?_
  refine w_istore_n (lv' := [_, _, _, _, _, _, _, _, _, _]) dX8_mendMessages_7 rfl (Nat.le_of_ble_eq_true rfl) rfl rfl ?_
  refine w_iconst dX8_mendMessages_8 ?_
  refine w_istore (lv' := [_, _, _, _, _, _, _, _, _, _]) dX8_mendMessages_9 (Nat.le_of_ble_eq_true rfl) rfl rfl ?_
  refine w_iconst dX8_mendMessages_11 ?_
  refine w_istore (lv' := [_, _, _, _, _, _, _, _, _, _]) dX8_mendMessages_12 (Nat.le_of_ble_eq_true rfl) rfl rfl ?_
  refine w_iconst dX8_mendMessages_14 ?_
  refine w_istore (lv' := [_, _, _, _, _, _, _, _, _, _]) dX8_mendMessages_15 (Nat.le_of_ble_eq_true rfl) rfl rfl ?_
  have lp2 : ∀ j, j ≤ C → ∀ (q g : Nat → Int) (x8 x9 : Value), (∀ i, i < C → ok i = true → q i = q0 i) → (∀ i, i < j → ok i = true → g (8 * k0 + i) = nmV ok q0 i C (B 6) (B 7)) → (∀ k, ¬ (8 * k0 ≤ k ∧ k < 8 * k0 + 8) → g k = sa 4 k) → wp mX8_mendMessages 147 [.ref a, .int (zI ((8 * k0 : Nat) : Int)), .int (zI (tlS ok q0 C).1), .int (zI (tlS ok q0 C).2.1), .int (zI (tlS ok q0 C).2.2.1), .int (zI (bI ((tlS ok q0 C).2.2.2 = true))), .int (zI (szO (B 6) (B 7) (tlS ok q0 C).1)), .int (zI (j : Int)), x8, x9] [] (SH a (c) (u1 (u1 sa 7 q) 4 g) (si) (sl) h0) 0 0 (px none (fun x : (Nat → Int) × (Nat → Int) => (∀ j, j < C → ok j = true → x.1 j = q0 j) ∧ (∀ j, j < C → ok j = true → x.2 (8 * k0 + j) = nmV ok q0 j C (B 6) (B 7)) ∧ ∀ k, ¬ (8 * k0 ≤ k ∧ k < 8 * k0 + 8) → x.2 k = sa 4 k) (fun x => (SH a (c) (u1 (u1 sa 7 x.1) 4 x.2) (si) (sl) h0))) := by
    obtain ⟨⟨t1, t2, t3⟩, ⟨t4, t5⟩, -⟩ := tlS_ok hqr
    refine up_ind (P := fun j => ∀ (q g : Nat → Int) (x8 x9 : Value), (∀ i, i < C → ok i = true → q i = q0 i) → (∀ i, i < j → ok i = true → g (8 * k0 + i) = nmV ok q0 i C (B 6) (B 7)) → (∀ k, ¬ (8 * k0 ≤ k ∧ k < 8 * k0 + 8) → g k = sa 4 k) → wp mX8_mendMessages 147 [.ref a, .int (zI ((8 * k0 : Nat) : Int)), .int (zI (tlS ok q0 C).1), .int (zI (tlS ok q0 C).2.1), .int (zI (tlS ok q0 C).2.2.1), .int (zI (bI ((tlS ok q0 C).2.2.2 = true))), .int (zI (szO (B 6) (B 7) (tlS ok q0 C).1)), .int (zI (j : Int)), x8, x9] [] (SH a (c) (u1 (u1 sa 7 q) 4 g) (si) (sl) h0) 0 0 (px none (fun x : (Nat → Int) × (Nat → Int) => (∀ j, j < C → ok j = true → x.1 j = q0 j) ∧ (∀ j, j < C → ok j = true → x.2 (8 * k0 + j) = nmV ok q0 j C (B 6) (B 7)) ∧ ∀ k, ¬ (8 * k0 ≤ k ∧ k < 8 * k0 + 8) → x.2 k = sa 4 k) (fun x => (SH a (c) (u1 (u1 sa 7 x.1) 4 x.2) (si) (sl) h0)))) (fun j hj ih q g x8 x9 i1 i2 i3 => ?_)
    refine w_iload dX8_mendMessages_147 rfl ?_
    refine w_aload_n dX8_mendMessages_149 rfl rfl ?_
    refine w_getf fX8_37 dX8_mendMessages_150 SC0 rfl ?_
    refine w_getf fX8_128 dX8_mendMessages_153 o_c rfl ?_
    refine w_icmp_ge 232 dX8_mendMessages_156 (by decide) (by first | assumption | (unfold ok32 at *; omega)) (by first | assumption | (unfold ok32 at *; omega)) (fun hc => ?_) (fun hc => ?_)
    · refine x_vret rfl dX8_mendMessages_232 ⟨rfl, (q, g), ⟨i1, fun i hi => i2 i (by omega), i3⟩, rfl⟩
    · have hbj := hbit j (by omega)
      refine w_aload_n dX8_mendMessages_159 rfl rfl ?_
      refine w_getf fX8_37 dX8_mendMessages_160 SC0 rfl ?_
      refine w_getf fX8_131 dX8_mendMessages_163 o_c rfl ?_
      refine w_iload_n dX8_mendMessages_166 rfl rfl ?_
      refine w_iload dX8_mendMessages_167 rfl ?_
      refine w_iadd dX8_mendMessages_169 ?_
      refine w_iald (8 * k0 + j) r_c_edges (by first | rfl | omega | (push_cast; rfl) | (push_cast; omega)) (by omega) (by decide) dX8_mendMessages_170 ?_
      rw [e8 k0 hk0 j (by omega)]
      refine w_if_lt 226 dX8_mendMessages_171 (by decide) (by first | assumption | (unfold ok32 at *; omega)) (fun hb => ?_) (fun hb => ?_)
      · have hof : ok j = false := (hokb j).mpr (by omega)
        refine w_iinc (lv' := [_, _, _, _, _, _, _, _, _, _]) dX8_mendMessages_226 rfl rfl rfl ?_
        refine w_goto 147 dX8_mendMessages_229 (by decide) ?_
        refine ih (by omega) q g x8 x9 i1 (fun i hi ho => ?_) i3
        by_cases hij : i = j
        · rw [hij, hof] at ho; cases ho
        · exact i2 i (by omega) ho
      · have hot : ok j = true := by
          cases ho : ok j with
          | true => rfl
          | false => exact absurd ((hokb j).mp ho) (by omega)
        have hqj := hqr j (by omega) hot
        have htw := two_least (j := j) hqr h6 h7
        have hpar := ((tlS_ok hqr).2.2 j).2
        have fin : ∀ v8 : Value, wp mX8_mendMessages 191 [.ref a, .int (zI ((8 * k0 : Nat) : Int)), .int (zI (tlS ok q0 C).1), .int (zI (tlS ok q0 C).2.1), .int (zI (tlS ok q0 C).2.2.1), .int (zI (bI ((tlS ok q0 C).2.2.2 = true))), .int (zI (szO (B 6) (B 7) (tlS ok q0 C).1)), .int (zI (j : Int)), v8, x9] [.int (zI (hld ((nmS ok q0 j C).1 - B 6) 0 (B 7)))] (SH a (c) (u1 (u1 sa 7 q) 4 g) (si) (sl) h0) 0 0 (px none (fun x : (Nat → Int) × (Nat → Int) => (∀ j, j < C → ok j = true → x.1 j = q0 j) ∧ (∀ j, j < C → ok j = true → x.2 (8 * k0 + j) = nmV ok q0 j C (B 6) (B 7)) ∧ ∀ k, ¬ (8 * k0 ≤ k ∧ k < 8 * k0 + 8) → x.2 k = sa 4 k) (fun x => (SH a (c) (u1 (u1 sa 7 x.1) 4 x.2) (si) (sl) h0))) := by
          intro v8
          have hhr := hld_rng (v := (nmS ok q0 j C).1 - B 6) (a := 0) (b := B 7) (by omega)
          obtain ⟨sz, hsz⟩ : ∃ sz, hld ((nmS ok q0 j C).1 - B 6) 0 (B 7) = sz := ⟨_, rfl⟩
          have fin2 : ∀ v : Int, v = nmV ok q0 j C (B 6) (B 7) → wp mX8_mendMessages 225 [.ref a, .int (zI ((8 * k0 : Nat) : Int)), .int (zI (tlS ok q0 C).1), .int (zI (tlS ok q0 C).2.1), .int (zI (tlS ok q0 C).2.2.1), .int (zI (bI ((tlS ok q0 C).2.2.2 = true))), .int (zI (szO (B 6) (B 7) (tlS ok q0 C).1)), .int (zI (j : Int)), .int (zI sz), x9] [.int (zI v), .int (zI ((8 * k0 : Nat) + (j : Int))), .ref (a + 4)] (SH a (c) (u1 (u1 sa 7 q) 4 g) (si) (sl) h0) 0 0 (px none (fun x : (Nat → Int) × (Nat → Int) => (∀ j, j < C → ok j = true → x.1 j = q0 j) ∧ (∀ j, j < C → ok j = true → x.2 (8 * k0 + j) = nmV ok q0 j C (B 6) (B 7)) ∧ ∀ k, ¬ (8 * k0 ≤ k ∧ k < 8 * k0 + 8) → x.2 k = sa 4 k) (fun x => (SH a (c) (u1 (u1 sa 7 x.1) 4 x.2) (si) (sl) h0))) := by
            intro v hv
            refine sc_ist4 (8 * k0 + j) (by first | rfl | omega | (push_cast; rfl) | (push_cast; omega)) (by omega) dX8_mendMessages_225 ?_
            rw [u1_u1, u1_s]
            refine w_iinc (lv' := [_, _, _, _, _, _, _, _, _, _]) dX8_mendMessages_226 rfl rfl rfl ?_
            refine w_goto 147 dX8_mendMessages_229 (by decide) ?_
            refine ih (by omega) q (u1 g (8 * k0 + j) v) _ x9 i1 (fun i hi ho => ?_) (fun k hk => ?_)
            · by_cases hij : i = j
              · rw [hij, u1_s, hv]
              · rw [u1_n (by omega)]; exact i2 i (by omega) ho
            · rw [u1_n (by omega)]; exact i3 k hk
          rw [hsz]
          refine w_istore (lv' := [_, _, _, _, _, _, _, _, _, _]) dX8_mendMessages_191 (Nat.le_of_ble_eq_true rfl) rfl rfl ?_
          refine w_aload_n dX8_mendMessages_193 rfl rfl ?_
          refine w_getf fX8_25 dX8_mendMessages_194 SC0 rfl ?_
          refine w_iload_n dX8_mendMessages_197 rfl rfl ?_
          refine w_iload dX8_mendMessages_198 rfl ?_
          refine w_iadd dX8_mendMessages_200 ?_
          refine w_iload dX8_mendMessages_201 rfl ?_
          refine w_aload_n dX8_mendMessages_203 rfl rfl ?_
          refine w_getf fX8_34 dX8_mendMessages_204 SC0 rfl ?_
          refine w_iload dX8_mendMessages_207 rfl ?_
          refine w_iald (j) SC7 (by first | rfl | omega | (push_cast; rfl) | (push_cast; omega)) (by omega) (by decide) dX8_mendMessages_209 ?_
          rw [show (u1 (u1 sa 7 q) 4 g) 7 j = q j from rfl, i1 j (by omega) hot]
          refine w_bipush dX8_mendMessages_210 (by decide) ?_
          refine w_iushrR dX8_mendMessages_212 ?_
          rw [neg31 (by omega)]
          refine w_ixorR dX8_mendMessages_213 ?_
          rw [xorb]
          have hnv : nmV ok q0 j C (B 6) (B 7) = if (if q0 j < 0 then !(tlS ok q0 C).2.2.2 else (tlS ok q0 C).2.2.2) = true then -sz else sz := by
            have hpar2 : (nmS ok q0 j C).2 = if q0 j < 0 then !(tlS ok q0 C).2.2.2 else (tlS ok q0 C).2.2.2 := by
              rw [hpar]
              by_cases hq0 : q0 j < 0
              · rw [if_pos (show j < C ∧ ok j = true ∧ q0 j < 0 from ⟨by omega, hot, hq0⟩), if_pos hq0]
              · rw [if_neg (show ¬ (j < C ∧ ok j = true ∧ q0 j < 0) from fun z => hq0 z.2.2), if_neg hq0]
            unfold nmV
            rw [hsz, hpar2]
          refine w_ifb_eq 223 dX8_mendMessages_214 (by decide) (fun hx => ?_) (fun hx => ?_)
          · refine w_iload dX8_mendMessages_223 rfl ?_
            exact fin2 _ (by rw [hnv, if_neg hx])
          · refine w_iload dX8_mendMessages_217 rfl ?_
            refine w_ineg dX8_mendMessages_219 ?_
            refine w_goto 225 dX8_mendMessages_220 (by decide) ?_
            exact fin2 _ (by rw [hnv, if_pos hx])
        refine w_iload dX8_mendMessages_174 rfl ?_
        refine w_iload dX8_mendMessages_176 rfl ?_
        refine w_icmp_ne 189 dX8_mendMessages_178 (by decide) (by first | assumption | (unfold ok32 at *; omega)) (by first | assumption | (unfold ok32 at *; omega)) (fun hl => ?_) (fun hl => ?_)
        · refine w_iload dX8_mendMessages_189 rfl ?_
          refine w_cast rfl ?_ rfl (fin x8)
          rw [htw, if_neg (by omega)]
        · refine w_aload_n dX8_mendMessages_181 rfl rfl ?_
          refine w_iload_n dX8_mendMessages_182 rfl rfl ?_
          refine wc_V (Z := mX8_sizeOf) (As := [_]) (c8_sizeOf hC (by omega)) SC0 rfl kX8_sizeOf lX8_141 iX8_sizeOf vX8_sizeOf dX8_mendMessages_183 rfl rfl rfl (Nat.le_of_ble_eq_true rfl) ⟨Nat.le_of_ble_eq_true rfl, Nat.le_of_ble_eq_true rfl⟩ ?_
          refine w_goto 191 dX8_mendMessages_186 (by decide) ?_
          refine w_cast rfl ?_ rfl (fin x8)
          rw [htw, if_pos (by omega)]
  have lp1 : ∀ j, j ≤ C → ∀ (q : Nat → Int) (x7 x8 x9 : Value), (∀ i, i < j → ok i = true → q i = q0 i) → wp mX8_mendMessages 17 [.ref a, .int (zI ((8 * k0 : Nat) : Int)), .int (zI (tlS ok q0 j).1), .int (zI (tlS ok q0 j).2.1), .int (zI (tlS ok q0 j).2.2.1), .int (zI (bI ((tlS ok q0 j).2.2.2 = true))), .int (zI (j : Int)), x7, x8, x9] [] (SH a (c) (u1 sa 7 q) (si) (sl) h0) 0 0 (px none (fun x : (Nat → Int) × (Nat → Int) => (∀ j, j < C → ok j = true → x.1 j = q0 j) ∧ (∀ j, j < C → ok j = true → x.2 (8 * k0 + j) = nmV ok q0 j C (B 6) (B 7)) ∧ ∀ k, ¬ (8 * k0 ≤ k ∧ k < 8 * k0 + 8) → x.2 k = sa 4 k) (fun x => (SH a (c) (u1 (u1 sa 7 x.1) 4 x.2) (si) (sl) h0))) := by
    refine up_ind (P := fun j => ∀ (q : Nat → Int) (x7 x8 x9 : Value), (∀ i, i < j → ok i = true → q i = q0 i) → wp mX8_mendMessages 17 [.ref a, .int (zI ((8 * k0 : Nat) : Int)), .int (zI (tlS ok q0 j).1), .int (zI (tlS ok q0 j).2.1), .int (zI (tlS ok q0 j).2.2.1), .int (zI (bI ((tlS ok q0 j).2.2.2 = true))), .int (zI (j : Int)), x7, x8, x9] [] (SH a (c) (u1 sa 7 q) (si) (sl) h0) 0 0 (px none (fun x : (Nat → Int) × (Nat → Int) => (∀ j, j < C → ok j = true → x.1 j = q0 j) ∧ (∀ j, j < C → ok j = true → x.2 (8 * k0 + j) = nmV ok q0 j C (B 6) (B 7)) ∧ ∀ k, ¬ (8 * k0 ≤ k ∧ k < 8 * k0 + 8) → x.2 k = sa 4 k) (fun x => (SH a (c) (u1 (u1 sa 7 x.1) 4 x.2) (si) (sl) h0)))) (fun j hj ih q x7 x8 x9 i1 => ?_)
    obtain ⟨⟨t1, t2, t3⟩, ⟨t4, t5⟩, -⟩ := tlS_ok (k := j) (fun i hi ho => hqr i (by omega) ho)
    refine w_iload dX8_mendMessages_17 rfl ?_
    refine w_aload_n dX8_mendMessages_19 rfl rfl ?_
    refine w_getf fX8_37 dX8_mendMessages_20 SC0 rfl ?_
    refine w_getf fX8_128 dX8_mendMessages_23 o_c rfl ?_
    refine w_icmp_ge 137 dX8_mendMessages_26 (by decide) (by first | assumption | (unfold ok32 at *; omega)) (by first | assumption | (unfold ok32 at *; omega)) (fun hc => ?_) (fun hc => ?_)
    · have hjC : j = C := by omega
      subst hjC
      refine w_aload_n dX8_mendMessages_137 rfl rfl ?_
      refine w_iload_n dX8_mendMessages_138 rfl rfl ?_
      refine wc_V (Z := mX8_sizeOf) (As := [_]) (c8_sizeOf hC (by omega)) SC0 rfl kX8_sizeOf lX8_141 iX8_sizeOf vX8_sizeOf dX8_mendMessages_139 rfl rfl rfl (Nat.le_of_ble_eq_true rfl) ⟨Nat.le_of_ble_eq_true rfl, Nat.le_of_ble_eq_true rfl⟩ ?_
      refine w_istore (lv' := [_, _, _, _, _, _, _, _, _, _]) dX8_mendMessages_142 (Nat.le_of_ble_eq_true rfl) rfl rfl ?_
      refine w_iconst dX8_mendMessages_144 ?_
      refine w_istore (lv' := [_, _, _, _, _, _, _, _, _, _]) dX8_mendMessages_145 (Nat.le_of_ble_eq_true rfl) rfl rfl ?_
      refine w_cast rfl rfl ?_ (lp2 0 (Nat.zero_le _) q (sa 4) x8 x9 i1 (fun i hi => absurd hi (Nat.not_lt_zero _)) (fun _ _ => rfl))
      rw [show u1 (u1 sa 7 q) 4 (sa 4) = u1 sa 7 q from u1_id (f := u1 sa 7 q) (k := 4)]
    · have hbj := hbit j (by omega)
      refine w_aload_n dX8_mendMessages_29 rfl rfl ?_
      refine w_getf fX8_37 dX8_mendMessages_30 SC0 rfl ?_
      refine w_getf fX8_131 dX8_mendMessages_33 o_c rfl ?_
      refine w_iload_n dX8_mendMessages_36 rfl rfl ?_
      refine w_iload dX8_mendMessages_37 rfl ?_
      refine w_iadd dX8_mendMessages_39 ?_
      refine w_iald (8 * k0 + j) r_c_edges (by first | rfl | omega | (push_cast; rfl) | (push_cast; omega)) (by omega) (by decide) dX8_mendMessages_40 ?_
      rw [e8 k0 hk0 j (by omega)]
      obtain ⟨bb, hbb⟩ : ∃ bb, bitN (shA B) L k0 j = bb := ⟨_, rfl⟩
      rw [hbb] at hbj ⊢
      refine w_istore (lv' := [_, _, _, _, _, _, _, _, _, _]) dX8_mendMessages_41 (Nat.le_of_ble_eq_true rfl) rfl rfl ?_
      refine w_iload dX8_mendMessages_43 rfl ?_
      refine w_if_ge 51 dX8_mendMessages_45 (by decide) (by first | assumption | (unfold ok32 at *; omega)) (fun hb => ?_) (fun hb => ?_)
      rotate_left
      · have hof : ok j = false := (hokb j).mpr (by omega)
        refine w_goto 131 dX8_mendMessages_48 (by decide) ?_
        refine w_iinc (lv' := [_, _, _, _, _, _, _, _, _, _]) dX8_mendMessages_131 rfl rfl rfl ?_
        refine w_goto 17 dX8_mendMessages_134 (by decide) ?_
        refine w_cast ?_ rfl rfl (ih (by omega) q (.int (zI bb)) x8 x9 (fun i hi ho => ?_))
        · rw [show tlS ok q0 (j + 1) = tlS ok q0 j by rw [tlS, if_pos hof]]
          rfl
        · by_cases hij : i = j
          · rw [hij, hof] at ho; cases ho
          · exact i1 i (by omega) ho
      · have hot : ok j = true := by
          cases ho : ok j with
          | true => rfl
          | false => exact absurd ((hokb j).mp ho) (by omega)
        obtain ⟨hq1, hq2⟩ := hq j (by omega) hot
        rw [hbb] at hq1
        obtain ⟨t, ht⟩ : ∃ t : Nat, bb = (t : Int) := ⟨bb.toNat, by omega⟩
        subst ht
        rw [Int.toNat_natCast] at hq1
        refine w_aload_n dX8_mendMessages_51 rfl rfl ?_
        refine w_getf fX8_19 dX8_mendMessages_52 SC0 rfl ?_
        refine w_iload dX8_mendMessages_55 rfl ?_
        refine w_iald (t) SC2 (by first | rfl | omega | (push_cast; rfl) | (push_cast; omega)) (by omega) (by decide) dX8_mendMessages_57 ?_
        refine w_aload_n dX8_mendMessages_58 rfl rfl ?_
        refine w_getf fX8_25 dX8_mendMessages_59 SC0 rfl ?_
        refine w_iload_n dX8_mendMessages_62 rfl rfl ?_
        refine w_iload dX8_mendMessages_63 rfl ?_
        refine w_iadd dX8_mendMessages_65 ?_
        refine w_iald (8 * k0 + j) SC4 (by first | rfl | omega | (push_cast; rfl) | (push_cast; omega)) (by omega) (by decide) dX8_mendMessages_66 ?_
        refine w_isub dX8_mendMessages_67 ?_
        rw [show (u1 sa 7 q) 2 t - (u1 sa 7 q) 4 (8 * k0 + j) = q0 j from hq1]
        refine w_istore (lv' := [_, _, _, _, _, _, _, _, _, _]) dX8_mendMessages_68 (Nat.le_of_ble_eq_true rfl) rfl rfl ?_
        refine w_aload_n dX8_mendMessages_70 rfl rfl ?_
        refine w_getf fX8_34 dX8_mendMessages_71 SC0 rfl ?_
        refine w_iload dX8_mendMessages_74 rfl ?_
        refine w_iload dX8_mendMessages_76 rfl ?_
        refine sc_ist7 (j) (by first | rfl | omega | (push_cast; rfl) | (push_cast; omega)) (by omega) dX8_mendMessages_78 ?_
        rw [u1_u1, u1_s]
        refine w_iload dX8_mendMessages_79 rfl ?_
        refine w_iload dX8_mendMessages_81 rfl ?_
        refine w_bipush dX8_mendMessages_83 (by decide) ?_
        refine w_iushrR dX8_mendMessages_85 ?_
        rw [neg31 (by omega)]
        refine w_ixorR dX8_mendMessages_86 ?_
        rw [xorb]
        have hi2 : ∀ i, i < j + 1 → ok i = true → (u1 q j (q0 j)) i = q0 i := by
          intro i hi ho
          by_cases hij : i = j
          · rw [hij, u1_s]
          · rw [u1_n hij]; exact i1 i (by omega) ho
        have hsr := szd_rng hq2
        have fin : ∀ v9 : Value, wp mX8_mendMessages 102 [.ref a, .int (zI ((8 * k0 : Nat) : Int)), .int (zI (tlS ok q0 j).1), .int (zI (tlS ok q0 j).2.1), .int (zI (tlS ok q0 j).2.2.1), .int (zI (bI ((if q0 j < 0 then !(tlS ok q0 j).2.2.2 else (tlS ok q0 j).2.2.2) = true))), .int (zI (j : Int)), .int (zI (t : Int)), .int (zI (q0 j)), v9] [.int (zI (szd (q0 j)))] (SH a (c) (u1 sa 7 (u1 q j (q0 j))) (si) (sl) h0) 0 0 (px none (fun x : (Nat → Int) × (Nat → Int) => (∀ j, j < C → ok j = true → x.1 j = q0 j) ∧ (∀ j, j < C → ok j = true → x.2 (8 * k0 + j) = nmV ok q0 j C (B 6) (B 7)) ∧ ∀ k, ¬ (8 * k0 ≤ k ∧ k < 8 * k0 + 8) → x.2 k = sa 4 k) (fun x => (SH a (c) (u1 (u1 sa 7 x.1) 4 x.2) (si) (sl) h0))) := by
          intro v9
          have hnf : ¬ ok j = false := by rw [hot]; decide
          refine w_istore (lv' := [_, _, _, _, _, _, _, _, _, _]) dX8_mendMessages_102 (Nat.le_of_ble_eq_true rfl) rfl rfl ?_
          refine w_iload dX8_mendMessages_104 rfl ?_
          refine w_iload_n dX8_mendMessages_106 rfl rfl ?_
          refine w_icmp_ge 122 dX8_mendMessages_107 (by decide) (by first | assumption | (unfold ok32 at *; omega)) (by first | assumption | (unfold ok32 at *; omega)) (fun h1 => ?_) (fun h1 => ?_)
          · refine w_iload dX8_mendMessages_122 rfl ?_
            refine w_iload_n dX8_mendMessages_124 rfl rfl ?_
            refine w_icmp_ge 131 dX8_mendMessages_125 (by decide) (by first | assumption | (unfold ok32 at *; omega)) (by first | assumption | (unfold ok32 at *; omega)) (fun h2 => ?_) (fun h2 => ?_)
            · refine w_iinc (lv' := [_, _, _, _, _, _, _, _, _, _]) dX8_mendMessages_131 rfl rfl rfl ?_
              refine w_goto 17 dX8_mendMessages_134 (by decide) ?_
              refine w_cast ?_ rfl rfl (ih (by omega) (u1 q j (q0 j)) (.int (zI (t : Int))) (.int (zI (q0 j))) (.int (zI (szd (q0 j)))) hi2)
              rw [show tlS ok q0 (j + 1) = _ by rw [tlS, if_neg hnf, if_neg (show ¬ szd (q0 j) < (tlS ok q0 j).1 by omega), if_neg (show ¬ szd (q0 j) < (tlS ok q0 j).2.1 by omega)]]
              rfl
            · refine w_iload dX8_mendMessages_128 rfl ?_
              refine w_istore_n (lv' := [_, _, _, _, _, _, _, _, _, _]) dX8_mendMessages_130 rfl (Nat.le_of_ble_eq_true rfl) rfl rfl ?_
              refine w_iinc (lv' := [_, _, _, _, _, _, _, _, _, _]) dX8_mendMessages_131 rfl rfl rfl ?_
              refine w_goto 17 dX8_mendMessages_134 (by decide) ?_
              refine w_cast ?_ rfl rfl (ih (by omega) (u1 q j (q0 j)) (.int (zI (t : Int))) (.int (zI (q0 j))) (.int (zI (szd (q0 j)))) hi2)
              rw [show tlS ok q0 (j + 1) = _ by rw [tlS, if_neg hnf, if_neg (show ¬ szd (q0 j) < (tlS ok q0 j).1 by omega), if_pos (show szd (q0 j) < (tlS ok q0 j).2.1 by omega)]]
              rfl
          · refine w_iload_n dX8_mendMessages_110 rfl rfl ?_
            refine w_istore_n (lv' := [_, _, _, _, _, _, _, _, _, _]) dX8_mendMessages_111 rfl (Nat.le_of_ble_eq_true rfl) rfl rfl ?_
            refine w_iload dX8_mendMessages_112 rfl ?_
            refine w_istore_n (lv' := [_, _, _, _, _, _, _, _, _, _]) dX8_mendMessages_114 rfl (Nat.le_of_ble_eq_true rfl) rfl rfl ?_
            refine w_iload dX8_mendMessages_115 rfl ?_
            refine w_istore (lv' := [_, _, _, _, _, _, _, _, _, _]) dX8_mendMessages_117 (Nat.le_of_ble_eq_true rfl) rfl rfl ?_
            refine w_goto 131 dX8_mendMessages_119 (by decide) ?_
            refine w_iinc (lv' := [_, _, _, _, _, _, _, _, _, _]) dX8_mendMessages_131 rfl rfl rfl ?_
            refine w_goto 17 dX8_mendMessages_134 (by decide) ?_
            refine w_cast ?_ rfl rfl (ih (by omega) (u1 q j (q0 j)) (.int (zI (t : Int))) (.int (zI (q0 j))) (.int (zI (szd (q0 j)))) hi2)
            rw [show tlS ok q0 (j + 1) = _ by rw [tlS, if_neg hnf, if_pos (show szd (q0 j) < (tlS ok q0 j).1 by omega)]]
            rfl
        refine w_istore (lv' := [_, _, _, _, _, _, _, _, _, _]) dX8_mendMessages_87 (Nat.le_of_ble_eq_true rfl) rfl rfl ?_
        refine w_iload dX8_mendMessages_89 rfl ?_
        refine w_if_ge 100 dX8_mendMessages_91 (by decide) (by first | assumption | (unfold ok32 at *; omega)) (fun h3 => ?_) (fun h3 => ?_)
        · refine w_iload dX8_mendMessages_100 rfl ?_
          refine w_cast rfl ?_ rfl (fin x9)
          unfold szd
          rw [if_neg (by omega)]
        · refine w_iload dX8_mendMessages_94 rfl ?_
          refine w_ineg dX8_mendMessages_96 ?_
          refine w_goto 102 dX8_mendMessages_97 (by decide) ?_
          refine w_cast rfl ?_ rfl (fin x9)
          unfold szd
          rw [if_pos (by omega)]
  refine w_cast rfl rfl ?_ (lp1 0 (Nat.zero_le _) (sa 7) jk jk jk (fun i hi => absurd hi (Nat.not_lt_zero _)))
  rw [u1_id]

