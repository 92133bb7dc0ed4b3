/-! all checks mended at once -/
theorem saN_msg {B : Nat → Int} {L C : Nat} (hC8 : C ≤ 8) : ∀ {m : Nat}, ∀ k, k < m → ∀ j, j < C → okc (shA B) L k j = true → saN B L C m (144 + 8 * k + j) = nmV (okc (shA B) L k) (rho B L k) j C (B 6) (B 7)
  | 0, k, hk, _, _, _ => absurd hk (Nat.not_lt_zero _)
  | m + 1, k, hk, j, hj, ho => by
    have hs : ∀ {i : Nat}, i ≤ C → (∀ n, n < i → okc (shA B) L m n = true → smN B (saN B L C m) L C m i (144 + 8 * m + n) = nmV (okc (shA B) L m) (rho B L m) n C (B 6) (B 7)) := by
      intro i
      induction i with
      | zero => intro _ n hn; exact absurd hn (Nat.not_lt_zero _)
      | succ i ih =>
        intro hi n hn hon
        unfold smN
        by_cases h0 : bitN (shA B) L m i = -1
        · rw [if_pos h0]
          by_cases hni : n = i
          · subst hni; unfold okc at hon; simp [h0] at hon
          · exact ih (by omega) n (by omega) hon
        · rw [if_neg h0]
          by_cases hni : n = i
          · subst hni; rw [u1_s]
          · rw [u1_n (by omega)]; exact ih (by omega) n (by omega) hon
    unfold saN
    by_cases hkm : k = m
    · subst hkm
      exact hs (Nat.le_refl _) j hj ho
    · rw [smN_n (by omega) hC8 (Nat.le_refl _)]
      exact saN_msg hC8 (m := m) k (by omega) j hj ho
theorem col_of {sh : Nat → Int} {L c j : Nat} {t : Nat} (hL : 1 ≤ L) (hs : -1 ≤ sh (8 * (c / L) + j)) (h : bitN sh L c j = (t : Int)) : t / L = j := by
  rcases bitN_rng (j := j) hL hs with q | q
  · rw [q] at h; omega
  · rw [h] at q
    have q1 : L * j ≤ t := by exact_mod_cast q.1
    have q2 : t < L * j + L := by exact_mod_cast q.2
    refine Nat.div_eq_of_lt_le ?_ ?_
    · rw [Nat.mul_comm]; exact q1
    · rw [Nat.succ_mul, Nat.mul_comm j L]; exact q2
theorem cpy_at {f g : Nat → Int} {n k : Nat} (h : k < n) : cpyF f g n k = f k := if_pos h
set_option maxRecDepth 8000 in
theorem c8_mendAtOnce {a c : Nat} {sa : Nat → Nat → Int} {si : Nat → Int} {sl : Nat → BitVec 64} {h0 : HP} {B : Nat → Int} {L R C : Nat} (hC : CDQ (outS a) h0 c B L R C) (hI : INV B) (hB : BM sa B L R C) (hh : ∀ b, b < L * C → sa 1 b = B (48 + b)) : sp mX8_mendAtOnce [.ref a] (SH a (c) (sa) (si) (sl) h0) 0 0 (px none (fun sb : Nat → Nat → Int => ((∀ b, b < L * C → sb 2 b = hld (smB B (saN B L C (L * R)) L b (L * R)) (-99) 99) ∧ ∀ k, k < L * R → ∀ j, j < C → okc (shA B) L k j = true → sb 4 (8 * k + j) = saN B L C (L * R) (144 + 8 * k + j)) ∧ smo sa sb) (fun sb => (SH a (c) (sb) (si) (sl) h0))) := by
  obtain ⟨ad, f7, f8, f10, f9, f11, rk, cr, hV, h6, h7, o_c0, r70, r80, r90, r100, r110, e7, e8, e9, e10, hRD, p0, p7, p8, p9, p10, p11⟩ := id hC
  obtain ⟨v1, v2, v3, v4, v5, v6, v7⟩ := id hV
  have hLC := mulLe (a := L) (b := C) (x := 6) (y := 8) (by omega) (by omega)
  have hLR := mulLe (a := L) (b := R) (x := 6) (y := 4) (by omega) (by omega)
  have o_c : ∀ {c' : Nat} {sa : Nat → Nat → Int} {si : Nat → Int} {sl : Nat → BitVec 64}, (SH a c' sa si sl h0).2 c = some (.inr (2, cfs L R C (B 6) (B 7) ad rk cr)) := SHo p0 o_c0
  have r_c_shifts : ∀ {c' : Nat} {sa : Nat → Nat → Int} {si : Nat → Int} {sl : Nat → BitVec 64}, (SH a c' sa si sl h0).2 (ad 7) = some (aI 32 f7) := SHo p7 r70
  have r_c_edges : ∀ {c' : Nat} {sa : Nat → Nat → Int} {si : Nat → Int} {sl : Nat → BitVec 64}, (SH a c' sa si sl h0).2 (ad 8) = some (aI 192 f8) := SHo p8 r80
  have r_c_bitsOf : ∀ {c' : Nat} {sa : Nat → Nat → Int} {si : Nat → Int} {sl : Nat → BitVec 64}, (SH a c' sa si sl h0).2 (ad 9) = some (aL 24 f9) := SHo p9 r90
  have hbr : ∀ k0, k0 < L * R → ∀ j, j < C → -1 ≤ bitN (shA B) L k0 j ∧ bitN (shA B) L k0 j < (L : Int) * C ∧ bitN (shA B) L k0 j < 48 := fun k0 hk0 j hj => bitN_le (sh := shA B) (c := k0) v4 hj (by omega) (v7 _ (by have := rowLt hk0 v4.1; omega)).1
  have hok1 : ∀ k0 j, okc (shA B) L k0 j = true ↔ ¬ bitN (shA B) L k0 j = -1 := fun k0 j => by unfold okc; simp
  have hIs : INV (saN B L C (L * R)) := saN_i hI (by omega) (by omega)
  obtain ⟨S, hS⟩ : ∃ S, saN B L C (L * R) = S := ⟨_, rfl⟩
  have hS48 : ∀ b, b < L * C → S (48 + b) = B (48 + b) := fun b hb => by rw [← hS]; exact saN_n (by omega) (by omega)
  have hSm : ∀ k, k < L * R → ∀ j, j < C → okc (shA B) L k j = true → S (144 + 8 * k + j) = nmV (okc (shA B) L k) (rho B L k) j C (B 6) (B 7) := fun k hk j hj ho => by rw [← hS]; exact saN_msg (by omega) k hk j hj ho
  rw [hS] at hIs ⊢
  have hbL : ∀ b, b < L * C → b / L < C := fun b hb => (Nat.div_lt_iff_lt_mul (by omega)).mpr (by rw [Nat.mul_comm]; exact hb)
  have hsr : ∀ b : Nat, b < L * C → ∀ k : Nat, k ≤ 24 → -31 - 31 * (k : Int) ≤ smB B S L b k ∧ smB B S L b k ≤ 31 + 31 * (k : Int) := fun b hb k hk => smB_rng hIs (by omega) (by have := hbL b hb; omega) hk
  refine sp_wp rfl (lv := [_, _, _, _]) rfl (Nat.le_of_ble_eq_true rfl) ?_
  refine w_iconst dX8_mendAtOnce_0 ?_
  refine w_istore_n (lv' := [_, _, _, _]) dX8_mendAtOnce_1 rfl (Nat.le_of_ble_eq_true rfl) rfl rfl ?_
  have lp3 : ∀ b, b ≤ L * C → ∀ (sb : Nat → Nat → Int) (x2 x3 : Value), (∀ i, i < b → sb 2 i = hld (smB B S L i (L * R)) (-99) 99) → (∀ i, b ≤ i → i < L * C → sb 2 i = smB B S L i (L * R)) → (∀ k, k < L * R → ∀ j, j < C → okc (shA B) L k j = true → sb 4 (8 * k + j) = S (144 + 8 * k + j)) → smo sa sb → wp mX8_mendAtOnce 121 [.ref a, .int (zI (b : Int)), x2, x3] [] (SH a (c) (sb) (si) (sl) h0) 0 0 (px none (fun sb : Nat → Nat → Int => ((∀ b, b < L * C → sb 2 b = hld (smB B S L b (L * R)) (-99) 99) ∧ ∀ k, k < L * R → ∀ j, j < C → okc (shA B) L k j = true → sb 4 (8 * k + j) = S (144 + 8 * k + j)) ∧ smo sa sb) (fun sb => (SH a (c) (sb) (si) (sl) h0))) := by
    refine up_ind (P := fun b => ∀ (sb : Nat → Nat → Int) (x2 x3 : Value), (∀ i, i < b → sb 2 i = hld (smB B S L i (L * R)) (-99) 99) → (∀ i, b ≤ i → i < L * C → sb 2 i = smB B S L i (L * R)) → (∀ k, k < L * R → ∀ j, j < C → okc (shA B) L k j = true → sb 4 (8 * k + j) = S (144 + 8 * k + j)) → smo sa sb → wp mX8_mendAtOnce 121 [.ref a, .int (zI (b : Int)), x2, x3] [] (SH a (c) (sb) (si) (sl) h0) 0 0 (px none (fun sb : Nat → Nat → Int => ((∀ b, b < L * C → sb 2 b = hld (smB B S L b (L * R)) (-99) 99) ∧ ∀ k, k < L * R → ∀ j, j < C → okc (shA B) L k j = true → sb 4 (8 * k + j) = S (144 + 8 * k + j)) ∧ smo sa sb) (fun sb => (SH a (c) (sb) (si) (sl) h0)))) (fun b hb ih sb x2 x3 i1 i2 i3 i4 => ?_)
    refine w_iload_n dX8_mendAtOnce_121 rfl rfl ?_
    refine w_aload_n dX8_mendAtOnce_122 rfl rfl ?_
    refine w_getf fX8_37 dX8_mendAtOnce_123 SC0 rfl ?_
    refine w_getf fX8_94 dX8_mendAtOnce_126 o_c rfl ?_
    refine w_icmp_ge 153 dX8_mendAtOnce_129 (by decide) (by first | assumption | (unfold ok32 at *; omega)) (by first | assumption | (unfold ok32 at *; omega)) (fun hc => ?_) (fun hc => ?_)
    · exact x_vret rfl dX8_mendAtOnce_153 ⟨rfl, sb, ⟨⟨fun i hi => i1 i (by omega), i3⟩, i4⟩, rfl⟩
    · have hr := hsr b (by omega) (L * R) (by omega)
      refine w_aload_n dX8_mendAtOnce_132 rfl rfl ?_
      refine w_getf fX8_19 dX8_mendAtOnce_133 SC0 rfl ?_
      refine w_iload_n dX8_mendAtOnce_136 rfl rfl ?_
      refine w_aload_n dX8_mendAtOnce_137 rfl rfl ?_
      refine w_getf fX8_19 dX8_mendAtOnce_138 SC0 rfl ?_
      refine w_iload_n dX8_mendAtOnce_141 rfl rfl ?_
      refine w_iald (b) SC2 (by first | rfl | omega | (push_cast; rfl) | (push_cast; omega)) (by omega) (by decide) dX8_mendAtOnce_142 ?_
      rw [i2 b (Nat.le_refl _) (by omega)]
      refine wc_S (Z := mX8_hold) (As := [_]) (c8_hold (by unfold ok32; omega)) kX8_hold lX8_134 sX8_hold dX8_mendAtOnce_143 rfl rfl rfl (Nat.le_of_ble_eq_true rfl) ⟨Nat.le_of_ble_eq_true rfl, Nat.le_of_ble_eq_true rfl⟩ ?_
      refine sc_ist2 (b) (by first | rfl | omega | (push_cast; rfl) | (push_cast; omega)) (by omega) dX8_mendAtOnce_146 ?_
      refine w_iinc (lv' := [_, _, _, _]) dX8_mendAtOnce_147 rfl rfl rfl ?_
      refine w_goto 121 dX8_mendAtOnce_150 (by decide) ?_
      refine ih (by omega) (u1 sb 2 (u1 (sb 2) b (hld (smB B S L b (L * R)) (-99) 99))) _ _ (fun i hi => ?_) (fun i h1 h2 => ?_) i3 i4
      · show u1 (sb 2) b _ i = _
        by_cases hib : i = b
        · rw [hib, u1_s]
        · rw [u1_n hib]; exact i1 i (by omega)
      · show u1 (sb 2) b _ i = _
        rw [u1_n (by omega)]; exact i2 i (by omega) h2
  have lp2 : ∀ k, k ≤ L * R → ∀ (sb : Nat → Nat → Int) (x2 x3 : Value), (∀ i, i < L * C → sb 2 i = smB B S L i k) → (∀ k, k < L * R → ∀ j, j < C → okc (shA B) L k j = true → sb 4 (8 * k + j) = S (144 + 8 * k + j)) → smo sa sb → wp mX8_mendAtOnce 44 [.ref a, .int (zI (k : Int)), x2, x3] [] (SH a (c) (sb) (si) (sl) h0) 0 0 (px none (fun sb : Nat → Nat → Int => ((∀ b, b < L * C → sb 2 b = hld (smB B S L b (L * R)) (-99) 99) ∧ ∀ k, k < L * R → ∀ j, j < C → okc (shA B) L k j = true → sb 4 (8 * k + j) = S (144 + 8 * k + j)) ∧ smo sa sb) (fun sb => (SH a (c) (sb) (si) (sl) h0))) := by
    refine up_ind (P := fun k => ∀ (sb : Nat → Nat → Int) (x2 x3 : Value), (∀ i, i < L * C → sb 2 i = smB B S L i k) → (∀ k, k < L * R → ∀ j, j < C → okc (shA B) L k j = true → sb 4 (8 * k + j) = S (144 + 8 * k + j)) → smo sa sb → wp mX8_mendAtOnce 44 [.ref a, .int (zI (k : Int)), x2, x3] [] (SH a (c) (sb) (si) (sl) h0) 0 0 (px none (fun sb : Nat → Nat → Int => ((∀ b, b < L * C → sb 2 b = hld (smB B S L b (L * R)) (-99) 99) ∧ ∀ k, k < L * R → ∀ j, j < C → okc (shA B) L k j = true → sb 4 (8 * k + j) = S (144 + 8 * k + j)) ∧ smo sa sb) (fun sb => (SH a (c) (sb) (si) (sl) h0)))) (fun k hk ih sb x2 x3 i1 i3 i4 => ?_)
    refine w_iload_n dX8_mendAtOnce_44 rfl rfl ?_
    refine w_aload_n dX8_mendAtOnce_45 rfl rfl ?_
    refine w_getf fX8_37 dX8_mendAtOnce_46 SC0 rfl ?_
    refine w_getf fX8_138 dX8_mendAtOnce_49 o_c rfl ?_
    refine w_icmp_ge 119 dX8_mendAtOnce_52 (by decide) (by first | assumption | (unfold ok32 at *; omega)) (by first | assumption | (unfold ok32 at *; omega)) (fun hc => ?_) (fun hc => ?_)
    · refine w_iconst dX8_mendAtOnce_119 ?_
      refine w_istore_n (lv' := [_, _, _, _]) dX8_mendAtOnce_120 rfl (Nat.le_of_ble_eq_true rfl) rfl rfl ?_
      exact lp3 0 (Nat.zero_le _) sb x2 x3 (fun i hi => absurd hi (Nat.not_lt_zero _)) (fun i _ hi => by rw [i1 i hi, show k = L * R by omega]) i3 i4
    · have hkm : k < L * R := by omega
      refine w_iconst dX8_mendAtOnce_55 ?_
      refine w_istore_n (lv' := [_, _, _, _]) dX8_mendAtOnce_56 rfl (Nat.le_of_ble_eq_true rfl) rfl rfl ?_
      have lpc : ∀ j, j ≤ C → ∀ (sb : Nat → Nat → Int) (x3 : Value), (∀ i, i < L * C → sb 2 i = if i / L < j then smB B S L i (k + 1) else smB B S L i k) → (∀ k, k < L * R → ∀ j, j < C → okc (shA B) L k j = true → sb 4 (8 * k + j) = S (144 + 8 * k + j)) → smo sa sb → wp mX8_mendAtOnce 57 [.ref a, .int (zI (k : Int)), .int (zI (j : Int)), x3] [] (SH a (c) (sb) (si) (sl) h0) 0 0 (px none (fun sb : Nat → Nat → Int => ((∀ b, b < L * C → sb 2 b = hld (smB B S L b (L * R)) (-99) 99) ∧ ∀ k, k < L * R → ∀ j, j < C → okc (shA B) L k j = true → sb 4 (8 * k + j) = S (144 + 8 * k + j)) ∧ smo sa sb) (fun sb => (SH a (c) (sb) (si) (sl) h0))) := by
        refine up_ind (P := fun j => ∀ (sb : Nat → Nat → Int) (x3 : Value), (∀ i, i < L * C → sb 2 i = if i / L < j then smB B S L i (k + 1) else smB B S L i k) → (∀ k, k < L * R → ∀ j, j < C → okc (shA B) L k j = true → sb 4 (8 * k + j) = S (144 + 8 * k + j)) → smo sa sb → wp mX8_mendAtOnce 57 [.ref a, .int (zI (k : Int)), .int (zI (j : Int)), x3] [] (SH a (c) (sb) (si) (sl) h0) 0 0 (px none (fun sb : Nat → Nat → Int => ((∀ b, b < L * C → sb 2 b = hld (smB B S L b (L * R)) (-99) 99) ∧ ∀ k, k < L * R → ∀ j, j < C → okc (shA B) L k j = true → sb 4 (8 * k + j) = S (144 + 8 * k + j)) ∧ smo sa sb) (fun sb => (SH a (c) (sb) (si) (sl) h0)))) (fun j hj ih2 sb x3 i1 i3 i4 => ?_)
        refine w_iload_n dX8_mendAtOnce_57 rfl rfl ?_
        refine w_aload_n dX8_mendAtOnce_58 rfl rfl ?_
        refine w_getf fX8_37 dX8_mendAtOnce_59 SC0 rfl ?_
        refine w_getf fX8_128 dX8_mendAtOnce_62 o_c rfl ?_
        refine w_icmp_ge 113 dX8_mendAtOnce_65 (by decide) (by first | assumption | (unfold ok32 at *; omega)) (by first | assumption | (unfold ok32 at *; omega)) (fun hd => ?_) (fun hd => ?_)
        · refine w_iinc (lv' := [_, _, _, _]) dX8_mendAtOnce_113 rfl rfl rfl ?_
          refine w_goto 44 dX8_mendAtOnce_116 (by decide) ?_
          refine ih hkm sb _ _ (fun i hi => ?_) i3 i4
          rw [i1 i hi, if_pos (by have := hbL i hi; omega)]
        · have hjC : j < C := by omega
          have hrj := hbr k hkm j hjC
          have hsh : -1 ≤ shA B (8 * (k / L) + j) := (v7 _ (by have := rowLt hkm v4.1; omega)).1
          refine w_aload_n dX8_mendAtOnce_68 rfl rfl ?_
          refine w_getf fX8_37 dX8_mendAtOnce_69 SC0 rfl ?_
          refine w_getf fX8_131 dX8_mendAtOnce_72 o_c rfl ?_
          refine w_iload_n dX8_mendAtOnce_75 rfl rfl ?_
          refine w_bipush dX8_mendAtOnce_76 (by decide) ?_
          refine w_imul dX8_mendAtOnce_78 ?_
          refine w_iload_n dX8_mendAtOnce_79 rfl rfl ?_
          refine w_iadd dX8_mendAtOnce_80 ?_
          refine w_iald (8 * k + j) r_c_edges (by first | rfl | omega | (push_cast; rfl) | (push_cast; omega)) (by omega) (by decide) dX8_mendAtOnce_81 ?_
          rw [e8 k hkm j hjC]
          obtain ⟨bb, hbb⟩ : ∃ bb, bitN (shA B) L k j = bb := ⟨_, rfl⟩
          rw [hbb] at hrj ⊢
          refine w_istore_n (lv' := [_, _, _, _]) dX8_mendAtOnce_82 rfl (Nat.le_of_ble_eq_true rfl) rfl rfl ?_
          refine w_iload_n dX8_mendAtOnce_83 rfl rfl ?_
          refine w_if_lt 107 dX8_mendAtOnce_84 (by decide) (by first | assumption | (unfold ok32 at *; omega)) (fun h1 => ?_) (fun h1 => ?_)
          · refine w_iinc (lv' := [_, _, _, _]) dX8_mendAtOnce_107 rfl rfl rfl ?_
            refine w_goto 57 dX8_mendAtOnce_110 (by decide) ?_
            refine ih2 hjC sb _ (fun i hi => ?_) i3 i4
            rw [i1 i hi]
            by_cases q1 : i / L < j
            · rw [if_pos q1, if_pos (by omega)]
            · rw [if_neg q1]
              by_cases q2 : i / L < j + 1
              · rw [if_pos q2, smB, if_neg (by rw [show i / L = j by omega, hbb]; omega)]
              · rw [if_neg q2]
          · obtain ⟨t, ht⟩ : ∃ t : Nat, bb = (t : Int) := ⟨bb.toNat, by omega⟩
            subst ht
            have htn : t < L * C := by have := hrj.2.1; exact_mod_cast this
            have htj : t / L = j := col_of v4.1 hsh hbb
            have ho : okc (shA B) L k j = true := (hok1 k j).mpr (by rw [hbb]; omega)
            have hr := hsr t htn k (by omega)
            have hmr := hIs.me (k := 8 * k + j) (by omega)
            rw [show 144 + (8 * k + j) = 144 + 8 * k + j by omega] at hmr
            refine w_aload_n dX8_mendAtOnce_87 rfl rfl ?_
            refine w_getf fX8_19 dX8_mendAtOnce_88 SC0 rfl ?_
            refine w_iload_n dX8_mendAtOnce_91 rfl rfl ?_
            refine w_dup2 dX8_mendAtOnce_92 rfl rfl ?_
            refine w_iald (t) SC2 (by first | rfl | omega | (push_cast; rfl) | (push_cast; omega)) (by omega) (by decide) dX8_mendAtOnce_93 ?_
            rw [i1 t htn, if_neg (by omega)]
            refine w_aload_n dX8_mendAtOnce_94 rfl rfl ?_
            refine w_getf fX8_25 dX8_mendAtOnce_95 SC0 rfl ?_
            refine w_iload_n dX8_mendAtOnce_98 rfl rfl ?_
            refine w_bipush dX8_mendAtOnce_99 (by decide) ?_
            refine w_imul dX8_mendAtOnce_101 ?_
            refine w_iload_n dX8_mendAtOnce_102 rfl rfl ?_
            refine w_iadd dX8_mendAtOnce_103 ?_
            refine w_iald (8 * k + j) SC4 (by first | rfl | omega | (push_cast; rfl) | (push_cast; omega)) (by omega) (by decide) dX8_mendAtOnce_104 ?_
            rw [i3 k hkm j hjC ho]
            refine w_iadd dX8_mendAtOnce_105 ?_
            refine sc_ist2 (t) (by first | rfl | omega | (push_cast; rfl) | (push_cast; omega)) (by omega) dX8_mendAtOnce_106 ?_
            refine w_iinc (lv' := [_, _, _, _]) dX8_mendAtOnce_107 rfl rfl rfl ?_
            refine w_goto 57 dX8_mendAtOnce_110 (by decide) ?_
            refine ih2 hjC (u1 sb 2 (u1 (sb 2) t (smB B S L t k + S (144 + 8 * k + j)))) _ (fun i hi => ?_) i3 i4
            show u1 (sb 2) t _ i = _
            by_cases hit : i = t
            · rw [hit, u1_s, if_pos (by omega), smB, if_pos (by rw [htj, hbb]), htj]
            · rw [u1_n hit, i1 i hi]
              by_cases q1 : i / L < j
              · rw [if_pos q1, if_pos (by omega)]
              · rw [if_neg q1]
                by_cases q2 : i / L < j + 1
                · rw [if_pos q2, smB, if_neg (by rw [show i / L = j by omega, hbb]; omega)]
                · rw [if_neg q2]
      exact lpc 0 (Nat.zero_le _) sb x3 (fun i hi => by rw [if_neg (Nat.not_lt_zero _)]; exact i1 i hi) i3 i4
  have lp1 : ∀ k, k ≤ L * R → ∀ (sb : Nat → Nat → Int) (x2 x3 : Value), sb 2 = sa 2 → (∀ i, i < k → ∀ j, j < C → okc (shA B) L i j = true → sb 4 (8 * i + j) = S (144 + 8 * i + j)) → (∀ i, 8 * k ≤ i → sb 4 i = sa 4 i) → smo sa sb → wp mX8_mendAtOnce 2 [.ref a, .int (zI (k : Int)), x2, x3] [] (SH a (c) (sb) (si) (sl) h0) 0 0 (px none (fun sb : Nat → Nat → Int => ((∀ b, b < L * C → sb 2 b = hld (smB B S L b (L * R)) (-99) 99) ∧ ∀ k, k < L * R → ∀ j, j < C → okc (shA B) L k j = true → sb 4 (8 * k + j) = S (144 + 8 * k + j)) ∧ smo sa sb) (fun sb => (SH a (c) (sb) (si) (sl) h0))) := by
    refine up_ind (P := fun k => ∀ (sb : Nat → Nat → Int) (x2 x3 : Value), sb 2 = sa 2 → (∀ i, i < k → ∀ j, j < C → okc (shA B) L i j = true → sb 4 (8 * i + j) = S (144 + 8 * i + j)) → (∀ i, 8 * k ≤ i → sb 4 i = sa 4 i) → smo sa sb → wp mX8_mendAtOnce 2 [.ref a, .int (zI (k : Int)), x2, x3] [] (SH a (c) (sb) (si) (sl) h0) 0 0 (px none (fun sb : Nat → Nat → Int => ((∀ b, b < L * C → sb 2 b = hld (smB B S L b (L * R)) (-99) 99) ∧ ∀ k, k < L * R → ∀ j, j < C → okc (shA B) L k j = true → sb 4 (8 * k + j) = S (144 + 8 * k + j)) ∧ smo sa sb) (fun sb => (SH a (c) (sb) (si) (sl) h0)))) (fun k hk ih sb x2 x3 i0 i1 i2 i4 => ?_)
    refine w_iload_n dX8_mendAtOnce_2 rfl rfl ?_
    refine w_aload_n dX8_mendAtOnce_3 rfl rfl ?_
    refine w_getf fX8_37 dX8_mendAtOnce_4 SC0 rfl ?_
    refine w_getf fX8_138 dX8_mendAtOnce_7 o_c rfl ?_
    refine w_icmp_ge 27 dX8_mendAtOnce_10 (by decide) (by first | assumption | (unfold ok32 at *; omega)) (by first | assumption | (unfold ok32 at *; omega)) (fun hc => ?_) (fun hc => ?_)
    · refine w_aload_n dX8_mendAtOnce_27 rfl rfl ?_
      refine w_getf fX8_15 dX8_mendAtOnce_28 SC0 rfl ?_
      refine w_iconst dX8_mendAtOnce_31 ?_
      refine w_aload_n dX8_mendAtOnce_32 rfl rfl ?_
      refine w_getf fX8_19 dX8_mendAtOnce_33 SC0 rfl ?_
      refine w_iconst dX8_mendAtOnce_36 ?_
      refine w_bipush dX8_mendAtOnce_37 (by decide) ?_
      refine w_copyI 48 rfl lX8_66 nAC sAC iAC SC1 SC2 (by decide) (by decide) (by decide) rfl (Nat.le_of_ble_eq_true rfl) (Nat.le_of_ble_eq_true rfl) dX8_mendAtOnce_39 ?_
      rw [SHu2]
      refine w_iconst dX8_mendAtOnce_42 ?_
      refine w_istore_n (lv' := [_, _, _, _]) dX8_mendAtOnce_43 rfl (Nat.le_of_ble_eq_true rfl) rfl rfl ?_
      refine lp2 0 (Nat.zero_le _) (u1 sb 2 (cpyF (sb 1) (sb 2) 48)) x2 x3 (fun i hi => ?_) (fun k' hk' j hj ho => i1 k' (by omega) j hj ho) i4
      show cpyF (sb 1) (sb 2) 48 i = S (48 + i)
      rw [cpy_at (by omega), i4.1, hh i hi, hS48 i hi]
    · have hkm : k < L * R := by omega
      refine w_aload_n dX8_mendAtOnce_13 rfl rfl ?_
      refine w_iload_n dX8_mendAtOnce_14 rfl rfl ?_
      refine w_bipush dX8_mendAtOnce_15 (by decide) ?_
      refine w_imul dX8_mendAtOnce_17 ?_
      rw [show (k : Int) * 8 = ((8 * k : Nat) : Int) by push_cast; rw [Int.mul_comm]]
      refine wx_Vv (Z := mX8_mendMessages) (As := [_]) (c8_mendMessages (k0 := k) (q0 := rho B L k) hC hkm (fun j hj ho => ?_)) SC0 rfl kX8_mendMessages lX8_125 iX8_mendMessages vX8_mendMessages dX8_mendAtOnce_18 rfl rfl rfl (Nat.le_of_ble_eq_true rfl) ⟨Nat.le_of_ble_eq_true rfl, Nat.le_of_ble_eq_true rfl⟩ (fun z hz => ?_)
      · have hnb := (hok1 k j).mp ho
        have hrj := hbr k hkm j hj
        refine ⟨?_, rho_rng hV hI.bel hkm hj hnb⟩
        unfold rho
        rw [i0, i2 _ (by omega), hB.1 _ (by have := hrj.2.1; rw [← Int.toNat_of_nonneg (show 0 ≤ bitN (shA B) L k j by omega)] at this; exact_mod_cast this), hB.2 k hkm j hj ho]
      obtain ⟨g1, g2, g3⟩ := hz
      obtain ⟨q, hq'⟩ : ∃ q, z.1 = q := ⟨_, rfl⟩
      obtain ⟨g, hg'⟩ : ∃ g, z.2 = g := ⟨_, rfl⟩
      rw [hq'] at g1 ⊢
      rw [hg'] at g2 g3 ⊢
      refine w_iinc (lv' := [_, _, _, _]) dX8_mendAtOnce_21 rfl rfl rfl ?_
      refine w_goto 2 dX8_mendAtOnce_24 (by decide) ?_
      refine ih hkm (u1 (u1 sb 7 q) 4 g) _ _ i0 (fun i hi j hj ho => ?_) (fun i hi => ?_) i4
      · show g (8 * i + j) = _
        by_cases hik : i = k
        · rw [hik] at ho ⊢
          rw [g2 j hj ho, hSm k hkm j hj ho]
        · rw [g3 _ (by omega)]
          exact i1 i (by omega) j hj ho
      · show g i = _
        rw [g3 _ (by omega)]
        exact i2 i (by omega)
  exact lp1 0 (Nat.zero_le _) sa jk jk rfl (fun i hi => absurd hi (Nat.not_lt_zero _)) (fun _ _ => rfl) ⟨rfl, rfl, rfl, rfl⟩

