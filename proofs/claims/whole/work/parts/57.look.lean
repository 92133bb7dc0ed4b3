/-! the class's guess; a layer mended -/
theorem gset_c {f g : Nat → Int} : ∀ {n : Nat}, (∀ b, b < n → f b = g b) → gset f n = gset g n
  | 0, _ => rfl
  | n + 1, h => by rw [gset, gset, gset_c (fun b hb => h b (by omega)), h n (by omega)]
set_option maxRecDepth 4000 in
theorem c8_look {a c : Nat} {sa : Nat → Nat → Int} {si : Nat → Int} {sl : Nat → BitVec 64} {h0 : HP} {B : Nat → Int} {L R C : Nat} (hC : CDQ (outS a) h0 c B L R C) (hb0 : ∀ b, b < L * C → ok32 (sa 2 b)) : sp mX8_look [.ref a] (SH a (c) (sa) (si) (sl) h0) 0 0 (pd none (SH a (c) (sa) (u1 si 9 ((oddN (cs B L C) (gset (sa 2) (L * C)) (L * R) : Nat) : Int)) (u1 sl 8 (gset (sa 2) (L * C))) h0)) := by
  obtain ⟨ad, f7, f8, f10, f9, f11, rk, cr, hV, h6, h7, o_c0, r70, r80, r90, r100, r110, e7, e8, e9, e10, hRD, p0, p7, p8, p9, p10, p11⟩ := id hC
  obtain ⟨v1, v2, v3, v4, v5, v6, v7⟩ := id hV
  have hLC := mulLe (a := L) (b := C) (x := 6) (y := 8) (by omega) (by omega)
  have hLR := mulLe (a := L) (b := R) (x := 6) (y := 4) (by omega) (by omega)
  have o_c : ∀ {c' : Nat} {sa : Nat → Nat → Int} {si : Nat → Int} {sl : Nat → BitVec 64}, (SH a c' sa si sl h0).2 c = some (.inr (2, cfs L R C (B 6) (B 7) ad rk cr)) := SHo p0 o_c0
  have r_c_shifts : ∀ {c' : Nat} {sa : Nat → Nat → Int} {si : Nat → Int} {sl : Nat → BitVec 64}, (SH a c' sa si sl h0).2 (ad 7) = some (aI 32 f7) := SHo p7 r70
  have r_c_edges : ∀ {c' : Nat} {sa : Nat → Nat → Int} {si : Nat → Int} {sl : Nat → BitVec 64}, (SH a c' sa si sl h0).2 (ad 8) = some (aI 192 f8) := SHo p8 r80
  have r_c_bitsOf : ∀ {c' : Nat} {sa : Nat → Nat → Int} {si : Nat → Int} {sl : Nat → BitVec 64}, (SH a c' sa si sl h0).2 (ad 9) = some (aL 24 f9) := SHo p9 r90
  refine sp_wp rfl (lv := [_, _]) rfl (Nat.le_of_ble_eq_true rfl) ?_
  refine w_aload_n dX8_look_0 rfl rfl ?_
  refine w_lconst0 dX8_look_1 ?_
  refine sc_pf8 fX8_60 dX8_look_2 ?_
  refine w_iconst dX8_look_5 ?_
  refine w_istore_n (lv' := [_, _]) dX8_look_6 rfl (Nat.le_of_ble_eq_true rfl) rfl rfl ?_
  have key : ∀ b, b ≤ L * C → wp mX8_look 7 [.ref a, .int (zI (b : Int))] [] (SH a (c) (sa) (si) (u1 sl 8 (gset (sa 2) b)) h0) 0 0 (pd none (SH a (c) (sa) (u1 si 9 ((oddN (cs B L C) (gset (sa 2) (L * C)) (L * R) : Nat) : Int)) (u1 sl 8 (gset (sa 2) (L * C))) h0)) := by
    refine up_ind (fun b hb ih => ?_)
    refine w_iload_n dX8_look_7 rfl rfl ?_
    refine w_aload_n dX8_look_8 rfl rfl ?_
    refine w_getf fX8_37 dX8_look_9 SC0 rfl ?_
    refine w_getf fX8_94 dX8_look_12 o_c rfl ?_
    refine w_icmp_ge 45 dX8_look_15 (by decide) (by first | assumption | (unfold ok32 at *; omega)) (by first | assumption | (unfold ok32 at *; omega)) (fun hc => ?_) (fun hc => ?_)
    · rw [show b = L * C by omega]
      refine w_aload_n dX8_look_45 rfl rfl ?_
      refine w_aload_n dX8_look_46 rfl rfl ?_
      refine w_getf fX8_37 dX8_look_47 SC0 rfl ?_
      refine w_aload_n dX8_look_50 rfl rfl ?_
      refine w_getf fX8_60 dX8_look_51 SC0 rfl ?_
      rw [u1_s]
      refine wc_V (Z := mX2_countOdd) (As := [_]) (c2_countOdd hC.sh) o_c rfl kX2_countOdd lX8_110 iX2_countOdd vX2_countOdd dX8_look_54 rfl rfl rfl (Nat.le_of_ble_eq_true rfl) ⟨Nat.le_of_ble_eq_true rfl, Nat.le_of_ble_eq_true rfl⟩ ?_
      refine sc_pf9 fX8_63 dX8_look_57 ?_
      exact x_vret rfl dX8_look_60 ⟨rfl, rfl⟩
    · have hbo := hb0 b (by omega)
      refine w_aload_n dX8_look_18 rfl rfl ?_
      refine w_getf fX8_19 dX8_look_19 SC0 rfl ?_
      refine w_iload_n dX8_look_22 rfl rfl ?_
      refine w_iald (b) SC2 (by first | rfl | omega | (push_cast; rfl) | (push_cast; omega)) (by omega) (by decide) dX8_look_23 ?_
      refine w_if_ge 39 dX8_look_24 (by decide) (by first | assumption | (unfold ok32 at *; omega)) (fun hs => ?_) (fun hs => ?_)
      · refine w_iinc (lv' := [_, _]) dX8_look_39 rfl rfl rfl ?_
        refine w_goto 7 dX8_look_42 (by decide) ?_
        refine w_cast rfl rfl ?_ (ih (by omega))
        rw [gset, if_neg (by omega)]
      · refine w_aload_n dX8_look_27 rfl rfl ?_
        refine w_dup dX8_look_28 rfl ?_
        refine w_getf fX8_60 dX8_look_29 SC0 rfl ?_
        rw [u1_s]
        refine w_lconst1 dX8_look_32 ?_
        refine w_iload_n dX8_look_33 rfl rfl ?_
        refine w_lshl b rfl (by omega) dX8_look_34 ?_
        refine w_lor dX8_look_35 ?_
        refine sc_pf8 fX8_60 dX8_look_36 ?_
        rw [u1_u1]
        refine w_iinc (lv' := [_, _]) dX8_look_39 rfl rfl rfl ?_
        refine w_goto 7 dX8_look_42 (by decide) ?_
        refine w_cast rfl rfl ?_ (ih (by omega))
        rw [gset, if_pos (by omega)]
  exact key 0 (Nat.zero_le _)
def BM (sa : Nat → Nat → Int) (B : Nat → Int) (L R C : Nat) : Prop := (∀ b, b < L * C → sa 2 b = B (96 + b)) ∧ ∀ k, k < L * R → ∀ j, j < C → okc (shA B) L k j = true → sa 4 (8 * k + j) = B (144 + 8 * k + j)
theorem okc_same {A D : Nat → Int} {L R C k j : Nat} (hV : VC A L R C) (h : SmC A D) (hk : k < L * R) (hj : j < C) : okc (shA D) L k j = okc (shA A) L k j := by
  unfold okc
  rw [h.bit hV hk hj]
theorem mdN_msg {D : Nat → Int} {L C k0 : Nat} (hb : ∀ i, i < C → bitN (shA D) L k0 i < 48) : ∀ {j : Nat}, j ≤ C → (∀ i, i < j → okc (shA D) L k0 i = true → mdN D L C k0 j (144 + 8 * k0 + i) = nmV (okc (shA D) L k0) (rho D L k0) i C (D 6) (D 7)) ∧ ∀ k, 144 ≤ k → ¬ (144 + 8 * k0 ≤ k ∧ k < 144 + 8 * k0 + j) → mdN D L C k0 j k = D k
  | 0, _ => ⟨fun i hi => absurd hi (Nat.not_lt_zero _), fun k _ _ => rfl⟩
  | j + 1, hj => by
    obtain ⟨ih1, ih2⟩ := mdN_msg hb (j := j) (by omega)
    have hbj := hb j (by omega)
    unfold mdN
    by_cases h0 : bitN (shA D) L k0 j = -1
    · rw [if_pos h0]
      refine ⟨fun i hi ho => ?_, fun k h1 h2 => ih2 k h1 (by omega)⟩
      by_cases hij : i = j
      · subst hij; unfold okc at ho; simp [h0] at ho
      · exact ih1 i (by omega) ho
    · rw [if_neg h0]
      refine ⟨fun i hi ho => ?_, fun k h1 h2 => ?_⟩
      · rw [u1_n (by omega)]
        by_cases hij : i = j
        · subst hij; rw [u1_s]
        · rw [u1_n (by omega)]; exact ih1 i (by omega) ho
      · rw [u1_n (by omega), u1_n (by omega)]
        exact ih2 k h1 (by omega)
def smo (sa sb : Nat → Nat → Int) : Prop := sb 1 = sa 1 ∧ sb 3 = sa 3 ∧ sb 5 = sa 5 ∧ sb 6 = sa 6

