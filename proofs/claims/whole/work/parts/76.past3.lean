/-! a past copied whole -/
theorem CT_step {h h2 : HP} {ow : Nat → Nat} {p tg f n slot a c : Nat} {sc : Nat → Option Nat} {sa : Nat → Nat → Int} {sj : Nat → Int} {sm : Nat → BitVec 64} (H : PASTW h ow p tg f n sc) (hslot : slot < 20) (hct : CT h h2 p slot sc a c sa sj sm) : ∃ (ow' : Nat → Nat) (sc' : Nat → Option Nat), (h.1 ≤ h2.1 ∧ h2.1 ≤ h.1 + 8) ∧ (∀ x, x < h.1 → ow' x = ow x) ∧ (∀ x, x < h.1 → x ≠ p + 1 → ow x ≠ tg + slot → h2.2 x = h.2 x) ∧ PASTW h2 ow' p tg f n sc' ∧ sc' slot = some a ∧ SCP h2 a c sa sj sm ∧ (∀ s, s ≠ slot → sc' s = sc s) ∧ ∀ j, j ≤ 7 → ow' (a + j) = tg + slot := by
  obtain ⟨hp, hs, hf, hn, ⟨hpl, hop, hop1⟩, hsc⟩ := id H
  have hout : ∀ s, s < 20 → ∀ a, sc s = some a → ∀ j, j ≤ 7 → a + j ≠ p ∧ a + j ≠ p + 1 := fun s hs' a ha j hj => by
    have := (hsc s hs' a ha).2.1 j hj
    refine ⟨fun e => ?_, fun e => ?_⟩
    · rw [e] at this; omega
    · rw [e] at this; omega
  rcases hct with ⟨ha, e⟩ | ⟨ha, e0, e⟩
  · have w2 : ∀ x, outS a x → h2.2 x = h.2 x := fun x hx => by rw [e]; exact SHn hx
    have w3 : SCP h2 a c sa sj sm := by rw [e]; exact SCP.sh
    have w1 : h2.1 = h.1 := by rw [e]; rfl
    refine ⟨ow, sc, ⟨by omega, by omega⟩, fun _ _ => rfl, fun x _ _ h4 => w2 x (H.out hslot ha h4), ⟨?_, ?_, hf, hn, ⟨by omega, hop, hop1⟩, fun s hs' a' ha' => ?_⟩, ha, w3, fun _ _ => rfl, (hsc slot hslot a ha).2.1⟩
    · rw [w2 p (H.out hslot ha (by omega))]; exact hp
    · rw [w2 _ (H.out hslot ha (by omega))]; exact hs
    · obtain ⟨g1, g2, c', sa', si', sl', g3⟩ := hsc s hs' a' ha'
      refine ⟨by omega, g2, ?_⟩
      by_cases hss : s = slot
      · subst hss
        rw [ha] at ha'
        cases ha'
        exact ⟨c, sa, sj, sm, w3⟩
      · exact ⟨c', sa', si', sl', g3.go (fun j hj => w2 _ (H.out hslot ha (by have := g2 j hj; omega)))⟩
  · subst e0
    have w1 : h2.1 = h.1 + 8 := by rw [e]; rfl
    have w2 : ∀ x, x < h.1 → x ≠ p + 1 → h2.2 x = h.2 x := fun x hx hx2 => by
      rw [e]
      exact (SHn (by unfold outS; omega)).trans (up_n hx2)
    have w4 : h2.2 (p + 1) = some (aR 3 20 (u1 sc slot (some h.1))) := by
      rw [e]
      exact SHo (by unfold outS; omega) up_s
    have w3 : SCP h2 h.1 c sa sj sm := by rw [e]; exact SCP.sh
    refine ⟨fun x => if x < h.1 then ow x else tg + slot, u1 sc slot (some h.1), ⟨by omega, by omega⟩, fun x hx => if_pos hx, fun x h1 h2' _ => w2 x h1 h2', ⟨?_, w4, hf, hn, ⟨by omega, by show (if p < h.1 then ow p else tg + slot) < tg; rw [if_pos (by omega)]; exact hop, by show (if p + 1 < h.1 then ow (p + 1) else tg + slot) < tg; rw [if_pos (by omega)]; exact hop1⟩, fun s hs' a' ha' => ?_⟩, u1_s, w3, fun s hs' => u1_n hs', fun j hj => if_neg (by omega)⟩
    · rw [w2 p (by omega) (by omega)]; exact hp
    · by_cases hss : s = slot
      · subst hss
        rw [u1_s] at ha'
        cases ha'
        exact ⟨by omega, fun j hj => if_neg (by omega), c, sa, sj, sm, w3⟩
      · rw [u1_n hss] at ha'
        obtain ⟨g1, g2, c', sa', si', sl', g3⟩ := hsc s hs' a' ha'
        exact ⟨by omega, fun j hj => by show (if a' + j < h.1 then ow (a' + j) else tg + slot) = tg + s; rw [if_pos (by omega)]; exact g2 j hj, c', sa', si', sl', g3.go (fun j hj => w2 _ (by omega) (hout s hs' a' ha' j hj).2)⟩
/-- what the past of another leaves in p -/
def PCPW (h h' : HP) (ow ow' : Nat → Nat) (p tg nq i : Nat) (cA : Nat → Nat) (sA : Nat → Nat → Nat → Int) (jA : Nat → Nat → Int) (mA : Nat → Nat → BitVec 64) : Prop := (h.1 ≤ h'.1 ∧ h'.1 ≤ h.1 + 8 * i) ∧ (∀ x, x < h.1 → ow' x = ow x) ∧ (∀ x, x < h.1 → x ≠ p → x ≠ p + 1 → ¬ (tg ≤ ow x ∧ ow x < tg + 20) → h'.2 x = h.2 x) ∧ ∃ sc', PASTW h' ow' p tg 0 nq sc' ∧ ∀ k, k < i → ∃ (a : Nat) (sa : Nat → Nat → Int), sc' k = some a ∧ SCP h' a (cA k) sa (jA k) (mA k) ∧ CPY (sA k) sa
set_option maxRecDepth 8000 in
theorem c6_copyFrom {h : HP} {ow : Nat → Nat} {p tg f n q tq fq nq : Nat} {sc scq : Nat → Option Nat} {bA cA : Nat → Nat} {sA : Nat → Nat → Nat → Int} {jA : Nat → Nat → Int} {mA : Nat → Nat → BitVec 64} (H : PASTW h ow p tg f n sc) (Q : PASTW h ow q tq fq nq scq) (ht : tg + 20 ≤ tq ∨ tq + 20 ≤ tg) (hpq : p + 1 < q ∨ q + 1 < p) (hop : ow p < tq ∧ ow (p + 1) < tq ∧ ow q < tg ∧ ow (q + 1) < tg) (hA : ∀ i, i < nq → scq ((fq + i) % 20) = some (bA i) ∧ SCP h (bA i) (cA i) (sA i) (jA i) (mA i)) : sp mX6_copyFrom [.ref p, .ref q] h 160 8260 (fun v h' => v = none ∧ ∃ ow', PCPW h h' ow ow' p tg nq nq cA sA jA mA) := by
  obtain ⟨hp, hs, hf, hn, ⟨hpl, hp1, hp2⟩, hsc⟩ := id H
  obtain ⟨kp, ks, kf, kn, ⟨kpl, kp1, kp2⟩, ksc⟩ := id Q
  obtain ⟨o1, o2, o3, o4⟩ := hop
  refine sp_wp rfl (lv := [_, _, _, _]) rfl (Nat.le_of_ble_eq_true rfl) ?_
  refine w_aload_n dX6_copyFrom_0 rfl rfl ?_
  refine w_iconst dX6_copyFrom_1 ?_
  refine w_putf fX6_21 dX6_copyFrom_2 hp (Nat.le_of_ble_eq_true rfl) rfl rfl ?_
  refine w_aload_n dX6_copyFrom_5 rfl rfl ?_
  refine w_aload_n dX6_copyFrom_6 rfl rfl ?_
  refine w_getf fX6_17 dX6_copyFrom_7 ((up_n (show q ≠ p by omega)).trans kp) rfl ?_
  refine w_putf fX6_17 dX6_copyFrom_10 up_s (Nat.le_of_ble_eq_true rfl) rfl rfl ?_
  refine w_cast rfl rfl (show _ = ((h.1, up h.2 p (.inr (5, pfs p ((0 : Nat) : Int) (nq : Int)))) : HP) from (by show ((h.1, up (up h.2 p _) p _) : HP) = _; rw [up_up]; rfl)) ?_
  refine w_iconst dX6_copyFrom_13 ?_
  refine w_istore_n (lv' := [_, _, _, _]) dX6_copyFrom_14 rfl (Nat.le_of_ble_eq_true rfl) rfl rfl ?_
  have key : ∀ i, i ≤ nq → ∀ (hi : HP) (owi : Nat → Nat) (x3 : Value), PCPW h hi ow owi p tg nq i cA sA jA mA → wp mX6_copyFrom 15 [.ref p, .ref q, .int (zI (i : Int)), x3] [] hi (160 - 8 * i) (8260 - 413 * i) (fun v h' => v = none ∧ ∃ ow', PCPW h h' ow ow' p tg nq nq cA sA jA mA) := by
    refine up_ind (P := fun i => ∀ (hi : HP) (owi : Nat → Nat) (x3 : Value), PCPW h hi ow owi p tg nq i cA sA jA mA → wp mX6_copyFrom 15 [.ref p, .ref q, .int (zI (i : Int)), x3] [] hi (160 - 8 * i) (8260 - 413 * i) (fun v h' => v = none ∧ ∃ ow', PCPW h h' ow ow' p tg nq nq cA sA jA mA)) (fun i hi0 ih hi owi x3 hI => ?_)
    obtain ⟨⟨i1, i2⟩, i3, i4, sci, hP, i6⟩ := id hI
    refine w_iload_n dX6_copyFrom_15 rfl rfl ?_
    refine w_aload_n dX6_copyFrom_16 rfl rfl ?_
    refine w_getf fX6_17 dX6_copyFrom_17 hP.1 rfl ?_
    refine w_icmp_ge 54 dX6_copyFrom_20 (by decide) (by first | assumption | (unfold ok32 at *; omega)) (by first | assumption | (unfold ok32 at *; omega)) (fun hc => ?_) (fun hc => ?_)
    · refine x_vret rfl dX6_copyFrom_54 ⟨rfl, owi, ?_⟩
      rw [show nq = i by omega] at hI ⊢
      exact hI
    · have hiq : i < nq := by omega
      obtain ⟨hb1, hb2⟩ := hA i hiq
      have hsl : (fq + i) % 20 < 20 := Nat.mod_lt _ (by decide)
      obtain ⟨g1, g2, -⟩ := ksc _ hsl _ hb1
      have hqp : hi.2 q = some (.inr (5, pfs q (fq : Int) (nq : Int))) := (i4 q (by omega) (by omega) (by omega) (by omega)).trans kp
      have hqs : hi.2 (q + 1) = some (aR 3 20 scq) := (i4 (q + 1) (by omega) (by omega) (by omega) (by omega)).trans ks
      have hbn : ∀ j, j ≤ 7 → bA i + j ≠ p ∧ bA i + j ≠ p + 1 := fun j hj => by
        have := g2 j hj
        refine ⟨fun e => ?_, fun e => ?_⟩
        · rw [e] at this; omega
        · rw [e] at this; omega
      have hbi : SCP hi (bA i) (cA i) (sA i) (jA i) (mA i) := hb2.go (fun j hj => i4 _ (by omega) (hbn j hj).1 (hbn j hj).2 (by have := g2 j hj; omega))
      refine w_aload_n dX6_copyFrom_23 rfl rfl ?_
      refine w_getf fX6_11 dX6_copyFrom_24 hqp rfl ?_
      refine w_aload_n dX6_copyFrom_27 rfl rfl ?_
      refine w_getf fX6_21 dX6_copyFrom_28 hqp rfl ?_
      refine w_iload_n dX6_copyFrom_31 rfl rfl ?_
      refine w_iadd dX6_copyFrom_32 ?_
      refine w_bipush dX6_copyFrom_33 (by decide) ?_
      refine w_irem dX6_copyFrom_35 (by unfold ok32; omega) (by omega) (by omega) (by unfold ok32; omega) ?_
      refine w_aald ((fq + i) % 20) (Or.inr (Or.inl rfl)) hqs (by omega) hsl (by decide) dX6_copyFrom_36 ?_
      rw [hb1]
      show wp _ _ _ (.ref (bA i) :: _) _ _ _ _
      refine w_astore_n (lv' := [_, _, _, _]) dX6_copyFrom_37 rfl (Nat.le_of_ble_eq_true rfl) rfl rfl ?_
      refine w_aload_n dX6_copyFrom_38 rfl rfl ?_
      refine w_ifnull dX6_copyFrom_39 ?_
      refine w_aload_n dX6_copyFrom_42 rfl rfl ?_
      refine w_iload_n dX6_copyFrom_43 rfl rfl ?_
      refine w_aload_n dX6_copyFrom_44 rfl rfl ?_
      refine w_callV (Z := mX6_copyTo) (As := [_, _]) (c6_copyTo (f := ((0 : Nat) : Int)) (n := (nq : Int)) (sc := sci) (slot := i) (sb := sA i) hP.1 hP.2.1 (by omega) hbi (by omega) (by omega) ⟨fun z => ?_, fun z => ?_⟩ (fun a ha => ?_)) hP.1 rfl kX6_copyTo lX6_24 iX6_copyTo vX6_copyTo dX6_copyFrom_45 rfl rfl rfl (Nat.le_of_ble_eq_true rfl) ⟨Nat.le_of_ble_eq_true rfl, Nat.le_of_ble_eq_true rfl⟩ (by omega) (by omega) (fun v' h2 z => ?_)
      · have := (hbn (p - bA i) (by omega)).1
        omega
      · have := (hbn (p + 1 - bA i) (by omega)).2
        omega
      · obtain ⟨q1, q2, q3⟩ := hP.2.2.2.2.2 i (by omega) a ha
        refine ⟨q3, fun j hj => hP.out (by omega) ha (by rw [i3 _ (by omega)]; have := g2 j hj; omega), hP.out (by omega) ha (by rw [i3 _ (by omega)]; omega), hP.out (by omega) ha (by rw [i3 _ (by omega)]; omega)⟩
      · obtain ⟨rfl, a, sa, hcp, hct⟩ := z
        obtain ⟨ow2, sc2, ⟨y1, y2⟩, y3, y4, y5, y6, y7, y8, y9⟩ := CT_step hP (by omega) hct
        rw [show 160 - 8 * i - 8 = 160 - 8 * (i + 1) by omega, show 8260 - 413 * i - 413 = 8260 - 413 * (i + 1) by omega]
        refine w_iinc (lv' := [_, _, _, _]) dX6_copyFrom_48 rfl rfl rfl ?_
        refine w_goto 15 dX6_copyFrom_51 (by decide) ?_
        refine ih hiq h2 ow2 _ ⟨⟨by omega, by omega⟩, fun x hx => (y3 x (by omega)).trans (i3 x hx), fun x h1 h2' h3 h4 => ?_, sc2, y5, fun k hk => ?_⟩
        · rw [y4 x (by omega) h3 (by rw [i3 x h1]; omega)]
          exact i4 x h1 h2' h3 h4
        · by_cases hki : k = i
          · subst hki
            exact ⟨a, sa, y6, y7, hcp⟩
          · obtain ⟨a', sa', t1, t2, t3⟩ := i6 k (by omega)
            obtain ⟨u1', u2', -⟩ := hP.2.2.2.2.2 k (by omega) a' t1
            refine ⟨a', sa', (y8 k hki).trans t1, t2.go (fun j hj => y4 _ (by omega) (fun e => ?_) (by have := u2' j hj; omega)), t3⟩
            have h5 := u2' j hj
            have h6 := hP.2.2.2.2.1.2.2
            rw [e] at h5
            omega
  refine key 0 (Nat.zero_le _) _ ow jk ⟨⟨Nat.le_refl _, Nat.le_refl _⟩, fun _ _ => rfl, fun x _ h2 _ _ => up_n h2, sc, ⟨up_s, (up_n (by omega)).trans hs, by omega, kn, ⟨hpl, hp1, hp2⟩, fun s hs' a ha => ?_⟩, fun k hk => absurd hk (Nat.not_lt_zero _)⟩
  obtain ⟨q1, q2, c', sa', si', sl', q3⟩ := hsc s hs' a ha
  refine ⟨q1, q2, c', sa', si', sl', q3.go (fun j hj => up_n (fun e => ?_))⟩
  have := q2 j hj
  rw [e] at this
  omega

