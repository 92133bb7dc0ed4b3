/-! the past: put and taken back -/
/-- the past at p: its first, how many, its scenes; their cells have owners of their own -/
def PASTW (h : HP) (ow : Nat → Nat) (p tg f n : Nat) (sc : Nat → Option Nat) : Prop := h.2 p = some (.inr (5, pfs p (f : Int) (n : Int))) ∧ h.2 (p + 1) = some (aR 3 20 sc) ∧ f < 20 ∧ n ≤ 20 ∧ (p + 1 < h.1 ∧ ow p < tg ∧ ow (p + 1) < tg) ∧ ∀ s, s < 20 → ∀ a, sc s = some a → a + 7 < h.1 ∧ (∀ j, j ≤ 7 → ow (a + j) = tg + s) ∧ ∃ (c : Nat) (sa : Nat → Nat → Int) (si : Nat → Int) (sl : Nat → BitVec 64), SCP h a c sa si sl
theorem PASTW.out {h : HP} {ow : Nat → Nat} {p tg f n s a x : Nat} {sc : Nat → Option Nat} (H : PASTW h ow p tg f n sc) (hs : s < 20) (ha : sc s = some a) (hx : ow x ≠ tg + s) : outS a x := fun q => hx (by
  have := (H.2.2.2.2.2 s hs a ha).2.1 (x - a) (by omega)
  rw [show a + (x - a) = x by omega] at this
  exact this)
theorem SCP.go {h h' : HP} {a c : Nat} {sa : Nat → Nat → Int} {si : Nat → Int} {sl : Nat → BitVec 64} (H : SCP h a c sa si sl) (e : ∀ j, j ≤ 7 → h'.2 (a + j) = h.2 (a + j)) : SCP h' a c sa si sl := fun j hj => (e j hj).trans (H j hj)
def slotP (f n : Nat) : Nat := if n = 20 then f else (f + n) % 20
def fstP (f n : Nat) : Nat := if n = 20 then (f + 1) % 20 else f
def cntP (n : Nat) : Nat := if n = 20 then 20 else n + 1
/-- what put leaves -/
def PUTW (h h' : HP) (ow ow' : Nat → Nat) (p tg f n : Nat) (sc : Nat → Option Nat) (c : Nat) (sb : Nat → Nat → Int) (sj : Nat → Int) (sm : Nat → BitVec 64) : Prop := (h.1 ≤ h'.1 ∧ h'.1 ≤ h.1 + 8) ∧ (∀ x, x < h.1 → ow' x = ow x) ∧ (∀ x, x < h.1 → x ≠ p → x ≠ p + 1 → ow x ≠ tg + slotP f n → h'.2 x = h.2 x) ∧ ∃ (sc' : Nat → Option Nat) (a : Nat) (sa : Nat → Nat → Int), PASTW h' ow' p tg (fstP f n) (cntP n) sc' ∧ sc' (slotP f n) = some a ∧ SCP h' a c sa sj sm ∧ CPY sb sa ∧ ∀ s, s ≠ slotP f n → sc' s = sc s
set_option maxRecDepth 8000 in
theorem c6_put {h : HP} {ow : Nat → Nat} {p tg f n b c : Nat} {sc : Nat → Option Nat} {sb : Nat → Nat → Int} {sj : Nat → Int} {sm : Nat → BitVec 64} (H : PASTW h ow p tg f n sc) (hb : SCP h b c sb sj sm) (hbl : b + 7 < h.1) (hbo : ∀ j, j ≤ 7 → ow (b + j) < tg) (hbp : outS b p ∧ outS b (p + 1)) : sp mX6_put [.ref p, .ref b] h 8 413 (fun v h' => v = none ∧ ∃ ow', PUTW h h' ow ow' p tg f n sc c sb sj sm) := by
  obtain ⟨hp, hs, hf, hn, ⟨hpl, hop, hop1⟩, hsc⟩ := id H
  have hbp' : ∀ j, j ≤ 7 → b + j ≠ p ∧ b + j ≠ p + 1 := fun j hj => by
    have := hbp.1
    have := hbp.2
    unfold outS at *
    omega
  have hslot : slotP f n < 20 := by unfold slotP; split <;> omega
  have hout : ∀ s, s < 20 → ∀ a, sc s = some a → ∀ j, j ≤ 7 → a + j ≠ p ∧ a + j ≠ p + 1 := fun s hs' a ha j hj => by
    have := (hsc s hs' a ha).2.1 j hj
    refine ⟨fun e => ?_, fun e => ?_⟩
    · rw [e] at this; omega
    · rw [e] at this; omega
  have fin : ∀ n1 : Nat, n1 + 1 = cntP n → (fstP f n + n1) % 20 = slotP f n → wp mX6_put 32 [.ref p, .ref b] [] (h.1, up h.2 p (.inr (5, pfs p (fstP f n : Int) (n1 : Int)))) 8 413 (fun v h' => v = none ∧ ∃ ow', PUTW h h' ow ow' p tg f n sc c sb sj sm) := by
    intro n1 hn1 hsl
    have hn20 : cntP n ≤ 20 := by unfold cntP; split <;> omega
    have hf20 : fstP f n < 20 := by unfold fstP; split <;> omega
    generalize hK : fstP f n = f1 at *
    generalize hS : slotP f n = sl0 at *
    generalize hN : cntP n = n2 at *
    subst hn1
    obtain ⟨H1, hH1⟩ : ∃ H1 : HP, ((h.1, up h.2 p (.inr (5, pfs p (f1 : Int) (n1 : Int)))) : HP) = H1 := ⟨_, rfl⟩
    have q1 : H1.1 = h.1 := by rw [← hH1]
    have q2 : ∀ x, x ≠ p → H1.2 x = h.2 x := fun x hx => by rw [← hH1]; exact up_n hx
    have q3 : H1.2 p = some (.inr (5, pfs p (f1 : Int) (n1 : Int))) := by rw [← hH1]; exact up_s
    rw [hH1]
    refine w_aload_n dX6_put_32 rfl rfl ?_
    refine w_aload_n dX6_put_33 rfl rfl ?_
    refine w_getf fX6_21 dX6_put_34 q3 rfl ?_
    refine w_aload_n dX6_put_37 rfl rfl ?_
    refine w_getf fX6_17 dX6_put_38 q3 rfl ?_
    refine w_iadd dX6_put_41 ?_
    refine w_bipush dX6_put_42 (by decide) ?_
    refine w_irem dX6_put_44 (by unfold ok32; omega) (by omega) (by omega) (by unfold ok32; omega) ?_
    rw [show ((f1 : Int) + (n1 : Int)) % 20 = (sl0 : Int) by rw [← hsl]; push_cast; rfl]
    refine w_aload_n dX6_put_45 rfl rfl ?_
    refine w_callV (Z := mX6_copyTo) (As := [_, _]) (c6_copyTo (f := (f1 : Int)) (n := (n1 : Int)) (sc := sc) (sb := sb) q3 ((q2 (p + 1) (by omega)).trans hs) hslot (hb.go (fun j hj => q2 _ (hbp' j hj).1)) (by rw [q1]; exact hbl) (by rw [q1]; exact hpl) hbp (fun a ha => ?_)) q3 rfl kX6_copyTo lX6_24 iX6_copyTo vX6_copyTo dX6_put_46 rfl rfl rfl (Nat.le_of_ble_eq_true rfl) ⟨Nat.le_of_ble_eq_true rfl, Nat.le_of_ble_eq_true rfl⟩ (Nat.le_refl _) (Nat.le_refl _) (fun v' h2 q => ?_)
    · obtain ⟨g1, g2, c', sa', si', sl', g3⟩ := hsc sl0 hslot a ha
      refine ⟨⟨c', sa', si', sl', g3.go (fun j hj => q2 _ (hout sl0 hslot a ha j hj).1)⟩, fun j hj => H.out hslot ha (by have := hbo j hj; omega), H.out hslot ha (by omega), H.out hslot ha (by omega)⟩
    · obtain ⟨rfl, a, sa, hcp, hct⟩ := q
      -- what is where
      have e1 : h2.2 p = some (.inr (5, pfs p (f1 : Int) (n1 : Int))) := by
        rcases hct with ⟨ha, e⟩ | ⟨ha, e0, e⟩
        · rw [e]; exact SHo (H.out hslot ha (by omega)) q3
        · rw [e]
          exact SHo (by unfold outS; omega) ((up_n (by omega)).trans q3)
      refine w_aload_n dX6_put_49 rfl rfl ?_
      refine w_dup dX6_put_50 rfl ?_
      refine w_getf fX6_17 dX6_put_51 e1 rfl ?_
      refine w_iconst dX6_put_54 ?_
      refine w_iadd dX6_put_55 ?_
      refine w_putf fX6_17 dX6_put_56 e1 (Nat.le_of_ble_eq_true rfl) rfl rfl ?_
      obtain ⟨h3, hh3⟩ : ∃ h3 : HP, ((h2.1, up h2.2 p (.inr (5, pfs p (f1 : Int) ((n1 : Int) + 1)))) : HP) = h3 := ⟨_, rfl⟩
      refine w_cast rfl rfl (show _ = h3 from hh3) ?_
      refine x_vret rfl dX6_put_59 ⟨rfl, ?_⟩
      have z1 : h3.1 = h2.1 := by rw [← hh3]
      have z2 : ∀ x, x ≠ p → h3.2 x = h2.2 x := fun x hx => by rw [← hh3]; exact up_n hx
      have z3 : h3.2 p = some (.inr (5, pfs p (f1 : Int) ((n1 + 1 : Nat) : Int))) := by rw [← hh3]; exact up_s
      rcases hct with ⟨ha, e⟩ | ⟨ha, e0, e⟩
      · have ha1 := (hsc sl0 hslot a ha)
        have w1 : h2.1 = h.1 := by rw [e]; exact q1
        have w2 : ∀ x, outS a x → h2.2 x = H1.2 x := fun x hx => by rw [e]; exact SHn hx
        have w3 : SCP h2 a c sa sj sm := by rw [e]; exact SCP.sh
        have ww : SCP h3 a c sa sj sm := w3.go (fun j hj => z2 _ (hout sl0 hslot a ha j hj).1)
        unfold PUTW
        rw [hK, hS, hN]
        refine ⟨ow, ⟨by omega, by omega⟩, fun _ _ => rfl, fun x h1 h2' h3' h4 => ?_, sc, a, sa, ⟨z3, ?_, hf20, hn20, ⟨by omega, hop, hop1⟩, fun s hs' a' ha' => ?_⟩, ha, ww, hcp, fun _ _ => rfl⟩
        · rw [z2 x h2', w2 x (H.out hslot ha h4), q2 x h2']
        · rw [z2 _ (by omega), w2 _ (H.out hslot ha (by omega)), q2 _ (by omega)]
          exact hs
        · obtain ⟨g1, g2, c', sa', si', sl', g3⟩ := hsc s hs' a' ha'
          refine ⟨by omega, g2, ?_⟩
          by_cases hss : s = sl0
          · subst hss
            rw [ha] at ha'
            cases ha'
            exact ⟨c, sa, sj, sm, ww⟩
          · refine ⟨c', sa', si', sl', g3.go (fun j hj => ?_)⟩
            rw [z2 _ (hout s hs' a' ha' j hj).1, w2 _ (H.out hslot ha (by have := g2 j hj; omega)), q2 _ (hout s hs' a' ha' j hj).1]
      · rw [q1] at e0 e
        subst e0
        have w1 : h2.1 = h.1 + 8 := by rw [e]; rfl
        have w2 : ∀ x, x < h.1 → x ≠ p + 1 → h2.2 x = H1.2 x := fun x hx hx2 => by
          rw [e]
          exact (SHn (by unfold outS; omega)).trans (up_n hx2)
        have w4 : h2.2 (p + 1) = some (aR 3 20 (u1 sc sl0 (some h.1))) := by
          rw [e]
          exact SHo (by unfold outS; omega) up_s
        have w3 : SCP h2 h.1 c sa sj sm := by rw [e]; exact SCP.sh
        have ww : SCP h3 h.1 c sa sj sm := w3.go (fun j hj => z2 _ (by omega))
        unfold PUTW
        rw [hK, hS, hN]
        refine ⟨fun x => if x < h.1 then ow x else tg + sl0, ⟨by omega, by omega⟩, fun x hx => if_pos hx, fun x h1 h2' h3' h4 => ?_, u1 sc sl0 (some h.1), h.1, sa, ⟨z3, ?_, hf20, hn20, ⟨by omega, by show (if p < h.1 then ow p else tg + sl0) < tg; rw [if_pos (by omega)]; exact hop, by show (if p + 1 < h.1 then ow (p + 1) else tg + sl0) < tg; rw [if_pos (by omega)]; exact hop1⟩, fun s hs' a' ha' => ?_⟩, u1_s, ww, hcp, fun s hs' => u1_n hs'⟩
        · rw [z2 x h2', w2 x h1 h3', q2 x h2']
        · rw [z2 _ (by omega)]
          exact w4
        · by_cases hss : s = sl0
          · subst hss
            rw [u1_s] at ha'
            cases ha'
            exact ⟨by omega, fun j hj => if_neg (by omega), c, sa, sj, sm, ww⟩
          · rw [u1_n hss] at ha'
            obtain ⟨g1, g2, c', sa', si', sl', g3⟩ := hsc s hs' a' ha'
            refine ⟨by omega, fun j hj => by show (if a' + j < h.1 then ow (a' + j) else tg + sl0) = tg + s; rw [if_pos (by omega)]; exact g2 j hj, c', sa', si', sl', g3.go (fun j hj => ?_)⟩
            rw [z2 _ (hout s hs' a' ha' j hj).1, w2 _ (by omega) (hout s hs' a' ha' j hj).2, q2 _ (hout s hs' a' ha' j hj).1]
  refine sp_wp rfl (lv := [_, _]) rfl (Nat.le_of_ble_eq_true rfl) ?_
  refine w_aload_n dX6_put_0 rfl rfl ?_
  refine w_getf fX6_17 dX6_put_1 hp rfl ?_
  refine w_bipush dX6_put_4 (by decide) ?_
  refine w_icmp_ne 32 dX6_put_6 (by decide) (by first | assumption | (unfold ok32 at *; omega)) (by first | assumption | (unfold ok32 at *; omega)) (fun hc => ?_) (fun hc => ?_)
  · refine w_cast rfl rfl ?_ (fin n (by unfold cntP; rw [if_neg (by omega)]) (by unfold fstP slotP; rw [if_neg (by omega), if_neg (by omega)]))
    rw [show fstP f n = f by unfold fstP; rw [if_neg (by omega)]]
    exact (up_same hp).symm
  · have hn20 : n = 20 := by omega
    refine w_aload_n dX6_put_9 rfl rfl ?_
    refine w_aload_n dX6_put_10 rfl rfl ?_
    refine w_getf fX6_21 dX6_put_11 hp rfl ?_
    refine w_iconst dX6_put_14 ?_
    refine w_iadd dX6_put_15 ?_
    refine w_bipush dX6_put_16 (by decide) ?_
    refine w_irem dX6_put_18 (by unfold ok32; omega) (by omega) (by omega) (by unfold ok32; omega) ?_
    refine w_putf fX6_21 dX6_put_19 hp (Nat.le_of_ble_eq_true rfl) rfl rfl ?_
    refine w_aload_n dX6_put_22 rfl rfl ?_
    refine w_dup dX6_put_23 rfl ?_
    refine w_getf fX6_17 dX6_put_24 up_s rfl ?_
    refine w_iconst dX6_put_27 ?_
    refine w_isub dX6_put_28 ?_
    refine w_putf fX6_17 dX6_put_29 up_s (Nat.le_of_ble_eq_true rfl) rfl rfl ?_
    refine w_cast rfl rfl (show _ = ((h.1, up h.2 p (.inr (5, pfs p (fstP f n : Int) ((19 : Nat) : Int)))) : HP) from ?_) (fin 19 (by unfold cntP; rw [if_pos hn20]) (by unfold fstP slotP; rw [if_pos hn20, if_pos hn20]; omega))
    show ((h.1, up (up h.2 p _) p _) : HP) = _
    rw [up_up, hn20]
    unfold fstP
    rw [if_pos rfl]
    push_cast
    rfl
set_option maxRecDepth 8000 in
theorem c6_takeBack {h : HP} {ow : Nat → Nat} {p tg f n b c : Nat} {sc : Nat → Option Nat} {sb : Nat → Nat → Int} {sj : Nat → Int} {sm : Nat → BitVec 64} {a c2 : Nat} {sa : Nat → Nat → Int} {si : Nat → Int} {sl : Nat → BitVec 64} (H : PASTW h ow p tg f n sc) (hb : SCP h b c sb sj sm) (hbo : ∀ j, j ≤ 7 → ow (b + j) < tg) (hbp : outS b p ∧ outS b (p + 1)) (h1 : 1 ≤ n → sc ((f + n - 1) % 20) = some a ∧ SCP h a c2 sa si sl) : sp mX6_takeBack [.ref p, .ref b] h 0 0 (fun v h' => v = some (.int (zI (bI (1 ≤ n)))) ∧ (n = 0 → h' = h) ∧ (1 ≤ n → ∃ sz, CPY sa sz ∧ h' = (h.1, up (SH b c2 sz si sl h).2 p (.inr (5, pfs p (f : Int) ((n - 1 : Nat) : Int)))))) := by
  obtain ⟨hp, hs, hf, hn, ⟨hpl, hop, hop1⟩, hsc⟩ := id H
  refine sp_wp rfl (lv := [_, _, _]) rfl (Nat.le_of_ble_eq_true rfl) ?_
  refine w_aload_n dX6_takeBack_0 rfl rfl ?_
  refine w_getf fX6_17 dX6_takeBack_1 hp rfl ?_
  refine w_iconst dX6_takeBack_4 ?_
  refine w_icmp_ge 10 dX6_takeBack_5 (by decide) (by first | assumption | (unfold ok32 at *; omega)) (by first | assumption | (unfold ok32 at *; omega)) (fun hc => ?_) (fun hc => ?_)
  · have hn1 : 1 ≤ n := by omega
    obtain ⟨ha, hA⟩ := h1 hn1
    have hsl : (f + n - 1) % 20 < 20 := Nat.mod_lt _ (by decide)
    have ho := (hsc _ hsl a ha).2.1
    refine w_aload_n dX6_takeBack_10 rfl rfl ?_
    refine w_getf fX6_11 dX6_takeBack_11 hp rfl ?_
    refine w_aload_n dX6_takeBack_14 rfl rfl ?_
    refine w_getf fX6_21 dX6_takeBack_15 hp rfl ?_
    refine w_aload_n dX6_takeBack_18 rfl rfl ?_
    refine w_getf fX6_17 dX6_takeBack_19 hp rfl ?_
    refine w_iadd dX6_takeBack_22 ?_
    refine w_iconst dX6_takeBack_23 ?_
    refine w_isub dX6_takeBack_24 ?_
    refine w_bipush dX6_takeBack_25 (by decide) ?_
    refine w_irem dX6_takeBack_27 (by unfold ok32; omega) (by omega) (by omega) (by unfold ok32; omega) ?_
    refine w_aald ((f + n - 1) % 20) (Or.inr (Or.inl rfl)) hs (by omega) hsl (by decide) dX6_takeBack_28 ?_
    rw [ha]
    show wp _ _ _ (.ref a :: _) _ _ _ _
    refine w_astore_n (lv' := [_, _, _]) dX6_takeBack_29 rfl (Nat.le_of_ble_eq_true rfl) rfl rfl ?_
    refine w_aload_n dX6_takeBack_30 rfl rfl ?_
    refine w_ifnonnull 36 dX6_takeBack_31 (by decide) ?_
    refine w_aload_n dX6_takeBack_36 rfl rfl ?_
    refine w_aload_n dX6_takeBack_37 rfl rfl ?_
    refine w_cast rfl rfl hb.self.symm ?_
    refine wx_Vv (Z := mX8_copyFrom) (As := [_]) (c8_copyFrom hA (fun j hj q => ?_)) SC0 rfl kX8_copyFrom lX6_35 iX8_copyFrom vX8_copyFrom dX6_takeBack_38 rfl rfl rfl (Nat.le_of_ble_eq_true rfl) ⟨Nat.le_of_ble_eq_true rfl, Nat.le_of_ble_eq_true rfl⟩ (fun z hz => ?_)
    · have e1 := ho j hj
      have e2 := hbo (a + j - b) (by omega)
      rw [show b + (a + j - b) = a + j by omega] at e2
      omega
    · have e1 : (SH b c2 z si sl h).2 p = some (.inr (5, pfs p (f : Int) (n : Int))) := SHo hbp.1 hp
      refine w_aload_n dX6_takeBack_41 rfl rfl ?_
      refine w_dup dX6_takeBack_42 rfl ?_
      refine w_getf fX6_17 dX6_takeBack_43 e1 rfl ?_
      refine w_iconst dX6_takeBack_46 ?_
      refine w_isub dX6_takeBack_47 ?_
      refine w_putf fX6_17 dX6_takeBack_48 e1 (Nat.le_of_ble_eq_true rfl) rfl rfl ?_
      refine w_iconst dX6_takeBack_51 ?_
      refine x_iret rfl (by rfl) dX6_takeBack_52 ⟨?_, fun q => by omega, fun _ => ⟨z, hz, ?_⟩⟩
      · rw [bI_t hn1]
      · rw [show ((n - 1 : Nat) : Int) = (n : Int) - 1 by omega]
        rfl
  · refine w_iconst dX6_takeBack_8 ?_
    refine x_iret rfl (by rfl) dX6_takeBack_9 ⟨?_, fun _ => rfl, fun q => by omega⟩
    rw [bI_f (by omega)]

