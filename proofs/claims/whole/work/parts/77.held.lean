/-! all that is held, copied whole -/
theorem w_aastN2 {Y : MT} {pc : Nat} {lv st : List Value} {h : HP} {rc rs : Nat} {Φ : Option Value → HP → Prop} {a n : Nat} {A : Nat → Option Nat} {z : Int} (k : Nat) (ha : h.2 a = some (aR 2 n A)) (hk : z = (k : Int)) (hlt : k < n) (hn : n ≤ 2147483648) (hd : decode Y.2.1 pc = .ok (.aastore, 1)) (kk : wp Y (pc + 1) lv st (h.1, up h.2 a (aR 2 n (u1 A k none))) rc rs Φ) : wp Y pc lv (.null :: .int (zI z) :: .ref a :: st) h rc rs Φ := by
  subst hk
  obtain ⟨i1, i2⟩ := zI_in hlt hn
  intro p l e R s m args below meth c H locs cells slots mc ms G b ls Q C hP hS hb hc hs hR hl HR
  have hK := cx_K C
  have hc1 : H[a]? = some (arrV (G.2.1 2) n (fun j => va_rf (A j))) := (hP.2 a _ ha).2
  have hba := (hP.2 a _ ha).1
  refine va_WaastN (C := RX2) C.1 C.2.1 hc1 ((hK.2 2 _ rfl).1 n (fun j => va_rf (A j))) (fun q => by cases q) (by show ¬ (_ ∨ (arrV _ _ _).slots.size ≤ _); rw [arrV_size]; exact i1) rfl rfl hd fun H1 e1 z1 oq => ?_
  refine kk p l e R s m args below meth c H1 _ cells slots mc ms G b ls Q C (hP.put ?_ hba z1 oq) (hS.put z1 oq hba) hb hc hs hR hl HR
  show H1[a]? = some (vp_cell _ _)
  rw [e1, i2, vp_cell_q, arrV_store]
  congr 2
  funext q
  by_cases hq : q = k
  · subst hq; simp [updV, u1, va_rf]
  · simp [updV, u1, hq]
def hfs (hd : Nat) (n : Int) : List Value := [.ref (hd + 4), .ref (hd + 1), .ref (hd + 3), .int (zI n)]
/-- what a copy of all that is held leaves -/
def HCPW (h h' : HP) (ow ow' : Nat → Nat) (hd tg nq : Nat) (ck : Int) (txk : Nat → Option Nat) (c : Nat) (sk : Nat → Nat → Int) (sj : Nat → Int) (sm : Nat → BitVec 64) (cA : Nat → Nat) (sA : Nat → Nat → Nat → Int) (jA : Nat → Nat → Int) (mA : Nat → Nat → BitVec 64) : Prop := (h.1 ≤ h'.1 ∧ h'.1 ≤ h.1 + 160) ∧ (∀ x, x < h.1 → ow' x = ow x) ∧ (∀ x, x < h.1 → ¬ (hd ≤ x ∧ x ≤ hd + 11) → ¬ (tg ≤ ow x ∧ ow x < tg + 20) → h'.2 x = h.2 x) ∧ h'.2 hd = some (.inr (4, hfs hd ck)) ∧ (∃ tx, h'.2 (hd + 3) = some (aR 2 4 tx) ∧ ∀ i, i < 4 → tx i = txk i) ∧ (∃ sa, SCP h' (hd + 4) c sa sj sm ∧ CPY sk sa) ∧ ∃ sc', PASTW h' ow' (hd + 1) tg 0 nq sc' ∧ ∀ k, k < nq → ∃ (a : Nat) (sa : Nat → Nat → Int), sc' k = some a ∧ SCP h' a (cA k) sa (jA k) (mA k) ∧ CPY (sA k) sa
set_option maxRecDepth 8000 in
theorem c5_copyFrom {h : HP} {ow : Nat → Nat} {hd tg f n kd tq fq nq : Nat} {cnt ck : Int} {sc scq tx txk : Nat → Option Nat} {c c2 : Nat} {sa sk : Nat → Nat → Int} {si sj : Nat → Int} {sl sm : Nat → BitVec 64} {bA cA : Nat → Nat} {sA : Nat → Nat → Nat → Int} {jA : Nat → Nat → Int} {mA : Nat → Nat → BitVec 64} (h1 : h.2 hd = some (.inr (4, hfs hd cnt))) (h2 : h.2 kd = some (.inr (4, hfs kd ck))) (h3 : h.2 (hd + 3) = some (aR 2 4 tx)) (h4 : h.2 (kd + 3) = some (aR 2 4 txk)) (h5 : SCP h (hd + 4) c sa si sl) (h6 : SCP h (kd + 4) c2 sk sj sm) (H : PASTW h ow (hd + 1) tg f n sc) (Q : PASTW h ow (kd + 1) tq fq nq scq) (ht : tg + 20 ≤ tq ∨ tq + 20 ≤ tg) (hap : hd + 11 < kd ∨ kd + 11 < hd) (hlo : hd + 11 < h.1 ∧ kd + 11 < h.1) (ho : (∀ j, j ≤ 11 → ow (hd + j) < tg ∧ ow (hd + j) < tq) ∧ ∀ j, j ≤ 11 → ow (kd + j) < tg ∧ ow (kd + j) < tq) (hA : ∀ i, i < nq → scq ((fq + i) % 20) = some (bA i) ∧ SCP h (bA i) (cA i) (sA i) (jA i) (mA i)) (hT : ∀ i, i < 4 → ∀ x, txk i = some x → x < h.1 ∧ ¬ (hd ≤ x ∧ x ≤ hd + 11) ∧ ow x < tg ∧ ∃ fs, h.2 x = some (.inr (2, fs))) : sp mX5_copyFrom [.ref hd, .ref kd] h 160 8260 (fun v h' => v = none ∧ ∃ ow', HCPW h h' ow ow' hd tg nq ck txk c2 sk sj sm cA sA jA mA) := by
  obtain ⟨ho1, ho2⟩ := ho
  have hsc := H.2.2.2.2.2
  have ksc := Q.2.2.2.2.2
  refine sp_wp rfl (lv := [_, _, _]) rfl (Nat.le_of_ble_eq_true rfl) ?_
  refine w_aload_n dX5_copyFrom_0 rfl rfl ?_
  refine w_getf fX5_29 dX5_copyFrom_1 h1 rfl ?_
  refine w_aload_n dX5_copyFrom_4 rfl rfl ?_
  refine w_getf fX5_29 dX5_copyFrom_5 h2 rfl ?_
  refine w_cast rfl rfl h5.self.symm ?_
  refine wx_Vv (Z := mX8_copyFrom) (As := [_]) (c8_copyFrom h6 (fun j hj => by unfold outS; omega)) SC0 rfl kX8_copyFrom lX5_36 iX8_copyFrom vX8_copyFrom dX5_copyFrom_8 rfl rfl rfl (Nat.le_of_ble_eq_true rfl) ⟨Nat.le_of_ble_eq_true rfl, Nat.le_of_ble_eq_true rfl⟩ (fun z hz => ?_)
  obtain ⟨H1, hH1⟩ : ∃ H1 : HP, SH (hd + 4) c2 z sj sm h = H1 := ⟨_, rfl⟩
  have q0 : H1.1 = h.1 := by rw [← hH1]; rfl
  have q1 : ∀ x, ¬ (hd + 4 ≤ x ∧ x ≤ hd + 11) → H1.2 x = h.2 x := fun x hx => by rw [← hH1]; exact SHn (by unfold outS; omega)
  have q2 : SCP H1 (hd + 4) c2 z sj sm := by rw [← hH1]; exact SCP.sh
  have tagn : ∀ (g : Nat → Nat) (x t : Nat), g x = t → (∀ j, j ≤ 11 → g (hd + j) < t) → ¬ (hd ≤ x ∧ x ≤ hd + 11) := fun g x t e hh w => by
    have := hh (x - hd) (by omega)
    rw [show hd + (x - hd) = x by omega] at this
    omega
  have P1 : PASTW H1 ow (hd + 1) tg f n sc := by
    obtain ⟨a1, a2, a3, a4, a5, a6⟩ := id H
    refine ⟨(q1 _ (by omega)).trans a1, (q1 _ (by omega)).trans a2, a3, a4, by rw [q0]; exact a5, fun s hs a ha => ?_⟩
    obtain ⟨b1, b2, c', sa', si', sl', b3⟩ := a6 s hs a ha
    exact ⟨by omega, b2, c', sa', si', sl', b3.go (fun j hj => q1 _ (fun w => tagn ow _ _ (b2 j hj) (fun i hi => by have := (ho1 i hi).1; omega) (by omega)))⟩
  have P2 : PASTW H1 ow (kd + 1) tq fq nq scq := by
    obtain ⟨a1, a2, a3, a4, a5, a6⟩ := id Q
    refine ⟨(q1 _ (by omega)).trans a1, (q1 _ (by omega)).trans a2, a3, a4, by rw [q0]; exact a5, fun s hs a ha => ?_⟩
    obtain ⟨b1, b2, c', sa', si', sl', b3⟩ := a6 s hs a ha
    exact ⟨by omega, b2, c', sa', si', sl', b3.go (fun j hj => q1 _ (fun w => tagn ow _ _ (b2 j hj) (fun i hi => by have := (ho1 i hi).2; omega) (by omega)))⟩
  have A1 : ∀ i, i < nq → scq ((fq + i) % 20) = some (bA i) ∧ SCP H1 (bA i) (cA i) (sA i) (jA i) (mA i) := fun i hi => by
    obtain ⟨a1, a2⟩ := hA i hi
    have b2 := (ksc _ (Nat.mod_lt _ (by decide)) _ a1).2.1
    exact ⟨a1, a2.go (fun j hj => q1 _ (fun w => tagn ow _ _ (b2 j hj) (fun i hi => by have := (ho1 i hi).2; omega) (by omega)))⟩
  rw [hH1]
  refine w_aload_n dX5_copyFrom_11 rfl rfl ?_
  refine w_getf fX5_12 dX5_copyFrom_12 ((q1 _ (by omega)).trans h1) rfl ?_
  refine w_aload_n dX5_copyFrom_15 rfl rfl ?_
  refine w_getf fX5_12 dX5_copyFrom_16 ((q1 _ (by omega)).trans h2) rfl ?_
  refine w_callV (Z := mX6_copyFrom) (As := [_]) (c6_copyFrom P1 P2 ht (by omega) ⟨(ho1 1 (by omega)).2, (ho1 2 (by omega)).2, (ho2 1 (by omega)).1, (ho2 2 (by omega)).1⟩ A1) P1.1 rfl kX6_copyFrom lX5_40 iX6_copyFrom vX6_copyFrom dX5_copyFrom_19 rfl rfl rfl (Nat.le_of_ble_eq_true rfl) ⟨Nat.le_of_ble_eq_true rfl, Nat.le_of_ble_eq_true rfl⟩ (Nat.le_refl _) (Nat.le_refl _) (fun v' H2 w => ?_)
  obtain ⟨rfl, ow', ⟨y1, y2⟩, y3, y4, sc', y5, y6⟩ := w
  rw [q0] at y1 y2 y3 y4
  have yt := y5.2.2.2.2.2
  have fr : ∀ x, x < h.1 → ¬ (hd + 1 = x ∨ hd + 2 = x) → ¬ (hd + 4 ≤ x ∧ x ≤ hd + 11) → ¬ (tg ≤ ow x ∧ ow x < tg + 20) → H2.2 x = h.2 x := fun x a1 a2 a3 a4 => (y4 x a1 (by omega) (by omega) a4).trans (q1 x a3)
  have f1 : H2.2 hd = some (.inr (4, hfs hd cnt)) := (fr hd (by omega) (by omega) (by omega) (by have := (ho1 0 (by omega)).1; rw [Nat.add_zero] at this; omega)).trans h1
  have f2 : H2.2 kd = some (.inr (4, hfs kd ck)) := (fr kd (by omega) (by omega) (by omega) (by have := (ho2 0 (by omega)).1; rw [Nat.add_zero] at this; omega)).trans h2
  have f3 : H2.2 (hd + 3) = some (aR 2 4 tx) := (fr _ (by omega) (by omega) (by omega) (by have := (ho1 3 (by omega)).1; omega)).trans h3
  have f4 : H2.2 (kd + 3) = some (aR 2 4 txk) := (fr _ (by omega) (by omega) (by omega) (by have := (ho2 3 (by omega)).1; omega)).trans h4
  refine w_aload_n dX5_copyFrom_22 rfl rfl ?_
  refine w_aload_n dX5_copyFrom_23 rfl rfl ?_
  refine w_getf fX5_43 dX5_copyFrom_24 f2 rfl ?_
  refine w_putf fX5_43 dX5_copyFrom_27 f1 (Nat.le_of_ble_eq_true rfl) rfl rfl ?_
  obtain ⟨H3, hH3⟩ : ∃ H3 : HP, ((H2.1, up H2.2 hd (.inr (4, hfs hd ck))) : HP) = H3 := ⟨_, rfl⟩
  have z0 : H3.1 = H2.1 := by rw [← hH3]
  have z1 : ∀ x, x ≠ hd → H3.2 x = H2.2 x := fun x hx => by rw [← hH3]; exact up_n hx
  have z2 : H3.2 hd = some (.inr (4, hfs hd ck)) := by rw [← hH3]; exact up_s
  refine w_cast rfl rfl (show _ = H3 from hH3) ?_
  refine w_iconst dX5_copyFrom_30 ?_
  refine w_istore_n (lv' := [_, _, _]) dX5_copyFrom_31 rfl (Nat.le_of_ble_eq_true rfl) rfl rfl ?_
  have key : ∀ i, i ≤ 4 → ∀ ty : Nat → Option Nat, (∀ k, k < i → ty k = txk k) → wp mX5_copyFrom 32 [.ref hd, .ref kd, .int (zI (i : Int))] [] (H3.1, up H3.2 (hd + 3) (aR 2 4 ty)) (160 - 160) (8260 - 8260) (fun v h' => v = none ∧ ∃ ow', HCPW h h' ow ow' hd tg nq ck txk c2 sk sj sm cA sA jA mA) := by
    refine up_ind (P := fun i => ∀ ty : Nat → Option Nat, (∀ k, k < i → ty k = txk k) → wp mX5_copyFrom 32 [.ref hd, .ref kd, .int (zI (i : Int))] [] (H3.1, up H3.2 (hd + 3) (aR 2 4 ty)) (160 - 160) (8260 - 8260) (fun v h' => v = none ∧ ∃ ow', HCPW h h' ow ow' hd tg nq ck txk c2 sk sj sm cA sA jA mA)) (fun i hi ih ty hty => ?_)
    have u0 : ∀ x, x ≠ hd + 3 → (up H3.2 (hd + 3) (aR 2 4 ty)) x = H3.2 x := fun x hx => up_n hx
    refine w_iload_n dX5_copyFrom_32 rfl rfl ?_
    refine w_iconst dX5_copyFrom_33 ?_
    refine w_icmp_ge 55 dX5_copyFrom_34 (by decide) (by first | assumption | (unfold ok32 at *; omega)) (by first | assumption | (unfold ok32 at *; omega)) (fun hc => ?_) (fun hc => ?_)
    · refine x_vret rfl dX5_copyFrom_55 ⟨rfl, ow', ⟨by show h.1 ≤ H3.1; omega, by show H3.1 ≤ h.1 + 160; have := y5.2.2.2.1; omega⟩, y3, fun x a1 a2 a3 => ?_, ?_, ⟨ty, up_s, fun k hk => hty k (by omega)⟩, ⟨z, q2.go (fun j hj => ?_), hz⟩, sc', ?_, fun k hk => ?_⟩
      · rw [show ((H3.1, up H3.2 (hd + 3) (aR 2 4 ty)) : HP).2 x = H3.2 x from u0 x (by omega), z1 x (by omega)]
        exact fr x a1 (by omega) (by omega) a3
      · exact (u0 _ (by omega)).trans z2
      · have e1 := (ho1 (4 + j) (by omega)).1
        rw [show ((H3.1, up H3.2 (hd + 3) (aR 2 4 ty)) : HP).2 (hd + 4 + j) = H3.2 (hd + 4 + j) from u0 _ (by omega), z1 _ (by omega)]
        refine y4 _ (by omega) (by omega) (by omega) ?_
        rw [show hd + 4 + j = hd + (4 + j) by omega]
        omega
      · obtain ⟨a1, a2, a3, a4, a5, a6⟩ := id y5
        refine ⟨((u0 _ (by omega)).trans (z1 _ (by omega))).trans a1, ((u0 _ (by omega)).trans (z1 _ (by omega))).trans a2, a3, a4, by show hd + 1 + 1 < H3.1 ∧ _; rw [z0]; exact a5, fun s hs a ha => ?_⟩
        obtain ⟨b1, b2, c', sa', si', sl', b3⟩ := a6 s hs a ha
        refine ⟨by show a + 7 < H3.1; omega, b2, c', sa', si', sl', b3.go (fun j hj => ?_)⟩
        have := tagn ow' _ _ (b2 j hj) (fun i hi => by rw [y3 _ (by omega)]; have := (ho1 i hi).1; omega)
        exact (u0 _ (by omega)).trans (z1 _ (by omega))
      · obtain ⟨a, sa', t1, t2, t3⟩ := y6 k hk
        obtain ⟨b1, b2, -⟩ := yt k (by have := y5.2.2.2.1; omega) a t1
        refine ⟨a, sa', t1, t2.go (fun j hj => ?_), t3⟩
        have := tagn ow' _ _ (b2 j hj) (fun i hi => by rw [y3 _ (by omega)]; have := (ho1 i hi).1; omega)
        exact (u0 _ (by omega)).trans (z1 _ (by omega))
    · have hi4 : i < 4 := by omega
      refine w_aload_n dX5_copyFrom_37 rfl rfl ?_
      refine w_getf fX5_20 dX5_copyFrom_38 ((u0 _ (by omega)).trans z2) rfl ?_
      refine w_iload_n dX5_copyFrom_41 rfl rfl ?_
      refine w_aload_n dX5_copyFrom_42 rfl rfl ?_
      refine w_getf fX5_20 dX5_copyFrom_43 ((u0 _ (by omega)).trans ((z1 _ (by omega)).trans f2)) rfl ?_
      refine w_iload_n dX5_copyFrom_46 rfl rfl ?_
      refine w_aald i (Or.inl rfl) ((u0 _ (by omega)).trans ((z1 _ (by omega)).trans f4)) rfl hi4 (by decide) dX5_copyFrom_47 ?_
      have nxt : wp mX5_copyFrom 49 [.ref hd, .ref kd, .int (zI (i : Int))] [] (H3.1, up H3.2 (hd + 3) (aR 2 4 (u1 ty i (txk i)))) (160 - 160) (8260 - 8260) (fun v h' => v = none ∧ ∃ ow', HCPW h h' ow ow' hd tg nq ck txk c2 sk sj sm cA sA jA mA) := by
        refine w_iinc (lv' := [_, _, _]) dX5_copyFrom_49 rfl rfl rfl ?_
        refine w_goto 32 dX5_copyFrom_52 (by decide) ?_
        refine ih hi4 (u1 ty i (txk i)) (fun k hk => ?_)
        by_cases hki : k = i
        · rw [hki, u1_s]
        · rw [u1_n hki]; exact hty k (by omega)
      cases htx : txk i with
      | none =>
        show wp _ _ _ (.null :: _) _ _ _ _
        refine w_aastN2 i up_s rfl hi4 (by decide) dX5_copyFrom_48 ?_
        rw [htx] at nxt
        refine w_cast rfl rfl ?_ nxt
        show ((H3.1, up (up H3.2 (hd + 3) _) (hd + 3) _) : HP) = _
        rw [up_up]
      | some x =>
        obtain ⟨t1, t2, t3, fs, t4⟩ := hT i hi4 x htx
        show wp _ _ _ (.ref x :: _) _ _ _ _
        refine w_aast2 i up_s ((u0 _ (by omega)).trans ((z1 _ (by omega)).trans ((fr x t1 (by omega) (by omega) (by omega)).trans t4))) rfl hi4 (by decide) dX5_copyFrom_48 ?_
        rw [htx] at nxt
        refine w_cast rfl rfl ?_ nxt
        show ((H3.1, up (up H3.2 (hd + 3) _) (hd + 3) _) : HP) = _
        rw [up_up]
  refine w_cast rfl rfl ?_ (key 0 (by omega) tx (fun k hk => absurd hk (Nat.not_lt_zero _)))
  exact (up_same ((z1 _ (by omega)).trans f3)).symm

