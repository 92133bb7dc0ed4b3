/-! what the constructors lay out: the class -/
def B0 : Nat → Int := u1 (u1 (u1 (u1 (u1 (u1 (fun _ => 0) 3 1) 4 1) 5 2) 6 1) 7 15) 12 613
theorem B0_z {k : Nat} (h : k ≠ 3 ∧ k ≠ 4 ∧ k ≠ 5 ∧ k ≠ 6 ∧ k ≠ 7 ∧ k ≠ 12) : B0 k = 0 := by
  unfold B0
  rw [u1_n (by omega), u1_n (by omega), u1_n (by omega), u1_n (by omega), u1_n (by omega), u1_n (by omega)]
theorem B0_ok (k : Nat) : 0 ≤ B0 k ∧ B0 k ≤ 613 := by
  by_cases h : k ≠ 3 ∧ k ≠ 4 ∧ k ≠ 5 ∧ k ≠ 6 ∧ k ≠ 7 ∧ k ≠ 12
  · rw [B0_z h]; omega
  · rcases (show k = 3 ∨ k = 4 ∨ k = 5 ∨ k = 6 ∨ k = 7 ∨ k = 12 by omega) with e | e | e | e | e | e <;> subst e <;> exact ⟨by decide, by decide⟩
theorem B0_vc : VC B0 1 1 2 := ⟨rfl, rfl, rfl, by decide, by decide, by decide, fun k hk => by rw [B0_z (by omega)]; omega⟩
def HL1 (a c : Nat) (h' : HP) (B : Nat → Int) (L R C : Nat) : Prop := h'.2 a = some (.inr (4, hfs a 0)) ∧ h'.2 (a + 1) = some (.inr (5, pfs (a + 1) 0 0)) ∧ h'.2 (a + 2) = some (aR 3 20 (fun _ => none)) ∧ h'.2 (a + 3) = some (aR 2 4 (fun _ => none)) ∧ ∃ (sa : Nat → Nat → Int) (si : Nat → Int) (sl : Nat → BitVec 64), SCP h' (a + 4) c sa si sl ∧ REL sa si sl (cmA B L R C) L R C
theorem HL0.tr {a c : Nat} {h g h' : HP} {B : Nat → Int} {L R C : Nat} (H : HL0 a c h g B L R C) (e : ∀ x, a ≤ x → x < a + 12 → h'.2 x = g.2 x) : HL1 a c h' B L R C := by
  obtain ⟨-, p1, p2, p3, p4, sa, si, sl, p5, p6⟩ := H
  exact ⟨(e _ (by omega) (by omega)).trans p1, (e _ (by omega) (by omega)).trans p2, (e _ (by omega) (by omega)).trans p3, (e _ (by omega) (by omega)).trans p4, sa, si, sl, fun j hj => (e _ (by omega) (by omega)).trans (p5 j hj), p6⟩
def CL0 (o : Nat) (h h' : HP) : Prop := h'.1 = o + 60 ∧ (∀ x, x < o → h'.2 x = h.2 x) ∧ h'.2 o = some (.inr (8, xfs o)) ∧ CDQ (fun x => o + 1 ≤ x ∧ x ≤ o + 6) h' (o + 1) B0 1 1 2 ∧ (∃ fs : List Value, h'.2 (o + 1) = some (.inr (2, fs)) ∧ fs[14]? = some (.ref (o + 7))) ∧ (∃ T : Nat → Int, h'.2 (o + 7) = some (aI 16 T) ∧ ∀ k, k < 16 → T k = -1) ∧ HL1 (o + 8) (o + 1) h' B0 1 1 2 ∧ HL1 (o + 20) (o + 1) h' B0 1 1 2 ∧ RDP h' (o + 32) (fun _ _ => 0) (u1 (u1 (fun _ => 0) 2 (-1)) 3 (-1)) ∧ (∃ (sa : Nat → Nat → Int) (si : Nat → Int) (sl : Nat → BitVec 64), SCP h' (o + 35) (o + 1) sa si sl) ∧ (CUP h' (o + 43) (fun _ _ => 0) (fun _ => 0) (fun _ => o + 1) ∧ h'.2 (o + 43 + 1) = some (aR 2 5 (fun _ => none)) ∧ h'.2 (o + 43 + 2) = some (aR 4 5 (fun j => some (o + 43 + 3 + j))) ∧ ∀ K, K < 5 → h'.2 (o + 43 + 3 + K) = some (aL 16 (fun _ => 0))) ∧ AWP h' (o + 55) (fun _ _ => 0) (fun _ => 0) (fun _ => 0) ∧ FLP h' (o + 57) (fun _ _ => 0) (fun _ => 0)
set_option maxRecDepth 8000 in
theorem c9_init {o : Nat} {h : HP} (h1 : h.1 = o + 1) (h2 : h.2 o = some (.inr (8, [.null, .null, .null, .null, .null, .null, .null]))) : sp mX9_init [.ref o] h 59 2148 (fun v h' => v = none ∧ CL0 o h h') := by
  obtain ⟨n, f⟩ := h
  have hn : n = o + 1 := h1
  subst hn
  replace h2 : f o = some (.inr (8, [.null, .null, .null, .null, .null, .null, .null])) := h2
  have c2 := c2_init (a := o + 1) (s := o + 2) (n0 := o + 3) (h := (o + 3, up (up f (o + 1) (.inr (2, [.int 0, .int 0, .int 0, .int 0, .int 0, .int 0, .int 0, .null, .null, .null, .null, .null, .int 0, .long 0, .null]))) (o + 2) (aI 32 (fun _ => 0)))) (f7 := fun _ => 0) (B := B0) (L := 1) (R := 1) (C := 2) rfl (by omega) (by omega) (by omega) ((up_n (by omega)).trans up_s) up_s B0_vc ⟨by decide, by decide⟩ ⟨by decide, by decide⟩ (fun i hi k hk => by rw [B0_z (by omega)]; exact ⟨rfl, by decide⟩)
  rw [show B0 6 = 1 from rfl, show B0 7 = 15 from rfl] at c2
  refine sp_wp rfl (lv := [_, _]) rfl (Nat.le_of_ble_eq_true rfl) ?_
  refine w_aload_n dX9_init_0 rfl rfl ?_
  refine w_oinit lX9_1 imO cdO rfl (Nat.le_of_ble_eq_true rfl) (Nat.le_of_ble_eq_true rfl) dX9_init_1 ?_
  refine w_new nX9_7 (by decide) (by decide) dX9_init_4 ?_
  refine w_dup dX9_init_7 rfl ?_
  refine w_iconst dX9_init_8 ?_
  refine w_iconst dX9_init_9 ?_
  refine w_iconst dX9_init_10 ?_
  refine w_iconst dX9_init_11 ?_
  refine w_bipush dX9_init_12 (by decide) ?_
  refine w_bipush dX9_init_14 (by decide) ?_
  refine w_newI 32 rfl (by decide) acI (by decide) (by decide) dX9_init_16 ?_
  refine w_callI (Z := mX2_init) (As := [_, _, _, _, _, _]) c2 kX2_init rfl lX9_11 iX2_init rfl dX9_init_18 rfl rfl rfl (Nat.le_of_ble_eq_true rfl) ⟨Nat.le_of_ble_eq_true rfl, Nat.le_of_ble_eq_true rfl⟩ (by decide) (by decide) (fun v1 g1 q => ?_)
  obtain ⟨rfl, e1, k1, k2, k3, k4⟩ := q
  obtain ⟨n1, f1⟩ := g1
  replace e1 : n1 = o + 8 := e1
  subst e1
  have o1 : f1 o = some (.inr (8, [.null, .null, .null, .null, .null, .null, .null])) := (k4 o (by omega) (by omega)).trans ((up_n (by omega)).trans ((up_n (by omega)).trans h2))
  have l1 : ∀ x, x < o → f1 x = f x := fun x hx => (k4 x (by omega) (by omega)).trans ((up_n (by omega)).trans (up_n (by omega)))
  refine w_astore_n (lv' := [_, _]) dX9_init_21 rfl (Nat.le_of_ble_eq_true rfl) rfl rfl ?_
  refine w_aload_n dX9_init_22 rfl rfl ?_
  refine w_new nX9_14 (by decide) (by decide) dX9_init_23 ?_
  refine w_dup dX9_init_26 rfl ?_
  refine w_aload_n dX9_init_27 rfl rfl ?_
  refine w_callI (Z := mX5_init) (As := [_]) (c5_init (a := o + 8) (c := o + 1) (h := (o + 8 + 1, up f1 (o + 8) (.inr (4, [.null, .null, .null, .int 0])))) (B := B0) (L := 1) (R := 1) (C := 2) rfl up_s (k1.mono (fun x hx => show x < o + 8 by omega) (fun x hx => up_n (by omega))) (fun k => by have := B0_ok k; unfold ok32; omega) rfl) kX5_init rfl lX9_16 iX5_init rfl dX9_init_28 rfl rfl rfl (Nat.le_of_ble_eq_true rfl) ⟨Nat.le_of_ble_eq_true rfl, Nat.le_of_ble_eq_true rfl⟩ (by decide) (by decide) (fun v2 g2 q2 => ?_)
  obtain ⟨rfl, r2⟩ := q2
  obtain ⟨n2, h2'⟩ := g2
  obtain ⟨e2, F2⟩ := id r2.1
  replace e2 : n2 = o + 20 := e2
  subst e2
  replace F2 : ∀ x, ¬ (o + 8 ≤ x ∧ x < o + 8 + 12) → h2' x = up f1 (o + 8) (.inr (4, [.null, .null, .null, .int 0])) x := F2
  have G2 : ∀ x, x < o + 8 → h2' x = f1 x := fun x hx => (F2 x (by omega)).trans (up_n (by omega))
  refine w_putfF (k := 0) (fs := [.null, .null, .null, .null, .null, .null, .null]) fX9_19 rfl rfl dX9_init_31 ((G2 o (by omega)).trans o1) (Nat.le_of_ble_eq_true rfl) rfl rfl ?_
  obtain ⟨f2, hf2⟩ : ∃ f2 : Nat → Option CE, up h2' o (.inr (8, [.ref (o + 8), .null, .null, .null, .null, .null, .null])) = f2 := ⟨_, rfl⟩
  have o2 : f2 o = some (.inr (8, [.ref (o + 8), .null, .null, .null, .null, .null, .null])) := by rw [← hf2]; exact up_s
  have m2 : ∀ x, x ≠ o → f2 x = h2' x := fun x hx => by rw [← hf2]; exact up_n hx
  have K2 : ∀ x, x ≠ o → x < o + 8 → f2 x = f1 x := fun x h3 h4 => (m2 x h3).trans (G2 x h4)
  refine w_cast (h' := (o + 20, f2)) rfl rfl (by rw [← hf2]; rfl) ?_
  refine w_aload_n dX9_init_34 rfl rfl ?_
  refine w_new nX9_14 (by decide) (by decide) dX9_init_35 ?_
  refine w_dup dX9_init_38 rfl ?_
  refine w_aload_n dX9_init_39 rfl rfl ?_
  refine w_callI (Z := mX5_init) (As := [_]) (c5_init (a := o + 20) (c := o + 1) (h := (o + 20 + 1, up f2 (o + 20) (.inr (4, [.null, .null, .null, .int 0])))) (B := B0) (L := 1) (R := 1) (C := 2) rfl up_s (k1.mono (fun x hx => show x < o + 20 by omega) (fun x hx => (up_n (by omega)).trans (K2 x (by omega) (by omega)))) (fun k => by have := B0_ok k; unfold ok32; omega) rfl) kX5_init rfl lX9_16 iX5_init rfl dX9_init_40 rfl rfl rfl (Nat.le_of_ble_eq_true rfl) ⟨Nat.le_of_ble_eq_true rfl, Nat.le_of_ble_eq_true rfl⟩ (by decide) (by decide) (fun v3 g3 q3 => ?_)
  obtain ⟨rfl, r3⟩ := q3
  obtain ⟨n3, h3'⟩ := g3
  obtain ⟨e3, F3⟩ := id r3.1
  replace e3 : n3 = o + 32 := e3
  subst e3
  replace F3 : ∀ x, ¬ (o + 20 ≤ x ∧ x < o + 20 + 12) → h3' x = up f2 (o + 20) (.inr (4, [.null, .null, .null, .int 0])) x := F3
  have G3 : ∀ x, x < o + 20 → h3' x = f2 x := fun x hx => (F3 x (by omega)).trans (up_n (by omega))
  refine w_putfF (k := 1) (fs := [.ref (o + 8), .null, .null, .null, .null, .null, .null]) fX9_23 rfl rfl dX9_init_43 ((G3 o (by omega)).trans o2) (Nat.le_of_ble_eq_true rfl) rfl rfl ?_
  obtain ⟨f3, hf3⟩ : ∃ f3 : Nat → Option CE, up h3' o (.inr (8, [.ref (o + 8), .ref (o + 20), .null, .null, .null, .null, .null])) = f3 := ⟨_, rfl⟩
  have o3 : f3 o = some (.inr (8, [.ref (o + 8), .ref (o + 20), .null, .null, .null, .null, .null])) := by rw [← hf3]; exact up_s
  have m3 : ∀ x, x ≠ o → f3 x = h3' x := fun x hx => by rw [← hf3]; exact up_n hx
  have K3 : ∀ x, x ≠ o → x < o + 20 → f3 x = f2 x := fun x h3 h4 => (m3 x h3).trans (G3 x h4)
  refine w_cast (h' := (o + 32, f3)) rfl rfl (by rw [← hf3]; rfl) ?_
  refine w_aload_n dX9_init_46 rfl rfl ?_
  refine w_new nX9_26 (by decide) (by decide) dX9_init_47 ?_
  refine w_dup dX9_init_50 rfl ?_
  refine w_callIN (Z := mX7_init) (As := []) (c7_init (a := o + 32) (h := (o + 32 + 1, up f3 (o + 32) (.inr (6, [.null, .int 0, .int 0, .int 0, .int 0, .int 0, .int 0, .int 0, .int 0, .int 0, .int 0, .int 0, .int 0, .null])))) rfl up_s) kX7_init rfl lX9_28 iX7_init rfl dX9_init_51 rfl rfl rfl (Nat.le_of_ble_eq_true rfl) ⟨Nat.le_of_ble_eq_true rfl, Nat.le_of_ble_eq_true rfl⟩ (by decide) (by decide) (fun v4 g4 q4 => ?_)
  obtain ⟨rfl, ⟨e4, F4⟩, r4⟩ := q4
  obtain ⟨n4, h4'⟩ := g4
  replace e4 : n4 = o + 35 := e4
  subst e4
  replace F4 : ∀ x, ¬ (o + 32 ≤ x ∧ x < o + 32 + 3) → h4' x = up f3 (o + 32) (.inr (6, [.null, .int 0, .int 0, .int 0, .int 0, .int 0, .int 0, .int 0, .int 0, .int 0, .int 0, .int 0, .int 0, .null])) x := F4
  have G4 : ∀ x, x < o + 32 → h4' x = f3 x := fun x hx => (F4 x (by omega)).trans (up_n (by omega))
  refine w_putfF (k := 2) (fs := [.ref (o + 8), .ref (o + 20), .null, .null, .null, .null, .null]) fX9_29 rfl rfl dX9_init_54 ((G4 o (by omega)).trans o3) (Nat.le_of_ble_eq_true rfl) rfl rfl ?_
  obtain ⟨f4, hf4⟩ : ∃ f4 : Nat → Option CE, up h4' o (.inr (8, [.ref (o + 8), .ref (o + 20), .ref (o + 32), .null, .null, .null, .null])) = f4 := ⟨_, rfl⟩
  have o4 : f4 o = some (.inr (8, [.ref (o + 8), .ref (o + 20), .ref (o + 32), .null, .null, .null, .null])) := by rw [← hf4]; exact up_s
  have m4 : ∀ x, x ≠ o → f4 x = h4' x := fun x hx => by rw [← hf4]; exact up_n hx
  have K4 : ∀ x, x ≠ o → x < o + 32 → f4 x = f3 x := fun x h3 h4 => (m4 x h3).trans (G4 x h4)
  refine w_cast (h' := (o + 35, f4)) rfl rfl (by rw [← hf4]; rfl) ?_
  refine w_aload_n dX9_init_57 rfl rfl ?_
  refine w_new nX9_33 (by decide) (by decide) dX9_init_58 ?_
  refine w_dup dX9_init_61 rfl ?_
  refine w_aload_n dX9_init_62 rfl rfl ?_
  refine w_callI (Z := mX8_init) (As := [_]) (c8_init (a := o + 35) (c := o + 1) (h := (o + 35 + 1, up f4 (o + 35) (.inr (7, [.null, .long 0, .int 0, .int 0, .int 0, .int 0, .int 0, .int 0, .long 0, .int 0, .null, .null, .null, .null, .null, .null, .null])))) rfl up_s) kX8_init rfl lX9_35 iX8_init rfl dX9_init_63 rfl rfl rfl (Nat.le_of_ble_eq_true rfl) ⟨Nat.le_of_ble_eq_true rfl, Nat.le_of_ble_eq_true rfl⟩ (by decide) (by decide) (fun v5 g5 q5 => ?_)
  obtain ⟨rfl, rfl⟩ := q5
  obtain ⟨h5', hh5⟩ : ∃ h5' : Nat → Option CE, (SH (o + 35) (o + 1) (fun _ _ => 0) (u1 (fun _ => 0) 2 613) (fun _ => 0#64) (o + 35 + 8, up f4 (o + 35) (.inr (7, [.null, .long 0, .int 0, .int 0, .int 0, .int 0, .int 0, .int 0, .long 0, .int 0, .null, .null, .null, .null, .null, .null, .null])))).2 = h5' := ⟨_, rfl⟩
  have F5 : ∀ x, ¬ (o + 35 ≤ x ∧ x < o + 35 + 8) → h5' x = up f4 (o + 35) (.inr (7, [.null, .long 0, .int 0, .int 0, .int 0, .int 0, .int 0, .int 0, .long 0, .int 0, .null, .null, .null, .null, .null, .null, .null])) x := fun x hx => by rw [← hh5]; exact SHn (by unfold outS; omega)
  have r5 : ∀ j, j ≤ 7 → h5' (o + 35 + j) = some (scell (o + 35) (o + 1) (fun _ _ => 0) (u1 (fun _ => 0) 2 613) (fun _ => 0#64) j) := fun j hj => by rw [← hh5]; exact SHg hj
  refine w_cast (h' := (o + 43, h5')) rfl rfl (by rw [← hh5]; rfl) ?_
  have G5 : ∀ x, x < o + 35 → h5' x = f4 x := fun x hx => (F5 x (by omega)).trans (up_n (by omega))
  refine w_putfF (k := 3) (fs := [.ref (o + 8), .ref (o + 20), .ref (o + 32), .null, .null, .null, .null]) fX9_36 rfl rfl dX9_init_66 ((G5 o (by omega)).trans o4) (Nat.le_of_ble_eq_true rfl) rfl rfl ?_
  obtain ⟨f5, hf5⟩ : ∃ f5 : Nat → Option CE, up h5' o (.inr (8, [.ref (o + 8), .ref (o + 20), .ref (o + 32), .ref (o + 35), .null, .null, .null])) = f5 := ⟨_, rfl⟩
  have o5 : f5 o = some (.inr (8, [.ref (o + 8), .ref (o + 20), .ref (o + 32), .ref (o + 35), .null, .null, .null])) := by rw [← hf5]; exact up_s
  have m5 : ∀ x, x ≠ o → f5 x = h5' x := fun x hx => by rw [← hf5]; exact up_n hx
  have K5 : ∀ x, x ≠ o → x < o + 35 → f5 x = f4 x := fun x h3 h4 => (m5 x h3).trans (G5 x h4)
  refine w_cast (h' := (o + 43, f5)) rfl rfl (by rw [← hf5]; rfl) ?_
  refine w_aload_n dX9_init_69 rfl rfl ?_
  refine w_new nX9_40 (by decide) (by decide) dX9_init_70 ?_
  refine w_dup dX9_init_73 rfl ?_
  refine w_aload_n dX9_init_74 rfl rfl ?_
  refine w_callI (Z := mX1_init) (As := [_]) (c1_init (a := o + 43) (c := o + 1) (h := (o + 43 + 1, up f5 (o + 43) (.inr (1, [.null, .null, .null, .null, .null, .null, .null, .int 0, .int 0])))) rfl up_s) kX1_init rfl lX9_42 iX1_init rfl dX9_init_75 rfl rfl rfl (Nat.le_of_ble_eq_true rfl) ⟨Nat.le_of_ble_eq_true rfl, Nat.le_of_ble_eq_true rfl⟩ (by decide) (by decide) (fun v6 g6 q6 => ?_)
  obtain ⟨rfl, ⟨e6, F6⟩, r6⟩ := q6
  obtain ⟨n6, h6'⟩ := g6
  replace e6 : n6 = o + 55 := e6
  subst e6
  replace F6 : ∀ x, ¬ (o + 43 ≤ x ∧ x < o + 43 + 12) → h6' x = up f5 (o + 43) (.inr (1, [.null, .null, .null, .null, .null, .null, .null, .int 0, .int 0])) x := F6
  have G6 : ∀ x, x < o + 43 → h6' x = f5 x := fun x hx => (F6 x (by omega)).trans (up_n (by omega))
  refine w_putfF (k := 4) (fs := [.ref (o + 8), .ref (o + 20), .ref (o + 32), .ref (o + 35), .null, .null, .null]) fX9_43 rfl rfl dX9_init_78 ((G6 o (by omega)).trans o5) (Nat.le_of_ble_eq_true rfl) rfl rfl ?_
  obtain ⟨f6, hf6⟩ : ∃ f6 : Nat → Option CE, up h6' o (.inr (8, [.ref (o + 8), .ref (o + 20), .ref (o + 32), .ref (o + 35), .ref (o + 43), .null, .null])) = f6 := ⟨_, rfl⟩
  have o6 : f6 o = some (.inr (8, [.ref (o + 8), .ref (o + 20), .ref (o + 32), .ref (o + 35), .ref (o + 43), .null, .null])) := by rw [← hf6]; exact up_s
  have m6 : ∀ x, x ≠ o → f6 x = h6' x := fun x hx => by rw [← hf6]; exact up_n hx
  have K6 : ∀ x, x ≠ o → x < o + 43 → f6 x = f5 x := fun x h3 h4 => (m6 x h3).trans (G6 x h4)
  refine w_cast (h' := (o + 55, f6)) rfl rfl (by rw [← hf6]; rfl) ?_
  refine w_aload_n dX9_init_81 rfl rfl ?_
  refine w_new nX9_47 (by decide) (by decide) dX9_init_82 ?_
  refine w_dup dX9_init_85 rfl ?_
  refine w_callIN (Z := mX0_init) (As := []) (c0_init (a := o + 55) (h := (o + 55 + 1, up f6 (o + 55) (.inr (0, [.null, .int 0, .int 0, .long 0])))) rfl up_s) kX0_init rfl lX9_49 iX0_init rfl dX9_init_86 rfl rfl rfl (Nat.le_of_ble_eq_true rfl) ⟨Nat.le_of_ble_eq_true rfl, Nat.le_of_ble_eq_true rfl⟩ (by decide) (by decide) (fun v7 g7 q7 => ?_)
  obtain ⟨rfl, ⟨e7, F7⟩, r7⟩ := q7
  obtain ⟨n7, h7'⟩ := g7
  replace e7 : n7 = o + 57 := e7
  subst e7
  replace F7 : ∀ x, ¬ (o + 55 ≤ x ∧ x < o + 55 + 2) → h7' x = up f6 (o + 55) (.inr (0, [.null, .int 0, .int 0, .long 0])) x := F7
  have G7 : ∀ x, x < o + 55 → h7' x = f6 x := fun x hx => (F7 x (by omega)).trans (up_n (by omega))
  refine w_putfF (k := 5) (fs := [.ref (o + 8), .ref (o + 20), .ref (o + 32), .ref (o + 35), .ref (o + 43), .null, .null]) fX9_50 rfl rfl dX9_init_89 ((G7 o (by omega)).trans o6) (Nat.le_of_ble_eq_true rfl) rfl rfl ?_
  obtain ⟨f7, hf7⟩ : ∃ f7 : Nat → Option CE, up h7' o (.inr (8, [.ref (o + 8), .ref (o + 20), .ref (o + 32), .ref (o + 35), .ref (o + 43), .ref (o + 55), .null])) = f7 := ⟨_, rfl⟩
  have o7 : f7 o = some (.inr (8, [.ref (o + 8), .ref (o + 20), .ref (o + 32), .ref (o + 35), .ref (o + 43), .ref (o + 55), .null])) := by rw [← hf7]; exact up_s
  have m7 : ∀ x, x ≠ o → f7 x = h7' x := fun x hx => by rw [← hf7]; exact up_n hx
  have K7 : ∀ x, x ≠ o → x < o + 55 → f7 x = f6 x := fun x h3 h4 => (m7 x h3).trans (G7 x h4)
  refine w_cast (h' := (o + 57, f7)) rfl rfl (by rw [← hf7]; rfl) ?_
  refine w_aload_n dX9_init_92 rfl rfl ?_
  refine w_new nX9_54 (by decide) (by decide) dX9_init_93 ?_
  refine w_dup dX9_init_96 rfl ?_
  refine w_callIN (Z := mX3_init) (As := []) (c3_init (a := o + 57) (h := (o + 57 + 1, up f7 (o + 57) (.inr (3, [.null, .null, .int 0, .int 0, .int 0])))) rfl up_s) kX3_init rfl lX9_56 iX3_init rfl dX9_init_97 rfl rfl rfl (Nat.le_of_ble_eq_true rfl) ⟨Nat.le_of_ble_eq_true rfl, Nat.le_of_ble_eq_true rfl⟩ (by decide) (by decide) (fun v8 g8 q8 => ?_)
  obtain ⟨rfl, ⟨e8, F8⟩, r8⟩ := q8
  obtain ⟨n8, h8'⟩ := g8
  replace e8 : n8 = o + 60 := e8
  subst e8
  replace F8 : ∀ x, ¬ (o + 57 ≤ x ∧ x < o + 57 + 3) → h8' x = up f7 (o + 57) (.inr (3, [.null, .null, .int 0, .int 0, .int 0])) x := F8
  have G8 : ∀ x, x < o + 57 → h8' x = f7 x := fun x hx => (F8 x (by omega)).trans (up_n (by omega))
  refine w_putfF (k := 6) (fs := [.ref (o + 8), .ref (o + 20), .ref (o + 32), .ref (o + 35), .ref (o + 43), .ref (o + 55), .null]) fX9_57 rfl rfl dX9_init_100 ((G8 o (by omega)).trans o7) (Nat.le_of_ble_eq_true rfl) rfl rfl ?_
  obtain ⟨f8, hf8⟩ : ∃ f8 : Nat → Option CE, up h8' o (.inr (8, [.ref (o + 8), .ref (o + 20), .ref (o + 32), .ref (o + 35), .ref (o + 43), .ref (o + 55), .ref (o + 57)])) = f8 := ⟨_, rfl⟩
  have o8 : f8 o = some (.inr (8, [.ref (o + 8), .ref (o + 20), .ref (o + 32), .ref (o + 35), .ref (o + 43), .ref (o + 55), .ref (o + 57)])) := by rw [← hf8]; exact up_s
  have m8 : ∀ x, x ≠ o → f8 x = h8' x := fun x hx => by rw [← hf8]; exact up_n hx
  have K8 : ∀ x, x ≠ o → x < o + 57 → f8 x = f7 x := fun x h3 h4 => (m8 x h3).trans (G8 x h4)
  refine w_cast (h' := (o + 60, f8)) rfl rfl (by rw [← hf8]; rfl) ?_
  have T8 : ∀ x, x ≠ o → x < o + 60 → f8 x = f8 x := fun _ _ _ => rfl
  have T7 : ∀ x, x ≠ o → x < o + 57 → f8 x = f7 x := fun x h3 h4 => (T8 x h3 (by omega)).trans (K8 x h3 h4)
  have T6 : ∀ x, x ≠ o → x < o + 55 → f8 x = f6 x := fun x h3 h4 => (T7 x h3 (by omega)).trans (K7 x h3 h4)
  have T5 : ∀ x, x ≠ o → x < o + 43 → f8 x = f5 x := fun x h3 h4 => (T6 x h3 (by omega)).trans (K6 x h3 h4)
  have T4 : ∀ x, x ≠ o → x < o + 35 → f8 x = f4 x := fun x h3 h4 => (T5 x h3 (by omega)).trans (K5 x h3 h4)
  have T3 : ∀ x, x ≠ o → x < o + 32 → f8 x = f3 x := fun x h3 h4 => (T4 x h3 (by omega)).trans (K4 x h3 h4)
  have T2 : ∀ x, x ≠ o → x < o + 20 → f8 x = f2 x := fun x h3 h4 => (T3 x h3 (by omega)).trans (K3 x h3 h4)
  have T1 : ∀ x, x ≠ o → x < o + 8 → f8 x = f1 x := fun x h3 h4 => (T2 x h3 (by omega)).trans (K2 x h3 h4)
  refine x_vret rfl dX9_init_103 ⟨rfl, rfl, fun x hx => ?_, o8, ?_, ?_, ?_, ?_, ?_, ?_, ?_, ?_, ?_, ?_⟩
  · show f8 x = f x
    rw [T1 x (by omega) (by omega)]
    exact l1 x hx
  · exact k1.mono (fun x hx => by omega) (fun x hx => T1 x (by omega) (by omega))
  · obtain ⟨fs, u1, u2⟩ := k2
    exact ⟨fs, (T1 _ (by omega) (by omega)).trans u1, u2⟩
  · obtain ⟨T, u1, u2⟩ := k3
    exact ⟨T, (T1 _ (by omega) (by omega)).trans u1, u2⟩
  · exact r2.tr (fun x h3 h4 => (T2 x (by omega) (by omega)).trans (m2 x (by omega)))
  · exact r3.tr (fun x h3 h4 => (T3 x (by omega) (by omega)).trans (m3 x (by omega)))
  · exact fun j hj => ((T4 _ (by omega) (by omega)).trans (m4 _ (by omega))).trans (r4 j hj)
  · exact ⟨_, _, _, fun j hj => ((T5 _ (by omega) (by omega)).trans (m5 _ (by omega))).trans (r5 j hj)⟩
  · obtain ⟨u1, u2, u3, u4⟩ := r6
    exact ⟨fun j hj => ((T6 _ (by omega) (by omega)).trans (m6 _ (by omega))).trans (u1 j hj), ((T6 _ (by omega) (by omega)).trans (m6 _ (by omega))).trans u2, ((T6 _ (by omega) (by omega)).trans (m6 _ (by omega))).trans u3, fun K hK => ((T6 _ (by omega) (by omega)).trans (m6 _ (by omega))).trans (u4 K hK)⟩
  · exact fun j hj => ((T7 _ (by omega) (by omega)).trans (m7 _ (by omega))).trans (r7 j hj)
  · exact fun j hj => (m8 _ (by omega)).trans (r8 j hj)
