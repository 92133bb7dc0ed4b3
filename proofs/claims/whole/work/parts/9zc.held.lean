/-! what the constructors lay out: what is held -/
def HL0 (a c : Nat) (h h' : HP) (B : Nat → Int) (L R C : Nat) : Prop := FRS a 12 h h' ∧ h'.2 a = some (.inr (4, hfs a 0)) ∧ h'.2 (a + 1) = some (.inr (5, pfs (a + 1) 0 0)) ∧ h'.2 (a + 2) = some (aR 3 20 (fun _ => none)) ∧ h'.2 (a + 3) = some (aR 2 4 (fun _ => none)) ∧ ∃ (sa : Nat → Nat → Int) (si : Nat → Int) (sl : Nat → BitVec 64), SCP h' (a + 4) c sa si sl ∧ REL sa si sl (cmA B L R C) L R C
set_option maxRecDepth 4000 in
theorem c5_init {a c : Nat} {h : HP} {B : Nat → Int} {L R C : Nat} (h1 : h.1 = a + 1) (h2 : h.2 a = some (.inr (4, [.null, .null, .null, .int 0]))) (hC : CDQ (fun x => x < a) h c B L R C) (hA : ∀ k, ok32 (B k)) (hx : B 12 = 613) : sp mX5_init [.ref a, .ref c] h 11 440 (fun v h' => v = none ∧ HL0 a c h h' B L R C) := by
  obtain ⟨n, f⟩ := h
  have hn : n = a + 1 := h1
  subst hn
  replace h2 : f a = some (.inr (4, [.null, .null, .null, .int 0])) := h2
  refine sp_wp rfl (lv := [_, _]) rfl (Nat.le_of_ble_eq_true rfl) ?_
  refine w_aload_n dX5_init_0 rfl rfl ?_
  refine w_oinit lX5_3 imO cdO rfl (Nat.le_of_ble_eq_true rfl) (Nat.le_of_ble_eq_true rfl) dX5_init_1 ?_
  refine w_aload_n dX5_init_4 rfl rfl ?_
  refine w_new nX5_9 (by decide) (by decide) dX5_init_5 ?_
  refine w_dup dX5_init_8 rfl ?_
  refine w_callIN (Z := mX6_init) (As := []) (c6_init (a := a + 1) rfl up_s) kX6_init rfl lX5_11 iX6_init rfl dX5_init_9 rfl rfl rfl (Nat.le_of_ble_eq_true rfl) ⟨Nat.le_of_ble_eq_true rfl, Nat.le_of_ble_eq_true rfl⟩ (by decide) (by decide) (fun v1 g1 q => ?_)
  obtain ⟨rfl, ⟨e1, F1⟩, p1, p2⟩ := q
  obtain ⟨n1, f1⟩ := g1
  replace e1 : n1 = a + 3 := e1
  subst e1
  replace F1 : ∀ x, ¬ (a + 1 ≤ x ∧ x < a + 1 + 2) → f1 x = up f (a + 1) (.inr (5, [.null, .int 0, .int 0])) x := F1
  have G1 : ∀ x, x < a + 1 → f1 x = f x := fun x hx => (F1 x (by omega)).trans (up_n (by omega))
  replace p1 : f1 (a + 1) = some (.inr (5, pfs (a + 1) 0 0)) := p1
  replace p2 : f1 (a + 2) = some (aR 3 20 (fun _ => none)) := p2
  refine w_putfF (k := 1) (fs := [.null, .null, .null, .int 0]) fX5_12 rfl rfl dX5_init_12 ((G1 a (by omega)).trans h2) (Nat.le_of_ble_eq_true rfl) rfl rfl ?_
  refine w_aload_n dX5_init_15 rfl rfl ?_
  refine w_iconst dX5_init_16 ?_
  refine w_anew2 4 rfl (by decide) tX5_18 aoC (by decide) (by decide) dX5_init_17 ?_
  refine w_putfF (k := 2) (fs := [.null, .ref (a + 1), .null, .int 0]) fX5_20 rfl rfl dX5_init_20 ((up_n (show a ≠ a + 3 by omega)).trans up_s) (Nat.le_of_ble_eq_true rfl) rfl rfl ?_
  refine w_aload_n dX5_init_23 rfl rfl ?_
  refine w_new nX5_24 (by decide) (by decide) dX5_init_24 ?_
  obtain ⟨g2, hg2⟩ : ∃ g2 : Nat → Option CE, up (up (up f1 a (.inr (4, [.null, .ref (a + 1), .null, .int 0]))) (a + 3) (aR 2 4 (fun _ => none))) a (.inr (4, [.null, .ref (a + 1), .ref (a + 3), .int 0])) = g2 := ⟨_, rfl⟩
  have ga : g2 a = some (.inr (4, [.null, .ref (a + 1), .ref (a + 3), .int 0])) := by rw [← hg2]; exact up_s
  have g3 : g2 (a + 3) = some (aR 2 4 (fun _ => none)) := by rw [← hg2, up_n (by omega)]; exact up_s
  have gn : ∀ x, x ≠ a → x ≠ a + 3 → g2 x = f1 x := fun x h3 h4 => by rw [← hg2, up_n h3, up_n h4, up_n h3]
  refine w_cast (h' := (a + 4 + 1, up g2 (a + 4) (.inr (7, [.null, .long 0, .int 0, .int 0, .int 0, .int 0, .int 0, .int 0, .long 0, .int 0, .null, .null, .null, .null, .null, .null, .null])))) rfl rfl (by rw [← hg2]; rfl) ?_
  refine w_dup dX5_init_27 rfl ?_
  refine w_aload_n dX5_init_28 rfl rfl ?_
  refine w_callI (Z := mX8_init) (As := [_]) (c8_init (a := a + 4) (c := c) rfl up_s) kX8_init rfl lX5_26 iX8_init rfl dX5_init_29 rfl rfl rfl (Nat.le_of_ble_eq_true rfl) ⟨Nat.le_of_ble_eq_true rfl, Nat.le_of_ble_eq_true rfl⟩ (by decide) (by decide) (fun v2 g4 q => ?_)
  obtain ⟨rfl, rfl⟩ := q
  have hsa : ∀ x, outS (a + 4) x → (SH (a + 4) c (fun _ _ => 0) (u1 (fun _ => 0) 2 613) (fun _ => 0#64) (a + 4 + 8, up g2 (a + 4) (.inr (7, [.null, .long 0, .int 0, .int 0, .int 0, .int 0, .int 0, .int 0, .long 0, .int 0, .null, .null, .null, .null, .null, .null, .null])))).2 x = g2 x := fun x hx => (SHn hx).trans (up_n (fun e => hx (by omega)))
  refine w_putfF (k := 0) (fs := [.null, .ref (a + 1), .ref (a + 3), .int 0]) fX5_29 rfl rfl dX5_init_32 ((hsa a (by unfold outS; omega)).trans ga) (Nat.le_of_ble_eq_true rfl) rfl rfl ?_
  obtain ⟨g5, hg5⟩ : ∃ g5 : HP, (((a + 4 + 8 : Nat), up (SH (a + 4) c (fun _ _ => 0) (u1 (fun _ => 0) 2 613) (fun _ => 0#64) (a + 4 + 8, up g2 (a + 4) (.inr (7, [.null, .long 0, .int 0, .int 0, .int 0, .int 0, .int 0, .int 0, .long 0, .int 0, .null, .null, .null, .null, .null, .null, .null])))).2 a (.inr (4, [.ref (a + 4), .ref (a + 1), .ref (a + 3), .int 0]))) : HP) = g5 := ⟨_, rfl⟩
  have s5 : SCP g5 (a + 4) c (fun _ _ => 0) (u1 (fun _ => 0) 2 613) (fun _ => 0#64) := fun j hj => by
    rw [← hg5]
    exact (up_n (by omega)).trans (SHg hj)
  have a5 : g5.2 a = some (.inr (4, [.ref (a + 4), .ref (a + 1), .ref (a + 3), .int 0])) := by rw [← hg5]; exact up_s
  have n5 : ∀ x, x ≠ a → outS (a + 4) x → g5.2 x = g2 x := fun x h3 h4 => by
    rw [← hg5]
    exact (up_n h3).trans (hsa x h4)
  have z5 : g5.1 = a + 12 := by rw [← hg5]
  refine w_cast (h' := g5) rfl rfl hg5 ?_
  have low : ∀ x, x < a → g5.2 x = f x := fun x hx => (n5 x (by omega) (by unfold outS; omega)).trans ((gn x (by omega) (by omega)).trans (G1 x (by omega)))
  refine w_aload_n dX5_init_35 rfl rfl ?_
  refine w_getf fX5_29 dX5_init_36 a5 rfl ?_
  refine w_aload_n dX5_init_39 rfl rfl ?_
  refine w_cast (h' := SH (a + 4) c (fun _ _ => 0) (u1 (fun _ => 0) 2 613) (fun _ => 0#64) g5) rfl rfl (SCP.self s5).symm ?_
  refine wx_Vv (Z := mX8_come) (As := [_]) (c8_come (hC.mono (fun x hx => by unfold outS; omega) (fun x hx => low x hx)) hA (by rw [hx]; rfl)) SC0 rfl kX8_come lX5_33 iX8_come vX8_come dX5_init_40 rfl rfl rfl (Nat.le_of_ble_eq_true rfl) ⟨Nat.le_of_ble_eq_true rfl, Nat.le_of_ble_eq_true rfl⟩ (fun q hq => ?_)
  refine x_vret rfl dX5_init_43 ⟨rfl, ⟨z5, fun x hx => ?_⟩, ?_, ?_, ?_, ?_, q.1, q.2.1, q.2.2, SCP.sh, hq⟩
  · rw [SHn (by unfold outS; omega), n5 x (by omega) (by unfold outS; omega), gn x (by omega) (by omega), F1 x (by omega)]
    exact up_n (by omega)
  · rw [SHn (by unfold outS; omega)]; exact a5
  · rw [SHn (by unfold outS; omega), n5 _ (by omega) (by unfold outS; omega), gn _ (by omega) (by omega)]; exact p1
  · rw [SHn (by unfold outS; omega), n5 _ (by omega) (by unfold outS; omega), gn _ (by omega) (by omega)]; exact p2
  · rw [SHn (by unfold outS; omega), n5 _ (by omega) (by unfold outS; omega)]; exact g3
