/-! an object that is being made, and the arrays made with it -/
/-- the object at a, n new cells from n0 on, all else as in h0 -/
def NB (a ci : Nat) (fs : List Value) (n0 : Nat) (ar : Nat → CE) (n : Nat) (h0 : HP) : HP := (n0 + n, fun x => if x = a then some (.inr (ci, fs)) else if n0 ≤ x ∧ x < n0 + n then some (ar (x - n0)) else h0.2 x)
theorem NB_0 {a ci : Nat} {fs : List Value} {n0 : Nat} {ar : Nat → CE} {h0 : HP} (h1 : h0.1 = n0) (h2 : h0.2 a = some (.inr (ci, fs))) : NB a ci fs n0 ar 0 h0 = h0 := by
  refine Prod.ext h1.symm (funext fun x => ?_)
  show (if x = a then some (.inr (ci, fs)) else if n0 ≤ x ∧ x < n0 + 0 then some (ar (x - n0)) else h0.2 x) = h0.2 x
  by_cases hx : x = a
  · rw [if_pos hx, hx, h2]
  · rw [if_neg hx, if_neg (by omega)]
theorem NB_o {a ci : Nat} {fs : List Value} {n0 : Nat} {ar : Nat → CE} {n : Nat} {h0 : HP} : (NB a ci fs n0 ar n h0).2 a = some (.inr (ci, fs)) := if_pos rfl
theorem NB_c {a ci : Nat} {fs : List Value} {n0 : Nat} {ar : Nat → CE} {n : Nat} {h0 : HP} (j : Nat) (ha : a < n0) (hj : j < n) : (NB a ci fs n0 ar n h0).2 (n0 + j) = some (ar j) := by
  show (if _ then _ else if _ then _ else _) = _
  rw [if_neg (by omega), if_pos ⟨by omega, by omega⟩, Nat.add_sub_cancel_left]
theorem NB_n {a ci : Nat} {fs : List Value} {n0 : Nat} {ar : Nat → CE} {n : Nat} {h0 : HP} {x : Nat} (h1 : x ≠ a) (h2 : ¬ (n0 ≤ x ∧ x < n0 + n)) : (NB a ci fs n0 ar n h0).2 x = h0.2 x := by
  show (if _ then _ else if _ then _ else _) = _
  rw [if_neg h1, if_neg h2]
theorem NB_uo {a ci : Nat} {fs : List Value} {n0 : Nat} {ar : Nat → CE} {n : Nat} {h0 : HP} {gs : List Value} : (((NB a ci fs n0 ar n h0).1, up (NB a ci fs n0 ar n h0).2 a (.inr (ci, gs))) : HP) = NB a ci gs n0 ar n h0 := by
  refine Prod.ext rfl (funext fun x => ?_)
  show (if x = a then _ else if x = a then _ else _) = (if x = a then _ else _)
  by_cases hx : x = a
  · rw [if_pos hx, if_pos hx]
  · rw [if_neg hx, if_neg hx, if_neg hx]
theorem NB_uc {a ci : Nat} {fs : List Value} {n0 : Nat} {ar : Nat → CE} {n : Nat} {h0 : HP} {j : Nat} {e : CE} (ha : a < n0) (hj : j < n) : (((NB a ci fs n0 ar n h0).1, up (NB a ci fs n0 ar n h0).2 (n0 + j) e) : HP) = NB a ci fs n0 (u1 ar j e) n h0 := by
  refine Prod.ext rfl (funext fun x => ?_)
  show (if x = n0 + j then _ else if x = a then _ else if n0 ≤ x ∧ x < n0 + n then some (ar (x - n0)) else h0.2 x) = (if x = a then _ else if n0 ≤ x ∧ x < n0 + n then some (u1 ar j e (x - n0)) else h0.2 x)
  by_cases h1 : x = n0 + j
  · rw [if_pos h1, if_neg (by omega), if_pos (by omega), h1, Nat.add_sub_cancel_left, u1_s]
  · rw [if_neg h1]
    by_cases h2 : x = a
    · rw [if_pos h2, if_pos h2]
    · rw [if_neg h2, if_neg h2]
      by_cases h3 : n0 ≤ x ∧ x < n0 + n
      · rw [if_pos h3, if_pos h3, u1_n (by omega)]
      · rw [if_neg h3, if_neg h3]
theorem NB_push {a ci : Nat} {fs : List Value} {n0 : Nat} {ar : Nat → CE} {n : Nat} {h0 : HP} {e : CE} (ha : a < n0) : (((n0 + n) + 1, up (NB a ci fs n0 ar n h0).2 (n0 + n) e) : HP) = NB a ci fs n0 (u1 ar n e) (n + 1) h0 := by
  refine Prod.ext rfl (funext fun x => ?_)
  show (if x = n0 + n then _ else if x = a then _ else if n0 ≤ x ∧ x < n0 + n then some (ar (x - n0)) else h0.2 x) = (if x = a then _ else if n0 ≤ x ∧ x < n0 + (n + 1) then some (u1 ar n e (x - n0)) else h0.2 x)
  by_cases h1 : x = n0 + n
  · rw [if_pos h1, if_neg (by omega), if_pos (by omega), h1, Nat.add_sub_cancel_left, u1_s]
  · rw [if_neg h1]
    by_cases h2 : x = a
    · rw [if_pos h2, if_pos h2]
    · rw [if_neg h2, if_neg h2]
      by_cases h3 : n0 ≤ x ∧ x < n0 + n
      · rw [if_pos h3, if_pos (by omega), u1_n (by omega)]
      · rw [if_neg h3, if_neg (by omega)]
theorem nb_newI {Y : MT} {pc : Nat} {lv st : List Value} {rc rs : Nat} {Φ : Option Value → HP → Prop} {a ci : Nat} {fs : List Value} {n0 : Nat} {ar : Nat → CE} {n : Nat} {h0 : HP} {z : Int} (k : Nat) (hk : z = (k : Int)) (hn : k ≤ 100000) (ha : a < n0) (h1 : 1 ≤ rc) (h2 : k ≤ rs) (hd : decode Y.2.1 pc = .ok (.newarray .int, 2)) (kk : wp Y (pc + 2) lv (.ref (n0 + n) :: st) (NB a ci fs n0 (u1 ar n (aI k (fun _ => 0))) (n + 1) h0) (rc - 1) (rs - k) Φ) : wp Y pc lv (.int (zI z) :: st) (NB a ci fs n0 ar n h0) rc rs Φ := by
  refine w_newI k hk hn acI h1 h2 hd ?_
  exact w_cast rfl rfl (NB_push ha) kk
theorem nb_newL {Y : MT} {pc : Nat} {lv st : List Value} {rc rs : Nat} {Φ : Option Value → HP → Prop} {a ci : Nat} {fs : List Value} {n0 : Nat} {ar : Nat → CE} {n : Nat} {h0 : HP} {z : Int} (k : Nat) (hk : z = (k : Int)) (hn : k ≤ 100000) (ha : a < n0) (h1 : 1 ≤ rc) (h2 : k ≤ rs) (hd : decode Y.2.1 pc = .ok (.newarray .long, 2)) (kk : wp Y (pc + 2) lv (.ref (n0 + n) :: st) (NB a ci fs n0 (u1 ar n (aL k (fun _ => 0))) (n + 1) h0) (rc - 1) (rs - k) Φ) : wp Y pc lv (.int (zI z) :: st) (NB a ci fs n0 ar n h0) rc rs Φ := by
  refine w_newL k hk (by omega) acL h1 h2 hd ?_
  exact w_cast rfl rfl (NB_push ha) kk
theorem nb_put {Y : MT} {pc : Nat} {lv st : List Value} {rc rs : Nat} {Φ : Option Value → HP → Prop} {a ci : Nat} {fs : List Value} {n0 : Nat} {ar : Nat → CE} {n : Nat} {h0 : HP} {idx k : Nat} {ty : FieldType} {v : Value} {gs : List Value} (hf : FW Y.1.cls idx ci k false ty) (hd : decode Y.2.1 pc = .ok (.putfield idx, 3)) (hl0 : k < fs.length) (hn : narrow ty v = v) (hfit : fits ty v = true) (hg : fs.set k v = gs) (kk : wp Y (pc + 3) lv st (NB a ci gs n0 ar n h0) rc rs Φ) : wp Y pc lv (v :: .ref a :: st) (NB a ci fs n0 ar n h0) rc rs Φ := by
  subst hg
  refine w_putf hf hd NB_o hl0 hn hfit ?_
  exact w_cast rfl rfl NB_uo kk
theorem nb_putF {Y : MT} {pc : Nat} {lv st : List Value} {rc rs : Nat} {Φ : Option Value → HP → Prop} {a ci : Nat} {fs : List Value} {n0 : Nat} {ar : Nat → CE} {n : Nat} {h0 : HP} {idx k : Nat} {ty : FieldType} {v : Value} {gs : List Value} (hf : FW Y.1.cls idx ci k true ty) (hin2 : Y.1.name = "<init>") (hcc : (vwCl[ci]?).map (fun q => q.1) = some Y.1.cls) (hd : decode Y.2.1 pc = .ok (.putfield idx, 3)) (hl0 : k < fs.length) (hn : narrow ty v = v) (hfit : fits ty v = true) (hg : fs.set k v = gs) (kk : wp Y (pc + 3) lv st (NB a ci gs n0 ar n h0) rc rs Φ) : wp Y pc lv (v :: .ref a :: st) (NB a ci fs n0 ar n h0) rc rs Φ := by
  subst hg
  refine w_putfF hf hin2 hcc hd NB_o hl0 hn hfit ?_
  exact w_cast rfl rfl NB_uo kk
theorem SH_c {a c : Nat} {sa sa' : Nat → Nat → Int} {si si' : Nat → Int} {sl sl' : Nat → BitVec 64} {h0 : HP} (h : ∀ j, j ≤ 7 → scell a c sa si sl j = scell a c sa' si' sl' j) : SH a c sa si sl h0 = SH a c sa' si' sl' h0 := by
  refine Prod.ext rfl (funext fun x => ?_)
  show (if a ≤ x ∧ x ≤ a + 7 then some (scell a c sa si sl (x - a)) else h0.2 x) = (if a ≤ x ∧ x ≤ a + 7 then some (scell a c sa' si' sl' (x - a)) else h0.2 x)
  by_cases hx : a ≤ x ∧ x ≤ a + 7
  · rw [if_pos hx, if_pos hx, h (x - a) (by omega)]
  · rw [if_neg hx, if_neg hx]
set_option maxRecDepth 4000 in
theorem c8_init {a c : Nat} {h : HP} (h1 : h.1 = a + 1) (h2 : h.2 a = some (.inr (7, [.null, .long 0, .int 0, .int 0, .int 0, .int 0, .int 0, .int 0, .long 0, .int 0, .null, .null, .null, .null, .null, .null, .null]))) : sp mX8_init [.ref a, .ref c] h 7 396 (pd none (SH a c (fun _ _ => 0) (u1 (fun _ => 0) 2 613) (fun _ => 0#64) (a + 8, h.2))) := by
  refine sp_wp rfl (lv := [_, _]) rfl (Nat.le_of_ble_eq_true rfl) ?_
  refine w_aload_n dX8_init_0 rfl rfl ?_
  refine w_oinit lX8_3 imO cdO rfl (Nat.le_of_ble_eq_true rfl) (Nat.le_of_ble_eq_true rfl) dX8_init_1 ?_
  refine w_cast rfl rfl (NB_0 (ar := fun _ => aI 0 (fun _ => 0)) h1 h2).symm ?_
  have ha : a < a + 1 := by omega
  refine w_aload_n dX8_init_4 rfl rfl ?_
  refine w_sipush dX8_init_5 (by decide) ?_
  refine nb_put (gs := [_, _, _, _, _, _, _, _, _, _, _, _, _, _, _, _, _]) fX8_9 dX8_init_8 (Nat.le_of_ble_eq_true rfl) rfl rfl rfl ?_
  refine w_aload_n dX8_init_11 rfl rfl ?_
  refine w_bipush dX8_init_12 (by decide) ?_
  refine nb_newI 48 rfl (by decide) ha (by decide) (by decide) dX8_init_14 ?_
  refine nb_putF (gs := [_, _, _, _, _, _, _, _, _, _, _, _, _, _, _, _, _]) fX8_15 rfl rfl dX8_init_16 (Nat.le_of_ble_eq_true rfl) rfl rfl rfl ?_
  refine w_aload_n dX8_init_19 rfl rfl ?_
  refine w_bipush dX8_init_20 (by decide) ?_
  refine nb_newI 48 rfl (by decide) ha (by decide) (by decide) dX8_init_22 ?_
  refine nb_putF (gs := [_, _, _, _, _, _, _, _, _, _, _, _, _, _, _, _, _]) fX8_19 rfl rfl dX8_init_24 (Nat.le_of_ble_eq_true rfl) rfl rfl rfl ?_
  refine w_aload_n dX8_init_27 rfl rfl ?_
  refine w_bipush dX8_init_28 (by decide) ?_
  refine nb_newI 48 rfl (by decide) ha (by decide) (by decide) dX8_init_30 ?_
  refine nb_putF (gs := [_, _, _, _, _, _, _, _, _, _, _, _, _, _, _, _, _]) fX8_22 rfl rfl dX8_init_32 (Nat.le_of_ble_eq_true rfl) rfl rfl rfl ?_
  refine w_aload_n dX8_init_35 rfl rfl ?_
  refine w_sipush dX8_init_36 (by decide) ?_
  refine nb_newI 192 rfl (by decide) ha (by decide) (by decide) dX8_init_39 ?_
  refine nb_putF (gs := [_, _, _, _, _, _, _, _, _, _, _, _, _, _, _, _, _]) fX8_25 rfl rfl dX8_init_41 (Nat.le_of_ble_eq_true rfl) rfl rfl rfl ?_
  refine w_aload_n dX8_init_44 rfl rfl ?_
  refine w_bipush dX8_init_45 (by decide) ?_
  refine nb_newI 48 rfl (by decide) ha (by decide) (by decide) dX8_init_47 ?_
  refine nb_putF (gs := [_, _, _, _, _, _, _, _, _, _, _, _, _, _, _, _, _]) fX8_28 rfl rfl dX8_init_49 (Nat.le_of_ble_eq_true rfl) rfl rfl rfl ?_
  refine w_aload_n dX8_init_52 rfl rfl ?_
  refine w_iconst dX8_init_53 ?_
  refine nb_newI 4 rfl (by decide) ha (by decide) (by decide) dX8_init_54 ?_
  refine nb_putF (gs := [_, _, _, _, _, _, _, _, _, _, _, _, _, _, _, _, _]) fX8_31 rfl rfl dX8_init_56 (Nat.le_of_ble_eq_true rfl) rfl rfl rfl ?_
  refine w_aload_n dX8_init_59 rfl rfl ?_
  refine w_bipush dX8_init_60 (by decide) ?_
  refine nb_newI 8 rfl (by decide) ha (by decide) (by decide) dX8_init_62 ?_
  refine nb_putF (gs := [_, _, _, _, _, _, _, _, _, _, _, _, _, _, _, _, _]) fX8_34 rfl rfl dX8_init_64 (Nat.le_of_ble_eq_true rfl) rfl rfl rfl ?_
  refine w_aload_n dX8_init_67 rfl rfl ?_
  refine w_aload_n dX8_init_68 rfl rfl ?_
  refine nb_put (gs := [_, _, _, _, _, _, _, _, _, _, _, _, _, _, _, _, _]) fX8_37 dX8_init_69 (Nat.le_of_ble_eq_true rfl) rfl rfl rfl ?_
  refine x_vret rfl dX8_init_72 ⟨rfl, ?_⟩
  refine Prod.ext rfl (funext fun x => ?_)
  show (if x = a then _ else if a + 1 ≤ x ∧ x < a + 1 + 7 then some ((u1 _ 6 _ : Nat → CE) (x - (a + 1))) else h.2 x) = (if a ≤ x ∧ x ≤ a + 7 then some (scell a c (fun _ _ => 0) (u1 (fun _ => 0) 2 613) (fun _ => 0#64) (x - a)) else h.2 x)
  by_cases hx : x = a
  · rw [if_pos hx, if_pos (by omega), hx, Nat.sub_self]
    rfl
  · rw [if_neg hx]
    by_cases hy : a + 1 ≤ x ∧ x < a + 1 + 7
    · rw [if_pos hy, if_pos (by omega)]
      obtain ⟨j, hj⟩ : ∃ j, x = a + 1 + j := ⟨x - (a + 1), by omega⟩
      subst hj
      rw [Nat.add_sub_cancel_left, show a + 1 + j - a = j + 1 by omega]
      match j, hy with
      | 0, _ => rfl
      | 1, _ => rfl
      | 2, _ => rfl
      | 3, _ => rfl
      | 4, _ => rfl
      | 5, _ => rfl
      | 6, _ => rfl
      | j + 7, hy => omega
    · rw [if_neg hy, if_neg (by omega)]
def CPY (sb sa : Nat → Nat → Int) : Prop := (∀ k, k < 48 → sa 1 k = sb 1 k) ∧ (∀ k, k < 48 → sa 2 k = sb 2 k) ∧ (∀ k, k < 48 → sa 3 k = sb 3 k) ∧ (∀ k, k < 192 → sa 4 k = sb 4 k) ∧ (∀ k, k < 48 → sa 5 k = sb 5 k) ∧ ∀ k, k < 4 → sa 6 k = sb 6 k
theorem REL.copy {sb sa : Nat → Nat → Int} {si : Nat → Int} {sl : Nat → BitVec 64} {B : Nat → Int} {L R C : Nat} (h : REL sb si sl B L R C) (hc : CPY sb sa) (hV : VC B L R C) : REL sa si sl B L R C := by
  obtain ⟨r1, r2, ⟨n, r3, r4, r5⟩, rh, rb, rt, rm, ro⟩ := h
  obtain ⟨c1, c2, c3, c4, c5, c6⟩ := hc
  obtain ⟨v1, v2, v3, v4, v5, v6, v7⟩ := id hV
  have hLC := mulLe (a := L) (b := C) (x := 6) (y := 8) (by omega) (by omega)
  have hLR := mulLe (a := L) (b := R) (x := 6) (y := 4) (by omega) (by omega)
  exact ⟨r1, r2, ⟨n, r3, r4, r5.same c5 (fun _ _ _ => rfl)⟩, fun b hb => (c1 b (by omega)).trans (rh b hb), fun b hb => (c2 b (by omega)).trans (rb b hb), fun b hb => (c3 b (by omega)).trans (rt b hb), fun k hk j hj ho => (c4 _ (by omega)).trans (rm k hk j hj ho), fun p hp => (c6 p (by omega)).trans (ro p hp)⟩
set_option maxRecDepth 8000 in
theorem c8_copyFrom {a a2 c c2 : Nat} {sa sb : Nat → Nat → Int} {si sj : Nat → Int} {sl sm : Nat → BitVec 64} {h0 : HP} (H : SCP h0 a2 c2 sb sj sm) (hap : ∀ j, j ≤ 7 → outS a (a2 + j)) : sp mX8_copyFrom [.ref a, .ref a2] (SH a (c) (sa) (si) (sl) h0) 0 0 (px none (fun sa' : Nat → Nat → Int => CPY sb sa') (fun sa' => (SH a c2 sa' sj sm h0))) := by
  have o_o : ∀ {c' : Nat} {sa : Nat → Nat → Int} {si : Nat → Int} {sl : Nat → BitVec 64}, (SH a c' sa si sl h0).2 a2 = some (.inr (7, sfs a2 c2 sj sm)) := SHo (hap 0 (by omega)) (H 0 (by omega))
  have r_o_heard : ∀ {c' : Nat} {sa : Nat → Nat → Int} {si : Nat → Int} {sl : Nat → BitVec 64}, (SH a c' sa si sl h0).2 (a2 + 1) = some (aI 48 (sb 1)) := SHo (hap 1 (by omega)) (H 1 (by omega))
  have r_o_belief : ∀ {c' : Nat} {sa : Nat → Nat → Int} {si : Nat → Int} {sl : Nat → BitVec 64}, (SH a c' sa si sl h0).2 (a2 + 2) = some (aI 48 (sb 2)) := SHo (hap 2 (by omega)) (H 2 (by omega))
  have r_o_turned : ∀ {c' : Nat} {sa : Nat → Nat → Int} {si : Nat → Int} {sl : Nat → BitVec 64}, (SH a c' sa si sl h0).2 (a2 + 3) = some (aI 48 (sb 3)) := SHo (hap 3 (by omega)) (H 3 (by omega))
  have r_o_message : ∀ {c' : Nat} {sa : Nat → Nat → Int} {si : Nat → Int} {sl : Nat → BitVec 64}, (SH a c' sa si sl h0).2 (a2 + 4) = some (aI 192 (sb 4)) := SHo (hap 4 (by omega)) (H 4 (by omega))
  have r_o_book : ∀ {c' : Nat} {sa : Nat → Nat → Int} {si : Nat → Int} {sl : Nat → BitVec 64}, (SH a c' sa si sl h0).2 (a2 + 5) = some (aI 48 (sb 5)) := SHo (hap 5 (by omega)) (H 5 (by omega))
  have r_o_order : ∀ {c' : Nat} {sa : Nat → Nat → Int} {si : Nat → Int} {sl : Nat → BitVec 64}, (SH a c' sa si sl h0).2 (a2 + 6) = some (aI 4 (sb 6)) := SHo (hap 6 (by omega)) (H 6 (by omega))
  refine sp_wp rfl (lv := [_, _]) rfl (Nat.le_of_ble_eq_true rfl) ?_
  refine w_aload_n dX8_copyFrom_0 rfl rfl ?_
  refine w_aload_n dX8_copyFrom_1 rfl rfl ?_
  refine w_getf fX8_37 dX8_copyFrom_2 o_o rfl ?_
  refine sc_pf0 fX8_37 dX8_copyFrom_5 ?_
  refine w_aload_n dX8_copyFrom_8 rfl rfl ?_
  refine w_aload_n dX8_copyFrom_9 rfl rfl ?_
  refine w_getf fX8_41 dX8_copyFrom_10 o_o rfl ?_
  refine sc_pf1 fX8_41 dX8_copyFrom_13 ?_
  refine w_aload_n dX8_copyFrom_16 rfl rfl ?_
  refine w_aload_n dX8_copyFrom_17 rfl rfl ?_
  refine w_getf fX8_9 dX8_copyFrom_18 o_o rfl ?_
  refine sc_pf2 fX8_9 dX8_copyFrom_21 ?_
  refine w_aload_n dX8_copyFrom_24 rfl rfl ?_
  refine w_aload_n dX8_copyFrom_25 rfl rfl ?_
  refine w_getf fX8_45 dX8_copyFrom_26 o_o rfl ?_
  refine sc_pf3 fX8_45 dX8_copyFrom_29 ?_
  refine w_aload_n dX8_copyFrom_32 rfl rfl ?_
  refine w_aload_n dX8_copyFrom_33 rfl rfl ?_
  refine w_getf fX8_48 dX8_copyFrom_34 o_o rfl ?_
  refine sc_pf4 fX8_48 dX8_copyFrom_37 ?_
  refine w_aload_n dX8_copyFrom_40 rfl rfl ?_
  refine w_aload_n dX8_copyFrom_41 rfl rfl ?_
  refine w_getf fX8_51 dX8_copyFrom_42 o_o rfl ?_
  refine sc_pf5 fX8_51 dX8_copyFrom_45 ?_
  refine w_aload_n dX8_copyFrom_48 rfl rfl ?_
  refine w_aload_n dX8_copyFrom_49 rfl rfl ?_
  refine w_getf fX8_54 dX8_copyFrom_50 o_o rfl ?_
  refine sc_pf6 fX8_54 dX8_copyFrom_53 ?_
  refine w_aload_n dX8_copyFrom_56 rfl rfl ?_
  refine w_aload_n dX8_copyFrom_57 rfl rfl ?_
  refine w_getf fX8_57 dX8_copyFrom_58 o_o rfl ?_
  refine sc_pf7 fX8_57 dX8_copyFrom_61 ?_
  refine w_aload_n dX8_copyFrom_64 rfl rfl ?_
  refine w_aload_n dX8_copyFrom_65 rfl rfl ?_
  refine w_getf fX8_60 dX8_copyFrom_66 o_o rfl ?_
  refine sc_pf8 fX8_60 dX8_copyFrom_69 ?_
  refine w_aload_n dX8_copyFrom_72 rfl rfl ?_
  refine w_aload_n dX8_copyFrom_73 rfl rfl ?_
  refine w_getf fX8_63 dX8_copyFrom_74 o_o rfl ?_
  refine sc_pf9 fX8_63 dX8_copyFrom_77 ?_
  refine w_aload_n dX8_copyFrom_80 rfl rfl ?_
  refine w_getf fX8_15 dX8_copyFrom_81 o_o rfl ?_
  refine w_iconst dX8_copyFrom_84 ?_
  refine w_aload_n dX8_copyFrom_85 rfl rfl ?_
  refine w_getf fX8_15 dX8_copyFrom_86 SC0 rfl ?_
  refine w_iconst dX8_copyFrom_89 ?_
  refine w_bipush dX8_copyFrom_90 (by decide) ?_
  refine w_copyI 48 rfl lX8_66 nAC sAC iAC r_o_heard SC1 (by decide) (by decide) (by decide) rfl (Nat.le_of_ble_eq_true rfl) (Nat.le_of_ble_eq_true rfl) dX8_copyFrom_92 ?_
  rw [SHu1]
  refine w_aload_n dX8_copyFrom_95 rfl rfl ?_
  refine w_getf fX8_19 dX8_copyFrom_96 o_o rfl ?_
  refine w_iconst dX8_copyFrom_99 ?_
  refine w_aload_n dX8_copyFrom_100 rfl rfl ?_
  refine w_getf fX8_19 dX8_copyFrom_101 SC0 rfl ?_
  refine w_iconst dX8_copyFrom_104 ?_
  refine w_bipush dX8_copyFrom_105 (by decide) ?_
  refine w_copyI 48 rfl lX8_66 nAC sAC iAC r_o_belief SC2 (by decide) (by decide) (by decide) rfl (Nat.le_of_ble_eq_true rfl) (Nat.le_of_ble_eq_true rfl) dX8_copyFrom_107 ?_
  rw [SHu2]
  refine w_aload_n dX8_copyFrom_110 rfl rfl ?_
  refine w_getf fX8_22 dX8_copyFrom_111 o_o rfl ?_
  refine w_iconst dX8_copyFrom_114 ?_
  refine w_aload_n dX8_copyFrom_115 rfl rfl ?_
  refine w_getf fX8_22 dX8_copyFrom_116 SC0 rfl ?_
  refine w_iconst dX8_copyFrom_119 ?_
  refine w_bipush dX8_copyFrom_120 (by decide) ?_
  refine w_copyI 48 rfl lX8_66 nAC sAC iAC r_o_turned SC3 (by decide) (by decide) (by decide) rfl (Nat.le_of_ble_eq_true rfl) (Nat.le_of_ble_eq_true rfl) dX8_copyFrom_122 ?_
  rw [SHu3]
  refine w_aload_n dX8_copyFrom_125 rfl rfl ?_
  refine w_getf fX8_25 dX8_copyFrom_126 o_o rfl ?_
  refine w_iconst dX8_copyFrom_129 ?_
  refine w_aload_n dX8_copyFrom_130 rfl rfl ?_
  refine w_getf fX8_25 dX8_copyFrom_131 SC0 rfl ?_
  refine w_iconst dX8_copyFrom_134 ?_
  refine w_sipush dX8_copyFrom_135 (by decide) ?_
  refine w_copyI 192 rfl lX8_66 nAC sAC iAC r_o_message SC4 (by decide) (by decide) (by decide) rfl (Nat.le_of_ble_eq_true rfl) (Nat.le_of_ble_eq_true rfl) dX8_copyFrom_138 ?_
  rw [SHu4]
  refine w_aload_n dX8_copyFrom_141 rfl rfl ?_
  refine w_getf fX8_28 dX8_copyFrom_142 o_o rfl ?_
  refine w_iconst dX8_copyFrom_145 ?_
  refine w_aload_n dX8_copyFrom_146 rfl rfl ?_
  refine w_getf fX8_28 dX8_copyFrom_147 SC0 rfl ?_
  refine w_iconst dX8_copyFrom_150 ?_
  refine w_bipush dX8_copyFrom_151 (by decide) ?_
  refine w_copyI 48 rfl lX8_66 nAC sAC iAC r_o_book SC5 (by decide) (by decide) (by decide) rfl (Nat.le_of_ble_eq_true rfl) (Nat.le_of_ble_eq_true rfl) dX8_copyFrom_153 ?_
  rw [SHu5]
  refine w_aload_n dX8_copyFrom_156 rfl rfl ?_
  refine w_getf fX8_31 dX8_copyFrom_157 o_o rfl ?_
  refine w_iconst dX8_copyFrom_160 ?_
  refine w_aload_n dX8_copyFrom_161 rfl rfl ?_
  refine w_getf fX8_31 dX8_copyFrom_162 SC0 rfl ?_
  refine w_iconst dX8_copyFrom_165 ?_
  refine w_iconst dX8_copyFrom_166 ?_
  refine w_copyI 4 rfl lX8_66 nAC sAC iAC r_o_order SC6 (by decide) (by decide) (by decide) rfl (Nat.le_of_ble_eq_true rfl) (Nat.le_of_ble_eq_true rfl) dX8_copyFrom_167 ?_
  rw [SHu6]
  refine x_vret rfl dX8_copyFrom_170 ⟨rfl, u1 (u1 (u1 (u1 (u1 (u1 sa 1 (cpyF (sb 1) (sa 1) 48)) 2 (cpyF (sb 2) (sa 2) 48)) 3 (cpyF (sb 3) (sa 3) 48)) 4 (cpyF (sb 4) (sa 4) 192)) 5 (cpyF (sb 5) (sa 5) 48)) 6 (cpyF (sb 6) (sa 6) 4), ⟨fun k hk => cpy_at hk, fun k hk => cpy_at hk, fun k hk => cpy_at hk, fun k hk => cpy_at hk, fun k hk => cpy_at hk, fun k hk => cpy_at hk⟩, ?_⟩
  exact SH_c (lt8 rfl rfl rfl rfl rfl rfl rfl rfl)

