/-! what the constructors lay out -/
def FRS (a k : Nat) (h h' : HP) : Prop := h'.1 = a + k ∧ ∀ x, ¬ (a ≤ x ∧ x < a + k) → h'.2 x = h.2 x
theorem NB_frs {a ci : Nat} {gs : List Value} {ar : Nat → CE} {n : Nat} {h : HP} : FRS a (n + 1) h (NB a ci gs (a + 1) ar n h) := ⟨by show a + 1 + n = a + (n + 1); omega, fun x hx => NB_n (fun e => hx (by omega)) (fun e => hx (by omega))⟩
theorem nb_anew2 {Y : MT} {pc : Nat} {lv st : List Value} {rc rs : Nat} {Φ : Option Value → HP → Prop} {a ci : Nat} {fs : List Value} {n0 : Nat} {ar : Nat → CE} {n : Nat} {h0 : HP} {idx : Nat} {z : Int} (k : Nat) (hk : z = (k : Int)) (hn : k ≤ 100000) (ha : a < n0) (w1 : Cond.classLink Y.1.cls idx RX2 ∈ gw) (h1 : 1 ≤ rc) (h2 : k ≤ rs) (hd : decode Y.2.1 pc = .ok (.anewarray idx, 3)) (kk : wp Y (pc + 3) lv (.ref (n0 + n) :: st) (NB a ci fs n0 (u1 ar n (aR 2 k (fun _ => none))) (n + 1) h0) (rc - 1) (rs - k) Φ) : wp Y pc lv (.int (zI z) :: st) (NB a ci fs n0 ar n h0) rc rs Φ := by
  refine w_anew2 k hk hn w1 aoC h1 h2 hd ?_
  exact w_cast rfl rfl (NB_push ha) kk
theorem nb_anew3 {Y : MT} {pc : Nat} {lv st : List Value} {rc rs : Nat} {Φ : Option Value → HP → Prop} {a ci : Nat} {fs : List Value} {n0 : Nat} {ar : Nat → CE} {n : Nat} {h0 : HP} {idx : Nat} {z : Int} (k : Nat) (hk : z = (k : Int)) (hn : k ≤ 100000) (ha : a < n0) (w1 : Cond.classLink Y.1.cls idx RX8 ∈ gw) (h1 : 1 ≤ rc) (h2 : k ≤ rs) (hd : decode Y.2.1 pc = .ok (.anewarray idx, 3)) (kk : wp Y (pc + 3) lv (.ref (n0 + n) :: st) (NB a ci fs n0 (u1 ar n (aR 3 k (fun _ => none))) (n + 1) h0) (rc - 1) (rs - k) Φ) : wp Y pc lv (.int (zI z) :: st) (NB a ci fs n0 ar n h0) rc rs Φ := by
  refine w_anew3 k hk hn w1 aoS h1 h2 hd ?_
  exact w_cast rfl rfl (NB_push ha) kk
def arM (n0 n : Nat) (ar : Nat → CE) : Nat → CE := fun j => if j = n then aR 4 5 (fun j => some (n0 + n + 1 + j)) else if n + 1 ≤ j ∧ j ≤ n + 5 then aL 16 (fun _ => 0) else ar j
theorem nb_multi {Y : MT} {pc : Nat} {lv st : List Value} {rc rs : Nat} {Φ : Option Value → HP → Prop} {a ci : Nat} {fs : List Value} {n0 : Nat} {ar : Nat → CE} {n : Nat} {h0 : HP} {idx : Nat} (ha : a < n0) (w1 : Cond.classLink Y.1.cls idx "[[J" ∈ gw) (h1 : 6 ≤ rc) (h2 : 85 ≤ rs) (hd : decode Y.2.1 pc = .ok (.multianewarray idx 2, 4)) (kk : wp Y (pc + 4) lv (.ref (n0 + n) :: st) (NB a ci fs n0 (arM n0 n ar) (n + 6) h0) (rc - 6) (rs - 85) Φ) : wp Y pc lv (.int (zI 16) :: .int (zI 5) :: st) (NB a ci fs n0 ar n h0) rc rs Φ := by
  refine w_multi w1 aoL acL h1 h2 hd ?_
  refine w_cast rfl rfl ?_ kk
  refine Prod.ext (by show n0 + n + 6 = n0 + (n + 6); omega) (funext fun x => ?_)
  show (if x = n0 + n then _ else if n0 + n + 1 ≤ x ∧ x ≤ n0 + n + 5 then _ else (if x = a then some (.inr (ci, fs)) else if n0 ≤ x ∧ x < n0 + n then some (ar (x - n0)) else h0.2 x)) = (if x = a then some (.inr (ci, fs)) else if n0 ≤ x ∧ x < n0 + (n + 6) then some (arM n0 n ar (x - n0)) else h0.2 x)
  unfold arM
  by_cases c1 : x = n0 + n
  · rw [if_pos c1, if_neg (by omega), if_pos (by omega), if_pos (by omega)]
    rfl
  · rw [if_neg c1]
    by_cases c2 : n0 + n + 1 ≤ x ∧ x ≤ n0 + n + 5
    · rw [if_pos c2, if_neg (by omega), if_pos (by omega), if_neg (by omega), if_pos (by omega)]
    · rw [if_neg c2]
      by_cases c3 : x = a
      · rw [if_pos c3, if_pos c3]
      · rw [if_neg c3, if_neg c3]
        by_cases c4 : n0 ≤ x ∧ x < n0 + n
        · rw [if_pos c4, if_pos (by omega), if_neg (by omega), if_neg (by omega)]
        · rw [if_neg c4, if_neg (by omega)]
theorem c0_init {a : Nat} {h : HP} (h1 : h.1 = a + 1) (h2 : h.2 a = some (.inr (0, [.null, .int 0, .int 0, .long 0]))) : sp mX0_init [.ref a] h 1 13 (fun v h' => v = none ∧ FRS a 2 h h' ∧ AWP h' a (fun _ _ => 0) (fun _ => 0) (fun _ => 0)) := by
  refine sp_wp rfl (lv := [_]) rfl (Nat.le_of_ble_eq_true rfl) ?_
  refine w_aload_n dX0_init_0 rfl rfl ?_
  refine w_oinit lX0_3 imO cdO rfl (Nat.le_of_ble_eq_true rfl) (Nat.le_of_ble_eq_true rfl) dX0_init_1 ?_
  refine w_cast rfl rfl (NB_0 (ar := fun _ => aI 0 (fun _ => 0)) h1 h2).symm ?_
  have ha : a < a + 1 := by omega
  refine w_aload_n dX0_init_4 rfl rfl ?_
  refine w_bipush dX0_init_5 (by decide) ?_
  refine nb_newL 13 rfl (by decide) ha (by decide) (by decide) dX0_init_7 ?_
  refine nb_putF (gs := [_, _, _, _]) fX0_9 rfl rfl dX0_init_9 (Nat.le_of_ble_eq_true rfl) rfl rfl rfl ?_
  refine x_vret rfl dX0_init_12 ⟨rfl, NB_frs, ?_⟩
  intro j hj
  match j, hj with
  | 0, _ => exact NB_o
  | 1, _ => exact NB_c 0 (by omega) (by omega)
  | j + 2, hj => omega
theorem c3_init {a : Nat} {h : HP} (h1 : h.1 = a + 1) (h2 : h.2 a = some (.inr (3, [.null, .null, .int 0, .int 0, .int 0]))) : sp mX3_init [.ref a] h 2 12 (fun v h' => v = none ∧ FRS a 3 h h' ∧ FLP h' a (fun _ _ => 0) (fun _ => 0)) := by
  refine sp_wp rfl (lv := [_]) rfl (Nat.le_of_ble_eq_true rfl) ?_
  refine w_aload_n dX3_init_0 rfl rfl ?_
  refine w_oinit lX3_3 imO cdO rfl (Nat.le_of_ble_eq_true rfl) (Nat.le_of_ble_eq_true rfl) dX3_init_1 ?_
  refine w_cast rfl rfl (NB_0 (ar := fun _ => aI 0 (fun _ => 0)) h1 h2).symm ?_
  have ha : a < a + 1 := by omega
  refine w_aload_n dX3_init_4 rfl rfl ?_
  refine w_iconst dX3_init_5 ?_
  refine nb_newI 4 rfl (by decide) ha (by decide) (by decide) dX3_init_6 ?_
  refine nb_putF (gs := [_, _, _, _, _]) fX3_9 rfl rfl dX3_init_8 (Nat.le_of_ble_eq_true rfl) rfl rfl rfl ?_
  refine w_aload_n dX3_init_11 rfl rfl ?_
  refine w_bipush dX3_init_12 (by decide) ?_
  refine nb_newI 8 rfl (by decide) ha (by decide) (by decide) dX3_init_14 ?_
  refine nb_putF (gs := [_, _, _, _, _]) fX3_15 rfl rfl dX3_init_16 (Nat.le_of_ble_eq_true rfl) rfl rfl rfl ?_
  refine x_vret rfl dX3_init_19 ⟨rfl, NB_frs, ?_⟩
  intro j hj
  match j, hj with
  | 0, _ => exact NB_o
  | 1, _ => exact NB_c 0 (by omega) (by omega)
  | 2, _ => exact NB_c 1 (by omega) (by omega)
  | j + 3, hj => omega
theorem c6_init {a : Nat} {h : HP} (h1 : h.1 = a + 1) (h2 : h.2 a = some (.inr (5, [.null, .int 0, .int 0]))) : sp mX6_init [.ref a] h 1 20 (fun v h' => v = none ∧ FRS a 2 h h' ∧ h'.2 a = some (.inr (5, pfs a 0 0)) ∧ h'.2 (a + 1) = some (aR 3 20 (fun _ => none))) := by
  refine sp_wp rfl (lv := [_]) rfl (Nat.le_of_ble_eq_true rfl) ?_
  refine w_aload_n dX6_init_0 rfl rfl ?_
  refine w_oinit lX6_3 imO cdO rfl (Nat.le_of_ble_eq_true rfl) (Nat.le_of_ble_eq_true rfl) dX6_init_1 ?_
  refine w_cast rfl rfl (NB_0 (ar := fun _ => aI 0 (fun _ => 0)) h1 h2).symm ?_
  have ha : a < a + 1 := by omega
  refine w_aload_n dX6_init_4 rfl rfl ?_
  refine w_bipush dX6_init_5 (by decide) ?_
  refine nb_anew3 20 rfl (by decide) ha tX6_9 (by decide) (by decide) dX6_init_7 ?_
  refine nb_putF (gs := [_, _, _]) fX6_11 rfl rfl dX6_init_10 (Nat.le_of_ble_eq_true rfl) rfl rfl rfl ?_
  refine x_vret rfl dX6_init_13 ⟨rfl, NB_frs, ?_⟩
  exact ⟨NB_o, NB_c 0 (by omega) (by omega)⟩
theorem c7_init {a : Nat} {h : HP} (h1 : h.1 = a + 1) (h2 : h.2 a = some (.inr (6, [.null, .int 0, .int 0, .int 0, .int 0, .int 0, .int 0, .int 0, .int 0, .int 0, .int 0, .int 0, .int 0, .null]))) : sp mX7_init [.ref a] h 2 332 (fun v h' => v = none ∧ FRS a 3 h h' ∧ RDP h' a (fun _ _ => 0) (u1 (u1 (fun _ => 0) 2 (-1)) 3 (-1))) := by
  refine sp_wp rfl (lv := [_]) rfl (Nat.le_of_ble_eq_true rfl) ?_
  refine w_aload_n dX7_init_0 rfl rfl ?_
  refine w_oinit lX7_3 imO cdO rfl (Nat.le_of_ble_eq_true rfl) (Nat.le_of_ble_eq_true rfl) dX7_init_1 ?_
  refine w_cast rfl rfl (NB_0 (ar := fun _ => aI 0 (fun _ => 0)) h1 h2).symm ?_
  have ha : a < a + 1 := by omega
  refine w_aload_n dX7_init_4 rfl rfl ?_
  refine w_sipush dX7_init_5 (by decide) ?_
  refine nb_newI 300 rfl (by decide) ha (by decide) (by decide) dX7_init_8 ?_
  refine nb_putF (gs := [_, _, _, _, _, _, _, _, _, _, _, _, _, _]) fX7_9 rfl rfl dX7_init_10 (Nat.le_of_ble_eq_true rfl) rfl rfl rfl ?_
  refine w_aload_n dX7_init_13 rfl rfl ?_
  refine w_iconst dX7_init_14 ?_
  refine nb_put (gs := [_, _, _, _, _, _, _, _, _, _, _, _, _, _]) fX7_15 dX7_init_15 (Nat.le_of_ble_eq_true rfl) rfl rfl rfl ?_
  refine w_aload_n dX7_init_18 rfl rfl ?_
  refine w_iconst dX7_init_19 ?_
  refine nb_put (gs := [_, _, _, _, _, _, _, _, _, _, _, _, _, _]) fX7_19 dX7_init_20 (Nat.le_of_ble_eq_true rfl) rfl rfl rfl ?_
  refine w_aload_n dX7_init_23 rfl rfl ?_
  refine w_bipush dX7_init_24 (by decide) ?_
  refine nb_newI 32 rfl (by decide) ha (by decide) (by decide) dX7_init_26 ?_
  refine nb_putF (gs := [_, _, _, _, _, _, _, _, _, _, _, _, _, _]) fX7_22 rfl rfl dX7_init_28 (Nat.le_of_ble_eq_true rfl) rfl rfl rfl ?_
  refine x_vret rfl dX7_init_31 ⟨rfl, NB_frs, ?_⟩
  intro j hj
  match j, hj with
  | 0, _ => exact NB_o
  | 1, _ => exact NB_c 0 (by omega) (by omega)
  | 2, _ => exact NB_c 1 (by omega) (by omega)
  | j + 3, hj => omega
theorem c1_init {a c : Nat} {h : HP} (h1 : h.1 = a + 1) (h2 : h.2 a = some (.inr (1, [.null, .null, .null, .null, .null, .null, .null, .int 0, .int 0]))) : sp mX1_init [.ref a, .ref c] h 11 107 (fun v h' => v = none ∧ FRS a 12 h h' ∧ CUP h' a (fun _ _ => 0) (fun _ => 0) (fun _ => c) ∧ h'.2 (a + 1) = some (aR 2 5 (fun _ => none)) ∧ h'.2 (a + 2) = some (aR 4 5 (fun j => some (a + 3 + j))) ∧ ∀ K, K < 5 → h'.2 (a + 3 + K) = some (aL 16 (fun _ => 0))) := by
  refine sp_wp rfl (lv := [_, _]) rfl (Nat.le_of_ble_eq_true rfl) ?_
  refine w_aload_n dX1_init_0 rfl rfl ?_
  refine w_oinit lX1_3 imO cdO rfl (Nat.le_of_ble_eq_true rfl) (Nat.le_of_ble_eq_true rfl) dX1_init_1 ?_
  refine w_cast rfl rfl (NB_0 (ar := fun _ => aI 0 (fun _ => 0)) h1 h2).symm ?_
  have ha : a < a + 1 := by omega
  refine w_aload_n dX1_init_4 rfl rfl ?_
  refine w_iconst dX1_init_5 ?_
  refine nb_anew2 5 rfl (by decide) ha tX1_9 (by decide) (by decide) dX1_init_6 ?_
  refine nb_putF (gs := [_, _, _, _, _, _, _, _, _]) fX1_11 rfl rfl dX1_init_9 (Nat.le_of_ble_eq_true rfl) rfl rfl rfl ?_
  refine w_aload_n dX1_init_12 rfl rfl ?_
  refine w_iconst dX1_init_13 ?_
  refine w_bipush dX1_init_14 (by decide) ?_
  refine nb_multi ha tX1_17 (by decide) (by decide) dX1_init_16 ?_
  refine nb_putF (gs := [_, _, _, _, _, _, _, _, _]) fX1_19 rfl rfl dX1_init_20 (Nat.le_of_ble_eq_true rfl) rfl rfl rfl ?_
  refine w_aload_n dX1_init_23 rfl rfl ?_
  refine w_iconst dX1_init_24 ?_
  refine nb_newI 5 rfl (by decide) ha (by decide) (by decide) dX1_init_25 ?_
  refine nb_putF (gs := [_, _, _, _, _, _, _, _, _]) fX1_22 rfl rfl dX1_init_27 (Nat.le_of_ble_eq_true rfl) rfl rfl rfl ?_
  refine w_aload_n dX1_init_30 rfl rfl ?_
  refine w_iconst dX1_init_31 ?_
  refine nb_newI 4 rfl (by decide) ha (by decide) (by decide) dX1_init_32 ?_
  refine nb_putF (gs := [_, _, _, _, _, _, _, _, _]) fX1_26 rfl rfl dX1_init_34 (Nat.le_of_ble_eq_true rfl) rfl rfl rfl ?_
  refine w_aload_n dX1_init_37 rfl rfl ?_
  refine w_iconst dX1_init_38 ?_
  refine nb_newI 4 rfl (by decide) ha (by decide) (by decide) dX1_init_39 ?_
  refine nb_putF (gs := [_, _, _, _, _, _, _, _, _]) fX1_29 rfl rfl dX1_init_41 (Nat.le_of_ble_eq_true rfl) rfl rfl rfl ?_
  refine w_aload_n dX1_init_44 rfl rfl ?_
  refine w_iconst dX1_init_45 ?_
  refine nb_newI 4 rfl (by decide) ha (by decide) (by decide) dX1_init_46 ?_
  refine nb_putF (gs := [_, _, _, _, _, _, _, _, _]) fX1_32 rfl rfl dX1_init_48 (Nat.le_of_ble_eq_true rfl) rfl rfl rfl ?_
  refine w_aload_n dX1_init_51 rfl rfl ?_
  refine w_aload_n dX1_init_52 rfl rfl ?_
  refine nb_put (gs := [_, _, _, _, _, _, _, _, _]) fX1_35 dX1_init_53 (Nat.le_of_ble_eq_true rfl) rfl rfl rfl ?_
  refine x_vret rfl dX1_init_56 ⟨rfl, NB_frs, ?_⟩
  refine ⟨fun j hj => ?_, NB_c 0 (by omega) (by omega), NB_c 1 (by omega) (by omega), fun K hK => ?_⟩
  · rcases hj with rfl | ⟨hj1, hj2⟩
    · exact NB_o
    · match j, hj1, hj2 with
      | 8, _, _ => exact NB_c 7 (by omega) (by omega)
      | 9, _, _ => exact NB_c 8 (by omega) (by omega)
      | 10, _, _ => exact NB_c 9 (by omega) (by omega)
      | 11, _, _ => exact NB_c 10 (by omega) (by omega)
      | j + 12, _, h4 => omega
  · match K, hK with
    | 0, _ => exact NB_c 2 (by omega) (by omega)
    | 1, _ => exact NB_c 3 (by omega) (by omega)
    | 2, _ => exact NB_c 4 (by omega) (by omega)
    | 3, _ => exact NB_c 5 (by omega) (by omega)
    | 4, _ => exact NB_c 6 (by omega) (by omega)
    | K + 5, h4 => omega
