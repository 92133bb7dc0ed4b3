/-! what the constructors lay out: the reference -/
def A0 : Nat → Int := bgA B0 0 1 1 2
set_option maxRecDepth 8000 in
theorem c_init {r : Nat} {h : HP} (h1 : h.1 = r + 1) (h2 : h.2 r = some (.inr (9, [.null, .null, .null, .null, .int 0, .int 0, .int 0, .int 0, .int 0, .int 0, .int 0, .int 0, .int 0, .int 0, .null, .null, .long 0, .int 0, .null, .null, .null, .null, .int 0, .long 0, .null, .int 0, .int 0, .null]))) : sp mX10_init [.ref r] h 12 19072 (pd none (RH r A0 (u1 (fun _ _ => 0) 2 (fillR (fun _ => 0) 0 9033 A0)) (fun _ _ => 0) (u1 (u1 (fun _ => 0) 5 (-1)) 6 (-1)) (fun _ => 0) (r + 13, h.2))) := by
  obtain ⟨a, hra⟩ : ∃ a, r = a := ⟨_, rfl⟩
  subst hra
  refine sp_wp rfl (lv := [_]) rfl (Nat.le_of_ble_eq_true rfl) ?_
  refine w_aload_n dX10_init_0 rfl rfl ?_
  refine w_oinit lX10_1 imO cdO rfl (Nat.le_of_ble_eq_true rfl) (Nat.le_of_ble_eq_true rfl) dX10_init_1 ?_
  refine w_cast rfl rfl (NB_0 (ar := fun _ => aI 0 (fun _ => 0)) h1 h2).symm ?_
  have ha : r < r + 1 := by omega
  refine w_aload_n dX10_init_4 rfl rfl ?_
  refine w_sipush dX10_init_5 (by decide) ?_
  refine nb_newI 9033 rfl (by decide) ha (by decide) (by decide) dX10_init_8 ?_
  refine nb_putF (gs := [_, _, _, _, _, _, _, _, _, _, _, _, _, _, _, _, _, _, _, _, _, _, _, _, _, _, _, _]) fX10_7 rfl rfl dX10_init_10 (Nat.le_of_ble_eq_true rfl) rfl rfl rfl ?_
  refine w_aload_n dX10_init_13 rfl rfl ?_
  refine w_sipush dX10_init_14 (by decide) ?_
  refine nb_newI 9033 rfl (by decide) ha (by decide) (by decide) dX10_init_17 ?_
  refine nb_putF (gs := [_, _, _, _, _, _, _, _, _, _, _, _, _, _, _, _, _, _, _, _, _, _, _, _, _, _, _, _]) fX10_13 rfl rfl dX10_init_19 (Nat.le_of_ble_eq_true rfl) rfl rfl rfl ?_
  refine w_aload_n dX10_init_22 rfl rfl ?_
  refine w_sipush dX10_init_23 (by decide) ?_
  refine nb_newI 148 rfl (by decide) ha (by decide) (by decide) dX10_init_26 ?_
  refine nb_putF (gs := [_, _, _, _, _, _, _, _, _, _, _, _, _, _, _, _, _, _, _, _, _, _, _, _, _, _, _, _]) fX10_16 rfl rfl dX10_init_28 (Nat.le_of_ble_eq_true rfl) rfl rfl rfl ?_
  refine w_aload_n dX10_init_31 rfl rfl ?_
  refine w_sipush dX10_init_32 (by decide) ?_
  refine nb_newI 300 rfl (by decide) ha (by decide) (by decide) dX10_init_35 ?_
  refine nb_putF (gs := [_, _, _, _, _, _, _, _, _, _, _, _, _, _, _, _, _, _, _, _, _, _, _, _, _, _, _, _]) fX10_19 rfl rfl dX10_init_37 (Nat.le_of_ble_eq_true rfl) rfl rfl rfl ?_
  refine w_aload_n dX10_init_40 rfl rfl ?_
  refine w_iconst dX10_init_41 ?_
  refine nb_put (gs := [_, _, _, _, _, _, _, _, _, _, _, _, _, _, _, _, _, _, _, _, _, _, _, _, _, _, _, _]) fX10_22 dX10_init_42 (Nat.le_of_ble_eq_true rfl) rfl rfl rfl ?_
  refine w_aload_n dX10_init_45 rfl rfl ?_
  refine w_iconst dX10_init_46 ?_
  refine nb_put (gs := [_, _, _, _, _, _, _, _, _, _, _, _, _, _, _, _, _, _, _, _, _, _, _, _, _, _, _, _]) fX10_26 dX10_init_47 (Nat.le_of_ble_eq_true rfl) rfl rfl rfl ?_
  refine w_aload_n dX10_init_50 rfl rfl ?_
  refine w_bipush dX10_init_51 (by decide) ?_
  refine nb_newI 8 rfl (by decide) ha (by decide) (by decide) dX10_init_53 ?_
  refine nb_putF (gs := [_, _, _, _, _, _, _, _, _, _, _, _, _, _, _, _, _, _, _, _, _, _, _, _, _, _, _, _]) fX10_29 rfl rfl dX10_init_55 (Nat.le_of_ble_eq_true rfl) rfl rfl rfl ?_
  refine w_aload_n dX10_init_58 rfl rfl ?_
  refine w_bipush dX10_init_59 (by decide) ?_
  refine nb_newL 24 rfl (by decide) ha (by decide) (by decide) dX10_init_61 ?_
  refine nb_putF (gs := [_, _, _, _, _, _, _, _, _, _, _, _, _, _, _, _, _, _, _, _, _, _, _, _, _, _, _, _]) fX10_32 rfl rfl dX10_init_63 (Nat.le_of_ble_eq_true rfl) rfl rfl rfl ?_
  refine w_aload_n dX10_init_66 rfl rfl ?_
  refine w_sipush dX10_init_67 (by decide) ?_
  refine nb_newI 430 rfl (by decide) ha (by decide) (by decide) dX10_init_70 ?_
  refine nb_putF (gs := [_, _, _, _, _, _, _, _, _, _, _, _, _, _, _, _, _, _, _, _, _, _, _, _, _, _, _, _]) fX10_36 rfl rfl dX10_init_72 (Nat.le_of_ble_eq_true rfl) rfl rfl rfl ?_
  refine w_aload_n dX10_init_75 rfl rfl ?_
  refine w_bipush dX10_init_76 (by decide) ?_
  refine nb_newL 24 rfl (by decide) ha (by decide) (by decide) dX10_init_78 ?_
  refine nb_putF (gs := [_, _, _, _, _, _, _, _, _, _, _, _, _, _, _, _, _, _, _, _, _, _, _, _, _, _, _, _]) fX10_39 rfl rfl dX10_init_80 (Nat.le_of_ble_eq_true rfl) rfl rfl rfl ?_
  refine w_aload_n dX10_init_83 rfl rfl ?_
  refine w_iconst dX10_init_84 ?_
  refine nb_newI 4 rfl (by decide) ha (by decide) (by decide) dX10_init_85 ?_
  refine nb_putF (gs := [_, _, _, _, _, _, _, _, _, _, _, _, _, _, _, _, _, _, _, _, _, _, _, _, _, _, _, _]) fX10_42 rfl rfl dX10_init_87 (Nat.le_of_ble_eq_true rfl) rfl rfl rfl ?_
  refine w_aload_n dX10_init_90 rfl rfl ?_
  refine w_bipush dX10_init_91 (by decide) ?_
  refine nb_newI 48 rfl (by decide) ha (by decide) (by decide) dX10_init_93 ?_
  refine nb_putF (gs := [_, _, _, _, _, _, _, _, _, _, _, _, _, _, _, _, _, _, _, _, _, _, _, _, _, _, _, _]) fX10_45 rfl rfl dX10_init_95 (Nat.le_of_ble_eq_true rfl) rfl rfl rfl ?_
  refine w_aload_n dX10_init_98 rfl rfl ?_
  refine w_bipush dX10_init_99 (by decide) ?_
  refine nb_newI 8 rfl (by decide) ha (by decide) (by decide) dX10_init_101 ?_
  refine nb_putF (gs := [_, _, _, _, _, _, _, _, _, _, _, _, _, _, _, _, _, _, _, _, _, _, _, _, _, _, _, _]) fX10_48 rfl rfl dX10_init_103 (Nat.le_of_ble_eq_true rfl) rfl rfl rfl ?_
  refine w_aload_n dX10_init_106 rfl rfl ?_
  refine w_iconst dX10_init_107 ?_
  refine nb_newI 4 rfl (by decide) ha (by decide) (by decide) dX10_init_108 ?_
  refine nb_putF (gs := [_, _, _, _, _, _, _, _, _, _, _, _, _, _, _, _, _, _, _, _, _, _, _, _, _, _, _, _]) fX10_51 rfl rfl dX10_init_110 (Nat.le_of_ble_eq_true rfl) rfl rfl rfl ?_
  refine w_cast (h' := RH r (fun _ => 0) (fun _ _ => 0) (fun _ _ => 0) (u1 (u1 (fun _ => 0) 5 (-1)) 6 (-1)) (fun _ => 0) (r + 13, h.2)) rfl rfl ?_ ?_
  · refine Prod.ext rfl (funext fun x => ?_)
    show (if x = r then _ else if r + 1 ≤ x ∧ x < r + 1 + 12 then some ((u1 _ 11 _ : Nat → CE) (x - (r + 1))) else h.2 x) = (if r ≤ x ∧ x ≤ r + 12 then some (rcell r (fun _ => 0) (fun _ _ => 0) (fun _ _ => 0) (u1 (u1 (fun _ => 0) 5 (-1)) 6 (-1)) (fun _ => 0) (x - r)) else h.2 x)
    by_cases hx : x = r
    · rw [if_pos hx, if_pos (by omega), hx, Nat.sub_self]
      rfl
    · rw [if_neg hx]
      by_cases hy : r + 1 ≤ x ∧ x < r + 1 + 12
      · rw [if_pos hy, if_pos (by omega)]
        obtain ⟨j, hj⟩ : ∃ j, x = r + 1 + j := ⟨x - (r + 1), by omega⟩
        subst hj
        rw [Nat.add_sub_cancel_left, show r + 1 + j - r = j + 1 by omega]
        match j, hy with
        | 0, _ => rfl
        | 1, _ => rfl
        | 2, _ => rfl
        | 3, _ => rfl
        | 4, _ => rfl
        | 5, _ => rfl
        | 6, _ => rfl
        | 7, _ => rfl
        | 8, _ => rfl
        | 9, _ => rfl
        | 10, _ => rfl
        | 11, _ => rfl
        | j + 12, hy => omega
      · rw [if_neg hy, if_neg (by omega)]
  refine w_aload_n dX10_init_113 rfl rfl ?_
  refine w_getf fX10_7 dX10_init_114 RH0 rfl ?_
  refine w_iconst dX10_init_117 ?_
  refine w_iconst dX10_init_118 ?_
  refine r_ist1K 3 rfl (by decide) dX10_init_119 ?_
  refine w_aload_n dX10_init_120 rfl rfl ?_
  refine w_getf fX10_7 dX10_init_121 RH0 rfl ?_
  refine w_iconst dX10_init_124 ?_
  refine w_iconst dX10_init_125 ?_
  refine r_ist1K 4 rfl (by decide) dX10_init_126 ?_
  refine w_aload_n dX10_init_127 rfl rfl ?_
  refine w_getf fX10_7 dX10_init_128 RH0 rfl ?_
  refine w_iconst dX10_init_131 ?_
  refine w_iconst dX10_init_132 ?_
  refine r_ist1K 5 rfl (by decide) dX10_init_133 ?_
  refine w_aload_n dX10_init_134 rfl rfl ?_
  refine w_getf fX10_7 dX10_init_135 RH0 rfl ?_
  refine w_bipush dX10_init_138 (by decide) ?_
  refine w_iconst dX10_init_140 ?_
  refine r_ist1K 6 rfl (by decide) dX10_init_141 ?_
  refine w_aload_n dX10_init_142 rfl rfl ?_
  refine w_getf fX10_7 dX10_init_143 RH0 rfl ?_
  refine w_bipush dX10_init_146 (by decide) ?_
  refine w_bipush dX10_init_148 (by decide) ?_
  refine r_ist1K 7 rfl (by decide) dX10_init_150 ?_
  refine w_aload_n dX10_init_151 rfl rfl ?_
  refine w_getf fX10_7 dX10_init_152 RH0 rfl ?_
  refine w_bipush dX10_init_155 (by decide) ?_
  refine w_sipush dX10_init_157 (by decide) ?_
  refine r_ist1K 12 rfl (by decide) dX10_init_160 ?_
  refine w_aload_n dX10_init_161 rfl rfl ?_
  refine w_iconst dX10_init_162 ?_
  refine wc_Vv (Z := mX10_beginNow) (As := [_]) (c_beginNow (A := B0) B0_vc (fun k => by have := B0_ok k; unfold ok32; omega) ok32_0) RH0 rfl kX10_beginNow lX10_54 iX10_beginNow vX10_beginNow dX10_init_163 rfl rfl rfl (Nat.le_of_ble_eq_true rfl) ⟨Nat.le_of_ble_eq_true rfl, Nat.le_of_ble_eq_true rfl⟩ ?_
  refine w_aload_n dX10_init_166 rfl rfl ?_
  refine w_getf fX10_7 dX10_init_167 RH0 rfl ?_
  refine w_aload_n dX10_init_170 rfl rfl ?_
  refine w_getf fX10_13 dX10_init_171 RH0 rfl ?_
  refine wc_Sv (Z := mX10_copy) (As := [_, _]) c_copy1 kX10_copy lX10_58 sX10_copy dX10_init_174 rfl rfl rfl (Nat.le_of_ble_eq_true rfl) ⟨Nat.le_of_ble_eq_true rfl, Nat.le_of_ble_eq_true rfl⟩ ?_
  exact x_vret rfl dX10_init_177 ⟨rfl, rfl⟩
