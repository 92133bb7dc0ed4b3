/-! a code is made -/
theorem rz_pop {m n : Nat} {S0 : Nat → BitVec 64} (hn : n ≤ 64) : pop (rzN m S0 n).2.1 ≤ n := by
  obtain ⟨-, -, -, t3, -⟩ := elB (m := m) (S0 := S0) (T0 := S0) (fun _ _ => rfl) (b := n) hn
  exact pop_cut hn (fun i h1 _ => by rw [t3]; simp; omega)
/-- what a new code is: at a, its shifts at s, its other cells from n0 on -/
def CDN (h h' : HP) (a s n0 : Nat) (B : Nat → Int) (L R C : Nat) : Prop := h'.1 = n0 + 5 ∧ CDQ (fun x => x = a ∨ x = s ∨ (n0 ≤ x ∧ x < n0 + 4)) h' a B L R C ∧ (∃ fs : List Value, h'.2 a = some (.inr (2, fs)) ∧ fs[14]? = some (.ref (n0 + 4))) ∧ (∃ T : Nat → Int, h'.2 (n0 + 4) = some (aI 16 T) ∧ ∀ k, k < 16 → T k = -1) ∧ ∀ x, x ≠ a → ¬ (n0 ≤ x ∧ x < n0 + 5) → h'.2 x = h.2 x
set_option maxRecDepth 8000 in
theorem c2_init {a s n0 : Nat} {h : HP} {f7 : Nat → Int} {B : Nat → Int} {L R C : Nat} (hn0 : h.1 = n0) (ha : a < n0) (hs : s < n0) (hsa : s ≠ a) (h0 : h.2 a = some (.inr (2, [.int 0, .int 0, .int 0, .int 0, .int 0, .int 0, .int 0, .null, .null, .null, .null, .null, .int 0, .long 0, .null]))) (hS : h.2 s = some (aI 32 f7)) (hV : VC B L R C) (h6 : 0 ≤ B 6 ∧ B 6 ≤ 9) (h7 : 1 ≤ B 7 ∧ B 7 ≤ 31) (hsh : ∀ i, i < R → ∀ k, k < C → f7 (8 * i + k) = B (14 + 8 * i + k) ∧ B (14 + 8 * i + k) < (L : Int)) : sp mX2_init [.ref a, .int (zI (L : Int)), .int (zI (R : Int)), .int (zI (C : Int)), .int (zI (B 6)), .int (zI (B 7)), .ref s] h 5 304 (fun v h' => v = none ∧ CDN h h' a s n0 B L R C) := by
  obtain ⟨v1, v2, v3, v4, v5, v6, v7⟩ := id hV
  have hLC := mulLe (a := L) (b := C) (x := 6) (y := 8) (by omega) (by omega)
  have hLR := mulLe (a := L) (b := R) (x := 6) (y := 4) (by omega) (by omega)
  have hsr : ∀ i, i < R → ∀ k, k < C → -1 ≤ f7 (8 * i + k) ∧ f7 (8 * i + k) < (L : Int) := fun i hi k hk => by
    rw [(hsh i hi k hk).1]
    have := v7 (8 * i + k) (by omega)
    rw [show 14 + (8 * i + k) = 14 + 8 * i + k by omega] at this
    exact ⟨this.1, (hsh i hi k hk).2⟩
  have hbn : ∀ c, c < L * R → ∀ j, j < C → bitN f7 L c j = bitN (shA B) L c j := fun c hc j hj => by
    unfold bitN
    rw [(hsh (c / L) (rowLt hc v4.1) j hj).1, show shA B (8 * (c / L) + j) = B (14 + 8 * (c / L) + j) by unfold shA; congr 1; omega]
  refine sp_wp rfl (lv := [_, _, _, _, _, _, _, _, _]) rfl (Nat.le_of_ble_eq_true rfl) ?_
  refine w_aload_n dX2_init_0 rfl rfl ?_
  refine w_oinit lX2_3 imO cdO rfl (Nat.le_of_ble_eq_true rfl) (Nat.le_of_ble_eq_true rfl) dX2_init_1 ?_
  refine w_cast rfl rfl (NB_0 (ar := fun _ => aI 0 (fun _ => 0)) hn0 h0).symm ?_
  refine w_aload_n dX2_init_4 rfl rfl ?_
  refine w_iload_n dX2_init_5 rfl rfl ?_
  refine nb_putF (gs := [_, _, _, _, _, _, _, _, _, _, _, _, _, _, _]) fX2_9 rfl rfl dX2_init_6 (Nat.le_of_ble_eq_true rfl) rfl rfl rfl ?_
  refine w_aload_n dX2_init_9 rfl rfl ?_
  refine w_iload_n dX2_init_10 rfl rfl ?_
  refine nb_putF (gs := [_, _, _, _, _, _, _, _, _, _, _, _, _, _, _]) fX2_15 rfl rfl dX2_init_11 (Nat.le_of_ble_eq_true rfl) rfl rfl rfl ?_
  refine w_aload_n dX2_init_14 rfl rfl ?_
  refine w_iload_n dX2_init_15 rfl rfl ?_
  refine nb_putF (gs := [_, _, _, _, _, _, _, _, _, _, _, _, _, _, _]) fX2_18 rfl rfl dX2_init_16 (Nat.le_of_ble_eq_true rfl) rfl rfl rfl ?_
  refine w_aload_n dX2_init_19 rfl rfl ?_
  refine w_iload dX2_init_20 rfl ?_
  refine nb_putF (gs := [_, _, _, _, _, _, _, _, _, _, _, _, _, _, _]) fX2_21 rfl rfl dX2_init_22 (Nat.le_of_ble_eq_true rfl) rfl rfl rfl ?_
  refine w_aload_n dX2_init_25 rfl rfl ?_
  refine w_iload dX2_init_26 rfl ?_
  refine nb_putF (gs := [_, _, _, _, _, _, _, _, _, _, _, _, _, _, _]) fX2_24 rfl rfl dX2_init_28 (Nat.le_of_ble_eq_true rfl) rfl rfl rfl ?_
  refine w_aload_n dX2_init_31 rfl rfl ?_
  refine w_aload dX2_init_32 rfl ?_
  refine nb_putF (gs := [_, _, _, _, _, _, _, _, _, _, _, _, _, _, _]) fX2_27 rfl rfl dX2_init_34 (Nat.le_of_ble_eq_true rfl) rfl rfl rfl ?_
  refine w_aload_n dX2_init_37 rfl rfl ?_
  refine w_iload_n dX2_init_38 rfl rfl ?_
  refine w_iload_n dX2_init_39 rfl rfl ?_
  refine w_imul dX2_init_40 ?_
  rw [show (L : Int) * (C : Int) = ((L * C : Nat) : Int) by push_cast; rfl]
  refine nb_putF (gs := [_, _, _, _, _, _, _, _, _, _, _, _, _, _, _]) fX2_31 rfl rfl dX2_init_41 (Nat.le_of_ble_eq_true rfl) rfl rfl rfl ?_
  refine w_aload_n dX2_init_44 rfl rfl ?_
  refine w_iload_n dX2_init_45 rfl rfl ?_
  refine w_iload_n dX2_init_46 rfl rfl ?_
  refine w_imul dX2_init_47 ?_
  rw [show (L : Int) * (R : Int) = ((L * R : Nat) : Int) by push_cast; rfl]
  refine nb_putF (gs := [_, _, _, _, _, _, _, _, _, _, _, _, _, _, _]) fX2_34 rfl rfl dX2_init_48 (Nat.le_of_ble_eq_true rfl) rfl rfl rfl ?_
  refine w_aload_n dX2_init_51 rfl rfl ?_
  refine w_sipush dX2_init_52 (by decide) ?_
  refine nb_newI 192 rfl (by decide) ha (by decide) (by decide) dX2_init_55 ?_
  refine nb_putF (gs := [_, _, _, _, _, _, _, _, _, _, _, _, _, _, _]) fX2_37 rfl rfl dX2_init_57 (Nat.le_of_ble_eq_true rfl) rfl rfl rfl ?_
  refine w_aload_n dX2_init_60 rfl rfl ?_
  refine w_bipush dX2_init_61 (by decide) ?_
  refine nb_newL 24 rfl (by decide) ha (by decide) (by decide) dX2_init_63 ?_
  refine nb_putF (gs := [_, _, _, _, _, _, _, _, _, _, _, _, _, _, _]) fX2_40 rfl rfl dX2_init_65 (Nat.le_of_ble_eq_true rfl) rfl rfl rfl ?_
  refine w_aload_n dX2_init_68 rfl rfl ?_
  refine w_bipush dX2_init_69 (by decide) ?_
  refine nb_newI 48 rfl (by decide) ha (by decide) (by decide) dX2_init_71 ?_
  refine nb_putF (gs := [_, _, _, _, _, _, _, _, _, _, _, _, _, _, _]) fX2_44 rfl rfl dX2_init_73 (Nat.le_of_ble_eq_true rfl) rfl rfl rfl ?_
  refine w_cast rfl rfl (show _ = NB a 2 (lfs L R C (B 6) (B 7) s n0) n0 (lar (fun _ => 0) (fun _ => 0#64) (fun _ => 0#32)) 3 h from NB_ar (fun j hj => ?_)) ?_
  · match j, hj with
    | 0, _ => rfl
    | 1, _ => rfl
    | 2, _ => rfl
    | j + 3, hj => exact absurd hj (by omega)
  refine w_aload_n dX2_init_76 rfl rfl ?_
  refine w_getf fX2_37 dX2_init_77 NB_o rfl ?_
  refine w_iconst dX2_init_80 ?_
  refine wc_Sv (Z := mJ7_fill_53178) (As := [_, _]) (cJ_fill (NB_c 0 ha (by omega)) (by decide)) kJ7_fill_53178 lX2_47 sJ7_fill_53178 dX2_init_81 rfl rfl rfl (Nat.le_of_ble_eq_true rfl) ⟨Nat.le_of_ble_eq_true rfl, Nat.le_of_ble_eq_true rfl⟩ ?_
  refine w_cast rfl rfl (NB_uc (j := 0) ha (by omega)) ?_
  rw [lar0]
  refine w_iconst dX2_init_84 ?_
  refine w_istore (lv' := [_, _, _, _, _, _, _, _, _]) dX2_init_85 (Nat.le_of_ble_eq_true rfl) rfl rfl ?_
  have fin : ∀ (E : Nat → Int) (F : Nat → BitVec 64) (G : Nat → BitVec 32) (x7 x8 : Value), LAYP f7 L R C (fun _ _ => True) E F G → wp mX2_init 122 [.ref a, .int (zI (L : Int)), .int (zI (R : Int)), .int (zI (C : Int)), .int (zI (B 6)), .int (zI (B 7)), .ref s, x7, x8] [] (NB a 2 (lfs L R C (B 6) (B 7) s n0) n0 (lar E F G) 3 h) (5 - 1 - 1 - 1) (304 - 192 - 24 - 48) (fun v h' => v = none ∧ CDN h h' a s n0 B L R C) := by
    intro E F G x7 x8 hP
    have hF : ∀ c, c < L * R → F c = cs B L C c := fun c hc => bv_ext fun b _ => by
      have h1 := hP.2.1 c hc b
      have h2 := cset_bit (sh := shA B) (L := L) (c := c) (b := b) (C := C) (fun j hj => by
        have := bitN_le (sh := shA B) (c := c) (j := j) v4 hj v6.2 (v7 _ (by have := rowLt hc v4.1; omega)).1
        omega)
      have h3 : (F c).getLsbD b = true ↔ (cs B L C c).getLsbD b = true := by
        unfold cs
        rw [h1, h2]
        exact ⟨fun ⟨j, p1, _, p2⟩ => ⟨j, p1, by rw [← hbn c hc j p1]; exact p2⟩, fun ⟨j, p1, p2⟩ => ⟨j, p1, trivial, by rw [hbn c hc j p1]; exact p2⟩⟩
      cases hx : (F c).getLsbD b with
      | true => exact (h3.mp hx).symm
      | false =>
        cases hy : (cs B L C c).getLsbD b with
        | false => rfl
        | true => rw [h3.mpr hy] at hx; cases hx
    have hG : ∀ b, b < L * C → G b = hgB (cs B L C) b (L * R) := fun b hb => BitVec.eq_of_getLsbD_eq fun i _ => by
      have h1 := hP.2.2 b hb i
      have h2 := hgB_bit (c := cs B L C) (b := b) (i := i) (n := L * R) (by omega)
      have h3 : (G b).getLsbD i = true ↔ (hgB (cs B L C) b (L * R)).getLsbD i = true := by
        rw [h1, h2]
        exact ⟨fun ⟨hc, q⟩ => ⟨hc, by rw [← hF i hc]; exact (hP.2.1 i hc b).mpr q⟩, fun ⟨hc, q⟩ => ⟨hc, (hP.2.1 i hc b).mp (by rw [hF i hc]; exact q)⟩⟩
      cases hx : (G b).getLsbD i with
      | true => exact (h3.mp hx).symm
      | false =>
        cases hy : (hgB (cs B L C) b (L * R)).getLsbD i with
        | false => rfl
        | true => rw [h3.mpr hy] at hx; cases hx
    have hred := red_is (S0 := F) hV hF
    have hpc := rz_pop (m := L * R) (S0 := F) (n := L * C) (by omega)
    refine w_aload_n dX2_init_122 rfl rfl ?_
    refine w_aload_n dX2_init_123 rfl rfl ?_
    refine w_getf fX2_40 dX2_init_124 NB_o rfl ?_
    refine w_cloneL lX2_57 smCL naC inC seCL caCL (NB_c 1 ha (by omega)) rfl (Nat.le_of_ble_eq_true rfl) (Nat.le_of_ble_eq_true rfl) (by decide) (by decide) dX2_init_127 ?_
    refine w_cast rfl rfl (NB_push ha) ?_
    refine w_castL (a := n0 + 3) (n := 24) (f := F) tX2_58 (NB_c 3 ha (by omega)) dX2_init_130 ?_
    refine nb_putF (gs := [_, _, _, _, _, _, _, _, _, _, _, _, _, _, _]) fX2_62 rfl rfl dX2_init_133 (Nat.le_of_ble_eq_true rfl) rfl rfl rfl ?_
    refine w_aload_n dX2_init_136 rfl rfl ?_
    refine w_aload_n dX2_init_137 rfl rfl ?_
    refine w_getf fX2_62 dX2_init_138 NB_o rfl ?_
    refine w_aload_n dX2_init_141 rfl rfl ?_
    refine w_getf fX2_34 dX2_init_142 NB_o rfl ?_
    refine w_aload_n dX2_init_145 rfl rfl ?_
    refine w_getf fX2_31 dX2_init_146 NB_o rfl ?_
    refine wc_S (Z := mX2_reduce) (As := [_, _, _]) (c2_reduce (a := n0 + 3) (S0 := F) (NB_c 3 ha (by omega)) (by omega) (by omega)) kX2_reduce lX2_65 sX2_reduce dX2_init_149 rfl rfl rfl (Nat.le_of_ble_eq_true rfl) ⟨Nat.le_of_ble_eq_true rfl, Nat.le_of_ble_eq_true rfl⟩ ?_
    refine w_cast rfl rfl (NB_uc (j := 3) ha (by omega)) ?_
    generalize hZ : rzN (L * R) F (L * C) = Z at hred hpc ⊢
    refine nb_putF (gs := [_, _, _, _, _, _, _, _, _, _, _, _, _, _, _]) fX2_69 rfl rfl dX2_init_152 (Nat.le_of_ble_eq_true rfl) rfl rfl rfl ?_
    refine w_aload_n dX2_init_155 rfl rfl ?_
    refine w_aload_n dX2_init_156 rfl rfl ?_
    refine w_getf fX2_31 dX2_init_157 NB_o rfl ?_
    refine w_aload_n dX2_init_160 rfl rfl ?_
    refine w_getf fX2_69 dX2_init_161 NB_o rfl ?_
    refine wc_S (Z := mJ13_bitCount_95d88) (As := [_]) c_bitCount kJ13_bitCount_95d88 lX2_73 sJ13_bitCount_95d88 dX2_init_164 rfl rfl rfl (Nat.le_of_ble_eq_true rfl) ⟨Nat.le_of_ble_eq_true rfl, Nat.le_of_ble_eq_true rfl⟩ ?_
    refine w_isub dX2_init_167 ?_
    rw [show ((L * C : Nat) : Int) - ((pop Z.2.1 : Nat) : Int) = ((L * C - pop Z.2.1 : Nat) : Int) by omega]
    refine nb_putF (gs := [_, _, _, _, _, _, _, _, _, _, _, _, _, _, _]) fX2_79 rfl rfl dX2_init_168 (Nat.le_of_ble_eq_true rfl) rfl rfl rfl ?_
    refine w_aload_n dX2_init_171 rfl rfl ?_
    refine w_bipush dX2_init_172 (by decide) ?_
    refine nb_newI 16 rfl (by decide) ha (by decide) (by decide) dX2_init_174 ?_
    refine nb_putF (gs := [_, _, _, _, _, _, _, _, _, _, _, _, _, _, _]) fX2_82 rfl rfl dX2_init_176 (Nat.le_of_ble_eq_true rfl) rfl rfl rfl ?_
    refine w_aload_n dX2_init_179 rfl rfl ?_
    refine w_getf fX2_82 dX2_init_180 NB_o rfl ?_
    refine w_iconst dX2_init_183 ?_
    refine wc_Sv (Z := mJ7_fill_53178) (As := [_, _]) (cJ_fill (a := n0 + 4) (n := 16) (f := fun _ => 0) (NB_c 4 ha (by omega)) (by decide)) kJ7_fill_53178 lX2_47 sJ7_fill_53178 dX2_init_184 rfl rfl rfl (Nat.le_of_ble_eq_true rfl) ⟨Nat.le_of_ble_eq_true rfl, Nat.le_of_ble_eq_true rfl⟩ ?_
    refine w_cast rfl rfl (NB_uc (j := 4) ha (by omega)) ?_
    refine x_vret rfl dX2_init_187 ⟨rfl, rfl, ?_, ⟨_, NB_o, rfl⟩, ⟨_, NB_c 4 ha (by omega), fun k hk => if_pos hk⟩, fun x h1 h2 => NB_n h1 h2⟩
    refine ⟨fun k => if k = 7 then s else if k = 8 then n0 + 0 else if k = 9 then n0 + 1 else if k = 10 then n0 + 2 else if k = 11 then n0 + 3 else n0 + 4, f7, E, fun b => (G b).toInt, F, Z.1, L * C - pop Z.2.1, Z.2.1, hV, h6, h7, NB_o, (NB_n hsa (by omega)).trans hS, NB_c 0 ha (by omega), NB_c 1 ha (by omega), NB_c 2 ha (by omega), NB_c 3 ha (by omega), fun i hi j hj => (hsh i hi j hj).1, fun i hi j hj => ?_, hF, fun b hb => ?_, hred, Or.inl rfl, Or.inr (Or.inl rfl), Or.inr (Or.inr ?_), Or.inr (Or.inr ?_), Or.inr (Or.inr ?_), Or.inr (Or.inr ?_)⟩
    · rw [(hP.1 i hi j hj).1 trivial, hbn i hi j hj]
    · show (G b).toInt = _
      rw [hG b hb]
    · show n0 ≤ n0 + 0 ∧ n0 + 0 < n0 + 4
      omega
    · show n0 ≤ n0 + 1 ∧ n0 + 1 < n0 + 4
      omega
    · show n0 ≤ n0 + 2 ∧ n0 + 2 < n0 + 4
      omega
    · show n0 ≤ n0 + 3 ∧ n0 + 3 < n0 + 4
      omega
  have lpr : ∀ r, r ≤ R → ∀ (E : Nat → Int) (F : Nat → BitVec 64) (G : Nat → BitVec 32) (x8 : Value), LAYP f7 L R C (fun c _ => c / L < r) E F G → wp mX2_init 87 [.ref a, .int (zI (L : Int)), .int (zI (R : Int)), .int (zI (C : Int)), .int (zI (B 6)), .int (zI (B 7)), .ref s, .int (zI (r : Int)), x8] [] (NB a 2 (lfs L R C (B 6) (B 7) s n0) n0 (lar E F G) 3 h) (5 - 1 - 1 - 1) (304 - 192 - 24 - 48) (fun v h' => v = none ∧ CDN h h' a s n0 B L R C) := by
    refine up_ind (P := fun r => ∀ (E : Nat → Int) (F : Nat → BitVec 64) (G : Nat → BitVec 32) (x8 : Value), LAYP f7 L R C (fun c _ => c / L < r) E F G → wp mX2_init 87 [.ref a, .int (zI (L : Int)), .int (zI (R : Int)), .int (zI (C : Int)), .int (zI (B 6)), .int (zI (B 7)), .ref s, .int (zI (r : Int)), x8] [] (NB a 2 (lfs L R C (B 6) (B 7) s n0) n0 (lar E F G) 3 h) (5 - 1 - 1 - 1) (304 - 192 - 24 - 48) (fun v h' => v = none ∧ CDN h h' a s n0 B L R C)) (fun r hr ih E F G x8 hP => ?_)
    refine w_iload dX2_init_87 rfl ?_
    refine w_iload_n dX2_init_89 rfl rfl ?_
    refine w_icmp_ge 122 dX2_init_90 (by decide) (by first | assumption | (unfold ok32 at *; omega)) (by first | assumption | (unfold ok32 at *; omega)) (fun hc => ?_) (fun hc => ?_)
    · refine fin E F G _ _ (hP.c (fun c hc' j hj => ⟨fun _ => ?_, fun _ => trivial⟩))
      have := rowLt hc' v4.1
      omega
    · refine w_iconst dX2_init_93 ?_
      refine w_istore (lv' := [_, _, _, _, _, _, _, _, _]) dX2_init_94 (Nat.le_of_ble_eq_true rfl) rfl rfl ?_
      have lpj : ∀ j, j ≤ C → ∀ (E : Nat → Int) (F : Nat → BitVec 64) (G : Nat → BitVec 32), LAYP f7 L R C (fun c k => c / L < r ∨ (c / L = r ∧ k < j)) E F G → wp mX2_init 96 [.ref a, .int (zI (L : Int)), .int (zI (R : Int)), .int (zI (C : Int)), .int (zI (B 6)), .int (zI (B 7)), .ref s, .int (zI (r : Int)), .int (zI (j : Int))] [] (NB a 2 (lfs L R C (B 6) (B 7) s n0) n0 (lar E F G) 3 h) (5 - 1 - 1 - 1) (304 - 192 - 24 - 48) (fun v h' => v = none ∧ CDN h h' a s n0 B L R C) := by
        refine up_ind (P := fun j => ∀ (E : Nat → Int) (F : Nat → BitVec 64) (G : Nat → BitVec 32), LAYP f7 L R C (fun c k => c / L < r ∨ (c / L = r ∧ k < j)) E F G → wp mX2_init 96 [.ref a, .int (zI (L : Int)), .int (zI (R : Int)), .int (zI (C : Int)), .int (zI (B 6)), .int (zI (B 7)), .ref s, .int (zI (r : Int)), .int (zI (j : Int))] [] (NB a 2 (lfs L R C (B 6) (B 7) s n0) n0 (lar E F G) 3 h) (5 - 1 - 1 - 1) (304 - 192 - 24 - 48) (fun v h' => v = none ∧ CDN h h' a s n0 B L R C)) (fun j hj ih2 E F G hP => ?_)
        refine w_iload dX2_init_96 rfl ?_
        refine w_iload_n dX2_init_98 rfl rfl ?_
        refine w_icmp_ge 116 dX2_init_99 (by decide) (by first | assumption | (unfold ok32 at *; omega)) (by first | assumption | (unfold ok32 at *; omega)) (fun hd => ?_) (fun hd => ?_)
        · refine w_iinc (lv' := [_, _, _, _, _, _, _, _, _]) dX2_init_116 rfl rfl rfl ?_
          refine w_goto 87 dX2_init_119 (by decide) ?_
          refine ih (by omega) E F G _ (hP.c (fun c hc' k hk => ?_))
          constructor
          · intro q
            by_cases he : c / L < r
            · exact Or.inl he
            · exact Or.inr ⟨by omega, by omega⟩
          · rintro (q | q)
            · omega
            · omega
        · refine w_aload_n dX2_init_102 rfl rfl ?_
          refine w_iload dX2_init_103 rfl ?_
          refine w_iload dX2_init_105 rfl ?_
          refine wx_Vv (Z := mX2_lay) (As := [_, _]) (c2_lay (r := r) (j := j) ha hs hsa hS v4 v5 v6 (by omega) (by omega) hsr hP) NB_o rfl kX2_lay lX2_53 iX2_lay vX2_lay dX2_init_107 rfl rfl rfl (Nat.le_of_ble_eq_true rfl) ⟨Nat.le_of_ble_eq_true rfl, Nat.le_of_ble_eq_true rfl⟩ (fun z hz => ?_)
          refine w_iinc (lv' := [_, _, _, _, _, _, _, _, _]) dX2_init_110 rfl rfl rfl ?_
          refine w_goto 96 dX2_init_113 (by decide) ?_
          refine ih2 (by omega) z.1 z.2.1 z.2.2 (hz.c (fun c hc' k hk => ?_))
          constructor
          · rintro (q | q)
            · exact Or.inl (Or.inl q)
            · by_cases he : k = j
              · exact Or.inr ⟨q.1, he⟩
              · exact Or.inl (Or.inr ⟨q.1, by omega⟩)
          · rintro ((q | q) | q)
            · exact Or.inl q
            · exact Or.inr ⟨q.1, by omega⟩
            · exact Or.inr ⟨q.1, by omega⟩
      refine lpj 0 (Nat.zero_le _) E F G (hP.c (fun c _ k _ => ⟨fun q => q.elim id (fun z => absurd z.2 (Nat.not_lt_zero _)), Or.inl⟩))
  refine lpr 0 (Nat.zero_le _) _ _ _ jk ⟨fun c hc j hj => ⟨fun q => absurd q (Nat.not_lt_zero _), fun _ => if_pos (by omega)⟩, fun c hc b => ⟨fun q => by simp at q, fun ⟨j, _, q, _⟩ => absurd q (Nat.not_lt_zero _)⟩, fun b hb c => ⟨fun q => by simp at q, fun ⟨_, j, _, q, _⟩ => absurd q (Nat.not_lt_zero _)⟩⟩

