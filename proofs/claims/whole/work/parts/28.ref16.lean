theorem nx (x : BitVec 64) : x ^^^ (-1#64) = ~~~x := by
  rw [show (-1#64 : BitVec 64) = BitVec.allOnes 64 from by decide, BitVec.xor_allOnes]
theorem pop_lt {x y : BitVec 64} (h : ∀ i, i < 64 → x.getLsbD i = true → y.getLsbD i = true) (hne : ¬ y = x) : pop x < pop y := by
  have h1 : ∀ n, n ≤ 64 → pn x.getLsbD n ≤ pn y.getLsbD n := by
    intro n
    induction n with
    | zero => intro _; exact Nat.le_refl _
    | succ n ih =>
      intro hn
      have := ih (by omega)
      unfold pn
      cases hx : x.getLsbD n with
      | false => rw [if_neg (by decide)]; omega
      | true => rw [h n (by omega) hx]; omega
  have h2 : ∃ i, i < 64 ∧ x.getLsbD i = false ∧ y.getLsbD i = true := by
    refine Classical.byContradiction fun q => hne (bv_ext fun i hi => ?_)
    cases hx : x.getLsbD i with
    | true => exact h i hi hx
    | false =>
      cases hy : y.getLsbD i with
      | false => rfl
      | true => exact absurd ⟨i, hi, hx, hy⟩ q
  obtain ⟨t, t1, t2, t3⟩ := h2
  have h3 : ∀ n, n ≤ 64 → t < n → pn x.getLsbD n < pn y.getLsbD n := by
    intro n
    induction n with
    | zero => intro _ h; omega
    | succ n ih =>
      intro hn htn
      unfold pn
      by_cases hq : t = n
      · subst hq
        have := h1 t (by omega)
        rw [t2, t3]
        simp
        omega
      · have := ih (by omega) (by omega)
        cases hx : x.getLsbD n with
        | false => rw [if_neg (by decide)]; omega
        | true => rw [h n (by omega) hx]; omega
  exact h3 64 (Nat.le_refl _) t1
/-- bits beside some, and these -/
def bsN (c : Nat → BitVec 64) (x : BitVec 64) : Nat → BitVec 64
  | 0 => x
  | n + 1 => if c n &&& x = 0#64 then bsN c x n else bsN c x n ||| c n
theorem bsN_sub {c : Nat → BitVec 64} {x : BitVec 64} {i : Nat} (h : x.getLsbD i = true) : ∀ {n : Nat}, (bsN c x n).getLsbD i = true
  | 0 => h
  | n + 1 => by
    unfold bsN
    split
    · exact bsN_sub h
    · rw [BitVec.getLsbD_or, bsN_sub h]; rfl
set_option maxRecDepth 4000 in
theorem c_beside {r : Nat} {A : Nat → Int} {ia : Nat → Nat → Int} {la : Nat → Nat → BitVec 64} {fi : Nat → Int} {fl : Nat → BitVec 64} {h0 : HP} {L R C : Nat} {x : BitVec 64} (hV : VC A L R C) : sp mX10_beside [.ref r, .long (lB x)] (RH r A ia la fi fl h0) 0 0 (pd (some (.long (lB (bsN (cs A L C) x (L * R))))) (RH r A ia la fi fl h0)) := by
  obtain ⟨v1, v2, v3, v4, v5, v6, v7⟩ := id hV
  have hLR := mulLe (a := L) (b := R) (x := 6) (y := 4) (by omega) (by omega)
  refine sp_wp rfl (lv := [_, _, _, _, _, _]) rfl (Nat.le_of_ble_eq_true rfl) ?_
  refine w_lload_n dX10_beside_0 rfl rfl ?_
  refine w_lstore_n (lv' := [_, _, _, _, _, _]) dX10_beside_1 rfl (Nat.le_of_ble_eq_true rfl) rfl rfl ?_
  refine w_iconst dX10_beside_2 ?_
  refine w_istore (lv' := [_, _, _, _, _, _]) dX10_beside_3 (Nat.le_of_ble_eq_true rfl) rfl rfl ?_
  refine up_ind (N := L * R) (P := fun c => wp mX10_beside 5 [.ref r, .long (lB x), jk, .long (lB (bsN (cs A L C) x c)), jk, .int (zI (c : Int))] [] (RH r A ia la fi fl h0) 0 0 (pd (some (.long (lB (bsN (cs A L C) x (L * R))))) (RH r A ia la fi fl h0))) (fun c hc ih => ?_) 0 (Nat.zero_le _)
  refine w_iload dX10_beside_5 rfl ?_
  refine w_aload_n dX10_beside_7 rfl rfl ?_
  refine wc_V (Z := mX10_checks) (As := []) c_checks RH0 rfl kX10_checks lX10_74 iX10_checks vX10_checks dX10_beside_8 rfl rfl rfl (Nat.le_of_ble_eq_true rfl) ⟨Nat.le_of_ble_eq_true rfl, Nat.le_of_ble_eq_true rfl⟩ ?_
  rw [v1, v2]
  refine w_icmp_ge 42 dX10_beside_11 (by decide) (by unfold ok32; omega) (by unfold ok32; omega) (fun hn => ?_) (fun hn => ?_)
  · refine w_lload_n dX10_beside_42 rfl rfl ?_
    refine x_lret rfl dX10_beside_43 ⟨?_, rfl⟩
    rw [show c = L * R by omega]
  · refine w_aload_n dX10_beside_14 rfl rfl ?_
    refine w_iload dX10_beside_15 rfl ?_
    refine wc_V (Z := mX10_checkSet) (As := [_]) (c_checkSet hV (by omega)) RH0 rfl kX10_checkSet lX10_83 iX10_checkSet vX10_checkSet dX10_beside_17 rfl rfl rfl (Nat.le_of_ble_eq_true rfl) ⟨Nat.le_of_ble_eq_true rfl, Nat.le_of_ble_eq_true rfl⟩ ?_
    refine w_lload_n dX10_beside_20 rfl rfl ?_
    refine w_land dX10_beside_21 ?_
    refine w_lconst0 dX10_beside_22 ?_
    refine w_lc_eq 36 dX10_beside_23 dX10_beside_24 (by decide) (fun hz => ?_) (fun hz => ?_)
    · refine w_iinc (lv' := [_, _, _, _, _, _]) dX10_beside_36 rfl rfl rfl ?_
      refine w_goto 5 dX10_beside_39 (by decide) ?_
      refine w_cast ?_ rfl rfl (ih (by omega))
      rw [bsN, if_pos (show cs A L C c &&& x = 0#64 from hz)]
      rfl
    · refine w_lload_n dX10_beside_27 rfl rfl ?_
      refine w_aload_n dX10_beside_28 rfl rfl ?_
      refine w_iload dX10_beside_29 rfl ?_
      refine wc_V (Z := mX10_checkSet) (As := [_]) (c_checkSet hV (by omega)) RH0 rfl kX10_checkSet lX10_83 iX10_checkSet vX10_checkSet dX10_beside_31 rfl rfl rfl (Nat.le_of_ble_eq_true rfl) ⟨Nat.le_of_ble_eq_true rfl, Nat.le_of_ble_eq_true rfl⟩ ?_
      refine w_lor dX10_beside_34 ?_
      refine w_lstore_n (lv' := [_, _, _, _, _, _]) dX10_beside_35 rfl (Nat.le_of_ble_eq_true rfl) rfl rfl ?_
      refine w_iinc (lv' := [_, _, _, _, _, _]) dX10_beside_36 rfl rfl rfl ?_
      refine w_goto 5 dX10_beside_39 (by decide) ?_
      refine w_cast ?_ rfl rfl (ih (by omega))
      rw [bsN, if_neg (show ¬ cs A L C c &&& x = 0#64 from hz)]
      rfl
/-- how far a bit is, going from check to check -/
def ptF (c : Nat → BitVec 64) (m t : Nat) : Nat → BitVec 64 → Int → Int
  | 0, _, _ => -1
  | f + 1, x, n => if x.getLsbD t = true then n else if bsN c x m = x then -1 else ptF c m t f (bsN c x m) (n + 1)

set_option maxRecDepth 4000 in
theorem c_path {r : Nat} {A : Nat → Int} {ia : Nat → Nat → Int} {la : Nat → Nat → BitVec 64} {fi : Nat → Int} {fl : Nat → BitVec 64} {h0 : HP} {L R C : Nat} {z x : Int} (hT : TOP A L R C) (hz : ok32 z) (hx : ok32 x) : sp mX10_path [.ref r, .int (zI z), .int (zI x)] (RH r A ia la fi fl h0) 0 0 (pr (some (.int (zI (if (0 ≤ z ∧ z ≤ (L : Int) * C - 1) ∧ (0 ≤ x ∧ x ≤ (L : Int) * C - 1) then ptF (cs A L C) (L * R) x.toNat 64 (1#64 <<< z.toNat) 0 else -1)))) r A ia fi h0) := by
  obtain ⟨hI, hV, hS, h2⟩ := id hT
  obtain ⟨v1, v2, v3, v4, v5, v6, v7⟩ := id hV
  have h1 : 0 ≤ A 1 ∧ A 1 ≤ 20 := hI 1
  have h20 : 0 ≤ A 2 ∧ A 2 ≤ 20 := hI 2
  have hLC : (L : Int) * C ≤ 48 := by exact_mod_cast mulLe (a := L) (b := C) (x := 6) (y := 8) (by omega) (by omega)
  have hLC0 : (0 : Int) ≤ (L : Int) * C := by exact_mod_cast Nat.zero_le (L * C)
  have hLR : (L : Int) * R ≤ 24 := by exact_mod_cast mulLe (a := L) (b := R) (x := 6) (y := 4) (by omega) (by omega)
  have hLR0 : (0 : Int) ≤ (L : Int) * R := by exact_mod_cast Nat.zero_le (L * R)
  refine sp_wp rfl (lv := [_, _, _, _, _, _, _, _]) rfl (Nat.le_of_ble_eq_true rfl) ?_
  refine w_aload_n dX10_path_0 rfl rfl ?_
  refine w_iload_n dX10_path_1 rfl rfl ?_
  refine wc_V (Z := mX10_isBit) (As := [_]) (c_isBit hV hz) RH0 rfl kX10_isBit lX10_237 iX10_isBit vX10_isBit dX10_path_2 rfl rfl rfl (Nat.le_of_ble_eq_true rfl) ⟨Nat.le_of_ble_eq_true rfl, Nat.le_of_ble_eq_true rfl⟩ ?_
  refine w_ifb_eq 16 dX10_path_5 (by decide) (fun hc1 => ?_) (fun hc1 => ?_)
  · refine w_iconst dX10_path_16 ?_
    refine x_iret rfl rfl dX10_path_17 (pr_end ?_ rfl rfl rfl rfl rfl rfl rfl)
    rw [if_neg (fun q => hc1 q.1)]
  · refine w_aload_n dX10_path_8 rfl rfl ?_
    refine w_iload_n dX10_path_9 rfl rfl ?_
    refine wc_V (Z := mX10_isBit) (As := [_]) (c_isBit hV hx) RH0 rfl kX10_isBit lX10_237 iX10_isBit vX10_isBit dX10_path_10 rfl rfl rfl (Nat.le_of_ble_eq_true rfl) ⟨Nat.le_of_ble_eq_true rfl, Nat.le_of_ble_eq_true rfl⟩ ?_
    refine w_ifb_ne 18 dX10_path_13 (by decide) (fun hc2 => ?_) (fun hc2 => ?_)
    rotate_left
    · refine w_iconst dX10_path_16 ?_
      refine x_iret rfl rfl dX10_path_17 (pr_end ?_ rfl rfl rfl rfl rfl rfl rfl)
      rw [if_neg (fun q => hc2 q.2)]
    · rw [if_pos ⟨hc1, hc2⟩]
      obtain ⟨b, hb⟩ : ∃ b : Nat, z = (b : Int) := ⟨z.toNat, by omega⟩
      subst hb
      obtain ⟨t, ht⟩ : ∃ t : Nat, x = (t : Int) := ⟨x.toNat, by omega⟩
      subst ht
      rw [Int.toNat_natCast, Int.toNat_natCast]
      have hb48 : b < 48 := by omega
      have ht48 : t < 48 := by omega
      refine w_lconst1 dX10_path_18 ?_
      refine w_iload_n dX10_path_19 rfl rfl ?_
      refine w_lshl _ rfl (by omega) dX10_path_20 ?_
      refine w_lstore_n (lv' := [_, _, _, _, _, _, _, _]) dX10_path_21 rfl (Nat.le_of_ble_eq_true rfl) rfl rfl ?_
      refine w_iconst dX10_path_22 ?_
      refine w_istore (lv' := [_, _, _, _, _, _, _, _]) dX10_path_23 (Nat.le_of_ble_eq_true rfl) rfl rfl ?_
      obtain ⟨V0, hV0⟩ : ∃ V0, ptF (cs A L C) (L * R) t 64 (1#64 <<< b) 0 = V0 := ⟨_, rfl⟩
      rw [hV0]
      have key : ∀ (f : Nat) (y : BitVec 64) (n : Int) (x6 : Value), 65 ≤ pop y + f → ptF (cs A L C) (L * R) t f y n = V0 → wp mX10_path 25 [.ref r, .int (zI (b : Int)), .int (zI (t : Int)), .long (lB y), jk, .int (zI n), x6, jk] [] (RH r A ia la fi fl h0) 0 0 (pr (some (.int (zI (V0)))) r A ia fi h0) := by
        intro f
        induction f with
        | zero => intro y n x6 hp _; have := pop_le y; omega
        | succ f ih =>
          intro y n x6 hp hv
          unfold ptF at hv
          refine w_lload_n dX10_path_25 rfl rfl ?_
          refine w_iload_n dX10_path_26 rfl rfl ?_
          refine wc_S (Z := mX10_hasIt) (As := [_, _]) (c_hasIt (by omega)) kX10_hasIt lX10_62 sX10_hasIt dX10_path_27 rfl rfl rfl (Nat.le_of_ble_eq_true rfl) ⟨Nat.le_of_ble_eq_true rfl, Nat.le_of_ble_eq_true rfl⟩ ?_
          refine w_ifb_ne 58 dX10_path_30 (by decide) (fun hbt => ?_) (fun hbt => ?_)
          · rw [if_pos hbt] at hv
            refine w_iload dX10_path_58 rfl ?_
            refine x_iret rfl rfl dX10_path_60 (pr_end ?_ rfl rfl rfl rfl rfl rfl rfl)
            rw [hv]
          · rw [if_neg hbt] at hv
            refine w_aload_n dX10_path_33 rfl rfl ?_
            refine w_lload_n dX10_path_34 rfl rfl ?_
            refine wc_V (Z := mX10_beside) (As := [_]) (c_beside hV) RH0 rfl kX10_beside lX10_270 iX10_beside vX10_beside dX10_path_35 rfl rfl rfl (Nat.le_of_ble_eq_true rfl) ⟨Nat.le_of_ble_eq_true rfl, Nat.le_of_ble_eq_true rfl⟩ ?_
            refine w_lstore (lv' := [_, _, _, _, _, _, _, _]) dX10_path_38 (Nat.le_of_ble_eq_true rfl) rfl rfl ?_
            refine w_lload dX10_path_40 rfl ?_
            refine w_lload_n dX10_path_42 rfl rfl ?_
            refine w_lc_ne 49 dX10_path_43 dX10_path_44 (by decide) (fun hsame => ?_) (fun hsame => ?_)
            · rw [if_neg hsame] at hv
              have h5 := pop_lt (x := y) (y := bsN (cs A L C) y (L * R)) (fun i _ h => bsN_sub h) hsame
              refine w_lload dX10_path_49 rfl ?_
              refine w_lstore_n (lv' := [_, _, _, _, _, _, _, _]) dX10_path_51 rfl (Nat.le_of_ble_eq_true rfl) rfl rfl ?_
              refine w_iinc (lv' := [_, _, _, _, _, _, _, _]) dX10_path_52 rfl rfl rfl ?_
              refine w_goto 25 dX10_path_55 (by decide) ?_
              exact ih _ _ _ (by omega) hv
            · rw [if_pos hsame] at hv
              refine w_iconst dX10_path_47 ?_
              refine x_iret rfl rfl dX10_path_48 (pr_end ?_ rfl rfl rfl rfl rfl rfl rfl)
              rw [← hv]
      refine key 64 _ 0 jk ?_ hV0
      have h6 : 0 < pop (1#64 <<< b) := pn_pos (t := b) (by omega) (by rw [bit1 (by omega) (by omega)]; simp)
      omega
def clF (c : Nat → BitVec 64) (m : Nat) : Nat → BitVec 64 → BitVec 64
  | 0, x => x
  | f + 1, x => if bsN c x m = x then x else clF c m f (bsN c x m)
theorem clF_sub {c : Nat → BitVec 64} {m i : Nat} : ∀ {f : Nat} {x : BitVec 64}, x.getLsbD i = true → (clF c m f x).getLsbD i = true
  | 0, _, h => h
  | f + 1, x, h => by
    unfold clF
    split
    · exact h
    · exact clF_sub (bsN_sub h)
/-- pieces that are left -/
def pcF (c : Nat → BitVec 64) (m : Nat) : Nat → BitVec 64 → Int → Int
  | 0, _, n => n
  | f + 1, x, n => if x = 0#64 then n else pcF c m f (x &&& ~~~(clF c m 64 (x &&& -x))) (n + 1)

set_option maxRecDepth 4000 in
theorem c_pieces {r : Nat} {A : Nat → Int} {ia : Nat → Nat → Int} {la : Nat → Nat → BitVec 64} {fi : Nat → Int} {fl : Nat → BitVec 64} {h0 : HP} {L R C : Nat}  (hT : TOP A L R C) : sp mX10_pieces [.ref r] (RH r A ia la fi fl h0) 0 0 (pr (some (.int (zI (pcF (cs A L C) (L * R) 64 ((1#64 <<< (L * C)) - 1#64) 0)))) r A ia fi h0) := by
  obtain ⟨hI, hV, hS, h2⟩ := id hT
  obtain ⟨v1, v2, v3, v4, v5, v6, v7⟩ := id hV
  have h1 : 0 ≤ A 1 ∧ A 1 ≤ 20 := hI 1
  have h20 : 0 ≤ A 2 ∧ A 2 ≤ 20 := hI 2
  have hLC : (L : Int) * C ≤ 48 := by exact_mod_cast mulLe (a := L) (b := C) (x := 6) (y := 8) (by omega) (by omega)
  have hLC0 : (0 : Int) ≤ (L : Int) * C := by exact_mod_cast Nat.zero_le (L * C)
  have hLR : (L : Int) * R ≤ 24 := by exact_mod_cast mulLe (a := L) (b := R) (x := 6) (y := 4) (by omega) (by omega)
  have hLR0 : (0 : Int) ≤ (L : Int) * R := by exact_mod_cast Nat.zero_le (L * R)
  have hLCn := mulLe (a := L) (b := C) (x := 6) (y := 8) (by omega) (by omega)
  refine sp_wp rfl (lv := [_, _, _, _, _, _, _, _]) rfl (Nat.le_of_ble_eq_true rfl) ?_
  refine w_iconst dX10_pieces_0 ?_
  refine w_istore_n (lv' := [_, _, _, _, _, _, _, _]) dX10_pieces_1 rfl (Nat.le_of_ble_eq_true rfl) rfl rfl ?_
  refine w_lconst1 dX10_pieces_2 ?_
  refine w_aload_n dX10_pieces_3 rfl rfl ?_
  refine wc_V (Z := mX10_bits) (As := []) c_bits RH0 rfl kX10_bits lX10_66 iX10_bits vX10_bits dX10_pieces_4 rfl rfl rfl (Nat.le_of_ble_eq_true rfl) ⟨Nat.le_of_ble_eq_true rfl, Nat.le_of_ble_eq_true rfl⟩ ?_
  rw [v1, v3]
  refine w_lshl (L * C) (by push_cast; rfl) (by omega) dX10_pieces_7 ?_
  refine w_lconst1 dX10_pieces_8 ?_
  refine w_lsub dX10_pieces_9 ?_
  refine w_lstore_n (lv' := [_, _, _, _, _, _, _, _]) dX10_pieces_10 rfl (Nat.le_of_ble_eq_true rfl) rfl rfl ?_
  obtain ⟨V0, hV0⟩ : ∃ V0, pcF (cs A L C) (L * R) 64 ((1#64 <<< (L * C)) - 1#64) 0 = V0 := ⟨_, rfl⟩
  rw [hV0]
  have key : ∀ (f : Nat) (y : BitVec 64) (n : Int) (x4 x6 : Value), pop y ≤ f → f ≤ 64 → pcF (cs A L C) (L * R) f y n = V0 → wp mX10_pieces 11 [.ref r, .int (zI n), .long (lB y), jk, x4, jk, x6, jk] [] (RH r A ia la fi fl h0) 0 0 (pr (some (.int (zI (V0)))) r A ia fi h0) := by
    intro f
    induction f with
    | zero =>
      intro y n x4 x6 hp _ hv
      refine w_lload_n dX10_pieces_11 rfl rfl ?_
      refine w_lconst0 dX10_pieces_12 ?_
      refine w_lc_eq 69 dX10_pieces_13 dX10_pieces_14 (by decide) (fun hz => ?_) (fun hz => ?_)
      · refine w_iload_n dX10_pieces_69 rfl rfl ?_
        refine x_iret rfl rfl dX10_pieces_70 (pr_end ?_ rfl rfl rfl rfl rfl rfl rfl)
        rw [← hv]; rfl
      · obtain ⟨t, t1, t2, t3⟩ := bv_ne0 hz
        have := pn_pos (f := y.getLsbD) t1 t2
        unfold pop at hp; omega
    | succ f ih =>
      intro y n x4 x6 hp hf hv
      unfold pcF at hv
      refine w_lload_n dX10_pieces_11 rfl rfl ?_
      refine w_lconst0 dX10_pieces_12 ?_
      refine w_lc_eq 69 dX10_pieces_13 dX10_pieces_14 (by decide) (fun hz => ?_) (fun hz => ?_)
      · rw [if_pos hz] at hv
        refine w_iload_n dX10_pieces_69 rfl rfl ?_
        refine x_iret rfl rfl dX10_pieces_70 (pr_end ?_ rfl rfl rfl rfl rfl rfl rfl)
        rw [← hv]
      · rw [if_neg hz] at hv
        obtain ⟨t, t1, t2, t3⟩ := bv_ne0 hz
        have hlow : (y &&& -y).getLsbD t = true := by rw [neg_bit t1 t1 t2 t3]; simp
        have h6 : 0 < pop (y &&& -y) := pn_pos t1 hlow
        refine w_lload_n dX10_pieces_17 rfl rfl ?_
        refine w_lload_n dX10_pieces_18 rfl rfl ?_
        refine w_lneg dX10_pieces_19 ?_
        refine w_land dX10_pieces_20 ?_
        refine w_lstore (lv' := [_, _, _, _, _, _, _, _]) dX10_pieces_21 (Nat.le_of_ble_eq_true rfl) rfl rfl ?_
        refine w_aload_n dX10_pieces_23 rfl rfl ?_
        refine w_lload dX10_pieces_24 rfl ?_
        refine wc_V (Z := mX10_beside) (As := [_]) (c_beside hV) RH0 rfl kX10_beside lX10_270 iX10_beside vX10_beside dX10_pieces_26 rfl rfl rfl (Nat.le_of_ble_eq_true rfl) ⟨Nat.le_of_ble_eq_true rfl, Nat.le_of_ble_eq_true rfl⟩ ?_
        refine w_lstore (lv' := [_, _, _, _, _, _, _, _]) dX10_pieces_29 (Nat.le_of_ble_eq_true rfl) rfl rfl ?_
        have hsub : (clF (cs A L C) (L * R) 64 (y &&& -y)).getLsbD t = true := clF_sub hlow
        obtain ⟨K, hK⟩ : ∃ K, clF (cs A L C) (L * R) 64 (y &&& -y) = K := ⟨_, rfl⟩
        rw [hK] at hv hsub
        have inner : ∀ (g : Nat) (p : BitVec 64), 65 ≤ pop p + g → clF (cs A L C) (L * R) g p = K → wp mX10_pieces 31 [.ref r, .int (zI n), .long (lB y), jk, .long (lB p), jk, .long (lB (bsN (cs A L C) p (L * R))), jk] [] (RH r A ia la fi fl h0) 0 0 (pr (some (.int (zI (V0)))) r A ia fi h0) := by
          intro g
          induction g with
          | zero => intro p hp2 _; have := pop_le p; omega
          | succ g ih2 =>
            intro p hp2 hc2
            unfold clF at hc2
            refine w_lload dX10_pieces_31 rfl ?_
            refine w_lload dX10_pieces_33 rfl ?_
            refine w_lc_eq 54 dX10_pieces_35 dX10_pieces_36 (by decide) (fun hs => ?_) (fun hs => ?_)
            · rw [if_pos hs] at hc2
              refine w_lload_n dX10_pieces_54 rfl rfl ?_
              refine w_lload dX10_pieces_55 rfl ?_
              refine w_ldc2B (-1#64) qX10_255 (by decide) dX10_pieces_57 ?_
              refine w_lxor dX10_pieces_60 ?_
              rw [nx, hc2]
              refine w_land dX10_pieces_61 ?_
              refine w_lstore_n (lv' := [_, _, _, _, _, _, _, _]) dX10_pieces_62 rfl (Nat.le_of_ble_eq_true rfl) rfl rfl ?_
              refine w_iinc (lv' := [_, _, _, _, _, _, _, _]) dX10_pieces_63 rfl rfl rfl ?_
              refine w_goto 11 dX10_pieces_66 (by decide) ?_
              refine ih _ _ _ _ ?_ (by omega) hv
              have h7 : pop (y &&& ~~~K) < pop y := by
                refine pop_lt (fun i hi h => ?_) (fun q => ?_)
                · rw [BitVec.getLsbD_and] at h; simp at h; exact h.1
                · have h8 : (y &&& ~~~K).getLsbD t = true := by rw [← q]; exact t2
                  rw [BitVec.getLsbD_and, BitVec.getLsbD_not, hsub] at h8
                  simp at h8
              omega
            · rw [if_neg hs] at hc2
              have h5 := pop_lt (x := p) (y := bsN (cs A L C) p (L * R)) (fun i _ h => bsN_sub h) hs
              refine w_lload dX10_pieces_39 rfl ?_
              refine w_lstore (lv' := [_, _, _, _, _, _, _, _]) dX10_pieces_41 (Nat.le_of_ble_eq_true rfl) rfl rfl ?_
              refine w_aload_n dX10_pieces_43 rfl rfl ?_
              refine w_lload dX10_pieces_44 rfl ?_
              refine wc_V (Z := mX10_beside) (As := [_]) (c_beside hV) RH0 rfl kX10_beside lX10_270 iX10_beside vX10_beside dX10_pieces_46 rfl rfl rfl (Nat.le_of_ble_eq_true rfl) ⟨Nat.le_of_ble_eq_true rfl, Nat.le_of_ble_eq_true rfl⟩ ?_
              refine w_lstore (lv' := [_, _, _, _, _, _, _, _]) dX10_pieces_49 (Nat.le_of_ble_eq_true rfl) rfl rfl ?_
              refine w_goto 31 dX10_pieces_51 (by decide) ?_
              exact ih2 _ (by omega) hc2
        exact inner 64 _ (by omega) hK
  exact key 64 _ 0 jk jk (pop_le _) (Nat.le_refl _) hV0
theorem c_isSet {r : Nat} {A : Nat → Int} {ia : Nat → Nat → Int} {la : Nat → Nat → BitVec 64} {fi : Nat → Int} {fl : Nat → BitVec 64} {h0 : HP} {L R C : Nat} {x : BitVec 64} (hV : VC A L R C) : sp mX10_isSet [.ref r, .long (lB x)] (RH r A ia la fi fl h0) 0 0 (pd (some (.int (zI (bI (x.sshiftRight (L * C) = 0#64))))) (RH r A ia la fi fl h0)) := by
  obtain ⟨v1, v2, v3, v4, v5, v6, v7⟩ := id hV
  have hLCn := mulLe (a := L) (b := C) (x := 6) (y := 8) (by omega) (by omega)
  have hL0 := mulLe (a := 1) (b := 1) (x := L) (y := C) (by omega) (by omega)
  refine sp_wp rfl (lv := [_, _, _]) rfl (Nat.le_of_ble_eq_true rfl) ?_
  refine w_lload_n dX10_isSet_0 rfl rfl ?_
  refine w_lconst0 dX10_isSet_1 ?_
  refine w_lc_lt 21 dX10_isSet_2 dX10_isSet_3 (by decide) (fun hneg => ?_) (fun hneg => ?_)
  · refine w_iconst dX10_isSet_21 ?_
    refine x_iret rfl (by rfl) dX10_isSet_22 ⟨?_, rfl⟩
    rw [bI_f (fun q => ?_)]
    have hm : x.msb = true := by rw [BitVec.msb_eq_toInt]; simpa using hneg
    have h2 : (x.sshiftRight (L * C)).getLsbD 63 = true := by
      rw [BitVec.getLsbD_sshiftRight, if_neg (by omega), hm]; rfl
    rw [q] at h2
    simp at h2
  · refine w_lload_n dX10_isSet_6 rfl rfl ?_
    refine w_aload_n dX10_isSet_7 rfl rfl ?_
    refine wc_V (Z := mX10_bits) (As := []) c_bits RH0 rfl kX10_bits lX10_66 iX10_bits vX10_bits dX10_isSet_8 rfl rfl rfl (Nat.le_of_ble_eq_true rfl) ⟨Nat.le_of_ble_eq_true rfl, Nat.le_of_ble_eq_true rfl⟩ ?_
    rw [v1, v3]
    refine w_lshr (L * C) (by push_cast; rfl) (by omega) dX10_isSet_11 ?_
    refine w_lconst0 dX10_isSet_12 ?_
    refine w_lc_ne 21 dX10_isSet_13 dX10_isSet_14 (by decide) (fun hz => ?_) (fun hz => ?_)
    · refine w_iconst dX10_isSet_21 ?_
      refine x_iret rfl (by rfl) dX10_isSet_22 ⟨?_, rfl⟩
      rw [bI_f hz]
    · refine w_iconst dX10_isSet_17 ?_
      refine w_goto 22 dX10_isSet_18 (by decide) ?_
      refine x_iret rfl (by rfl) dX10_isSet_22 ⟨?_, rfl⟩
      rw [bI_t hz]
set_option maxRecDepth 4000 in
theorem c_odds {r : Nat} {A : Nat → Int} {ia : Nat → Nat → Int} {la : Nat → Nat → BitVec 64} {fi : Nat → Int} {fl : Nat → BitVec 64} {h0 : HP} {L R C : Nat} {x : BitVec 64} (hT : TOP A L R C) : sp mX10_odds [.ref r, .long (lB x)] (RH r A ia la fi fl h0) 0 0 (pr (some (.int (zI (if x.sshiftRight (L * C) = 0#64 then ((oddN (cs A L C) x (L * R) : Nat) : Int) else -1)))) r A ia fi h0) := by
  obtain ⟨hI, hV, hS, h2⟩ := id hT
  obtain ⟨v1, v2, v3, v4, v5, v6, v7⟩ := id hV
  have h1 : 0 ≤ A 1 ∧ A 1 ≤ 20 := hI 1
  have h20 : 0 ≤ A 2 ∧ A 2 ≤ 20 := hI 2
  have hLC : (L : Int) * C ≤ 48 := by exact_mod_cast mulLe (a := L) (b := C) (x := 6) (y := 8) (by omega) (by omega)
  have hLC0 : (0 : Int) ≤ (L : Int) * C := by exact_mod_cast Nat.zero_le (L * C)
  have hLR : (L : Int) * R ≤ 24 := by exact_mod_cast mulLe (a := L) (b := R) (x := 6) (y := 4) (by omega) (by omega)
  have hLR0 : (0 : Int) ≤ (L : Int) * R := by exact_mod_cast Nat.zero_le (L * R)
  refine sp_wp rfl (lv := [_, _, _]) rfl (Nat.le_of_ble_eq_true rfl) ?_
  refine w_aload_n dX10_odds_0 rfl rfl ?_
  refine w_lload_n dX10_odds_1 rfl rfl ?_
  refine wc_V (Z := mX10_isSet) (As := [_]) (c_isSet hV) RH0 rfl kX10_isSet lX10_273 iX10_isSet vX10_isSet dX10_odds_2 rfl rfl rfl (Nat.le_of_ble_eq_true rfl) ⟨Nat.le_of_ble_eq_true rfl, Nat.le_of_ble_eq_true rfl⟩ ?_
  refine w_ifb_eq 16 dX10_odds_5 (by decide) (fun hs => ?_) (fun hs => ?_)
  · refine w_iconst dX10_odds_16 ?_
    refine x_iret rfl rfl dX10_odds_17 (pr_end ?_ rfl rfl rfl rfl rfl rfl rfl)
    rw [if_neg hs]
  · refine w_aload_n dX10_odds_8 rfl rfl ?_
    refine w_lload_n dX10_odds_9 rfl rfl ?_
    refine wc_V (Z := mX10_oddsOf) (As := [_]) (c_oddsOf hV) RH0 rfl kX10_oddsOf lX10_160 iX10_oddsOf vX10_oddsOf dX10_odds_10 rfl rfl rfl (Nat.le_of_ble_eq_true rfl) ⟨Nat.le_of_ble_eq_true rfl, Nat.le_of_ble_eq_true rfl⟩ ?_
    refine w_goto 17 dX10_odds_13 (by decide) ?_
    refine x_iret rfl rfl dX10_odds_17 (pr_end ?_ rfl rfl rfl rfl rfl rfl rfl)
    rw [if_pos hs]
    rfl
theorem c_bothOf {r : Nat} {A : Nat → Int} {ia : Nat → Nat → Int} {la : Nat → Nat → BitVec 64} {fi : Nat → Int} {fl : Nat → BitVec 64} {h0 : HP} {L R C c d : Nat} (hV : VC A L R C) (hc : c < L * R) (hd : d < L * R) : sp mX10_bothOf [.ref r, .int (zI (c : Int)), .int (zI (d : Int))] (RH r A ia la fi fl h0) 0 0 (pd (some (.int (zI ((pop (cs A L C c &&& cs A L C d) : Nat) : Int)))) (RH r A ia la fi fl h0)) := by
  refine sp_wp rfl (lv := [_, _, _]) rfl (Nat.le_of_ble_eq_true rfl) ?_
  refine w_aload_n dX10_bothOf_0 rfl rfl ?_
  refine w_iload_n dX10_bothOf_1 rfl rfl ?_
  refine wc_V (Z := mX10_checkSet) (As := [_]) (c_checkSet hV hc) RH0 rfl kX10_checkSet lX10_83 iX10_checkSet vX10_checkSet dX10_bothOf_2 rfl rfl rfl (Nat.le_of_ble_eq_true rfl) ⟨Nat.le_of_ble_eq_true rfl, Nat.le_of_ble_eq_true rfl⟩ ?_
  refine w_aload_n dX10_bothOf_5 rfl rfl ?_
  refine w_iload_n dX10_bothOf_6 rfl rfl ?_
  refine wc_V (Z := mX10_checkSet) (As := [_]) (c_checkSet hV hd) RH0 rfl kX10_checkSet lX10_83 iX10_checkSet vX10_checkSet dX10_bothOf_7 rfl rfl rfl (Nat.le_of_ble_eq_true rfl) ⟨Nat.le_of_ble_eq_true rfl, Nat.le_of_ble_eq_true rfl⟩ ?_
  refine w_land dX10_bothOf_10 ?_
  refine wc_S (Z := mX10_many) (As := [_]) c_many kX10_many lX10_87 sX10_many dX10_bothOf_11 rfl rfl rfl (Nat.le_of_ble_eq_true rfl) ⟨Nat.le_of_ble_eq_true rfl, Nat.le_of_ble_eq_true rfl⟩ ?_
  refine x_iret rfl rfl dX10_bothOf_14 ⟨rfl, rfl⟩

set_option maxRecDepth 4000 in
theorem c_both {r : Nat} {A : Nat → Int} {ia : Nat → Nat → Int} {la : Nat → Nat → BitVec 64} {fi : Nat → Int} {fl : Nat → BitVec 64} {h0 : HP} {L R C : Nat} {z x : Int} (hT : TOP A L R C) (hz : ok32 z) (hx : ok32 x) : sp mX10_both [.ref r, .int (zI z), .int (zI x)] (RH r A ia la fi fl h0) 0 0 (pr (some (.int (zI (if (0 ≤ z ∧ z ≤ (L : Int) * R - 1) ∧ (0 ≤ x ∧ x ≤ (L : Int) * R - 1) then ((pop (cs A L C z.toNat &&& cs A L C x.toNat) : Nat) : Int) else -1)))) r A ia fi h0) := by
  obtain ⟨hI, hV, hS, h2⟩ := id hT
  obtain ⟨v1, v2, v3, v4, v5, v6, v7⟩ := id hV
  have h1 : 0 ≤ A 1 ∧ A 1 ≤ 20 := hI 1
  have h20 : 0 ≤ A 2 ∧ A 2 ≤ 20 := hI 2
  have hLC : (L : Int) * C ≤ 48 := by exact_mod_cast mulLe (a := L) (b := C) (x := 6) (y := 8) (by omega) (by omega)
  have hLC0 : (0 : Int) ≤ (L : Int) * C := by exact_mod_cast Nat.zero_le (L * C)
  have hLR : (L : Int) * R ≤ 24 := by exact_mod_cast mulLe (a := L) (b := R) (x := 6) (y := 4) (by omega) (by omega)
  have hLR0 : (0 : Int) ≤ (L : Int) * R := by exact_mod_cast Nat.zero_le (L * R)
  refine sp_wp rfl (lv := [_, _, _]) rfl (Nat.le_of_ble_eq_true rfl) ?_
  refine w_aload_n dX10_both_0 rfl rfl ?_
  refine w_iload_n dX10_both_1 rfl rfl ?_
  refine wc_V (Z := mX10_isCheck) (As := [_]) (c_isCheck hV hz) RH0 rfl kX10_isCheck lX10_249 iX10_isCheck vX10_isCheck dX10_both_2 rfl rfl rfl (Nat.le_of_ble_eq_true rfl) ⟨Nat.le_of_ble_eq_true rfl, Nat.le_of_ble_eq_true rfl⟩ ?_
  refine w_ifb_eq 16 dX10_both_5 (by decide) (fun hc1 => ?_) (fun hc1 => ?_)
  · refine w_iconst dX10_both_16 ?_
    refine x_iret rfl rfl dX10_both_17 (pr_end ?_ rfl rfl rfl rfl rfl rfl rfl)
    rw [if_neg (fun q => hc1 q.1)]
  · refine w_aload_n dX10_both_8 rfl rfl ?_
    refine w_iload_n dX10_both_9 rfl rfl ?_
    refine wc_V (Z := mX10_isCheck) (As := [_]) (c_isCheck hV hx) RH0 rfl kX10_isCheck lX10_249 iX10_isCheck vX10_isCheck dX10_both_10 rfl rfl rfl (Nat.le_of_ble_eq_true rfl) ⟨Nat.le_of_ble_eq_true rfl, Nat.le_of_ble_eq_true rfl⟩ ?_
    refine w_ifb_ne 18 dX10_both_13 (by decide) (fun hc2 => ?_) (fun hc2 => ?_)
    rotate_left
    · refine w_iconst dX10_both_16 ?_
      refine x_iret rfl rfl dX10_both_17 (pr_end ?_ rfl rfl rfl rfl rfl rfl rfl)
      rw [if_neg (fun q => hc2 q.2)]
    · rw [if_pos ⟨hc1, hc2⟩]
      obtain ⟨c, hc⟩ : ∃ c : Nat, z = (c : Int) := ⟨z.toNat, by omega⟩
      subst hc
      obtain ⟨d, hd⟩ : ∃ d : Nat, x = (d : Int) := ⟨x.toNat, by omega⟩
      subst hd
      have h6 : ((L * R : Nat) : Int) = (L : Int) * R := by push_cast; rfl
      have hcl : c < L * R := by have h5 := hc1.2; omega
      have hdl : d < L * R := by have h5 := hc2.2; omega
      rw [Int.toNat_natCast, Int.toNat_natCast]
      refine w_aload_n dX10_both_18 rfl rfl ?_
      refine w_iload_n dX10_both_19 rfl rfl ?_
      refine w_iload_n dX10_both_20 rfl rfl ?_
      refine wc_V (Z := mX10_bothOf) (As := [_, _]) (c_bothOf hV hcl hdl) RH0 rfl kX10_bothOf lX10_260 iX10_bothOf vX10_bothOf dX10_both_21 rfl rfl rfl (Nat.le_of_ble_eq_true rfl) ⟨Nat.le_of_ble_eq_true rfl, Nat.le_of_ble_eq_true rfl⟩ ?_
      exact x_iret rfl rfl dX10_both_24 (pr_end rfl rfl rfl rfl rfl rfl rfl rfl)
def lsB (sh : Nat → Int) (L m : Nat) : Nat → BitVec 64
  | 0 => 0#64
  | b + 1 => if dgN sh L b m = 0 then lsB sh L m b ||| (1#64 <<< b) else lsB sh L m b

set_option maxRecDepth 4000 in
theorem c_loose {r : Nat} {A : Nat → Int} {ia : Nat → Nat → Int} {la : Nat → Nat → BitVec 64} {fi : Nat → Int} {fl : Nat → BitVec 64} {h0 : HP} {L R C : Nat}  (hT : TOP A L R C) : sp mX10_loose [.ref r] (RH r A ia la fi fl h0) 0 0 (pr (some (.long (lB (lsB (shA A) L (L * R) (L * C))))) r A ia fi h0) := by
  obtain ⟨hI, hV, hS, h2⟩ := id hT
  obtain ⟨v1, v2, v3, v4, v5, v6, v7⟩ := id hV
  have h1 : 0 ≤ A 1 ∧ A 1 ≤ 20 := hI 1
  have h20 : 0 ≤ A 2 ∧ A 2 ≤ 20 := hI 2
  have hLC : (L : Int) * C ≤ 48 := by exact_mod_cast mulLe (a := L) (b := C) (x := 6) (y := 8) (by omega) (by omega)
  have hLC0 : (0 : Int) ≤ (L : Int) * C := by exact_mod_cast Nat.zero_le (L * C)
  have hLR : (L : Int) * R ≤ 24 := by exact_mod_cast mulLe (a := L) (b := R) (x := 6) (y := 4) (by omega) (by omega)
  have hLR0 : (0 : Int) ≤ (L : Int) * R := by exact_mod_cast Nat.zero_le (L * R)
  have hLCn := mulLe (a := L) (b := C) (x := 6) (y := 8) (by omega) (by omega)
  refine sp_wp rfl (lv := [_, _, _, _]) rfl (Nat.le_of_ble_eq_true rfl) ?_
  refine w_lconst0 dX10_loose_0 ?_
  refine w_lstore_n (lv' := [_, _, _, _]) dX10_loose_1 rfl (Nat.le_of_ble_eq_true rfl) rfl rfl ?_
  refine w_iconst dX10_loose_2 ?_
  refine w_istore_n (lv' := [_, _, _, _]) dX10_loose_3 rfl (Nat.le_of_ble_eq_true rfl) rfl rfl ?_
  refine up_ind (N := L * C) (P := fun b => wp mX10_loose 4 [.ref r, .long (lB (lsB (shA A) L (L * R) b)), jk, .int (zI (b : Int))] [] (RH r A ia la fi fl h0) 0 0 (pr (some (.long (lB (lsB (shA A) L (L * R) (L * C))))) r A ia fi h0)) (fun b hb ih => ?_) 0 (Nat.zero_le _)
  refine w_iload_n dX10_loose_4 rfl rfl ?_
  refine w_aload_n dX10_loose_5 rfl rfl ?_
  refine wc_V (Z := mX10_bits) (As := []) c_bits RH0 rfl kX10_bits lX10_66 iX10_bits vX10_bits dX10_loose_6 rfl rfl rfl (Nat.le_of_ble_eq_true rfl) ⟨Nat.le_of_ble_eq_true rfl, Nat.le_of_ble_eq_true rfl⟩ ?_
  rw [v1, v3]
  refine w_icmp_ge 32 dX10_loose_9 (by decide) (by unfold ok32; omega) (by unfold ok32; omega) (fun hn => ?_) (fun hn => ?_)
  · refine w_lload_n dX10_loose_32 rfl rfl ?_
    refine x_lret rfl dX10_loose_33 (pr_end ?_ rfl rfl rfl rfl rfl rfl rfl)
    rw [show b = L * C by omega]
  · have hdl := pn_le (fun c => decide (bitN (shA A) L c (b / L) = (b : Int))) (L * R)
    have hLRn := mulLe (a := L) (b := R) (x := 6) (y := 4) (by omega) (by omega)
    refine w_aload_n dX10_loose_12 rfl rfl ?_
    refine w_iload_n dX10_loose_13 rfl rfl ?_
    refine wc_V (Z := mX10_degree) (As := [_]) (c_degree hT (by unfold ok32; omega)) RH0 rfl kX10_degree lX10_263 iX10_degree vX10_degree dX10_loose_14 rfl rfl rfl (Nat.le_of_ble_eq_true rfl) ⟨Nat.le_of_ble_eq_true rfl, Nat.le_of_ble_eq_true rfl⟩ ?_
    rw [if_pos ⟨by omega, by rw [show (L : Int) * C = ((L * C : Nat) : Int) by push_cast; rfl]; omega⟩, Int.toNat_natCast]
    refine w_if_ne 26 dX10_loose_17 (by decide) (by unfold ok32 dgN; omega) (fun hz => ?_) (fun hz => ?_)
    · refine w_iinc (lv' := [_, _, _, _]) dX10_loose_26 rfl rfl rfl ?_
      refine w_goto 4 dX10_loose_29 (by decide) ?_
      refine w_cast ?_ rfl rfl (ih (by omega))
      rw [lsB, if_neg (by omega)]
      rfl
    · refine w_lload_n dX10_loose_20 rfl rfl ?_
      refine w_lconst1 dX10_loose_21 ?_
      refine w_iload_n dX10_loose_22 rfl rfl ?_
      refine w_lshl _ rfl (by omega) dX10_loose_23 ?_
      refine w_lor dX10_loose_24 ?_
      refine w_lstore_n (lv' := [_, _, _, _]) dX10_loose_25 rfl (Nat.le_of_ble_eq_true rfl) rfl rfl ?_
      refine w_iinc (lv' := [_, _, _, _]) dX10_loose_26 rfl rfl rfl ?_
      refine w_goto 4 dX10_loose_29 (by decide) ?_
      refine w_cast ?_ rfl rfl (ih (by omega))
      rw [lsB, if_pos (by omega)]
      rfl
