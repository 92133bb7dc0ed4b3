/-- one more row of rings: checks used, bits reached, whether there are more -/
def rgN (c : Nat → BitVec 64) (s u : BitVec 64) : Nat → BitVec 64 × BitVec 64 × Bool
  | 0 => (u, s, false)
  | n + 1 => if (rgN c s u n).1.getLsbD n = true ∨ c n &&& s = 0#64 then rgN c s u n else ((rgN c s u n).1 ||| (1#64 <<< n), (rgN c s u n).2.1 ||| c n, true)
def rgF (c : Nat → BitVec 64) (m b : Nat) : Nat → BitVec 64 → BitVec 64 → Int → Int
  | 0, _, _, _ => -1
  | f + 1, s, u, l => if (rgN c s u m).2.1.getLsbD b = true then l + 2 else if (rgN c s u m).2.2 = true then rgF c m b f (rgN c s u m).2.1 (rgN c s u m).1 (l + 2) else -1
theorem rgN_sub {c : Nat → BitVec 64} {s u : BitVec 64} {i : Nat} (h : u.getLsbD i = true) : ∀ {n : Nat}, (rgN c s u n).1.getLsbD i = true
  | 0 => h
  | n + 1 => by
    unfold rgN
    split
    · exact rgN_sub h
    · show ((rgN c s u n).1 ||| _).getLsbD i = true
      rw [BitVec.getLsbD_or, rgN_sub h]; rfl
theorem rgN_more {c : Nat → BitVec 64} {s u : BitVec 64} : ∀ {n : Nat}, n ≤ 64 → (rgN c s u n).2.2 = true → ∃ i, i < n ∧ u.getLsbD i = false ∧ (rgN c s u n).1.getLsbD i = true
  | 0, _, h => by cases h
  | n + 1, hn, h => by
    unfold rgN at h ⊢
    split
    · rename_i hc
      rw [if_pos hc] at h
      obtain ⟨i, a1, a2, a3⟩ := rgN_more (by omega) h
      exact ⟨i, by omega, a2, a3⟩
    · rename_i hc
      refine ⟨n, by omega, ?_, ?_⟩
      · cases hu : u.getLsbD n with
        | false => rfl
        | true => exact absurd (Or.inl (rgN_sub hu)) hc
      · show ((rgN c s u n).1 ||| _).getLsbD n = true
        rw [BitVec.getLsbD_or, bit1o (by omega)]; simp
theorem rgF_rng {c : Nat → BitVec 64} {m b : Nat} : ∀ {f : Nat} {s u : BitVec 64} {l : Int}, 0 ≤ l → -1 ≤ rgF c m b f s u l ∧ rgF c m b f s u l ≤ l + 2 * f
  | 0, s, u, l, h => by unfold rgF; omega
  | f + 1, s, u, l, h => by
    unfold rgF
    split
    · omega
    · split
      · have := rgF_rng (c := c) (m := m) (b := b) (f := f) (s := (rgN c s u m).2.1) (u := (rgN c s u m).1) (l := l + 2) (by omega)
        omega
      · omega
set_option maxRecDepth 4000 in
theorem c_ringBy {r : Nat} {A : Nat → Int} {ia : Nat → Nat → Int} {la : Nat → Nat → BitVec 64} {fi : Nat → Int} {fl : Nat → BitVec 64} {h0 : HP} {L R C c b : Nat} (hV : VC A L R C) (hc : c < L * R) (hb : b < 48) : sp mX10_ringBy [.ref r, .int (zI (c : Int)), .int (zI (b : Int))] (RH r A ia la fi fl h0) 0 0 (pd (some (.int (zI (rgF (cs A L C) (L * R) b 64 (cs A L C c &&& ~~~(1#64 <<< b)) (1#64 <<< c) 2)))) (RH r A ia la fi fl h0)) := by
  obtain ⟨v1, v2, v3, v4, v5, v6, v7⟩ := id hV
  have hLR := mulLe (a := L) (b := R) (x := 6) (y := 4) (by omega) (by omega)
  refine sp_wp rfl (lv := [_, _, _, _, _, _, _, _, _, _, _, _]) rfl (Nat.le_of_ble_eq_true rfl) ?_
  refine w_aload_n dX10_ringBy_0 rfl rfl ?_
  refine w_iload_n dX10_ringBy_1 rfl rfl ?_
  refine wc_V (Z := mX10_checkSet) (As := [_]) (c_checkSet hV hc) RH0 rfl kX10_checkSet lX10_83 iX10_checkSet vX10_checkSet dX10_ringBy_2 rfl rfl rfl (Nat.le_of_ble_eq_true rfl) ⟨Nat.le_of_ble_eq_true rfl, Nat.le_of_ble_eq_true rfl⟩ ?_
  refine w_lconst1 dX10_ringBy_5 ?_
  refine w_iload_n dX10_ringBy_6 rfl rfl ?_
  refine w_lshl _ rfl (by omega) dX10_ringBy_7 ?_
  refine w_ldc2B (-1#64) qX10_255 (by decide) dX10_ringBy_8 ?_
  refine w_lxor dX10_ringBy_11 ?_
  rw [nx, show csetN (shA A) L c C = cs A L C c from rfl]
  refine w_land dX10_ringBy_12 ?_
  refine w_lstore_n (lv' := [_, _, _, _, _, _, _, _, _, _, _, _]) dX10_ringBy_13 rfl (Nat.le_of_ble_eq_true rfl) rfl rfl ?_
  refine w_lconst1 dX10_ringBy_14 ?_
  refine w_iload_n dX10_ringBy_15 rfl rfl ?_
  refine w_lshl _ rfl (by omega) dX10_ringBy_16 ?_
  refine w_lstore (lv' := [_, _, _, _, _, _, _, _, _, _, _, _]) dX10_ringBy_17 (Nat.le_of_ble_eq_true rfl) rfl rfl ?_
  refine w_iconst dX10_ringBy_19 ?_
  refine w_istore (lv' := [_, _, _, _, _, _, _, _, _, _, _, _]) dX10_ringBy_20 (Nat.le_of_ble_eq_true rfl) rfl rfl ?_
  refine w_iconst dX10_ringBy_22 ?_
  refine w_istore (lv' := [_, _, _, _, _, _, _, _, _, _, _, _]) dX10_ringBy_23 (Nat.le_of_ble_eq_true rfl) rfl rfl ?_
  obtain ⟨V0, hV0⟩ : ∃ V0, rgF (cs A L C) (L * R) b 64 (cs A L C c &&& ~~~(1#64 <<< b)) (1#64 <<< c) 2 = V0 := ⟨_, rfl⟩
  rw [hV0]
  have h6 : 0 < pop (1#64 <<< c) := pn_pos (t := c) (by omega) (by rw [bit1 (by omega) (by omega)]; simp)
  have key : ∀ (f : Nat) (s u : BitVec 64) (l : Int) (x9 x11 : Value), 65 ≤ pop u + f → rgF (cs A L C) (L * R) b f s u l = V0 → wp mX10_ringBy 25 [.ref r, .int (zI (c : Int)), .int (zI (b : Int)), .long (lB s), jk, .long (lB u), jk, .int (zI l), .int (zI 1), x9, jk, x11] [] (RH r A ia la fi fl h0) 0 0 (pd (some (.int (zI V0))) (RH r A ia la fi fl h0)) := by
    intro f
    induction f with
    | zero => intro s u l x9 x11 hp _; have := pop_le u; omega
    | succ f ih =>
      intro s u l x9 x11 hp hv
      unfold rgF at hv
      refine w_iload dX10_ringBy_25 rfl ?_
      refine w_if_eq 124 dX10_ringBy_27 (by decide) (by unfold ok32; omega) (fun h1 => ?_) (fun h1 => ?_)
      · exact absurd h1 (by decide)
      refine w_iconst dX10_ringBy_30 ?_
      refine w_istore (lv' := [_, _, _, _, _, _, _, _, _, _, _, _]) dX10_ringBy_31 (Nat.le_of_ble_eq_true rfl) rfl rfl ?_
      refine w_iinc (lv' := [_, _, _, _, _, _, _, _, _, _, _, _]) dX10_ringBy_33 rfl rfl rfl ?_
      refine w_lload_n dX10_ringBy_36 rfl rfl ?_
      refine w_lstore (lv' := [_, _, _, _, _, _, _, _, _, _, _, _]) dX10_ringBy_37 (Nat.le_of_ble_eq_true rfl) rfl rfl ?_
      refine w_iconst dX10_ringBy_39 ?_
      refine w_istore (lv' := [_, _, _, _, _, _, _, _, _, _, _, _]) dX10_ringBy_40 (Nat.le_of_ble_eq_true rfl) rfl rfl ?_
      refine up_ind (N := L * R) (P := fun d => wp mX10_ringBy 42 [.ref r, .int (zI (c : Int)), .int (zI (b : Int)), .long (lB s), jk, .long (lB (rgN (cs A L C) s u d).1), jk, .int (zI (l + 2)), .int (zI (bI ((rgN (cs A L C) s u d).2.2 = true))), .long (lB (rgN (cs A L C) s u d).2.1), jk, .int (zI (d : Int))] [] (RH r A ia la fi fl h0) 0 0 (pd (some (.int (zI V0))) (RH r A ia la fi fl h0))) (fun d hd ih2 => ?_) 0 (Nat.zero_le _)
      refine w_iload dX10_ringBy_42 rfl ?_
      refine w_aload_n dX10_ringBy_44 rfl rfl ?_
      refine wc_V (Z := mX10_checks) (As := []) c_checks RH0 rfl kX10_checks lX10_74 iX10_checks vX10_checks dX10_ringBy_45 rfl rfl rfl (Nat.le_of_ble_eq_true rfl) ⟨Nat.le_of_ble_eq_true rfl, Nat.le_of_ble_eq_true rfl⟩ ?_
      rw [v1, v2]
      refine w_icmp_ge 106 dX10_ringBy_48 (by decide) (by unfold ok32; omega) (by unfold ok32; omega) (fun hn => ?_) (fun hn => ?_)
      · have ed : d = L * R := by omega
        subst ed
        clear ih2
        refine w_lload dX10_ringBy_106 rfl ?_
        refine w_iload_n dX10_ringBy_108 rfl rfl ?_
        refine wc_S (Z := mX10_hasIt) (As := [_, _]) (c_hasIt (by omega)) kX10_hasIt lX10_62 sX10_hasIt dX10_ringBy_109 rfl rfl rfl (Nat.le_of_ble_eq_true rfl) ⟨Nat.le_of_ble_eq_true rfl, Nat.le_of_ble_eq_true rfl⟩ ?_
        refine w_ifb_eq 118 dX10_ringBy_112 (by decide) (fun hbt => ?_) (fun hbt => ?_)
        · rw [if_neg hbt] at hv
          refine w_lload dX10_ringBy_118 rfl ?_
          refine w_lstore_n (lv' := [_, _, _, _, _, _, _, _, _, _, _, _]) dX10_ringBy_120 rfl (Nat.le_of_ble_eq_true rfl) rfl rfl ?_
          refine w_goto 25 dX10_ringBy_121 (by decide) ?_
          by_cases hm : (rgN (cs A L C) s u (L * R)).2.2 = true
          · rw [if_pos hm] at hv
            rw [bI_t hm]
            obtain ⟨i, i1, i2, i3⟩ := rgN_more (by omega) hm
            have h5 := pop_lt (x := u) (y := (rgN (cs A L C) s u (L * R)).1) (fun i _ h => rgN_sub h) (fun q => by rw [q, i2] at i3; cases i3)
            exact ih _ _ _ _ _ (by omega) hv
          · rw [if_neg hm] at hv
            rw [bI_f hm]
            refine w_iload dX10_ringBy_25 rfl ?_
            refine w_if_eq 124 dX10_ringBy_27 (by decide) (by unfold ok32; omega) (fun h1 => ?_) (fun h1 => ?_)
            · refine w_iconst dX10_ringBy_124 ?_
              refine x_iret rfl rfl dX10_ringBy_125 ⟨?_, rfl⟩
              rw [hv]
            · exact absurd rfl h1
        · rw [if_pos hbt] at hv
          refine w_iload dX10_ringBy_115 rfl ?_
          refine x_iret rfl rfl dX10_ringBy_117 ⟨?_, rfl⟩
          rw [hv]
      · refine w_lload dX10_ringBy_51 rfl ?_
        refine w_iload dX10_ringBy_53 rfl ?_
        refine wc_S (Z := mX10_hasIt) (As := [_, _]) (c_hasIt (by omega)) kX10_hasIt lX10_62 sX10_hasIt dX10_ringBy_55 rfl rfl rfl (Nat.le_of_ble_eq_true rfl) ⟨Nat.le_of_ble_eq_true rfl, Nat.le_of_ble_eq_true rfl⟩ ?_
        refine w_ifb_ne 100 dX10_ringBy_58 (by decide) (fun hu => ?_) (fun hu => ?_)
        · refine w_iinc (lv' := [_, _, _, _, _, _, _, _, _, _, _, _]) dX10_ringBy_100 rfl rfl rfl ?_
          refine w_goto 42 dX10_ringBy_103 (by decide) ?_
          refine w_cast ?_ rfl rfl (ih2 (by omega))
          rw [rgN, if_pos (Or.inl hu)]
          rfl
        · refine w_aload_n dX10_ringBy_61 rfl rfl ?_
          refine w_iload dX10_ringBy_62 rfl ?_
          refine wc_V (Z := mX10_checkSet) (As := [_]) (c_checkSet hV (by omega)) RH0 rfl kX10_checkSet lX10_83 iX10_checkSet vX10_checkSet dX10_ringBy_64 rfl rfl rfl (Nat.le_of_ble_eq_true rfl) ⟨Nat.le_of_ble_eq_true rfl, Nat.le_of_ble_eq_true rfl⟩ ?_
          refine w_lload_n dX10_ringBy_67 rfl rfl ?_
          refine w_land dX10_ringBy_68 ?_
          refine w_lconst0 dX10_ringBy_69 ?_
          refine w_lc_ne 77 dX10_ringBy_70 dX10_ringBy_71 (by decide) (fun hz => ?_) (fun hz => ?_)
          rotate_left
          · refine w_goto 100 dX10_ringBy_74 (by decide) ?_
            refine w_iinc (lv' := [_, _, _, _, _, _, _, _, _, _, _, _]) dX10_ringBy_100 rfl rfl rfl ?_
            refine w_goto 42 dX10_ringBy_103 (by decide) ?_
            refine w_cast ?_ rfl rfl (ih2 (by omega))
            rw [rgN, if_pos (Or.inr (show cs A L C d &&& s = 0#64 from hz))]
            rfl
          · refine w_lload dX10_ringBy_77 rfl ?_
            refine w_lconst1 dX10_ringBy_79 ?_
            refine w_iload dX10_ringBy_80 rfl ?_
            refine w_lshl _ rfl (by omega) dX10_ringBy_82 ?_
            refine w_lor dX10_ringBy_83 ?_
            refine w_lstore (lv' := [_, _, _, _, _, _, _, _, _, _, _, _]) dX10_ringBy_84 (Nat.le_of_ble_eq_true rfl) rfl rfl ?_
            refine w_lload dX10_ringBy_86 rfl ?_
            refine w_aload_n dX10_ringBy_88 rfl rfl ?_
            refine w_iload dX10_ringBy_89 rfl ?_
            refine wc_V (Z := mX10_checkSet) (As := [_]) (c_checkSet hV (by omega)) RH0 rfl kX10_checkSet lX10_83 iX10_checkSet vX10_checkSet dX10_ringBy_91 rfl rfl rfl (Nat.le_of_ble_eq_true rfl) ⟨Nat.le_of_ble_eq_true rfl, Nat.le_of_ble_eq_true rfl⟩ ?_
            refine w_lor dX10_ringBy_94 ?_
            refine w_lstore (lv' := [_, _, _, _, _, _, _, _, _, _, _, _]) dX10_ringBy_95 (Nat.le_of_ble_eq_true rfl) rfl rfl ?_
            refine w_iconst dX10_ringBy_97 ?_
            refine w_istore (lv' := [_, _, _, _, _, _, _, _, _, _, _, _]) dX10_ringBy_98 (Nat.le_of_ble_eq_true rfl) rfl rfl ?_
            refine w_iinc (lv' := [_, _, _, _, _, _, _, _, _, _, _, _]) dX10_ringBy_100 rfl rfl rfl ?_
            refine w_goto 42 dX10_ringBy_103 (by decide) ?_
            refine w_cast ?_ rfl rfl (ih2 (by omega))
            rw [rgN, if_neg (fun q => q.elim hu (show ¬ cs A L C d &&& s = 0#64 from hz))]
            rfl
  exact key 64 _ _ _ _ _ (by omega) hV0
/-- the shortest ring, column by column -/
def gr2 (g : Nat → Nat → Int) (c : Nat) : Nat → Int → Int
  | 0, l => l
  | j + 1, l => if ¬ g c j = -1 ∧ (gr2 g c j l = -1 ∨ g c j < gr2 g c j l) then g c j else gr2 g c j l
def gr1 (g : Nat → Nat → Int) (C : Nat) : Nat → Int
  | 0 => -1
  | c + 1 => gr2 g c C (gr1 g C c)
theorem gr2_rng {g : Nat → Nat → Int} {c : Nat} {l : Int} (hl : -1 ≤ l ∧ l ≤ 200) : ∀ {j : Nat}, (∀ i, i < j → -1 ≤ g c i ∧ g c i ≤ 200) → -1 ≤ gr2 g c j l ∧ gr2 g c j l ≤ 200
  | 0, _ => hl
  | j + 1, h => by
    have ih := gr2_rng (g := g) (c := c) hl (j := j) (fun i hi => h i (by omega))
    have := h j (by omega)
    unfold gr2
    split
    · exact this
    · exact ih
theorem gr1_rng {g : Nat → Nat → Int} {C : Nat} : ∀ {c : Nat}, (∀ i, i < c → ∀ j, j < C → -1 ≤ g i j ∧ g i j ≤ 200) → -1 ≤ gr1 g C c ∧ gr1 g C c ≤ 200
  | 0, _ => ⟨by show (-1 : Int) ≤ -1; decide, by show (-1 : Int) ≤ 200; decide⟩
  | c + 1, h => gr2_rng (gr1_rng (fun i hi => h i (by omega))) (fun j hj => h c (by omega) j hj)
def ringV (A : Nat → Int) (L R C c j : Nat) : Int := if bitN (shA A) L c j = -1 then -1 else rgF (cs A L C) (L * R) (bitN (shA A) L c j).toNat 64 (cs A L C c &&& ~~~(1#64 <<< (bitN (shA A) L c j).toNat)) (1#64 <<< c) 2
theorem ringV_rng {A : Nat → Int} {L R C c j : Nat} : -1 ≤ ringV A L R C c j ∧ ringV A L R C c j ≤ 200 := by
  unfold ringV
  split
  · omega
  · have := rgF_rng (c := (cs A L C)) (m := L * R) (b := (bitN (shA A) L c j).toNat) (f := 64) (s := cs A L C c &&& ~~~(1#64 <<< (bitN (shA A) L c j).toNat)) (u := 1#64 <<< c) (l := 2) (by omega)
    omega

set_option maxRecDepth 4000 in
theorem c_girth {r : Nat} {A : Nat → Int} {ia : Nat → Nat → Int} {la : Nat → Nat → BitVec 64} {fi : Nat → Int} {fl : Nat → BitVec 64} {h0 : HP} {L R C : Nat}  (hT : TOP A L R C) : sp mX10_girth [.ref r] (RH r A ia la fi fl h0) 0 0 (pr (some (.int (zI (gr1 (ringV A L R C) C (L * R))))) r A ia fi h0) := by
  obtain ⟨hI, hV, hS, h2⟩ := id hT
  obtain ⟨v1, v2, v3, v4, v5, v6, v7⟩ := id hV
  have h1 : 0 ≤ A 1 ∧ A 1 ≤ 20 := hI 1
  have h20 : 0 ≤ A 2 ∧ A 2 ≤ 20 := hI 2
  have hLC : (L : Int) * C ≤ 48 := by exact_mod_cast mulLe (a := L) (b := C) (x := 6) (y := 8) (by omega) (by omega)
  have hLC0 : (0 : Int) ≤ (L : Int) * C := by exact_mod_cast Nat.zero_le (L * C)
  have hLR : (L : Int) * R ≤ 24 := by exact_mod_cast mulLe (a := L) (b := R) (x := 6) (y := 4) (by omega) (by omega)
  have hLR0 : (0 : Int) ≤ (L : Int) * R := by exact_mod_cast Nat.zero_le (L * R)
  have hLRn := mulLe (a := L) (b := R) (x := 6) (y := 4) (by omega) (by omega)
  refine sp_wp rfl (lv := [_, _, _, _, _]) rfl (Nat.le_of_ble_eq_true rfl) ?_
  refine w_iconst dX10_girth_0 ?_
  refine w_istore_n (lv' := [_, _, _, _, _]) dX10_girth_1 rfl (Nat.le_of_ble_eq_true rfl) rfl rfl ?_
  refine w_iconst dX10_girth_2 ?_
  refine w_istore_n (lv' := [_, _, _, _, _]) dX10_girth_3 rfl (Nat.le_of_ble_eq_true rfl) rfl rfl ?_
  have key : ∀ c : Nat, c ≤ L * R → ∀ x3 x4 : Value, wp mX10_girth 4 [.ref r, .int (zI (gr1 (ringV A L R C) C c)), .int (zI (c : Int)), x3, x4] [] (RH r A ia la fi fl h0) 0 0 (pr (some (.int (zI (gr1 (ringV A L R C) C (L * R))))) r A ia fi h0) := by
    refine up_ind (N := L * R) (fun c hc ih => ?_)
    intro x3 x4
    have g1 := gr1_rng (g := ringV A L R C) (C := C) (c := c) (fun _ _ _ _ => ringV_rng)
    refine w_iload_n dX10_girth_4 rfl rfl ?_
    refine w_aload_n dX10_girth_5 rfl rfl ?_
    refine wc_V (Z := mX10_checks) (As := []) c_checks RH0 rfl kX10_checks lX10_74 iX10_checks vX10_checks dX10_girth_6 rfl rfl rfl (Nat.le_of_ble_eq_true rfl) ⟨Nat.le_of_ble_eq_true rfl, Nat.le_of_ble_eq_true rfl⟩ ?_
    rw [v1, v2]
    refine w_icmp_ge 83 dX10_girth_9 (by decide) (by unfold ok32; omega) (by unfold ok32; omega) (fun hn => ?_) (fun hn => ?_)
    · refine w_iload_n dX10_girth_83 rfl rfl ?_
      refine x_iret rfl rfl dX10_girth_84 (pr_end ?_ rfl rfl rfl rfl rfl rfl rfl)
      rw [show c = L * R by omega]
    · have hrow := rowLt (show c < L * R by omega) v4.1
      refine w_iconst dX10_girth_12 ?_
      refine w_istore_n (lv' := [_, _, _, _, _]) dX10_girth_13 rfl (Nat.le_of_ble_eq_true rfl) rfl rfl ?_
      have key2 : ∀ j : Nat, j ≤ C → ∀ x4 : Value, wp mX10_girth 14 [.ref r, .int (zI (gr2 (ringV A L R C) c j (gr1 (ringV A L R C) C c))), .int (zI (c : Int)), .int (zI (j : Int)), x4] [] (RH r A ia la fi fl h0) 0 0 (pr (some (.int (zI (gr1 (ringV A L R C) C (L * R))))) r A ia fi h0) := by
        refine up_ind (N := C) (fun j hj ih2 => ?_)
        intro x4
        have g2 := gr2_rng (g := ringV A L R C) (c := c) g1 (j := j) (fun _ _ => ringV_rng)
        refine w_iload_n dX10_girth_14 rfl rfl ?_
        refine w_aload_n dX10_girth_15 rfl rfl ?_
        refine w_getf fX10_7 dX10_girth_16 RH0 rfl ?_
        refine w_iconst dX10_girth_19 ?_
        refine w_iald 5 RH1 rfl (by decide) (by decide) dX10_girth_20 ?_
        rw [v3]
        refine w_icmp_ge 77 dX10_girth_21 (by decide) (by unfold ok32; omega) (by unfold ok32; omega) (fun hj2 => ?_) (fun hj2 => ?_)
        · refine w_iinc (lv' := [_, _, _, _, _]) dX10_girth_77 rfl rfl rfl ?_
          refine w_goto 4 dX10_girth_80 (by decide) ?_
          have ej : j = C := by omega
          subst ej
          exact ih (by omega) _ _
        · have hb := bitN_le (sh := shA A) (L := L) (C := C) (c := c) (j := j) v4 (by omega) v6.2 (v7 _ (by omega)).1
          have g3 := ringV_rng (A := A) (L := L) (R := R) (C := C) (c := c) (j := j)
          have tail : wp mX10_girth 49 [.ref r, .int (zI (gr2 (ringV A L R C) c j (gr1 (ringV A L R C) C c))), .int (zI (c : Int)), .int (zI (j : Int)), x4] [.int (zI (ringV A L R C c j))] (RH r A ia la fi fl h0) 0 0 (pr (some (.int (zI (gr1 (ringV A L R C) C (L * R))))) r A ia fi h0) := by
            refine w_istore (lv' := [_, _, _, _, _]) dX10_girth_49 (Nat.le_of_ble_eq_true rfl) rfl rfl ?_
            refine w_iload dX10_girth_51 rfl ?_
            refine w_iconst dX10_girth_53 ?_
            refine w_icmp_eq 71 dX10_girth_54 (by decide) (by unfold ok32; omega) (by unfold ok32; omega) (fun hr1 => ?_) (fun hr1 => ?_)
            · refine w_iinc (lv' := [_, _, _, _, _]) dX10_girth_71 rfl rfl rfl ?_
              refine w_goto 14 dX10_girth_74 (by decide) ?_
              have h5 := ih2 (by omega) (.int (zI (ringV A L R C c j)))
              rw [gr2, if_neg (fun q => q.1 hr1)] at h5
              exact h5
            · refine w_iload_n dX10_girth_57 rfl rfl ?_
              refine w_iconst dX10_girth_58 ?_
              refine w_icmp_eq 68 dX10_girth_59 (by decide) (by unfold ok32; omega) (by unfold ok32; omega) (fun hr2 => ?_) (fun hr2 => ?_)
              · refine w_iload dX10_girth_68 rfl ?_
                refine w_istore_n (lv' := [_, _, _, _, _]) dX10_girth_70 rfl (Nat.le_of_ble_eq_true rfl) rfl rfl ?_
                refine w_iinc (lv' := [_, _, _, _, _]) dX10_girth_71 rfl rfl rfl ?_
                refine w_goto 14 dX10_girth_74 (by decide) ?_
                have h5 := ih2 (by omega) (.int (zI (ringV A L R C c j)))
                rw [gr2, if_pos ⟨hr1, Or.inl hr2⟩] at h5
                exact h5
              · refine w_iload dX10_girth_62 rfl ?_
                refine w_iload_n dX10_girth_64 rfl rfl ?_
                refine w_icmp_ge 71 dX10_girth_65 (by decide) (by unfold ok32; omega) (by unfold ok32; omega) (fun hr3 => ?_) (fun hr3 => ?_)
                · refine w_iinc (lv' := [_, _, _, _, _]) dX10_girth_71 rfl rfl rfl ?_
                  refine w_goto 14 dX10_girth_74 (by decide) ?_
                  have h5 := ih2 (by omega) (.int (zI (ringV A L R C c j)))
                  rw [gr2, if_neg (fun q => q.2.elim hr2 (fun z => by omega))] at h5
                  exact h5
                · refine w_iload dX10_girth_68 rfl ?_
                  refine w_istore_n (lv' := [_, _, _, _, _]) dX10_girth_70 rfl (Nat.le_of_ble_eq_true rfl) rfl rfl ?_
                  refine w_iinc (lv' := [_, _, _, _, _]) dX10_girth_71 rfl rfl rfl ?_
                  refine w_goto 14 dX10_girth_74 (by decide) ?_
                  have h5 := ih2 (by omega) (.int (zI (ringV A L R C c j)))
                  rw [gr2, if_pos ⟨hr1, Or.inr (by omega)⟩] at h5
                  exact h5
          refine w_aload_n dX10_girth_24 rfl rfl ?_
          refine w_iload_n dX10_girth_25 rfl rfl ?_
          refine w_iload_n dX10_girth_26 rfl rfl ?_
          refine wc_V (Z := mX10_bitOf) (As := [_, _]) (c_bitOf hV (by omega) (by omega)) RH0 rfl kX10_bitOf lX10_77 iX10_bitOf vX10_bitOf dX10_girth_27 rfl rfl rfl (Nat.le_of_ble_eq_true rfl) ⟨Nat.le_of_ble_eq_true rfl, Nat.le_of_ble_eq_true rfl⟩ ?_
          refine w_iconst dX10_girth_30 ?_
          refine w_icmp_ne 38 dX10_girth_31 (by decide) (by unfold ok32; omega) (by unfold ok32; omega) (fun hbt => ?_) (fun hbt => ?_)
          · refine w_aload_n dX10_girth_38 rfl rfl ?_
            refine w_iload_n dX10_girth_39 rfl rfl ?_
            refine w_aload_n dX10_girth_40 rfl rfl ?_
            refine w_iload_n dX10_girth_41 rfl rfl ?_
            refine w_iload_n dX10_girth_42 rfl rfl ?_
            refine wc_V (Z := mX10_bitOf) (As := [_, _]) (c_bitOf hV (by omega) (by omega)) RH0 rfl kX10_bitOf lX10_77 iX10_bitOf vX10_bitOf dX10_girth_43 rfl rfl rfl (Nat.le_of_ble_eq_true rfl) ⟨Nat.le_of_ble_eq_true rfl, Nat.le_of_ble_eq_true rfl⟩ ?_
            rw [show bitN (shA A) L c j = (((bitN (shA A) L c j).toNat : Nat) : Int) by omega]
            refine wc_V (Z := mX10_ringBy) (As := [_, _]) (c_ringBy hV (by omega) (by omega)) RH0 rfl kX10_ringBy lX10_257 iX10_ringBy vX10_ringBy dX10_girth_46 rfl rfl rfl (Nat.le_of_ble_eq_true rfl) ⟨Nat.le_of_ble_eq_true rfl, Nat.le_of_ble_eq_true rfl⟩ ?_
            refine w_cast rfl ?_ rfl tail
            rw [ringV, if_neg hbt]
          · refine w_iconst dX10_girth_34 ?_
            refine w_goto 49 dX10_girth_35 (by decide) ?_
            refine w_cast rfl ?_ rfl tail
            rw [ringV, if_pos hbt]
      exact key2 0 (Nat.zero_le _) _
  exact key 0 (Nat.zero_le _) _ _
def fr2 (p : Nat → Nat → Nat) (c : Nat) : Nat → Nat
  | 0 => 0
  | e + 1 => fr2 p c e + p c e * (p c e - 1) / 2
def fr1 (p : Nat → Nat → Nat) : Nat → Nat
  | 0 => 0
  | c + 1 => fr1 p c + fr2 p c c
theorem tri (p : Nat) : (p : Int) * ((p : Int) - 1) = ((p * (p - 1) : Nat) : Int) := by
  cases p with
  | zero => rfl
  | succ q => rw [show (((q + 1 : Nat) : Int) - 1) = (q : Int) by push_cast; omega, show q + 1 - 1 = q from rfl]; push_cast; rfl

set_option maxRecDepth 4000 in
theorem c_fours {r : Nat} {A : Nat → Int} {ia : Nat → Nat → Int} {la : Nat → Nat → BitVec 64} {fi : Nat → Int} {fl : Nat → BitVec 64} {h0 : HP} {L R C : Nat}  (hT : TOP A L R C) : sp mX10_fours [.ref r] (RH r A ia la fi fl h0) 0 0 (pr (some (.int (zI (((fr1 (fun c e => pop (cs A L C c &&& cs A L C e)) (L * R) : Nat) : Int))))) r A ia fi h0) := by
  obtain ⟨hI, hV, hS, h2⟩ := id hT
  obtain ⟨v1, v2, v3, v4, v5, v6, v7⟩ := id hV
  have h1 : 0 ≤ A 1 ∧ A 1 ≤ 20 := hI 1
  have h20 : 0 ≤ A 2 ∧ A 2 ≤ 20 := hI 2
  have hLC : (L : Int) * C ≤ 48 := by exact_mod_cast mulLe (a := L) (b := C) (x := 6) (y := 8) (by omega) (by omega)
  have hLC0 : (0 : Int) ≤ (L : Int) * C := by exact_mod_cast Nat.zero_le (L * C)
  have hLR : (L : Int) * R ≤ 24 := by exact_mod_cast mulLe (a := L) (b := R) (x := 6) (y := 4) (by omega) (by omega)
  have hLR0 : (0 : Int) ≤ (L : Int) * R := by exact_mod_cast Nat.zero_le (L * R)
  have hLRn := mulLe (a := L) (b := R) (x := 6) (y := 4) (by omega) (by omega)
  refine sp_wp rfl (lv := [_, _, _, _, _]) rfl (Nat.le_of_ble_eq_true rfl) ?_
  refine w_iconst dX10_fours_0 ?_
  refine w_istore_n (lv' := [_, _, _, _, _]) dX10_fours_1 rfl (Nat.le_of_ble_eq_true rfl) rfl rfl ?_
  refine w_iconst dX10_fours_2 ?_
  refine w_istore_n (lv' := [_, _, _, _, _]) dX10_fours_3 rfl (Nat.le_of_ble_eq_true rfl) rfl rfl ?_
  have key : ∀ c : Nat, c ≤ L * R → ∀ x3 x4 : Value, wp mX10_fours 4 [.ref r, .int (zI ((fr1 (fun c e => pop (cs A L C c &&& cs A L C e)) c : Nat) : Int)), .int (zI (c : Int)), x3, x4] [] (RH r A ia la fi fl h0) 0 0 (pr (some (.int (zI (((fr1 (fun c e => pop (cs A L C c &&& cs A L C e)) (L * R) : Nat) : Int))))) r A ia fi h0) := by
    refine up_ind (N := L * R) (fun c hc ih => ?_)
    intro x3 x4
    refine w_iload_n dX10_fours_4 rfl rfl ?_
    refine w_aload_n dX10_fours_5 rfl rfl ?_
    refine wc_V (Z := mX10_checks) (As := []) c_checks RH0 rfl kX10_checks lX10_74 iX10_checks vX10_checks dX10_fours_6 rfl rfl rfl (Nat.le_of_ble_eq_true rfl) ⟨Nat.le_of_ble_eq_true rfl, Nat.le_of_ble_eq_true rfl⟩ ?_
    rw [v1, v2]
    refine w_icmp_ge 51 dX10_fours_9 (by decide) (by unfold ok32; omega) (by unfold ok32; omega) (fun hn => ?_) (fun hn => ?_)
    · refine w_iload_n dX10_fours_51 rfl rfl ?_
      refine x_iret rfl rfl dX10_fours_52 (pr_end ?_ rfl rfl rfl rfl rfl rfl rfl)
      rw [show c = L * R by omega]
    · refine w_iconst dX10_fours_12 ?_
      refine w_istore_n (lv' := [_, _, _, _, _]) dX10_fours_13 rfl (Nat.le_of_ble_eq_true rfl) rfl rfl ?_
      have key2 : ∀ e : Nat, e ≤ c → ∀ x4 : Value, wp mX10_fours 14 [.ref r, .int (zI ((fr1 (fun c e => pop (cs A L C c &&& cs A L C e)) c + fr2 (fun c e => pop (cs A L C c &&& cs A L C e)) c e : Nat) : Int)), .int (zI (c : Int)), .int (zI (e : Int)), x4] [] (RH r A ia la fi fl h0) 0 0 (pr (some (.int (zI (((fr1 (fun c e => pop (cs A L C c &&& cs A L C e)) (L * R) : Nat) : Int))))) r A ia fi h0) := by
        refine up_ind (N := c) (fun e he ih2 => ?_)
        intro x4
        refine w_iload_n dX10_fours_14 rfl rfl ?_
        refine w_iload_n dX10_fours_15 rfl rfl ?_
        refine w_icmp_ge 45 dX10_fours_16 (by decide) (by unfold ok32; omega) (by unfold ok32; omega) (fun he2 => ?_) (fun he2 => ?_)
        · refine w_iinc (lv' := [_, _, _, _, _]) dX10_fours_45 rfl rfl rfl ?_
          refine w_goto 4 dX10_fours_48 (by decide) ?_
          have ee : e = c := by omega
          subst ee
          exact ih (by omega) _ _
        · have hp := pop_le (cs A L C c &&& cs A L C e)
          have hpm := mulLe (a := pop (cs A L C c &&& cs A L C e)) (b := pop (cs A L C c &&& cs A L C e) - 1) (x := 64) (y := 64) (by omega) (by omega)
          refine w_aload_n dX10_fours_19 rfl rfl ?_
          refine w_iload_n dX10_fours_20 rfl rfl ?_
          refine w_iload_n dX10_fours_21 rfl rfl ?_
          refine wc_V (Z := mX10_bothOf) (As := [_, _]) (c_bothOf hV (by omega) (by omega)) RH0 rfl kX10_bothOf lX10_260 iX10_bothOf vX10_bothOf dX10_fours_22 rfl rfl rfl (Nat.le_of_ble_eq_true rfl) ⟨Nat.le_of_ble_eq_true rfl, Nat.le_of_ble_eq_true rfl⟩ ?_
          refine w_istore (lv' := [_, _, _, _, _]) dX10_fours_25 (Nat.le_of_ble_eq_true rfl) rfl rfl ?_
          refine w_iload_n dX10_fours_27 rfl rfl ?_
          refine w_iload dX10_fours_28 rfl ?_
          refine w_iload dX10_fours_30 rfl ?_
          refine w_iconst dX10_fours_32 ?_
          refine w_isub dX10_fours_33 ?_
          refine w_imul dX10_fours_34 ?_
          refine w_iconst dX10_fours_35 ?_
          rw [tri]
          refine w_idiv dX10_fours_36 (by unfold ok32; omega) (by omega) (by omega) (by unfold ok32; omega) ?_
          refine w_iadd dX10_fours_37 ?_
          refine w_istore_n (lv' := [_, _, _, _, _]) dX10_fours_38 rfl (Nat.le_of_ble_eq_true rfl) rfl rfl ?_
          refine w_iinc (lv' := [_, _, _, _, _]) dX10_fours_39 rfl rfl rfl ?_
          refine w_goto 14 dX10_fours_42 (by decide) ?_
          have h5 := ih2 (by omega) (.int (zI ((pop (cs A L C c &&& cs A L C e) : Nat) : Int)))
          rw [fr2, ← Nat.add_assoc] at h5
          exact h5
      exact key2 0 (Nat.zero_le _) _
  exact key 0 (Nat.zero_le _) _ _
/-- a sum over the bits of a set -/
def sm (g : Nat → Nat) (f : Nat → Bool) : Nat → Nat
  | 0 => 0
  | n + 1 => sm g f n + if f n = true then g n else 0
def sumS (g : Nat → Nat) (x : BitVec 64) : Nat := sm g x.getLsbD 64
theorem sm_0 {g : Nat → Nat} {f : Nat → Bool} : ∀ {n : Nat}, (∀ i, i < n → f i = false) → sm g f n = 0
  | 0, _ => rfl
  | n + 1, h => by unfold sm; rw [sm_0 (fun i hi => h i (by omega)), h n (by omega)]; rfl
theorem sm_off {g : Nat → Nat} {f f' : Nat → Bool} {t : Nat} (hf : f t = true) (hf' : f' t = false) : ∀ {n : Nat}, t < n → (∀ i, i < n → i ≠ t → f' i = f i) → sm g f n = g t + sm g f' n
  | 0, h, _ => by omega
  | n + 1, h, hi => by
    unfold sm
    by_cases htn : t = n
    · subst htn
      have e : ∀ m, m ≤ t → sm g f m = sm g f' m := by
        intro m
        induction m with
        | zero => intro _; rfl
        | succ m ih => intro hm; unfold sm; rw [ih (by omega), hi m (by omega) (by omega)]
      rw [hf, hf', e t (Nat.le_refl _)]
      simp; omega
    · rw [sm_off hf hf' (n := n) (by omega) (fun i h1 h2 => hi i (by omega) h2), hi n (by omega) (fun q => htn q.symm)]
      omega
theorem sumS_clr {g : Nat → Nat} {x : BitVec 64} {t : Nat} (h : isLow x t) : sumS g x = g t + sumS g (x &&& (x - 1#64)) := by
  refine sm_off h.2.1 ?_ h.1 (fun i hi hit => ?_)
  · rw [clr_bit h.1 h.1 h.2.1 h.2.2]; simp
  · rw [clr_bit h.1 hi h.2.1 h.2.2]; simp [hit]
theorem sumS_0 {g : Nat → Nat} : sumS g 0#64 = 0 := sm_0 (fun i _ => by simp)
theorem low_eq {x : BitVec 64} {t : Nat} (h : isLow x t) : x &&& -x = 1#64 <<< t := bv_ext fun i hi => by rw [neg_bit h.1 hi h.2.1 h.2.2, bit1 h.1 hi]
theorem isLow_ex {x : BitVec 64} (h : ¬ x = 0#64) : ∃ t, isLow x t := by
  obtain ⟨t, h1, h2, h3⟩ := bv_ne0 h
  exact ⟨t, h1, h2, h3⟩
/-- rings by three checks -/
def sx2 (a c : BitVec 64) (t s : Nat) : Nat := pop ((c &&& a) &&& ~~~(1#64 <<< t) &&& ~~~(1#64 <<< s))
def sx1 (a b c : BitVec 64) (t : Nat) : Nat := sumS (sx2 a c t) ((b &&& c) &&& ~~~(1#64 <<< t))
def sxV (a b c : BitVec 64) : Nat := sumS (sx1 a b c) (a &&& b)
set_option maxRecDepth 4000 in
theorem c_sixesBy2 {r : Nat} {A : Nat → Int} {ia : Nat → Nat → Int} {la : Nat → Nat → BitVec 64} {fi : Nat → Int} {fl : Nat → BitVec 64} {h0 : HP} {a b c : BitVec 64} : sp mX10_sixesBy [.ref r, .long (lB a), .long (lB b), .long (lB c)] (RH r A ia la fi fl h0) 0 0 (pd (some (.int (zI ((sxV a b c : Nat) : Int)))) (RH r A ia la fi fl h0)) := by
  refine sp_wp rfl (lv := [_, _, _, _, _, _, _, _, _, _, _, _, _, _]) rfl (Nat.le_of_ble_eq_true rfl) ?_
  refine w_iconst dX10_sixesBy_0 ?_
  refine w_istore (lv' := [_, _, _, _, _, _, _, _, _, _, _, _, _, _]) dX10_sixesBy_1 (Nat.le_of_ble_eq_true rfl) rfl rfl ?_
  refine w_lload_n dX10_sixesBy_3 rfl rfl ?_
  refine w_lload_n dX10_sixesBy_4 rfl rfl ?_
  refine w_land dX10_sixesBy_5 ?_
  refine w_lstore (lv' := [_, _, _, _, _, _, _, _, _, _, _, _, _, _]) dX10_sixesBy_6 (Nat.le_of_ble_eq_true rfl) rfl rfl ?_
  have key : ∀ (n : Nat) (x : BitVec 64) (k : Nat) (x10 x12 : Value), pop x = n → k + sumS (sx1 a b c) x = sxV a b c → wp mX10_sixesBy 8 [.ref r, .long (lB a), jk, .long (lB b), jk, .long (lB c), jk, .int (zI (k : Int)), .long (lB x), jk, x10, jk, x12, jk] [] (RH r A ia la fi fl h0) 0 0 (pd (some (.int (zI ((sxV a b c : Nat) : Int)))) (RH r A ia la fi fl h0)) := by
    intro n
    induction n with
    | zero =>
      intro x k x10 x12 hn hk
      refine w_lload dX10_sixesBy_8 rfl ?_
      refine w_lconst0 dX10_sixesBy_10 ?_
      refine w_lc_eq 97 dX10_sixesBy_11 dX10_sixesBy_12 (by decide) (fun hz => ?_) (fun hz => ?_)
      · rw [hz, sumS_0] at hk
        refine w_iload dX10_sixesBy_97 rfl ?_
        refine x_iret rfl rfl dX10_sixesBy_99 ⟨?_, rfl⟩
        rw [show k = sxV a b c by omega]
      · have := pop_clr hz; omega
    | succ n ih =>
      intro x k x10 x12 hn hk
      refine w_lload dX10_sixesBy_8 rfl ?_
      refine w_lconst0 dX10_sixesBy_10 ?_
      refine w_lc_eq 97 dX10_sixesBy_11 dX10_sixesBy_12 (by decide) (fun hz => ?_) (fun hz => ?_)
      · rw [hz, pop_0] at hn; omega
      · obtain ⟨t, ht⟩ := isLow_ex hz
        have hpc := pop_clr hz
        rw [sumS_clr ht] at hk
        refine w_lload dX10_sixesBy_15 rfl ?_
        refine w_lload dX10_sixesBy_17 rfl ?_
        refine w_lneg dX10_sixesBy_19 ?_
        refine w_land dX10_sixesBy_20 ?_
        rw [low_eq ht]
        refine w_lstore (lv' := [_, _, _, _, _, _, _, _, _, _, _, _, _, _]) dX10_sixesBy_21 (Nat.le_of_ble_eq_true rfl) rfl rfl ?_
        refine w_lload_n dX10_sixesBy_23 rfl rfl ?_
        refine w_lload dX10_sixesBy_24 rfl ?_
        refine w_land dX10_sixesBy_26 ?_
        refine w_lload dX10_sixesBy_27 rfl ?_
        refine w_ldc2B (-1#64) qX10_255 (by decide) dX10_sixesBy_29 ?_
        refine w_lxor dX10_sixesBy_32 ?_
        rw [nx]
        refine w_land dX10_sixesBy_33 ?_
        refine w_lstore (lv' := [_, _, _, _, _, _, _, _, _, _, _, _, _, _]) dX10_sixesBy_34 (Nat.le_of_ble_eq_true rfl) rfl rfl ?_
        have inner : ∀ (n2 : Nat) (y : BitVec 64) (k2 : Nat), pop y = n2 → k2 + sumS (sx2 a c t) y = k + sx1 a b c t → wp mX10_sixesBy 36 [.ref r, .long (lB a), jk, .long (lB b), jk, .long (lB c), jk, .int (zI (k2 : Int)), .long (lB x), jk, .long (lB (1#64 <<< t)), jk, .long (lB y), jk] [] (RH r A ia la fi fl h0) 0 0 (pd (some (.int (zI ((sxV a b c : Nat) : Int)))) (RH r A ia la fi fl h0)) := by
          intro n2
          induction n2 with
          | zero =>
            intro y k2 hn2 hk2
            refine w_lload dX10_sixesBy_36 rfl ?_
            refine w_lconst0 dX10_sixesBy_38 ?_
            refine w_lc_eq 85 dX10_sixesBy_39 dX10_sixesBy_40 (by decide) (fun hy => ?_) (fun hy => ?_)
            · rw [hy, sumS_0] at hk2
              refine w_lload dX10_sixesBy_85 rfl ?_
              refine w_lload dX10_sixesBy_87 rfl ?_
              refine w_lconst1 dX10_sixesBy_89 ?_
              refine w_lsub dX10_sixesBy_90 ?_
              refine w_land dX10_sixesBy_91 ?_
              refine w_lstore (lv' := [_, _, _, _, _, _, _, _, _, _, _, _, _, _]) dX10_sixesBy_92 (Nat.le_of_ble_eq_true rfl) rfl rfl ?_
              refine w_goto 8 dX10_sixesBy_94 (by decide) ?_
              exact ih _ _ _ _ (by omega) (by omega)
            · have := pop_clr hy; omega
          | succ n2 ih2 =>
            intro y k2 hn2 hk2
            refine w_lload dX10_sixesBy_36 rfl ?_
            refine w_lconst0 dX10_sixesBy_38 ?_
            refine w_lc_eq 85 dX10_sixesBy_39 dX10_sixesBy_40 (by decide) (fun hy => ?_) (fun hy => ?_)
            · rw [hy, pop_0] at hn2; omega
            · obtain ⟨s, hs⟩ := isLow_ex hy
              have hpc2 := pop_clr hy
              rw [sumS_clr hs] at hk2
              refine w_iload dX10_sixesBy_43 rfl ?_
              refine w_lload dX10_sixesBy_45 rfl ?_
              refine w_lload_n dX10_sixesBy_47 rfl rfl ?_
              refine w_land dX10_sixesBy_48 ?_
              refine w_lload dX10_sixesBy_49 rfl ?_
              refine w_ldc2B (-1#64) qX10_255 (by decide) dX10_sixesBy_51 ?_
              refine w_lxor dX10_sixesBy_54 ?_
              rw [nx]
              refine w_land dX10_sixesBy_55 ?_
              refine w_lload dX10_sixesBy_56 rfl ?_
              refine w_lload dX10_sixesBy_58 rfl ?_
              refine w_lneg dX10_sixesBy_60 ?_
              refine w_land dX10_sixesBy_61 ?_
              rw [low_eq hs]
              refine w_ldc2B (-1#64) qX10_255 (by decide) dX10_sixesBy_62 ?_
              refine w_lxor dX10_sixesBy_65 ?_
              rw [nx]
              refine w_land dX10_sixesBy_66 ?_
              refine wc_S (Z := mX10_many) (As := [_]) c_many kX10_many lX10_87 sX10_many dX10_sixesBy_67 rfl rfl rfl (Nat.le_of_ble_eq_true rfl) ⟨Nat.le_of_ble_eq_true rfl, Nat.le_of_ble_eq_true rfl⟩ ?_
              refine w_iadd dX10_sixesBy_70 ?_
              refine w_istore (lv' := [_, _, _, _, _, _, _, _, _, _, _, _, _, _]) dX10_sixesBy_71 (Nat.le_of_ble_eq_true rfl) rfl rfl ?_
              refine w_lload dX10_sixesBy_73 rfl ?_
              refine w_lload dX10_sixesBy_75 rfl ?_
              refine w_lconst1 dX10_sixesBy_77 ?_
              refine w_lsub dX10_sixesBy_78 ?_
              refine w_land dX10_sixesBy_79 ?_
              refine w_lstore (lv' := [_, _, _, _, _, _, _, _, _, _, _, _, _, _]) dX10_sixesBy_80 (Nat.le_of_ble_eq_true rfl) rfl rfl ?_
              refine w_goto 36 dX10_sixesBy_82 (by decide) ?_
              refine w_cast ?_ rfl rfl (ih2 (y &&& (y - 1#64)) (k2 + sx2 a c t s) (by omega) (by omega))
              rfl
        exact inner _ _ k rfl rfl
  exact key _ _ 0 jk jk rfl (by show 0 + sxV a b c = _; omega)
def ss3 (p : Nat → Nat → Nat → Nat) (c e : Nat) : Nat → Nat
  | 0 => 0
  | g + 1 => ss3 p c e g + p c e g
def ss2 (p : Nat → Nat → Nat → Nat) (c : Nat) : Nat → Nat
  | 0 => 0
  | e + 1 => ss2 p c e + ss3 p c e e
def ss1 (p : Nat → Nat → Nat → Nat) : Nat → Nat
  | 0 => 0
  | c + 1 => ss1 p c + ss2 p c c

set_option maxRecDepth 4000 in
theorem c_sixes {r : Nat} {A : Nat → Int} {ia : Nat → Nat → Int} {la : Nat → Nat → BitVec 64} {fi : Nat → Int} {fl : Nat → BitVec 64} {h0 : HP} {L R C : Nat}  (hT : TOP A L R C) : sp mX10_sixes [.ref r] (RH r A ia la fi fl h0) 0 0 (pr (some (.int (zI (((ss1 (fun c e g => sxV (cs A L C c) (cs A L C e) (cs A L C g)) (L * R) : Nat) : Int))))) r A ia fi h0) := by
  obtain ⟨hI, hV, hS, h2⟩ := id hT
  obtain ⟨v1, v2, v3, v4, v5, v6, v7⟩ := id hV
  have h1 : 0 ≤ A 1 ∧ A 1 ≤ 20 := hI 1
  have h20 : 0 ≤ A 2 ∧ A 2 ≤ 20 := hI 2
  have hLC : (L : Int) * C ≤ 48 := by exact_mod_cast mulLe (a := L) (b := C) (x := 6) (y := 8) (by omega) (by omega)
  have hLC0 : (0 : Int) ≤ (L : Int) * C := by exact_mod_cast Nat.zero_le (L * C)
  have hLR : (L : Int) * R ≤ 24 := by exact_mod_cast mulLe (a := L) (b := R) (x := 6) (y := 4) (by omega) (by omega)
  have hLR0 : (0 : Int) ≤ (L : Int) * R := by exact_mod_cast Nat.zero_le (L * R)
  have hLRn := mulLe (a := L) (b := R) (x := 6) (y := 4) (by omega) (by omega)
  refine sp_wp rfl (lv := [_, _, _, _, _]) rfl (Nat.le_of_ble_eq_true rfl) ?_
  refine w_iconst dX10_sixes_0 ?_
  refine w_istore_n (lv' := [_, _, _, _, _]) dX10_sixes_1 rfl (Nat.le_of_ble_eq_true rfl) rfl rfl ?_
  refine w_iconst dX10_sixes_2 ?_
  refine w_istore_n (lv' := [_, _, _, _, _]) dX10_sixes_3 rfl (Nat.le_of_ble_eq_true rfl) rfl rfl ?_
  have key : ∀ c : Nat, c ≤ L * R → ∀ x3 x4 : Value, wp mX10_sixes 4 [.ref r, .int (zI ((ss1 (fun c e g => sxV (cs A L C c) (cs A L C e) (cs A L C g)) c : Nat) : Int)), .int (zI (c : Int)), x3, x4] [] (RH r A ia la fi fl h0) 0 0 (pr (some (.int (zI (((ss1 (fun c e g => sxV (cs A L C c) (cs A L C e) (cs A L C g)) (L * R) : Nat) : Int))))) r A ia fi h0) := by
    refine up_ind (N := L * R) (fun c hc ih => ?_)
    intro x3 x4
    refine w_iload_n dX10_sixes_4 rfl rfl ?_
    refine w_aload_n dX10_sixes_5 rfl rfl ?_
    refine wc_V (Z := mX10_checks) (As := []) c_checks RH0 rfl kX10_checks lX10_74 iX10_checks vX10_checks dX10_sixes_6 rfl rfl rfl (Nat.le_of_ble_eq_true rfl) ⟨Nat.le_of_ble_eq_true rfl, Nat.le_of_ble_eq_true rfl⟩ ?_
    rw [v1, v2]
    refine w_icmp_ge 69 dX10_sixes_9 (by decide) (by unfold ok32; omega) (by unfold ok32; omega) (fun hn => ?_) (fun hn => ?_)
    · refine w_iload_n dX10_sixes_69 rfl rfl ?_
      refine x_iret rfl rfl dX10_sixes_70 (pr_end ?_ rfl rfl rfl rfl rfl rfl rfl)
      rw [show c = L * R by omega]
    · refine w_iconst dX10_sixes_12 ?_
      refine w_istore_n (lv' := [_, _, _, _, _]) dX10_sixes_13 rfl (Nat.le_of_ble_eq_true rfl) rfl rfl ?_
      have key2 : ∀ e : Nat, e ≤ c → ∀ x4 : Value, wp mX10_sixes 14 [.ref r, .int (zI ((ss1 (fun c e g => sxV (cs A L C c) (cs A L C e) (cs A L C g)) c + ss2 (fun c e g => sxV (cs A L C c) (cs A L C e) (cs A L C g)) c e : Nat) : Int)), .int (zI (c : Int)), .int (zI (e : Int)), x4] [] (RH r A ia la fi fl h0) 0 0 (pr (some (.int (zI (((ss1 (fun c e g => sxV (cs A L C c) (cs A L C e) (cs A L C g)) (L * R) : Nat) : Int))))) r A ia fi h0) := by
        refine up_ind (N := c) (fun e he ih2 => ?_)
        intro x4
        refine w_iload_n dX10_sixes_14 rfl rfl ?_
        refine w_iload_n dX10_sixes_15 rfl rfl ?_
        refine w_icmp_ge 63 dX10_sixes_16 (by decide) (by unfold ok32; omega) (by unfold ok32; omega) (fun he2 => ?_) (fun he2 => ?_)
        · refine w_iinc (lv' := [_, _, _, _, _]) dX10_sixes_63 rfl rfl rfl ?_
          refine w_goto 4 dX10_sixes_66 (by decide) ?_
          have ee : e = c := by omega
          subst ee
          exact ih (by omega) _ _
        · refine w_iconst dX10_sixes_19 ?_
          refine w_istore (lv' := [_, _, _, _, _]) dX10_sixes_20 (Nat.le_of_ble_eq_true rfl) rfl rfl ?_
          have key3 : ∀ g : Nat, g ≤ e → wp mX10_sixes 22 [.ref r, .int (zI ((ss1 (fun c e g => sxV (cs A L C c) (cs A L C e) (cs A L C g)) c + ss2 (fun c e g => sxV (cs A L C c) (cs A L C e) (cs A L C g)) c e + ss3 (fun c e g => sxV (cs A L C c) (cs A L C e) (cs A L C g)) c e g : Nat) : Int)), .int (zI (c : Int)), .int (zI (e : Int)), .int (zI (g : Int))] [] (RH r A ia la fi fl h0) 0 0 (pr (some (.int (zI (((ss1 (fun c e g => sxV (cs A L C c) (cs A L C e) (cs A L C g)) (L * R) : Nat) : Int))))) r A ia fi h0) := by
            refine up_ind (N := e) (fun g hg ih3 => ?_)
            refine w_iload dX10_sixes_22 rfl ?_
            refine w_iload_n dX10_sixes_24 rfl rfl ?_
            refine w_icmp_ge 57 dX10_sixes_25 (by decide) (by unfold ok32; omega) (by unfold ok32; omega) (fun hg2 => ?_) (fun hg2 => ?_)
            · refine w_iinc (lv' := [_, _, _, _, _]) dX10_sixes_57 rfl rfl rfl ?_
              refine w_goto 14 dX10_sixes_60 (by decide) ?_
              have eg : g = e := by omega
              subst eg
              have h5 := ih2 (by omega) (.int (zI (g : Int)))
              rw [ss2, ← Nat.add_assoc] at h5
              exact h5
            · refine w_iload_n dX10_sixes_28 rfl rfl ?_
              refine w_aload_n dX10_sixes_29 rfl rfl ?_
              refine w_aload_n dX10_sixes_30 rfl rfl ?_
              refine w_iload_n dX10_sixes_31 rfl rfl ?_
              refine wc_V (Z := mX10_checkSet) (As := [_]) (c_checkSet hV (by omega)) RH0 rfl kX10_checkSet lX10_83 iX10_checkSet vX10_checkSet dX10_sixes_32 rfl rfl rfl (Nat.le_of_ble_eq_true rfl) ⟨Nat.le_of_ble_eq_true rfl, Nat.le_of_ble_eq_true rfl⟩ ?_
              refine w_aload_n dX10_sixes_35 rfl rfl ?_
              refine w_iload_n dX10_sixes_36 rfl rfl ?_
              refine wc_V (Z := mX10_checkSet) (As := [_]) (c_checkSet hV (by omega)) RH0 rfl kX10_checkSet lX10_83 iX10_checkSet vX10_checkSet dX10_sixes_37 rfl rfl rfl (Nat.le_of_ble_eq_true rfl) ⟨Nat.le_of_ble_eq_true rfl, Nat.le_of_ble_eq_true rfl⟩ ?_
              refine w_aload_n dX10_sixes_40 rfl rfl ?_
              refine w_iload dX10_sixes_41 rfl ?_
              refine wc_V (Z := mX10_checkSet) (As := [_]) (c_checkSet hV (by omega)) RH0 rfl kX10_checkSet lX10_83 iX10_checkSet vX10_checkSet dX10_sixes_43 rfl rfl rfl (Nat.le_of_ble_eq_true rfl) ⟨Nat.le_of_ble_eq_true rfl, Nat.le_of_ble_eq_true rfl⟩ ?_
              refine wc_V (Z := mX10_sixesBy) (As := [_, _, _]) c_sixesBy2 RH0 rfl kX10_sixesBy lX10_266 iX10_sixesBy vX10_sixesBy dX10_sixes_46 rfl rfl rfl (Nat.le_of_ble_eq_true rfl) ⟨Nat.le_of_ble_eq_true rfl, Nat.le_of_ble_eq_true rfl⟩ ?_
              refine w_iadd dX10_sixes_49 ?_
              refine w_istore_n (lv' := [_, _, _, _, _]) dX10_sixes_50 rfl (Nat.le_of_ble_eq_true rfl) rfl rfl ?_
              refine w_iinc (lv' := [_, _, _, _, _]) dX10_sixes_51 rfl rfl rfl ?_
              refine w_goto 22 dX10_sixes_54 (by decide) ?_
              have h5 := ih3 (by omega)
              rw [ss3, ← Nat.add_assoc] at h5
              exact h5
          exact key3 0 (Nat.zero_le _)
      exact key2 0 (Nat.zero_le _) _
  exact key 0 (Nat.zero_le _) _ _
