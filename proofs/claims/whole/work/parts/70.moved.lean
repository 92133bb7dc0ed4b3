/-! a code whose shifts are moved -/
/-- a code that was made from h on: it stands at a, its seven cells are new -/
def CNEW (h h' : HP) (a : Nat) (B : Nat → Int) (L R C : Nat) : Prop := h'.1 = h.1 + 7 ∧ CDQ (fun x => h.1 ≤ x ∧ x < h.1 + 6) h' a B L R C ∧ (∃ fs : List Value, h'.2 a = some (.inr (2, fs)) ∧ fs[14]? = some (.ref (h.1 + 6))) ∧ (∃ T : Nat → Int, h'.2 (h.1 + 6) = some (aI 16 T) ∧ ∀ k, k < 16 → T k = -1) ∧ ∀ x, x < h.1 → h'.2 x = h.2 x
def mvV (B : Nat → Int) (L : Nat) (z w b : Int) (i j : Nat) : Int := if ((i : Int) = z ∨ (j : Int) = w) ∧ ¬ B (14 + 8 * i + j) = -1 then (B (14 + 8 * i + j) + b) % (L : Int) else B (14 + 8 * i + j)
set_option maxRecDepth 8000 in
theorem c2_moved {h : HP} {c : Nat} {B D : Nat → Int} {L R C : Nat} {z w b : Int} (hC : CDQ (fun x => x < h.1) h c B L R C) (hz : ok32 z) (hw : ok32 w) (hb : 1 ≤ b ∧ b ≤ 5) (hSL : ∀ i, i < R → ∀ j, j < C → B (14 + 8 * i + j) < (L : Int)) (hVD : VC D L R C) (hD6 : D 6 = B 6) (hD7 : D 7 = B 7) (hD : ∀ i, i < R → ∀ j, j < C → D (14 + 8 * i + j) = mvV B L z w b i j) : sp mX2_moved [.ref c, .int (zI z), .int (zI w), .int (zI b)] h 7 351 (fun v h' => v = some (.ref (h.1 + 1)) ∧ CNEW h h' (h.1 + 1) D L R C) := by
  obtain ⟨ad, f7, f8, f10, f9, f11, rk, cr, hV, h6, h7, o_c0, r70, r80, r90, r100, r110, e7, e8, e9, e10, hRD, p0, p7, p8, p9, p10, p11⟩ := id hC
  obtain ⟨v1, v2, v3, v4, v5, v6, v7⟩ := id hV
  have hLC := mulLe (a := L) (b := C) (x := 6) (y := 8) (by omega) (by omega)
  have hLR := mulLe (a := L) (b := R) (x := 6) (y := 4) (by omega) (by omega)
  have o_c : ∀ {e : CE}, ((h.1 + 1, up h.2 h.1 e) : HP).2 c = some (.inr (2, cfs L R C (B 6) (B 7) ad rk cr)) := (up_n (by omega)).trans o_c0
  refine sp_wp rfl (lv := [_, _, _, _, _, _, _]) rfl (Nat.le_of_ble_eq_true rfl) ?_
  refine w_aload_n dX2_moved_0 rfl rfl ?_
  refine w_getf fX2_27 dX2_moved_1 o_c0 rfl ?_
  refine w_cloneI lX2_89 smCI naC inC seCI caCI r70 rfl (Nat.le_of_ble_eq_true rfl) (Nat.le_of_ble_eq_true rfl) (by decide) (by decide) dX2_moved_4 ?_
  refine w_castI tX2_90 up_s dX2_moved_7 ?_
  refine w_astore (lv' := [_, _, _, _, _, _, _]) dX2_moved_10 (Nat.le_of_ble_eq_true rfl) rfl rfl ?_
  refine w_iconst dX2_moved_12 ?_
  refine w_istore (lv' := [_, _, _, _, _, _, _]) dX2_moved_13 (Nat.le_of_ble_eq_true rfl) rfl rfl ?_
  have hva : ∀ i, i < R → ∀ j, j < C → -1 ≤ B (14 + 8 * i + j) ∧ B (14 + 8 * i + j) ≤ 5 := fun i hi j hj => by
    have := v7 (8 * i + j) (by omega)
    rw [show 14 + (8 * i + j) = 14 + 8 * i + j by omega] at this
    exact this
  have fin : ∀ (g : Nat → Int) (x5 x6 : Value), (∀ i, i < R → ∀ j, j < C → g (8 * i + j) = mvV B L z w b i j) → wp mX2_moved 110 [.ref c, .int (zI z), .int (zI w), .int (zI b), .ref h.1, x5, x6] [] (h.1 + 1, up h.2 h.1 (aI 32 g)) (7 - 1) (351 - 32) (fun v h' => v = some (.ref (h.1 + 1)) ∧ CNEW h h' (h.1 + 1) D L R C) := by
    intro g x5 x6 hg
    refine w_new nX2_10 (by decide) (by decide) dX2_moved_110 ?_
    have o_c' : ∀ {e e' : CE}, ((h.1 + 1 + 1, up (up h.2 h.1 e) (h.1 + 1) e') : HP).2 c = some (.inr (2, cfs L R C (B 6) (B 7) ad rk cr)) := (up_n (by omega)).trans ((up_n (by omega)).trans o_c0)
    refine w_dup dX2_moved_113 rfl ?_
    refine w_aload_n dX2_moved_114 rfl rfl ?_
    refine w_getf fX2_9 dX2_moved_115 o_c' rfl ?_
    refine w_aload_n dX2_moved_118 rfl rfl ?_
    refine w_getf fX2_15 dX2_moved_119 o_c' rfl ?_
    refine w_aload_n dX2_moved_122 rfl rfl ?_
    refine w_getf fX2_18 dX2_moved_123 o_c' rfl ?_
    refine w_aload_n dX2_moved_126 rfl rfl ?_
    refine w_getf fX2_21 dX2_moved_127 o_c' rfl ?_
    refine w_aload_n dX2_moved_130 rfl rfl ?_
    refine w_getf fX2_24 dX2_moved_131 o_c' rfl ?_
    refine w_aload dX2_moved_134 rfl ?_
    have hI := c2_init (a := h.1 + 1) (s := h.1) (n0 := h.1 + 2) (h := (h.1 + 1 + 1, up (up h.2 h.1 (aI 32 g)) (h.1 + 1) (.inr (2, [.int 0, .int 0, .int 0, .int 0, .int 0, .int 0, .int 0, .null, .null, .null, .null, .null, .int 0, .long 0, .null])))) (f7 := g) (B := D) (L := L) (R := R) (C := C) rfl (by omega) (by omega) (by omega) up_s ((up_n (by omega)).trans up_s) hVD (by rw [hD6]; exact h6) (by rw [hD7]; exact h7) (fun i hi k hk => by
      rw [hg i hi k hk, ← hD i hi k hk]
      refine ⟨rfl, ?_⟩
      rw [hD i hi k hk]
      unfold mvV
      split
      · exact Int.emod_lt_of_pos _ (by omega)
      · exact hSL i hi k hk)
    rw [hD6, hD7] at hI
    refine w_callI (Z := mX2_init) (As := [_, _, _, _, _, _]) hI kX2_init rfl lX2_91 iX2_init rfl dX2_moved_136 rfl rfl rfl (Nat.le_of_ble_eq_true rfl) ⟨Nat.le_of_ble_eq_true rfl, Nat.le_of_ble_eq_true rfl⟩ (by decide) (by decide) (fun v' h' q => ?_)
    obtain ⟨hv', k1, k2, k3, k4, k5⟩ := q
    subst hv'
    refine x_aret rfl (Or.inl ⟨_, rfl⟩) dX2_moved_139 ⟨rfl, k1, k2.mono (fun x hx => ?_) (fun _ _ => rfl), k3, k4, fun x hx => ?_⟩
    · rcases hx with q | q | q
      · omega
      · omega
      · omega
    · rw [k5 x (by omega) (by omega)]
      exact (up_n (by omega)).trans (up_n (by omega))
  have lpi : ∀ i, i ≤ R → ∀ (g : Nat → Int) (x6 : Value), (∀ i', i' < R → ∀ j, j < C → g (8 * i' + j) = if i' < i then mvV B L z w b i' j else B (14 + 8 * i' + j)) → wp mX2_moved 15 [.ref c, .int (zI z), .int (zI w), .int (zI b), .ref h.1, .int (zI (i : Int)), x6] [] (h.1 + 1, up h.2 h.1 (aI 32 g)) (7 - 1) (351 - 32) (fun v h' => v = some (.ref (h.1 + 1)) ∧ CNEW h h' (h.1 + 1) D L R C) := by
    refine up_ind (P := fun i => ∀ (g : Nat → Int) (x6 : Value), (∀ i', i' < R → ∀ j, j < C → g (8 * i' + j) = if i' < i then mvV B L z w b i' j else B (14 + 8 * i' + j)) → wp mX2_moved 15 [.ref c, .int (zI z), .int (zI w), .int (zI b), .ref h.1, .int (zI (i : Int)), x6] [] (h.1 + 1, up h.2 h.1 (aI 32 g)) (7 - 1) (351 - 32) (fun v h' => v = some (.ref (h.1 + 1)) ∧ CNEW h h' (h.1 + 1) D L R C)) (fun i hi ih g x6 hg => ?_)
    refine w_iload dX2_moved_15 rfl ?_
    refine w_aload_n dX2_moved_17 rfl rfl ?_
    refine w_getf fX2_15 dX2_moved_18 o_c rfl ?_
    refine w_icmp_ge 110 dX2_moved_21 (by decide) (by first | assumption | (unfold ok32 at *; omega)) (by first | assumption | (unfold ok32 at *; omega)) (fun hc => ?_) (fun hc => ?_)
    · exact fin g _ _ (fun i' hi' j hj => by rw [hg i' hi' j hj, if_pos (by omega)])
    · have hiR : i < R := by omega
      refine w_iconst dX2_moved_24 ?_
      refine w_istore (lv' := [_, _, _, _, _, _, _]) dX2_moved_25 (Nat.le_of_ble_eq_true rfl) rfl rfl ?_
      have lpj : ∀ j, j ≤ C → ∀ (g : Nat → Int), (∀ i', i' < R → ∀ k, k < C → g (8 * i' + k) = if i' < i ∨ (i' = i ∧ k < j) then mvV B L z w b i' k else B (14 + 8 * i' + k)) → wp mX2_moved 27 [.ref c, .int (zI z), .int (zI w), .int (zI b), .ref h.1, .int (zI (i : Int)), .int (zI (j : Int))] [] (h.1 + 1, up h.2 h.1 (aI 32 g)) (7 - 1) (351 - 32) (fun v h' => v = some (.ref (h.1 + 1)) ∧ CNEW h h' (h.1 + 1) D L R C) := by
        refine up_ind (P := fun j => ∀ (g : Nat → Int), (∀ i', i' < R → ∀ k, k < C → g (8 * i' + k) = if i' < i ∨ (i' = i ∧ k < j) then mvV B L z w b i' k else B (14 + 8 * i' + k)) → wp mX2_moved 27 [.ref c, .int (zI z), .int (zI w), .int (zI b), .ref h.1, .int (zI (i : Int)), .int (zI (j : Int))] [] (h.1 + 1, up h.2 h.1 (aI 32 g)) (7 - 1) (351 - 32) (fun v h' => v = some (.ref (h.1 + 1)) ∧ CNEW h h' (h.1 + 1) D L R C)) (fun j hj ih2 g hg => ?_)
        refine w_iload dX2_moved_27 rfl ?_
        refine w_aload_n dX2_moved_29 rfl rfl ?_
        refine w_getf fX2_18 dX2_moved_30 o_c rfl ?_
        refine w_icmp_ge 104 dX2_moved_33 (by decide) (by first | assumption | (unfold ok32 at *; omega)) (by first | assumption | (unfold ok32 at *; omega)) (fun hd => ?_) (fun hd => ?_)
        · refine w_iinc (lv' := [_, _, _, _, _, _, _]) dX2_moved_104 rfl rfl rfl ?_
          refine w_goto 15 dX2_moved_107 (by decide) ?_
          refine ih hiR g _ (fun i' hi' k hk => ?_)
          rw [hg i' hi' k hk]
          by_cases q : i' < i ∨ (i' = i ∧ k < j)
          · rw [if_pos q, if_pos (by omega)]
          · rw [if_neg q, if_neg (by omega)]
        · have hjC : j < C := by omega
          have hgj : g (8 * i + j) = B (14 + 8 * i + j) := by rw [hg i hiR j hjC, if_neg (by omega)]
          have hvj := hva i hiR j hjC
          have hsl := hSL i hiR j hjC
          obtain ⟨v, hvv⟩ : ∃ v, B (14 + 8 * i + j) = v := ⟨_, rfl⟩
          rw [hvv] at hgj hvj hsl
          have skip : mvV B L z w b i j = v → wp mX2_moved 98 [.ref c, .int (zI z), .int (zI w), .int (zI b), .ref h.1, .int (zI (i : Int)), .int (zI (j : Int))] [] (h.1 + 1, up h.2 h.1 (aI 32 g)) (7 - 1) (351 - 32) (fun v h' => v = some (.ref (h.1 + 1)) ∧ CNEW h h' (h.1 + 1) D L R C) := by
            intro hm
            refine w_iinc (lv' := [_, _, _, _, _, _, _]) dX2_moved_98 rfl rfl rfl ?_
            refine w_goto 27 dX2_moved_101 (by decide) ?_
            refine ih2 hjC g (fun i' hi' k hk => ?_)
            by_cases he : i' = i ∧ k = j
            · rw [he.1, he.2, if_pos (by omega), hm, hgj]
            · rw [hg i' hi' k hk]
              by_cases q : i' < i ∨ (i' = i ∧ k < j)
              · rw [if_pos q, if_pos (by omega)]
              · rw [if_neg q, if_neg (by omega)]
          have doit : ((i : Int) = z ∨ (j : Int) = w) → wp mX2_moved 48 [.ref c, .int (zI z), .int (zI w), .int (zI b), .ref h.1, .int (zI (i : Int)), .int (zI (j : Int))] [] (h.1 + 1, up h.2 h.1 (aI 32 g)) (7 - 1) (351 - 32) (fun v h' => v = some (.ref (h.1 + 1)) ∧ CNEW h h' (h.1 + 1) D L R C) := by
            intro hij
            refine w_aload dX2_moved_48 rfl ?_
            refine w_iload dX2_moved_50 rfl ?_
            refine w_bipush dX2_moved_52 (by decide) ?_
            refine w_imul dX2_moved_54 ?_
            refine w_iload dX2_moved_55 rfl ?_
            refine w_iadd dX2_moved_57 ?_
            refine w_iald (8 * i + j) up_s (by first | rfl | omega | (push_cast; rfl) | (push_cast; omega)) (by omega) (by decide) dX2_moved_58 ?_
            rw [hgj]
            refine w_if_lt 98 dX2_moved_59 (by decide) (by first | assumption | (unfold ok32 at *; omega)) (fun hn => ?_) (fun hn => ?_)
            · exact skip (by unfold mvV; rw [hvv, if_neg (by omega)])
            · have hmv : mvV B L z w b i j = (v + b) % (L : Int) := by unfold mvV; rw [hvv, if_pos ⟨hij, by omega⟩]
              refine w_aload_n dX2_moved_62 rfl rfl ?_
              refine w_getf fX2_9 dX2_moved_63 o_c rfl ?_
              refine w_if_le 98 dX2_moved_66 (by decide) (by first | assumption | (unfold ok32 at *; omega)) (fun hl => ?_) (fun hl => ?_)
              · omega
              · refine w_aload dX2_moved_69 rfl ?_
                refine w_iload dX2_moved_71 rfl ?_
                refine w_bipush dX2_moved_73 (by decide) ?_
                refine w_imul dX2_moved_75 ?_
                refine w_iload dX2_moved_76 rfl ?_
                refine w_iadd dX2_moved_78 ?_
                refine w_aload dX2_moved_79 rfl ?_
                refine w_iload dX2_moved_81 rfl ?_
                refine w_bipush dX2_moved_83 (by decide) ?_
                refine w_imul dX2_moved_85 ?_
                refine w_iload dX2_moved_86 rfl ?_
                refine w_iadd dX2_moved_88 ?_
                refine w_iald (8 * i + j) up_s (by first | rfl | omega | (push_cast; rfl) | (push_cast; omega)) (by omega) (by decide) dX2_moved_89 ?_
                rw [hgj]
                refine w_iload_n dX2_moved_90 rfl rfl ?_
                refine w_iadd dX2_moved_91 ?_
                refine w_aload_n dX2_moved_92 rfl rfl ?_
                refine w_getf fX2_9 dX2_moved_93 o_c rfl ?_
                refine w_irem dX2_moved_96 (by unfold ok32; omega) (by omega) (by omega) (by unfold ok32; omega) ?_
                refine w_iast (8 * i + j) up_s (by omega) (by omega) (by decide) dX2_moved_97 ?_
                show wp _ _ _ _ (h.1 + 1, up (up h.2 h.1 _) h.1 _) _ _ _
                rw [up_up]
                refine w_iinc (lv' := [_, _, _, _, _, _, _]) dX2_moved_98 rfl rfl rfl ?_
                refine w_goto 27 dX2_moved_101 (by decide) ?_
                refine ih2 hjC (u1 g (8 * i + j) ((v + b) % (L : Int))) (fun i' hi' k hk => ?_)
                by_cases he : i' = i ∧ k = j
                · rw [he.1, he.2, if_pos (by omega), hmv, u1_s]
                · rw [u1_n (by omega), hg i' hi' k hk]
                  by_cases q : i' < i ∨ (i' = i ∧ k < j)
                  · rw [if_pos q, if_pos (by omega)]
                  · rw [if_neg q, if_neg (by omega)]
          refine w_iload dX2_moved_36 rfl ?_
          refine w_iload_n dX2_moved_38 rfl rfl ?_
          refine w_icmp_eq 48 dX2_moved_39 (by decide) (by first | assumption | (unfold ok32 at *; omega)) (by first | assumption | (unfold ok32 at *; omega)) (fun h1 => ?_) (fun h1 => ?_)
          · exact doit (Or.inl h1)
          · refine w_iload dX2_moved_42 rfl ?_
            refine w_iload_n dX2_moved_44 rfl rfl ?_
            refine w_icmp_ne 98 dX2_moved_45 (by decide) (by first | assumption | (unfold ok32 at *; omega)) (by first | assumption | (unfold ok32 at *; omega)) (fun h2 => ?_) (fun h2 => ?_)
            · exact skip (by unfold mvV; rw [hvv, if_neg (fun q => q.1.elim h1 h2)])
            · exact doit (Or.inr (by omega))
      exact lpj 0 (Nat.zero_le _) g (fun i' hi' k hk => by
        rw [hg i' hi' k hk]
        by_cases q : i' < i
        · rw [if_pos q, if_pos (Or.inl q)]
        · rw [if_neg q, if_neg (by omega)])
  exact lpi 0 (Nat.zero_le _) f7 jk (fun i hi j hj => by rw [if_neg (Nat.not_lt_zero _)]; exact e7 i hi j hj)

