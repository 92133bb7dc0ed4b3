/-! the class reduces its sums -/
theorem rzX_0 {S : Nat → BitVec 64} {row : BitVec 64} {b t : Nat} : rzX S row b t 0 = S := funext fun i => if_neg (by omega)
theorem rzX_s {S : Nat → BitVec 64} {row : BitVec 64} {b t n : Nat} (hn : n ≠ t) (hb : (S n).getLsbD b = true) : u1 (rzX S row b t n) n (S n ^^^ row) = rzX S row b t (n + 1) := by
  funext i
  unfold u1 rzX
  by_cases h1 : i = n
  · rw [if_pos h1, h1, if_pos ⟨hn, by omega, hb⟩]
  · rw [if_neg h1]
    by_cases h2 : i ≠ t ∧ i < n ∧ (S i).getLsbD b = true
    · rw [if_pos h2, if_pos ⟨h2.1, by omega, h2.2.2⟩]
    · rw [if_neg h2, if_neg (fun q => h2 ⟨q.1, by omega, q.2.2⟩)]
theorem rzX_k {S : Nat → BitVec 64} {row : BitVec 64} {b t n : Nat} (hb : n = t ∨ ¬ (S n).getLsbD b = true) : rzX S row b t (n + 1) = rzX S row b t n := by
  funext i
  unfold rzX
  by_cases h2 : i ≠ t ∧ i < n ∧ (S i).getLsbD b = true
  · rw [if_pos h2, if_pos ⟨h2.1, by omega, h2.2.2⟩]
  · rw [if_neg h2, if_neg (fun q => by
      by_cases hin : i = n
      · rcases hb with hb | hb
        · exact q.1 (hin.trans hb)
        · rw [hin] at q; exact hb q.2.2
      · exact h2 ⟨q.1, by omega, q.2.2⟩)]
theorem rzX_n {S : Nat → BitVec 64} {row : BitVec 64} {b t n : Nat} : rzX S row b t n n = S n := if_neg (by omega)
theorem rzN_rk {m : Nat} {S0 : Nat → BitVec 64} : ∀ {b : Nat}, (rzN m S0 b).2.2 ≤ m ∧ (rzN m S0 b).2.2 ≤ b
  | 0 => ⟨Nat.zero_le _, Nat.le_refl _⟩
  | b + 1 => by
    have ih := @rzN_rk m S0 b
    have hr := @fk_rng (rzN m S0 b).1 b (m - (rzN m S0 b).2.2) (rzN m S0 b).2.2
    rw [rzN]
    unfold rzS
    split
    · exact ⟨ih.1, by show (rzN m S0 b).2.2 ≤ b + 1; omega⟩
    · exact ⟨by show (rzN m S0 b).2.2 + 1 ≤ m; omega, by show (rzN m S0 b).2.2 + 1 ≤ b + 1; omega⟩
set_option maxRecDepth 8000 in
theorem c2_reduce {h : HP} {a m n : Nat} {S0 : Nat → BitVec 64} (ha : h.2 a = some (aL 24 S0)) (hm : m ≤ 24) (hn : n ≤ 48) : sp mX2_reduce [.ref a, .int (zI (m : Int)), .int (zI (n : Int))] h 0 0 (pd (some (.long (lB (rzN m S0 n).2.1))) (h.1, up h.2 a (aL 24 (rzN m S0 n).1))) := by
  refine sp_wp rfl (lv := [_, _, _, _, _, _, _, _, _, _, _]) rfl (Nat.le_of_ble_eq_true rfl) ?_
  refine w_lconst0 dX2_reduce_0 ?_
  refine w_lstore_n (lv' := [_, _, _, _, _, _, _, _, _, _, _]) dX2_reduce_1 rfl (Nat.le_of_ble_eq_true rfl) rfl rfl ?_
  refine w_iconst dX2_reduce_2 ?_
  refine w_istore (lv' := [_, _, _, _, _, _, _, _, _, _, _]) dX2_reduce_3 (Nat.le_of_ble_eq_true rfl) rfl rfl ?_
  refine w_iconst dX2_reduce_5 ?_
  refine w_istore (lv' := [_, _, _, _, _, _, _, _, _, _, _]) dX2_reduce_6 (Nat.le_of_ble_eq_true rfl) rfl rfl ?_
  obtain ⟨VF, hVF⟩ : ∃ VF, (rzN m S0 n).2.1 = VF := ⟨_, rfl⟩
  obtain ⟨VS, hVS⟩ : ∃ VS, (rzN m S0 n).1 = VS := ⟨_, rfl⟩
  rw [hVF, hVS]
  have key : ∀ b, b ≤ n → ∀ x7 x8 x9 x10 : Value, wp mX2_reduce 8 [.ref a, .int (zI (m : Int)), .int (zI (n : Int)), .long (lB (rzN m S0 b).2.1), jk, .int (zI ((rzN m S0 b).2.2 : Int)), .int (zI (b : Int)), x7, x8, x9, x10] [] (h.1, up h.2 a (aL 24 (rzN m S0 b).1)) 0 0 (pd (some (.long (lB VF))) (h.1, up h.2 a (aL 24 VS))) := by
    refine up_ind (P := fun b => ∀ x7 x8 x9 x10 : Value, wp mX2_reduce 8 [.ref a, .int (zI (m : Int)), .int (zI (n : Int)), .long (lB (rzN m S0 b).2.1), jk, .int (zI ((rzN m S0 b).2.2 : Int)), .int (zI (b : Int)), x7, x8, x9, x10] [] (h.1, up h.2 a (aL 24 (rzN m S0 b).1)) 0 0 (pd (some (.long (lB VF))) (h.1, up h.2 a (aL 24 VS)))) (fun b hb ih x7 x8 x9 x10 => ?_)
    have hrk := @rzN_rk m S0 b
    have hnx : rzN m S0 (b + 1) = rzS m b (rzN m S0 b) := rfl
    rw [hnx] at ih
    obtain ⟨Z, hZ⟩ : ∃ Z, rzN m S0 b = Z := ⟨_, rfl⟩
    have hfin : b = n → Z.2.1 = VF ∧ Z.1 = VS := fun e => by rw [← hZ, e]; exact ⟨hVF, hVS⟩
    rw [hZ] at hrk ih ⊢
    obtain ⟨S, F, t⟩ := Z
    dsimp only at hrk hfin ⊢
    refine w_iload dX2_reduce_8 rfl ?_
    refine w_iload_n dX2_reduce_10 rfl rfl ?_
    refine w_icmp_ge 134 dX2_reduce_11 (by decide) (by first | assumption | (unfold ok32 at *; omega)) (by first | assumption | (unfold ok32 at *; omega)) (fun hc => ?_) (fun hc => ?_)
    · refine w_lload_n dX2_reduce_134 rfl rfl ?_
      refine x_lret rfl dX2_reduce_135 ⟨?_, ?_⟩
      · rw [(hfin (by omega)).1]
      · rw [(hfin (by omega)).2]
    · obtain ⟨f, hf⟩ : ∃ f, fk S b (m - t) t = f := ⟨_, rfl⟩
      have hfr := @fk_rng S b (m - t) t
      rw [hf] at hfr
      unfold rzS at ih
      dsimp only at ih
      rw [hf] at ih
      have go : ∀ x8 x9 x10 : Value, wp mX2_reduce 44 [.ref a, .int (zI (m : Int)), .int (zI (n : Int)), .long (lB F), jk, .int (zI (t : Int)), .int (zI (b : Int)), .int (zI (f : Int)), x8, x9, x10] [] (h.1, up h.2 a (aL 24 S)) 0 0 (pd (some (.long (lB VF))) (h.1, up h.2 a (aL 24 VS))) := by
        intro x8 x9 x10
        refine w_iload dX2_reduce_44 rfl ?_
        refine w_iload_n dX2_reduce_46 rfl rfl ?_
        refine w_icmp_lt 60 dX2_reduce_47 (by decide) (by first | assumption | (unfold ok32 at *; omega)) (by first | assumption | (unfold ok32 at *; omega)) (fun hlt => ?_) (fun hlt => ?_)
        · have hne : ¬ f = m := by omega
          simp only [if_neg hne] at ih
          obtain ⟨row, hrow⟩ : ∃ row, S f = row := ⟨_, rfl⟩
          rw [hrow] at ih
          refine w_aload_n dX2_reduce_60 rfl rfl ?_
          refine w_iload dX2_reduce_61 rfl ?_
          refine w_lald (f) up_s (by first | rfl | omega | (push_cast; rfl) | (push_cast; omega)) (by omega) (by decide) dX2_reduce_63 ?_
          rw [hrow]
          refine w_lstore (lv' := [_, _, _, _, _, _, _, _, _, _, _]) dX2_reduce_64 (Nat.le_of_ble_eq_true rfl) rfl rfl ?_
          refine w_aload_n dX2_reduce_66 rfl rfl ?_
          refine w_iload dX2_reduce_67 rfl ?_
          refine w_aload_n dX2_reduce_69 rfl rfl ?_
          refine w_iload dX2_reduce_70 rfl ?_
          refine w_lald (t) up_s (by first | rfl | omega | (push_cast; rfl) | (push_cast; omega)) (by omega) (by decide) dX2_reduce_72 ?_
          refine w_last f up_s rfl (by omega) (by decide) dX2_reduce_73 ?_
          show wp _ _ _ _ (h.1, up (up h.2 a _) a _) _ _ _
          rw [up_up]
          refine w_aload_n dX2_reduce_74 rfl rfl ?_
          refine w_iload dX2_reduce_75 rfl ?_
          refine w_lload dX2_reduce_77 rfl ?_
          refine w_last t up_s rfl (by omega) (by decide) dX2_reduce_79 ?_
          show wp _ _ _ _ (h.1, up (up h.2 a _) a _) _ _ _
          rw [up_up]
          obtain ⟨P, hP⟩ : ∃ P, u1 (u1 S f (S t)) t row = P := ⟨_, rfl⟩
          rw [hP] at ih ⊢
          refine w_iconst dX2_reduce_80 ?_
          refine w_istore (lv' := [_, _, _, _, _, _, _, _, _, _, _]) dX2_reduce_81 (Nat.le_of_ble_eq_true rfl) rfl rfl ?_
          have lp : ∀ i, i ≤ m → wp mX2_reduce 83 [.ref a, .int (zI (m : Int)), .int (zI (n : Int)), .long (lB F), jk, .int (zI (t : Int)), .int (zI (b : Int)), .int (zI (f : Int)), .long (lB row), jk, .int (zI (i : Int))] [] (h.1, up h.2 a (aL 24 (rzX P row b t i))) 0 0 (pd (some (.long (lB VF))) (h.1, up h.2 a (aL 24 VS))) := by
            refine up_ind (fun i hi ih2 => ?_)
            refine w_iload dX2_reduce_83 rfl ?_
            refine w_iload_n dX2_reduce_85 rfl rfl ?_
            refine w_icmp_ge 125 dX2_reduce_86 (by decide) (by first | assumption | (unfold ok32 at *; omega)) (by first | assumption | (unfold ok32 at *; omega)) (fun hd => ?_) (fun hd => ?_)
            · rw [show i = m by omega]
              refine w_iinc (lv' := [_, _, _, _, _, _, _, _, _, _, _]) dX2_reduce_125 rfl rfl rfl ?_
              refine w_iinc (lv' := [_, _, _, _, _, _, _, _, _, _, _]) dX2_reduce_128 rfl rfl rfl ?_
              refine w_goto 8 dX2_reduce_131 (by decide) ?_
              exact ih (by omega) _ _ _ _
            · refine w_iload dX2_reduce_89 rfl ?_
              refine w_iload dX2_reduce_91 rfl ?_
              refine w_icmp_eq 119 dX2_reduce_93 (by decide) (by first | assumption | (unfold ok32 at *; omega)) (by first | assumption | (unfold ok32 at *; omega)) (fun ht => ?_) (fun ht => ?_)
              · refine w_iinc (lv' := [_, _, _, _, _, _, _, _, _, _, _]) dX2_reduce_119 rfl rfl rfl ?_
                refine w_goto 83 dX2_reduce_122 (by decide) ?_
                refine w_cast rfl rfl ?_ (ih2 (by omega))
                rw [rzX_k (Or.inl (by omega))]
              · refine w_aload_n dX2_reduce_96 rfl rfl ?_
                refine w_iload dX2_reduce_97 rfl ?_
                refine w_lald (i) up_s (by first | rfl | omega | (push_cast; rfl) | (push_cast; omega)) (by omega) (by decide) dX2_reduce_99 ?_
                rw [rzX_n]
                refine w_iload dX2_reduce_100 rfl ?_
                refine w_lshr b rfl (by omega) dX2_reduce_102 ?_
                refine w_lconst1 dX2_reduce_103 ?_
                refine w_land dX2_reduce_104 ?_
                rw [sshr_bit (show b < 64 by omega)]
                refine w_lconst0 dX2_reduce_105 ?_
                refine w_lc_eq 119 dX2_reduce_106 dX2_reduce_107 (by decide) (fun hz => ?_) (fun hz => ?_)
                · have hb1 : ¬ (P i).getLsbD b = true := fun q => by rw [if_pos q] at hz; exact absurd hz (by decide)
                  refine w_iinc (lv' := [_, _, _, _, _, _, _, _, _, _, _]) dX2_reduce_119 rfl rfl rfl ?_
                  refine w_goto 83 dX2_reduce_122 (by decide) ?_
                  refine w_cast rfl rfl ?_ (ih2 (by omega))
                  rw [rzX_k (Or.inr hb1)]
                · have hb1 : (P i).getLsbD b = true := Classical.byContradiction fun q => by rw [if_neg q] at hz; exact hz rfl
                  refine w_aload_n dX2_reduce_110 rfl rfl ?_
                  refine w_iload dX2_reduce_111 rfl ?_
                  refine w_dup2 dX2_reduce_113 rfl rfl ?_
                  refine w_lald i up_s rfl (by omega) (by decide) dX2_reduce_114 ?_
                  rw [rzX_n]
                  refine w_lload dX2_reduce_115 rfl ?_
                  refine w_lxor dX2_reduce_117 ?_
                  refine w_last i up_s rfl (by omega) (by decide) dX2_reduce_118 ?_
                  show wp _ _ _ _ (h.1, up (up h.2 a _) a _) _ _ _
                  rw [up_up, rzX_s (by omega) hb1]
                  refine w_iinc (lv' := [_, _, _, _, _, _, _, _, _, _, _]) dX2_reduce_119 rfl rfl rfl ?_
                  refine w_goto 83 dX2_reduce_122 (by decide) ?_
                  exact ih2 (by omega)
          refine w_cast rfl rfl ?_ (lp 0 (Nat.zero_le _))
          rw [rzX_0]
        · have he : f = m := by omega
          simp only [if_pos he] at ih
          refine w_lload_n dX2_reduce_50 rfl rfl ?_
          refine w_lconst1 dX2_reduce_51 ?_
          refine w_iload dX2_reduce_52 rfl ?_
          refine w_lshl b rfl (by omega) dX2_reduce_54 ?_
          refine w_lor dX2_reduce_55 ?_
          refine w_lstore_n (lv' := [_, _, _, _, _, _, _, _, _, _, _]) dX2_reduce_56 rfl (Nat.le_of_ble_eq_true rfl) rfl rfl ?_
          refine w_goto 128 dX2_reduce_57 (by decide) ?_
          refine w_iinc (lv' := [_, _, _, _, _, _, _, _, _, _, _]) dX2_reduce_128 rfl rfl rfl ?_
          refine w_goto 8 dX2_reduce_131 (by decide) ?_
          exact ih (by omega) _ _ _ _
      refine w_iload dX2_reduce_14 rfl ?_
      refine w_istore (lv' := [_, _, _, _, _, _, _, _, _, _, _]) dX2_reduce_16 (Nat.le_of_ble_eq_true rfl) rfl rfl ?_
      have lpf : ∀ d k, k + d = m → t ≤ k → fk S b d k = f → wp mX2_reduce 18 [.ref a, .int (zI (m : Int)), .int (zI (n : Int)), .long (lB F), jk, .int (zI (t : Int)), .int (zI (b : Int)), .int (zI (k : Int)), x8, x9, x10] [] (h.1, up h.2 a (aL 24 S)) 0 0 (pd (some (.long (lB VF))) (h.1, up h.2 a (aL 24 VS))) := by
        intro d
        induction d with
        | zero =>
          intro k hk htk hfk
          refine w_iload dX2_reduce_18 rfl ?_
          refine w_iload_n dX2_reduce_20 rfl rfl ?_
          refine w_icmp_ge 44 dX2_reduce_21 (by decide) (by first | assumption | (unfold ok32 at *; omega)) (by first | assumption | (unfold ok32 at *; omega)) (fun hd => ?_) (fun hd => ?_)
          · rw [show k = f from hfk]
            exact go _ _ _
          · omega
        | succ d ihd =>
          intro k hk htk hfk
          unfold fk at hfk
          refine w_iload dX2_reduce_18 rfl ?_
          refine w_iload_n dX2_reduce_20 rfl rfl ?_
          refine w_icmp_ge 44 dX2_reduce_21 (by decide) (by first | assumption | (unfold ok32 at *; omega)) (by first | assumption | (unfold ok32 at *; omega)) (fun hd => ?_) (fun hd => ?_)
          · omega
          · refine w_aload_n dX2_reduce_24 rfl rfl ?_
            refine w_iload dX2_reduce_25 rfl ?_
            refine w_lald (k) up_s (by first | rfl | omega | (push_cast; rfl) | (push_cast; omega)) (by omega) (by decide) dX2_reduce_27 ?_
            refine w_iload dX2_reduce_28 rfl ?_
            refine w_lshr b rfl (by omega) dX2_reduce_30 ?_
            refine w_lconst1 dX2_reduce_31 ?_
            refine w_land dX2_reduce_32 ?_
            rw [sshr_bit (show b < 64 by omega)]
            refine w_lconst0 dX2_reduce_33 ?_
            refine w_lc_ne 44 dX2_reduce_34 dX2_reduce_35 (by decide) (fun hz => ?_) (fun hz => ?_)
            · have hb1 : (S k).getLsbD b = true := Classical.byContradiction fun q => by rw [if_neg q] at hz; exact hz rfl
              rw [if_pos hb1] at hfk
              rw [hfk]
              exact go _ _ _
            · have hb1 : ¬ (S k).getLsbD b = true := fun q => by rw [if_pos q] at hz; exact absurd hz (by decide)
              rw [if_neg hb1] at hfk
              refine w_iinc (lv' := [_, _, _, _, _, _, _, _, _, _, _]) dX2_reduce_38 rfl rfl rfl ?_
              refine w_goto 18 dX2_reduce_41 (by decide) ?_
              exact ihd (k + 1) (by omega) (by omega) hfk
      exact lpf (m - t) t (by omega) (Nat.le_refl _) hf
  refine w_cast rfl rfl (up_same ha).symm (key 0 (Nat.zero_le _) jk jk jk jk)
theorem pn_not {f : Nat → Bool} : ∀ {n : Nat}, pn (fun i => !f i) n + pn f n = n
  | 0 => rfl
  | n + 1 => by
    have ih := @pn_not f n
    rw [pn, pn]
    cases f n <;> simp <;> omega
theorem elN_hi {m n : Nat} {T0 : Nat → BitVec 64} (h : ∀ i, i < m → ∀ j, n ≤ j → (T0 i).getLsbD j = false) : ∀ {b : Nat}, ∀ i, i < m → ∀ j, n ≤ j → ((elN m T0 b).1 i).getLsbD j = false
  | 0, i, hi, j, hj => h i hi j hj
  | b + 1, i, hi, j, hj => by
    have ih := @elN_hi m n T0 h b
    have hr := @fk_rng (elN m T0 b).1 b (m - (elN m T0 b).2.2) (elN m T0 b).2.2
    have hk := (elN_rk (m := m) (S0 := T0) (b := b)).1
    rw [elN]
    unfold elS
    split
    · exact ih i hi j hj
    · rename_i hne
      have hP : ∀ i, i < m → ((u1 (u1 (elN m T0 b).1 (fk (elN m T0 b).1 b (m - (elN m T0 b).2.2) (elN m T0 b).2.2) ((elN m T0 b).1 (elN m T0 b).2.2)) (elN m T0 b).2.2 ((elN m T0 b).1 (fk (elN m T0 b).1 b (m - (elN m T0 b).2.2) (elN m T0 b).2.2))) i).getLsbD j = false := by
        intro i hi
        by_cases h1 : i = (elN m T0 b).2.2
        · rw [h1, u1_s]; exact ih _ (by omega) j hj
        · rw [u1_n h1]
          by_cases h2 : i = fk (elN m T0 b).1 b (m - (elN m T0 b).2.2) (elN m T0 b).2.2
          · rw [h2, u1_s]; exact ih _ (by omega) j hj
          · rw [u1_n h2]; exact ih i hi j hj
      show ((elX _ _ _ _ _) i).getLsbD j = false
      unfold elX
      split
      · rw [BitVec.getLsbD_xor, hP i hi, ih _ (by omega) j hj]; rfl
      · exact hP i hi
theorem red_is {B : Nat → Int} {L R C : Nat} {S0 : Nat → BitVec 64} (hV : VC B L R C) (hS : ∀ i, i < L * R → S0 i = cs B L C i) : RED B L R C (rzN (L * R) S0 (L * C)).1 (L * C - pop (rzN (L * R) S0 (L * C)).2.1) (rzN (L * R) S0 (L * C)).2.1 := by
  obtain ⟨v1, v2, v3, v4, v5, v6, v7⟩ := id hV
  have hLC := mulLe (a := L) (b := C) (x := 6) (y := 8) (by omega) (by omega)
  intro q
  have hT : ∀ i, i < L * R → S0 i = el0 q (cs B L C) (L * R) i := fun i hi => by unfold el0; rw [if_pos hi]; exact hS i hi
  have hB := elB (m := L * R) (S0 := S0) (T0 := el0 q (cs B L C) (L * R)) hT (b := L * C) (by omega)
  have hhi : ∀ i, i < L * R → ∀ j, L * C ≤ j → (el0 q (cs B L C) (L * R) i).getLsbD j = false := fun i hi j hj => by unfold el0; rw [if_pos hi]; exact cs_hi hV hi hj
  have hI := (lsR_inv (q := q) hV).1
  have hle := (lsR_inv (q := q) hV).2.2
  have hpop : pop (rzN (L * R) S0 (L * C)).2.1 = L * C - (lsR B q L R C).2.2 := by
    obtain ⟨-, -, -, t3, -⟩ := hB
    have h1 : pop (rzN (L * R) S0 (L * C)).2.1 = pn (rzN (L * R) S0 (L * C)).2.1.getLsbD (L * C) := pn_cut (by omega) (fun i h1 h2 => by rw [t3]; simp; omega)
    rw [h1, pn_congr (g := fun i => !(lsR B q L R C).2.1.getLsbD i) (fun i hi => by rw [t3]; unfold lsR; simp [hi])]
    have h2 := @pn_not (lsR B q L R C).2.1.getLsbD (L * C)
    have h3 := hI.2.2.2
    omega
  have hrk : L * C - pop (rzN (L * R) S0 (L * C)).2.1 = (lsR B q L R C).2.2 := by omega
  refine ⟨hrk.symm, fun j => hB.2.2.2.1 j, fun x => ?_⟩
  rw [hrk]
  exact word_same (by omega) hB hhi (elN_hi hhi) x

