/-! parts of a set, the greatest first -/
def sbs (y x : BitVec 64) : Prop := ∀ i, y.getLsbD i = true → x.getLsbD i = true
theorem sbs_nat {y x : BitVec 64} (h : sbs y x) : y.toNat ≤ x.toNat := by
  have e : y = y &&& x := bv_ext fun i _ => by
    rw [BitVec.getLsbD_and]
    cases hy : y.getLsbD i with
    | false => rfl
    | true => rw [h i hy]; rfl
  have e2 : y.toNat = y.toNat &&& x.toNat := by rw [← BitVec.toNat_and, ← e]
  rw [e2]
  exact Nat.and_le_right
theorem m1_bit {p : BitVec 64} {t i : Nat} (ht : isLow p t) (hi : i < 64) : (p - 1#64).getLsbD i = if i < t then true else if i = t then false else p.getLsbD i := by
  rw [bv_split ht.1 ht.2.1 ht.2.2, BitVec.getLsbD_or, BitVec.getLsbD_and, BitVec.getLsbD_not, bit1 ht.1 hi, bitm ht.1 hi]
  by_cases h1 : i < t
  · simp [h1]
  · by_cases h2 : i = t
    · subst h2; simp
    · simp [h1, h2, hi]
theorem sub_le {x p y : BitVec 64} (hp : sbs p x) (hy : sbs y x) (hp0 : ¬ p = 0#64) (hlt : y.toNat < p.toNat) : y.toNat ≤ ((p - 1#64) &&& x).toNat := by
  obtain ⟨t, ht⟩ := isLow_ex hp0
  have hb : ∀ i, i < 64 → ((p - 1#64) &&& x).getLsbD i = if i < t then x.getLsbD i else if i = t then false else p.getLsbD i := by
    intro i hi
    rw [BitVec.getLsbD_and, m1_bit ht hi]
    by_cases h1 : i < t
    · simp [h1]
    · by_cases h2 : i = t
      · simp [h2]
      · simp only [if_neg h1, if_neg h2]
        cases hpi : p.getLsbD i with
        | false => rfl
        | true => rw [hp i hpi]; rfl
  by_cases hE : y.toNat / 2 ^ (t + 1) = p.toNat / 2 ^ (t + 1)
  · have hab : ∀ i, t < i → y.getLsbD i = p.getLsbD i := by
      intro i hi
      have h1 := congrArg (fun z => Nat.testBit z (i - (t + 1))) hE
      simp only [Nat.testBit_div_two_pow] at h1
      rw [show i - (t + 1) + (t + 1) = i by omega, BitVec.testBit_toNat, BitVec.testBit_toNat] at h1
      exact h1
    have hyt : y.getLsbD t = false := by
      cases h : y.getLsbD t with
      | false => rfl
      | true =>
        have h3 : sbs p y := by
          intro i hi
          by_cases h1 : i < t
          · rw [ht.2.2 i h1] at hi; cases hi
          · by_cases h2 : i = t
            · rw [h2]; exact h
            · rw [hab i (by omega)]; exact hi
        have := sbs_nat h3
        omega
    refine sbs_nat fun i hi => ?_
    by_cases h64 : i < 64
    · rw [hb i h64]
      by_cases h1 : i < t
      · rw [if_pos h1]; exact hy i hi
      · by_cases h2 : i = t
        · rw [h2, hyt] at hi; cases hi
        · rw [if_neg h1, if_neg h2, ← hab i (by omega)]; exact hi
    · rw [BitVec.getLsbD_of_ge _ _ (by omega)] at hi; cases hi
  · have h1 : ((p - 1#64) &&& x).toNat / 2 ^ (t + 1) = p.toNat / 2 ^ (t + 1) := by
      apply Nat.eq_of_testBit_eq
      intro j
      rw [Nat.testBit_div_two_pow, Nat.testBit_div_two_pow, BitVec.testBit_toNat, BitVec.testBit_toNat]
      by_cases h64 : j + (t + 1) < 64
      · rw [hb _ h64, if_neg (by omega), if_neg (by omega)]
      · rw [BitVec.getLsbD_of_ge _ _ (by omega), BitVec.getLsbD_of_ge _ _ (by omega)]
    have h2 : y.toNat / 2 ^ (t + 1) ≤ p.toNat / 2 ^ (t + 1) := Nat.div_le_div_right (Nat.le_of_lt hlt)
    refine Classical.byContradiction fun hn => hE (Nat.le_antisymm h2 ?_)
    rw [← h1]
    exact Nat.div_le_div_right (by omega)
def lstP (M : Nat → BitVec 32) (x : BitVec 64) : Prop := kntP M x ∧ ∀ y, sbs y x → ¬ y = 0#64 → ¬ y = x → ¬ kntP M y
set_option maxRecDepth 4000 in
theorem c_isLeast {r : Nat} {A : Nat → Int} {ia : Nat → Nat → Int} {la : Nat → Nat → BitVec 64} {fi : Nat → Int} {fl : Nat → BitVec 64} {h0 : HP} {L R C : Nat} {x : BitVec 64} (hS : ∀ b, b < L * C → ia 10 b = (hgB (cs A L C) b (L * R)).toInt) (hn : L * C ≤ 48) (hx : ∀ i, x.getLsbD i = true → i < L * C) : sp mX10_isLeast [.ref r, .long (lB x)] (RH r A ia la fi fl h0) 0 0 (pd (some (.int (zI (bI (dP (lstP (fun b => hgB (cs A L C) b (L * R)) x) = true))))) (RH r A ia la fi fl h0)) := by
  have hK : ∀ y, sbs y x → sp mX10_isKnot [.ref r, .long (lB y)] (RH r A ia la fi fl h0) 0 0 (pd (some (.int (zI (@bI (kntP (fun b => hgB (cs A L C) b (L * R)) y) (Classical.propDecidable _))))) (RH r A ia la fi fl h0)) := fun y hy => @c_isKnot r A ia la fi fl h0 L R C y (Classical.propDecidable _) hS hn (fun i hi => hx i (hy i hi))
  generalize hM : (fun b => hgB (cs A L C) b (L * R)) = M at *
  refine sp_wp rfl (lv := [_, _, _, _, _]) rfl (Nat.le_of_ble_eq_true rfl) ?_
  refine w_aload_n dX10_isLeast_0 rfl rfl ?_
  refine w_lload_n dX10_isLeast_1 rfl rfl ?_
  refine wc_V (Z := mX10_isKnot) (As := [_]) (hK x (fun i h => h)) RH0 rfl kX10_isKnot lX10_277 iX10_isKnot vX10_isKnot dX10_isLeast_2 rfl rfl rfl (Nat.le_of_ble_eq_true rfl) ⟨Nat.le_of_ble_eq_true rfl, Nat.le_of_ble_eq_true rfl⟩ ?_
  refine @w_ifb_ne _ _ _ _ _ _ _ _ (kntP M x) (Classical.propDecidable _) _ 10 dX10_isLeast_5 (by decide) (fun hk => ?_) (fun hk => ?_)
  rotate_left
  · refine w_iconst dX10_isLeast_8 ?_
    refine x_iret rfl (by rfl) dX10_isLeast_9 ⟨?_, rfl⟩
    rw [bI_f (fun z => hk (dP_iff.mp z).1)]
  · refine w_lload_n dX10_isLeast_10 rfl rfl ?_
    refine w_lconst1 dX10_isLeast_11 ?_
    refine w_lsub dX10_isLeast_12 ?_
    refine w_lload_n dX10_isLeast_13 rfl rfl ?_
    refine w_land dX10_isLeast_14 ?_
    refine w_lstore_n (lv' := [_, _, _, _, _]) dX10_isLeast_15 rfl (Nat.le_of_ble_eq_true rfl) rfl rfl ?_
    have dec : ∀ p : BitVec 64, ¬ p = 0#64 → ((p - 1#64) &&& x).toNat < p.toNat := by
      intro p hp0
      have h1 : ((p - 1#64) &&& x).toNat ≤ (p - 1#64).toNat := by rw [BitVec.toNat_and]; exact Nat.and_le_left
      have h2 : ¬ p.toNat = 0 := fun z => hp0 (BitVec.eq_of_toNat_eq z)
      have h3 : (p - 1#64).toNat = p.toNat - 1 := by
        have h4 := p.isLt
        rw [BitVec.toNat_sub]
        show (2 ^ 64 - 1 + p.toNat) % 2 ^ 64 = _
        rw [show 2 ^ 64 - 1 + p.toNat = (p.toNat - 1) + 2 ^ 64 by omega, Nat.add_mod_right, Nat.mod_eq_of_lt (by omega)]
      omega
    have insub : ∀ p : BitVec 64, sbs ((p - 1#64) &&& x) x := fun p i hi => by
      rw [BitVec.getLsbD_and] at hi
      simp at hi
      exact hi.2
    have key : ∀ (m : Nat) (p : BitVec 64), p.toNat ≤ m → sbs p x → (p.toNat < x.toNat ∨ p = 0#64) → (∀ y, sbs y x → ¬ y = x → p.toNat < y.toNat → ¬ kntP M y) → wp mX10_isLeast 16 [.ref r, .long (lB x), jk, .long (lB p), jk] [] (RH r A ia la fi fl h0) 0 0 (pd (some (.int (zI (bI (dP (lstP M x) = true))))) (RH r A ia la fi fl h0)) := by
      intro m
      induction m with
      | zero =>
        intro p hpm hpx _ hall
        refine w_lload_n dX10_isLeast_16 rfl rfl ?_
        refine w_lconst0 dX10_isLeast_17 ?_
        refine w_lc_eq 41 dX10_isLeast_18 dX10_isLeast_19 (by decide) (fun hz => ?_) (fun hz => ?_)
        · refine w_iconst dX10_isLeast_41 ?_
          refine x_iret rfl (by rfl) dX10_isLeast_42 ⟨?_, rfl⟩
          have h7 : lstP M x := ⟨hk, fun y y1 y2 y3 => hall y y1 y3 (Classical.byContradiction fun z => y2 (BitVec.eq_of_toNat_eq (by show y.toNat = 0; omega)))⟩
          rw [bI_t (dP_iff.mpr h7)]
        · exact absurd (BitVec.eq_of_toNat_eq (by show p.toNat = 0; omega)) hz
      | succ m ih =>
        intro p hpm hpx hps hall
        refine w_lload_n dX10_isLeast_16 rfl rfl ?_
        refine w_lconst0 dX10_isLeast_17 ?_
        refine w_lc_eq 41 dX10_isLeast_18 dX10_isLeast_19 (by decide) (fun hz => ?_) (fun hz => ?_)
        · refine w_iconst dX10_isLeast_41 ?_
          refine x_iret rfl (by rfl) dX10_isLeast_42 ⟨?_, rfl⟩
          have h8 : p.toNat = 0 := by rw [hz]; rfl
          have h7 : lstP M x := ⟨hk, fun y y1 y2 y3 => hall y y1 y3 (Classical.byContradiction fun z => y2 (BitVec.eq_of_toNat_eq (by show y.toNat = 0; omega)))⟩
          rw [bI_t (dP_iff.mpr h7)]
        · have hlt : p.toNat < x.toNat := hps.resolve_right hz
          refine w_aload_n dX10_isLeast_22 rfl rfl ?_
          refine w_lload_n dX10_isLeast_23 rfl rfl ?_
          refine wc_V (Z := mX10_isKnot) (As := [_]) (hK p hpx) RH0 rfl kX10_isKnot lX10_277 iX10_isKnot vX10_isKnot dX10_isLeast_24 rfl rfl rfl (Nat.le_of_ble_eq_true rfl) ⟨Nat.le_of_ble_eq_true rfl, Nat.le_of_ble_eq_true rfl⟩ ?_
          refine @w_ifb_eq _ _ _ _ _ _ _ _ (kntP M p) (Classical.propDecidable _) _ 32 dX10_isLeast_27 (by decide) (fun hkp => ?_) (fun hkp => ?_)
          · refine w_lload_n dX10_isLeast_32 rfl rfl ?_
            refine w_lconst1 dX10_isLeast_33 ?_
            refine w_lsub dX10_isLeast_34 ?_
            refine w_lload_n dX10_isLeast_35 rfl rfl ?_
            refine w_land dX10_isLeast_36 ?_
            refine w_lstore_n (lv' := [_, _, _, _, _]) dX10_isLeast_37 rfl (Nat.le_of_ble_eq_true rfl) rfl rfl ?_
            refine w_goto 16 dX10_isLeast_38 (by decide) ?_
            have hd := dec p hz
            refine ih _ (by omega) (insub p) (Or.inl (by omega)) (fun y y1 y2 y3 => ?_)
            by_cases hy : y.toNat < p.toNat
            · have := sub_le hpx y1 hz hy
              omega
            · by_cases he : y.toNat = p.toNat
              · rw [BitVec.eq_of_toNat_eq he]; exact hkp
              · exact hall y y1 y2 (by omega)
          · refine w_iconst dX10_isLeast_30 ?_
            refine x_iret rfl (by rfl) dX10_isLeast_31 ⟨?_, rfl⟩
            rw [bI_f (fun z => (dP_iff.mp z).2 p hpx hz (fun e => by rw [e] at hlt; omega) hkp)]
    by_cases hx0 : x = 0#64
    · refine key _ _ (Nat.le_refl _) (insub x) (Or.inr (by rw [hx0]; rfl)) (fun y y1 y2 y3 => ?_)
      refine absurd (BitVec.eq_of_toNat_eq (Nat.le_antisymm (sbs_nat y1) ?_)) y2
      rw [hx0]
      exact Nat.zero_le _
    · refine key _ _ (Nat.le_refl _) (insub x) (Or.inl (dec x hx0)) (fun y y1 y2 y3 => ?_)
      have h1 := sbs_nat y1
      have h2 : ¬ y.toNat = x.toNat := fun z => y2 (BitVec.eq_of_toNat_eq z)
      have := sub_le (x := x) (p := x) (fun i h => h) y1 hx0 (by omega)
      omega
/-! what is left of a set -/
def pw (c : Nat → BitVec 64) : Nat → BitVec 64 → BitVec 64
  | 0, x => x
  | n + 1, x => if (c n &&& pw c n x) &&& ((c n &&& pw c n x) - 1#64) = 0#64 then pw c n x &&& ~~~(c n &&& pw c n x) else pw c n x
def plF (c : Nat → BitVec 64) (m : Nat) : Nat → BitVec 64 → BitVec 64
  | 0, x => x
  | f + 1, x => if pw c m x = x then x else plF c m f (pw c m x)
theorem pw_sub {c : Nat → BitVec 64} {x : BitVec 64} : ∀ {n : Nat}, sbs (pw c n x) x
  | 0 => fun i h => h
  | n + 1 => fun i h => by
    unfold pw at h
    split at h
    · rw [BitVec.getLsbD_and] at h
      simp at h
      exact pw_sub i h.1
    · exact pw_sub i h
theorem ne_not (x : BitVec 64) : ¬ x = ~~~x := fun h => by
  have h1 := congrArg (fun z => z.getLsbD 0) h
  simp only [BitVec.getLsbD_not] at h1
  cases hx : x.getLsbD 0 <;> rw [hx] at h1 <;> simp at h1
set_option maxRecDepth 4000 in
theorem c_peelLaid {r : Nat} {A : Nat → Int} {ia : Nat → Nat → Int} {la : Nat → Nat → BitVec 64} {fi : Nat → Int} {fl : Nat → BitVec 64} {h0 : HP} {L R C : Nat} {x : BitVec 64} (hV : VC A L R C) (hS : ∀ c, c < L * R → la 8 c = cs A L C c) : sp mX10_peelLaid [.ref r, .long (lB x)] (RH r A ia la fi fl h0) 0 0 (pd (some (.long (lB (plF (cs A L C) (L * R) 65 x)))) (RH r A ia la fi fl h0)) := by
  obtain ⟨v1, v2, v3, v4, v5, v6, v7⟩ := id hV
  have hLRn := mulLe (a := L) (b := R) (x := 6) (y := 4) (by omega) (by omega)
  have hLR : (L : Int) * R = ((L * R : Nat) : Int) := by push_cast; rfl
  obtain ⟨V0, hV0⟩ : ∃ V0, plF (cs A L C) (L * R) 65 x = V0 := ⟨_, rfl⟩
  rw [hV0]
  have key : ∀ (f : Nat) (y w : BitVec 64) (x7 x8 : Value), pop y < f → ¬ y = w → plF (cs A L C) (L * R) f y = V0 → wp mX10_peelLaid 9 [.ref r, .long (lB x), jk, .long (lB y), jk, .long (lB w), jk, x7, x8, jk] [] (RH r A ia la fi fl h0) 0 0 (pd (some (.long (lB V0))) (RH r A ia la fi fl h0)) := by
    intro f
    induction f with
    | zero => intro y w x7 x8 h; omega
    | succ f ih =>
      intro y w x7 x8 hp hne hv
      unfold plF at hv
      refine w_lload_n dX10_peelLaid_9 rfl rfl ?_
      refine w_lload dX10_peelLaid_10 rfl ?_
      refine w_lc_eq 72 dX10_peelLaid_12 dX10_peelLaid_13 (by decide) (fun hz => ?_) (fun hz => ?_)
      · exact absurd hz hne
      · refine w_lload_n dX10_peelLaid_16 rfl rfl ?_
        refine w_lstore (lv' := [_, _, _, _, _, _, _, _, _, _]) dX10_peelLaid_17 (Nat.le_of_ble_eq_true rfl) rfl rfl ?_
        refine w_iconst dX10_peelLaid_19 ?_
        refine w_istore (lv' := [_, _, _, _, _, _, _, _, _, _]) dX10_peelLaid_20 (Nat.le_of_ble_eq_true rfl) rfl rfl ?_
        have inner : ∀ c : Nat, c ≤ L * R → ∀ x8 : Value, wp mX10_peelLaid 22 [.ref r, .long (lB x), jk, .long (lB (pw (cs A L C) c y)), jk, .long (lB y), jk, .int (zI (c : Int)), x8, jk] [] (RH r A ia la fi fl h0) 0 0 (pd (some (.long (lB V0))) (RH r A ia la fi fl h0)) := by
          refine up_ind (N := L * R) (fun c hc ih2 => ?_)
          intro x8
          refine w_iload dX10_peelLaid_22 rfl ?_
          refine w_aload_n dX10_peelLaid_24 rfl rfl ?_
          refine wc_V (Z := mX10_checks) (As := []) c_checks RH0 rfl kX10_checks lX10_74 iX10_checks vX10_checks dX10_peelLaid_25 rfl rfl rfl (Nat.le_of_ble_eq_true rfl) ⟨Nat.le_of_ble_eq_true rfl, Nat.le_of_ble_eq_true rfl⟩ ?_
          rw [v1, v2, hLR]
          refine w_icmp_ge 69 dX10_peelLaid_28 (by decide) (by unfold ok32; omega) (by unfold ok32; omega) (fun hn => ?_) (fun hn => ?_)
          · have ec : c = L * R := by omega
            subst ec
            refine w_goto 9 dX10_peelLaid_69 (by decide) ?_
            by_cases hs : pw (cs A L C) (L * R) y = y
            · rw [if_pos hs] at hv
              rw [hs, hv]
              refine w_lload_n dX10_peelLaid_9 rfl rfl ?_
              refine w_lload dX10_peelLaid_10 rfl ?_
              refine w_lc_eq 72 dX10_peelLaid_12 dX10_peelLaid_13 (by decide) (fun hz2 => ?_) (fun hz2 => ?_)
              · refine w_lload_n dX10_peelLaid_72 rfl rfl ?_
                exact x_lret rfl dX10_peelLaid_73 ⟨rfl, rfl⟩
              · exact absurd rfl hz2
            · rw [if_neg hs] at hv
              have h5 := pop_lt (x := pw (cs A L C) (L * R) y) (y := y) (fun i _ h => pw_sub i h) (fun q => hs q.symm)
              exact ih _ _ _ _ (by omega) hs hv
          · refine w_aload_n dX10_peelLaid_31 rfl rfl ?_
            refine w_getf fX10_39 dX10_peelLaid_32 RH0 rfl ?_
            refine w_iload dX10_peelLaid_35 rfl ?_
            refine w_lald c RH8 rfl (by omega) (by decide) dX10_peelLaid_37 ?_
            rw [hS c (by omega)]
            refine w_lload_n dX10_peelLaid_38 rfl rfl ?_
            refine w_land dX10_peelLaid_39 ?_
            refine w_lstore (lv' := [_, _, _, _, _, _, _, _, _, _]) dX10_peelLaid_40 (Nat.le_of_ble_eq_true rfl) rfl rfl ?_
            refine w_lload dX10_peelLaid_42 rfl ?_
            refine w_lload dX10_peelLaid_44 rfl ?_
            refine w_lconst1 dX10_peelLaid_46 ?_
            refine w_lsub dX10_peelLaid_47 ?_
            refine w_land dX10_peelLaid_48 ?_
            refine w_lconst0 dX10_peelLaid_49 ?_
            refine w_lc_ne 63 dX10_peelLaid_50 dX10_peelLaid_51 (by decide) (fun hz3 => ?_) (fun hz3 => ?_)
            · refine w_iinc (lv' := [_, _, _, _, _, _, _, _, _, _]) dX10_peelLaid_63 rfl rfl rfl ?_
              refine w_goto 22 dX10_peelLaid_66 (by decide) ?_
              have h6 := ih2 (by omega) (.long (lB (cs A L C c &&& pw (cs A L C) c y)))
              rw [pw, if_neg (show ¬ (cs A L C c &&& pw (cs A L C) c y) &&& ((cs A L C c &&& pw (cs A L C) c y) - 1#64) = 0#64 from hz3)] at h6
              exact h6
            · refine w_lload_n dX10_peelLaid_54 rfl rfl ?_
              refine w_lload dX10_peelLaid_55 rfl ?_
              refine w_ldc2B (-1#64) qX10_255 (by decide) dX10_peelLaid_57 ?_
              refine w_lxor dX10_peelLaid_60 ?_
              rw [nx]
              refine w_land dX10_peelLaid_61 ?_
              refine w_lstore_n (lv' := [_, _, _, _, _, _, _, _, _, _]) dX10_peelLaid_62 rfl (Nat.le_of_ble_eq_true rfl) rfl rfl ?_
              refine w_iinc (lv' := [_, _, _, _, _, _, _, _, _, _]) dX10_peelLaid_63 rfl rfl rfl ?_
              refine w_goto 22 dX10_peelLaid_66 (by decide) ?_
              have h6 := ih2 (by omega) (.long (lB (cs A L C c &&& pw (cs A L C) c y)))
              rw [pw, if_pos (show (cs A L C c &&& pw (cs A L C) c y) &&& ((cs A L C c &&& pw (cs A L C) c y) - 1#64) = 0#64 from hz3)] at h6
              exact h6
        exact inner 0 (Nat.zero_le _) _
  refine sp_wp rfl (lv := [_, _, _, _, _, _, _, _, _, _]) rfl (Nat.le_of_ble_eq_true rfl) ?_
  refine w_lload_n dX10_peelLaid_0 rfl rfl ?_
  refine w_lstore_n (lv' := [_, _, _, _, _, _, _, _, _, _]) dX10_peelLaid_1 rfl (Nat.le_of_ble_eq_true rfl) rfl rfl ?_
  refine w_lload_n dX10_peelLaid_2 rfl rfl ?_
  refine w_ldc2B (-1#64) qX10_255 (by decide) dX10_peelLaid_3 ?_
  refine w_lxor dX10_peelLaid_6 ?_
  rw [nx]
  refine w_lstore (lv' := [_, _, _, _, _, _, _, _, _, _]) dX10_peelLaid_7 (Nat.le_of_ble_eq_true rfl) rfl rfl ?_
  exact key 65 x _ jk jk (by have := pop_le x; omega) (ne_not x) hV0

