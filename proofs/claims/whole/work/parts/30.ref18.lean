/-! masks of checks: numbers of 32 bits -/
def iB (v : BitVec 32) : Int32 := Int32.ofBitVec v
theorem zI_iB (v : BitVec 32) : zI v.toInt = iB v := by
  apply Int32.toBitVec.inj
  show BitVec.ofInt 32 v.toInt = v
  exact BitVec.ofInt_toInt
theorem iB_or (a b : BitVec 32) : iB a ||| iB b = iB (a ||| b) := rfl
theorem iB_and (a b : BitVec 32) : iB a &&& iB b = iB (a &&& b) := rfl
theorem iB_xor (a b : BitVec 32) : iB a ^^^ iB b = iB (a ^^^ b) := rfl
theorem iB_one {c : Nat} (hc : c < 31) : zI 1 <<< (zI (c : Int) &&& 31) = iB (1#32 <<< c) := by
  have key : ∀ c : Nat, c < 31 → zI 1 <<< (zI (c : Int) &&& 31) = iB (1#32 <<< c) := by decide +kernel
  exact key c hc
theorem iB_l (v : BitVec 32) : (iB v).toInt64 = lB (v.signExtend 64) := rfl
theorem bit32 {t i : Nat} (ht : t < 32) (hi : i < 32) : (1#32 <<< t).getLsbD i = decide (i = t) := by
  have key : ∀ t : Nat, t < 32 → ∀ i : Nat, i < 32 → (1#32 <<< t).getLsbD i = decide (i = t) := by decide +kernel
  exact key t ht i hi
/-- the checks that have a bit -/
def hgB (c : Nat → BitVec 64) (b : Nat) : Nat → BitVec 32
  | 0 => 0#32
  | n + 1 => if (c n).getLsbD b = true then hgB c b n ||| (1#32 <<< n) else hgB c b n
theorem csetN_hi {sh : Nat → Int} {L c i : Nat} (hL : 1 ≤ L ∧ L ≤ 6) : ∀ {C : Nat}, C ≤ 8 → (∀ j, j < C → -1 ≤ sh (8 * (c / L) + j)) → L * C ≤ i → (csetN sh L c C).getLsbD i = false
  | 0, _, _, _ => by unfold csetN; simp
  | C + 1, hC, hs, hi => by
    have h1 : L * C ≤ L * (C + 1) := Nat.mul_le_mul_left _ (by omega)
    have ih := csetN_hi (i := i) hL (C := C) (by omega) (fun j hj => hs j (by omega)) (by omega)
    have hb := bitN_le (sh := sh) (L := L) (C := C + 1) (c := c) (j := C) hL (by omega) hC (hs C (by omega))
    unfold csetN
    split
    · exact ih
    · rw [BitVec.getLsbD_or, ih, bit1o (by omega)]
      have h2 : ((L * (C + 1) : Nat) : Int) = (L : Int) * ((C + 1 : Nat) : Int) := by push_cast; rfl
      simp; omega
theorem cs_hi {A : Nat → Int} {L R C c i : Nat} (hV : VC A L R C) (hc : c < L * R) (hi : L * C ≤ i) : (cs A L C c).getLsbD i = false := by
  obtain ⟨v1, v2, v3, v4, v5, v6, v7⟩ := hV
  have hr := rowLt hc v4.1
  exact csetN_hi v4 v6.2 (fun j hj => (v7 _ (by omega)).1) hi
def SETS (A : Nat → Int) (ia : Nat → Nat → Int) (la : Nat → Nat → BitVec 64) (L R C : Nat) : Prop := (∀ c, c < L * R → la 8 c = cs A L C c) ∧ ∀ b, b < L * C → ia 10 b = (hgB (cs A L C) b (L * R)).toInt
set_option maxRecDepth 4000 in
theorem c_laySets {r : Nat} {A : Nat → Int} {ia : Nat → Nat → Int} {la : Nat → Nat → BitVec 64} {fi : Nat → Int} {fl : Nat → BitVec 64} {h0 : HP} {L R C : Nat} (hV : VC A L R C) : sp mX10_laySets [.ref r] (RH r A ia la fi fl h0) 0 0 (px none (fun q : (Nat → Int) × (Nat → BitVec 64) => SETS A (u1 ia 10 q.1) (u1 la 8 q.2) L R C) (fun q => (RH r A (u1 ia 10 q.1) (u1 la 8 q.2) fi fl h0))) := by
  obtain ⟨v1, v2, v3, v4, v5, v6, v7⟩ := id hV
  have hLR := mulLe (a := L) (b := R) (x := 6) (y := 4) (by omega) (by omega)
  have hLC := mulLe (a := L) (b := C) (x := 6) (y := 8) (by omega) (by omega)
  have main : ∀ c : Nat, c ≤ L * R → ∀ (q : Nat → Int) (s : Nat → BitVec 64) (x2 : Value), (∀ d, d < c → s d = cs A L C d) → (∀ b, b < L * C → q b = (hgB (cs A L C) b c).toInt) → wp mX10_laySets 25 [.ref r, .int (zI (c : Int)), x2, jk] [] (RH r A (u1 ia 10 q) (u1 la 8 s) fi fl h0) 0 0 (px none (fun q : (Nat → Int) × (Nat → BitVec 64) => SETS A (u1 ia 10 q.1) (u1 la 8 q.2) L R C) (fun q => (RH r A (u1 ia 10 q.1) (u1 la 8 q.2) fi fl h0))) := by
    refine up_ind (N := L * R) (fun c hc ih => ?_)
    intro q s x2 hs hq
    refine w_iload_n dX10_laySets_25 rfl rfl ?_
    refine w_aload_n dX10_laySets_26 rfl rfl ?_
    refine wc_V (Z := mX10_checks) (As := []) c_checks RH0 rfl kX10_checks lX10_74 iX10_checks vX10_checks dX10_laySets_27 rfl rfl rfl (Nat.le_of_ble_eq_true rfl) ⟨Nat.le_of_ble_eq_true rfl, Nat.le_of_ble_eq_true rfl⟩ ?_
    rw [v1, v2]
    refine w_icmp_ge 87 dX10_laySets_30 (by decide) (by unfold ok32; omega) (by unfold ok32; omega) (fun hn => ?_) (fun hn => ?_)
    · have ec : c = L * R := by omega
      subst ec
      refine x_vret rfl dX10_laySets_87 ⟨rfl, (q, s), ⟨fun d hd => ?_, fun b hb => ?_⟩, rfl⟩
      · rw [u1_s]; exact hs d hd
      · rw [u1_s]; exact hq b hb
    · have hcl : c < L * R := by omega
      refine w_aload_n dX10_laySets_33 rfl rfl ?_
      refine w_getf fX10_39 dX10_laySets_34 RH0 rfl ?_
      refine w_iload_n dX10_laySets_37 rfl rfl ?_
      refine w_aload_n dX10_laySets_38 rfl rfl ?_
      refine w_iload_n dX10_laySets_39 rfl rfl ?_
      refine wc_V (Z := mX10_checkSet) (As := [_]) (c_checkSet hV hcl) RH0 rfl kX10_checkSet lX10_83 iX10_checkSet vX10_checkSet dX10_laySets_40 rfl rfl rfl (Nat.le_of_ble_eq_true rfl) ⟨Nat.le_of_ble_eq_true rfl, Nat.le_of_ble_eq_true rfl⟩ ?_
      refine r_lst8K c rfl (by omega) dX10_laySets_43 ?_
      rw [u1_u1, u1_s]
      refine w_aload_n dX10_laySets_44 rfl rfl ?_
      refine w_getf fX10_39 dX10_laySets_45 RH0 rfl ?_
      refine w_iload_n dX10_laySets_48 rfl rfl ?_
      refine w_lald c RH8 rfl (by omega) (by decide) dX10_laySets_49 ?_
      rw [u1_s, u1_s]
      refine w_lstore_n (lv' := [_, _, _, _]) dX10_laySets_50 rfl (Nat.le_of_ble_eq_true rfl) rfl rfl ?_
      have inner : ∀ (n : Nat) (y : BitVec 64) (q : Nat → Int), pop y = n → (∀ i, y.getLsbD i = true → (cs A L C c).getLsbD i = true) → (∀ b, b < L * C → q b = (if y.getLsbD b = true then hgB (cs A L C) b c else hgB (cs A L C) b (c + 1)).toInt) → wp mX10_laySets 51 [.ref r, .int (zI (c : Int)), .long (lB y), jk] [] (RH r A (u1 ia 10 q) (u1 la 8 (u1 s c (cs A L C c))) fi fl h0) 0 0 (px none (fun q : (Nat → Int) × (Nat → BitVec 64) => SETS A (u1 ia 10 q.1) (u1 la 8 q.2) L R C) (fun q => (RH r A (u1 ia 10 q.1) (u1 la 8 q.2) fi fl h0))) := by
        intro n
        induction n with
        | zero =>
          intro y q hy hyc hq
          refine w_lload_n dX10_laySets_51 rfl rfl ?_
          refine w_lconst0 dX10_laySets_52 ?_
          refine w_lc_eq 81 dX10_laySets_53 dX10_laySets_54 (by decide) (fun hz => ?_) (fun hz => ?_)
          · refine w_iinc (lv' := [_, _, _, _]) dX10_laySets_81 rfl rfl rfl ?_
            refine w_goto 25 dX10_laySets_84 (by decide) ?_
            refine ih hcl q _ _ (fun d hd => ?_) (fun b hb => ?_)
            · by_cases hdc : d = c
              · subst hdc; rw [u1_s]
              · rw [u1_n hdc]; exact hs d (by omega)
            · rw [hq b hb, hz, if_neg (by simp)]
          · have := pop_clr hz; omega
        | succ n ih2 =>
          intro y q hy hyc hq
          refine w_lload_n dX10_laySets_51 rfl rfl ?_
          refine w_lconst0 dX10_laySets_52 ?_
          refine w_lc_eq 81 dX10_laySets_53 dX10_laySets_54 (by decide) (fun hz => ?_) (fun hz => ?_)
          · rw [hz, pop_0] at hy; omega
          · obtain ⟨t, ht⟩ := isLow_ex hz
            have hpc := pop_clr hz
            have htn : t < L * C := by
              refine Classical.byContradiction fun h => ?_
              have h1 := hyc t ht.2.1
              rw [cs_hi hV hcl (by omega)] at h1
              cases h1
            refine w_aload_n dX10_laySets_57 rfl rfl ?_
            refine w_getf fX10_45 dX10_laySets_58 RH0 rfl ?_
            refine w_lload_n dX10_laySets_61 rfl rfl ?_
            refine wc_S (Z := mX10_lowest) (As := [_]) (c_lowest ht) kX10_lowest lX10_224 sX10_lowest dX10_laySets_62 rfl rfl rfl (Nat.le_of_ble_eq_true rfl) ⟨Nat.le_of_ble_eq_true rfl, Nat.le_of_ble_eq_true rfl⟩ ?_
            refine w_dup2 dX10_laySets_65 rfl rfl ?_
            refine w_iald t RH10 rfl (by omega) (by decide) dX10_laySets_66 ?_
            rw [u1_s, hq t htn, if_pos ht.2.1, zI_iB]
            refine w_iconst dX10_laySets_67 ?_
            refine w_iload_n dX10_laySets_68 rfl rfl ?_
            refine w_ishlR dX10_laySets_69 ?_
            rw [iB_one (by omega)]
            refine w_iorR dX10_laySets_70 ?_
            rw [iB_or, ← zI_iB]
            refine r_ist10K t rfl (by omega) dX10_laySets_71 ?_
            rw [u1_u1, u1_s]
            refine w_lload_n dX10_laySets_72 rfl rfl ?_
            refine w_lload_n dX10_laySets_73 rfl rfl ?_
            refine w_lconst1 dX10_laySets_74 ?_
            refine w_lsub dX10_laySets_75 ?_
            refine w_land dX10_laySets_76 ?_
            refine w_lstore_n (lv' := [_, _, _, _]) dX10_laySets_77 rfl (Nat.le_of_ble_eq_true rfl) rfl rfl ?_
            refine w_goto 51 dX10_laySets_78 (by decide) ?_
            refine ih2 _ _ (by omega) (fun i hi => ?_) (fun b hb => ?_)
            · by_cases hi64 : i < 64
              · rw [clr_bit ht.1 hi64 ht.2.1 ht.2.2] at hi
                simp at hi
                exact hyc i hi.1
              · rw [BitVec.getLsbD_of_ge _ _ (by omega)] at hi; cases hi
            · rw [clr_bit ht.1 (by omega) ht.2.1 ht.2.2]
              by_cases hbt : b = t
              · subst hbt
                rw [u1_s, if_neg (by simp), hgB, if_pos (hyc b ht.2.1)]
              · rw [u1_n hbt, hq b hb]
                simp [hbt]
      refine inner _ _ q rfl (fun i h => h) (fun b hb => ?_)
      show q b = (if (cs A L C c).getLsbD b = true then hgB (cs A L C) b c else hgB (cs A L C) b (c + 1)).toInt
      rw [hq b hb]
      by_cases h : (cs A L C c).getLsbD b = true
      · rw [if_pos h]
      · rw [if_neg h, hgB, if_neg h]
  refine sp_wp rfl (lv := [_, _, _, _]) rfl (Nat.le_of_ble_eq_true rfl) ?_
  refine w_iconst dX10_laySets_0 ?_
  refine w_istore_n (lv' := [_, _, _, _]) dX10_laySets_1 rfl (Nat.le_of_ble_eq_true rfl) rfl rfl ?_
  have key : ∀ b : Nat, b ≤ L * C → ∀ q : Nat → Int, (∀ i, i < b → q i = 0) → wp mX10_laySets 2 [.ref r, .int (zI (b : Int)), jk, jk] [] (RH r A (u1 ia 10 q) la fi fl h0) 0 0 (px none (fun q : (Nat → Int) × (Nat → BitVec 64) => SETS A (u1 ia 10 q.1) (u1 la 8 q.2) L R C) (fun q => (RH r A (u1 ia 10 q.1) (u1 la 8 q.2) fi fl h0))) := by
    refine up_ind (N := L * C) (fun b hb ih => ?_)
    intro q hq
    refine w_iload_n dX10_laySets_2 rfl rfl ?_
    refine w_aload_n dX10_laySets_3 rfl rfl ?_
    refine wc_V (Z := mX10_bits) (As := []) c_bits RH0 rfl kX10_bits lX10_66 iX10_bits vX10_bits dX10_laySets_4 rfl rfl rfl (Nat.le_of_ble_eq_true rfl) ⟨Nat.le_of_ble_eq_true rfl, Nat.le_of_ble_eq_true rfl⟩ ?_
    rw [v1, v3]
    refine w_icmp_ge 23 dX10_laySets_7 (by decide) (by unfold ok32; omega) (by unfold ok32; omega) (fun hn => ?_) (fun hn => ?_)
    · refine w_iconst dX10_laySets_23 ?_
      refine w_istore_n (lv' := [_, _, _, _]) dX10_laySets_24 rfl (Nat.le_of_ble_eq_true rfl) rfl rfl ?_
      have h5 := main 0 (Nat.zero_le _) q (la 8) jk (fun d hd => absurd hd (by omega)) (fun b hb => by rw [hq b (by omega)]; rfl)
      rw [u1_id] at h5
      exact h5
    · refine w_aload_n dX10_laySets_10 rfl rfl ?_
      refine w_getf fX10_45 dX10_laySets_11 RH0 rfl ?_
      refine w_iload_n dX10_laySets_14 rfl rfl ?_
      refine w_iconst dX10_laySets_15 ?_
      refine r_ist10K b rfl (by omega) dX10_laySets_16 ?_
      rw [u1_u1, u1_s]
      refine w_iinc (lv' := [_, _, _, _]) dX10_laySets_17 rfl rfl rfl ?_
      refine w_goto 2 dX10_laySets_20 (by decide) ?_
      refine ih (by omega) _ (fun i hi => ?_)
      by_cases h : i = b
      · subst h; rw [u1_s]
      · rw [u1_n h]; exact hq i (by omega)
  have h2 := key 0 (Nat.zero_le _) (ia 10) (fun i hi => absurd hi (by omega))
  rw [u1_id] at h2
  exact h2
/-! over the bits of a set -/
def xo (M : Nat → BitVec 32) (f : Nat → Bool) : Nat → BitVec 32
  | 0 => 0#32
  | n + 1 => if f n = true then xo M f n ^^^ M n else xo M f n
def xoS (M : Nat → BitVec 32) (x : BitVec 64) : BitVec 32 := xo M x.getLsbD 64
theorem xo_same {M : Nat → BitVec 32} {f f' : Nat → Bool} : ∀ {n : Nat}, (∀ i, i < n → f i = f' i) → xo M f n = xo M f' n
  | 0, _ => rfl
  | n + 1, h => by unfold xo; rw [xo_same (fun i hi => h i (by omega)), h n (by omega)]
theorem xo_off {M : Nat → BitVec 32} {f f' : Nat → Bool} {t : Nat} (hf : f t = true) (hf' : f' t = false) : ∀ {n : Nat}, t < n → (∀ i, i < n → i ≠ t → f' i = f i) → xo M f n = M t ^^^ xo M f' n
  | 0, h, _ => by omega
  | n + 1, h, hi => by
    by_cases htn : t = n
    · subst htn
      show (if f t = true then xo M f t ^^^ M t else xo M f t) = M t ^^^ (if f' t = true then xo M f' t ^^^ M t else xo M f' t)
      rw [hf, hf', if_pos rfl, if_neg (by decide), xo_same (fun i h2 => (hi i (by omega) (by omega)).symm), BitVec.xor_comm]
    · have ih := xo_off (M := M) hf hf' (n := n) (by omega) (fun i h1 h2 => hi i (by omega) h2)
      show (if f n = true then xo M f n ^^^ M n else xo M f n) = M t ^^^ (if f' n = true then xo M f' n ^^^ M n else xo M f' n)
      rw [hi n (by omega) (fun q => htn q.symm), ih]
      split
      · rw [BitVec.xor_assoc]
      · rfl
theorem xoS_clr {M : Nat → BitVec 32} {x : BitVec 64} {t : Nat} (h : isLow x t) : xoS M x = M t ^^^ xoS M (x &&& (x - 1#64)) := by
  have := xo_off (M := M) (f := x.getLsbD) (f' := (x &&& (x - 1#64)).getLsbD) (n := 64) h.2.1 (by rw [clr_bit h.1 h.1 h.2.1 h.2.2]; simp) h.1 (fun i hi hit => by rw [clr_bit h.1 hi h.2.1 h.2.2]; simp [hit])
  exact this
theorem xo_0 {M : Nat → BitVec 32} {f : Nat → Bool} : ∀ {n : Nat}, (∀ i, i < n → f i = false) → xo M f n = 0#32
  | 0, _ => rfl
  | n + 1, h => by unfold xo; rw [h n (by omega), if_neg (by decide), xo_0 (fun i hi => h i (by omega))]
theorem xoS_0 {M : Nat → BitVec 32} : xoS M 0#64 = 0#32 := xo_0 (fun i _ => by simp)
def pq (v : BitVec 32) : Nat := pop (v.signExtend 64)
/-- a bit is held by the rest -/
def hdB (M : Nat → BitVec 32) (od : BitVec 32) (t : Nat) : Prop := 2 * pq (M t &&& od) < pq (M t)
def kntP (M : Nat → BitVec 32) (x : BitVec 64) : Prop := ∀ t, x.getLsbD t = true → hdB M (xoS M x) t
set_option maxRecDepth 4000 in
theorem c_isKnot {r : Nat} {A : Nat → Int} {ia : Nat → Nat → Int} {la : Nat → Nat → BitVec 64} {fi : Nat → Int} {fl : Nat → BitVec 64} {h0 : HP} {L R C : Nat} {x : BitVec 64} [Decidable (kntP (fun b => hgB (cs A L C) b (L * R)) x)] (hS : ∀ b, b < L * C → ia 10 b = (hgB (cs A L C) b (L * R)).toInt) (hn : L * C ≤ 48) (hx : ∀ i, x.getLsbD i = true → i < L * C) : sp mX10_isKnot [.ref r, .long (lB x)] (RH r A ia la fi fl h0) 0 0 (pd (some (.int (zI (bI (kntP (fun b => hgB (cs A L C) b (L * R)) x))))) (RH r A ia la fi fl h0)) := by
  generalize hM : (fun b => hgB (cs A L C) b (L * R)) = M at *
  have hS2 : ∀ b, b < L * C → ia 10 b = (M b).toInt := fun b hb => by rw [hS b hb, ← hM]
  have sub : ∀ {y : BitVec 64} {t : Nat}, isLow y t → (∀ i, y.getLsbD i = true → x.getLsbD i = true) → ∀ i, (y &&& (y - 1#64)).getLsbD i = true → x.getLsbD i = true := by
    intro y t ht h i hi
    by_cases hi64 : i < 64
    · rw [clr_bit ht.1 hi64 ht.2.1 ht.2.2] at hi
      simp at hi
      exact h i hi.1
    · rw [BitVec.getLsbD_of_ge _ _ (by omega)] at hi; cases hi
  have second : ∀ (n : Nat) (y : BitVec 64) (x6 : Value), pop y = n → (∀ i, y.getLsbD i = true → x.getLsbD i = true) → (∀ i, x.getLsbD i = true → ¬ y.getLsbD i = true → hdB M (xoS M x) i) → wp mX10_isKnot 40 [.ref r, .long (lB x), jk, .int (iB (xoS M x)), .long (lB y), jk, x6] [] (RH r A ia la fi fl h0) 0 0 (pd (some (.int (zI (bI (kntP M x))))) (RH r A ia la fi fl h0)) := by
    intro n
    induction n with
    | zero =>
      intro y x6 hy hyx hd
      refine w_lload dX10_isKnot_40 rfl ?_
      refine w_lconst0 dX10_isKnot_42 ?_
      refine w_lc_eq 92 dX10_isKnot_43 dX10_isKnot_44 (by decide) (fun hz => ?_) (fun hz => ?_)
      · refine w_iconst dX10_isKnot_92 ?_
        refine x_iret rfl (by rfl) dX10_isKnot_93 ⟨?_, rfl⟩
        rw [bI_t (show kntP M x from fun i hi => hd i hi (by rw [hz]; simp))]
      · have := pop_clr hz; omega
    | succ n ih =>
      intro y x6 hy hyx hd
      refine w_lload dX10_isKnot_40 rfl ?_
      refine w_lconst0 dX10_isKnot_42 ?_
      refine w_lc_eq 92 dX10_isKnot_43 dX10_isKnot_44 (by decide) (fun hz => ?_) (fun hz => ?_)
      · rw [hz, pop_0] at hy; omega
      · obtain ⟨t, ht⟩ := isLow_ex hz
        have hpc := pop_clr hz
        have htn := hx t (hyx t ht.2.1)
        have hp1 := pop_le ((M t).signExtend 64)
        have hp2 := pop_le ((M t &&& xoS M x).signExtend 64)
        refine w_aload_n dX10_isKnot_47 rfl rfl ?_
        refine w_getf fX10_45 dX10_isKnot_48 RH0 rfl ?_
        refine w_lload dX10_isKnot_51 rfl ?_
        refine wc_S (Z := mX10_lowest) (As := [_]) (c_lowest ht) kX10_lowest lX10_224 sX10_lowest dX10_isKnot_53 rfl rfl rfl (Nat.le_of_ble_eq_true rfl) ⟨Nat.le_of_ble_eq_true rfl, Nat.le_of_ble_eq_true rfl⟩ ?_
        refine w_iald t RH10 rfl (by omega) (by decide) dX10_isKnot_56 ?_
        rw [hS2 t htn, zI_iB]
        refine w_istore (lv' := [_, _, _, _, _, _, _]) dX10_isKnot_57 (Nat.le_of_ble_eq_true rfl) rfl rfl ?_
        refine w_iload dX10_isKnot_59 rfl ?_
        refine w_i2lR dX10_isKnot_61 ?_
        rw [iB_l]
        refine wc_S (Z := mX10_many) (As := [_]) c_many kX10_many lX10_87 sX10_many dX10_isKnot_62 rfl rfl rfl (Nat.le_of_ble_eq_true rfl) ⟨Nat.le_of_ble_eq_true rfl, Nat.le_of_ble_eq_true rfl⟩ ?_
        refine w_iconst dX10_isKnot_65 ?_
        refine w_iload dX10_isKnot_66 rfl ?_
        refine w_iload_n dX10_isKnot_68 rfl rfl ?_
        refine w_iandR dX10_isKnot_69 ?_
        rw [iB_and]
        refine w_i2lR dX10_isKnot_70 ?_
        rw [iB_l]
        refine wc_S (Z := mX10_many) (As := [_]) c_many kX10_many lX10_87 sX10_many dX10_isKnot_71 rfl rfl rfl (Nat.le_of_ble_eq_true rfl) ⟨Nat.le_of_ble_eq_true rfl, Nat.le_of_ble_eq_true rfl⟩ ?_
        refine w_imul dX10_isKnot_74 ?_
        refine w_icmp_gt 80 dX10_isKnot_75 (by decide) (by unfold ok32; omega) (by unfold ok32; omega) (fun hgt => ?_) (fun hgt => ?_)
        · refine w_lload dX10_isKnot_80 rfl ?_
          refine w_lload dX10_isKnot_82 rfl ?_
          refine w_lconst1 dX10_isKnot_84 ?_
          refine w_lsub dX10_isKnot_85 ?_
          refine w_land dX10_isKnot_86 ?_
          refine w_lstore (lv' := [_, _, _, _, _, _, _]) dX10_isKnot_87 (Nat.le_of_ble_eq_true rfl) rfl rfl ?_
          refine w_goto 40 dX10_isKnot_89 (by decide) ?_
          refine ih _ _ (by omega) (sub ht hyx) (fun i hi hi2 => ?_)
          by_cases hit : i = t
          · subst hit
            unfold hdB pq
            omega
          · refine hd i hi (fun q => hi2 ?_)
            have hi64 : i < 64 := by have := hx i hi; omega
            rw [clr_bit ht.1 hi64 ht.2.1 ht.2.2, q]; simp [hit]
        · refine w_iconst dX10_isKnot_78 ?_
          refine x_iret rfl (by rfl) dX10_isKnot_79 ⟨?_, rfl⟩
          rw [bI_f (fun q => ?_)]
          have := q t (hyx t ht.2.1)
          unfold hdB pq at this
          omega
  have first : ∀ (n : Nat) (y : BitVec 64) (acc : BitVec 32), pop y = n → (∀ i, y.getLsbD i = true → x.getLsbD i = true) → acc ^^^ xoS M y = xoS M x → wp mX10_isKnot 5 [.ref r, .long (lB x), jk, .int (iB acc), .long (lB y), jk, jk] [] (RH r A ia la fi fl h0) 0 0 (pd (some (.int (zI (bI (kntP M x))))) (RH r A ia la fi fl h0)) := by
    intro n
    induction n with
    | zero =>
      intro y acc hy hyx ha
      refine w_lload dX10_isKnot_5 rfl ?_
      refine w_lconst0 dX10_isKnot_7 ?_
      refine w_lc_eq 37 dX10_isKnot_8 dX10_isKnot_9 (by decide) (fun hz => ?_) (fun hz => ?_)
      · rw [hz, xoS_0, BitVec.xor_zero] at ha
        rw [ha]
        refine w_lload_n dX10_isKnot_37 rfl rfl ?_
        refine w_lstore (lv' := [_, _, _, _, _, _, _]) dX10_isKnot_38 (Nat.le_of_ble_eq_true rfl) rfl rfl ?_
        exact second _ x jk rfl (fun i h => h) (fun i h1 h2 => absurd h1 h2)
      · have := pop_clr hz; omega
    | succ n ih =>
      intro y acc hy hyx ha
      refine w_lload dX10_isKnot_5 rfl ?_
      refine w_lconst0 dX10_isKnot_7 ?_
      refine w_lc_eq 37 dX10_isKnot_8 dX10_isKnot_9 (by decide) (fun hz => ?_) (fun hz => ?_)
      · rw [hz, pop_0] at hy; omega
      · obtain ⟨t, ht⟩ := isLow_ex hz
        have hpc := pop_clr hz
        have htn := hx t (hyx t ht.2.1)
        rw [xoS_clr ht, ← BitVec.xor_assoc] at ha
        refine w_iload_n dX10_isKnot_12 rfl rfl ?_
        refine w_aload_n dX10_isKnot_13 rfl rfl ?_
        refine w_getf fX10_45 dX10_isKnot_14 RH0 rfl ?_
        refine w_lload dX10_isKnot_17 rfl ?_
        refine wc_S (Z := mX10_lowest) (As := [_]) (c_lowest ht) kX10_lowest lX10_224 sX10_lowest dX10_isKnot_19 rfl rfl rfl (Nat.le_of_ble_eq_true rfl) ⟨Nat.le_of_ble_eq_true rfl, Nat.le_of_ble_eq_true rfl⟩ ?_
        refine w_iald t RH10 rfl (by omega) (by decide) dX10_isKnot_22 ?_
        rw [hS2 t htn, zI_iB]
        refine w_ixorR dX10_isKnot_23 ?_
        rw [iB_xor]
        refine w_istore_n (lv' := [_, _, _, _, _, _, _]) dX10_isKnot_24 rfl (Nat.le_of_ble_eq_true rfl) rfl rfl ?_
        refine w_lload dX10_isKnot_25 rfl ?_
        refine w_lload dX10_isKnot_27 rfl ?_
        refine w_lconst1 dX10_isKnot_29 ?_
        refine w_lsub dX10_isKnot_30 ?_
        refine w_land dX10_isKnot_31 ?_
        refine w_lstore (lv' := [_, _, _, _, _, _, _]) dX10_isKnot_32 (Nat.le_of_ble_eq_true rfl) rfl rfl ?_
        refine w_goto 5 dX10_isKnot_34 (by decide) ?_
        exact ih _ _ (by omega) (sub ht hyx) ha
  refine sp_wp rfl (lv := [_, _, _, _, _, _, _]) rfl (Nat.le_of_ble_eq_true rfl) ?_
  refine w_iconst dX10_isKnot_0 ?_
  refine w_istore_n (lv' := [_, _, _, _, _, _, _]) dX10_isKnot_1 rfl (Nat.le_of_ble_eq_true rfl) rfl rfl ?_
  refine w_lload_n dX10_isKnot_2 rfl rfl ?_
  refine w_lstore (lv' := [_, _, _, _, _, _, _]) dX10_isKnot_3 (Nat.le_of_ble_eq_true rfl) rfl rfl ?_
  exact first _ x 0#32 rfl (fun i h => h) (by rw [BitVec.zero_xor])
