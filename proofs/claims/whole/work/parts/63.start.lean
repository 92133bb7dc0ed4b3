/-! the class begins, comes, draws, copies -/
/-- what a scene has of a block before it begins -/
def PRE (sa : Nat → Nat → Int) (si : Nat → Int) (sl : Nat → BitVec 64) (B : Nat → Int) (L R C : Nat) : Prop := sl 1 = sentB B ∧ si 2 = B 12 ∧ (∀ b, b < L * C → sa 1 b = B (48 + b)) ∧ ∀ p, p < R → sa 6 p = ((lay R (B 13).toNat p : Nat) : Int)
theorem REL.pre {sa : Nat → Nat → Int} {si : Nat → Int} {sl : Nat → BitVec 64} {B : Nat → Int} {L R C : Nat} (h : REL sa si sl B L R C) : PRE sa si sl B L R C := ⟨h.1.1, h.1.2.1, h.2.2.2.1, h.2.2.2.2.2.2.2⟩
set_option maxRecDepth 4000 in
theorem c8_start {a c : Nat} {sa : Nat → Nat → Int} {si : Nat → Int} {sl : Nat → BitVec 64} {h0 : HP} {B : Nat → Int} {L R C : Nat} {m : Int} (hC : CDQ (outS a) h0 c B L R C) (hA : ∀ k, ok32 (B k)) (hR : PRE sa si sl B L R C) : sp mX8_start [.ref a, .int (zI m)] (SH a (c) (sa) (si) (sl) h0) 0 0 (px none (fun q : TR3 => REL q.1 q.2.1 q.2.2 (bgA B m L R C) L R C) (fun q => (SH a (c) (q.1) (q.2.1) (q.2.2) h0))) := by
  obtain ⟨ad, f7, f8, f10, f9, f11, rk, cr, hV, h6, h7, o_c0, r70, r80, r90, r100, r110, e7, e8, e9, e10, hRD, p0, p7, p8, p9, p10, p11⟩ := id hC
  obtain ⟨v1, v2, v3, v4, v5, v6, v7⟩ := id hV
  have hLC := mulLe (a := L) (b := C) (x := 6) (y := 8) (by omega) (by omega)
  have hLR := mulLe (a := L) (b := R) (x := 6) (y := 4) (by omega) (by omega)
  have o_c : ∀ {c' : Nat} {sa : Nat → Nat → Int} {si : Nat → Int} {sl : Nat → BitVec 64}, (SH a c' sa si sl h0).2 c = some (.inr (2, cfs L R C (B 6) (B 7) ad rk cr)) := SHo p0 o_c0
  have r_c_shifts : ∀ {c' : Nat} {sa : Nat → Nat → Int} {si : Nat → Int} {sl : Nat → BitVec 64}, (SH a c' sa si sl h0).2 (ad 7) = some (aI 32 f7) := SHo p7 r70
  have r_c_edges : ∀ {c' : Nat} {sa : Nat → Nat → Int} {si : Nat → Int} {sl : Nat → BitVec 64}, (SH a c' sa si sl h0).2 (ad 8) = some (aI 192 f8) := SHo p8 r80
  have r_c_bitsOf : ∀ {c' : Nat} {sa : Nat → Nat → Int} {si : Nat → Int} {sl : Nat → BitVec 64}, (SH a c' sa si sl h0).2 (ad 9) = some (aL 24 f9) := SHo p9 r90
  obtain ⟨r1, r2, rh, ro⟩ := hR
  have hG : ∀ k, k ≠ 9 → bgA B m L R C k = bg0 B m k := fun k hk => u1_n hk
  have hB1 : ∀ k, (k < 96 ∨ 433 ≤ k) → k ≠ 8 → k ≠ 9 → k ≠ 10 → k ≠ 11 → bgA B m L R C k = B k := fun k h0 h1 h2 h3 h4 => by rw [hG k h2]; exact bg0_n h0 h1 h3 h4
  have hsm : SmC B (bgA B m L R C) := fun k h1 h2 h3 h4 h5 _ _ => hB1 k (by omega) h2 h3 h4 h5
  have hbe : ∀ b, b < 48 → bgA B m L R C (96 + b) = B (48 + b) := fun b hb => by rw [hG _ (by omega)]; exact bg0_be hb
  have h0s : ∀ k, 144 ≤ k → k < 433 → bgA B m L R C k = 0 := fun k h1 h2 => by
    rw [hG _ (by omega)]
    unfold bg0
    rw [if_neg (by omega), if_neg (by omega), if_neg (by omega), if_pos (by omega)]
  refine sp_wp rfl (lv := [_, _]) rfl (Nat.le_of_ble_eq_true rfl) ?_
  refine w_aload_n dX8_start_0 rfl rfl ?_
  refine w_iload_n dX8_start_1 rfl rfl ?_
  refine sc_pf3 fX8_45 dX8_start_2 ?_
  refine w_aload_n dX8_start_5 rfl rfl ?_
  refine w_iconst dX8_start_6 ?_
  refine sc_pf5 fX8_51 dX8_start_7 ?_
  refine w_aload_n dX8_start_10 rfl rfl ?_
  refine w_iconst dX8_start_11 ?_
  refine sc_pf6 fX8_54 dX8_start_12 ?_
  refine w_aload_n dX8_start_15 rfl rfl ?_
  refine w_iconst dX8_start_16 ?_
  refine sc_pf7 fX8_57 dX8_start_17 ?_
  refine w_aload_n dX8_start_20 rfl rfl ?_
  refine w_getf fX8_15 dX8_start_21 SC0 rfl ?_
  refine w_iconst dX8_start_24 ?_
  refine w_aload_n dX8_start_25 rfl rfl ?_
  refine w_getf fX8_19 dX8_start_26 SC0 rfl ?_
  refine w_iconst dX8_start_29 ?_
  refine w_bipush dX8_start_30 (by decide) ?_
  refine w_copyI 48 rfl lX8_66 nAC sAC iAC SC1 SC2 (by decide) (by decide) (by decide) rfl (Nat.le_of_ble_eq_true rfl) (Nat.le_of_ble_eq_true rfl) dX8_start_32 ?_
  rw [SHu2]
  refine w_aload_n dX8_start_35 rfl rfl ?_
  refine w_getf fX8_25 dX8_start_36 SC0 rfl ?_
  refine w_iconst dX8_start_39 ?_
  refine wc_Sv (Z := mJ7_fill_53178) (As := [_, _]) (cJ_fill SC4 (by decide)) kJ7_fill_53178 lX8_72 sJ7_fill_53178 dX8_start_40 rfl rfl rfl (Nat.le_of_ble_eq_true rfl) ⟨Nat.le_of_ble_eq_true rfl, Nat.le_of_ble_eq_true rfl⟩ ?_
  rw [SHu4]
  refine w_aload_n dX8_start_43 rfl rfl ?_
  refine w_getf fX8_22 dX8_start_44 SC0 rfl ?_
  refine w_iconst dX8_start_47 ?_
  refine wc_Sv (Z := mJ7_fill_53178) (As := [_, _]) (cJ_fill SC3 (by decide)) kJ7_fill_53178 lX8_72 sJ7_fill_53178 dX8_start_48 rfl rfl rfl (Nat.le_of_ble_eq_true rfl) ⟨Nat.le_of_ble_eq_true rfl, Nat.le_of_ble_eq_true rfl⟩ ?_
  rw [SHu3]
  obtain ⟨sb, hsb⟩ : ∃ sb : Nat → Nat → Int, u1 (u1 (u1 sa 2 (cpyF (sa 1) (sa 2) 48)) 4 (fun k => if k < 192 then 0 else (u1 sa 2 (cpyF (sa 1) (sa 2) 48)) 4 k)) 3 (fun k => if k < 48 then 0 else (u1 (u1 sa 2 (cpyF (sa 1) (sa 2) 48)) 4 (fun k => if k < 192 then 0 else (u1 sa 2 (cpyF (sa 1) (sa 2) 48)) 4 k)) 3 k) = sb := ⟨_, rfl⟩
  have b1 : sb 1 = sa 1 := by rw [← hsb]; rfl
  have b2 : ∀ b, b < L * C → sb 2 b = B (48 + b) := fun b hb => by
    rw [← hsb]
    show cpyF (sa 1) (sa 2) 48 b = _
    rw [cpy_at (by omega), rh b hb]
  have b3 : ∀ b, b < 48 → sb 3 b = 0 := fun b hb => by
    rw [← hsb]
    show (if b < 48 then (0 : Int) else _) = 0
    rw [if_pos hb]
  have b4 : ∀ b, b < 192 → sb 4 b = 0 := fun b hb => by
    rw [← hsb]
    show (if b < 192 then (0 : Int) else _) = 0
    rw [if_pos hb]
  have b6 : sb 6 = sa 6 := by rw [← hsb]; rfl
  rw [hsb]
  refine w_aload_n dX8_start_51 rfl rfl ?_
  refine wc_Vv (Z := mX8_look) (As := []) (c8_look hC (fun b hb => by rw [b2 b hb]; exact hA _)) SC0 rfl kX8_look lX8_91 iX8_look vX8_look dX8_start_52 rfl rfl rfl (Nat.le_of_ble_eq_true rfl) ⟨Nat.le_of_ble_eq_true rfl, Nat.le_of_ble_eq_true rfl⟩ ?_
  have hg : gset (sb 2) (L * C) = gset (fun b => B (48 + b)) (L * C) := gset_c b2
  rw [hg]
  have hod : oddN (cs B L C) (gset (fun b => B (48 + b)) (L * C)) (L * R) ≤ L * R := oddN_le _ _ _
  obtain ⟨g, hgv⟩ : ∃ g, gset (fun b => B (48 + b)) (L * C) = g := ⟨_, rfl⟩
  rw [hgv] at hod ⊢
  obtain ⟨od, hodv⟩ : ∃ od, oddN (cs B L C) g (L * R) = od := ⟨_, rfl⟩
  rw [hodv] at hod ⊢
  have hgA : gA (bgA B m L R C) (L * C) = g := by
    rw [← hgv]
    exact gset_c (fun b hb => hbe b (by omega))
  have hoA : oddN (cs (bgA B m L R C) L C) g (L * R) = od := by
    rw [← hodv]
    exact oddN_c (fun i hi => hsm.cs hV hi)
  have h9v : bgA B m L R C 9 = bI (od = 0) := by
    unfold bgA
    rw [u1_s, hgv, hodv]
  have rel : ∀ sk : Nat → Int, (∀ k, k ≠ 4 → sk k = (u1 (u1 (u1 (u1 (u1 si 3 m) 5 0) 6 0) 7 0) 9 (od : Int)) k) → sk 4 = bI (od = 0) → REL sb sk (u1 sl 8 g) (bgA B m L R C) L R C := by
    intro sk k1 k4
    refine ⟨⟨?_, ?_, ?_, ?_, ?_, ?_⟩, ⟨?_, ?_⟩, ⟨0, ?_, ?_, ?_, ?_⟩, fun b hb => ?_, fun b hb => ?_, fun b hb => ?_, fun k hk j hj ho => ?_, fun p hp => ?_⟩
    · rw [u1_n (by decide), r1]
      unfold sentB
      rw [hB1 46 (by omega) (by omega) (by omega) (by omega) (by omega), hB1 47 (by omega) (by omega) (by omega) (by omega) (by omega)]
    · rw [k1 2 (by decide), hB1 12 (by omega) (by omega) (by omega) (by omega) (by omega)]
      exact r2
    · rw [k1 3 (by decide), hG 8 (by omega)]
      rfl
    · rw [k4, h9v]
    · rw [k1 5 (by decide), hG 10 (by omega)]
      rfl
    · rw [k1 6 (by decide), hG 11 (by omega)]
      rfl
    · rw [u1_s, hgA]
    · rw [k1 9 (by decide), hgA, hoA]
      rfl
    · rw [k1 7 (by decide)]
      rfl
    · rw [hG 10 (by omega), hG 11 (by omega)]
      show ((0 : Nat) : Int) ≤ 4 * 0 + 0
      decide
    · rw [h0s 384 (by omega) (by omega)]
      rfl
    · intro i hi
      exact absurd hi (by omega)
    · rw [b1, rh b hb, hB1 _ (by omega) (by omega) (by omega) (by omega) (by omega)]
    · rw [b2 b hb, hbe b (by omega)]
    · rw [b3 b (by omega), h0s _ (by omega) (by omega)]
    · rw [b4 _ (by omega), h0s _ (by omega) (by omega)]
    · rw [b6, ro p hp, hB1 13 (by omega) (by omega) (by omega) (by omega) (by omega)]
  refine w_aload_n dX8_start_55 rfl rfl ?_
  refine w_aload_n dX8_start_56 rfl rfl ?_
  refine w_getf fX8_63 dX8_start_57 SC0 rfl ?_
  rw [show (u1 (u1 (u1 (u1 (u1 si 3 m) 5 0) 6 0) 7 0) 9 (od : Int)) 9 = (od : Int) from rfl]
  refine w_if_ne 67 dX8_start_60 (by decide) (by first | assumption | (unfold ok32 at *; omega)) (fun h1 => ?_) (fun h1 => ?_)
  · refine w_iconst dX8_start_67 ?_
    refine sc_pf4 fX8_48 dX8_start_68 ?_
    refine x_vret rfl dX8_start_71 (px3 (rel _ (fun k hk => u1_n hk) ?_))
    rw [u1_s, bI_f (by omega)]
  · refine w_iconst dX8_start_63 ?_
    refine w_goto 68 dX8_start_64 (by decide) ?_
    refine sc_pf4 fX8_48 dX8_start_68 ?_
    refine x_vret rfl dX8_start_71 (px3 (rel _ (fun k hk => u1_n hk) ?_))
    rw [u1_s, bI_t (by omega)]
set_option maxRecDepth 4000 in
theorem c8_come {c1 : Nat} {a c : Nat} {sa : Nat → Nat → Int} {si : Nat → Int} {sl : Nat → BitVec 64} {h0 : HP} {B : Nat → Int} {L R C : Nat} (hC : CDQ (outS a) h0 c B L R C) (hA : ∀ k, ok32 (B k)) (hx : si 2 = B 12) : sp mX8_come [.ref a, .ref c] (SH a c1 sa si sl h0) 0 0 (px none (fun q : TR3 => REL q.1 q.2.1 q.2.2 (cmA B L R C) L R C) (fun q => (SH a (c) (q.1) (q.2.1) (q.2.2) h0))) := by
  obtain ⟨ad, f7, f8, f10, f9, f11, rk, cr, hV, h6, h7, o_c0, r70, r80, r90, r100, r110, e7, e8, e9, e10, hRD, p0, p7, p8, p9, p10, p11⟩ := id hC
  obtain ⟨v1, v2, v3, v4, v5, v6, v7⟩ := id hV
  have hLC := mulLe (a := L) (b := C) (x := 6) (y := 8) (by omega) (by omega)
  have hLR := mulLe (a := L) (b := R) (x := 6) (y := 4) (by omega) (by omega)
  have o_c : ∀ {c' : Nat} {sa : Nat → Nat → Int} {si : Nat → Int} {sl : Nat → BitVec 64}, (SH a c' sa si sl h0).2 c = some (.inr (2, cfs L R C (B 6) (B 7) ad rk cr)) := SHo p0 o_c0
  have r_c_shifts : ∀ {c' : Nat} {sa : Nat → Nat → Int} {si : Nat → Int} {sl : Nat → BitVec 64}, (SH a c' sa si sl h0).2 (ad 7) = some (aI 32 f7) := SHo p7 r70
  have r_c_edges : ∀ {c' : Nat} {sa : Nat → Nat → Int} {si : Nat → Int} {sl : Nat → BitVec 64}, (SH a c' sa si sl h0).2 (ad 8) = some (aI 192 f8) := SHo p8 r80
  have r_c_bitsOf : ∀ {c' : Nat} {sa : Nat → Nat → Int} {si : Nat → Int} {sl : Nat → BitVec 64}, (SH a c' sa si sl h0).2 (ad 9) = some (aL 24 f9) := SHo p9 r90
  refine sp_wp rfl (lv := [_, _]) rfl (Nat.le_of_ble_eq_true rfl) ?_
  refine w_aload_n dX8_come_0 rfl rfl ?_
  refine w_aload_n dX8_come_1 rfl rfl ?_
  refine sc_pf0 fX8_37 dX8_come_2 ?_
  refine w_aload_n dX8_come_5 rfl rfl ?_
  refine w_lconst0 dX8_come_6 ?_
  refine sc_pf1 fX8_41 dX8_come_7 ?_
  refine w_aload_n dX8_come_10 rfl rfl ?_
  refine w_getf fX8_15 dX8_come_11 SC0 rfl ?_
  refine w_iconst dX8_come_14 ?_
  refine wc_Sv (Z := mJ7_fill_53178) (As := [_, _]) (cJ_fill SC1 (by decide)) kJ7_fill_53178 lX8_72 sJ7_fill_53178 dX8_come_15 rfl rfl rfl (Nat.le_of_ble_eq_true rfl) ⟨Nat.le_of_ble_eq_true rfl, Nat.le_of_ble_eq_true rfl⟩ ?_
  rw [SHu1]
  refine w_aload_n dX8_come_18 rfl rfl ?_
  refine w_getf fX8_78 dX8_come_19 o_c rfl ?_
  refine w_iconst dX8_come_22 ?_
  refine w_aload_n dX8_come_23 rfl rfl ?_
  refine w_getf fX8_31 dX8_come_24 SC0 rfl ?_
  refine wx_SNv (Z := mX9_fillOrder) (As := [_, _, _]) (c9_fillOrder (o := 0) v5 (fac_pos R) SC6) kX9_fillOrder lX8_83 sX9_fillOrder dX8_come_27 rfl rfl rfl (Nat.le_of_ble_eq_true rfl) ⟨Nat.le_of_ble_eq_true rfl, Nat.le_of_ble_eq_true rfl⟩ (fun g hg => ?_)
  rw [SHu6]
  have hcm : ∀ k, ¬ (46 ≤ k ∧ k < 96) → k ≠ 13 → cm0 B k = B k := fun k h1 h2 => by
    unfold cm0 putS
    rw [fillR_n (by omega), u1_n (by omega), u1_n (by omega), u1_n (by omega)]
  have hpre : PRE (u1 (u1 sa 1 (fun k => if k < 48 then 0 else sa 1 k)) 6 g) si (u1 sl 1 0#64) (cm0 B) L R C := by
    refine ⟨?_, ?_, fun b hb => ?_, fun p hp => ?_⟩
    · have h0 := sentB_put (A := u1 B 13 0) (x := 0#64)
      unfold sentB at h0 ⊢
      unfold cm0
      rw [fillR_n (by omega), fillR_n (by omega), h0]
      rfl
    · rw [hx, hcm 12 (by omega) (by omega)]
    · show (if b < 48 then (0 : Int) else _) = _
      rw [if_pos (by omega)]
      unfold cm0
      rw [fillR_i (by omega)]
    · show g p = _
      rw [hg p hp]
      have h13 : cm0 B 13 = 0 := by
        unfold cm0 putS
        rw [fillR_n (by omega), u1_n (by omega), u1_n (by omega), u1_s]
      rw [h13]
      rfl
  refine w_aload_n dX8_come_30 rfl rfl ?_
  refine w_iconst dX8_come_31 ?_
  refine wx_Vv (Z := mX8_start) (As := [_]) (c8_start (hC.sm cm0_s) (cm0_ok hA) hpre) SC0 rfl kX8_start lX8_87 iX8_start vX8_start dX8_come_32 rfl rfl rfl (Nat.le_of_ble_eq_true rfl) ⟨Nat.le_of_ble_eq_true rfl, Nat.le_of_ble_eq_true rfl⟩ (fun q hq => ?_)
  exact x_vret rfl dX8_come_35 ⟨rfl, q, hq, rfl⟩
set_option maxRecDepth 4000 in
theorem c8_draw {a c : Nat} {sa : Nat → Nat → Int} {si : Nat → Int} {sl : Nat → BitVec 64} {h0 : HP} {B : Nat → Int} {L R C : Nat} {l p : Int} (hC : CDQ (outS a) h0 c B L R C) (hl : 1 ≤ l ∧ l ≤ 31) (hp : 0 ≤ p ∧ p ≤ 100) (h1 : sl 1 = sentB B) (h2 : si 2 = B 12) (h12 : 0 ≤ B 12 ∧ B 12 ≤ 30070) : sp mX8_draw [.ref a, .int (zI l), .int (zI p)] (SH a (c) (sa) (si) (sl) h0) 0 0 (px (some (.int (zI (snC B (sentB B) l p (L * C))))) (fun g : Nat → Int => ∀ b, b < L * C → g b = snN B (sentB B) l p (L * C) (48 + b)) (fun g => (SH a (c) (u1 sa 1 g) (u1 si 2 (snN B (sentB B) l p (L * C) 12)) (sl) h0))) := by
  obtain ⟨ad, f7, f8, f10, f9, f11, rk, cr, hV, h6, h7, o_c0, r70, r80, r90, r100, r110, e7, e8, e9, e10, hRD, p0, p7, p8, p9, p10, p11⟩ := id hC
  obtain ⟨v1, v2, v3, v4, v5, v6, v7⟩ := id hV
  have hLC := mulLe (a := L) (b := C) (x := 6) (y := 8) (by omega) (by omega)
  have hLR := mulLe (a := L) (b := R) (x := 6) (y := 4) (by omega) (by omega)
  have o_c : ∀ {c' : Nat} {sa : Nat → Nat → Int} {si : Nat → Int} {sl : Nat → BitVec 64}, (SH a c' sa si sl h0).2 c = some (.inr (2, cfs L R C (B 6) (B 7) ad rk cr)) := SHo p0 o_c0
  have r_c_shifts : ∀ {c' : Nat} {sa : Nat → Nat → Int} {si : Nat → Int} {sl : Nat → BitVec 64}, (SH a c' sa si sl h0).2 (ad 7) = some (aI 32 f7) := SHo p7 r70
  have r_c_edges : ∀ {c' : Nat} {sa : Nat → Nat → Int} {si : Nat → Int} {sl : Nat → BitVec 64}, (SH a c' sa si sl h0).2 (ad 8) = some (aI 192 f8) := SHo p8 r80
  have r_c_bitsOf : ∀ {c' : Nat} {sa : Nat → Nat → Int} {si : Nat → Int} {sl : Nat → BitVec 64}, (SH a c' sa si sl h0).2 (ad 9) = some (aL 24 f9) := SHo p9 r90
  have h12r : ∀ b, 0 ≤ snN B (sentB B) l p b 12 ∧ snN B (sentB B) l p b 12 ≤ 30070 := by
    intro b
    induction b with
    | zero => exact h12
    | succ b ih =>
      rw [snN, u1_n (by omega), u1_s]
      omega
  have hcr : ∀ b, 0 ≤ snC B (sentB B) l p b ∧ snC B (sentB B) l p b ≤ b := fun b => snC_rng
  have hkeep : ∀ n b, b < n → snN B (sentB B) l p n (48 + b) = snN B (sentB B) l p (b + 1) (48 + b) := by
    intro n b
    induction n with
    | zero => intro h; exact absurd h (Nat.not_lt_zero _)
    | succ n ih =>
      intro h
      by_cases hn : b = n
      · rw [hn]
      · rw [snN, u1_n (by omega), u1_n (by omega)]
        exact ih (by omega)
  refine sp_wp rfl (lv := [_, _, _, _, _, _]) rfl (Nat.le_of_ble_eq_true rfl) ?_
  refine w_iconst dX8_draw_0 ?_
  refine w_istore_n (lv' := [_, _, _, _, _, _]) dX8_draw_1 rfl (Nat.le_of_ble_eq_true rfl) rfl rfl ?_
  refine w_iconst dX8_draw_2 ?_
  refine w_istore (lv' := [_, _, _, _, _, _]) dX8_draw_3 (Nat.le_of_ble_eq_true rfl) rfl rfl ?_
  have key : ∀ b, b ≤ L * C → ∀ (g : Nat → Int) (x5 : Value), (∀ i, i < b → g i = snN B (sentB B) l p b (48 + i)) → wp mX8_draw 5 [.ref a, .int (zI l), .int (zI p), .int (zI (snC B (sentB B) l p b)), .int (zI (b : Int)), x5] [] (SH a (c) (u1 sa 1 g) (u1 si 2 (snN B (sentB B) l p b 12)) (sl) h0) 0 0 (px (some (.int (zI (snC B (sentB B) l p (L * C))))) (fun g : Nat → Int => ∀ b, b < L * C → g b = snN B (sentB B) l p (L * C) (48 + b)) (fun g => (SH a (c) (u1 sa 1 g) (u1 si 2 (snN B (sentB B) l p (L * C) 12)) (sl) h0))) := by
    refine up_ind (P := fun b => ∀ (g : Nat → Int) (x5 : Value), (∀ i, i < b → g i = snN B (sentB B) l p b (48 + i)) → wp mX8_draw 5 [.ref a, .int (zI l), .int (zI p), .int (zI (snC B (sentB B) l p b)), .int (zI (b : Int)), x5] [] (SH a (c) (u1 sa 1 g) (u1 si 2 (snN B (sentB B) l p b 12)) (sl) h0) 0 0 (px (some (.int (zI (snC B (sentB B) l p (L * C))))) (fun g : Nat → Int => ∀ b, b < L * C → g b = snN B (sentB B) l p (L * C) (48 + b)) (fun g => (SH a (c) (u1 sa 1 g) (u1 si 2 (snN B (sentB B) l p (L * C) 12)) (sl) h0)))) (fun b hb ih g x5 hg => ?_)
    have hx := h12r b
    have hcb := hcr b
    obtain ⟨x, hxv⟩ : ∃ x, snN B (sentB B) l p b 12 = x := ⟨_, rfl⟩
    rw [hxv] at hx
    refine w_iload dX8_draw_5 rfl ?_
    refine w_aload_n dX8_draw_7 rfl rfl ?_
    refine w_getf fX8_37 dX8_draw_8 SC0 rfl ?_
    refine w_getf fX8_94 dX8_draw_11 o_c rfl ?_
    refine w_icmp_ge 93 dX8_draw_14 (by decide) (by first | assumption | (unfold ok32 at *; omega)) (by first | assumption | (unfold ok32 at *; omega)) (fun hc => ?_) (fun hc => ?_)
    · refine w_iload_n dX8_draw_93 rfl rfl ?_
      refine x_iret rfl rfl dX8_draw_94 ⟨?_, g, ?_, ?_⟩
      · rw [show b = L * C by omega]
      · rw [show L * C = b by omega]; exact hg
      · rw [show L * C = b by omega]
    · have hs12 : snN B (sentB B) l p (b + 1) 12 = (x * 839 + 577) % 30071 := by rw [snN, u1_n (by omega), u1_s, hxv]
      have hs48 : snN B (sentB B) l p (b + 1) (48 + b) = if bI ((sentB B).getLsbD b = true) = bI ((x * 839 + 577) % 30071 % 100 < p) then l else -l := by rw [snN, u1_s, hxv]
      have hsC : snC B (sentB B) l p (b + 1) = snC B (sentB B) l p b + bI ((x * 839 + 577) % 30071 % 100 < p) := by rw [snC, hxv]
      obtain ⟨y, hy⟩ : ∃ y, (x * 839 + 577) % 30071 = y := ⟨_, rfl⟩
      rw [hy] at hs12 hs48 hsC
      have hy2 : 0 ≤ y ∧ y ≤ 30070 := by omega
      rw [hxv]
      refine w_aload_n dX8_draw_17 rfl rfl ?_
      refine w_aload_n dX8_draw_18 rfl rfl ?_
      refine w_getf fX8_9 dX8_draw_19 SC0 rfl ?_
      rw [u1_s]
      refine w_sipush dX8_draw_22 (by decide) ?_
      refine w_imul dX8_draw_25 ?_
      refine w_sipush dX8_draw_26 (by decide) ?_
      refine w_iadd dX8_draw_29 ?_
      refine w_sipush dX8_draw_30 (by decide) ?_
      refine w_irem dX8_draw_33 (by unfold ok32; omega) (by omega) (by omega) (by unfold ok32; omega) ?_
      rw [hy]
      refine sc_pf2 fX8_9 dX8_draw_34 ?_
      rw [u1_u1]
      refine w_aload_n dX8_draw_37 rfl rfl ?_
      refine w_getf fX8_41 dX8_draw_38 SC0 rfl ?_
      rw [h1]
      refine w_iload dX8_draw_41 rfl ?_
      refine w_lshr b rfl (by omega) dX8_draw_43 ?_
      refine w_lconst1 dX8_draw_44 ?_
      refine w_land dX8_draw_45 ?_
      rw [sshr_bit (show b < 64 by omega)]
      refine w_lconst0 dX8_draw_46 ?_
      have fin : ∀ (v : Int) (v5 : Value), v = (if (sentB B).getLsbD b = true then -l else l) → wp mX8_draw 57 [.ref a, .int (zI l), .int (zI p), .int (zI (snC B (sentB B) l p b)), .int (zI (b : Int)), v5] [.int (zI v)] (SH a (c) (u1 sa 1 g) (u1 si 2 y) (sl) h0) 0 0 (px (some (.int (zI (snC B (sentB B) l p (L * C))))) (fun g : Nat → Int => ∀ b, b < L * C → g b = snN B (sentB B) l p (L * C) (48 + b)) (fun g => (SH a (c) (u1 sa 1 g) (u1 si 2 (snN B (sentB B) l p (L * C) 12)) (sl) h0))) := by
        intro v v5 hv
        have fin2 : ∀ (w : Int) (k : Int), w = snN B (sentB B) l p (b + 1) (48 + b) → k = snC B (sentB B) l p (b + 1) → wp mX8_draw 78 [.ref a, .int (zI l), .int (zI p), .int (zI k), .int (zI (b : Int)), .int (zI w)] [] (SH a (c) (u1 sa 1 g) (u1 si 2 y) (sl) h0) 0 0 (px (some (.int (zI (snC B (sentB B) l p (L * C))))) (fun g : Nat → Int => ∀ b, b < L * C → g b = snN B (sentB B) l p (L * C) (48 + b)) (fun g => (SH a (c) (u1 sa 1 g) (u1 si 2 (snN B (sentB B) l p (L * C) 12)) (sl) h0))) := by
          intro w k hw hk
          refine w_aload_n dX8_draw_78 rfl rfl ?_
          refine w_getf fX8_15 dX8_draw_79 SC0 rfl ?_
          refine w_iload dX8_draw_82 rfl ?_
          refine w_iload dX8_draw_84 rfl ?_
          refine sc_ist1 (b) (by first | rfl | omega | (push_cast; rfl) | (push_cast; omega)) (by omega) dX8_draw_86 ?_
          rw [u1_u1, u1_s]
          refine w_iinc (lv' := [_, _, _, _, _, _]) dX8_draw_87 rfl rfl rfl ?_
          refine w_goto 5 dX8_draw_90 (by decide) ?_
          refine w_cast ?_ rfl ?_ (ih (by omega) (u1 g b w) (.int (zI w)) (fun i hi => ?_))
          · rw [hk]
            rfl
          · rw [hs12]
          · by_cases hib : i = b
            · rw [hib, u1_s, hw]
            · rw [u1_n hib, hg i (by omega), snN, u1_n (by omega), u1_n (by omega)]
        refine w_istore (lv' := [_, _, _, _, _, _]) dX8_draw_57 (Nat.le_of_ble_eq_true rfl) rfl rfl ?_
        refine w_aload_n dX8_draw_59 rfl rfl ?_
        refine w_getf fX8_9 dX8_draw_60 SC0 rfl ?_
        rw [u1_s]
        refine w_bipush dX8_draw_63 (by decide) ?_
        refine w_irem dX8_draw_65 (by unfold ok32; omega) (by omega) (by omega) (by unfold ok32; omega) ?_
        refine w_iload_n dX8_draw_66 rfl rfl ?_
        refine w_icmp_ge 78 dX8_draw_67 (by decide) (by first | assumption | (unfold ok32 at *; omega)) (by first | assumption | (unfold ok32 at *; omega)) (fun hsp => ?_) (fun hsp => ?_)
        · refine fin2 v _ ?_ ?_
          · rw [hs48, hv, bI_f (show ¬ y % 100 < p by omega)]
            by_cases hb1 : (sentB B).getLsbD b = true
            · rw [if_pos hb1, bI_t hb1, if_neg (by decide)]
            · rw [if_neg hb1, bI_f hb1, if_pos rfl]
          · rw [hsC, bI_f (show ¬ y % 100 < p by omega)]
            omega
        · refine w_iload dX8_draw_70 rfl ?_
          refine w_ineg dX8_draw_72 ?_
          refine w_istore (lv' := [_, _, _, _, _, _]) dX8_draw_73 (Nat.le_of_ble_eq_true rfl) rfl rfl ?_
          refine w_iinc (lv' := [_, _, _, _, _, _]) dX8_draw_75 rfl rfl rfl ?_
          refine fin2 (-v) _ ?_ ?_
          · rw [hs48, hv, bI_t (show y % 100 < p by omega)]
            by_cases hb1 : (sentB B).getLsbD b = true
            · rw [if_pos hb1, bI_t hb1, if_pos rfl]
              omega
            · rw [if_neg hb1, bI_f hb1, if_neg (by decide)]
          · rw [hsC, bI_t (show y % 100 < p by omega)]
      refine w_lc_eq 56 dX8_draw_47 dX8_draw_48 (by decide) (fun hz => ?_) (fun hz => ?_)
      · refine w_iload_n dX8_draw_56 rfl rfl ?_
        refine fin l x5 ?_
        rw [if_neg (fun q => by rw [if_pos q] at hz; exact absurd hz (by decide))]
      · refine w_iload_n dX8_draw_51 rfl rfl ?_
        refine w_ineg dX8_draw_52 ?_
        refine w_goto 57 dX8_draw_53 (by decide) ?_
        refine fin (-l) x5 ?_
        rw [if_pos (Classical.byContradiction fun q => by rw [if_neg q] at hz; exact hz rfl)]
  refine w_cast rfl rfl ?_ (key 0 (Nat.zero_le _) (sa 1) jk (fun i hi => absurd hi (Nat.not_lt_zero _)))
  rw [u1_id, show snN B (sentB B) l p 0 12 = B 12 from rfl, ← h2, u1_id]
set_option maxRecDepth 4000 in
theorem c8_costOf {a c : Nat} {sa : Nat → Nat → Int} {si : Nat → Int} {sl : Nat → BitVec 64} {h0 : HP} {B : Nat → Int} {L R C : Nat} {x : BitVec 64} (hC : CDQ (outS a) h0 c B L R C) (hI : INV B) (hh : ∀ b, b < L * C → sa 1 b = B (48 + b)) : sp mX8_costOf [.ref a, .long (lB x)] (SH a (c) (sa) (si) (sl) h0) 0 0 (pd (some (.int (zI (cstN B x (L * C))))) (SH a (c) (sa) (si) (sl) h0)) := by
  obtain ⟨ad, f7, f8, f10, f9, f11, rk, cr, hV, h6, h7, o_c0, r70, r80, r90, r100, r110, e7, e8, e9, e10, hRD, p0, p7, p8, p9, p10, p11⟩ := id hC
  obtain ⟨v1, v2, v3, v4, v5, v6, v7⟩ := id hV
  have hLC := mulLe (a := L) (b := C) (x := 6) (y := 8) (by omega) (by omega)
  have hLR := mulLe (a := L) (b := R) (x := 6) (y := 4) (by omega) (by omega)
  have o_c : ∀ {c' : Nat} {sa : Nat → Nat → Int} {si : Nat → Int} {sl : Nat → BitVec 64}, (SH a c' sa si sl h0).2 c = some (.inr (2, cfs L R C (B 6) (B 7) ad rk cr)) := SHo p0 o_c0
  have r_c_shifts : ∀ {c' : Nat} {sa : Nat → Nat → Int} {si : Nat → Int} {sl : Nat → BitVec 64}, (SH a c' sa si sl h0).2 (ad 7) = some (aI 32 f7) := SHo p7 r70
  have r_c_edges : ∀ {c' : Nat} {sa : Nat → Nat → Int} {si : Nat → Int} {sl : Nat → BitVec 64}, (SH a c' sa si sl h0).2 (ad 8) = some (aI 192 f8) := SHo p8 r80
  have r_c_bitsOf : ∀ {c' : Nat} {sa : Nat → Nat → Int} {si : Nat → Int} {sl : Nat → BitVec 64}, (SH a c' sa si sl h0).2 (ad 9) = some (aL 24 f9) := SHo p9 r90
  refine sp_wp rfl (lv := [_, _, _, _, _, _]) rfl (Nat.le_of_ble_eq_true rfl) ?_
  refine w_iconst dX8_costOf_0 ?_
  refine w_istore_n (lv' := [_, _, _, _, _, _]) dX8_costOf_1 rfl (Nat.le_of_ble_eq_true rfl) rfl rfl ?_
  refine w_iconst dX8_costOf_2 ?_
  refine w_istore (lv' := [_, _, _, _, _, _]) dX8_costOf_3 (Nat.le_of_ble_eq_true rfl) rfl rfl ?_
  have key : ∀ b, b ≤ L * C → ∀ x5 : Value, wp mX8_costOf 5 [.ref a, .long (lB x), jk, .int (zI (cstN B x b)), .int (zI (b : Int)), x5] [] (SH a (c) (sa) (si) (sl) h0) 0 0 (pd (some (.int (zI (cstN B x (L * C))))) (SH a (c) (sa) (si) (sl) h0)) := by
    refine up_ind (P := fun b => ∀ x5 : Value, wp mX8_costOf 5 [.ref a, .long (lB x), jk, .int (zI (cstN B x b)), .int (zI (b : Int)), x5] [] (SH a (c) (sa) (si) (sl) h0) 0 0 (pd (some (.int (zI (cstN B x (L * C))))) (SH a (c) (sa) (si) (sl) h0))) (fun b hb ih x5 => ?_)
    have hcr := cstN_rng (x := x) hI (n := b) (by omega)
    refine w_iload dX8_costOf_5 rfl ?_
    refine w_aload_n dX8_costOf_7 rfl rfl ?_
    refine w_getf fX8_37 dX8_costOf_8 SC0 rfl ?_
    refine w_getf fX8_94 dX8_costOf_11 o_c rfl ?_
    refine w_icmp_ge 64 dX8_costOf_14 (by decide) (by first | assumption | (unfold ok32 at *; omega)) (by first | assumption | (unfold ok32 at *; omega)) (fun hc => ?_) (fun hc => ?_)
    · refine w_iload_n dX8_costOf_64 rfl rfl ?_
      refine x_iret rfl rfl dX8_costOf_65 ⟨?_, rfl⟩
      rw [show b = L * C by omega]
    · have hv := hI (48 + b)
      rw [loE (by omega), hiE (by omega)] at hv
      obtain ⟨v, hvv⟩ : ∃ v, B (48 + b) = v := ⟨_, rfl⟩
      rw [hvv] at hv
      have hskip : ¬ ((x.getLsbD b = true ∧ 0 < v) ∨ (¬ x.getLsbD b = true ∧ v < 0)) → wp mX8_costOf 58 [.ref a, .long (lB x), jk, .int (zI (cstN B x b)), .int (zI (b : Int)), .int (zI v)] [] (SH a (c) (sa) (si) (sl) h0) 0 0 (pd (some (.int (zI (cstN B x (L * C))))) (SH a (c) (sa) (si) (sl) h0)) := by
        intro hn
        refine w_iinc (lv' := [_, _, _, _, _, _]) dX8_costOf_58 rfl rfl rfl ?_
        refine w_goto 5 dX8_costOf_61 (by decide) ?_
        refine w_cast ?_ rfl rfl (ih (by omega) (.int (zI v)))
        rw [cstN, hvv, if_neg hn]
        rfl
      have hadd : ((x.getLsbD b = true ∧ 0 < v) ∨ (¬ x.getLsbD b = true ∧ v < 0)) → wp mX8_costOf 50 [.ref a, .long (lB x), jk, .int (zI (cstN B x b)), .int (zI (b : Int)), .int (zI v)] [] (SH a (c) (sa) (si) (sl) h0) 0 0 (pd (some (.int (zI (cstN B x (L * C))))) (SH a (c) (sa) (si) (sl) h0)) := by
        intro hn
        refine w_iload_n dX8_costOf_50 rfl rfl ?_
        refine w_iload dX8_costOf_51 rfl ?_
        refine w_mabs lX8_150 sJ9_abs_0f7a4 kJ9_abs_0f7a4.2.1 kJ9_abs_0f7a4.1 (by unfold ok32; omega) rfl (Nat.le_of_ble_eq_true rfl) (Nat.le_of_ble_eq_true rfl) dX8_costOf_53 ?_
        refine w_iadd dX8_costOf_56 ?_
        refine w_istore_n (lv' := [_, _, _, _, _, _]) dX8_costOf_57 rfl (Nat.le_of_ble_eq_true rfl) rfl rfl ?_
        refine w_iinc (lv' := [_, _, _, _, _, _]) dX8_costOf_58 rfl rfl rfl ?_
        refine w_goto 5 dX8_costOf_61 (by decide) ?_
        refine w_cast ?_ rfl rfl (ih (by omega) (.int (zI v)))
        rw [cstN, hvv, if_pos hn]
        rfl
      refine w_aload_n dX8_costOf_17 rfl rfl ?_
      refine w_getf fX8_15 dX8_costOf_18 SC0 rfl ?_
      refine w_iload dX8_costOf_21 rfl ?_
      refine w_iald (b) SC1 (by first | rfl | omega | (push_cast; rfl) | (push_cast; omega)) (by omega) (by decide) dX8_costOf_23 ?_
      rw [hh b (by omega), hvv]
      refine w_istore (lv' := [_, _, _, _, _, _]) dX8_costOf_24 (Nat.le_of_ble_eq_true rfl) rfl rfl ?_
      refine w_lload_n dX8_costOf_26 rfl rfl ?_
      refine w_iload dX8_costOf_27 rfl ?_
      refine w_lshr b rfl (by omega) dX8_costOf_29 ?_
      refine w_lconst1 dX8_costOf_30 ?_
      refine w_land dX8_costOf_31 ?_
      rw [sshr_bit (show b < 64 by omega)]
      refine w_lconst0 dX8_costOf_32 ?_
      refine w_lc_eq 45 dX8_costOf_33 dX8_costOf_34 (by decide) (fun hz => ?_) (fun hz => ?_)
      · have hb1 : ¬ x.getLsbD b = true := fun q => by rw [if_pos q] at hz; exact absurd hz (by decide)
        refine w_iload dX8_costOf_45 rfl ?_
        refine w_if_ge 58 dX8_costOf_47 (by decide) (by first | assumption | (unfold ok32 at *; omega)) (fun h1 => ?_) (fun h1 => ?_)
        · exact hskip (fun q => q.elim (fun z => hb1 z.1) (fun z => by omega))
        · exact hadd (Or.inr ⟨hb1, by omega⟩)
      · have hb1 : x.getLsbD b = true := Classical.byContradiction fun q => by rw [if_neg q] at hz; exact hz rfl
        refine w_iload dX8_costOf_37 rfl ?_
        refine w_if_le 58 dX8_costOf_39 (by decide) (by first | assumption | (unfold ok32 at *; omega)) (fun h1 => ?_) (fun h1 => ?_)
        · exact hskip (fun q => q.elim (fun z => by omega) (fun z => z.1 hb1))
        · refine w_goto 50 dX8_costOf_42 (by decide) ?_
          exact hadd (Or.inl ⟨hb1, by omega⟩)
  exact key 0 (Nat.zero_le _) jk
theorem c8_outcome {a c : Nat} {sa : Nat → Nat → Int} {si : Nat → Int} {sl : Nat → BitVec 64} {h0 : HP} (h4 : ok32 (si 4)) : sp mX8_outcome [.ref a] (SH a (c) (sa) (si) (sl) h0) 0 0 (pd (some (.int (zI (if sl 8 = sl 1 then 0 else if si 4 = 1 then 1 else 2)))) (SH a (c) (sa) (si) (sl) h0)) := by
  refine sp_wp rfl (lv := [_]) rfl (Nat.le_of_ble_eq_true rfl) ?_
  refine w_aload_n dX8_outcome_0 rfl rfl ?_
  refine w_getf fX8_60 dX8_outcome_1 SC0 rfl ?_
  refine w_aload_n dX8_outcome_4 rfl rfl ?_
  refine w_getf fX8_41 dX8_outcome_5 SC0 rfl ?_
  refine w_lc_ne 14 dX8_outcome_8 dX8_outcome_9 (by decide) (fun hg => ?_) (fun hg => ?_)
  · refine w_aload_n dX8_outcome_14 rfl rfl ?_
    refine w_getf fX8_48 dX8_outcome_15 SC0 rfl ?_
    refine w_iconst dX8_outcome_18 ?_
    refine w_icmp_ne 26 dX8_outcome_19 (by decide) (by first | assumption | (unfold ok32 at *; omega)) (by first | assumption | (unfold ok32 at *; omega)) (fun h1 => ?_) (fun h1 => ?_)
    · refine w_iconst dX8_outcome_26 ?_
      refine x_iret rfl rfl dX8_outcome_27 ⟨?_, rfl⟩
      rw [if_neg hg, if_neg h1]
    · refine w_iconst dX8_outcome_22 ?_
      refine w_goto 27 dX8_outcome_23 (by decide) ?_
      refine x_iret rfl rfl dX8_outcome_27 ⟨?_, rfl⟩
      rw [if_neg hg, if_pos h1]
  · refine w_iconst dX8_outcome_12 ?_
    refine x_iret rfl rfl dX8_outcome_13 ⟨?_, rfl⟩
    rw [if_pos hg]

