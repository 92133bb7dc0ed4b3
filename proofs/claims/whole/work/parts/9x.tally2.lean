/-! the census in the world: tallies and least knots -/
theorem cst_base {u c k kd c0 : Nat} {h h2 : HP} {Ls Al : Nat → Option Nat} {la : Nat} {z8 : Nat → Int} {g2 : Nat → Nat → Int} {D : List (BitVec 64)} (z3 : CST u c k kd c0 (if kd = 3 then lsH u c (k + 1) Ls h else h) Al la z8 h2 g2 D) : h.1 ≤ h2.1 ∧ ∀ x, x < h.1 → x ≠ u + 1 → x ≠ u + 2 → x ≠ la → h2.2 x = h.2 x := by
  by_cases h3 : kd = 3
  · obtain ⟨s8, A1, la1, g1, L1, L2, L3⟩ := z3.1 h3
    rw [if_pos h3] at L2
    exact ⟨L2.1, fun x hx n1 n2 n3 => (L2.2.2.2 x hx n2 n3).trans (up_n n1)⟩
  · have e := (z3.2 h3).2
    rw [if_neg h3] at e
    rw [e]
    exact ⟨Nat.le_refl _, fun _ _ _ _ _ => rfl⟩
def XPC (o : Nat) (h : HP) (cap : Nat → Nat) (A im tx tp : Nat → Int) (f4 f5 f6 : Int) (cd : Nat → Prop) (cb : Nat → CBK) (L R C c : Nat) (w : Option Value) : Option Value → HP → Prop := fun v h' => v = w ∧ FRM o h h' ∧ ∃ ow', REST o h' cap A im tx tp f4 f5 f6 ow' cd cb ∧ SCB h' ow' cd (o + 8 + 4) A L R C c
theorem sm_K {kd c n K : Nat} {cap : Nat → Nat} (hK : 1 ≤ K ∧ K ≤ 4) : smC (cpK kd c n K cap) - smC cap = (if kd = 3 then gcp (cap K) n - cap K else 0) ∧ smC cap ≤ smC (cpK kd c n K cap) := by
  unfold cpK
  by_cases h : kd = 3
  · rw [if_pos h, if_pos h]; exact smC_L hK
  · rw [if_neg h, if_neg h]; omega
set_option maxRecDepth 8000 in
theorem w1_tally {o : Nat} {h : HP} {cap : Nat → Nat} {A im tx tp : Nat → Int} {f4 f5 f6 : Int} {ow : Nat → Nat} {cd : Nat → Prop} {cb : Nat → CBK} {L R C c : Nat} {kd k : Nat} (H : REST o h cap A im tx tp f4 f5 f6 ow cd cb) (hb : SCB h ow cd (o + 8 + 4) A L R C c) (hk : k ≤ 3) (hkd : kd < 4) : ∃ cap', (cap' = cap ∨ cap' = cpK kd c (knE A L R C kd (k + 1)).length (k + 1) cap) ∧ sp mX1_tally [.ref (o + 43), .ref c, .int (zI (kd : Int)), .int (zI ((k + 1 : Nat) : Int))] h (smC cap' - smC cap) (2 * (smC cap' - smC cap)) (XPC o h (cap') A im tx tp f4 f5 f6 cd cb L R C c (some (.int (zI ((knE A L R C kd (k + 1)).length : Int))))) := by
  obtain ⟨sa, si, sl, b1, b2, b3, b4, b5⟩ := id hb
  obtain ⟨ba, bi, bf, Ls, Al, q1, ⟨q10, q11⟩, q3, q4, q5⟩ := id H.2.2.2.2.2.2.2.1
  obtain ⟨fs, t, T, y1, y2, y3, y4, y5⟩ := id (H.2.1 c b2).2
  obtain ⟨ad, rk, cr, o_c0, hadt⟩ := cdp_tal b4 y1 y2
  have a2 := H.1.2
  have a1 := H.1.1
  have oc : outC (o + 43) c := fun z => by have := a2 c (by unfold stZ; omega); have := (cdq_at b4).2; omega
  have ot : outC (o + 43) t := fun z => by have := a2 t (by unfold stZ; omega); omega
  have hkn : ∀ kd' k', kd' < 4 → knC (cb c) kd' k' = knE A L R C kd' k' := fun kd' k' h1 => kn_cb H.2.1 b2 b4 h1
  have hLC := mulLe (a := L) (b := C) (x := 6) (y := 8) (by have := b5.2.1.2.2.2.1; omega) (by have := b5.2.1.2.2.2.2.2.1; omega)
  obtain ⟨la, g, d1, d2, d3, ⟨d4, d4b⟩, d5⟩ := q5 (k + 1) (by omega)
  have mx := chs_mx (K := k + 1) (by omega)
  have ola : outC (o + 43) la := fun z => by have := a2 la (by unfold stZ; omega); omega
  have hCJ : CDQ (outJ (o + 43) la h.1) h c A L R C := b4.mono (fun x hx => ⟨fun z => by have := a2 x (by unfold stZ; omega); have := hx.2; omega, fun z => by have := a2 x (by unfold stZ; omega); have := hx.2; omega, fun z => by have := a2 x (by unfold stZ; omega); have := hx.2; omega, fun z => by have := hx.2; rw [z] at this; omega, hx.1⟩) (fun _ _ => rfl)
  have hself : CUH (o + 43) ba bi bf h = h := CUP.self q1
  have o_u : ∀ {g2 : Nat → Nat → Int} {i2 : Nat → Int} {f2 : Nat → Nat} {h2 : HP}, (CUH (o + 43) g2 i2 f2 h2).2 (o + 43) = some (.inr (1, cufs (o + 43) i2 f2)) := CU0
  have hnl : ∀ kd', knE A L R C kd' (k + 1) = knE A L R C kd' (k + 1) := fun _ => rfl
  have hla1 : t ≠ la := fun e => by have := y3.2; rw [e] at this; omega
  have cla : c ≠ la := fun e => by have := (cdq_at b4).2; rw [e] at this; omega
  have cat := cdq_at b4
  have ct : c ≠ t := fun e => by have := cat.2; rw [e] at this; omega
  have cz : ¬ stZ o c := fun z => by have := a2 c z; have := cat.2; omega
  have tz : ¬ stZ o t := fun z => by have := a2 t z; omega
  have hT := y5 kd k hkd (by omega)
  rw [hkn kd (k + 1) hkd] at hT
  have hln := Nat.le_trans (knE_len (A := A) (L := L) (R := R) (C := C) (kd := kd) (K := k + 1) (by omega)) (show chs 48 (k + 1) ≤ 194580 by obtain ⟨t1, t2, t3, t4, t0⟩ := chs_tab; rcases (show k = 0 ∨ k = 1 ∨ k = 2 ∨ k = 3 by omega) with e | e | e | e <;> subst e <;> omega)
  have okT : ok32 (T (4 * kd + k)) := by rcases hT with e | e <;> rw [e] <;> unfold ok32 <;> omega
  have o_c : h.2 c = some (.inr (2, cfs L R C (A 6) (A 7) ad rk cr)) := o_c0
  by_cases hm : T (4 * kd + k) = -1
  · refine ⟨cpK kd c (knE A L R C kd (k + 1)).length (k + 1) cap, Or.inr rfl, ?_⟩
    obtain ⟨sm1, sm2⟩ := sm_K (kd := kd) (c := c) (n := (knE A L R C kd (k + 1)).length) (K := k + 1) (cap := cap) (by omega)
    have cnt := c1_count (a := o + 43) (ba := ba) (bi := bi) (bf := bf) (h0 := h) (kd := kd) (k := k) (c0 := cap (k + 1)) hCJ hkd hk q3 ⟨q4, d1, d3, ola⟩ q10 q11 (by omega) d2.1 (by omega)
    rw [← sm1] at cnt
    refine sp_wp rfl (lv := [_, _, _, _, _]) rfl (Nat.le_of_ble_eq_true rfl) ?_
    refine w_iload_n dX1_tally_0 rfl rfl ?_
    refine w_iconst dX1_tally_1 ?_
    refine w_imul dX1_tally_2 ?_
    refine w_iload_n dX1_tally_3 rfl rfl ?_
    refine w_iadd dX1_tally_4 ?_
    refine w_iconst dX1_tally_5 ?_
    refine w_isub dX1_tally_6 ?_
    rw [show (kd : Int) * 4 + ((k + 1 : Nat) : Int) - 1 = ((4 * kd + k : Nat) : Int) by push_cast; omega]
    refine w_istore (lv' := [_, _, _, _, _]) dX1_tally_7 (Nat.le_of_ble_eq_true rfl) rfl rfl ?_
    refine w_aload_n dX1_tally_9 rfl rfl ?_
    refine w_getf fX1_39 dX1_tally_10 o_c rfl ?_
    rw [hadt]
    refine w_iload dX1_tally_13 rfl ?_
    refine w_iald (4 * kd + k) y4 rfl (by omega) (by decide) dX1_tally_15 ?_
    refine w_iconst dX1_tally_16 ?_
    refine w_icmp_ne 34 dX1_tally_17 (by decide) okT (by unfold ok32; omega) (fun z => absurd hm z) (fun _ => ?_)
    refine w_aload_n dX1_tally_20 rfl rfl ?_
    refine w_getf fX1_39 dX1_tally_21 o_c rfl ?_
    rw [hadt]
    refine w_iload dX1_tally_24 rfl ?_
    refine w_aload_n dX1_tally_26 rfl rfl ?_
    refine w_aload_n dX1_tally_27 rfl rfl ?_
    refine w_iload_n dX1_tally_28 rfl rfl ?_
    refine w_iload_n dX1_tally_29 rfl rfl ?_
    refine w_cast rfl rfl hself.symm ?_
    refine w_callV (Z := mX1_count) (As := [_, _, _]) cnt CU0 rfl kX1_count lX1_42 iX1_count vX1_count dX1_tally_30 rfl rfl rfl (Nat.le_of_ble_eq_true rfl) ⟨Nat.le_of_ble_eq_true rfl, Nat.le_of_ble_eq_true rfl⟩ (by omega) (by omega) (fun v h' q => ?_)
    obtain ⟨rfl, ⟨h2, g2⟩, ⟨z1, z2, z3⟩, rfl⟩ := q
    obtain ⟨bs1, bs2⟩ := cst_base z3
    have et : h2.2 t = some (aI 16 T) := (bs2 t y3.1 (fun e => tz (by unfold stZ; omega)) (fun e => tz (by unfold stZ; omega)) hla1).trans y4
    have ec : h2.2 c = some (.inr (2, cfs L R C (A 6) (A 7) ad rk cr)) := (bs2 c cat.1 (fun e => cz (by unfold stZ; omega)) (fun e => cz (by unfold stZ; omega)) cla).trans o_c
    refine w_iast (4 * kd + k) (CUo ot et) rfl (by omega) (by decide) dX1_tally_33 ?_
    refine w_cast rfl rfl (CU_in ot) ?_
    refine w_aload_n dX1_tally_34 rfl rfl ?_
    refine w_getf fX1_39 dX1_tally_35 (CUo oc ((up_n ct).trans ec)) rfl ?_
    rw [hadt]
    refine w_iload dX1_tally_38 rfl ?_
    refine w_iald (4 * kd + k) (CUo ot up_s) rfl (by omega) (by decide) dX1_tally_40 ?_
    rw [u1_s]
    obtain ⟨ow', w1, w2, w3, w4⟩ := cnt_world (bi2 := u1 (u1 bi 8 ((k + 1 : Nat) : Int)) 7 (k : Int)) (bf2 := u1 bf 0 c) (g := g) H b2 b4 hk hkd q1 q3 q4 q5 d1 d2 y1 y2 y3 y4 y5 z1 z2 z3
    exact x_iret rfl rfl dX1_tally_41 ⟨rfl, ⟨by show h.1 ≤ h2.1; exact w3, fun x hx => w4 x (by omega) (by omega) (by omega) (by rw [a2 x (by unfold stZ; omega)]; omega) (by rw [a2 x (by unfold stZ; omega)]; omega)⟩, ow', w1, hb.go w3 w2 (fun x hx ho => w4 x hx (fun z => by have := a2 x (by unfold stZ; omega); omega) (fun z => by have := a2 x (by unfold stZ; omega); omega) (by omega) (by omega)) (fun j hj => w4 _ (by omega) (by omega) (by omega) (by rw [a2 _ (by unfold stZ; omega)]; omega) (by rw [a2 _ (by unfold stZ; omega)]; omega))⟩
  · refine ⟨cap, Or.inl rfl, ?_⟩
    have hT2 : T (4 * kd + k) = ((knE A L R C kd (k + 1)).length : Int) := hT.resolve_left hm
    refine sp_wp rfl (lv := [_, _, _, _, _]) rfl (Nat.le_of_ble_eq_true rfl) ?_
    refine w_iload_n dX1_tally_0 rfl rfl ?_
    refine w_iconst dX1_tally_1 ?_
    refine w_imul dX1_tally_2 ?_
    refine w_iload_n dX1_tally_3 rfl rfl ?_
    refine w_iadd dX1_tally_4 ?_
    refine w_iconst dX1_tally_5 ?_
    refine w_isub dX1_tally_6 ?_
    rw [show (kd : Int) * 4 + ((k + 1 : Nat) : Int) - 1 = ((4 * kd + k : Nat) : Int) by push_cast; omega]
    refine w_istore (lv' := [_, _, _, _, _]) dX1_tally_7 (Nat.le_of_ble_eq_true rfl) rfl rfl ?_
    refine w_aload_n dX1_tally_9 rfl rfl ?_
    refine w_getf fX1_39 dX1_tally_10 o_c rfl ?_
    rw [hadt]
    refine w_iload dX1_tally_13 rfl ?_
    refine w_iald (4 * kd + k) y4 rfl (by omega) (by decide) dX1_tally_15 ?_
    refine w_iconst dX1_tally_16 ?_
    refine w_icmp_ne 34 dX1_tally_17 (by decide) okT (by unfold ok32; omega) (fun _ => ?_) (fun z => absurd z hm)
    refine w_aload_n dX1_tally_34 rfl rfl ?_
    refine w_getf fX1_39 dX1_tally_35 o_c rfl ?_
    rw [hadt]
    refine w_iload dX1_tally_38 rfl ?_
    refine w_iald (4 * kd + k) y4 rfl (by omega) (by decide) dX1_tally_40 ?_
    rw [hT2]
    exact x_iret rfl rfl dX1_tally_41 ⟨rfl, FRM.refl, ow, H, hb⟩
def cpM (c n K : Nat) (cap : Nat → Nat) : Nat → Nat := if cap (10 + K) = c + 1 then cap else cpL c n K cap
theorem cpM_at {c n K : Nat} {cap : Nat → Nat} : cpM c n K cap (10 + K) = c + 1 := by
  unfold cpM
  split
  · rename_i e; exact e
  · unfold cpL; rw [u1_s]
theorem cpM_id {c n K : Nat} {cap : Nat → Nat} : cpM c n K (cpM c n K cap) = cpM c n K cap := by
  show (if cpM c n K cap (10 + K) = c + 1 then cpM c n K cap else cpL c n K (cpM c n K cap)) = _
  rw [if_pos cpM_at]
theorem sm_M {c n K : Nat} {cap : Nat → Nat} (hK : 1 ≤ K ∧ K ≤ 4) : smC cap ≤ smC (cpM c n K cap) := by
  unfold cpM
  split
  · exact Nat.le_refl _
  · exact (smC_L hK).2
noncomputable def lkV (A : Nat → Int) (L R C K : Nat) (x : Int) : BitVec 64 := if x < 0 then 0#64 else ((knE A L R C 3 K)[x.toNat]?).getD 0#64
set_option maxRecDepth 8000 in
theorem w1_least {o : Nat} {h : HP} {cap : Nat → Nat} {A im tx tp : Nat → Int} {f4 f5 f6 : Int} {ow : Nat → Nat} {cd : Nat → Prop} {cb : Nat → CBK} {L R C c : Nat} {k : Nat} {x : Int} (H : REST o h cap A im tx tp f4 f5 f6 ow cd cb) (hb : SCB h ow cd (o + 8 + 4) A L R C c) (hk : k ≤ 3) (hx : ok32 x) : sp mX1_leastKnot [.ref (o + 43), .ref c, .int (zI ((k + 1 : Nat) : Int)), .int (zI x)] h (smC (cpM c (knE A L R C 3 (k + 1)).length (k + 1) cap) - smC cap) (2 * (smC (cpM c (knE A L R C 3 (k + 1)).length (k + 1) cap) - smC cap)) (XPC o h (cpM c (knE A L R C 3 (k + 1)).length (k + 1) cap) A im tx tp f4 f5 f6 cd cb L R C c (some (.long (lB (lkV A L R C (k + 1) x))))) := by
  have rest : ∀ (h1 : HP) (cap1 : Nat → Nat) (ow1 : Nat → Nat) (rc rs : Nat), REST o h1 cap1 A im tx tp f4 f5 f6 ow1 cd cb → SCB h1 ow1 cd (o + 8 + 4) A L R C c → cap1 (10 + (k + 1)) = c + 1 → FRM o h h1 → wp mX1_leastKnot 28 [.ref (o + 43), .ref c, .int (zI ((k + 1 : Nat) : Int)), .int (zI x)] [] h1 rc rs (XPC o h (cap1) A im tx tp f4 f5 f6 cd cb L R C c (some (.long (lB (lkV A L R C (k + 1) x))))) := by
    intro h1 cap1 ow1 rc rs H1 hb1 hl1 hF1
    obtain ⟨sa, si, sl, b1, b2, b3, b4, b5⟩ := id hb1
    obtain ⟨ba, bi, bf, Ls, Al, q1, ⟨q10, q11⟩, q3, q4, q5⟩ := id H1.2.2.2.2.2.2.2.1
    obtain ⟨la, g, d1, d2, d3, ⟨d4, d4b⟩, d5⟩ := q5 (k + 1) (by omega)
    have hLC := mulLe (a := L) (b := C) (x := 6) (y := 8) (by have := b5.2.1.2.2.2.1; omega) (by have := b5.2.1.2.2.2.2.2.1; omega)
    have hLs : Ls (k + 1) = some c := by
      rw [hl1] at d4b
      cases hq : Ls (k + 1) with
      | none => rw [hq] at d4b; exact absurd d4b (by show ¬ c + 1 = 0; omega)
      | some c' =>
        rw [hq] at d4b
        replace d4b : c + 1 = c' + 1 := d4b
        rw [show c' = c by omega]
    obtain ⟨-, ⟨e1, hcp⟩, e2⟩ := d5 c hLs (by omega)
    rw [kn_cb H1.2.1 b2 b4 (by omega)] at e1 e2 hcp
    obtain ⟨E, hE⟩ : ∃ E, knE A L R C 3 (k + 1) = E := ⟨_, rfl⟩
    have hlen := knE_len (A := A) (L := L) (R := R) (C := C) (kd := 3) (K := k + 1) (by omega)
    have mx := chs_mx (K := k + 1) (by omega)
    unfold mxc at mx d4
    unfold lkV
    rw [hE] at e1 e2 hlen hcp ⊢
    have o_u : h1.2 (o + 43) = some (.inr (1, cufs (o + 43) bi bf)) := q1 0 (by omega)
    have o_8 : h1.2 (o + 43 + 8) = some (aI 5 (ba 8)) := q1 8 (by omega)
    have zero : (x < 0 ∨ ¬ x < (E.length : Int)) → wp mX1_leastKnot 42 [.ref (o + 43), .ref c, .int (zI ((k + 1 : Nat) : Int)), .int (zI x)] [] h1 rc rs (XPC o h (cap1) A im tx tp f4 f5 f6 cd cb L R C c (some (.long (lB (if x < 0 then 0#64 else (E[x.toNat]?).getD 0#64))))) := by
      intro hz
      refine w_lconst0 dX1_leastKnot_42 ?_
      refine w_goto 54 dX1_leastKnot_43 (by decide) ?_
      refine x_lret rfl dX1_leastKnot_54 ⟨?_, hF1, ow1, H1, hb1⟩
      by_cases h0 : x < 0
      · rw [if_pos h0]
      · rw [if_neg h0, List.getElem?_eq_none (by omega)]; rfl
    refine w_iload_n dX1_leastKnot_28 rfl rfl ?_
    refine w_if_lt 42 dX1_leastKnot_29 (by decide) hx (fun h0 => zero (Or.inl h0)) (fun h0 => ?_)
    refine w_iload_n dX1_leastKnot_32 rfl rfl ?_
    refine w_aload_n dX1_leastKnot_33 rfl rfl ?_
    refine w_getf fX1_22 dX1_leastKnot_34 o_u rfl ?_
    refine w_iload_n dX1_leastKnot_37 rfl rfl ?_
    refine w_iald (k + 1) o_8 rfl (by omega) (by decide) dX1_leastKnot_38 ?_
    rw [e1]
    refine w_icmp_lt 46 dX1_leastKnot_39 (by decide) hx (by unfold ok32; omega) (fun h2 => ?_) (fun h2 => zero (Or.inr h2))
    have hxl : x.toNat < E.length := by omega
    have he : E[x.toNat]? = some (E[x.toNat]'hxl) := List.getElem?_eq_getElem hxl
    refine w_aload_n dX1_leastKnot_46 rfl rfl ?_
    refine w_getf fX1_19 dX1_leastKnot_47 o_u rfl ?_
    refine w_iload_n dX1_leastKnot_50 rfl rfl ?_
    refine w_aald (k + 1) (Or.inr (Or.inr rfl)) q4 rfl (by omega) (by decide) dX1_leastKnot_51 ?_
    rw [d1]
    refine w_iload_n dX1_leastKnot_52 rfl rfl ?_
    refine w_lald x.toNat d3 (by omega) (by omega) (by omega) dX1_leastKnot_53 ?_
    rw [e2 _ _ he]
    refine x_lret rfl dX1_leastKnot_54 ⟨?_, hF1, ow1, H1, hb1⟩
    rw [if_neg h0, he]
    rfl
  obtain ⟨sa, si, sl, b1, b2, b3, b4, b5⟩ := id hb
  obtain ⟨ba, bi, bf, Ls, Al, q1, ⟨q10, q11⟩, q3, q4, q5⟩ := id H.2.2.2.2.2.2.2.1
  obtain ⟨fs, t, T, y1, y2, y3, y4, y5⟩ := id (H.2.1 c b2).2
  obtain ⟨ad, rk, cr, o_c0, hadt⟩ := cdp_tal b4 y1 y2
  have a2 := H.1.2
  have a1 := H.1.1
  have oc : outC (o + 43) c := fun z => by have := a2 c (by unfold stZ; omega); have := (cdq_at b4).2; omega
  have ot : outC (o + 43) t := fun z => by have := a2 t (by unfold stZ; omega); omega
  have hkn : ∀ kd' k', kd' < 4 → knC (cb c) kd' k' = knE A L R C kd' k' := fun kd' k' h1 => kn_cb H.2.1 b2 b4 h1
  have hLC := mulLe (a := L) (b := C) (x := 6) (y := 8) (by have := b5.2.1.2.2.2.1; omega) (by have := b5.2.1.2.2.2.2.2.1; omega)
  obtain ⟨la, g, d1, d2, d3, ⟨d4, d4b⟩, d5⟩ := q5 (k + 1) (by omega)
  have mx := chs_mx (K := k + 1) (by omega)
  have ola : outC (o + 43) la := fun z => by have := a2 la (by unfold stZ; omega); omega
  have hCJ : CDQ (outJ (o + 43) la h.1) h c A L R C := b4.mono (fun x hx => ⟨fun z => by have := a2 x (by unfold stZ; omega); have := hx.2; omega, fun z => by have := a2 x (by unfold stZ; omega); have := hx.2; omega, fun z => by have := a2 x (by unfold stZ; omega); have := hx.2; omega, fun z => by have := hx.2; rw [z] at this; omega, hx.1⟩) (fun _ _ => rfl)
  have hself : CUH (o + 43) ba bi bf h = h := CUP.self q1
  have o_u : ∀ {g2 : Nat → Nat → Int} {i2 : Nat → Int} {f2 : Nat → Nat} {h2 : HP}, (CUH (o + 43) g2 i2 f2 h2).2 (o + 43) = some (.inr (1, cufs (o + 43) i2 f2)) := CU0
  have hnl : ∀ kd', knE A L R C kd' (k + 1) = knE A L R C kd' (k + 1) := fun _ => rfl
  have hla1 : t ≠ la := fun e => by have := y3.2; rw [e] at this; omega
  have cla : c ≠ la := fun e => by have := (cdq_at b4).2; rw [e] at this; omega
  have cat := cdq_at b4
  have ct : c ≠ t := fun e => by have := cat.2; rw [e] at this; omega
  have cz : ¬ stZ o c := fun z => by have := a2 c z; have := cat.2; omega
  have tz : ¬ stZ o t := fun z => by have := a2 t z; omega
  have o_c : h.2 c = some (.inr (2, cfs L R C (A 6) (A 7) ad rk cr)) := o_c0
  have o_uh : h.2 (o + 43) = some (.inr (1, cufs (o + 43) bi bf)) := q1 0 (by omega)
  by_cases hls : Ls (k + 1) = some c
  · have hcc : cap (10 + (k + 1)) = c + 1 := by rw [d4b, hls]; rfl
    have e0 : cpM c (knE A L R C 3 (k + 1)).length (k + 1) cap = cap := by unfold cpM; rw [if_pos hcc]
    rw [e0]
    refine sp_wp rfl (lv := [_, _, _, _]) rfl (Nat.le_of_ble_eq_true rfl) ?_
    refine w_aload_n dX1_leastKnot_0 rfl rfl ?_
    refine w_getf fX1_11 dX1_leastKnot_1 o_uh rfl ?_
    refine w_iload_n dX1_leastKnot_4 rfl rfl ?_
    refine w_aald (k + 1) (Or.inl rfl) q3 rfl (by omega) (by decide) dX1_leastKnot_5 ?_
    refine w_aload_n dX1_leastKnot_6 rfl rfl ?_
    refine w_acmp_eq (ry := some c) 28 dX1_leastKnot_7 (by decide) (fun _ => ?_) (fun z => absurd hls z)
    exact rest h cap ow _ _ H hb hcc FRM.refl
  · have hcc : ¬ cap (10 + (k + 1)) = c + 1 := fun z => hls (by
      rw [z] at d4b
      cases hq : Ls (k + 1) with
      | none => rw [hq] at d4b; exact absurd d4b (by show ¬ c + 1 = 0; omega)
      | some c' =>
        rw [hq] at d4b
        replace d4b : c + 1 = c' + 1 := d4b
        rw [show c' = c by omega])
    have e0 : cpM c (knE A L R C 3 (k + 1)).length (k + 1) cap = cpK 3 c (knE A L R C 3 (k + 1)).length (k + 1) cap := by unfold cpM cpK; rw [if_neg hcc, if_pos rfl]
    rw [e0]
    obtain ⟨sm1, sm2⟩ := sm_K (kd := 3) (c := c) (n := (knE A L R C 3 (k + 1)).length) (K := k + 1) (cap := cap) (by omega)
    have cnt := c1_count (a := o + 43) (ba := ba) (bi := bi) (bf := bf) (h0 := h) (kd := 3) (k := k) (c0 := cap (k + 1)) hCJ (by omega) hk q3 ⟨q4, d1, d3, ola⟩ q10 q11 (by omega) d2.1 (by omega)
    rw [← sm1] at cnt
    refine sp_wp rfl (lv := [_, _, _, _]) rfl (Nat.le_of_ble_eq_true rfl) ?_
    refine w_aload_n dX1_leastKnot_0 rfl rfl ?_
    refine w_getf fX1_11 dX1_leastKnot_1 o_uh rfl ?_
    refine w_iload_n dX1_leastKnot_4 rfl rfl ?_
    refine w_aald (k + 1) (Or.inl rfl) q3 rfl (by omega) (by decide) dX1_leastKnot_5 ?_
    refine w_aload_n dX1_leastKnot_6 rfl rfl ?_
    refine w_acmp_eq (ry := some c) 28 dX1_leastKnot_7 (by decide) (fun z => absurd z hls) (fun _ => ?_)
    refine w_aload_n dX1_leastKnot_10 rfl rfl ?_
    refine w_getf fX1_39 dX1_leastKnot_11 o_c rfl ?_
    rw [hadt]
    refine w_bipush dX1_leastKnot_14 (by decide) ?_
    refine w_iload_n dX1_leastKnot_16 rfl rfl ?_
    refine w_iadd dX1_leastKnot_17 ?_
    refine w_iconst dX1_leastKnot_18 ?_
    refine w_isub dX1_leastKnot_19 ?_
    rw [show (12 : Int) + ((k + 1 : Nat) : Int) - 1 = ((4 * 3 + k : Nat) : Int) by push_cast; omega]
    refine w_aload_n dX1_leastKnot_20 rfl rfl ?_
    refine w_aload_n dX1_leastKnot_21 rfl rfl ?_
    refine w_iconst dX1_leastKnot_22 ?_
    refine w_iload_n dX1_leastKnot_23 rfl rfl ?_
    refine w_cast rfl rfl hself.symm ?_
    refine w_callV (Z := mX1_count) (As := [_, _, _]) cnt CU0 rfl kX1_count lX1_42 iX1_count vX1_count dX1_leastKnot_24 rfl rfl rfl (Nat.le_of_ble_eq_true rfl) ⟨Nat.le_of_ble_eq_true rfl, Nat.le_of_ble_eq_true rfl⟩ (by omega) (by omega) (fun v h' q => ?_)
    obtain ⟨rfl, ⟨h2, g2⟩, ⟨z1, z2, z3⟩, rfl⟩ := q
    obtain ⟨bs1, bs2⟩ := cst_base z3
    have et : h2.2 t = some (aI 16 T) := (bs2 t y3.1 (fun e => tz (by unfold stZ; omega)) (fun e => tz (by unfold stZ; omega)) hla1).trans y4
    refine w_iast (4 * 3 + k) (CUo ot et) rfl (by omega) (by decide) dX1_leastKnot_27 ?_
    refine w_cast rfl rfl (CU_in ot) ?_
    obtain ⟨ow', w1, w2, w3, w4⟩ := cnt_world (bi2 := u1 (u1 bi 8 ((k + 1 : Nat) : Int)) 7 (k : Int)) (bf2 := u1 bf 0 c) (g := g) H b2 b4 hk (by omega) q1 q3 q4 q5 d1 d2 y1 y2 y3 y4 y5 z1 z2 z3
    obtain ⟨h3, e3⟩ : ∃ h3 : HP, CUH (o + 43) g2 (u1 (u1 bi 8 ((k + 1 : Nat) : Int)) 7 (k : Int)) (u1 bf 0 c) (h2.1, up h2.2 t (aI 16 (u1 T (4 * 3 + k) ((knE A L R C 3 (k + 1)).length : Int)))) = h3 := ⟨_, rfl⟩
    rw [e3] at w1 w4
    replace w3 : h.1 ≤ h3.1 := by rw [← e3]; exact w3
    refine w_cast rfl rfl e3 ?_
    refine rest h3 _ ow' _ _ w1 (hb.go w3 w2 (fun x hx ho => w4 x hx (fun z => by have := a2 x (by unfold stZ; omega); omega) (fun z => by have := a2 x (by unfold stZ; omega); omega) (by omega) (by omega)) (fun j hj => w4 _ (by omega) (by omega) (by omega) (by rw [a2 _ (by unfold stZ; omega)]; omega) (by rw [a2 _ (by unfold stZ; omega)]; omega))) (by unfold cpK cpL; rw [if_pos rfl, u1_s]) ⟨w3, fun x hx => w4 x (by omega) (by omega) (by omega) (by rw [a2 x (by unfold stZ; omega)]; omega) (by rw [a2 x (by unfold stZ; omega)]; omega)⟩

