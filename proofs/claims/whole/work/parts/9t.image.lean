/-! the face: the image, and texts -/
abbrev PK8 : Type := Nat × Nat × (Nat → Nat → Int) × (Nat → Int) × (Nat → BitVec 64) × Nat × Nat × Nat
theorem hps_pick {h : HP} {ow : Nat → Nat} {cd : Nat → Prop} {f n : Nat} {sc : Nat → Option Nat} {A : Nat → Int} (H : ∀ i, i < n → ∃ a c L R C, sc ((f + i) % 20) = some a ∧ SCB h ow cd a (bkA A i) L R C c) : ∃ F : Nat → PK8, ∀ i, i < n → sc ((f + i) % 20) = some (F i).1 ∧ SCP h (F i).1 (F i).2.1 (F i).2.2.1 (F i).2.2.2.1 (F i).2.2.2.2.1 ∧ cd (F i).2.1 ∧ REL (F i).2.2.1 (F i).2.2.2.1 (F i).2.2.2.2.1 (bkA A i) (F i).2.2.2.2.2.1 (F i).2.2.2.2.2.2.1 (F i).2.2.2.2.2.2.2 ∧ CDQ (CK ow h) h (F i).2.1 (bkA A i) (F i).2.2.2.2.2.1 (F i).2.2.2.2.2.2.1 (F i).2.2.2.2.2.2.2 ∧ BOK (bkA A i) (F i).2.2.2.2.2.1 (F i).2.2.2.2.2.2.1 (F i).2.2.2.2.2.2.2 := by
  refine Classical.axiomOfChoice (r := fun (i : Nat) (x : PK8) => i < n → sc ((f + i) % 20) = some x.1 ∧ SCP h x.1 x.2.1 x.2.2.1 x.2.2.2.1 x.2.2.2.2.1 ∧ cd x.2.1 ∧ REL x.2.2.1 x.2.2.2.1 x.2.2.2.2.1 (bkA A i) x.2.2.2.2.2.1 x.2.2.2.2.2.2.1 x.2.2.2.2.2.2.2 ∧ CDQ (CK ow h) h x.2.1 (bkA A i) x.2.2.2.2.2.1 x.2.2.2.2.2.2.1 x.2.2.2.2.2.2.2 ∧ BOK (bkA A i) x.2.2.2.2.2.1 x.2.2.2.2.2.2.1 x.2.2.2.2.2.2.2) (fun i => ?_)
  by_cases hi : i < n
  · obtain ⟨a, c, L, R, C, e1, sa, si, sl, e2, e3, e4, e5, e6⟩ := H i hi
    exact ⟨(a, c, sa, si, sl, L, R, C), fun _ => ⟨e1, e2, e3, e4, e5, e6⟩⟩
  · exact ⟨(0, 0, fun _ _ => 0, fun _ => 0, fun _ => 0, 0, 0, 0), fun z => absurd z hi⟩
theorem bk_of {A D : Nat → Int} {i k : Nat} (hs : ∀ k, k < 9033 → D k = A k) (h1 : 3 ≤ k) (h2 : k < 433) : bkA D i k = bkA A i k := by
  unfold bkA
  rw [hs 2 (by omega)]
  exact hs _ (by have := Nat.mod_lt ((A 2).toNat + i) (show 0 < 20 by omega); omega)
set_option maxRecDepth 8000 in
theorem x_image {o : Nat} {h : HP} {cap : Nat → Nat} {A im tx tp : Nat → Int} {f4 f5 f6 : Int} {L R C : Nat} (H : CLS o h cap A im tx tp f4 f5 f6 L R C) : sp mX9_image [.ref o] h 160 8260 (XPE o h cap (fillR im 0 9033 A) tx tp f4 f5 f6 (some (.int (zI ((L : Int) * C)))) A) := by
  obtain ⟨ow, cd, cb, c, hRs, hSb⟩ := id H
  obtain ⟨⟨a1, a2⟩, a3, a4, ⟨x5, x6⟩, ⟨x7, x8, L', R', C', c', x9⟩, ⟨ba, bi, r1, r2⟩, ⟨pc, psa, psi, psl, p1⟩, a10, ⟨⟨bl, bi2, bq, w1⟩, fa, fb, w2⟩, ⟨⟨u1', u2, u3⟩, ⟨u4, u5, u6⟩, u7, u8⟩⟩ := id hRs
  obtain ⟨sa, si, sl, b1, b2, b3, b4, b5⟩ := id hSb
  obtain ⟨ka, ki, kl, k1, k2, k3, k4, k5⟩ := id x9
  obtain ⟨txs, o_h, t2, t3, t4⟩ := id x5
  obtain ⟨txk, o_k, s2, s3, s4⟩ := id x7
  obtain ⟨f, sc, y1, y2⟩ := id x6
  obtain ⟨fk, sck, z1, z2⟩ := id x8
  obtain ⟨F, hF⟩ := hps_pick y2
  have z0 : ∀ x, stZ o x → ow x < 100 := fun x hx => by rw [a2 x hx]; omega
  have cp := c5_copyFrom (hd := o + 20) (tg := 200) (kd := o + 8) (tq := 100) (bA := fun i => (F i).1) (cA := fun i => (F i).2.1) (sA := fun i => (F i).2.2.1) (jA := fun i => (F i).2.2.2.1) (mA := fun i => (F i).2.2.2.2.1) o_k o_h s2 t2 k1 b1 z1 y1 (by omega) (by omega) ⟨by omega, by omega⟩ ⟨fun j hj => by have := z0 (o + 20 + j) (by unfold stZ; omega); omega, fun j hj => by have := z0 (o + 8 + j) (by unfold stZ; omega); omega⟩ (fun i hi => ⟨(hF i hi).1, (hF i hi).2.1⟩) (fun i hi x hx => by
    have hc := cdq_at (a3 x (t3 i x hi hx)).1
    obtain ⟨fs, -, -, e1, -⟩ := (a3 x (t3 i x hi hx)).2
    exact ⟨hc.1, fun z => by have := a2 x (by unfold stZ; omega); have := hc.2; omega, by have := hc.2; omega, fs, e1⟩)
  refine sp_wp rfl (lv := [_]) rfl (Nat.le_of_ble_eq_true rfl) ?_
  refine w_aload_n dX9_image_0 rfl rfl ?_
  refine w_getf fX9_23 dX9_image_1 a4 rfl ?_
  refine w_aload_n dX9_image_4 rfl rfl ?_
  refine w_getf fX9_19 dX9_image_5 a4 rfl ?_
  refine w_callV (Z := mX5_copyFrom) (As := [_]) cp o_k rfl kX5_copyFrom lX9_365 iX5_copyFrom vX5_copyFrom dX9_image_8 rfl rfl rfl (Nat.le_of_ble_eq_true rfl) ⟨Nat.le_of_ble_eq_true rfl, Nat.le_of_ble_eq_true rfl⟩ (Nat.le_refl _) (Nat.le_refl _) (fun v h' q => ?_)
  obtain ⟨rfl, ow', ⟨q1, q1b⟩, q2, q3, q4, ⟨tn, q5, q6⟩, ⟨sn, q7, q8⟩, scn, q9, q10⟩ := q
  have st : ∀ x, x ≤ o + 72 → stZ o x → ¬ (o + 20 ≤ x ∧ x ≤ o + 20 + 11) → h'.2 x = h.2 x := fun x hx hz hn => q3 x (by omega) hn (by rw [a2 x hz]; omega)
  have oth : ∀ x, x < h.1 → 1 ≤ ow x → ¬ (200 ≤ ow x ∧ ow x < 200 + 20) → h'.2 x = h.2 x := fun x hx ho hn => q3 x hx (fun z => by have := a2 x (by unfold stZ; omega); omega) hn
  have one : ∀ x, x < h.1 → ow x = 1 → h'.2 x = h.2 x := fun x hx ho => oth x hx (by omega) (by omega)
  have o_o' : h'.2 o = some (.inr (8, xfs o)) := (st o (by omega) (by unfold stZ; omega) (by omega)).trans a4
  obtain ⟨E, hE⟩ : ∃ E, fillR im 0 9033 A = E := ⟨_, rfl⟩
  have hEs : ∀ k, k < 9033 → E k = A k := fun k hk => by
    rw [← hE]
    have := fillR_i (A := im) (s := 0) (n := 9033) (i := k) (g := A) hk
    rw [Nat.zero_add] at this
    exact this
  have e0 := hEs 0 (by omega)
  have e1 := hEs 1 (by omega)
  have e2 := hEs 2 (by omega)
  have hIE : INV E := fun k => by
    by_cases hk : k < 9033
    · rw [hEs k hk]; exact u1' k
    · rw [← hE, fillR_n (by omega)]; exact u4 k
  have nHTX : HTX h' ow' cd (o + 20) (E 0) tx := by
    rw [e0]
    refine ⟨tn, q4, q5, fun i x hi hx => t3 i x hi (by rw [← q6 i hi]; exact hx), fun i hi => ?_⟩
    obtain ⟨d0, cx, Lx, Rx, Cx, d1, d2, d3⟩ := t4 i hi
    exact ⟨d0, cx, Lx, Rx, Cx, (q6 i d0).trans d1, cdq_go d2 q1 q2 one, d3⟩
  have nHPS : HPS h' ow' cd (o + 20) 200 E := by
    refine ⟨0, scn, by rw [e1]; exact q9, fun i hi => ?_⟩
    rw [e1] at hi
    obtain ⟨ax, sx, d1, d2, d3⟩ := q10 i hi
    obtain ⟨g1, g2, g3, g4, g5, g6⟩ := hF i hi
    have hi20 := q9.2.2.2.1
    refine ⟨ax, (F i).2.1, (F i).2.2.2.2.2.1, (F i).2.2.2.2.2.2.1, (F i).2.2.2.2.2.2.2, by rw [Nat.zero_add, Nat.mod_eq_of_lt (by omega)]; exact d1, ?_⟩
    exact SCB.same ⟨sx, _, _, d2, g3, g4.copy d3 g6.2.1, cdq_go g5 q1 q2 one, g6⟩ (fun k h1 h2 => bk_of hEs h1 h2)
  have nSCB : SCB h' ow' cd (o + 20 + 4) E L R C c := SCB.same ⟨sn, si, sl, q7, b2, b3.copy q8 b5.2.1, cdq_go b4 q1 q2 one, b5⟩ (fun k h1 h2 => hEs k (by omega))
  have b4' := cdq_go b4 q1 q2 one
  obtain ⟨ad, f7, f8, f10, f9, f11, rk, cr, -, h6, h7, o_c, -⟩ := id b4'
  have o_h' : h'.2 (o + 8) = some (.inr (4, hfs (o + 8) (A 0))) := (st _ (by omega) (by unfold stZ; omega) (by omega)).trans o_h
  have o_n' : h'.2 (o + 8 + 4) = some (.inr (7, sfs (o + 8 + 4) c si sl)) := (st _ (by omega) (by unfold stZ; omega) (by omega)).trans (b1 0 (by omega))
  rw [hE]
  refine w_aload_n dX9_image_11 rfl rfl ?_
  refine w_getf fX9_19 dX9_image_12 o_o' rfl ?_
  refine w_getf fX9_89 dX9_image_15 o_h' rfl ?_
  refine w_getf fX9_98 dX9_image_18 o_n' rfl ?_
  refine w_getf fX9_95 dX9_image_21 o_c rfl ?_
  refine x_iret rfl rfl dX9_image_24 ⟨by push_cast; rfl, ⟨q1, fun x hx => st x (by omega) (by unfold stZ; omega) (by omega)⟩, L, R, C, ow', cd, cb, c, ⟨⟨by omega, fun x hx => ?_⟩, a3.go q1 q2 (fun x hx ho => oth x hx (by omega) (by omega)), o_o', ⟨?_, ?_⟩, ⟨nHTX, nHPS, L, R, C, c, nSCB⟩, ⟨ba, bi, fun j hj => (st _ (by omega) (by unfold stZ; omega) (by omega)).trans (r1 j hj), r2⟩, ⟨pc, psa, psi, psl, fun j hj => (st _ (by omega) (by unfold stZ; omega) (by omega)).trans (p1 j hj)⟩, ?_, ⟨⟨bl, bi2, bq, fun j hj => (st _ (by omega) (by unfold stZ; omega) (by omega)).trans (w1 j hj)⟩, fa, fb, fun j hj => (st _ (by omega) (by unfold stZ; omega) (by omega)).trans (w2 j hj)⟩, ⟨⟨u1', u2, u3⟩, ⟨hIE, by rw [e2]; exact u3, by rw [e0]; omega⟩, u7, u8⟩⟩, hSb.go q1 q2 one (fun j hj => st _ (by omega) (by unfold stZ; omega) (by omega))⟩
  · by_cases hxl : x < h.1
    · rw [q2 x hxl]; exact a2 x hx
    · unfold stZ at hx; omega
  · exact x5.go q1 q2 one ⟨st _ (by omega) (by unfold stZ; omega) (by omega), st _ (by omega) (by unfold stZ; omega) (by omega)⟩ (fun _ z => z)
  · exact x6.go q1 q2 (fun x hx ho => oth x hx (by omega) (by omega)) ⟨st _ (by omega) (by unfold stZ; omega) (by omega), st _ (by omega) (by unfold stZ; omega) (by omega)⟩ (fun _ z => z) rfl (fun _ _ => rfl)
  · exact a10.go q1 q2 (fun x hx ho => oth x hx (by omega) (by omega)) (fun x hx2 => st x (by omega) (by unfold stZ; omega) (by omega)) (fun c hc => ⟨hc, rfl⟩)
set_option maxRecDepth 8000 in
theorem x_back {o : Nat} {h : HP} {cap : Nat → Nat} {A im tx tp : Nat → Int} {f4 f5 f6 : Int} {L R C : Nat} (H : CLS o h cap A im tx tp f4 f5 f6 L R C) {L2 R2 C2 : Nat} (hV2 : VC im L2 R2 C2) : sp mX9_back [.ref o] h 160 8260 (XPE o h cap im tx tp f4 f5 f6 (some (.int (zI ((L2 : Int) * C2)))) (fillR A 0 9033 im)) := by
  obtain ⟨ow, cd, cb, c, hRs, hSb⟩ := id H
  obtain ⟨⟨a1, a2⟩, a3, a4, ⟨x5, x6⟩, ⟨x7, x8, L', R', C', c', x9⟩, ⟨ba, bi, r1, r2⟩, ⟨pc, psa, psi, psl, p1⟩, a10, ⟨⟨bl, bi2, bq, w1⟩, fa, fb, w2⟩, ⟨⟨u1', u2, u3⟩, ⟨u4, u5, u6⟩, u7, u8⟩⟩ := id hRs
  obtain ⟨sa, si, sl, b1, b2, b3, b4, b5⟩ := id hSb
  obtain ⟨ka, ki, kl, k1, k2, k3, k4, k5⟩ := id x9
  obtain ⟨txs, o_h, t2, t3, t4⟩ := id x5
  obtain ⟨txk, o_k, s2, s3, s4⟩ := id x7
  obtain ⟨f, sc, y1, y2⟩ := id x6
  obtain ⟨fk, sck, z1, z2⟩ := id x8
  obtain ⟨F, hF⟩ := hps_pick z2
  have z0 : ∀ x, stZ o x → ow x < 100 := fun x hx => by rw [a2 x hx]; omega
  have cp := c5_copyFrom (hd := o + 8) (tg := 100) (kd := o + 20) (tq := 200) (bA := fun i => (F i).1) (cA := fun i => (F i).2.1) (sA := fun i => (F i).2.2.1) (jA := fun i => (F i).2.2.2.1) (mA := fun i => (F i).2.2.2.2.1) o_h o_k t2 s2 b1 k1 y1 z1 (by omega) (by omega) ⟨by omega, by omega⟩ ⟨fun j hj => by have := z0 (o + 8 + j) (by unfold stZ; omega); omega, fun j hj => by have := z0 (o + 20 + j) (by unfold stZ; omega); omega⟩ (fun i hi => ⟨(hF i hi).1, (hF i hi).2.1⟩) (fun i hi x hx => by
    have hc := cdq_at (a3 x (s3 i x hi hx)).1
    obtain ⟨fs, -, -, e1, -⟩ := (a3 x (s3 i x hi hx)).2
    exact ⟨hc.1, fun z => by have := a2 x (by unfold stZ; omega); have := hc.2; omega, by have := hc.2; omega, fs, e1⟩)
  refine sp_wp rfl (lv := [_]) rfl (Nat.le_of_ble_eq_true rfl) ?_
  refine w_aload_n dX9_back_0 rfl rfl ?_
  refine w_getf fX9_19 dX9_back_1 a4 rfl ?_
  refine w_aload_n dX9_back_4 rfl rfl ?_
  refine w_getf fX9_23 dX9_back_5 a4 rfl ?_
  refine w_callV (Z := mX5_copyFrom) (As := [_]) cp o_h rfl kX5_copyFrom lX9_365 iX5_copyFrom vX5_copyFrom dX9_back_8 rfl rfl rfl (Nat.le_of_ble_eq_true rfl) ⟨Nat.le_of_ble_eq_true rfl, Nat.le_of_ble_eq_true rfl⟩ (Nat.le_refl _) (Nat.le_refl _) (fun v h' q => ?_)
  obtain ⟨rfl, ow', ⟨q1, q1b⟩, q2, q3, q4, ⟨tn, q5, q6⟩, ⟨sn, q7, q8⟩, scn, q9, q10⟩ := q
  have st : ∀ x, x ≤ o + 72 → stZ o x → ¬ (o + 8 ≤ x ∧ x ≤ o + 8 + 11) → h'.2 x = h.2 x := fun x hx hz hn => q3 x (by omega) hn (by rw [a2 x hz]; omega)
  have oth : ∀ x, x < h.1 → 1 ≤ ow x → ¬ (100 ≤ ow x ∧ ow x < 100 + 20) → h'.2 x = h.2 x := fun x hx ho hn => q3 x hx (fun z => by have := a2 x (by unfold stZ; omega); omega) hn
  have one : ∀ x, x < h.1 → ow x = 1 → h'.2 x = h.2 x := fun x hx ho => oth x hx (by omega) (by omega)
  have o_o' : h'.2 o = some (.inr (8, xfs o)) := (st o (by omega) (by unfold stZ; omega) (by omega)).trans a4
  obtain ⟨E, hE⟩ : ∃ E, fillR A 0 9033 im = E := ⟨_, rfl⟩
  have hEs : ∀ k, k < 9033 → E k = im k := fun k hk => by
    rw [← hE]
    have := fillR_i (A := A) (s := 0) (n := 9033) (i := k) (g := im) hk
    rw [Nat.zero_add] at this
    exact this
  have e0 := hEs 0 (by omega)
  have e1 := hEs 1 (by omega)
  have e2 := hEs 2 (by omega)
  have hIE : INV E := fun k => by
    by_cases hk : k < 9033
    · rw [hEs k hk]; exact u4 k
    · rw [← hE, fillR_n (by omega)]; exact u1' k
  have nHTX : HTX h' ow' cd (o + 8) (E 0) tx := by
    rw [e0]
    refine ⟨tn, q4, q5, fun i x hi hx => s3 i x hi (by rw [← q6 i hi]; exact hx), fun i hi => ?_⟩
    obtain ⟨d0, cx, Lx, Rx, Cx, d1, d2, d3⟩ := s4 i hi
    exact ⟨d0, cx, Lx, Rx, Cx, (q6 i d0).trans d1, cdq_go d2 q1 q2 one, d3⟩
  have nHPS : HPS h' ow' cd (o + 8) 100 E := by
    refine ⟨0, scn, by rw [e1]; exact q9, fun i hi => ?_⟩
    rw [e1] at hi
    obtain ⟨ax, sx, d1, d2, d3⟩ := q10 i hi
    obtain ⟨g1, g2, g3, g4, g5, g6⟩ := hF i hi
    have hi20 := q9.2.2.2.1
    refine ⟨ax, (F i).2.1, (F i).2.2.2.2.2.1, (F i).2.2.2.2.2.2.1, (F i).2.2.2.2.2.2.2, by rw [Nat.zero_add, Nat.mod_eq_of_lt (by omega)]; exact d1, ?_⟩
    exact SCB.same ⟨sx, _, _, d2, g3, g4.copy d3 g6.2.1, cdq_go g5 q1 q2 one, g6⟩ (fun k h1 h2 => bk_of hEs h1 h2)
  have nSCB : SCB h' ow' cd (o + 8 + 4) E L' R' C' c' := SCB.same ⟨sn, ki, kl, q7, k2, k3.copy q8 k5.2.1, cdq_go k4 q1 q2 one, k5⟩ (fun k h1 h2 => hEs k (by omega))
  have hL2 : L' = L2 ∧ R' = R2 ∧ C' = C2 := by
    obtain ⟨v1, v2, v3, -⟩ := k5.2.1
    obtain ⟨w1, w2, w3, -⟩ := hV2
    omega
  obtain ⟨rfl, rfl, rfl⟩ := hL2
  have b4' := cdq_go k4 q1 q2 one
  obtain ⟨ad, f7, f8, f10, f9, f11, rk, cr, -, h6, h7, o_c, -⟩ := id b4'
  have o_h' : h'.2 (o + 8) = some (.inr (4, hfs (o + 8) (im 0))) := q4
  have o_n' : h'.2 (o + 8 + 4) = some (.inr (7, sfs (o + 8 + 4) c' ki kl)) := q7 0 (by omega)
  rw [hE]
  refine w_aload_n dX9_back_11 rfl rfl ?_
  refine w_getf fX9_19 dX9_back_12 o_o' rfl ?_
  refine w_getf fX9_89 dX9_back_15 o_h' rfl ?_
  refine w_getf fX9_98 dX9_back_18 o_n' rfl ?_
  refine w_getf fX9_95 dX9_back_21 o_c rfl ?_
  refine x_iret rfl rfl dX9_back_24 ⟨by push_cast; rfl, ⟨q1, fun x hx => st x (by omega) (by unfold stZ; omega) (by omega)⟩, L', R', C', ow', cd, cb, c', ⟨⟨by omega, fun x hx => ?_⟩, a3.go q1 q2 (fun x hx ho => oth x hx (by omega) (by omega)), o_o', ⟨nHTX, nHPS⟩, ⟨?_, ?_, L', R', C', c', ?_⟩, ⟨ba, bi, fun j hj => (st _ (by omega) (by unfold stZ; omega) (by omega)).trans (r1 j hj), r2⟩, ⟨pc, psa, psi, psl, fun j hj => (st _ (by omega) (by unfold stZ; omega) (by omega)).trans (p1 j hj)⟩, ?_, ⟨⟨bl, bi2, bq, fun j hj => (st _ (by omega) (by unfold stZ; omega) (by omega)).trans (w1 j hj)⟩, fa, fb, fun j hj => (st _ (by omega) (by unfold stZ; omega) (by omega)).trans (w2 j hj)⟩, ⟨⟨hIE, by rw [e0]; omega, by rw [e2]; exact u5⟩, ⟨u4, u5, by rw [e0]; omega⟩, ?_, u8⟩⟩, nSCB⟩
  · by_cases hxl : x < h.1
    · rw [q2 x hxl]; exact a2 x hx
    · unfold stZ at hx; omega
  · exact x7.go q1 q2 one ⟨st _ (by omega) (by unfold stZ; omega) (by omega), st _ (by omega) (by unfold stZ; omega) (by omega)⟩ (fun _ z => z)
  · exact x8.go q1 q2 (fun x hx ho => oth x hx (by omega) (by omega)) ⟨st _ (by omega) (by unfold stZ; omega) (by omega), st _ (by omega) (by unfold stZ; omega) (by omega)⟩ (fun _ z => z) rfl (fun _ _ => rfl)
  · exact x9.go q1 q2 one (fun j hj => st _ (by omega) (by unfold stZ; omega) (by omega))
  · exact a10.go q1 q2 (fun x hx ho => oth x hx (by omega) (by omega)) (fun x hx2 => st x (by omega) (by unfold stZ; omega) (by omega)) (fun c hc => ⟨hc, rfl⟩)
  · rw [e0]
    exact ⟨u7.1, fun i hi => u7.2 i (by have := (u4 0).1; have h0 : (0 : Int) ≤ im 0 := (u4 0).1; omega)⟩

