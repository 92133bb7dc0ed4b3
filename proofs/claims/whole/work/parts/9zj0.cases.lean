/-! the law: its cases, 1 -/
set_option maxRecDepth 4000 in
theorem lc_feed {sb L0 : Nat} {xs : Nat → Int32} {nm : String} {o i m : Nat} {Φ : Option Value → HP → Prop} {h : HP} {cap : Nat → Nat} {A : Nat → Int} {ia : Nat → Nat → Int} {la : Nat → Nat → BitVec 64} {fi : Nat → Int} {fl : Nat → BitVec 64} {L R C rc rs : Nat} (hL : L0 ≤ 3072) (hi : i + 6 ≤ L0) (N : NX sb L0 xs nm o i m Φ) (I : LI o h cap A ia la fi fl L R C) (r1 : 200 * (m + 1) + (426168 - smC cap) ≤ rc) (r2 : 8300 * (m + 1) + 2 * (426168 - smC cap) ≤ rs) : wl sb L0 xs (mLaw nm) 320 [.ref sb, .ref o, .ref (o + 60), .int (zI (i : Int))] [] h rc rs Φ := by
  obtain ⟨H, hr⟩ := I
  have hT := cls_top H
  obtain ⟨c, sa, si, sl, hX⟩ := H.vx
  have hcp := cls_cap H
  obtain ⟨-, -, -, -, u5, -⟩ := cls_pur H
  obtain ⟨n, hn⟩ : ∃ n : Nat, fi 4 = (n : Int) := ⟨(fi 4).toNat, by omega⟩
  by_cases hc : n + 20 ≤ 300
  · have hx := x_feed (a := (xs (i + 1)).toInt) (b := (xs (i + 2)).toInt) (c := (xs (i + 3)).toInt) (d := (xs (i + 4)).toInt) (e := (xs (i + 5)).toInt) H hn
    rw [if_pos hc, if_pos hc, if_pos hc] at hx
    refine vw_aload_n dL_law_320 rfl rfl ?_
    refine vw_aload_n dL_law_321 rfl rfl ?_
    refine vw_iload_n dL_law_322 rfl rfl ?_
    refine vw_iconst dL_law_323 ?_
    refine vw_iadd dL_law_324 ?_
    refine v_sld (i + 1) (by omega) (by omega) hL dL_law_325 ?_
    refine vw_aload_n dL_law_326 rfl rfl ?_
    refine vw_iload_n dL_law_327 rfl rfl ?_
    refine vw_iconst dL_law_328 ?_
    refine vw_iadd dL_law_329 ?_
    refine v_sld (i + 2) (by omega) (by omega) hL dL_law_330 ?_
    refine vw_aload_n dL_law_331 rfl rfl ?_
    refine vw_iload_n dL_law_332 rfl rfl ?_
    refine vw_iconst dL_law_333 ?_
    refine vw_iadd dL_law_334 ?_
    refine v_sld (i + 3) (by omega) (by omega) hL dL_law_335 ?_
    refine vw_aload_n dL_law_336 rfl rfl ?_
    refine vw_iload_n dL_law_337 rfl rfl ?_
    refine vw_iconst dL_law_338 ?_
    refine vw_iadd dL_law_339 ?_
    refine v_sld (i + 4) (by omega) (by omega) hL dL_law_340 ?_
    refine vw_aload_n dL_law_341 rfl rfl ?_
    refine vw_iload_n dL_law_342 rfl rfl ?_
    refine vw_iconst dL_law_343 ?_
    refine vw_iadd dL_law_344 ?_
    refine v_sld (i + 5) (by omega) (by omega) hL dL_law_345 ?_
    refine vw_callV (Z := mX9_feed) (As := [_, _, _, _, _]) hx (cls_o H) rfl kX9_feed lL_13 iX9_feed vX9_feed dL_law_346 rfl rfl rfl (Nat.le_of_ble_eq_true rfl) ⟨Nat.le_of_ble_eq_true rfl, Nat.le_of_ble_eq_true rfl⟩ (by omega) (by omega) (fun v h1 q => ?_)
    obtain ⟨rfl, hF, L1, R1, C1, H1⟩ := q
    have hc1 := cls_cap H1
    have hr1 := li_frm hr hF
    have hz0 := c_feed (r := o + 60) (A := A) (ia := ia) (la := la) (fi := fi) (fl := fl) (h0 := h1) (a := (xs (i + 1)).toInt) (b := (xs (i + 2)).toInt) (c := (xs (i + 3)).toInt) (d := (xs (i + 4)).toInt) (e := (xs (i + 5)).toInt) hn (by omega)
    rw [if_pos hc, if_pos hc] at hz0
    have hz := ad_pq hz0
    refine vw_aload_n dL_law_349 rfl rfl ?_
    refine vw_aload_n dL_law_350 rfl rfl ?_
    refine vw_iload_n dL_law_351 rfl rfl ?_
    refine vw_iconst dL_law_352 ?_
    refine vw_iadd dL_law_353 ?_
    refine v_sld (i + 1) (by omega) (by omega) hL dL_law_354 ?_
    refine vw_aload_n dL_law_355 rfl rfl ?_
    refine vw_iload_n dL_law_356 rfl rfl ?_
    refine vw_iconst dL_law_357 ?_
    refine vw_iadd dL_law_358 ?_
    refine v_sld (i + 2) (by omega) (by omega) hL dL_law_359 ?_
    refine vw_aload_n dL_law_360 rfl rfl ?_
    refine vw_iload_n dL_law_361 rfl rfl ?_
    refine vw_iconst dL_law_362 ?_
    refine vw_iadd dL_law_363 ?_
    refine v_sld (i + 3) (by omega) (by omega) hL dL_law_364 ?_
    refine vw_aload_n dL_law_365 rfl rfl ?_
    refine vw_iload_n dL_law_366 rfl rfl ?_
    refine vw_iconst dL_law_367 ?_
    refine vw_iadd dL_law_368 ?_
    refine v_sld (i + 4) (by omega) (by omega) hL dL_law_369 ?_
    refine vw_aload_n dL_law_370 rfl rfl ?_
    refine vw_iload_n dL_law_371 rfl rfl ?_
    refine vw_iconst dL_law_372 ?_
    refine vw_iadd dL_law_373 ?_
    refine v_sld (i + 5) (by omega) (by omega) hL dL_law_374 ?_
    refine v_cast (h' := RH (o + 60) A ia la fi fl h1) rfl rfl (RHP.self hr1).symm ?_
    refine vw_callV (Z := mX10_feed) (As := [_, _, _, _, _]) hz RH0 rfl kX10_feed lL_17 iX10_feed vX10_feed dL_law_375 rfl rfl rfl (Nat.le_of_ble_eq_true rfl) ⟨Nat.le_of_ble_eq_true rfl, Nat.le_of_ble_eq_true rfl⟩ (Nat.zero_le _) (Nat.zero_le _) (fun v h2 q => ?_)
    obtain ⟨rfl, ia', la', fi', fl', e⟩ := q
    refine v_sameI 2113 dL_law_378 (by decide) ?_
    exact nx_go N H1 e (by omega) (by omega)
  · have hx := x_feed (a := (xs (i + 1)).toInt) (b := (xs (i + 2)).toInt) (c := (xs (i + 3)).toInt) (d := (xs (i + 4)).toInt) (e := (xs (i + 5)).toInt) H hn
    rw [if_neg hc, if_neg hc, if_neg hc] at hx
    refine vw_aload_n dL_law_320 rfl rfl ?_
    refine vw_aload_n dL_law_321 rfl rfl ?_
    refine vw_iload_n dL_law_322 rfl rfl ?_
    refine vw_iconst dL_law_323 ?_
    refine vw_iadd dL_law_324 ?_
    refine v_sld (i + 1) (by omega) (by omega) hL dL_law_325 ?_
    refine vw_aload_n dL_law_326 rfl rfl ?_
    refine vw_iload_n dL_law_327 rfl rfl ?_
    refine vw_iconst dL_law_328 ?_
    refine vw_iadd dL_law_329 ?_
    refine v_sld (i + 2) (by omega) (by omega) hL dL_law_330 ?_
    refine vw_aload_n dL_law_331 rfl rfl ?_
    refine vw_iload_n dL_law_332 rfl rfl ?_
    refine vw_iconst dL_law_333 ?_
    refine vw_iadd dL_law_334 ?_
    refine v_sld (i + 3) (by omega) (by omega) hL dL_law_335 ?_
    refine vw_aload_n dL_law_336 rfl rfl ?_
    refine vw_iload_n dL_law_337 rfl rfl ?_
    refine vw_iconst dL_law_338 ?_
    refine vw_iadd dL_law_339 ?_
    refine v_sld (i + 4) (by omega) (by omega) hL dL_law_340 ?_
    refine vw_aload_n dL_law_341 rfl rfl ?_
    refine vw_iload_n dL_law_342 rfl rfl ?_
    refine vw_iconst dL_law_343 ?_
    refine vw_iadd dL_law_344 ?_
    refine v_sld (i + 5) (by omega) (by omega) hL dL_law_345 ?_
    refine vw_callV (Z := mX9_feed) (As := [_, _, _, _, _]) hx (cls_o H) rfl kX9_feed lL_13 iX9_feed vX9_feed dL_law_346 rfl rfl rfl (Nat.le_of_ble_eq_true rfl) ⟨Nat.le_of_ble_eq_true rfl, Nat.le_of_ble_eq_true rfl⟩ (by omega) (by omega) (fun v h1 q => ?_)
    obtain ⟨rfl, hF, L1, R1, C1, H1⟩ := q
    have hc1 := cls_cap H1
    have hr1 := li_frm hr hF
    have hz0 := c_feed (r := o + 60) (A := A) (ia := ia) (la := la) (fi := fi) (fl := fl) (h0 := h1) (a := (xs (i + 1)).toInt) (b := (xs (i + 2)).toInt) (c := (xs (i + 3)).toInt) (d := (xs (i + 4)).toInt) (e := (xs (i + 5)).toInt) hn (by omega)
    rw [if_neg hc, if_neg hc] at hz0
    have hz := ad_pq hz0
    refine vw_aload_n dL_law_349 rfl rfl ?_
    refine vw_aload_n dL_law_350 rfl rfl ?_
    refine vw_iload_n dL_law_351 rfl rfl ?_
    refine vw_iconst dL_law_352 ?_
    refine vw_iadd dL_law_353 ?_
    refine v_sld (i + 1) (by omega) (by omega) hL dL_law_354 ?_
    refine vw_aload_n dL_law_355 rfl rfl ?_
    refine vw_iload_n dL_law_356 rfl rfl ?_
    refine vw_iconst dL_law_357 ?_
    refine vw_iadd dL_law_358 ?_
    refine v_sld (i + 2) (by omega) (by omega) hL dL_law_359 ?_
    refine vw_aload_n dL_law_360 rfl rfl ?_
    refine vw_iload_n dL_law_361 rfl rfl ?_
    refine vw_iconst dL_law_362 ?_
    refine vw_iadd dL_law_363 ?_
    refine v_sld (i + 3) (by omega) (by omega) hL dL_law_364 ?_
    refine vw_aload_n dL_law_365 rfl rfl ?_
    refine vw_iload_n dL_law_366 rfl rfl ?_
    refine vw_iconst dL_law_367 ?_
    refine vw_iadd dL_law_368 ?_
    refine v_sld (i + 4) (by omega) (by omega) hL dL_law_369 ?_
    refine vw_aload_n dL_law_370 rfl rfl ?_
    refine vw_iload_n dL_law_371 rfl rfl ?_
    refine vw_iconst dL_law_372 ?_
    refine vw_iadd dL_law_373 ?_
    refine v_sld (i + 5) (by omega) (by omega) hL dL_law_374 ?_
    refine v_cast (h' := RH (o + 60) A ia la fi fl h1) rfl rfl (RHP.self hr1).symm ?_
    refine vw_callV (Z := mX10_feed) (As := [_, _, _, _, _]) hz RH0 rfl kX10_feed lL_17 iX10_feed vX10_feed dL_law_375 rfl rfl rfl (Nat.le_of_ble_eq_true rfl) ⟨Nat.le_of_ble_eq_true rfl, Nat.le_of_ble_eq_true rfl⟩ (Nat.zero_le _) (Nat.zero_le _) (fun v h2 q => ?_)
    obtain ⟨rfl, ia', la', fi', fl', e⟩ := q
    refine v_sameI 2113 dL_law_378 (by decide) ?_
    exact nx_go N H1 e (by omega) (by omega)
set_option maxRecDepth 4000 in
theorem lc_end {sb L0 : Nat} {xs : Nat → Int32} {nm : String} {o i m : Nat} {Φ : Option Value → HP → Prop} {h : HP} {cap : Nat → Nat} {A : Nat → Int} {ia : Nat → Nat → Int} {la : Nat → Nat → BitVec 64} {fi : Nat → Int} {fl : Nat → BitVec 64} {L R C rc rs : Nat} (hL : L0 ≤ 3072) (hi : i + 6 ≤ L0) (N : NX sb L0 xs nm o i m Φ) (I : LI o h cap A ia la fi fl L R C) (r1 : 200 * (m + 1) + (426168 - smC cap) ≤ rc) (r2 : 8300 * (m + 1) + 2 * (426168 - smC cap) ≤ rs) : wl sb L0 xs (mLaw nm) 383 [.ref sb, .ref o, .ref (o + 60), .int (zI (i : Int))] [] h rc rs Φ := by
  obtain ⟨H, hr⟩ := I
  have hT := cls_top H
  obtain ⟨c, sa, si, sl, hX⟩ := H.vx
  have hcp := cls_cap H
  obtain ⟨-, -, -, -, u5, -⟩ := cls_pur H
  have hx := x_end H (ok32_of (xs (i + 1)))
  refine vw_aload_n dL_law_383 rfl rfl ?_
  refine vw_aload_n dL_law_384 rfl rfl ?_
  refine vw_iload_n dL_law_385 rfl rfl ?_
  refine vw_iconst dL_law_386 ?_
  refine vw_iadd dL_law_387 ?_
  refine v_sld (i + 1) (by omega) (by omega) hL dL_law_388 ?_
  refine vw_callV (Z := mX9_end) (As := [_]) hx (cls_o H) rfl kX9_end lL_18 iX9_end vX9_end dL_law_389 rfl rfl rfl (Nat.le_of_ble_eq_true rfl) ⟨Nat.le_of_ble_eq_true rfl, Nat.le_of_ble_eq_true rfl⟩ (by omega) (by omega) (fun v h1 q => ?_)
  obtain ⟨rfl, hF, L1, R1, C1, H1⟩ := q
  have hc1 := cls_cap H1
  have hr1 := li_frm hr hF
  have hz := ad_pq (c_end (r := o + 60) (A := A) (ia := ia) (la := la) (fi := fi) (fl := fl) (h0 := h1) (by unfold ok32; omega) (ok32_of (xs (i + 1))))
  refine vw_aload_n dL_law_392 rfl rfl ?_
  refine vw_aload_n dL_law_393 rfl rfl ?_
  refine vw_iload_n dL_law_394 rfl rfl ?_
  refine vw_iconst dL_law_395 ?_
  refine vw_iadd dL_law_396 ?_
  refine v_sld (i + 1) (by omega) (by omega) hL dL_law_397 ?_
  refine v_cast (h' := RH (o + 60) A ia la fi fl h1) rfl rfl (RHP.self hr1).symm ?_
  refine vw_callV (Z := mX10_end) (As := [_]) hz RH0 rfl kX10_end lL_22 iX10_end vX10_end dL_law_398 rfl rfl rfl (Nat.le_of_ble_eq_true rfl) ⟨Nat.le_of_ble_eq_true rfl, Nat.le_of_ble_eq_true rfl⟩ (Nat.zero_le _) (Nat.zero_le _) (fun v h2 q => ?_)
  obtain ⟨rfl, ia', la', fi', fl', e⟩ := q
  refine v_sameI 2113 dL_law_401 (by decide) ?_
  exact nx_go N H1 e (by omega) (by omega)
set_option maxRecDepth 4000 in
theorem lc_text {sb L0 : Nat} {xs : Nat → Int32} {nm : String} {o i m : Nat} {Φ : Option Value → HP → Prop} {h : HP} {cap : Nat → Nat} {A : Nat → Int} {ia : Nat → Nat → Int} {la : Nat → Nat → BitVec 64} {fi : Nat → Int} {fl : Nat → BitVec 64} {L R C rc rs : Nat} (hL : L0 ≤ 3072) (hi : i + 6 ≤ L0) (N : NX sb L0 xs nm o i m Φ) (I : LI o h cap A ia la fi fl L R C) (r1 : 200 * (m + 1) + (426168 - smC cap) ≤ rc) (r2 : 8300 * (m + 1) + 2 * (426168 - smC cap) ≤ rs) : wl sb L0 xs (mLaw nm) 406 [.ref sb, .ref o, .ref (o + 60), .int (zI (i : Int))] [] h rc rs Φ := by
  obtain ⟨H, hr⟩ := I
  have hT := cls_top H
  obtain ⟨c, sa, si, sl, hX⟩ := H.vx
  have hcp := cls_cap H
  obtain ⟨⟨pu1, u2, u3⟩, -, u4, u6, u5, -⟩ := cls_pur H
  obtain ⟨n, hn⟩ : ∃ n : Nat, fi 4 = (n : Int) := ⟨(fi 4).toNat, by omega⟩
  have u10 : 0 ≤ A 0 ∧ A 0 ≤ 20 := pu1 0
  obtain ⟨t, ht⟩ : ∃ t : Nat, A 0 = (t : Int) := ⟨(A 0).toNat, by omega⟩
  rw [ht, Int.toNat_natCast] at u4
  by_cases hc : t = 4
  · have hx := ad_pd H (sp_mono (x_text H hn ht) (fun v h' q => q.1 hc))
    refine vw_aload_n dL_law_406 rfl rfl ?_
    refine vw_callV (Z := mX9_text) (As := []) hx (cls_o H) rfl kX9_text lL_23 iX9_text vX9_text dL_law_407 rfl rfl rfl (Nat.le_of_ble_eq_true rfl) ⟨Nat.le_of_ble_eq_true rfl, Nat.le_of_ble_eq_true rfl⟩ (by omega) (by omega) (fun v h1 q => ?_)
    obtain ⟨rfl, hF, L1, R1, C1, H1⟩ := q
    have hc1 := cls_cap H1
    have hr1 := li_frm hr hF
    have hz := ad_pq (sp_mono (c_text (r := o + 60) (A := A) (ia := ia) (la := la) (fi := fi) (fl := fl) (h0 := h1) hn (by omega) u6 ht (by omega) u4) (fun v h' q => q.1 hc))
    refine vw_aload_n dL_law_410 rfl rfl ?_
    refine v_cast (h' := RH (o + 60) A ia la fi fl h1) rfl rfl (RHP.self hr1).symm ?_
    refine vw_callV (Z := mX10_text) (As := []) hz RH0 rfl kX10_text lL_27 iX10_text vX10_text dL_law_411 rfl rfl rfl (Nat.le_of_ble_eq_true rfl) ⟨Nat.le_of_ble_eq_true rfl, Nat.le_of_ble_eq_true rfl⟩ (Nat.zero_le _) (Nat.zero_le _) (fun v h2 q => ?_)
    obtain ⟨rfl, ia', la', fi', fl', e⟩ := q
    refine v_sameI 2113 dL_law_414 (by decide) ?_
    exact nx_go N H1 e (by omega) (by omega)
  · have hx := sp_mono (x_text H hn ht) (fun v h' q => q.2 (by omega))
    refine vw_aload_n dL_law_406 rfl rfl ?_
    refine vw_callV (Z := mX9_text) (As := []) hx (cls_o H) rfl kX9_text lL_23 iX9_text vX9_text dL_law_407 rfl rfl rfl (Nat.le_of_ble_eq_true rfl) ⟨Nat.le_of_ble_eq_true rfl, Nat.le_of_ble_eq_true rfl⟩ (by omega) (by omega) (fun v h1 q => ?_)
    obtain ⟨rfl, hF, L1, R1, C1, H1⟩ := q
    have hc1 := cls_cap H1
    have hr1 := li_frm hr hF
    have hz : sp mX10_text [.ref (o + 60)] (RH (o + 60) A ia la fi fl h1) 0 0 (RO (o + 60) (some (.int (zI (if (rdT (ia 4) n (37 * t) (ia 3)).1 = 0 then (t : Int) else -1)))) (if (rdT (ia 4) n (37 * t) (ia 3)).1 = 0 then u1 A 0 ((t : Int) + 1) else A) (ia 2) (rdT (ia 4) n (37 * t) (ia 3)).2.1 (ia 4) 0 (rdT (ia 4) n (37 * t) (ia 3)).1 (if (rdT (ia 4) n (37 * t) (ia 3)).1 = 0 then -1 else (((rdT (ia 4) n (37 * t) (ia 3)).2.2.1.2.1 : Nat) : Int)) h1) := by
      refine sp_mono (c_text (r := o + 60) (A := A) (ia := ia) (la := la) (fi := fi) (fl := fl) (h0 := h1) hn (by omega) u6 ht (by omega) u4) (fun v h' q => ?_)
      obtain ⟨-, w1, fi2, w2, w3, w4, w5⟩ := q.2 (by omega)
      exact ⟨w1, u1 ia 3 (rdT (ia 4) n (37 * t) (ia 3)).2.1, la, fi2, fl, ⟨rfl, rfl, rfl, w2, w3, w4⟩, w5⟩
    refine vw_aload_n dL_law_410 rfl rfl ?_
    refine v_cast (h' := RH (o + 60) A ia la fi fl h1) rfl rfl (RHP.self hr1).symm ?_
    refine vw_callV (Z := mX10_text) (As := []) hz RH0 rfl kX10_text lL_27 iX10_text vX10_text dL_law_411 rfl rfl rfl (Nat.le_of_ble_eq_true rfl) ⟨Nat.le_of_ble_eq_true rfl, Nat.le_of_ble_eq_true rfl⟩ (Nat.zero_le _) (Nat.zero_le _) (fun v h2 q => ?_)
    obtain ⟨rfl, ia', la', fi', fl', e⟩ := q
    refine v_sameI 2113 dL_law_414 (by decide) ?_
    exact nx_go N H1 e (by omega) (by omega)
set_option maxRecDepth 4000 in
theorem lc_fault {sb L0 : Nat} {xs : Nat → Int32} {nm : String} {o i m : Nat} {Φ : Option Value → HP → Prop} {h : HP} {cap : Nat → Nat} {A : Nat → Int} {ia : Nat → Nat → Int} {la : Nat → Nat → BitVec 64} {fi : Nat → Int} {fl : Nat → BitVec 64} {L R C rc rs : Nat} (hL : L0 ≤ 3072) (hi : i + 6 ≤ L0) (N : NX sb L0 xs nm o i m Φ) (I : LI o h cap A ia la fi fl L R C) (r1 : 200 * (m + 1) + (426168 - smC cap) ≤ rc) (r2 : 8300 * (m + 1) + 2 * (426168 - smC cap) ≤ rs) : wl sb L0 xs (mLaw nm) 419 [.ref sb, .ref o, .ref (o + 60), .int (zI (i : Int))] [] h rc rs Φ := by
  obtain ⟨H, hr⟩ := I
  have hT := cls_top H
  obtain ⟨c, sa, si, sl, hX⟩ := H.vx
  have hcp := cls_cap H
  have hx := ad_pd H (x_fault H (ok32_of (xs (i + 1))))
  refine vw_aload_n dL_law_419 rfl rfl ?_
  refine vw_aload_n dL_law_420 rfl rfl ?_
  refine vw_iload_n dL_law_421 rfl rfl ?_
  refine vw_iconst dL_law_422 ?_
  refine vw_iadd dL_law_423 ?_
  refine v_sld (i + 1) (by omega) (by omega) hL dL_law_424 ?_
  refine vw_callV (Z := mX9_fault) (As := [_]) hx (cls_o H) rfl kX9_fault lL_28 iX9_fault vX9_fault dL_law_425 rfl rfl rfl (Nat.le_of_ble_eq_true rfl) ⟨Nat.le_of_ble_eq_true rfl, Nat.le_of_ble_eq_true rfl⟩ (by omega) (by omega) (fun v h1 q => ?_)
  obtain ⟨rfl, hF, L1, R1, C1, H1⟩ := q
  have hc1 := cls_cap H1
  have hr1 := li_frm hr hF
  have hz := ad_pq (c_fault (r := o + 60) (A := A) (ia := ia) (la := la) (fi := fi) (fl := fl) (h0 := h1) (ok32_of (xs (i + 1))))
  refine vw_aload_n dL_law_428 rfl rfl ?_
  refine vw_aload_n dL_law_429 rfl rfl ?_
  refine vw_iload_n dL_law_430 rfl rfl ?_
  refine vw_iconst dL_law_431 ?_
  refine vw_iadd dL_law_432 ?_
  refine v_sld (i + 1) (by omega) (by omega) hL dL_law_433 ?_
  refine v_cast (h' := RH (o + 60) A ia la fi fl h1) rfl rfl (RHP.self hr1).symm ?_
  refine vw_callV (Z := mX10_fault) (As := [_]) hz RH0 rfl kX10_fault lL_31 iX10_fault vX10_fault dL_law_434 rfl rfl rfl (Nat.le_of_ble_eq_true rfl) ⟨Nat.le_of_ble_eq_true rfl, Nat.le_of_ble_eq_true rfl⟩ (Nat.zero_le _) (Nat.zero_le _) (fun v h2 q => ?_)
  obtain ⟨rfl, ia', la', fi', fl', e⟩ := q
  refine v_sameI 2113 dL_law_437 (by decide) ?_
  exact nx_go N H1 e (by omega) (by omega)
set_option maxRecDepth 4000 in
theorem lc_load {sb L0 : Nat} {xs : Nat → Int32} {nm : String} {o i m : Nat} {Φ : Option Value → HP → Prop} {h : HP} {cap : Nat → Nat} {A : Nat → Int} {ia : Nat → Nat → Int} {la : Nat → Nat → BitVec 64} {fi : Nat → Int} {fl : Nat → BitVec 64} {L R C rc rs : Nat} (hL : L0 ≤ 3072) (hi : i + 6 ≤ L0) (N : NX sb L0 xs nm o i m Φ) (I : LI o h cap A ia la fi fl L R C) (r1 : 200 * (m + 1) + (426168 - smC cap) ≤ rc) (r2 : 8300 * (m + 1) + 2 * (426168 - smC cap) ≤ rs) : wl sb L0 xs (mLaw nm) 442 [.ref sb, .ref o, .ref (o + 60), .int (zI (i : Int))] [] h rc rs Φ := by
  obtain ⟨H, hr⟩ := I
  have hT := cls_top H
  obtain ⟨c, sa, si, sl, hX⟩ := H.vx
  have hcp := cls_cap H
  obtain ⟨⟨u1, u2, u3⟩, -, u4, -⟩ := cls_pur H
  have hx := ad_xe (x_load H (ok32_of (xs (i + 1))))
  refine vw_aload_n dL_law_442 rfl rfl ?_
  refine vw_aload_n dL_law_443 rfl rfl ?_
  refine vw_iload_n dL_law_444 rfl rfl ?_
  refine vw_iconst dL_law_445 ?_
  refine vw_iadd dL_law_446 ?_
  refine v_sld (i + 1) (by omega) (by omega) hL dL_law_447 ?_
  refine vw_callV (Z := mX9_load) (As := [_]) hx (cls_o H) rfl kX9_load lL_32 iX9_load vX9_load dL_law_448 rfl rfl rfl (Nat.le_of_ble_eq_true rfl) ⟨Nat.le_of_ble_eq_true rfl, Nat.le_of_ble_eq_true rfl⟩ (by omega) (by omega) (fun v h1 q => ?_)
  obtain ⟨rfl, hF, L1, R1, C1, H1⟩ := q
  have hc1 := cls_cap H1
  have hr1 := li_frm hr hF
  have hz := ad_pr (c_load (r := o + 60) (A := A) (ia := ia) (la := la) (fi := fi) (fl := fl) (h0 := h1) hT (ok32_of (xs (i + 1))) u4 u2)
  refine vw_aload_n dL_law_451 rfl rfl ?_
  refine vw_aload_n dL_law_452 rfl rfl ?_
  refine vw_iload_n dL_law_453 rfl rfl ?_
  refine vw_iconst dL_law_454 ?_
  refine vw_iadd dL_law_455 ?_
  refine v_sld (i + 1) (by omega) (by omega) hL dL_law_456 ?_
  refine v_cast (h' := RH (o + 60) A ia la fi fl h1) rfl rfl (RHP.self hr1).symm ?_
  refine vw_callV (Z := mX10_load) (As := [_]) hz RH0 rfl kX10_load lL_35 iX10_load vX10_load dL_law_457 rfl rfl rfl (Nat.le_of_ble_eq_true rfl) ⟨Nat.le_of_ble_eq_true rfl, Nat.le_of_ble_eq_true rfl⟩ (Nat.zero_le _) (Nat.zero_le _) (fun v h2 q => ?_)
  obtain ⟨rfl, ia', la', fi', fl', e⟩ := q
  refine v_sameI 2113 dL_law_460 (by decide) ?_
  exact nx_go N H1 e (by omega) (by omega)
set_option maxRecDepth 4000 in
theorem lc_encode {sb L0 : Nat} {xs : Nat → Int32} {nm : String} {o i m : Nat} {Φ : Option Value → HP → Prop} {h : HP} {cap : Nat → Nat} {A : Nat → Int} {ia : Nat → Nat → Int} {la : Nat → Nat → BitVec 64} {fi : Nat → Int} {fl : Nat → BitVec 64} {L R C rc rs : Nat} (hL : L0 ≤ 3072) (hi : i + 6 ≤ L0) (N : NX sb L0 xs nm o i m Φ) (I : LI o h cap A ia la fi fl L R C) (r1 : 200 * (m + 1) + (426168 - smC cap) ≤ rc) (r2 : 8300 * (m + 1) + 2 * (426168 - smC cap) ≤ rs) : wl sb L0 xs (mLaw nm) 465 [.ref sb, .ref o, .ref (o + 60), .int (zI (i : Int))] [] h rc rs Φ := by
  obtain ⟨H, hr⟩ := I
  have hT := cls_top H
  obtain ⟨c, sa, si, sl, hX⟩ := H.vx
  have hcp := cls_cap H
  by_cases hc : 0 ≤ ((BitVec.ofInt 64 (xs (i + 1)).toInt) <<< 32 ||| (BitVec.ofInt 64 (xs (i + 2)).toInt) &&& 4294967295#64).toInt ∧ ((BitVec.ofInt 64 (xs (i + 1)).toInt) <<< 32 ||| (BitVec.ofInt 64 (xs (i + 2)).toInt) &&& 4294967295#64).sshiftRight (L * C - (lsR A (la 6) L R C).2.2) = 0#64
  · have hx := ad_xp (sp_mono (x_encode (q0 := la 6) (x := ((BitVec.ofInt 64 (xs (i + 1)).toInt) <<< 32 ||| (BitVec.ofInt 64 (xs (i + 2)).toInt) &&& 4294967295#64)) H) (fun v h' q => q.1 hc))
    refine vw_aload_n dL_law_465 rfl rfl ?_
    refine vw_aload_n dL_law_466 rfl rfl ?_
    refine vw_iload_n dL_law_467 rfl rfl ?_
    refine vw_iconst dL_law_468 ?_
    refine vw_iadd dL_law_469 ?_
    refine v_sld (i + 1) (by omega) (by omega) hL dL_law_470 ?_
    refine vw_i2l (ok32_of _) dL_law_471 ?_
    refine vw_bipush dL_law_472 (by decide) ?_
    refine vw_lshl 32 rfl (by omega) dL_law_474 ?_
    refine vw_aload_n dL_law_475 rfl rfl ?_
    refine vw_iload_n dL_law_476 rfl rfl ?_
    refine vw_iconst dL_law_477 ?_
    refine vw_iadd dL_law_478 ?_
    refine v_sld (i + 2) (by omega) (by omega) hL dL_law_479 ?_
    refine vw_i2l (ok32_of _) dL_law_480 ?_
    refine vw_ldc2B (4294967295#64) qL_36 rfl dL_law_481 ?_
    refine vw_land dL_law_484 ?_
    refine vw_lor dL_law_485 ?_
    refine vw_callV (Z := mX9_encode) (As := [_]) hx (cls_o H) rfl kX9_encode lL_38 iX9_encode vX9_encode dL_law_486 rfl rfl rfl (Nat.le_of_ble_eq_true rfl) ⟨Nat.le_of_ble_eq_true rfl, Nat.le_of_ble_eq_true rfl⟩ (by omega) (by omega) (fun v h1 q => ?_)
    obtain ⟨rfl, hF, L1, R1, C1, H1⟩ := q
    have hc1 := cls_cap H1
    have hr1 := li_frm hr hF
    have hz := ad_pr (sp_mono (c_encode (r := o + 60) (A := A) (ia := ia) (la := la) (fi := fi) (fl := fl) (h0 := h1) (x := ((BitVec.ofInt 64 (xs (i + 1)).toInt) <<< 32 ||| (BitVec.ofInt 64 (xs (i + 2)).toInt) &&& 4294967295#64)) hT) (fun v h' q => q.1 hc))
    refine vw_aload_n dL_law_489 rfl rfl ?_
    refine vw_aload_n dL_law_490 rfl rfl ?_
    refine vw_iload_n dL_law_491 rfl rfl ?_
    refine vw_iconst dL_law_492 ?_
    refine vw_iadd dL_law_493 ?_
    refine v_sld (i + 1) (by omega) (by omega) hL dL_law_494 ?_
    refine vw_i2l (ok32_of _) dL_law_495 ?_
    refine vw_bipush dL_law_496 (by decide) ?_
    refine vw_lshl 32 rfl (by omega) dL_law_498 ?_
    refine vw_aload_n dL_law_499 rfl rfl ?_
    refine vw_iload_n dL_law_500 rfl rfl ?_
    refine vw_iconst dL_law_501 ?_
    refine vw_iadd dL_law_502 ?_
    refine v_sld (i + 2) (by omega) (by omega) hL dL_law_503 ?_
    refine vw_i2l (ok32_of _) dL_law_504 ?_
    refine vw_ldc2B (4294967295#64) qL_36 rfl dL_law_505 ?_
    refine vw_land dL_law_508 ?_
    refine vw_lor dL_law_509 ?_
    refine v_cast (h' := RH (o + 60) A ia la fi fl h1) rfl rfl (RHP.self hr1).symm ?_
    refine vw_callV (Z := mX10_encode) (As := [_]) hz RH0 rfl kX10_encode lL_42 iX10_encode vX10_encode dL_law_510 rfl rfl rfl (Nat.le_of_ble_eq_true rfl) ⟨Nat.le_of_ble_eq_true rfl, Nat.le_of_ble_eq_true rfl⟩ (Nat.zero_le _) (Nat.zero_le _) (fun v h2 q => ?_)
    obtain ⟨rfl, ia', la', fi', fl', e⟩ := q
    refine v_sameI 2113 dL_law_513 (by decide) ?_
    exact nx_go N H1 e (by omega) (by omega)
  · have hx := ad_xp (sp_mono (x_encode (q0 := la 6) (x := ((BitVec.ofInt 64 (xs (i + 1)).toInt) <<< 32 ||| (BitVec.ofInt 64 (xs (i + 2)).toInt) &&& 4294967295#64)) H) (fun v h' q => q.2 hc))
    refine vw_aload_n dL_law_465 rfl rfl ?_
    refine vw_aload_n dL_law_466 rfl rfl ?_
    refine vw_iload_n dL_law_467 rfl rfl ?_
    refine vw_iconst dL_law_468 ?_
    refine vw_iadd dL_law_469 ?_
    refine v_sld (i + 1) (by omega) (by omega) hL dL_law_470 ?_
    refine vw_i2l (ok32_of _) dL_law_471 ?_
    refine vw_bipush dL_law_472 (by decide) ?_
    refine vw_lshl 32 rfl (by omega) dL_law_474 ?_
    refine vw_aload_n dL_law_475 rfl rfl ?_
    refine vw_iload_n dL_law_476 rfl rfl ?_
    refine vw_iconst dL_law_477 ?_
    refine vw_iadd dL_law_478 ?_
    refine v_sld (i + 2) (by omega) (by omega) hL dL_law_479 ?_
    refine vw_i2l (ok32_of _) dL_law_480 ?_
    refine vw_ldc2B (4294967295#64) qL_36 rfl dL_law_481 ?_
    refine vw_land dL_law_484 ?_
    refine vw_lor dL_law_485 ?_
    refine vw_callV (Z := mX9_encode) (As := [_]) hx (cls_o H) rfl kX9_encode lL_38 iX9_encode vX9_encode dL_law_486 rfl rfl rfl (Nat.le_of_ble_eq_true rfl) ⟨Nat.le_of_ble_eq_true rfl, Nat.le_of_ble_eq_true rfl⟩ (by omega) (by omega) (fun v h1 q => ?_)
    obtain ⟨rfl, hF, L1, R1, C1, H1⟩ := q
    have hc1 := cls_cap H1
    have hr1 := li_frm hr hF
    have hz := ad_pr (sp_mono (c_encode (r := o + 60) (A := A) (ia := ia) (la := la) (fi := fi) (fl := fl) (h0 := h1) (x := ((BitVec.ofInt 64 (xs (i + 1)).toInt) <<< 32 ||| (BitVec.ofInt 64 (xs (i + 2)).toInt) &&& 4294967295#64)) hT) (fun v h' q => q.2 hc))
    refine vw_aload_n dL_law_489 rfl rfl ?_
    refine vw_aload_n dL_law_490 rfl rfl ?_
    refine vw_iload_n dL_law_491 rfl rfl ?_
    refine vw_iconst dL_law_492 ?_
    refine vw_iadd dL_law_493 ?_
    refine v_sld (i + 1) (by omega) (by omega) hL dL_law_494 ?_
    refine vw_i2l (ok32_of _) dL_law_495 ?_
    refine vw_bipush dL_law_496 (by decide) ?_
    refine vw_lshl 32 rfl (by omega) dL_law_498 ?_
    refine vw_aload_n dL_law_499 rfl rfl ?_
    refine vw_iload_n dL_law_500 rfl rfl ?_
    refine vw_iconst dL_law_501 ?_
    refine vw_iadd dL_law_502 ?_
    refine v_sld (i + 2) (by omega) (by omega) hL dL_law_503 ?_
    refine vw_i2l (ok32_of _) dL_law_504 ?_
    refine vw_ldc2B (4294967295#64) qL_36 rfl dL_law_505 ?_
    refine vw_land dL_law_508 ?_
    refine vw_lor dL_law_509 ?_
    refine v_cast (h' := RH (o + 60) A ia la fi fl h1) rfl rfl (RHP.self hr1).symm ?_
    refine vw_callV (Z := mX10_encode) (As := [_]) hz RH0 rfl kX10_encode lL_42 iX10_encode vX10_encode dL_law_510 rfl rfl rfl (Nat.le_of_ble_eq_true rfl) ⟨Nat.le_of_ble_eq_true rfl, Nat.le_of_ble_eq_true rfl⟩ (Nat.zero_le _) (Nat.zero_le _) (fun v h2 q => ?_)
    obtain ⟨rfl, ia', la', fi', fl', e⟩ := q
    refine v_sameI 2113 dL_law_513 (by decide) ?_
    exact nx_go N H1 e (by omega) (by omega)
set_option maxRecDepth 4000 in
theorem lc_raise {sb L0 : Nat} {xs : Nat → Int32} {nm : String} {o i m : Nat} {Φ : Option Value → HP → Prop} {h : HP} {cap : Nat → Nat} {A : Nat → Int} {ia : Nat → Nat → Int} {la : Nat → Nat → BitVec 64} {fi : Nat → Int} {fl : Nat → BitVec 64} {L R C rc rs : Nat} (hL : L0 ≤ 3072) (hi : i + 6 ≤ L0) (N : NX sb L0 xs nm o i m Φ) (I : LI o h cap A ia la fi fl L R C) (r1 : 200 * (m + 1) + (426168 - smC cap) ≤ rc) (r2 : 8300 * (m + 1) + 2 * (426168 - smC cap) ≤ rs) : wl sb L0 xs (mLaw nm) 518 [.ref sb, .ref o, .ref (o + 60), .int (zI (i : Int))] [] h rc rs Φ := by
  obtain ⟨H, hr⟩ := I
  have hT := cls_top H
  obtain ⟨c, sa, si, sl, hX⟩ := H.vx
  have hcp := cls_cap H
  have hx := ad_xp (x_raise H (ok32_of (xs (i + 1))) (ok32_of (xs (i + 2))))
  refine vw_aload_n dL_law_518 rfl rfl ?_
  refine vw_aload_n dL_law_519 rfl rfl ?_
  refine vw_iload_n dL_law_520 rfl rfl ?_
  refine vw_iconst dL_law_521 ?_
  refine vw_iadd dL_law_522 ?_
  refine v_sld (i + 1) (by omega) (by omega) hL dL_law_523 ?_
  refine vw_aload_n dL_law_524 rfl rfl ?_
  refine vw_iload_n dL_law_525 rfl rfl ?_
  refine vw_iconst dL_law_526 ?_
  refine vw_iadd dL_law_527 ?_
  refine v_sld (i + 2) (by omega) (by omega) hL dL_law_528 ?_
  refine vw_callV (Z := mX9_raise) (As := [_, _]) hx (cls_o H) rfl kX9_raise lL_43 iX9_raise vX9_raise dL_law_529 rfl rfl rfl (Nat.le_of_ble_eq_true rfl) ⟨Nat.le_of_ble_eq_true rfl, Nat.le_of_ble_eq_true rfl⟩ (by omega) (by omega) (fun v h1 q => ?_)
  obtain ⟨rfl, hF, L1, R1, C1, H1⟩ := q
  have hc1 := cls_cap H1
  have hr1 := li_frm hr hF
  have hz := ad_pr (c_raise (r := o + 60) (A := A) (ia := ia) (la := la) (fi := fi) (fl := fl) (h0 := h1) hT (ok32_of (xs (i + 1))) (ok32_of (xs (i + 2))))
  refine vw_aload_n dL_law_532 rfl rfl ?_
  refine vw_aload_n dL_law_533 rfl rfl ?_
  refine vw_iload_n dL_law_534 rfl rfl ?_
  refine vw_iconst dL_law_535 ?_
  refine vw_iadd dL_law_536 ?_
  refine v_sld (i + 1) (by omega) (by omega) hL dL_law_537 ?_
  refine vw_aload_n dL_law_538 rfl rfl ?_
  refine vw_iload_n dL_law_539 rfl rfl ?_
  refine vw_iconst dL_law_540 ?_
  refine vw_iadd dL_law_541 ?_
  refine v_sld (i + 2) (by omega) (by omega) hL dL_law_542 ?_
  refine v_cast (h' := RH (o + 60) A ia la fi fl h1) rfl rfl (RHP.self hr1).symm ?_
  refine vw_callV (Z := mX10_raise) (As := [_, _]) hz RH0 rfl kX10_raise lL_47 iX10_raise vX10_raise dL_law_543 rfl rfl rfl (Nat.le_of_ble_eq_true rfl) ⟨Nat.le_of_ble_eq_true rfl, Nat.le_of_ble_eq_true rfl⟩ (Nat.zero_le _) (Nat.zero_le _) (fun v h2 q => ?_)
  obtain ⟨rfl, ia', la', fi', fl', e⟩ := q
  refine v_sameI 2113 dL_law_546 (by decide) ?_
  exact nx_go N H1 e (by omega) (by omega)
set_option maxRecDepth 4000 in
theorem lc_slide {sb L0 : Nat} {xs : Nat → Int32} {nm : String} {o i m : Nat} {Φ : Option Value → HP → Prop} {h : HP} {cap : Nat → Nat} {A : Nat → Int} {ia : Nat → Nat → Int} {la : Nat → Nat → BitVec 64} {fi : Nat → Int} {fl : Nat → BitVec 64} {L R C rc rs : Nat} (hL : L0 ≤ 3072) (hi : i + 6 ≤ L0) (N : NX sb L0 xs nm o i m Φ) (I : LI o h cap A ia la fi fl L R C) (r1 : 200 * (m + 1) + (426168 - smC cap) ≤ rc) (r2 : 8300 * (m + 1) + 2 * (426168 - smC cap) ≤ rs) : wl sb L0 xs (mLaw nm) 551 [.ref sb, .ref o, .ref (o + 60), .int (zI (i : Int))] [] h rc rs Φ := by
  obtain ⟨H, hr⟩ := I
  have hT := cls_top H
  obtain ⟨c, sa, si, sl, hX⟩ := H.vx
  have hcp := cls_cap H
  have hx := ad_xp (x_slide H (ok32_of (xs (i + 1))) (ok32_of (xs (i + 2))))
  refine vw_aload_n dL_law_551 rfl rfl ?_
  refine vw_aload_n dL_law_552 rfl rfl ?_
  refine vw_iload_n dL_law_553 rfl rfl ?_
  refine vw_iconst dL_law_554 ?_
  refine vw_iadd dL_law_555 ?_
  refine v_sld (i + 1) (by omega) (by omega) hL dL_law_556 ?_
  refine vw_aload_n dL_law_557 rfl rfl ?_
  refine vw_iload_n dL_law_558 rfl rfl ?_
  refine vw_iconst dL_law_559 ?_
  refine vw_iadd dL_law_560 ?_
  refine v_sld (i + 2) (by omega) (by omega) hL dL_law_561 ?_
  refine vw_callV (Z := mX9_slide) (As := [_, _]) hx (cls_o H) rfl kX9_slide lL_48 iX9_slide vX9_slide dL_law_562 rfl rfl rfl (Nat.le_of_ble_eq_true rfl) ⟨Nat.le_of_ble_eq_true rfl, Nat.le_of_ble_eq_true rfl⟩ (by omega) (by omega) (fun v h1 q => ?_)
  obtain ⟨rfl, hF, L1, R1, C1, H1⟩ := q
  have hc1 := cls_cap H1
  have hr1 := li_frm hr hF
  have hz := ad_pr (c_slide (r := o + 60) (A := A) (ia := ia) (la := la) (fi := fi) (fl := fl) (h0 := h1) hT (ok32_of (xs (i + 1))) (ok32_of (xs (i + 2))))
  refine vw_aload_n dL_law_565 rfl rfl ?_
  refine vw_aload_n dL_law_566 rfl rfl ?_
  refine vw_iload_n dL_law_567 rfl rfl ?_
  refine vw_iconst dL_law_568 ?_
  refine vw_iadd dL_law_569 ?_
  refine v_sld (i + 1) (by omega) (by omega) hL dL_law_570 ?_
  refine vw_aload_n dL_law_571 rfl rfl ?_
  refine vw_iload_n dL_law_572 rfl rfl ?_
  refine vw_iconst dL_law_573 ?_
  refine vw_iadd dL_law_574 ?_
  refine v_sld (i + 2) (by omega) (by omega) hL dL_law_575 ?_
  refine v_cast (h' := RH (o + 60) A ia la fi fl h1) rfl rfl (RHP.self hr1).symm ?_
  refine vw_callV (Z := mX10_slide) (As := [_, _]) hz RH0 rfl kX10_slide lL_51 iX10_slide vX10_slide dL_law_576 rfl rfl rfl (Nat.le_of_ble_eq_true rfl) ⟨Nat.le_of_ble_eq_true rfl, Nat.le_of_ble_eq_true rfl⟩ (Nat.zero_le _) (Nat.zero_le _) (fun v h2 q => ?_)
  obtain ⟨rfl, ia', la', fi', fl', e⟩ := q
  refine v_sameI 2113 dL_law_579 (by decide) ?_
  exact nx_go N H1 e (by omega) (by omega)
set_option maxRecDepth 4000 in
theorem lc_hear {sb L0 : Nat} {xs : Nat → Int32} {nm : String} {o i m : Nat} {Φ : Option Value → HP → Prop} {h : HP} {cap : Nat → Nat} {A : Nat → Int} {ia : Nat → Nat → Int} {la : Nat → Nat → BitVec 64} {fi : Nat → Int} {fl : Nat → BitVec 64} {L R C rc rs : Nat} (hL : L0 ≤ 3072) (hi : i + 6 ≤ L0) (N : NX sb L0 xs nm o i m Φ) (I : LI o h cap A ia la fi fl L R C) (r1 : 200 * (m + 1) + (426168 - smC cap) ≤ rc) (r2 : 8300 * (m + 1) + 2 * (426168 - smC cap) ≤ rs) : wl sb L0 xs (mLaw nm) 584 [.ref sb, .ref o, .ref (o + 60), .int (zI (i : Int))] [] h rc rs Φ := by
  obtain ⟨H, hr⟩ := I
  have hT := cls_top H
  obtain ⟨c, sa, si, sl, hX⟩ := H.vx
  have hcp := cls_cap H
  have hx := ad_xp (x_hear H (ok32_of (xs (i + 1))) (ok32_of (xs (i + 2))))
  refine vw_aload_n dL_law_584 rfl rfl ?_
  refine vw_aload_n dL_law_585 rfl rfl ?_
  refine vw_iload_n dL_law_586 rfl rfl ?_
  refine vw_iconst dL_law_587 ?_
  refine vw_iadd dL_law_588 ?_
  refine v_sld (i + 1) (by omega) (by omega) hL dL_law_589 ?_
  refine vw_aload_n dL_law_590 rfl rfl ?_
  refine vw_iload_n dL_law_591 rfl rfl ?_
  refine vw_iconst dL_law_592 ?_
  refine vw_iadd dL_law_593 ?_
  refine v_sld (i + 2) (by omega) (by omega) hL dL_law_594 ?_
  refine vw_callV (Z := mX9_hear) (As := [_, _]) hx (cls_o H) rfl kX9_hear lL_52 iX9_hear vX9_hear dL_law_595 rfl rfl rfl (Nat.le_of_ble_eq_true rfl) ⟨Nat.le_of_ble_eq_true rfl, Nat.le_of_ble_eq_true rfl⟩ (by omega) (by omega) (fun v h1 q => ?_)
  obtain ⟨rfl, hF, L1, R1, C1, H1⟩ := q
  have hc1 := cls_cap H1
  have hr1 := li_frm hr hF
  have hz := ad_pr (c_hear (r := o + 60) (A := A) (ia := ia) (la := la) (fi := fi) (fl := fl) (h0 := h1) hT (ok32_of (xs (i + 1))) (ok32_of (xs (i + 2))))
  refine vw_aload_n dL_law_598 rfl rfl ?_
  refine vw_aload_n dL_law_599 rfl rfl ?_
  refine vw_iload_n dL_law_600 rfl rfl ?_
  refine vw_iconst dL_law_601 ?_
  refine vw_iadd dL_law_602 ?_
  refine v_sld (i + 1) (by omega) (by omega) hL dL_law_603 ?_
  refine vw_aload_n dL_law_604 rfl rfl ?_
  refine vw_iload_n dL_law_605 rfl rfl ?_
  refine vw_iconst dL_law_606 ?_
  refine vw_iadd dL_law_607 ?_
  refine v_sld (i + 2) (by omega) (by omega) hL dL_law_608 ?_
  refine v_cast (h' := RH (o + 60) A ia la fi fl h1) rfl rfl (RHP.self hr1).symm ?_
  refine vw_callV (Z := mX10_hear) (As := [_, _]) hz RH0 rfl kX10_hear lL_55 iX10_hear vX10_hear dL_law_609 rfl rfl rfl (Nat.le_of_ble_eq_true rfl) ⟨Nat.le_of_ble_eq_true rfl, Nat.le_of_ble_eq_true rfl⟩ (Nat.zero_le _) (Nat.zero_le _) (fun v h2 q => ?_)
  obtain ⟨rfl, ia', la', fi', fl', e⟩ := q
  refine v_sameI 2113 dL_law_612 (by decide) ?_
  exact nx_go N H1 e (by omega) (by omega)
set_option maxRecDepth 4000 in
theorem lc_send {sb L0 : Nat} {xs : Nat → Int32} {nm : String} {o i m : Nat} {Φ : Option Value → HP → Prop} {h : HP} {cap : Nat → Nat} {A : Nat → Int} {ia : Nat → Nat → Int} {la : Nat → Nat → BitVec 64} {fi : Nat → Int} {fl : Nat → BitVec 64} {L R C rc rs : Nat} (hL : L0 ≤ 3072) (hi : i + 6 ≤ L0) (N : NX sb L0 xs nm o i m Φ) (I : LI o h cap A ia la fi fl L R C) (r1 : 200 * (m + 1) + (426168 - smC cap) ≤ rc) (r2 : 8300 * (m + 1) + 2 * (426168 - smC cap) ≤ rs) : wl sb L0 xs (mLaw nm) 617 [.ref sb, .ref o, .ref (o + 60), .int (zI (i : Int))] [] h rc rs Φ := by
  obtain ⟨H, hr⟩ := I
  have hT := cls_top H
  obtain ⟨c, sa, si, sl, hX⟩ := H.vx
  have hcp := cls_cap H
  have hx := ad_xp (x_send H (ok32_of (xs (i + 1))) (ok32_of (xs (i + 2))))
  refine vw_aload_n dL_law_617 rfl rfl ?_
  refine vw_aload_n dL_law_618 rfl rfl ?_
  refine vw_iload_n dL_law_619 rfl rfl ?_
  refine vw_iconst dL_law_620 ?_
  refine vw_iadd dL_law_621 ?_
  refine v_sld (i + 1) (by omega) (by omega) hL dL_law_622 ?_
  refine vw_aload_n dL_law_623 rfl rfl ?_
  refine vw_iload_n dL_law_624 rfl rfl ?_
  refine vw_iconst dL_law_625 ?_
  refine vw_iadd dL_law_626 ?_
  refine v_sld (i + 2) (by omega) (by omega) hL dL_law_627 ?_
  refine vw_callV (Z := mX9_send) (As := [_, _]) hx (cls_o H) rfl kX9_send lL_56 iX9_send vX9_send dL_law_628 rfl rfl rfl (Nat.le_of_ble_eq_true rfl) ⟨Nat.le_of_ble_eq_true rfl, Nat.le_of_ble_eq_true rfl⟩ (by omega) (by omega) (fun v h1 q => ?_)
  obtain ⟨rfl, hF, L1, R1, C1, H1⟩ := q
  have hc1 := cls_cap H1
  have hr1 := li_frm hr hF
  have hz := ad_pr (c_send (r := o + 60) (A := A) (ia := ia) (la := la) (fi := fi) (fl := fl) (h0 := h1) hT (ok32_of (xs (i + 1))) (ok32_of (xs (i + 2))))
  refine vw_aload_n dL_law_631 rfl rfl ?_
  refine vw_aload_n dL_law_632 rfl rfl ?_
  refine vw_iload_n dL_law_633 rfl rfl ?_
  refine vw_iconst dL_law_634 ?_
  refine vw_iadd dL_law_635 ?_
  refine v_sld (i + 1) (by omega) (by omega) hL dL_law_636 ?_
  refine vw_aload_n dL_law_637 rfl rfl ?_
  refine vw_iload_n dL_law_638 rfl rfl ?_
  refine vw_iconst dL_law_639 ?_
  refine vw_iadd dL_law_640 ?_
  refine v_sld (i + 2) (by omega) (by omega) hL dL_law_641 ?_
  refine v_cast (h' := RH (o + 60) A ia la fi fl h1) rfl rfl (RHP.self hr1).symm ?_
  refine vw_callV (Z := mX10_send) (As := [_, _]) hz RH0 rfl kX10_send lL_60 iX10_send vX10_send dL_law_642 rfl rfl rfl (Nat.le_of_ble_eq_true rfl) ⟨Nat.le_of_ble_eq_true rfl, Nat.le_of_ble_eq_true rfl⟩ (Nat.zero_le _) (Nat.zero_le _) (fun v h2 q => ?_)
  obtain ⟨rfl, ia', la', fi', fl', e⟩ := q
  refine v_sameI 2113 dL_law_645 (by decide) ?_
  exact nx_go N H1 e (by omega) (by omega)
set_option maxRecDepth 4000 in
theorem lc_begin {sb L0 : Nat} {xs : Nat → Int32} {nm : String} {o i m : Nat} {Φ : Option Value → HP → Prop} {h : HP} {cap : Nat → Nat} {A : Nat → Int} {ia : Nat → Nat → Int} {la : Nat → Nat → BitVec 64} {fi : Nat → Int} {fl : Nat → BitVec 64} {L R C rc rs : Nat} (hL : L0 ≤ 3072) (hi : i + 6 ≤ L0) (N : NX sb L0 xs nm o i m Φ) (I : LI o h cap A ia la fi fl L R C) (r1 : 200 * (m + 1) + (426168 - smC cap) ≤ rc) (r2 : 8300 * (m + 1) + 2 * (426168 - smC cap) ≤ rs) : wl sb L0 xs (mLaw nm) 650 [.ref sb, .ref o, .ref (o + 60), .int (zI (i : Int))] [] h rc rs Φ := by
  obtain ⟨H, hr⟩ := I
  have hT := cls_top H
  obtain ⟨c, sa, si, sl, hX⟩ := H.vx
  have hcp := cls_cap H
  have hx := ad_xp (x_begin H (ok32_of (xs (i + 1))))
  refine vw_aload_n dL_law_650 rfl rfl ?_
  refine vw_aload_n dL_law_651 rfl rfl ?_
  refine vw_iload_n dL_law_652 rfl rfl ?_
  refine vw_iconst dL_law_653 ?_
  refine vw_iadd dL_law_654 ?_
  refine v_sld (i + 1) (by omega) (by omega) hL dL_law_655 ?_
  refine vw_callV (Z := mX9_begin) (As := [_]) hx (cls_o H) rfl kX9_begin lL_61 iX9_begin vX9_begin dL_law_656 rfl rfl rfl (Nat.le_of_ble_eq_true rfl) ⟨Nat.le_of_ble_eq_true rfl, Nat.le_of_ble_eq_true rfl⟩ (by omega) (by omega) (fun v h1 q => ?_)
  obtain ⟨rfl, hF, L1, R1, C1, H1⟩ := q
  have hc1 := cls_cap H1
  have hr1 := li_frm hr hF
  have hz := ad_pr (c_begin (r := o + 60) (A := A) (ia := ia) (la := la) (fi := fi) (fl := fl) (h0 := h1) hT (ok32_of (xs (i + 1))))
  refine vw_aload_n dL_law_659 rfl rfl ?_
  refine vw_aload_n dL_law_660 rfl rfl ?_
  refine vw_iload_n dL_law_661 rfl rfl ?_
  refine vw_iconst dL_law_662 ?_
  refine vw_iadd dL_law_663 ?_
  refine v_sld (i + 1) (by omega) (by omega) hL dL_law_664 ?_
  refine v_cast (h' := RH (o + 60) A ia la fi fl h1) rfl rfl (RHP.self hr1).symm ?_
  refine vw_callV (Z := mX10_begin) (As := [_]) hz RH0 rfl kX10_begin lL_64 iX10_begin vX10_begin dL_law_665 rfl rfl rfl (Nat.le_of_ble_eq_true rfl) ⟨Nat.le_of_ble_eq_true rfl, Nat.le_of_ble_eq_true rfl⟩ (Nat.zero_le _) (Nat.zero_le _) (fun v h2 q => ?_)
  obtain ⟨rfl, ia', la', fi', fl', e⟩ := q
  refine v_sameI 2113 dL_law_668 (by decide) ?_
  exact nx_go N H1 e (by omega) (by omega)
set_option maxRecDepth 4000 in
theorem lc_order {sb L0 : Nat} {xs : Nat → Int32} {nm : String} {o i m : Nat} {Φ : Option Value → HP → Prop} {h : HP} {cap : Nat → Nat} {A : Nat → Int} {ia : Nat → Nat → Int} {la : Nat → Nat → BitVec 64} {fi : Nat → Int} {fl : Nat → BitVec 64} {L R C rc rs : Nat} (hL : L0 ≤ 3072) (hi : i + 6 ≤ L0) (N : NX sb L0 xs nm o i m Φ) (I : LI o h cap A ia la fi fl L R C) (r1 : 200 * (m + 1) + (426168 - smC cap) ≤ rc) (r2 : 8300 * (m + 1) + 2 * (426168 - smC cap) ≤ rs) : wl sb L0 xs (mLaw nm) 673 [.ref sb, .ref o, .ref (o + 60), .int (zI (i : Int))] [] h rc rs Φ := by
  obtain ⟨H, hr⟩ := I
  have hT := cls_top H
  obtain ⟨c, sa, si, sl, hX⟩ := H.vx
  have hcp := cls_cap H
  have hx := ad_xp (x_order H (ok32_of (xs (i + 1))))
  refine vw_aload_n dL_law_673 rfl rfl ?_
  refine vw_aload_n dL_law_674 rfl rfl ?_
  refine vw_iload_n dL_law_675 rfl rfl ?_
  refine vw_iconst dL_law_676 ?_
  refine vw_iadd dL_law_677 ?_
  refine v_sld (i + 1) (by omega) (by omega) hL dL_law_678 ?_
  refine vw_callV (Z := mX9_order) (As := [_]) hx (cls_o H) rfl kX9_order lL_65 iX9_order vX9_order dL_law_679 rfl rfl rfl (Nat.le_of_ble_eq_true rfl) ⟨Nat.le_of_ble_eq_true rfl, Nat.le_of_ble_eq_true rfl⟩ (by omega) (by omega) (fun v h1 q => ?_)
  obtain ⟨rfl, hF, L1, R1, C1, H1⟩ := q
  have hc1 := cls_cap H1
  have hr1 := li_frm hr hF
  have hz := ad_pr (c_order (r := o + 60) (A := A) (ia := ia) (la := la) (fi := fi) (fl := fl) (h0 := h1) hT (ok32_of (xs (i + 1))))
  refine vw_aload_n dL_law_682 rfl rfl ?_
  refine vw_aload_n dL_law_683 rfl rfl ?_
  refine vw_iload_n dL_law_684 rfl rfl ?_
  refine vw_iconst dL_law_685 ?_
  refine vw_iadd dL_law_686 ?_
  refine v_sld (i + 1) (by omega) (by omega) hL dL_law_687 ?_
  refine v_cast (h' := RH (o + 60) A ia la fi fl h1) rfl rfl (RHP.self hr1).symm ?_
  refine vw_callV (Z := mX10_order) (As := [_]) hz RH0 rfl kX10_order lL_69 iX10_order vX10_order dL_law_688 rfl rfl rfl (Nat.le_of_ble_eq_true rfl) ⟨Nat.le_of_ble_eq_true rfl, Nat.le_of_ble_eq_true rfl⟩ (Nat.zero_le _) (Nat.zero_le _) (fun v h2 q => ?_)
  obtain ⟨rfl, ia', la', fi', fl', e⟩ := q
  refine v_sameI 2113 dL_law_691 (by decide) ?_
  exact nx_go N H1 e (by omega) (by omega)
