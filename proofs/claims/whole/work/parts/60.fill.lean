/-! arrays filled; scenes that stand for a block -/
theorem wx_Sv {Y : MT} {pc : Nat} {lv st : List Value} {h : HP} {rc rs : Nat} {Φ : Option Value → HP → Prop} {α : Type} {P : α → Prop} {f : α → HP} {Z : MT} {idx n : Nat} {As rest : List Value} (hM : sp Z As h 0 0 (px none P f)) (hB : CB Z n) (w1 : Cond.methodLink Y.1.cls idx Z.1 ∈ gw) (w2 : Cond.static Z.1 ∈ gw) (hd : decode Y.2.1 pc = .ok (.invokestatic idx, 3)) (hst : st = As.reverse ++ rest) (hn : As.length = n) (hlen : lv.length = Y.2.2.1) (hw : (rest.map fun v => v.category).sum ≤ 8) (hfr : RM Y Z) (kk : ∀ x, P x → wp Y (pc + 3) lv (rest) (f x) rc rs Φ) : wp Y pc lv st h rc rs Φ :=
  w_callS hM hB w1 w2 hd hst hn hlen hw hfr (Nat.zero_le _) (Nat.zero_le _) (fun v' h' q => by obtain ⟨rfl, x, hx, rfl⟩ := q; exact kk x hx)
theorem wx_SNv {Y : MT} {pc : Nat} {lv st : List Value} {h : HP} {rc rs : Nat} {Φ : Option Value → HP → Prop} {α : Type} {P : α → Prop} {f : α → HP} {Z : MT} {idx n : Nat} {As rest : List Value} {host : String} (hM : sp Z As h 0 0 (px none P f)) (hB : CB Z n) (w1 : Cond.methodLinkNest Y.1.cls idx Z.1 host ∈ lw_tbl) (w2 : Cond.static Z.1 ∈ gw) (hd : decode Y.2.1 pc = .ok (.invokestatic idx, 3)) (hst : st = As.reverse ++ rest) (hn : As.length = n) (hlen : lv.length = Y.2.2.1) (hw : (rest.map fun v => v.category).sum ≤ 8) (hfr : RM Y Z) (kk : ∀ x, P x → wp Y (pc + 3) lv (rest) (f x) rc rs Φ) : wp Y pc lv st h rc rs Φ :=
  w_callSN hM hB w1 w2 hd hst hn hlen hw hfr (Nat.zero_le _) (Nat.zero_le _) (fun v' h' q => by obtain ⟨rfl, x, hx, rfl⟩ := q; exact kk x hx)
theorem wx_S {Y : MT} {pc : Nat} {lv st : List Value} {h : HP} {rc rs : Nat} {Φ : Option Value → HP → Prop} {α : Type} {P : α → Prop} {f : α → HP} {Z : MT} {idx n : Nat} {As rest : List Value} {v : Value} (hM : sp Z As h 0 0 (px (some v) P f)) (hB : CB Z n) (w1 : Cond.methodLink Y.1.cls idx Z.1 ∈ gw) (w2 : Cond.static Z.1 ∈ gw) (hd : decode Y.2.1 pc = .ok (.invokestatic idx, 3)) (hst : st = As.reverse ++ rest) (hn : As.length = n) (hlen : lv.length = Y.2.2.1) (hw : (rest.map fun v => v.category).sum ≤ 8) (hfr : RM Y Z) (kk : ∀ x, P x → wp Y (pc + 3) lv (v :: rest) (f x) rc rs Φ) : wp Y pc lv st h rc rs Φ :=
  w_callS hM hB w1 w2 hd hst hn hlen hw hfr (Nat.zero_le _) (Nat.zero_le _) (fun v' h' q => by obtain ⟨rfl, x, hx, rfl⟩ := q; exact kk x hx)
theorem wx_SN {Y : MT} {pc : Nat} {lv st : List Value} {h : HP} {rc rs : Nat} {Φ : Option Value → HP → Prop} {α : Type} {P : α → Prop} {f : α → HP} {Z : MT} {idx n : Nat} {As rest : List Value} {host : String} {v : Value} (hM : sp Z As h 0 0 (px (some v) P f)) (hB : CB Z n) (w1 : Cond.methodLinkNest Y.1.cls idx Z.1 host ∈ lw_tbl) (w2 : Cond.static Z.1 ∈ gw) (hd : decode Y.2.1 pc = .ok (.invokestatic idx, 3)) (hst : st = As.reverse ++ rest) (hn : As.length = n) (hlen : lv.length = Y.2.2.1) (hw : (rest.map fun v => v.category).sum ≤ 8) (hfr : RM Y Z) (kk : ∀ x, P x → wp Y (pc + 3) lv (v :: rest) (f x) rc rs Φ) : wp Y pc lv st h rc rs Φ :=
  w_callSN hM hB w1 w2 hd hst hn hlen hw hfr (Nat.zero_le _) (Nat.zero_le _) (fun v' h' q => by obtain ⟨rfl, x, hx, rfl⟩ := q; exact kk x hx)
theorem cJ_fill {h : HP} {a n : Nat} {f : Nat → Int} {v : Int} (ha : h.2 a = some (aI n f)) (hn : n ≤ 1000) : sp mJ7_fill_53178 [.ref a, .int (zI v)] h 0 0 (pd none (h.1, up h.2 a (aI n (fun k => if k < n then v else f k)))) := by
  refine sp_wp rfl (lv := [_, _, _, _]) rfl (Nat.le_of_ble_eq_true rfl) ?_
  refine w_iconst dJ7_fill_53178_0 ?_
  refine w_istore_n (lv' := [_, _, _, _]) dJ7_fill_53178_1 rfl (Nat.le_of_ble_eq_true rfl) rfl rfl ?_
  refine w_aload_n dJ7_fill_53178_2 rfl rfl ?_
  refine w_alen (by decide) ha dJ7_fill_53178_3 ?_
  refine w_istore_n (lv' := [_, _, _, _]) dJ7_fill_53178_4 rfl (Nat.le_of_ble_eq_true rfl) rfl rfl ?_
  have key : ∀ k, k ≤ n → wp mJ7_fill_53178 5 [.ref a, .int (zI v), .int (zI (k : Int)), .int (zI (n : Int))] [] (h.1, up h.2 a (aI n (fun j => if j < k then v else f j))) 0 0 (pd none (h.1, up h.2 a (aI n (fun k => if k < n then v else f k)))) := by
    refine up_ind (fun k hk ih => ?_)
    refine w_iload_n dJ7_fill_53178_5 rfl rfl ?_
    refine w_iload_n dJ7_fill_53178_6 rfl rfl ?_
    refine w_icmp_ge 20 dJ7_fill_53178_7 (by decide) (by first | assumption | (unfold ok32 at *; omega)) (by first | assumption | (unfold ok32 at *; omega)) (fun hc => ?_) (fun hc => ?_)
    · refine x_vret rfl dJ7_fill_53178_20 ⟨rfl, ?_⟩
      rw [show k = n by omega]
    · refine w_aload_n dJ7_fill_53178_10 rfl rfl ?_
      refine w_iload_n dJ7_fill_53178_11 rfl rfl ?_
      refine w_iload_n dJ7_fill_53178_12 rfl rfl ?_
      refine w_iast k (show (up h.2 a (aI n (fun j => if j < k then v else f j))) a = some _ from up_s) rfl (by omega) (by omega) dJ7_fill_53178_13 ?_
      show wp _ _ _ _ (h.1, up (up h.2 a _) a _) _ _ _
      rw [up_up]
      refine w_iinc (lv' := [_, _, _, _]) dJ7_fill_53178_14 rfl rfl rfl ?_
      refine w_goto 5 dJ7_fill_53178_17 (by decide) ?_
      refine w_cast rfl rfl ?_ (ih (by omega))
      have he : u1 (fun j => if j < k then v else f j) k v = fun j => if j < k + 1 then v else f j := by
        funext j
        unfold u1
        by_cases h1 : j = k
        · rw [if_pos h1, if_pos (by omega)]
        · rw [if_neg h1]
          show (if j < k then v else f j) = _
          by_cases h2 : j < k
          · rw [if_pos h2, if_pos (by omega)]
          · rw [if_neg h2, if_neg (by omega)]
      rw [he]
  refine w_cast rfl rfl ?_ (key 0 (Nat.zero_le _))
  rw [show (fun j => if j < 0 then v else f j) = f from funext fun j => if_neg (Nat.not_lt_zero _)]
  exact (up_same ha).symm
def BK (n : Nat) (bk B : Nat → Int) : Prop := B 384 = ((min n 16 : Nat) : Int) ∧ ∀ i, i < min n 16 → ∀ q, q < 3 → bk ((n - min n 16 + i) % 16 * 3 + q) = B (336 + 3 * i + q)
theorem BK.same {n : Nat} {bk bk' B D : Nat → Int} (h : BK n bk B) (hk : ∀ k, k < 48 → bk' k = bk k) (hB : ∀ k, 336 ≤ k → k < 385 → D k = B k) : BK n bk' D :=
  ⟨(hB 384 (by omega) (by omega)).trans h.1, fun i hi q hq => by rw [hk _ (by omega), hB _ (by omega) (by omega)]; exact h.2 i hi q hq⟩
theorem BK.put {n : Nat} {bk B : Nat → Int} {x y z : Int} (h : BK n bk B) : BK (n + 1) (u1 (u1 (u1 bk (n % 16 * 3) x) (n % 16 * 3 + 1) y) (n % 16 * 3 + 2) z) (wdA B x y z) := by
  obtain ⟨h1, h2⟩ := h
  have hN : ∀ q, q < 3 → (u1 (u1 (u1 bk (n % 16 * 3) x) (n % 16 * 3 + 1) y) (n % 16 * 3 + 2) z) (n % 16 * 3 + q) = if q = 0 then x else if q = 1 then y else z := by
    intro q hq
    rcases (show q = 0 ∨ q = 1 ∨ q = 2 by omega) with e | e | e
    · subst e; rw [u1_n (by omega), u1_n (by omega), Nat.add_zero, u1_s]; rfl
    · subst e; rw [u1_n (by omega), u1_s]; rfl
    · subst e; rw [u1_s]; rfl
  have hO : ∀ m q, m < 16 → m ≠ n % 16 → q < 3 → (u1 (u1 (u1 bk (n % 16 * 3) x) (n % 16 * 3 + 1) y) (n % 16 * 3 + 2) z) (m * 3 + q) = bk (m * 3 + q) := by
    intro m q hm hne hq
    rw [u1_n (by omega), u1_n (by omega), u1_n (by omega)]
  generalize hbk : u1 (u1 (u1 bk (n % 16 * 3) x) (n % 16 * 3 + 1) y) (n % 16 * 3 + 2) z = bk' at hN hO ⊢
  unfold wdA
  by_cases hn : n < 16
  · rw [show min n 16 = n by omega] at h1 h2
    rw [if_neg (by omega)]
    have ht : (B 384).toNat = n := by omega
    rw [ht]
    refine ⟨?_, fun i hi q hq => ?_⟩
    · rw [u1_s, h1]
      omega
    · rw [u1_n (by omega)]
      rw [show (n + 1 - min (n + 1) 16 + i) % 16 = i by omega]
      by_cases hin : i = n
      · subst hin
        have := hN q hq
        rw [show i % 16 = i by omega] at this
        rw [this]
        rcases (show q = 0 ∨ q = 1 ∨ q = 2 by omega) with e | e | e
        · subst e; rw [u1_n (by omega), u1_n (by omega), Nat.add_zero, u1_s]; rfl
        · subst e; rw [u1_n (by omega), show 336 + 3 * i + 1 = 337 + 3 * i by omega, u1_s]; rfl
        · subst e; rw [show 336 + 3 * i + 2 = 338 + 3 * i by omega, u1_s]; rfl
      · rw [hO i q (by omega) (by omega) hq, u1_n (by omega), u1_n (by omega), u1_n (by omega)]
        have := h2 i (by omega) q hq
        rw [show (n - n + i) % 16 = i by omega] at this
        exact this
  · rw [show min n 16 = 16 by omega] at h1 h2
    rw [if_pos (by omega)]
    refine ⟨?_, fun i hi q hq => ?_⟩
    · rw [u1_s]
      rw [show min (n + 1) 16 = 16 by omega]
      rfl
    · rw [show min (n + 1) 16 = 16 by omega] at hi ⊢
      rw [u1_n (by omega)]
      by_cases hin : i = 15
      · subst hin
        rw [show (n + 1 - 16 + 15) % 16 = n % 16 by omega, hN q hq]
        rcases (show q = 0 ∨ q = 1 ∨ q = 2 by omega) with e | e | e
        · subst e; rw [u1_n (by omega), u1_n (by omega), show 336 + 3 * 15 + 0 = 381 by omega, u1_s]; rfl
        · subst e; rw [u1_n (by omega), show 336 + 3 * 15 + 1 = 382 by omega, u1_s]; rfl
        · subst e; rw [show 336 + 3 * 15 + 2 = 383 by omega, u1_s]; rfl
      · rw [hO _ q (by omega) (by omega) hq, u1_n (by omega), u1_n (by omega), u1_n (by omega), u1_n (by omega), show 336 + 3 * i + q = 336 + (3 * i + q) by omega, fillR_i (by omega)]
        have := h2 (i + 1) (by omega) q hq
        rw [show n + 1 - 16 + i = n - 16 + (i + 1) by omega, this]
        congr 1
        omega
/-- the scene's cells tell the block B -/
def REL (sa : Nat → Nat → Int) (si : Nat → Int) (sl : Nat → BitVec 64) (B : Nat → Int) (L R C : Nat) : Prop :=
  (sl 1 = sentB B ∧ si 2 = B 12 ∧ si 3 = B 8 ∧ si 4 = B 9 ∧ si 5 = B 10 ∧ si 6 = B 11) ∧ (sl 8 = gA B (L * C) ∧ si 9 = ((oddN (cs B L C) (gA B (L * C)) (L * R) : Nat) : Int)) ∧ (∃ n : Nat, si 7 = (n : Int) ∧ (n : Int) ≤ 4 * B 10 + B 11 ∧ BK n (sa 5) B) ∧ (∀ b, b < L * C → sa 1 b = B (48 + b)) ∧ (∀ b, b < L * C → sa 2 b = B (96 + b)) ∧ (∀ b, b < L * C → sa 3 b = B (385 + b)) ∧ (∀ k, k < L * R → ∀ j, j < C → okc (shA B) L k j = true → sa 4 (8 * k + j) = B (144 + 8 * k + j)) ∧ ∀ p, p < R → sa 6 p = ((lay R (B 13).toNat p : Nat) : Int)
theorem CDQ.same {P : Nat → Prop} {h : HP} {c : Nat} {B D : Nat → Int} {L R C : Nat} (H : CDQ P h c B L R C) (hs : ∀ k, 3 ≤ k → k < 46 → (k < 8 ∨ 14 ≤ k) → D k = B k) : CDQ P h c D L R C := by
  obtain ⟨ad, f7, f8, f10, f9, f11, rk, cr, a1, a2, a3, a4, a5, a6, a7, a8, a9, b1, b2, b3, b4, b5, p⟩ := H
  have h6 : D 6 = B 6 := hs 6 (by omega) (by omega) (by omega)
  have h7 : D 7 = B 7 := hs 7 (by omega) (by omega) (by omega)
  have hsh : ∀ k, k < 32 → shA D k = shA B k := fun k hk => hs (14 + k) (by omega) (by omega) (by omega)
  have hVD : VC D L R C := by
    obtain ⟨v1, v2, v3, v4, v5, v6, v7⟩ := id a1
    exact ⟨(hs 3 (by omega) (by omega) (by omega)).trans v1, (hs 4 (by omega) (by omega) (by omega)).trans v2, (hs 5 (by omega) (by omega) (by omega)).trans v3, v4, v5, v6, fun k hk => by rw [hs (14 + k) (by omega) (by omega) (by omega)]; exact v7 k hk⟩
  have hbn : ∀ i, i < L * R → ∀ j, j < C → bitN (shA D) L i j = bitN (shA B) L i j := fun i hi j hj => by
    have := rowLt hi a1.2.2.2.1.1
    have h5 := a1.2.2.2.2.1
    have h8 := a1.2.2.2.2.2.1
    unfold bitN
    rw [hsh _ (by omega)]
  have hcs : ∀ i, i < L * R → cs D L C i = cs B L C i := fun i hi => by
    unfold cs
    have : ∀ m, m ≤ C → csetN (shA D) L i m = csetN (shA B) L i m := by
      intro m
      induction m with
      | zero => intro _; rfl
      | succ m ih => intro hm; rw [csetN, csetN, ih (by omega), hbn i hi m (by omega)]
    exact this C (Nat.le_refl _)
  have hhg : ∀ b m, m ≤ L * R → hgB (cs D L C) b m = hgB (cs B L C) b m := by
    intro b m
    induction m with
    | zero => intro _; rfl
    | succ m ih => intro hm; rw [hgB, hgB, ih (by omega), hcs m (by omega)]
  refine ⟨ad, f7, f8, f10, f9, f11, rk, cr, hVD, by rw [h6]; exact a2, by rw [h7]; exact a3, by rw [h6, h7]; exact a4, a5, a6, a7, a8, a9, fun i hi j hj => ?_, fun i hi j hj => ?_, fun i hi => ?_, fun b hb => ?_, fun q => ?_, p⟩
  · have h5 := a1.2.2.2.2.1
    have h8 := a1.2.2.2.2.2.1
    rw [b1 i hi j hj, hs _ (by omega) (by omega) (by omega)]
  · rw [b2 i hi j hj, hbn i hi j hj]
  · rw [b3 i hi, hcs i hi]
  · rw [b4 b hb, hhg b _ (Nat.le_refl _)]
  · rw [lsR_kp a1 (fun k h1 h2 => hs k (by omega) h2 (by omega))]
    exact b5 q
theorem CDQ.sm {P : Nat → Prop} {h : HP} {c : Nat} {B D : Nat → Int} {L R C : Nat} (H : CDQ P h c B L R C) (hs : SmC B D) : CDQ P h c D L R C := H.same (fun k h1 h2 h3 => hs k h2 (by omega) (by omega) (by omega) (by omega) (by omega) (by omega))
theorem oddN_c {f g : Nat → BitVec 64} {x : BitVec 64} : ∀ {m : Nat}, (∀ i, i < m → f i = g i) → oddN f x m = oddN g x m
  | 0, _ => rfl
  | m + 1, h => by rw [oddN, oddN, oddN_c (fun i hi => h i (by omega)), h m (by omega)]

