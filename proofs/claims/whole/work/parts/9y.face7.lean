/-! the face: the census -/
theorem or_nz {acc : BitVec 64} {t : Nat} (ht : t < 64) : acc ||| (1#64 <<< t) ≠ 0#64 := fun e => by
  have h1 : (acc ||| (1#64 <<< t)).getLsbD t = (0#64).getLsbD t := by rw [e]
  rw [BitVec.getLsbD_or, bit1o ht, show decide (t = t) = true from decide_eq_true rfl, Bool.or_true, BitVec.getLsbD_zero] at h1
  exact absurd h1 (by decide)
theorem cmb_nz {n : Nat} (hn : n ≤ 64) : ∀ {f d : Nat} {acc x : BitVec 64}, f ≤ n → x ∈ cmb n f d acc → (1 ≤ d ∨ acc ≠ 0#64) → x ≠ 0#64
  | 0, d, acc, x, _, hx, hd => by
    unfold cmb at hx
    by_cases h0 : d = 0
    · rw [if_pos h0] at hx
      rw [List.mem_singleton.mp hx]
      exact hd.resolve_left (by omega)
    · rw [if_neg h0] at hx
      exact absurd hx (List.not_mem_nil)
  | f + 1, d, acc, x, hf, hx, hd => by
    unfold cmb at hx
    by_cases h0 : d = 0
    · rw [if_pos h0] at hx
      rw [List.mem_singleton.mp hx]
      exact hd.resolve_left (by omega)
    · rw [if_neg h0] at hx
      rcases List.mem_append.mp hx with w | w
      · exact cmb_nz hn (by omega) w (Or.inr (or_nz (by omega)))
      · exact cmb_nz hn (by omega) w (Or.inl (by omega))
theorem knE_nz {A : Nat → Int} {L R C kd k : Nat} {x : BitVec 64} (hn : L * C ≤ 48) (hx : x ∈ knE A L R C kd (k + 1)) : x ≠ 0#64 := by
  unfold knE at hx
  have h1 := (List.mem_filter.mp hx).1
  unfold cm at h1
  exact cmb_nz (by omega) (by omega) h1 (Or.inl (by omega))
theorem lkV_n {A : Nat → Int} {L R C k i : Nat} (hn : L * C ≤ 48) : (lkV A L R C (k + 1) (i : Int) = 0#64 ∧ (knE A L R C 3 (k + 1)).length ≤ i) ∨ (lkV A L R C (k + 1) (i : Int) ≠ 0#64 ∧ (knE A L R C 3 (k + 1))[i]? = some (lkV A L R C (k + 1) (i : Int))) := by
  unfold lkV
  rw [if_neg (by omega), Int.toNat_natCast]
  cases e : (knE A L R C 3 (k + 1))[i]? with
  | none => exact Or.inl ⟨rfl, List.getElem?_eq_none_iff.mp e⟩
  | some x => exact Or.inr ⟨knE_nz hn (List.mem_of_getElem? e), rfl⟩
theorem tk_s {T : BitVec 64 → Bool} : ∀ {E : List (BitVec 64)} {i : Nat} {x : BitVec 64}, E[i]? = some x → (E.take (i + 1)).filter T = (E.take i).filter T ++ (if T x = true then [x] else [])
  | [], i, x, h => by simp at h
  | y :: E, 0, x, h => by
    have e : y = x := by simpa using h
    subst e
    by_cases hy : T y = true
    · rw [if_pos hy]; simp [hy]
    · rw [if_neg hy]; simp [hy]
  | y :: E, i + 1, x, h => by
    have ih := tk_s (T := T) (E := E) (i := i) (x := x) (by simpa using h)
    rw [List.take_succ_cons, List.take_succ_cons]
    by_cases hy : T y = true
    · rw [List.filter_cons_of_pos hy, List.filter_cons_of_pos hy, ih]; rfl
    · rw [List.filter_cons_of_neg hy, List.filter_cons_of_neg hy, ih]
theorem tk_e {E : List (BitVec 64)} {i : Nat} (h : E.length ≤ i) : E.take (i + 1) = E.take i := by
  rw [List.take_of_length_le h, List.take_of_length_le (by omega)]
theorem hd_take {T : BitVec 64 → Bool} : ∀ {E : List (BitVec 64)} {i m : Nat} {x : BitVec 64}, E[i]? = some x → T x = true → (E.take i).filter T = [] → i < m → ((E.take m).filter T).head? = some x
  | [], i, m, x, h, _, _, _ => by simp at h
  | y :: E, i, 0, x, _, _, _, hm => absurd hm (by omega)
  | y :: E, 0, m + 1, x, h, hT, _, _ => by
    have e : y = x := by simpa using h
    subst e
    rw [List.take_succ_cons, List.filter_cons_of_pos hT]
    rfl
  | y :: E, i + 1, m + 1, x, h, hT, hf, hm => by
    rw [List.take_succ_cons] at hf ⊢
    by_cases hy : T y = true
    · rw [List.filter_cons_of_pos hy] at hf
      exact absurd hf (by simp)
    · rw [List.filter_cons_of_neg hy] at hf ⊢
      exact hd_take (by simpa using h) hT hf (by omega)
theorem hd_len {E : List (BitVec 64)} {x : BitVec 64} (h : E.head? = some x) : ¬ E.length = 0 := fun e => by
  rw [List.length_eq_zero_iff.mp e] at h
  exact absurd h (by simp)
theorem cn_kn {A : Nat → Int} {L R C kd k s : Nat} (hs : ksr kd = s) : cnS (cs A L C) (fun b => hgB (cs A L C) b (L * R)) (L * C) (L * R) s k = (knE A L R C kd k).length := by
  subst hs
  exact List.countP_eq_length_filter
noncomputable def leV (A : Nat → Int) (L R C : Nat) (z x : Int) : BitVec 64 := if (1 ≤ z ∧ z ≤ 4) ∧ 0 ≤ x then ((lkL (fun b => hgB (cs A L C) b (L * R)) (L * C) z.toNat)[x.toNat]?).getD 0#64 else 0#64
theorem lkV_le {A : Nat → Int} {L R C k : Nat} {x : Int} (hk : k ≤ 3) : lkV A L R C (k + 1) x = leV A L R C ((k + 1 : Nat) : Int) x := by
  unfold lkV leV
  by_cases h : x < 0
  · rw [if_pos h, if_neg (by omega)]
  · rw [if_neg h, if_pos (by omega), Int.toNat_natCast]
    rfl
theorem trL_k {A : Nat → Int} {L R C k : Nat} {z : Int} : trL A L R C k z = ((knE A L R C 3 k).take 20).filter (fun x => decide (¬ endV A L R C x z = 0)) := rfl
theorem rst_sc {o : Nat} {h : HP} {cap : Nat → Nat} {A im tx tp : Nat → Int} {f4 f5 f6 : Int} {ow : Nat → Nat} {cd : Nat → Prop} {cb : Nat → CBK} {L R C c : Nat} {h' : HP} (H : REST o h cap A im tx tp f4 f5 f6 ow cd cb) (b : SCB h ow cd (o + 8 + 4) A L R C c) (h1 : h.1 = h'.1) (h3 : ∀ x, ¬ (o + 35 ≤ x ∧ x ≤ o + 42) → ¬ (o + 55 ≤ x ∧ x ≤ o + 59) → h'.2 x = h.2 x) (p : ∃ (c : Nat) (sa : Nat → Nat → Int) (si : Nat → Int) (sl : Nat → BitVec 64), SCP h' (o + 35) c sa si sl) (w : ∃ (bl : Nat → Nat → BitVec 64) (bi : Nat → Int) (bq : Nat → BitVec 64), AWP h' (o + 55) bl bi bq) (f : ∃ (ba : Nat → Nat → Int) (bi : Nat → Int), FLP h' (o + 57) ba bi) : REST o h' cap A im tx tp f4 f5 f6 ow cd cb ∧ SCB h' ow cd (o + 8 + 4) A L R C c := by
  obtain ⟨⟨a1, a2⟩, a3, a4, ⟨a5, a6⟩, ⟨a7, a8, L', R', C', c', a9⟩, ⟨ba, bi, r1, r2⟩, -, a10, -, a11⟩ := H
  have g1 : h.1 ≤ h'.1 := by omega
  have hn : ∀ x, 1 ≤ ow x → h'.2 x = h.2 x := fun x ho => h3 x (fun z => by have := a2 x (by unfold stZ; omega); omega) (fun z => by have := a2 x (by unfold stZ; omega); omega)
  refine ⟨⟨⟨by omega, a2⟩, a3.go g1 (fun _ _ => rfl) (fun x _ ho => hn x (by omega)), (h3 o (by omega) (by omega)).trans a4, ⟨?_, ?_⟩, ⟨?_, ?_, L', R', C', c', ?_⟩, ⟨ba, bi, fun j hj => (h3 _ (by omega) (by omega)).trans (r1 j hj), r2⟩, p, ?_, ⟨w, f⟩, a11⟩, b.go g1 (fun _ _ => rfl) (fun x _ ho => hn x (by omega)) (fun j hj => h3 _ (by omega) (by omega))⟩
  · exact a5.go g1 (fun _ _ => rfl) (fun x _ ho => hn x (by omega)) ⟨h3 _ (by omega) (by omega), h3 _ (by omega) (by omega)⟩ (fun _ z => z)
  · exact a6.go g1 (fun _ _ => rfl) (fun x _ ho => hn x (by omega)) ⟨h3 _ (by omega) (by omega), h3 _ (by omega) (by omega)⟩ (fun _ z => z) rfl (fun _ _ => rfl)
  · exact a7.go g1 (fun _ _ => rfl) (fun x _ ho => hn x (by omega)) ⟨h3 _ (by omega) (by omega), h3 _ (by omega) (by omega)⟩ (fun _ z => z)
  · exact a8.go g1 (fun _ _ => rfl) (fun x _ ho => hn x (by omega)) ⟨h3 _ (by omega) (by omega), h3 _ (by omega) (by omega)⟩ (fun _ z => z) rfl (fun _ _ => rfl)
  · exact a9.go g1 (fun _ _ => rfl) (fun x _ ho => hn x (by omega)) (fun j hj => h3 _ (by omega) (by omega))
  · exact a10.go g1 (fun _ _ => rfl) (fun x _ ho => hn x (by omega)) (fun x hx2 => h3 x (by omega) (by omega)) (fun c hc => ⟨hc, rfl⟩)
theorem w1_trap {o : Nat} {h : HP} {cap : Nat → Nat} {A im tx tp : Nat → Int} {f4 f5 f6 : Int} {ow : Nat → Nat} {cd : Nat → Prop} {cb : Nat → CBK} {L R C c : Nat} {x : BitVec 64} {z : Int} (H : REST o h cap A im tx tp f4 f5 f6 ow cd cb) (hb : SCB h ow cd (o + 8 + 4) A L R C c) (hz : 1 ≤ z ∧ z ≤ 31) : sp mX9_trap [.ref o, .long (lB x), .int (zI z)] h 0 0 (XPC o h (cap) A im tx tp f4 f5 f6 cd cb L R C c (some (.int (zI (endV A L R C x z))))) := by
  obtain ⟨sa, si, sl, b1, b2, b3, b4, b5⟩ := id hb
  have hX := H.vx b1 b3 b4 b5
  obtain ⟨c1, sb, sj, sm, hp⟩ := id H.2.2.2.2.2.2.1
  obtain ⟨⟨bl, bi2, bq, w1⟩, fa, fb, w2⟩ := id H.2.2.2.2.2.2.2.2.1
  have hT := x_trap (c1 := c1) (sb := sb) (sj := sj) (sm := sm) (x := x) hX hz
  rw [SCP.self hp] at hT
  refine sp_mono hT (fun v h' q => ?_)
  obtain ⟨rfl, q, -, rfl⟩ := q
  obtain ⟨e1, e2⟩ := rst_sc (h' := SH (o + 35) q.1 q.2.1 q.2.2.1 q.2.2.2 h) H hb rfl (fun x n1 n2 => SHn (by unfold outS; omega)) ⟨_, _, _, _, SCP.sh⟩ ⟨bl, bi2, bq, fun j hj => (SHn (by unfold outS; omega)).trans (w1 j hj)⟩ ⟨fa, fb, fun j hj => (SHn (by unfold outS; omega)).trans (w2 j hj)⟩
  exact ⟨rfl, ⟨Nat.le_refl _, fun x hx => SHn (by unfold outS; omega)⟩, ow, e1, e2⟩
def wkC (c : Nat) (n : Nat → Nat) (g : Nat → List (BitVec 64)) : Nat → (Nat → Nat) → Nat → Nat
  | 0, cap => cap
  | d + 1, cap => if (g (4 - d)).length = 0 then wkC c n g d (cpM c (n (4 - d)) (4 - d) cap) else cpM c (n (4 - d)) (4 - d) cap
theorem sm_wk {c : Nat} {n : Nat → Nat} {g : Nat → List (BitVec 64)} : ∀ (d : Nat) (cap : Nat → Nat), d ≤ 4 → smC cap ≤ smC (wkC c n g d cap)
  | 0, cap, _ => Nat.le_refl _
  | d + 1, cap, hd => by
    have h1 := sm_M (c := c) (n := n (4 - d)) (K := 4 - d) (cap := cap) (by omega)
    unfold wkC
    split
    · exact Nat.le_trans h1 (sm_wk d _ (by omega))
    · exact h1
theorem chs_4 : mxc 1 + mxc 2 + mxc 3 + mxc 4 = 426168 := by decide +kernel
def CPB (cap : Nat → Nat) : Prop := ∀ K, 1 ≤ K ∧ K ≤ 4 → cap K ≤ mxc K
theorem cpb_sm {cap : Nat → Nat} (h : CPB cap) : smC cap ≤ 426168 := by
  have h0 := chs_4
  have e1 := h 1 (by omega)
  have e2 := h 2 (by omega)
  have e3 := h 3 (by omega)
  have e4 := h 4 (by omega)
  unfold smC
  omega
theorem rest_cpb {o : Nat} {h : HP} {cap : Nat → Nat} {A im tx tp : Nat → Int} {f4 f5 f6 : Int} {ow : Nat → Nat} {cd : Nat → Prop} {cb : Nat → CBK} (H : REST o h cap A im tx tp f4 f5 f6 ow cd cb) : CPB cap := fun K hK => by
  obtain ⟨ba, bi, bf, Ls, Al, -, -, -, -, q5⟩ := H.2.2.2.2.2.2.2.1
  obtain ⟨-, -, -, -, -, ⟨e1, -⟩, -⟩ := q5 K (by omega)
  exact e1
theorem cpb_L {c n K : Nat} {cap : Nat → Nat} (h : CPB cap) (hK : 1 ≤ K ∧ K ≤ 4) (hn : n ≤ chs 48 K) : CPB (cpL c n K cap) := fun J hJ => by
  by_cases e : J = K
  · subst e
    rw [cpL_K hJ]
    exact gcp_max (h J hJ) (by unfold mxc; omega)
  · rw [cpL_o e (by omega)]
    exact h J hJ
theorem cpb_K {kd c n K : Nat} {cap : Nat → Nat} (h : CPB cap) (hK : 1 ≤ K ∧ K ≤ 4) (hn : n ≤ chs 48 K) : CPB (cpK kd c n K cap) := by
  unfold cpK
  split
  · exact cpb_L h hK hn
  · exact h
theorem cpb_M {c n K : Nat} {cap : Nat → Nat} (h : CPB cap) (hK : 1 ≤ K ∧ K ≤ 4) (hn : n ≤ chs 48 K) : CPB (cpM c n K cap) := by
  unfold cpM
  split
  · exact h
  · exact cpb_L h hK hn
theorem cpb_wk {c : Nat} {n : Nat → Nat} {g : Nat → List (BitVec 64)} (hn : ∀ K, n K ≤ chs 48 K) : ∀ (d : Nat) (cap : Nat → Nat), d ≤ 4 → CPB cap → CPB (wkC c n g d cap)
  | 0, cap, _, h => h
  | d + 1, cap, hd, h => by
    have h1 := cpb_M (c := c) (n := n (4 - d)) (K := 4 - d) h (by omega) (hn _)
    unfold wkC
    split
    · exact cpb_wk hn d _ (by omega) h1
    · exact h1
set_option maxRecDepth 4000 in
theorem x_knots {o : Nat} {h : HP} {cap : Nat → Nat} {A im tx tp : Nat → Int} {f4 f5 f6 : Int} {L R C : Nat} {z : Int} (H : CLS o h cap A im tx tp f4 f5 f6 L R C) (hz : ok32 z) : ∃ cap', (smC cap ≤ smC cap' ∧ smC cap' ≤ 426168) ∧ sp mX9_knots [.ref o, .int (zI z)] h (smC cap' - smC cap) (2 * (smC cap' - smC cap)) (XP o h cap' im tx tp f4 f5 f6 L R C (some (.int (zI (if 1 ≤ z ∧ z ≤ 4 then ((cnS (cs A L C) (fun b => hgB (cs A L C) b (L * R)) (L * C) (L * R) 0 z.toNat : Nat) : Int) else -1)))) A) := by
  obtain ⟨ow, cd, cb, c, hRs, hb⟩ := id H
  have hub0 := rest_cpb hRs
  obtain ⟨sa, si, sl, b1, b2, b3, b4, b5⟩ := id hb
  have hX := hRs.vx b1 b3 b4 b5
  obtain ⟨o_o, ⟨nh, o_h⟩, -⟩ := id hX
  have o_n : h.2 (o + 8 + 4) = some (.inr (7, sfs (o + 8 + 4) c si sl)) := b1 0 (by omega)
  obtain ⟨ba, bi, bf, Ls, Al, q1, -⟩ := id hRs.2.2.2.2.2.2.2.1
  have o_u : h.2 (o + 43) = some (.inr (1, cufs (o + 43) bi bf)) := q1 0 (by omega)
  have hLC := mulLe (a := L) (b := C) (x := 6) (y := 8) (by have := b5.2.1.2.2.2.1; omega) (by have := b5.2.1.2.2.2.2.2.1; omega)
  by_cases hm : 1 ≤ z ∧ z ≤ 4
  · rw [if_pos hm]
    obtain ⟨k, rfl⟩ : ∃ k : Nat, z = ((k + 1 : Nat) : Int) := ⟨z.toNat - 1, by omega⟩
    obtain ⟨cap', hcp, hsp⟩ := w1_tally (kd := 3) (k := k) hRs hb (by omega) (by omega)
    have hle : smC cap ≤ smC cap' := by
      rcases hcp with e | e
      · rw [e]; exact Nat.le_refl _
      · rw [e]; exact (sm_K (by omega)).2
    have hub : smC cap' ≤ 426168 := by
      rcases hcp with e | e
      · rw [e]; exact cpb_sm hub0
      · rw [e]; exact cpb_sm (cpb_K hub0 (by omega) (knE_len hLC))
    refine ⟨cap', ⟨hle, hub⟩, ?_⟩
    refine sp_wp rfl (lv := [_, _]) rfl (Nat.le_of_ble_eq_true rfl) ?_
    refine w_iload_n dX9_knots_0 rfl rfl ?_
    refine wc_S (Z := mX9_isMany) (As := [_]) (c9_isMany hz) kX9_isMany lX9_291 sX9_isMany dX9_knots_1 rfl rfl rfl (Nat.le_of_ble_eq_true rfl) ⟨Nat.le_of_ble_eq_true rfl, Nat.le_of_ble_eq_true rfl⟩ ?_
    refine w_ifb_eq 29 dX9_knots_4 (by decide) (fun n => absurd hm n) (fun _ => ?_)
    refine w_aload_n dX9_knots_7 rfl rfl ?_
    refine w_getf fX9_43 dX9_knots_8 o_o rfl ?_
    refine w_aload_n dX9_knots_11 rfl rfl ?_
    refine w_getf fX9_19 dX9_knots_12 o_o rfl ?_
    refine w_getf fX9_89 dX9_knots_15 o_h rfl ?_
    refine w_getf fX9_98 dX9_knots_18 o_n rfl ?_
    refine w_iconst dX9_knots_21 ?_
    refine w_iload_n dX9_knots_22 rfl rfl ?_
    refine w_callV (Z := mX1_tally) (As := [_, _, _]) hsp o_u rfl kX1_tally lX9_294 iX1_tally vX1_tally dX9_knots_23 rfl rfl rfl (Nat.le_of_ble_eq_true rfl) ⟨Nat.le_of_ble_eq_true rfl, Nat.le_of_ble_eq_true rfl⟩ (by omega) (by omega) (fun v h' q => ?_)
    obtain ⟨rfl, hF, ow', w1, w2⟩ := q
    refine w_goto 30 dX9_knots_26 (by decide) ?_
    refine x_iret rfl rfl dX9_knots_30 ⟨?_, hF, ow', cd, cb, c, w1, w2⟩
    rw [Int.toNat_natCast, cn_kn (kd := 3) (s := 0) rfl]
  · rw [if_neg hm]
    refine ⟨cap, ⟨Nat.le_refl _, cpb_sm hub0⟩, ?_⟩
    refine sp_wp rfl (lv := [_, _]) rfl (Nat.le_of_ble_eq_true rfl) ?_
    refine w_iload_n dX9_knots_0 rfl rfl ?_
    refine wc_S (Z := mX9_isMany) (As := [_]) (c9_isMany hz) kX9_isMany lX9_291 sX9_isMany dX9_knots_1 rfl rfl rfl (Nat.le_of_ble_eq_true rfl) ⟨Nat.le_of_ble_eq_true rfl, Nat.le_of_ble_eq_true rfl⟩ ?_
    refine w_ifb_eq 29 dX9_knots_4 (by decide) (fun _ => ?_) (fun n => absurd n hm)
    refine w_iconst dX9_knots_29 ?_
    exact x_iret rfl rfl dX9_knots_30 ⟨rfl, FRM.refl, H⟩
set_option maxRecDepth 4000 in
theorem x_stoppers {o : Nat} {h : HP} {cap : Nat → Nat} {A im tx tp : Nat → Int} {f4 f5 f6 : Int} {L R C : Nat} {z : Int} (H : CLS o h cap A im tx tp f4 f5 f6 L R C) (hz : ok32 z) : ∃ cap', (smC cap ≤ smC cap' ∧ smC cap' ≤ 426168) ∧ sp mX9_stoppers [.ref o, .int (zI z)] h (smC cap' - smC cap) (2 * (smC cap' - smC cap)) (XP o h cap' im tx tp f4 f5 f6 L R C (some (.int (zI (if 1 ≤ z ∧ z ≤ 4 then ((cnS (cs A L C) (fun b => hgB (cs A L C) b (L * R)) (L * C) (L * R) 1 z.toNat : Nat) : Int) else -1)))) A) := by
  obtain ⟨ow, cd, cb, c, hRs, hb⟩ := id H
  have hub0 := rest_cpb hRs
  obtain ⟨sa, si, sl, b1, b2, b3, b4, b5⟩ := id hb
  have hX := hRs.vx b1 b3 b4 b5
  obtain ⟨o_o, ⟨nh, o_h⟩, -⟩ := id hX
  have o_n : h.2 (o + 8 + 4) = some (.inr (7, sfs (o + 8 + 4) c si sl)) := b1 0 (by omega)
  obtain ⟨ba, bi, bf, Ls, Al, q1, -⟩ := id hRs.2.2.2.2.2.2.2.1
  have o_u : h.2 (o + 43) = some (.inr (1, cufs (o + 43) bi bf)) := q1 0 (by omega)
  have hLC := mulLe (a := L) (b := C) (x := 6) (y := 8) (by have := b5.2.1.2.2.2.1; omega) (by have := b5.2.1.2.2.2.2.2.1; omega)
  by_cases hm : 1 ≤ z ∧ z ≤ 4
  · rw [if_pos hm]
    obtain ⟨k, rfl⟩ : ∃ k : Nat, z = ((k + 1 : Nat) : Int) := ⟨z.toNat - 1, by omega⟩
    obtain ⟨cap', hcp, hsp⟩ := w1_tally (kd := 1) (k := k) hRs hb (by omega) (by omega)
    have hle : smC cap ≤ smC cap' := by
      rcases hcp with e | e
      · rw [e]; exact Nat.le_refl _
      · rw [e]; exact (sm_K (by omega)).2
    have hub : smC cap' ≤ 426168 := by
      rcases hcp with e | e
      · rw [e]; exact cpb_sm hub0
      · rw [e]; exact cpb_sm (cpb_K hub0 (by omega) (knE_len hLC))
    refine ⟨cap', ⟨hle, hub⟩, ?_⟩
    refine sp_wp rfl (lv := [_, _]) rfl (Nat.le_of_ble_eq_true rfl) ?_
    refine w_iload_n dX9_stoppers_0 rfl rfl ?_
    refine wc_S (Z := mX9_isMany) (As := [_]) (c9_isMany hz) kX9_isMany lX9_291 sX9_isMany dX9_stoppers_1 rfl rfl rfl (Nat.le_of_ble_eq_true rfl) ⟨Nat.le_of_ble_eq_true rfl, Nat.le_of_ble_eq_true rfl⟩ ?_
    refine w_ifb_eq 29 dX9_stoppers_4 (by decide) (fun n => absurd hm n) (fun _ => ?_)
    refine w_aload_n dX9_stoppers_7 rfl rfl ?_
    refine w_getf fX9_43 dX9_stoppers_8 o_o rfl ?_
    refine w_aload_n dX9_stoppers_11 rfl rfl ?_
    refine w_getf fX9_19 dX9_stoppers_12 o_o rfl ?_
    refine w_getf fX9_89 dX9_stoppers_15 o_h rfl ?_
    refine w_getf fX9_98 dX9_stoppers_18 o_n rfl ?_
    refine w_iconst dX9_stoppers_21 ?_
    refine w_iload_n dX9_stoppers_22 rfl rfl ?_
    refine w_callV (Z := mX1_tally) (As := [_, _, _]) hsp o_u rfl kX1_tally lX9_294 iX1_tally vX1_tally dX9_stoppers_23 rfl rfl rfl (Nat.le_of_ble_eq_true rfl) ⟨Nat.le_of_ble_eq_true rfl, Nat.le_of_ble_eq_true rfl⟩ (by omega) (by omega) (fun v h' q => ?_)
    obtain ⟨rfl, hF, ow', w1, w2⟩ := q
    refine w_goto 30 dX9_stoppers_26 (by decide) ?_
    refine x_iret rfl rfl dX9_stoppers_30 ⟨?_, hF, ow', cd, cb, c, w1, w2⟩
    rw [Int.toNat_natCast, cn_kn (kd := 1) (s := 1) rfl]
  · rw [if_neg hm]
    refine ⟨cap, ⟨Nat.le_refl _, cpb_sm hub0⟩, ?_⟩
    refine sp_wp rfl (lv := [_, _]) rfl (Nat.le_of_ble_eq_true rfl) ?_
    refine w_iload_n dX9_stoppers_0 rfl rfl ?_
    refine wc_S (Z := mX9_isMany) (As := [_]) (c9_isMany hz) kX9_isMany lX9_291 sX9_isMany dX9_stoppers_1 rfl rfl rfl (Nat.le_of_ble_eq_true rfl) ⟨Nat.le_of_ble_eq_true rfl, Nat.le_of_ble_eq_true rfl⟩ ?_
    refine w_ifb_eq 29 dX9_stoppers_4 (by decide) (fun _ => ?_) (fun n => absurd n hm)
    refine w_iconst dX9_stoppers_29 ?_
    exact x_iret rfl rfl dX9_stoppers_30 ⟨rfl, FRM.refl, H⟩
set_option maxRecDepth 4000 in
theorem x_words {o : Nat} {h : HP} {cap : Nat → Nat} {A im tx tp : Nat → Int} {f4 f5 f6 : Int} {L R C : Nat} {z : Int} (H : CLS o h cap A im tx tp f4 f5 f6 L R C) (hz : ok32 z) : ∃ cap', (smC cap ≤ smC cap' ∧ smC cap' ≤ 426168) ∧ sp mX9_words [.ref o, .int (zI z)] h (smC cap' - smC cap) (2 * (smC cap' - smC cap)) (XP o h cap' im tx tp f4 f5 f6 L R C (some (.int (zI (if 1 ≤ z ∧ z ≤ 4 then ((cnS (cs A L C) (fun b => hgB (cs A L C) b (L * R)) (L * C) (L * R) 2 z.toNat : Nat) : Int) else -1)))) A) := by
  obtain ⟨ow, cd, cb, c, hRs, hb⟩ := id H
  have hub0 := rest_cpb hRs
  obtain ⟨sa, si, sl, b1, b2, b3, b4, b5⟩ := id hb
  have hX := hRs.vx b1 b3 b4 b5
  obtain ⟨o_o, ⟨nh, o_h⟩, -⟩ := id hX
  have o_n : h.2 (o + 8 + 4) = some (.inr (7, sfs (o + 8 + 4) c si sl)) := b1 0 (by omega)
  obtain ⟨ba, bi, bf, Ls, Al, q1, -⟩ := id hRs.2.2.2.2.2.2.2.1
  have o_u : h.2 (o + 43) = some (.inr (1, cufs (o + 43) bi bf)) := q1 0 (by omega)
  have hLC := mulLe (a := L) (b := C) (x := 6) (y := 8) (by have := b5.2.1.2.2.2.1; omega) (by have := b5.2.1.2.2.2.2.2.1; omega)
  by_cases hm : 1 ≤ z ∧ z ≤ 4
  · rw [if_pos hm]
    obtain ⟨k, rfl⟩ : ∃ k : Nat, z = ((k + 1 : Nat) : Int) := ⟨z.toNat - 1, by omega⟩
    obtain ⟨cap', hcp, hsp⟩ := w1_tally (kd := 0) (k := k) hRs hb (by omega) (by omega)
    have hle : smC cap ≤ smC cap' := by
      rcases hcp with e | e
      · rw [e]; exact Nat.le_refl _
      · rw [e]; exact (sm_K (by omega)).2
    have hub : smC cap' ≤ 426168 := by
      rcases hcp with e | e
      · rw [e]; exact cpb_sm hub0
      · rw [e]; exact cpb_sm (cpb_K hub0 (by omega) (knE_len hLC))
    refine ⟨cap', ⟨hle, hub⟩, ?_⟩
    refine sp_wp rfl (lv := [_, _]) rfl (Nat.le_of_ble_eq_true rfl) ?_
    refine w_iload_n dX9_words_0 rfl rfl ?_
    refine wc_S (Z := mX9_isMany) (As := [_]) (c9_isMany hz) kX9_isMany lX9_291 sX9_isMany dX9_words_1 rfl rfl rfl (Nat.le_of_ble_eq_true rfl) ⟨Nat.le_of_ble_eq_true rfl, Nat.le_of_ble_eq_true rfl⟩ ?_
    refine w_ifb_eq 29 dX9_words_4 (by decide) (fun n => absurd hm n) (fun _ => ?_)
    refine w_aload_n dX9_words_7 rfl rfl ?_
    refine w_getf fX9_43 dX9_words_8 o_o rfl ?_
    refine w_aload_n dX9_words_11 rfl rfl ?_
    refine w_getf fX9_19 dX9_words_12 o_o rfl ?_
    refine w_getf fX9_89 dX9_words_15 o_h rfl ?_
    refine w_getf fX9_98 dX9_words_18 o_n rfl ?_
    refine w_iconst dX9_words_21 ?_
    refine w_iload_n dX9_words_22 rfl rfl ?_
    refine w_callV (Z := mX1_tally) (As := [_, _, _]) hsp o_u rfl kX1_tally lX9_294 iX1_tally vX1_tally dX9_words_23 rfl rfl rfl (Nat.le_of_ble_eq_true rfl) ⟨Nat.le_of_ble_eq_true rfl, Nat.le_of_ble_eq_true rfl⟩ (by omega) (by omega) (fun v h' q => ?_)
    obtain ⟨rfl, hF, ow', w1, w2⟩ := q
    refine w_goto 30 dX9_words_26 (by decide) ?_
    refine x_iret rfl rfl dX9_words_30 ⟨?_, hF, ow', cd, cb, c, w1, w2⟩
    rw [Int.toNat_natCast, cn_kn (kd := 0) (s := 2) rfl]
  · rw [if_neg hm]
    refine ⟨cap, ⟨Nat.le_refl _, cpb_sm hub0⟩, ?_⟩
    refine sp_wp rfl (lv := [_, _]) rfl (Nat.le_of_ble_eq_true rfl) ?_
    refine w_iload_n dX9_words_0 rfl rfl ?_
    refine wc_S (Z := mX9_isMany) (As := [_]) (c9_isMany hz) kX9_isMany lX9_291 sX9_isMany dX9_words_1 rfl rfl rfl (Nat.le_of_ble_eq_true rfl) ⟨Nat.le_of_ble_eq_true rfl, Nat.le_of_ble_eq_true rfl⟩ ?_
    refine w_ifb_eq 29 dX9_words_4 (by decide) (fun _ => ?_) (fun n => absurd n hm)
    refine w_iconst dX9_words_29 ?_
    exact x_iret rfl rfl dX9_words_30 ⟨rfl, FRM.refl, H⟩
set_option maxRecDepth 4000 in
theorem x_erasable {o : Nat} {h : HP} {cap : Nat → Nat} {A im tx tp : Nat → Int} {f4 f5 f6 : Int} {L R C : Nat} {z : Int} (H : CLS o h cap A im tx tp f4 f5 f6 L R C) (hz : ok32 z) : ∃ cap', (smC cap ≤ smC cap' ∧ smC cap' ≤ 426168) ∧ sp mX9_erasable [.ref o, .int (zI z)] h (smC cap' - smC cap) (2 * (smC cap' - smC cap)) (XP o h cap' im tx tp f4 f5 f6 L R C (some (.int (zI (if 1 ≤ z ∧ z ≤ 4 then ((cnS (cs A L C) (fun b => hgB (cs A L C) b (L * R)) (L * C) (L * R) 3 z.toNat : Nat) : Int) else -1)))) A) := by
  obtain ⟨ow, cd, cb, c, hRs, hb⟩ := id H
  have hub0 := rest_cpb hRs
  obtain ⟨sa, si, sl, b1, b2, b3, b4, b5⟩ := id hb
  have hX := hRs.vx b1 b3 b4 b5
  obtain ⟨o_o, ⟨nh, o_h⟩, -⟩ := id hX
  have o_n : h.2 (o + 8 + 4) = some (.inr (7, sfs (o + 8 + 4) c si sl)) := b1 0 (by omega)
  obtain ⟨ba, bi, bf, Ls, Al, q1, -⟩ := id hRs.2.2.2.2.2.2.2.1
  have o_u : h.2 (o + 43) = some (.inr (1, cufs (o + 43) bi bf)) := q1 0 (by omega)
  have hLC := mulLe (a := L) (b := C) (x := 6) (y := 8) (by have := b5.2.1.2.2.2.1; omega) (by have := b5.2.1.2.2.2.2.2.1; omega)
  by_cases hm : 1 ≤ z ∧ z ≤ 4
  · rw [if_pos hm]
    obtain ⟨k, rfl⟩ : ∃ k : Nat, z = ((k + 1 : Nat) : Int) := ⟨z.toNat - 1, by omega⟩
    obtain ⟨cap', hcp, hsp⟩ := w1_tally (kd := 2) (k := k) hRs hb (by omega) (by omega)
    have hle : smC cap ≤ smC cap' := by
      rcases hcp with e | e
      · rw [e]; exact Nat.le_refl _
      · rw [e]; exact (sm_K (by omega)).2
    have hub : smC cap' ≤ 426168 := by
      rcases hcp with e | e
      · rw [e]; exact cpb_sm hub0
      · rw [e]; exact cpb_sm (cpb_K hub0 (by omega) (knE_len hLC))
    refine ⟨cap', ⟨hle, hub⟩, ?_⟩
    refine sp_wp rfl (lv := [_, _]) rfl (Nat.le_of_ble_eq_true rfl) ?_
    refine w_iload_n dX9_erasable_0 rfl rfl ?_
    refine wc_S (Z := mX9_isMany) (As := [_]) (c9_isMany hz) kX9_isMany lX9_291 sX9_isMany dX9_erasable_1 rfl rfl rfl (Nat.le_of_ble_eq_true rfl) ⟨Nat.le_of_ble_eq_true rfl, Nat.le_of_ble_eq_true rfl⟩ ?_
    refine w_ifb_eq 29 dX9_erasable_4 (by decide) (fun n => absurd hm n) (fun _ => ?_)
    refine w_aload_n dX9_erasable_7 rfl rfl ?_
    refine w_getf fX9_43 dX9_erasable_8 o_o rfl ?_
    refine w_aload_n dX9_erasable_11 rfl rfl ?_
    refine w_getf fX9_19 dX9_erasable_12 o_o rfl ?_
    refine w_getf fX9_89 dX9_erasable_15 o_h rfl ?_
    refine w_getf fX9_98 dX9_erasable_18 o_n rfl ?_
    refine w_iconst dX9_erasable_21 ?_
    refine w_iload_n dX9_erasable_22 rfl rfl ?_
    refine w_callV (Z := mX1_tally) (As := [_, _, _]) hsp o_u rfl kX1_tally lX9_294 iX1_tally vX1_tally dX9_erasable_23 rfl rfl rfl (Nat.le_of_ble_eq_true rfl) ⟨Nat.le_of_ble_eq_true rfl, Nat.le_of_ble_eq_true rfl⟩ (by omega) (by omega) (fun v h' q => ?_)
    obtain ⟨rfl, hF, ow', w1, w2⟩ := q
    refine w_goto 30 dX9_erasable_26 (by decide) ?_
    refine x_iret rfl rfl dX9_erasable_30 ⟨?_, hF, ow', cd, cb, c, w1, w2⟩
    rw [Int.toNat_natCast, cn_kn (kd := 2) (s := 3) rfl]
  · rw [if_neg hm]
    refine ⟨cap, ⟨Nat.le_refl _, cpb_sm hub0⟩, ?_⟩
    refine sp_wp rfl (lv := [_, _]) rfl (Nat.le_of_ble_eq_true rfl) ?_
    refine w_iload_n dX9_erasable_0 rfl rfl ?_
    refine wc_S (Z := mX9_isMany) (As := [_]) (c9_isMany hz) kX9_isMany lX9_291 sX9_isMany dX9_erasable_1 rfl rfl rfl (Nat.le_of_ble_eq_true rfl) ⟨Nat.le_of_ble_eq_true rfl, Nat.le_of_ble_eq_true rfl⟩ ?_
    refine w_ifb_eq 29 dX9_erasable_4 (by decide) (fun _ => ?_) (fun n => absurd n hm)
    refine w_iconst dX9_erasable_29 ?_
    exact x_iret rfl rfl dX9_erasable_30 ⟨rfl, FRM.refl, H⟩
set_option maxRecDepth 4000 in
theorem x_least {o : Nat} {h : HP} {cap : Nat → Nat} {A im tx tp : Nat → Int} {f4 f5 f6 : Int} {L R C : Nat} {z x : Int} (H : CLS o h cap A im tx tp f4 f5 f6 L R C) (hz : ok32 z) (hx : ok32 x) : ∃ cap', (smC cap ≤ smC cap' ∧ smC cap' ≤ 426168) ∧ sp mX9_least [.ref o, .int (zI z), .int (zI x)] h (smC cap' - smC cap) (2 * (smC cap' - smC cap)) (XP o h cap' im tx tp f4 f5 f6 L R C (some (.long (lB (leV A L R C z x)))) A) := by
  obtain ⟨ow, cd, cb, c, hRs, hb⟩ := id H
  have hub0 := rest_cpb hRs
  obtain ⟨sa, si, sl, b1, b2, b3, b4, b5⟩ := id hb
  have hX := hRs.vx b1 b3 b4 b5
  obtain ⟨o_o, ⟨nh, o_h⟩, -⟩ := id hX
  have o_n : h.2 (o + 8 + 4) = some (.inr (7, sfs (o + 8 + 4) c si sl)) := b1 0 (by omega)
  obtain ⟨ba, bi, bf, Ls, Al, q1, -⟩ := id hRs.2.2.2.2.2.2.2.1
  have o_u : h.2 (o + 43) = some (.inr (1, cufs (o + 43) bi bf)) := q1 0 (by omega)
  have hLC := mulLe (a := L) (b := C) (x := 6) (y := 8) (by have := b5.2.1.2.2.2.1; omega) (by have := b5.2.1.2.2.2.2.2.1; omega)
  by_cases hm : 1 ≤ z ∧ z ≤ 4
  · obtain ⟨k, rfl⟩ : ∃ k : Nat, z = ((k + 1 : Nat) : Int) := ⟨z.toNat - 1, by omega⟩
    have hsp := w1_least (k := k) hRs hb (by omega) hx
    refine ⟨cpM c (knE A L R C 3 (k + 1)).length (k + 1) cap, ⟨sm_M (by omega), cpb_sm (cpb_M hub0 (by omega) (knE_len hLC))⟩, ?_⟩
    refine sp_wp rfl (lv := [_, _, _]) rfl (Nat.le_of_ble_eq_true rfl) ?_
    refine w_iload_n dX9_least_0 rfl rfl ?_
    refine wc_S (Z := mX9_isMany) (As := [_]) (c9_isMany hz) kX9_isMany lX9_291 sX9_isMany dX9_least_1 rfl rfl rfl (Nat.le_of_ble_eq_true rfl) ⟨Nat.le_of_ble_eq_true rfl, Nat.le_of_ble_eq_true rfl⟩ ?_
    refine w_ifb_eq 29 dX9_least_4 (by decide) (fun n => absurd hm n) (fun _ => ?_)
    refine w_aload_n dX9_least_7 rfl rfl ?_
    refine w_getf fX9_43 dX9_least_8 o_o rfl ?_
    refine w_aload_n dX9_least_11 rfl rfl ?_
    refine w_getf fX9_19 dX9_least_12 o_o rfl ?_
    refine w_getf fX9_89 dX9_least_15 o_h rfl ?_
    refine w_getf fX9_98 dX9_least_18 o_n rfl ?_
    refine w_iload_n dX9_least_21 rfl rfl ?_
    refine w_iload_n dX9_least_22 rfl rfl ?_
    refine w_callV (Z := mX1_leastKnot) (As := [_, _, _]) hsp o_u rfl kX1_leastKnot lX9_298 iX1_leastKnot vX1_leastKnot dX9_least_23 rfl rfl rfl (Nat.le_of_ble_eq_true rfl) ⟨Nat.le_of_ble_eq_true rfl, Nat.le_of_ble_eq_true rfl⟩ (by omega) (by omega) (fun v h' q => ?_)
    obtain ⟨rfl, hF, ow', w1, w2⟩ := q
    refine w_goto 30 dX9_least_26 (by decide) ?_
    refine x_lret rfl dX9_least_30 ⟨?_, hF, ow', cd, cb, c, w1, w2⟩
    rw [lkV_le (by omega)]
  · refine ⟨cap, ⟨Nat.le_refl _, cpb_sm hub0⟩, ?_⟩
    refine sp_wp rfl (lv := [_, _, _]) rfl (Nat.le_of_ble_eq_true rfl) ?_
    refine w_iload_n dX9_least_0 rfl rfl ?_
    refine wc_S (Z := mX9_isMany) (As := [_]) (c9_isMany hz) kX9_isMany lX9_291 sX9_isMany dX9_least_1 rfl rfl rfl (Nat.le_of_ble_eq_true rfl) ⟨Nat.le_of_ble_eq_true rfl, Nat.le_of_ble_eq_true rfl⟩ ?_
    refine w_ifb_eq 29 dX9_least_4 (by decide) (fun _ => ?_) (fun n => absurd n hm)
    refine w_lconst0 dX9_least_29 ?_
    refine x_lret rfl dX9_least_30 ⟨?_, FRM.refl, H⟩
    unfold leV
    rw [if_neg (fun q => hm q.1)]
set_option maxRecDepth 4000 in
theorem x_trapped {o : Nat} {h : HP} {cap : Nat → Nat} {A im tx tp : Nat → Int} {f4 f5 f6 : Int} {L R C : Nat} {z x y : Int} (H : CLS o h cap A im tx tp f4 f5 f6 L R C) (hz : ok32 z) (hx : ok32 x) (hy : ok32 y) : ∃ cap', (smC cap ≤ smC cap' ∧ smC cap' ≤ 426168) ∧ sp mX9_trapped [.ref o, .int (zI z), .int (zI x), .int (zI y)] h (smC cap' - smC cap) (2 * (smC cap' - smC cap)) (XP o h cap' im tx tp f4 f5 f6 L R C (some (.int (zI (if ¬ leV A L R C z x = 0#64 ∧ 1 ≤ y ∧ y ≤ 31 then endV A L R C (leV A L R C z x) y else -1)))) A) := by
  obtain ⟨ow, cd, cb, c, hRs, hb⟩ := id H
  have hub0 := rest_cpb hRs
  obtain ⟨sa, si, sl, b1, b2, b3, b4, b5⟩ := id hb
  have hX := hRs.vx b1 b3 b4 b5
  obtain ⟨o_o, ⟨nh, o_h⟩, -⟩ := id hX
  have o_n : h.2 (o + 8 + 4) = some (.inr (7, sfs (o + 8 + 4) c si sl)) := b1 0 (by omega)
  obtain ⟨ba, bi, bf, Ls, Al, q1, -⟩ := id hRs.2.2.2.2.2.2.2.1
  have o_u : h.2 (o + 43) = some (.inr (1, cufs (o + 43) bi bf)) := q1 0 (by omega)
  have hLC := mulLe (a := L) (b := C) (x := 6) (y := 8) (by have := b5.2.1.2.2.2.1; omega) (by have := b5.2.1.2.2.2.2.2.1; omega)
  by_cases hm : 1 ≤ z ∧ z ≤ 4
  · by_cases hl : 1 ≤ y ∧ y ≤ 31
    · obtain ⟨k, rfl⟩ : ∃ k : Nat, z = ((k + 1 : Nat) : Int) := ⟨z.toNat - 1, by omega⟩
      have hsp := w1_least (k := k) hRs hb (by omega) hx
      rw [lkV_le (by omega)] at hsp
      refine ⟨cpM c (knE A L R C 3 (k + 1)).length (k + 1) cap, ⟨sm_M (by omega), cpb_sm (cpb_M hub0 (by omega) (knE_len hLC))⟩, ?_⟩
      refine sp_wp rfl (lv := [_, _, _, _, _, _]) rfl (Nat.le_of_ble_eq_true rfl) ?_
      refine w_iload_n dX9_trapped_0 rfl rfl ?_
      refine wc_S (Z := mX9_isMany) (As := [_]) (c9_isMany hz) kX9_isMany lX9_291 sX9_isMany dX9_trapped_1 rfl rfl rfl (Nat.le_of_ble_eq_true rfl) ⟨Nat.le_of_ble_eq_true rfl, Nat.le_of_ble_eq_true rfl⟩ ?_
      refine w_ifb_eq 14 dX9_trapped_4 (by decide) (fun n => absurd hm n) (fun _ => ?_)
      refine w_iload_n dX9_trapped_7 rfl rfl ?_
      refine wc_S (Z := mX9_isLevel) (As := [_]) (c9_isLevel hy) kX9_isLevel lX9_137 sX9_isLevel dX9_trapped_8 rfl rfl rfl (Nat.le_of_ble_eq_true rfl) ⟨Nat.le_of_ble_eq_true rfl, Nat.le_of_ble_eq_true rfl⟩ ?_
      refine w_ifb_ne 16 dX9_trapped_11 (by decide) (fun _ => ?_) (fun n => absurd hl n)
      refine w_aload_n dX9_trapped_16 rfl rfl ?_
      refine w_getf fX9_43 dX9_trapped_17 o_o rfl ?_
      refine w_aload_n dX9_trapped_20 rfl rfl ?_
      refine w_getf fX9_19 dX9_trapped_21 o_o rfl ?_
      refine w_getf fX9_89 dX9_trapped_24 o_h rfl ?_
      refine w_getf fX9_98 dX9_trapped_27 o_n rfl ?_
      refine w_iload_n dX9_trapped_30 rfl rfl ?_
      refine w_iload_n dX9_trapped_31 rfl rfl ?_
      refine w_callV (Z := mX1_leastKnot) (As := [_, _, _]) hsp o_u rfl kX1_leastKnot lX9_298 iX1_leastKnot vX1_leastKnot dX9_trapped_32 rfl rfl rfl (Nat.le_of_ble_eq_true rfl) ⟨Nat.le_of_ble_eq_true rfl, Nat.le_of_ble_eq_true rfl⟩ (by omega) (by omega) (fun v h' q => ?_)
      obtain ⟨rfl, hF, ow', w1, w2⟩ := q
      refine w_lstore (lv' := [_, _, _, _, _, _]) dX9_trapped_35 (Nat.le_of_ble_eq_true rfl) rfl rfl ?_
      refine w_lload dX9_trapped_37 rfl ?_
      refine w_lconst0 dX9_trapped_39 ?_
      refine w_lc_ne 48 dX9_trapped_40 dX9_trapped_41 (by decide) (fun hn => ?_) (fun h0 => ?_)
      · refine w_aload_n dX9_trapped_48 rfl rfl ?_
        refine w_lload dX9_trapped_49 rfl ?_
        refine w_iload_n dX9_trapped_51 rfl rfl ?_
        refine w_callV (Z := mX9_trap) (As := [_, _]) (w1_trap w1 w2 hl) w1.2.2.1 rfl kX9_trap lX9_302 iX9_trap vX9_trap dX9_trapped_52 rfl rfl rfl (Nat.le_of_ble_eq_true rfl) ⟨Nat.le_of_ble_eq_true rfl, Nat.le_of_ble_eq_true rfl⟩ (by omega) (by omega) (fun v h2 q => ?_)
        obtain ⟨rfl, hF2, ow2, w3, w4⟩ := q
        refine x_iret rfl rfl dX9_trapped_55 ⟨?_, hF.trans hF2, ow2, cd, cb, c, w3, w4⟩
        rw [if_pos ⟨hn, hl⟩]
      · refine w_iconst dX9_trapped_44 ?_
        refine w_goto 55 dX9_trapped_45 (by decide) ?_
        refine x_iret rfl rfl dX9_trapped_55 ⟨?_, hF, ow', cd, cb, c, w1, w2⟩
        rw [if_neg (fun q => q.1 h0)]
    · refine ⟨cap, ⟨Nat.le_refl _, cpb_sm hub0⟩, ?_⟩
      refine sp_wp rfl (lv := [_, _, _, _, _, _]) rfl (Nat.le_of_ble_eq_true rfl) ?_
      refine w_iload_n dX9_trapped_0 rfl rfl ?_
      refine wc_S (Z := mX9_isMany) (As := [_]) (c9_isMany hz) kX9_isMany lX9_291 sX9_isMany dX9_trapped_1 rfl rfl rfl (Nat.le_of_ble_eq_true rfl) ⟨Nat.le_of_ble_eq_true rfl, Nat.le_of_ble_eq_true rfl⟩ ?_
      refine w_ifb_eq 14 dX9_trapped_4 (by decide) (fun n => absurd hm n) (fun _ => ?_)
      refine w_iload_n dX9_trapped_7 rfl rfl ?_
      refine wc_S (Z := mX9_isLevel) (As := [_]) (c9_isLevel hy) kX9_isLevel lX9_137 sX9_isLevel dX9_trapped_8 rfl rfl rfl (Nat.le_of_ble_eq_true rfl) ⟨Nat.le_of_ble_eq_true rfl, Nat.le_of_ble_eq_true rfl⟩ ?_
      refine w_ifb_ne 16 dX9_trapped_11 (by decide) (fun n => absurd n hl) (fun _ => ?_)
      refine w_iconst dX9_trapped_14 ?_
      refine x_iret rfl rfl dX9_trapped_15 ⟨?_, FRM.refl, H⟩
      rw [if_neg (fun q => hl q.2)]
  · refine ⟨cap, ⟨Nat.le_refl _, cpb_sm hub0⟩, ?_⟩
    refine sp_wp rfl (lv := [_, _, _, _, _, _]) rfl (Nat.le_of_ble_eq_true rfl) ?_
    refine w_iload_n dX9_trapped_0 rfl rfl ?_
    refine wc_S (Z := mX9_isMany) (As := [_]) (c9_isMany hz) kX9_isMany lX9_291 sX9_isMany dX9_trapped_1 rfl rfl rfl (Nat.le_of_ble_eq_true rfl) ⟨Nat.le_of_ble_eq_true rfl, Nat.le_of_ble_eq_true rfl⟩ ?_
    refine w_ifb_eq 14 dX9_trapped_4 (by decide) (fun _ => ?_) (fun n => absurd n hm)
    refine w_iconst dX9_trapped_14 ?_
    refine x_iret rfl rfl dX9_trapped_15 ⟨?_, FRM.refl, H⟩
    rw [if_neg (fun q => q.1 (by unfold leV; rw [if_neg (fun w => hm w.1)]))]
set_option maxRecDepth 4000 in
theorem x_traps {o : Nat} {h : HP} {cap : Nat → Nat} {A im tx tp : Nat → Int} {f4 f5 f6 : Int} {L R C : Nat} {z x : Int} (H : CLS o h cap A im tx tp f4 f5 f6 L R C) (hz : ok32 z) (hx : ok32 x) : ∃ cap', (smC cap ≤ smC cap' ∧ smC cap' ≤ 426168) ∧ sp mX9_traps [.ref o, .int (zI z), .int (zI x)] h (smC cap' - smC cap) (2 * (smC cap' - smC cap)) (XP o h cap' im tx tp f4 f5 f6 L R C (some (.int (zI (if (1 ≤ z ∧ z ≤ 4) ∧ 1 ≤ x ∧ x ≤ 31 then (((trL A L R C z.toNat x).length : Nat) : Int) else -1)))) A) := by
  obtain ⟨ow, cd, cb, c, hRs, hb⟩ := id H
  have hub0 := rest_cpb hRs
  obtain ⟨sa, si, sl, b1, b2, b3, b4, b5⟩ := id hb
  have hX := hRs.vx b1 b3 b4 b5
  obtain ⟨o_o, ⟨nh, o_h⟩, -⟩ := id hX
  have o_n : h.2 (o + 8 + 4) = some (.inr (7, sfs (o + 8 + 4) c si sl)) := b1 0 (by omega)
  obtain ⟨ba, bi, bf, Ls, Al, q1, -⟩ := id hRs.2.2.2.2.2.2.2.1
  have o_u : h.2 (o + 43) = some (.inr (1, cufs (o + 43) bi bf)) := q1 0 (by omega)
  have hLC := mulLe (a := L) (b := C) (x := 6) (y := 8) (by have := b5.2.1.2.2.2.1; omega) (by have := b5.2.1.2.2.2.2.2.1; omega)
  by_cases hm : 1 ≤ z ∧ z ≤ 4
  · by_cases hl : 1 ≤ x ∧ x ≤ 31
    · obtain ⟨k, rfl⟩ : ∃ k : Nat, z = ((k + 1 : Nat) : Int) := ⟨z.toNat - 1, by omega⟩
      rw [if_pos ⟨hm, hl⟩, Int.toNat_natCast]
      obtain ⟨capM, hcM⟩ : ∃ capM, cpM c (knE A L R C 3 (k + 1)).length (k + 1) cap = capM := ⟨_, rfl⟩
      obtain ⟨T, hTd⟩ : ∃ T : BitVec 64 → Bool, (fun y => decide (¬ endV A L R C y x = 0)) = T := ⟨_, rfl⟩
      obtain ⟨E, hE⟩ : ∃ E, knE A L R C 3 (k + 1) = E := ⟨_, rfl⟩
      have htr : trL A L R C (k + 1) x = (E.take 20).filter T := by rw [trL_k, hE, hTd]
      rw [htr]
      have hle : smC cap ≤ smC capM := by rw [← hcM]; exact sm_M (by omega)
      refine ⟨capM, ⟨hle, by rw [← hcM]; exact cpb_sm (cpb_M hub0 (by omega) (knE_len hLC))⟩, ?_⟩
      have key : ∀ i, i ≤ 20 → ∀ (h1 : HP) (cap1 ow1 : Nat → Nat) (w : Value) (rc rs : Nat), REST o h1 cap1 A im tx tp f4 f5 f6 ow1 cd cb → SCB h1 ow1 cd (o + 8 + 4) A L R C c → FRM o h h1 → cpM c E.length (k + 1) cap1 = capM → (1 ≤ i → cap1 = capM) → smC capM - smC cap1 ≤ rc → 2 * (smC capM - smC cap1) ≤ rs → wp mX9_traps 21 [.ref o, .int (zI ((k + 1 : Nat) : Int)), .int (zI x), .int (zI ((((E.take i).filter T).length : Nat) : Int)), .int (zI (i : Int)), w, jk] [] h1 rc rs (XP o h capM im tx tp f4 f5 f6 L R C (some (.int (zI ((((E.take 20).filter T).length : Nat) : Int)))) A) := by
        refine up_ind (fun i hi ih h1 cap1 ow1 w rc rs H1 hb1 hF1 hc1 hc2 hr1 hr2 => ?_)
        obtain ⟨sa1, si1, sl1, e1, e2, e3, e4, e5⟩ := id hb1
        obtain ⟨o_o, ⟨nh1, o_h⟩, -⟩ := id (H1.vx e1 e3 e4 e5)
        have o_n : h1.2 (o + 8 + 4) = some (.inr (7, sfs (o + 8 + 4) c si1 sl1)) := e1 0 (by omega)
        obtain ⟨ba1, bi1, bf1, Ls1, Al1, q11, -⟩ := id H1.2.2.2.2.2.2.2.1
        have o_u : h1.2 (o + 43) = some (.inr (1, cufs (o + 43) bi1 bf1)) := q11 0 (by omega)
        have hsm : smC cap1 ≤ smC capM := by rw [← hc1]; exact sm_M (by omega)
        have next : ∀ (h2 : HP) (ow2 : Nat → Nat) (w : Value) (rc rs m : Nat), i < 20 → REST o h2 capM A im tx tp f4 f5 f6 ow2 cd cb → SCB h2 ow2 cd (o + 8 + 4) A L R C c → FRM o h h2 → ((E.take (i + 1)).filter T).length = m → wp mX9_traps 70 [.ref o, .int (zI ((k + 1 : Nat) : Int)), .int (zI x), .int (zI (m : Int)), .int (zI (i : Int)), w, jk] [] h2 rc rs (XP o h capM im tx tp f4 f5 f6 L R C (some (.int (zI ((((E.take 20).filter T).length : Nat) : Int)))) A) := by
          intro h2 ow2 w2 rc2 rs2 m hi2 H2 hb2 hF2 hm2
          refine w_iinc (lv' := [_, _, _, _, _, _, _]) dX9_traps_70 rfl rfl rfl ?_
          refine w_goto 21 dX9_traps_73 (by decide) ?_
          rw [← hm2]
          exact ih hi2 h2 capM ow2 w2 rc2 rs2 H2 hb2 hF2 (by rw [← hcM, ← hE]; exact cpM_id) (fun _ => rfl) (by omega) (by omega)
        refine w_iload dX9_traps_21 rfl ?_
        refine w_bipush dX9_traps_23 (by decide) ?_
        refine w_icmp_ge 76 dX9_traps_25 (by decide) (by unfold ok32; omega) (by unfold ok32; omega) (fun hc => ?_) (fun hc => ?_)
        · have hi20 : i = 20 := by omega
          subst hi20
          refine w_iload_n dX9_traps_76 rfl rfl ?_
          refine x_iret rfl rfl dX9_traps_77 ⟨rfl, hF1, ow1, cd, cb, c, ?_, hb1⟩
          rw [← hc2 (by omega)]
          exact H1
        · have hsp := w1_least (k := k) (x := (i : Int)) H1 hb1 (by omega) (by unfold ok32; omega)
          rw [hE, hc1] at hsp
          refine w_aload_n dX9_traps_28 rfl rfl ?_
          refine w_getf fX9_43 dX9_traps_29 o_o rfl ?_
          refine w_aload_n dX9_traps_32 rfl rfl ?_
          refine w_getf fX9_19 dX9_traps_33 o_o rfl ?_
          refine w_getf fX9_89 dX9_traps_36 o_h rfl ?_
          refine w_getf fX9_98 dX9_traps_39 o_n rfl ?_
          refine w_iload_n dX9_traps_42 rfl rfl ?_
          refine w_iload dX9_traps_43 rfl ?_
          refine w_callV (Z := mX1_leastKnot) (As := [_, _, _]) hsp o_u rfl kX1_leastKnot lX9_298 iX1_leastKnot vX1_leastKnot dX9_traps_45 rfl rfl rfl (Nat.le_of_ble_eq_true rfl) ⟨Nat.le_of_ble_eq_true rfl, Nat.le_of_ble_eq_true rfl⟩ (by omega) (by omega) (fun v h2 q => ?_)
          obtain ⟨rfl, hF2, ow2, w1, w2⟩ := q
          have hlk := lkV_n (A := A) (R := R) (k := k) (i := i) hLC
          rw [hE] at hlk
          obtain ⟨y, hy⟩ : ∃ y, lkV A L R C (k + 1) (i : Int) = y := ⟨_, rfl⟩
          rw [hy] at hlk ⊢
          refine w_lstore (lv' := [_, _, _, _, _, _, _]) dX9_traps_48 (Nat.le_of_ble_eq_true rfl) rfl rfl ?_
          refine w_lload dX9_traps_50 rfl ?_
          refine w_lconst0 dX9_traps_52 ?_
          refine w_lc_eq 70 dX9_traps_53 dX9_traps_54 (by decide) (fun h0 => ?_) (fun h0 => ?_)
          · have hlen := (hlk.resolve_right (fun q => q.1 h0)).2
            exact next h2 ow2 _ _ _ _ (by omega) w1 w2 (hF1.trans hF2) (by rw [tk_e hlen])
          · have hget := (hlk.resolve_left (fun q => h0 q.1)).2
            have hst := tk_s (T := T) hget
            refine w_aload_n dX9_traps_57 rfl rfl ?_
            refine w_lload dX9_traps_58 rfl ?_
            refine w_iload_n dX9_traps_60 rfl rfl ?_
            refine w_callV (Z := mX9_trap) (As := [_, _]) (w1_trap w1 w2 hl) w1.2.2.1 rfl kX9_trap lX9_302 iX9_trap vX9_trap dX9_traps_61 rfl rfl rfl (Nat.le_of_ble_eq_true rfl) ⟨Nat.le_of_ble_eq_true rfl, Nat.le_of_ble_eq_true rfl⟩ (by omega) (by omega) (fun v h3 q => ?_)
            obtain ⟨rfl, hF3, ow3, w3, w4⟩ := q
            have hrg := endV_rng (A := A) (L := L) (R := R) (C := C) (x := y) (lv := x)
            have hTy : T y = decide (¬ endV A L R C y x = 0) := by rw [← hTd]
            refine w_if_eq 70 dX9_traps_64 (by decide) (by unfold ok32; omega) (fun h4 => ?_) (fun h4 => ?_)
            · exact next h3 ow3 _ _ _ _ (by omega) w3 w4 ((hF1.trans hF2).trans hF3) (by rw [hst, if_neg (by rw [hTy, h4]; decide), List.append_nil])
            · refine w_iinc (lv' := [_, _, _, _, _, _, _]) dX9_traps_67 rfl rfl rfl ?_
              rw [show ((((E.take i).filter T).length : Nat) : Int) + 1 = ((((E.take i).filter T).length + 1 : Nat) : Int) by omega]
              exact next h3 ow3 _ _ _ _ (by omega) w3 w4 ((hF1.trans hF2).trans hF3) (by rw [hst, if_pos (by rw [hTy]; exact decide_eq_true h4), List.length_append]; rfl)
      refine sp_wp rfl (lv := [_, _, _, _, _, _, _]) rfl (Nat.le_of_ble_eq_true rfl) ?_
      refine w_iload_n dX9_traps_0 rfl rfl ?_
      refine wc_S (Z := mX9_isMany) (As := [_]) (c9_isMany hz) kX9_isMany lX9_291 sX9_isMany dX9_traps_1 rfl rfl rfl (Nat.le_of_ble_eq_true rfl) ⟨Nat.le_of_ble_eq_true rfl, Nat.le_of_ble_eq_true rfl⟩ ?_
      refine w_ifb_eq 14 dX9_traps_4 (by decide) (fun n => absurd hm n) (fun _ => ?_)
      refine w_iload_n dX9_traps_7 rfl rfl ?_
      refine wc_S (Z := mX9_isLevel) (As := [_]) (c9_isLevel hx) kX9_isLevel lX9_137 sX9_isLevel dX9_traps_8 rfl rfl rfl (Nat.le_of_ble_eq_true rfl) ⟨Nat.le_of_ble_eq_true rfl, Nat.le_of_ble_eq_true rfl⟩ ?_
      refine w_ifb_ne 16 dX9_traps_11 (by decide) (fun _ => ?_) (fun n => absurd hl n)
      refine w_iconst dX9_traps_16 ?_
      refine w_istore_n (lv' := [_, _, _, _, _, _, _]) dX9_traps_17 rfl (Nat.le_of_ble_eq_true rfl) rfl rfl ?_
      refine w_iconst dX9_traps_18 ?_
      refine w_istore (lv' := [_, _, _, _, _, _, _]) dX9_traps_19 (Nat.le_of_ble_eq_true rfl) rfl rfl ?_
      exact key 0 (by omega) h cap ow _ _ _ hRs hb FRM.refl (by rw [← hE]; exact hcM) (fun q => absurd q (by omega)) (by omega) (by omega)
    · refine ⟨cap, ⟨Nat.le_refl _, cpb_sm hub0⟩, ?_⟩
      refine sp_wp rfl (lv := [_, _, _, _, _, _, _]) rfl (Nat.le_of_ble_eq_true rfl) ?_
      refine w_iload_n dX9_traps_0 rfl rfl ?_
      refine wc_S (Z := mX9_isMany) (As := [_]) (c9_isMany hz) kX9_isMany lX9_291 sX9_isMany dX9_traps_1 rfl rfl rfl (Nat.le_of_ble_eq_true rfl) ⟨Nat.le_of_ble_eq_true rfl, Nat.le_of_ble_eq_true rfl⟩ ?_
      refine w_ifb_eq 14 dX9_traps_4 (by decide) (fun n => absurd hm n) (fun _ => ?_)
      refine w_iload_n dX9_traps_7 rfl rfl ?_
      refine wc_S (Z := mX9_isLevel) (As := [_]) (c9_isLevel hx) kX9_isLevel lX9_137 sX9_isLevel dX9_traps_8 rfl rfl rfl (Nat.le_of_ble_eq_true rfl) ⟨Nat.le_of_ble_eq_true rfl, Nat.le_of_ble_eq_true rfl⟩ ?_
      refine w_ifb_ne 16 dX9_traps_11 (by decide) (fun n => absurd n hl) (fun _ => ?_)
      refine w_iconst dX9_traps_14 ?_
      refine x_iret rfl rfl dX9_traps_15 ⟨?_, FRM.refl, H⟩
      rw [if_neg (fun q => hl q.2)]
  · refine ⟨cap, ⟨Nat.le_refl _, cpb_sm hub0⟩, ?_⟩
    refine sp_wp rfl (lv := [_, _, _, _, _, _, _]) rfl (Nat.le_of_ble_eq_true rfl) ?_
    refine w_iload_n dX9_traps_0 rfl rfl ?_
    refine wc_S (Z := mX9_isMany) (As := [_]) (c9_isMany hz) kX9_isMany lX9_291 sX9_isMany dX9_traps_1 rfl rfl rfl (Nat.le_of_ble_eq_true rfl) ⟨Nat.le_of_ble_eq_true rfl, Nat.le_of_ble_eq_true rfl⟩ ?_
    refine w_ifb_eq 14 dX9_traps_4 (by decide) (fun _ => ?_) (fun n => absurd n hm)
    refine w_iconst dX9_traps_14 ?_
    refine x_iret rfl rfl dX9_traps_15 ⟨?_, FRM.refl, H⟩
    rw [if_neg (fun q => hm q.1)]
set_option maxRecDepth 4000 in
theorem x_weakest {o : Nat} {h : HP} {cap : Nat → Nat} {A im tx tp : Nat → Int} {f4 f5 f6 : Int} {L R C : Nat} {z : Int} (H : CLS o h cap A im tx tp f4 f5 f6 L R C) (hz : ok32 z) : ∃ cap', (smC cap ≤ smC cap' ∧ smC cap' ≤ 426168) ∧ sp mX9_weakest [.ref o, .int (zI z)] h (smC cap' - smC cap) (2 * (smC cap' - smC cap)) (XP o h cap' im tx tp f4 f5 f6 L R C (some (.long (lB (if 1 ≤ z ∧ z ≤ 31 then wkN (fun k => trL A L R C k z) 4 else 0#64)))) A) := by
  obtain ⟨ow, cd, cb, c, hRs, hb⟩ := id H
  have hub0 := rest_cpb hRs
  obtain ⟨sa, si, sl, b1, b2, b3, b4, b5⟩ := id hb
  have hX := hRs.vx b1 b3 b4 b5
  obtain ⟨o_o, ⟨nh, o_h⟩, -⟩ := id hX
  have o_n : h.2 (o + 8 + 4) = some (.inr (7, sfs (o + 8 + 4) c si sl)) := b1 0 (by omega)
  obtain ⟨ba, bi, bf, Ls, Al, q1, -⟩ := id hRs.2.2.2.2.2.2.2.1
  have o_u : h.2 (o + 43) = some (.inr (1, cufs (o + 43) bi bf)) := q1 0 (by omega)
  have hLC := mulLe (a := L) (b := C) (x := 6) (y := 8) (by have := b5.2.1.2.2.2.1; omega) (by have := b5.2.1.2.2.2.2.2.1; omega)
  by_cases hl : 1 ≤ z ∧ z ≤ 31
  · rw [if_pos hl]
    obtain ⟨n, hn⟩ : ∃ n : Nat → Nat, (fun k => (knE A L R C 3 k).length) = n := ⟨_, rfl⟩
    obtain ⟨g, hg⟩ : ∃ g : Nat → List (BitVec 64), (fun k => trL A L R C k z) = g := ⟨_, rfl⟩
    obtain ⟨T, hTd⟩ : ∃ T : BitVec 64 → Bool, (fun y => decide (¬ endV A L R C y z = 0)) = T := ⟨_, rfl⟩
    rw [hg]
    refine ⟨wkC c n g 4 cap, ⟨sm_wk 4 cap (by omega), cpb_sm (cpb_wk (fun K => by rw [← hn]; exact knE_len hLC) 4 cap (by omega) hub0)⟩, ?_⟩
    have key : ∀ d, d ≤ 4 → ∀ (h1 : HP) (cap1 ow1 : Nat → Nat) (u w : Value) (rc rs : Nat), REST o h1 cap1 A im tx tp f4 f5 f6 ow1 cd cb → SCB h1 ow1 cd (o + 8 + 4) A L R C c → FRM o h h1 → prevOk [.ref o, .int (zI z), .int (zI ((5 - d : Nat) : Int)), u, w, jk] 3 = true → smC (wkC c n g d cap1) - smC cap1 ≤ rc → 2 * (smC (wkC c n g d cap1) - smC cap1) ≤ rs → wp mX9_weakest 11 [.ref o, .int (zI z), .int (zI ((5 - d : Nat) : Int)), u, w, jk] [] h1 rc rs (XP o h (wkC c n g d cap1) im tx tp f4 f5 f6 L R C (some (.long (lB (wkN g d)))) A) := by
      intro d
      induction d with
      | zero =>
        intro _ h1 cap1 ow1 u w rc rs H1 hb1 hF1 hpv hr1 hr2
        refine w_iload_n dX9_weakest_11 rfl rfl ?_
        refine w_iconst dX9_weakest_12 ?_
        refine w_icmp_gt 77 dX9_weakest_13 (by decide) (by unfold ok32; omega) (by unfold ok32; omega) (fun hc => ?_) (fun hc => absurd (show ((5 - 0 : Nat) : Int) > 4 by omega) hc)
        refine w_lconst0 dX9_weakest_77 ?_
        exact x_lret rfl dX9_weakest_78 ⟨rfl, hF1, ow1, cd, cb, c, H1, hb1⟩
      | succ d ihd =>
        intro hd h1 cap1 ow1 u w rc rs H1 hb1 hF1 hpv hr1 hr2
        obtain ⟨k, hk⟩ : ∃ k : Nat, 4 - d = k + 1 := ⟨3 - d, by omega⟩
        obtain ⟨E, hE⟩ : ∃ E, knE A L R C 3 (k + 1) = E := ⟨_, rfl⟩
        have hgk : g (4 - d) = (E.take 20).filter T := by rw [← hg, ← hTd, ← hE, hk]; rfl
        have hnk : n (4 - d) = E.length := by rw [← hn, ← hE, hk]
        obtain ⟨capM, hcM⟩ : ∃ capM, cpM c E.length (k + 1) cap1 = capM := ⟨_, rfl⟩
        have hwC : wkC c n g (d + 1) cap1 = if ((E.take 20).filter T).length = 0 then wkC c n g d capM else capM := by
          rw [← hgk, ← hcM, ← hnk, ← hk]; rfl
        have hwN : wkN g (d + 1) = if ((E.take 20).filter T).length = 0 then wkN g d else ((E.take 20).filter T).head?.getD 0#64 := by
          rw [← hgk]; rfl
        rw [hwC] at hr1 hr2 ⊢
        rw [hwN]
        rw [show 5 - (d + 1) = k + 1 by omega] at hpv ⊢
        obtain ⟨FIN, hFI⟩ : ∃ FIN, (if ((E.take 20).filter T).length = 0 then wkC c n g d capM else capM) = FIN := ⟨_, rfl⟩
        obtain ⟨V, hVV⟩ : ∃ V, (if ((E.take 20).filter T).length = 0 then wkN g d else ((E.take 20).filter T).head?.getD 0#64) = V := ⟨_, rfl⟩
        have hMF : smC capM ≤ smC FIN := by
          rw [← hFI]
          split
          · exact sm_wk d _ (by omega)
          · exact Nat.le_refl _
        rw [hFI] at hr1 hr2 ⊢
        rw [hVV]
        have inner : ∀ i, i ≤ 20 → ∀ (h1 : HP) (cap1 ow1 : Nat → Nat) (w : Value) (rc rs : Nat), REST o h1 cap1 A im tx tp f4 f5 f6 ow1 cd cb → SCB h1 ow1 cd (o + 8 + 4) A L R C c → FRM o h h1 → cpM c E.length (k + 1) cap1 = capM → (1 ≤ i → cap1 = capM) → (E.take i).filter T = [] → smC FIN - smC cap1 ≤ rc → 2 * (smC FIN - smC cap1) ≤ rs → wp mX9_weakest 18 [.ref o, .int (zI z), .int (zI ((k + 1 : Nat) : Int)), .int (zI (i : Int)), w, jk] [] h1 rc rs (XP o h FIN im tx tp f4 f5 f6 L R C (some (.long (lB V))) A) := by
          refine up_ind (fun i hi ih h1 cap1 ow1 w rc rs H1 hb1 hF1 hc1 hc2 hnil hr1 hr2 => ?_)
          obtain ⟨sa1, si1, sl1, e1, e2, e3, e4, e5⟩ := id hb1
          obtain ⟨o_o, ⟨nh1, o_h⟩, -⟩ := id (H1.vx e1 e3 e4 e5)
          have o_n : h1.2 (o + 8 + 4) = some (.inr (7, sfs (o + 8 + 4) c si1 sl1)) := e1 0 (by omega)
          obtain ⟨ba1, bi1, bf1, Ls1, Al1, q11, -⟩ := id H1.2.2.2.2.2.2.2.1
          have o_u : h1.2 (o + 43) = some (.inr (1, cufs (o + 43) bi1 bf1)) := q11 0 (by omega)
          have hsm : smC cap1 ≤ smC capM := by rw [← hc1]; exact sm_M (by omega)
          have next : ∀ (h2 : HP) (ow2 : Nat → Nat) (w : Value) (rc rs : Nat), i < 20 → REST o h2 capM A im tx tp f4 f5 f6 ow2 cd cb → SCB h2 ow2 cd (o + 8 + 4) A L R C c → FRM o h h2 → (E.take (i + 1)).filter T = [] → smC FIN - smC capM ≤ rc → 2 * (smC FIN - smC capM) ≤ rs → wp mX9_weakest 65 [.ref o, .int (zI z), .int (zI ((k + 1 : Nat) : Int)), .int (zI (i : Int)), w, jk] [] h2 rc rs (XP o h FIN im tx tp f4 f5 f6 L R C (some (.long (lB V))) A) := by
            intro h2 ow2 w2 rc2 rs2 hi2 H2 hb2 hF2 hm2 hr3 hr4
            refine w_iinc (lv' := [_, _, _, _, _, _]) dX9_weakest_65 rfl rfl rfl ?_
            refine w_goto 18 dX9_weakest_68 (by decide) ?_
            exact ih hi2 h2 capM ow2 w2 rc2 rs2 H2 hb2 hF2 (by rw [← hcM]; exact cpM_id) (fun _ => rfl) hm2 hr3 hr4
          refine w_iload_n dX9_weakest_18 rfl rfl ?_
          refine w_bipush dX9_weakest_19 (by decide) ?_
          refine w_icmp_ge 71 dX9_weakest_21 (by decide) (by unfold ok32; omega) (by unfold ok32; omega) (fun hc => ?_) (fun hc => ?_)
          · have hi20 : i = 20 := by omega
            subst hi20
            have ecap := hc2 (by omega)
            subst ecap
            rw [hnil, List.length_nil, if_pos rfl] at hFI hVV
            subst hFI
            subst hVV
            refine w_iinc (lv' := [_, _, _, _, _, _]) dX9_weakest_71 rfl rfl rfl ?_
            refine w_goto 11 dX9_weakest_74 (by decide) ?_
            rw [show ((k + 1 : Nat) : Int) + 1 = ((5 - d : Nat) : Int) by omega]
            exact ihd (by omega) h1 _ ow1 _ _ rc rs H1 hb1 hF1 rfl hr1 hr2
          · have hsp := w1_least (k := k) (x := (i : Int)) H1 hb1 (by omega) (by unfold ok32; omega)
            rw [hE, hc1] at hsp
            refine w_aload_n dX9_weakest_24 rfl rfl ?_
            refine w_getf fX9_43 dX9_weakest_25 o_o rfl ?_
            refine w_aload_n dX9_weakest_28 rfl rfl ?_
            refine w_getf fX9_19 dX9_weakest_29 o_o rfl ?_
            refine w_getf fX9_89 dX9_weakest_32 o_h rfl ?_
            refine w_getf fX9_98 dX9_weakest_35 o_n rfl ?_
            refine w_iload_n dX9_weakest_38 rfl rfl ?_
            refine w_iload_n dX9_weakest_39 rfl rfl ?_
            refine w_callV (Z := mX1_leastKnot) (As := [_, _, _]) hsp o_u rfl kX1_leastKnot lX9_298 iX1_leastKnot vX1_leastKnot dX9_weakest_40 rfl rfl rfl (Nat.le_of_ble_eq_true rfl) ⟨Nat.le_of_ble_eq_true rfl, Nat.le_of_ble_eq_true rfl⟩ (by omega) (by omega) (fun v h2 q => ?_)
            obtain ⟨rfl, hF2, ow2, w1, w2⟩ := q
            have hlk := lkV_n (A := A) (R := R) (k := k) (i := i) hLC
            rw [hE] at hlk
            obtain ⟨y, hy⟩ : ∃ y, lkV A L R C (k + 1) (i : Int) = y := ⟨_, rfl⟩
            rw [hy] at hlk ⊢
            refine w_lstore (lv' := [_, _, _, _, _, _]) dX9_weakest_43 (Nat.le_of_ble_eq_true rfl) rfl rfl ?_
            refine w_lload dX9_weakest_45 rfl ?_
            refine w_lconst0 dX9_weakest_47 ?_
            refine w_lc_eq 65 dX9_weakest_48 dX9_weakest_49 (by decide) (fun h0 => ?_) (fun h0 => ?_)
            · have hlen := (hlk.resolve_right (fun q => q.1 h0)).2
              exact next h2 ow2 _ _ _ (by omega) w1 w2 (hF1.trans hF2) (by rw [tk_e hlen]; exact hnil) (by omega) (by omega)
            · have hget := (hlk.resolve_left (fun q => h0 q.1)).2
              have hst := tk_s (T := T) hget
              refine w_aload_n dX9_weakest_52 rfl rfl ?_
              refine w_lload dX9_weakest_53 rfl ?_
              refine w_iload_n dX9_weakest_55 rfl rfl ?_
              refine w_callV (Z := mX9_trap) (As := [_, _]) (w1_trap w1 w2 hl) w1.2.2.1 rfl kX9_trap lX9_302 iX9_trap vX9_trap dX9_weakest_56 rfl rfl rfl (Nat.le_of_ble_eq_true rfl) ⟨Nat.le_of_ble_eq_true rfl, Nat.le_of_ble_eq_true rfl⟩ (by omega) (by omega) (fun v h3 q => ?_)
              obtain ⟨rfl, hF3, ow3, w3, w4⟩ := q
              have hrg := endV_rng (A := A) (L := L) (R := R) (C := C) (x := y) (lv := z)
              have hTy : T y = decide (¬ endV A L R C y z = 0) := by rw [← hTd]
              refine w_if_eq 65 dX9_weakest_59 (by decide) (by unfold ok32; omega) (fun h4 => ?_) (fun h4 => ?_)
              · exact next h3 ow3 _ _ _ (by omega) w3 w4 ((hF1.trans hF2).trans hF3) (by rw [hst, if_neg (by rw [hTy, h4]; decide), List.append_nil]; exact hnil) (by omega) (by omega)
              · have hhd := hd_take (m := 20) hget (by rw [hTy]; exact decide_eq_true h4) hnil (by omega)
                have hne := hd_len hhd
                rw [if_neg hne] at hFI hVV
                rw [hhd] at hVV
                subst hFI
                refine w_lload dX9_weakest_62 rfl ?_
                refine x_lret rfl dX9_weakest_64 ⟨?_, (hF1.trans hF2).trans hF3, ow3, cd, cb, c, w3, w4⟩
                rw [← hVV]
                rfl
        refine w_iload_n dX9_weakest_11 rfl rfl ?_
        refine w_iconst dX9_weakest_12 ?_
        refine w_icmp_gt 77 dX9_weakest_13 (by decide) (by unfold ok32; omega) (by unfold ok32; omega) (fun hc => absurd hc (by omega)) (fun hc => ?_)
        refine w_iconst dX9_weakest_16 ?_
        refine w_istore_n (lv' := [_, _, _, _, _, _]) dX9_weakest_17 rfl (Nat.le_of_ble_eq_true rfl) hpv rfl ?_
        exact inner 0 (by omega) h1 cap1 ow1 _ _ _ H1 hb1 hF1 hcM (fun q => absurd q (by omega)) rfl hr1 hr2
    refine sp_wp rfl (lv := [_, _, _, _, _, _]) rfl (Nat.le_of_ble_eq_true rfl) ?_
    refine w_iload_n dX9_weakest_0 rfl rfl ?_
    refine wc_S (Z := mX9_isLevel) (As := [_]) (c9_isLevel hz) kX9_isLevel lX9_137 sX9_isLevel dX9_weakest_1 rfl rfl rfl (Nat.le_of_ble_eq_true rfl) ⟨Nat.le_of_ble_eq_true rfl, Nat.le_of_ble_eq_true rfl⟩ ?_
    refine w_ifb_ne 9 dX9_weakest_4 (by decide) (fun _ => ?_) (fun n => absurd hl n)
    refine w_iconst dX9_weakest_9 ?_
    refine w_istore_n (lv' := [_, _, _, _, _, _]) dX9_weakest_10 rfl (Nat.le_of_ble_eq_true rfl) rfl rfl ?_
    exact key 4 (by omega) h cap ow _ _ _ _ hRs hb FRM.refl rfl (Nat.le_refl _) (Nat.le_refl _)
  · rw [if_neg hl]
    refine ⟨cap, ⟨Nat.le_refl _, cpb_sm hub0⟩, ?_⟩
    refine sp_wp rfl (lv := [_, _, _, _, _, _]) rfl (Nat.le_of_ble_eq_true rfl) ?_
    refine w_iload_n dX9_weakest_0 rfl rfl ?_
    refine wc_S (Z := mX9_isLevel) (As := [_]) (c9_isLevel hz) kX9_isLevel lX9_137 sX9_isLevel dX9_weakest_1 rfl rfl rfl (Nat.le_of_ble_eq_true rfl) ⟨Nat.le_of_ble_eq_true rfl, Nat.le_of_ble_eq_true rfl⟩ ?_
    refine w_ifb_ne 9 dX9_weakest_4 (by decide) (fun n => absurd n hl) (fun _ => ?_)
    refine w_lconst0 dX9_weakest_7 ?_
    exact x_lret rfl dX9_weakest_8 ⟨rfl, FRM.refl, H⟩

