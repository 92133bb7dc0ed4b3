/-! the census in the world -/
theorem cdp_same {h : HP} {c : Nat} {B B' : Nat → Int} {L R C L' R' C' : Nat} (H : CDP h c B L R C) (H' : CDP h c B' L' R' C') : (L = L' ∧ R = R' ∧ C = C') ∧ ∀ i, i < L * R → cs B L C i = cs B' L C i := by
  obtain ⟨ad, f7, f8, f10, f9, f11, rk, cr, hV, h6, h7, o_c, r7, r8, r9, r10, r11, e7, e8, e9, e10, hRD⟩ := H
  obtain ⟨ad', f7', f8', f10', f9', f11', rk', cr', hV', h6', h7', o_c', r7', r8', r9', r10', r11', e7', e8', e9', e10', hRD'⟩ := H'
  obtain ⟨v1, v2, v3, v4, v5, v6, v7⟩ := hV
  obtain ⟨w1, w2, w3, w4, w5, w6, w7⟩ := hV'
  rw [o_c] at o_c'
  have e := (Prod.mk.inj (Sum.inr.inj (Option.some.inj o_c'))).2
  unfold cfs at e
  injection e with g0 e
  injection e with g1 e
  injection e with g2 e
  injection e with g3 e
  injection e with g4 e
  injection e with g5 e
  injection e with g6 e
  injection e with g7 e
  injection e with g8 e
  injection e with g9 e
  have i0 := congrArg Int32.toInt (Value.int.inj g0)
  have i1 := congrArg Int32.toInt (Value.int.inj g1)
  have i2 := congrArg Int32.toInt (Value.int.inj g2)
  rw [zI_toInt (by unfold ok32; omega), zI_toInt (by unfold ok32; omega)] at i0 i1 i2
  have j9 := Value.ref.inj g9
  rw [j9] at r9
  rw [r9] at r9'
  have q := (Prod.mk.inj (Prod.mk.inj (Sum.inl.inj (Option.some.inj r9'))).2).2
  have q2 := Sum.inl.inj (Sum.inr.inj q)
  have hL : L = L' := by omega
  have hR : R = R' := by omega
  have hC : C = C' := by omega
  subst hL
  subst hR
  subst hC
  refine ⟨⟨rfl, rfl, rfl⟩, fun i hi => ?_⟩
  rw [← e9 i hi, ← e9' i hi]
  have q3 := congrFun q2 i
  exact congrArg Int64.toBitVec q3
theorem hgB_c {c d : Nat → BitVec 64} {b : Nat} : ∀ {m : Nat}, (∀ i, i < m → c i = d i) → hgB c b m = hgB d b m
  | 0, _ => rfl
  | m + 1, h => by
    unfold hgB
    rw [h m (by omega), hgB_c (fun i hi => h i (by omega))]
theorem knE_c {B D : Nat → Int} {L R C kd k : Nat} (hkd : kd < 4) (h : ∀ i, i < L * R → cs B L C i = cs D L C i) : knE B L R C kd k = knE D L R C kd k := by
  unfold knE
  have hM : (fun b => hgB (cs B L C) b (L * R)) = (fun b => hgB (cs D L C) b (L * R)) := funext fun b => hgB_c h
  have hS : ∀ x, srtP (cs B L C) (fun b => hgB (cs B L C) b (L * R)) (L * R) (ksr kd) x ↔ srtP (cs D L C) (fun b => hgB (cs D L C) b (L * R)) (L * R) (ksr kd) x := fun x => by
    rw [hM]
    have hi : ∀ P : Nat → Prop, ((∀ i, i < L * R → ¬ pop (cs B L C i &&& x) = 1) ↔ ∀ i, i < L * R → ¬ pop (cs D L C i &&& x) = 1) := fun _ => ⟨fun z i hi => by rw [← h i hi]; exact z i hi, fun z i hi => by rw [h i hi]; exact z i hi⟩
    rcases (show kd = 0 ∨ kd = 1 ∨ kd = 2 ∨ kd = 3 by omega) with e | e | e | e <;> subst e
    · rw [srt_2, srt_2]
      exact ⟨fun z i hi => by rw [← h i hi]; exact z i hi, fun z i hi => by rw [h i hi]; exact z i hi⟩
    · rw [srt_1, srt_1]
      exact hi (fun _ => True)
    · rw [srt_3, srt_3, plF_iff, plF_iff]
      have hs : ∀ U, STP (cs B L C) (L * R) U ↔ STP (cs D L C) (L * R) U := fun U => ⟨fun z i hi => by rw [← h i hi]; exact z i hi, fun z i hi => by rw [h i hi]; exact z i hi⟩
      exact ⟨fun z U h1 h2 => z U h1 ((hs U).mpr h2), fun z U h1 h2 => z U h1 ((hs U).mp h2)⟩
    · rw [srt_0, srt_0]
  have hQ : knQ B L R C kd = knQ D L R C kd := funext fun x => by
    unfold knQ
    rw [show (srtP (cs B L C) (fun b => hgB (cs B L C) b (L * R)) (L * R) (ksr kd) x) = (srtP (cs D L C) (fun b => hgB (cs D L C) b (L * R)) (L * R) (ksr kd) x) from propext (hS x)]
  rw [hQ]
theorem kn_cb {h : HP} {ow : Nat → Nat} {cd : Nat → Prop} {cb : Nat → CBK} {c kd k : Nat} {A : Nat → Int} {L R C : Nat} (H : CODES h ow cd cb) (hc : cd c) (q : CDQ (CK ow h) h c A L R C) (hkd : kd < 4) : knC (cb c) kd k = knE A L R C kd k := by
  obtain ⟨⟨e1, e2, e3⟩, e4⟩ := cdp_same q.cdp (H c hc).1.cdp
  unfold knC
  rw [← e1, ← e2, ← e3] at *
  exact (knE_c hkd e4).symm
def smC (cap : Nat → Nat) : Nat := cap 1 + cap 2 + cap 3 + cap 4
def cpL (c n K : Nat) (cap : Nat → Nat) : Nat → Nat := u1 (u1 cap K (gcp (cap K) n)) (10 + K) (c + 1)
theorem cpL_K {c n K : Nat} {cap : Nat → Nat} (hK : 1 ≤ K ∧ K ≤ 4) : cpL c n K cap K = gcp (cap K) n := by unfold cpL; rw [u1_n (by omega), u1_s]
theorem cpL_o {c n K j : Nat} {cap : Nat → Nat} (h1 : j ≠ K) (h2 : j ≠ 10 + K) : cpL c n K cap j = cap j := by unfold cpL; rw [u1_n h2, u1_n h1]
theorem smC_L {c n K : Nat} {cap : Nat → Nat} (hK : 1 ≤ K ∧ K ≤ 4) : smC (cpL c n K cap) - smC cap = gcp (cap K) n - cap K ∧ smC cap ≤ smC (cpL c n K cap) := by
  have hg := gcp_m (c := cap K) (n := 0) (d := n)
  rw [Nat.zero_add] at hg
  replace hg : cap K ≤ gcp (cap K) n := hg
  have hk := cpL_K (c := c) (n := n) (cap := cap) hK
  have ho := fun j h1 h2 => cpL_o (c := c) (n := n) (K := K) (j := j) (cap := cap) h1 h2
  unfold smC
  rcases (show K = 1 ∨ K = 2 ∨ K = 3 ∨ K = 4 by omega) with e | e | e | e <;> subst e
  · rw [hk, ho 2 (by omega) (by omega), ho 3 (by omega) (by omega), ho 4 (by omega) (by omega)]; omega
  · rw [hk, ho 1 (by omega) (by omega), ho 3 (by omega) (by omega), ho 4 (by omega) (by omega)]; omega
  · rw [hk, ho 1 (by omega) (by omega), ho 2 (by omega) (by omega), ho 4 (by omega) (by omega)]; omega
  · rw [hk, ho 1 (by omega) (by omega), ho 2 (by omega) (by omega), ho 3 (by omega) (by omega)]; omega
theorem chs_mx {K : Nat} (hK : 1 ≤ K ∧ K ≤ 4) : mxc K ≤ 389176 := by
  obtain ⟨t1, t2, t3, t4, t0⟩ := chs_tab
  unfold mxc
  rcases (show K = 1 ∨ K = 2 ∨ K = 3 ∨ K = 4 by omega) with e | e | e | e <;> subst e <;> omega
theorem knE_len {A : Nat → Int} {L R C kd K : Nat} (hn : L * C ≤ 48) : (knE A L R C kd K).length ≤ chs 48 K := by
  unfold knE
  refine Nat.le_trans (List.length_filter_le _ _) ?_
  unfold cm
  rw [cmb_len]
  have h1 := chs_m (f := L * C - 0) (d := K) (e := 48 - (L * C - 0))
  rw [show L * C - 0 + (48 - (L * C - 0)) = 48 by omega] at h1
  exact h1
/-- what the census changes: its own cells, lists, and one code's tallies -/
theorem REST.cen {o : Nat} {h h' : HP} {cap cap' : Nat → Nat} {A im tx tp : Nat → Int} {f4 f5 f6 : Int} {ow ow' : Nat → Nat} {cd : Nat → Prop} {cb : Nat → CBK} {c : Nat} (H : REST o h cap A im tx tp f4 f5 f6 ow cd cb) (g1 : h.1 ≤ h'.1) (g2 : ∀ x, x < h.1 → ow' x = ow x) (g3 : ∀ x, x < h.1 → ¬ (o + 43 ≤ x ∧ x ≤ o + 45) → ¬ (o + 51 ≤ x ∧ x ≤ o + 54) → ¬ (10 ≤ ow x ∧ ow x ≤ 14) → ow x ≠ 1000 + c → h'.2 x = h.2 x) (hN : CEN h' ow' cd cb (o + 43) cap') (hT : cd c → TLY h' ow' c (cb c)) : REST o h' cap' A im tx tp f4 f5 f6 ow' cd cb := by
  obtain ⟨⟨a1, a2⟩, a3, a4, ⟨a5, a6⟩, ⟨a7, a8, L', R', C', c', a9⟩, ⟨ba, bi, r1, r2⟩, ⟨pc, psa, psi, psl, p1⟩, a10, ⟨⟨bl, bi2, bq, w1⟩, fa, fb, w2⟩, a11⟩ := H
  have st : ∀ x, x ≤ o + 72 → stZ o x → ¬ (o + 43 ≤ x ∧ x ≤ o + 45) → ¬ (o + 51 ≤ x ∧ x ≤ o + 54) → h'.2 x = h.2 x := fun x hx hz n1 n2 => g3 x (by omega) n1 n2 (by rw [a2 x hz]; omega) (by rw [a2 x hz]; omega)
  have oth : ∀ x, x < h.1 → 1 ≤ ow x → ¬ (10 ≤ ow x ∧ ow x ≤ 14) → ow x ≠ 1000 + c → h'.2 x = h.2 x := fun x hx ho => g3 x hx (fun z => by have := a2 x (by unfold stZ; omega); omega) (fun z => by have := a2 x (by unfold stZ; omega); omega)
  have one : ∀ x, x < h.1 → ow x = 1 → h'.2 x = h.2 x := fun x hx ho => oth x hx (by omega) (by omega) (by omega)
  refine ⟨⟨by omega, fun x hx => ?_⟩, fun d hd => ?_, (st o (by omega) (by unfold stZ; omega) (by omega) (by omega)).trans a4, ⟨?_, ?_⟩, ⟨?_, ?_, L', R', C', c', ?_⟩, ⟨ba, bi, fun j hj => (st _ (by omega) (by unfold stZ; omega) (by omega) (by omega)).trans (r1 j hj), r2⟩, ⟨pc, psa, psi, psl, fun j hj => (st _ (by omega) (by unfold stZ; omega) (by omega) (by omega)).trans (p1 j hj)⟩, hN, ⟨⟨bl, bi2, bq, fun j hj => (st _ (by omega) (by unfold stZ; omega) (by omega) (by omega)).trans (w1 j hj)⟩, fa, fb, fun j hj => (st _ (by omega) (by unfold stZ; omega) (by omega) (by omega)).trans (w2 j hj)⟩, a11⟩
  · by_cases hxl : x < h.1
    · rw [g2 x hxl]; exact a2 x hx
    · unfold stZ at hx; omega
  · obtain ⟨d1, d2⟩ := a3 d hd
    refine ⟨cdq_go d1 g1 g2 one, ?_⟩
    by_cases hdc : d = c
    · subst hdc; exact hT hd
    · obtain ⟨fs, t, T, e1, e2, e3, e4, e5⟩ := d2
      have hat := cdq_at d1
      exact ⟨fs, t, T, (one d hat.1 hat.2).trans e1, e2, ⟨by omega, (g2 t e3.1).trans e3.2⟩, (oth t e3.1 (by omega) (by omega) (by omega)).trans e4, e5⟩
  · exact a5.go g1 g2 one ⟨st _ (by omega) (by unfold stZ; omega) (by omega) (by omega), st _ (by omega) (by unfold stZ; omega) (by omega) (by omega)⟩ (fun _ z => z)
  · exact a6.go g1 g2 (fun x hx ho => oth x hx (by omega) (by omega) (by omega)) ⟨st _ (by omega) (by unfold stZ; omega) (by omega) (by omega), st _ (by omega) (by unfold stZ; omega) (by omega) (by omega)⟩ (fun _ z => z) rfl (fun _ _ => rfl)
  · exact a7.go g1 g2 one ⟨st _ (by omega) (by unfold stZ; omega) (by omega) (by omega), st _ (by omega) (by unfold stZ; omega) (by omega) (by omega)⟩ (fun _ z => z)
  · exact a8.go g1 g2 (fun x hx ho => oth x hx (by omega) (by omega) (by omega)) ⟨st _ (by omega) (by unfold stZ; omega) (by omega) (by omega), st _ (by omega) (by unfold stZ; omega) (by omega) (by omega)⟩ (fun _ z => z) rfl (fun _ _ => rfl)
  · exact a9.go g1 g2 one (fun j hj => st _ (by omega) (by unfold stZ; omega) (by omega) (by omega))

