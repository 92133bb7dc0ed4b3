/-! the census in the world: what was counted -/
theorem cdp_tal {h : HP} {P : Nat → Prop} {c : Nat} {B : Nat → Int} {L R C : Nat} (H : CDQ P h c B L R C) {fs : List Value} {t : Nat} (h1 : h.2 c = some (.inr (2, fs))) (h2 : fs[14]? = some (.ref t)) : ∃ (ad : Nat → Nat) (rk : Nat) (cr : BitVec 64), h.2 c = some (.inr (2, cfs L R C (B 6) (B 7) ad rk cr)) ∧ ad 14 = t := by
  obtain ⟨ad, f7, f8, f10, f9, f11, rk, cr, hV, h6, h7, o_c, -⟩ := H
  refine ⟨ad, rk, cr, o_c, ?_⟩
  rw [h1] at o_c
  have e := (Prod.mk.inj (Sum.inr.inj (Option.some.inj o_c))).2
  rw [e] at h2
  exact Value.ref.inj (Option.some.inj h2)
def cpK (kd c n K : Nat) (cap : Nat → Nat) : Nat → Nat := if kd = 3 then cpL c n K cap else cap
theorem cnt_world {o : Nat} {h h2 : HP} {cap : Nat → Nat} {A im tx tp : Nat → Int} {f4 f5 f6 : Int} {ow : Nat → Nat} {cd : Nat → Prop} {cb : Nat → CBK} {c t k kd la L R C : Nat} {T bi2 : Nat → Int} {bf2 : Nat → Nat} {ba g2 : Nat → Nat → Int} {bi : Nat → Int} {bf : Nat → Nat} {Ls Al : Nat → Option Nat} {fs : List Value} {g : Nat → BitVec 64} (H : REST o h cap A im tx tp f4 f5 f6 ow cd cb) (hc : cd c) (hq : CDQ (CK ow h) h c A L R C) (hk : k ≤ 3) (hkd : kd < 4) (c1 : CUP h (o + 43) ba bi bf) (c3 : h.2 (o + 43 + 1) = some (aR 2 5 Ls)) (c4 : h.2 (o + 43 + 2) = some (aR 4 5 Al)) (c5 : ∀ K, K < 5 → ∃ (la : Nat) (g : Nat → BitVec 64), Al K = some la ∧ (la < h.1 ∧ ow la = 10 + K) ∧ h.2 la = some (aL (cap K) g) ∧ (cap K ≤ mxc K ∧ cap (10 + K) = lcd (Ls K)) ∧ ∀ c, Ls K = some c → 1 ≤ K → cd c ∧ (ba 8 K = ((knC (cb c) 3 K).length : Int) ∧ (knC (cb c) 3 K).length ≤ cap K) ∧ ∀ i x, (knC (cb c) 3 K)[i]? = some x → g i = x) (d1 : Al (k + 1) = some la) (d2 : la < h.1 ∧ ow la = 10 + (k + 1)) (y1 : h.2 c = some (.inr (2, fs))) (y2 : fs[14]? = some (.ref t)) (y3 : t < h.1 ∧ ow t = 1000 + c) (y4 : h.2 t = some (aI 16 T)) (y5 : ∀ kd k, kd < 4 → k < 4 → T (4 * kd + k) = -1 ∨ T (4 * kd + k) = ((knC (cb c) kd (k + 1)).length : Int)) (z1 : g2 10 0 = 0) (z2 : g2 11 0 = 0) (z3 : CST (o + 43) c k kd (cap (k + 1)) (if kd = 3 then lsH (o + 43) c (k + 1) Ls h else h) Al la (ba 8) h2 g2 (knE A L R C kd (k + 1))) : ∃ ow', REST o (CUH (o + 43) g2 bi2 bf2 (h2.1, up h2.2 t (aI 16 (u1 T (4 * kd + k) ((knE A L R C kd (k + 1)).length : Int))))) (cpK kd c (knE A L R C kd (k + 1)).length (k + 1) cap) A im tx tp f4 f5 f6 ow' cd cb ∧ (∀ x, x < h.1 → ow' x = ow x) ∧ h.1 ≤ h2.1 ∧ ∀ x, x < h.1 → ¬ (o + 43 ≤ x ∧ x ≤ o + 45) → ¬ (o + 51 ≤ x ∧ x ≤ o + 54) → ¬ (10 ≤ ow x ∧ ow x ≤ 14) → ow x ≠ 1000 + c → (CUH (o + 43) g2 bi2 bf2 (h2.1, up h2.2 t (aI 16 (u1 T (4 * kd + k) ((knE A L R C kd (k + 1)).length : Int))))).2 x = h.2 x := by
  have a2 := H.1.2
  have a1 := H.1.1
  have hV := hq.vc
  obtain ⟨v1, v2, v3, v4, v5, v6, v7⟩ := id hV
  have hLC := mulLe (a := L) (b := C) (x := 6) (y := 8) (by omega) (by omega)
  have hkn : ∀ kd' k', kd' < 4 → knC (cb c) kd' k' = knE A L R C kd' k' := fun kd' k' h1 => kn_cb H.2.1 hc hq h1
  have hlen := knE_len (A := A) (L := L) (R := R) (C := C) (kd := kd) (K := k + 1) (by omega)
  obtain ⟨E, hE⟩ : ∃ E, knE A L R C kd (k + 1) = E := ⟨_, rfl⟩
  rw [hE] at z3 hlen ⊢
  have base : h.1 ≤ h2.1 ∧ ∀ x, x < h.1 → x ≠ o + 43 + 1 → x ≠ o + 43 + 2 → x ≠ la → h2.2 x = h.2 x := by
    by_cases h3 : kd = 3
    · obtain ⟨s8, A1, la1, g1, L1, L2, L3⟩ := z3.1 h3
      rw [if_pos h3] at L2
      exact ⟨L2.1, fun x hx n1 n2 n3 => (L2.2.2.2 x hx n2 n3).trans (up_n n1)⟩
    · have e := (z3.2 h3).2
      rw [if_neg h3] at e
      rw [e]
      exact ⟨Nat.le_refl _, fun _ _ _ _ _ => rfl⟩
  obtain ⟨b1, b2⟩ := base
  have nt : ∀ x, stZ o x → x ≠ t := fun x hx e => by have := a2 x hx; rw [e] at this; omega
  obtain ⟨h3, hh3⟩ : ∃ h3 : HP, CUH (o + 43) g2 bi2 bf2 (h2.1, up h2.2 t (aI 16 (u1 T (4 * kd + k) (E.length : Int)))) = h3 := ⟨_, rfl⟩
  rw [hh3]
  have e31 : h3.1 = h2.1 := by rw [← hh3]; rfl
  have e32 : ∀ x, outC (o + 43) x → x ≠ t → h3.2 x = h2.2 x := fun x n1 n2 => by rw [← hh3]; exact (CUn n1).trans (up_n n2)
  have e3t : h3.2 t = some (aI 16 (u1 T (4 * kd + k) (E.length : Int))) := by
    rw [← hh3]
    exact CUo (fun z => by have := a2 t (by unfold stZ; omega); omega) up_s
  have e3c : CUP h3 (o + 43) g2 bi2 bf2 := by rw [← hh3]; exact CUP.sh
  have frame : ∀ x, x < h.1 → ¬ (o + 43 ≤ x ∧ x ≤ o + 45) → ¬ (o + 51 ≤ x ∧ x ≤ o + 54) → ¬ (10 ≤ ow x ∧ ow x ≤ 14) → ow x ≠ 1000 + c → h3.2 x = h.2 x := fun x hx n1 n2 n3 n4 => by
    rw [e32 x (by unfold outC; omega) (fun e => n4 (by rw [e]; exact y3.2))]
    exact b2 x hx (by omega) (by omega) (fun e => n3 (by rw [e, d2.2]; omega))
  obtain ⟨ow', how⟩ : ∃ ow' : Nat → Nat, ow' = fun x => if x < h.1 then ow x else 10 + (k + 1) := ⟨_, rfl⟩
  have o1 : ∀ x, x < h.1 → ow' x = ow x := fun x hx => by rw [how]; exact if_pos hx
  have o2 : ∀ x, h.1 ≤ x → ow' x = 10 + (k + 1) := fun x hx => by rw [how]; exact if_neg (by omega)
  have g1 : h.1 ≤ h3.1 := by omega
  have lists : ∀ x, x < h.1 → (∃ K, K < 5 ∧ ow x = 10 + K) → x ≠ la → h3.2 x = h.2 x := fun x hx ⟨K, hK, ho⟩ n1 => by
    have ns : ¬ stZ o x := fun z => by have := a2 x z; omega
    rw [e32 x (fun z => ns (by unfold stZ; omega)) (fun e => by rw [e] at ho; omega)]
    exact b2 x hx (fun e => ns (by unfold stZ; omega)) (fun e => ns (by unfold stZ; omega)) n1
  refine ⟨ow', H.cen (c := c) g1 o1 frame ?_ (fun _ => ?_), o1, b1, frame⟩
  · by_cases h3' : kd = 3
    · subst h3'
      obtain ⟨s8, A1, la1, g1', L1, L2, L3⟩ := z3.1 rfl
      rw [if_pos rfl] at L2
      obtain ⟨m1, m2, m3, m4⟩ := L1
      obtain ⟨l1, l2, l3, l4⟩ := L2
      replace l1 : h.1 ≤ h2.1 := l1
      replace l2 : la1 = la ∨ (h.1 ≤ la1 ∧ la1 < h2.1) := l2
      have la1t : la1 ≠ t := fun e => by
        rcases l2 with w | w
        · rw [w] at e; have := d2.2; rw [e] at this; omega
        · omega
      refine ⟨g2, bi2, bf2, u1 Ls (k + 1) (some c), A1, e3c, ⟨z1, z2⟩, ?_, ?_, fun K hK => ?_⟩
      · rw [e32 _ (by unfold outC; omega) (nt _ (by unfold stZ; omega)), l4 _ (by show o + 43 + 1 < h.1; omega) (by omega) (fun e => by have := a2 (o + 43 + 1) (by unfold stZ; omega); rw [e] at this; omega)]
        exact up_s
      · rw [e32 _ (by unfold outC; omega) (nt _ (by unfold stZ; omega))]
        exact m1
      · by_cases hKk : K = k + 1
        · subst hKk
          obtain ⟨-, -, -, -, -, ⟨cp1, -⟩, -⟩ := c5 (k + 1) (by omega)
          refine ⟨la1, g1', m2, ⟨?_, ?_⟩, ?_, ⟨?_, ?_⟩, fun c' hc' _ => ?_⟩
          · rcases l2 with w | w
            · rw [w]; omega
            · omega
          · rcases l2 with w | w
            · rw [w, o1 _ d2.1]; exact d2.2
            · exact o2 _ w.1
          · rw [e32 _ m4 la1t, m3]
            unfold cpK
            rw [if_pos rfl, cpL_K (by omega)]
          · unfold cpK
            rw [if_pos rfl, cpL_K (by omega)]
            exact gcp_max cp1 (by unfold mxc; omega)
          · unfold cpK cpL
            rw [if_pos rfl, u1_s, u1_s]
            rfl
          · rw [u1_s] at hc'
            cases hc'
            rw [hkn 3 (k + 1) (by omega), hE, s8, u1_s]
            refine ⟨hc, ⟨rfl, ?_⟩, L3⟩
            unfold cpK
            rw [if_pos rfl, cpL_K (by omega)]
            exact gcp_ge
        · obtain ⟨lx, gx, x1, x2, x3, x4, x5⟩ := c5 K hK
          have lxn : lx ≠ la := fun e => by have := d2.2; rw [← e] at this; omega
          refine ⟨lx, gx, (l3 K hKk).trans x1, ⟨by omega, (o1 lx x2.1).trans x2.2⟩, ?_, ?_, fun c' hc' hK1 => ?_⟩
          · rw [lists lx x2.1 ⟨K, hK, x2.2⟩ lxn, x3]
            unfold cpK
            rw [if_pos rfl, cpL_o hKk (by omega)]
          · unfold cpK
            rw [if_pos rfl, cpL_o hKk (by omega), cpL_o (by omega) (by omega), u1_n hKk]
            exact x4
          · rw [u1_n hKk] at hc'
            rw [s8, u1_n hKk, show cpK 3 c E.length (k + 1) cap K = cap K from by unfold cpK; rw [if_pos rfl, cpL_o hKk (by omega)]]
            exact x5 c' hc' hK1
    · obtain ⟨s8, e⟩ := z3.2 h3'
      rw [if_neg h3'] at e
      refine ⟨g2, bi2, bf2, Ls, Al, e3c, ⟨z1, z2⟩, ?_, ?_, fun K hK => ?_⟩
      · rw [e32 _ (by unfold outC; omega) (nt _ (by unfold stZ; omega)), e]; exact c3
      · rw [e32 _ (by unfold outC; omega) (nt _ (by unfold stZ; omega)), e]; exact c4
      · obtain ⟨lx, gx, x1, x2, x3, x4, x5⟩ := c5 K hK
        have ns : ¬ stZ o lx := fun z => by have := a2 lx z; omega
        refine ⟨lx, gx, x1, ⟨by omega, (o1 lx x2.1).trans x2.2⟩, ?_, ?_, fun c' hc' hK1 => ?_⟩
        · rw [e32 lx (fun z => ns (by unfold stZ; omega)) (fun e => by have := x2.2; rw [e] at this; omega), e, x3]
          unfold cpK
          rw [if_neg h3']
        · unfold cpK
          rw [if_neg h3']
          exact x4
        · rw [s8, show cpK kd c E.length (k + 1) cap K = cap K from by unfold cpK; rw [if_neg h3']]
          exact x5 c' hc' hK1
  · have hat := cdq_at hq
    refine ⟨fs, t, u1 T (4 * kd + k) (E.length : Int), (frame c hat.1 (fun z => by have := a2 c (by unfold stZ; omega); have := hat.2; omega) (fun z => by have := a2 c (by unfold stZ; omega); have := hat.2; omega) (by have := hat.2; omega) (by have := hat.2; omega)).trans y1, y2, ⟨by omega, (o1 t y3.1).trans y3.2⟩, e3t, fun kd' k' i1 i2 => ?_⟩
    by_cases hs : 4 * kd' + k' = 4 * kd + k
    · have e1 : kd' = kd := by omega
      have e2 : k' = k := by omega
      right
      rw [e1, e2, u1_s, hkn kd (k + 1) hkd, hE]
    · rw [u1_n hs]
      exact y5 kd' k' i1 i2

