/-! the world: all that the class holds, told by the reference's numbers -/
def CK (ow : Nat → Nat) (h : HP) : Nat → Prop := fun x => x < h.1 ∧ ow x = 1
def SLT (B : Nat → Int) (L R C : Nat) : Prop := ∀ i, i < R → ∀ j, j < C → B (14 + 8 * i + j) < (L : Int)
def BOK (B : Nat → Int) (L R C : Nat) : Prop := (∀ k, 3 ≤ k → k < 433 → loA k ≤ B k ∧ B k ≤ hiA k) ∧ VC B L R C ∧ SCN B R ∧ SLT B L R C
abbrev CBK : Type := (Nat → Int) × Nat × Nat × Nat
noncomputable def knC (q : CBK) (kd k : Nat) : List (BitVec 64) := knE q.1 q.2.1 q.2.2.1 q.2.2.2 kd k
def TLY (h : HP) (ow : Nat → Nat) (c : Nat) (q : CBK) : Prop := ∃ (fs : List Value) (t : Nat) (T : Nat → Int), h.2 c = some (.inr (2, fs)) ∧ fs[14]? = some (.ref t) ∧ (t < h.1 ∧ ow t = 1000 + c) ∧ h.2 t = some (aI 16 T) ∧ ∀ kd k, kd < 4 → k < 4 → T (4 * kd + k) = -1 ∨ T (4 * kd + k) = ((knC q kd (k + 1)).length : Int)
def CODES (h : HP) (ow : Nat → Nat) (cd : Nat → Prop) (cb : Nat → CBK) : Prop := ∀ c, cd c → CDQ (CK ow h) h c (cb c).1 (cb c).2.1 (cb c).2.2.1 (cb c).2.2.2 ∧ TLY h ow c (cb c)
def SCB (h : HP) (ow : Nat → Nat) (cd : Nat → Prop) (a : Nat) (B : Nat → Int) (L R C c : Nat) : Prop := ∃ (sa : Nat → Nat → Int) (si : Nat → Int) (sl : Nat → BitVec 64), SCP h a c sa si sl ∧ cd c ∧ REL sa si sl B L R C ∧ CDQ (CK ow h) h c B L R C ∧ BOK B L R C
def bkA (A : Nat → Int) (i : Nat) : Nat → Int := fun k => A (433 + 430 * (((A 2).toNat + i) % 20) + (k - 3))
def HTX (h : HP) (ow : Nat → Nat) (cd : Nat → Prop) (hd : Nat) (n : Int) (tx : Nat → Int) : Prop := ∃ txs : Nat → Option Nat, h.2 hd = some (.inr (4, hfs hd n)) ∧ h.2 (hd + 3) = some (aR 2 4 txs) ∧ (∀ i x, i < 4 → txs i = some x → cd x) ∧ ∀ i : Nat, (i : Int) < n → i < 4 ∧ ∃ c L R C, txs i = some c ∧ CDQ (CK ow h) h c (txB tx (37 * i)) L R C ∧ SLT (txB tx (37 * i)) L R C
def HPS (h : HP) (ow : Nat → Nat) (cd : Nat → Prop) (hd tg : Nat) (A : Nat → Int) : Prop := ∃ (f : Nat) (sc : Nat → Option Nat), PASTW h ow (hd + 1) tg f (A 1).toNat sc ∧ ∀ i, i < (A 1).toNat → ∃ a c L R C, sc ((f + i) % 20) = some a ∧ SCB h ow cd a (bkA A i) L R C c
def RDR (h : HP) (a : Nat) (tp : Nat → Int) (f4 f5 f6 : Int) : Prop := ∃ (ba : Nat → Nat → Int) (bi : Nat → Int), RDP h a ba bi ∧ ba 1 = tp ∧ bi 1 = f4 ∧ bi 2 = f5 ∧ bi 3 = f6
def mxc (K : Nat) : Nat := 2 * chs 48 K + 16
def lcd (x : Option Nat) : Nat := match x with
  | none => 0
  | some c => c + 1
def CEN (h : HP) (ow : Nat → Nat) (cd : Nat → Prop) (cb : Nat → CBK) (u : Nat) (cap : Nat → Nat) : Prop := ∃ (ba : Nat → Nat → Int) (bi : Nat → Int) (bf : Nat → Nat) (Ls Al : Nat → Option Nat), CUP h u ba bi bf ∧ (ba 10 0 = 0 ∧ ba 11 0 = 0) ∧ h.2 (u + 1) = some (aR 2 5 Ls) ∧ h.2 (u + 2) = some (aR 4 5 Al) ∧ ∀ K, K < 5 → ∃ (la : Nat) (g : Nat → BitVec 64), Al K = some la ∧ (la < h.1 ∧ ow la = 10 + K) ∧ h.2 la = some (aL (cap K) g) ∧ (cap K ≤ mxc K ∧ cap (10 + K) = lcd (Ls K)) ∧ ∀ c, Ls K = some c → 1 ≤ K → cd c ∧ (ba 8 K = ((knC (cb c) 3 K).length : Int) ∧ (knC (cb c) 3 K).length ≤ cap K) ∧ ∀ i x, (knC (cb c) 3 K)[i]? = some x → g i = x
def PUR (A im tx tp : Nat → Int) (f4 f5 f6 : Int) : Prop := (INV A ∧ A 0 ≤ 4 ∧ A 2 < 20) ∧ (INV im ∧ im 2 < 20 ∧ im 0 ≤ A 0) ∧ TXO tx (A 0).toNat ∧ TB tp ∧ (0 ≤ f4 ∧ f4 ≤ 300) ∧ ok32 f5 ∧ ok32 f6
/-- all but the scene that is now -/
def REST (o : Nat) (h : HP) (cap : Nat → Nat) (A im tx tp : Nat → Int) (f4 f5 f6 : Int) (ow : Nat → Nat) (cd : Nat → Prop) (cb : Nat → CBK) : Prop := (o + 72 < h.1 ∧ ∀ x, stZ o x → ow x = 0) ∧ CODES h ow cd cb ∧ h.2 o = some (.inr (8, xfs o)) ∧ (HTX h ow cd (o + 8) (A 0) tx ∧ HPS h ow cd (o + 8) 100 A) ∧ (HTX h ow cd (o + 20) (im 0) tx ∧ HPS h ow cd (o + 20) 200 im ∧ ∃ L R C c, SCB h ow cd (o + 20 + 4) im L R C c) ∧ RDR h (o + 32) tp f4 f5 f6 ∧ (∃ (c : Nat) (sa : Nat → Nat → Int) (si : Nat → Int) (sl : Nat → BitVec 64), SCP h (o + 35) c sa si sl) ∧ CEN h ow cd cb (o + 43) cap ∧ ((∃ (bl : Nat → Nat → BitVec 64) (bi : Nat → Int) (bq : Nat → BitVec 64), AWP h (o + 55) bl bi bq) ∧ ∃ (ba : Nat → Nat → Int) (bi : Nat → Int), FLP h (o + 57) ba bi) ∧ PUR A im tx tp f4 f5 f6
def CLS (o : Nat) (h : HP) (cap : Nat → Nat) (A im tx tp : Nat → Int) (f4 f5 f6 : Int) (L R C : Nat) : Prop := ∃ (ow : Nat → Nat) (cd : Nat → Prop) (cb : Nat → CBK) (c : Nat), REST o h cap A im tx tp f4 f5 f6 ow cd cb ∧ SCB h ow cd (o + 8 + 4) A L R C c
/-! what stays -/
theorem cdq_go {h h' : HP} {ow ow' : Nat → Nat} {c : Nat} {B : Nat → Int} {L R C : Nat} (H : CDQ (CK ow h) h c B L R C) (h1 : h.1 ≤ h'.1) (h2 : ∀ x, x < h.1 → ow' x = ow x) (h3 : ∀ x, x < h.1 → ow x = 1 → h'.2 x = h.2 x) : CDQ (CK ow' h') h' c B L R C := H.mono (fun x hx => ⟨Nat.lt_of_lt_of_le hx.1 h1, (h2 x hx.1).trans hx.2⟩) (fun x hx => h3 x hx.1 hx.2)
theorem cdq_at {h : HP} {P : Nat → Prop} {c : Nat} {B : Nat → Int} {L R C : Nat} (H : CDQ P h c B L R C) : P c := by
  obtain ⟨ad, f7, f8, f10, f9, f11, rk, cr, hV, h6, h7, o_c0, r70, r80, r90, r100, r110, e7, e8, e9, e10, hRD, p0, p7, p8, p9, p10, p11⟩ := H
  exact p0
theorem TLY.go {h h' : HP} {ow ow' : Nat → Nat} {c : Nat} {q : CBK} (H : TLY h ow c q) (hc : c < h.1 ∧ ow c = 1) (h1 : h.1 ≤ h'.1) (h2 : ∀ x, x < h.1 → ow' x = ow x) (h3 : ∀ x, x < h.1 → (ow x = 1 ∨ 1000 ≤ ow x) → h'.2 x = h.2 x) : TLY h' ow' c q := by
  obtain ⟨fs, t, T, a1, a2, a3, a4, a5⟩ := H
  exact ⟨fs, t, T, (h3 c hc.1 (Or.inl hc.2)).trans a1, a2, ⟨by omega, (h2 t a3.1).trans a3.2⟩, (h3 t a3.1 (by omega)).trans a4, a5⟩
theorem CODES.go {h h' : HP} {ow ow' : Nat → Nat} {cd : Nat → Prop} {cb : Nat → CBK} (H : CODES h ow cd cb) (h1 : h.1 ≤ h'.1) (h2 : ∀ x, x < h.1 → ow' x = ow x) (h3 : ∀ x, x < h.1 → (ow x = 1 ∨ 1000 ≤ ow x) → h'.2 x = h.2 x) : CODES h' ow' cd cb := fun c hc => by
  obtain ⟨a1, a2⟩ := H c hc
  exact ⟨cdq_go a1 h1 h2 (fun x hx ho => h3 x hx (Or.inl ho)), a2.go (cdq_at a1) h1 h2 h3⟩
theorem SCB.go {h h' : HP} {ow ow' : Nat → Nat} {cd : Nat → Prop} {a : Nat} {B : Nat → Int} {L R C c : Nat} (H : SCB h ow cd a B L R C c) (h1 : h.1 ≤ h'.1) (h2 : ∀ x, x < h.1 → ow' x = ow x) (h3 : ∀ x, x < h.1 → ow x = 1 → h'.2 x = h.2 x) (h4 : ∀ j, j ≤ 7 → h'.2 (a + j) = h.2 (a + j)) : SCB h' ow' cd a B L R C c := by
  obtain ⟨sa, si, sl, b1, b2, b3, b4, b5⟩ := H
  exact ⟨sa, si, sl, fun j hj => (h4 j hj).trans (b1 j hj), b2, b3, cdq_go b4 h1 h2 h3, b5⟩
theorem SCB.cd {h : HP} {ow : Nat → Nat} {cd cd' : Nat → Prop} {a : Nat} {B : Nat → Int} {L R C c : Nat} (H : SCB h ow cd a B L R C c) (hd : ∀ c, cd c → cd' c) : SCB h ow cd' a B L R C c := by
  obtain ⟨sa, si, sl, b1, b2, b3, b4, b5⟩ := H
  exact ⟨sa, si, sl, b1, hd c b2, b3, b4, b5⟩
theorem HTX.go {h h' : HP} {ow ow' : Nat → Nat} {cd cd' : Nat → Prop} {hd : Nat} {n : Int} {tx : Nat → Int} (H : HTX h ow cd hd n tx) (h1 : h.1 ≤ h'.1) (h2 : ∀ x, x < h.1 → ow' x = ow x) (h3 : ∀ x, x < h.1 → ow x = 1 → h'.2 x = h.2 x) (h4 : h'.2 hd = h.2 hd ∧ h'.2 (hd + 3) = h.2 (hd + 3)) (h5 : ∀ c, cd c → cd' c) : HTX h' ow' cd' hd n tx := by
  obtain ⟨txs, a1, a2, a3, a4⟩ := H
  refine ⟨txs, h4.1.trans a1, h4.2.trans a2, fun i x hi hx => h5 x (a3 i x hi hx), fun i hi => ?_⟩
  obtain ⟨b0, c, L, R, C, b1, b2, b3⟩ := a4 i hi
  exact ⟨b0, c, L, R, C, b1, cdq_go b2 h1 h2 h3, b3⟩
theorem PASTW.go {h h' : HP} {ow ow' : Nat → Nat} {p tg f n : Nat} {sc : Nat → Option Nat} (H : PASTW h ow p tg f n sc) (h1 : h.1 ≤ h'.1) (h2 : ∀ x, x < h.1 → ow' x = ow x) (h3 : ∀ x, x < h.1 → (tg ≤ ow x ∧ ow x < tg + 20) → h'.2 x = h.2 x) (h4 : h'.2 p = h.2 p ∧ h'.2 (p + 1) = h.2 (p + 1)) : PASTW h' ow' p tg f n sc := by
  obtain ⟨a1, a2, a3, a4, ⟨a5, a6, a7⟩, a8⟩ := H
  refine ⟨h4.1.trans a1, h4.2.trans a2, a3, a4, ⟨by omega, by rw [h2 p (by omega)]; exact a6, by rw [h2 (p + 1) a5]; exact a7⟩, fun s hs a ha => ?_⟩
  obtain ⟨b1, b2, c, sa, si, sl, b3⟩ := a8 s hs a ha
  exact ⟨by omega, fun j hj => (h2 _ (by omega)).trans (b2 j hj), c, sa, si, sl, fun j hj => (h3 _ (by omega) (by rw [b2 j hj]; omega)).trans (b3 j hj)⟩
theorem HPS.go {h h' : HP} {ow ow' : Nat → Nat} {cd cd' : Nat → Prop} {hd tg : Nat} {A D : Nat → Int} (H : HPS h ow cd hd tg A) (h1 : h.1 ≤ h'.1) (h2 : ∀ x, x < h.1 → ow' x = ow x) (h3 : ∀ x, x < h.1 → (ow x = 1 ∨ (tg ≤ ow x ∧ ow x < tg + 20)) → h'.2 x = h.2 x) (h4 : h'.2 (hd + 1) = h.2 (hd + 1) ∧ h'.2 (hd + 1 + 1) = h.2 (hd + 1 + 1)) (h5 : ∀ c, cd c → cd' c) (hD1 : D 1 = A 1) (hDb : ∀ i, i < (A 1).toNat → bkA D i = bkA A i) : HPS h' ow' cd' hd tg D := by
  obtain ⟨f, sc, a1, a2⟩ := H
  refine ⟨f, sc, by rw [hD1]; exact a1.go h1 h2 (fun x hx ho => h3 x hx (Or.inr ho)) h4, fun i hi => ?_⟩
  rw [hD1] at hi
  obtain ⟨a, c, L, R, C, b1, b2⟩ := a2 i hi
  have hs := a1.2.2.2.2.2 ((f + i) % 20) (Nat.mod_lt _ (by omega)) a b1
  refine ⟨a, c, L, R, C, b1, ?_⟩
  rw [hDb i hi]
  exact (b2.go h1 h2 (fun x hx ho => h3 x hx (Or.inl ho)) (fun j hj => h3 _ (by omega) (Or.inr (by rw [hs.2.1 j hj]; have := Nat.mod_lt (f + i) (show 0 < 20 by omega); omega)))).cd h5
theorem CEN.go {h h' : HP} {ow ow' : Nat → Nat} {cd cd' : Nat → Prop} {cb cb' : Nat → CBK} {u : Nat} {cap : Nat → Nat} (H : CEN h ow cd cb u cap) (h1 : h.1 ≤ h'.1) (h2 : ∀ x, x < h.1 → ow' x = ow x) (h3 : ∀ x, x < h.1 → (10 ≤ ow x ∧ ow x ≤ 14) → h'.2 x = h.2 x) (h4 : ∀ x, (u ≤ x ∧ x ≤ u + 2) ∨ (u + 8 ≤ x ∧ x ≤ u + 11) → h'.2 x = h.2 x) (h5 : ∀ c, cd c → cd' c ∧ cb' c = cb c) : CEN h' ow' cd' cb' u cap := by
  obtain ⟨ba, bi, bf, Ls, Al, a1, a2, a3, a4, a5⟩ := H
  refine ⟨ba, bi, bf, Ls, Al, fun j hj => (h4 _ (by omega)).trans (a1 j hj), a2, (h4 _ (by omega)).trans a3, (h4 _ (by omega)).trans a4, fun K hK => ?_⟩
  obtain ⟨la, g, b1, b2, b3, b4, b5⟩ := a5 K hK
  refine ⟨la, g, b1, ⟨by omega, (h2 la b2.1).trans b2.2⟩, (h3 la b2.1 (by omega)).trans b3, b4, fun c hc hK1 => ?_⟩
  obtain ⟨d1, d2, d3⟩ := b5 c hc hK1
  obtain ⟨e1, e2⟩ := h5 c d1
  exact ⟨e1, by rw [e2]; exact d2, by rw [e2]; exact d3⟩
/-- the cells that the class's parts beside the scene that is now are made of -/
def rsC (o : Nat) (ow : Nat → Nat) (x : Nat) : Prop := 1 ≤ ow x ∨ x = o ∨ (o + 8 ≤ x ∧ x ≤ o + 11) ∨ (o + 20 ≤ x ∧ x ≤ o + 45) ∨ (o + 51 ≤ x ∧ x ≤ o + 59)
theorem REST.go {o : Nat} {h h' : HP} {cap : Nat → Nat} {A D im tx tp : Nat → Int} {f4 f5 f6 : Int} {ow : Nat → Nat} {cd : Nat → Prop} {cb : Nat → CBK} (H : REST o h cap A im tx tp f4 f5 f6 ow cd cb) (h1 : h.1 = h'.1) (h3 : ∀ x, x < h.1 → rsC o ow x → h'.2 x = h.2 x) (hD : ∀ k, k < 3 ∨ 433 ≤ k → D k = A k) (hI : INV D) : REST o h' cap D im tx tp f4 f5 f6 ow cd cb := by
  obtain ⟨⟨a1, a2⟩, a3, a4, ⟨a5, a6⟩, ⟨a7, a8, L, R, C, c, a9⟩, ⟨ba, bi, r1, r2⟩, ⟨pc, psa, psi, psl, p1⟩, a10, ⟨⟨bl, bi2, bq, w1⟩, fa, fb, w2⟩, ⟨⟨u1', u2, u3⟩, u4, u5⟩⟩ := H
  have hx : ∀ x, x ≤ o + 72 → rsC o ow x → h'.2 x = h.2 x := fun x hx => h3 x (by omega)
  have g1 : h.1 ≤ h'.1 := by omega
  have hb : ∀ i, bkA D i = bkA A i := fun i => funext fun k => by
    unfold bkA
    rw [hD 2 (by omega), hD _ (by omega)]
  refine ⟨⟨by omega, a2⟩, a3.go g1 (fun _ _ => rfl) (fun x hx ho => h3 x hx (Or.inl (by omega))), (hx o (by omega) (Or.inr (Or.inl rfl))).trans a4, ⟨?_, ?_⟩, ⟨?_, ?_, L, R, C, c, ?_⟩, ⟨ba, bi, fun j hj => (hx _ (by omega) (by unfold rsC; omega)).trans (r1 j hj), r2⟩, ⟨pc, psa, psi, psl, fun j hj => (hx _ (by omega) (by unfold rsC; omega)).trans (p1 j hj)⟩, ?_, ⟨⟨bl, bi2, bq, fun j hj => (hx _ (by omega) (by unfold rsC; omega)).trans (w1 j hj)⟩, fa, fb, fun j hj => (hx _ (by omega) (by unfold rsC; omega)).trans (w2 j hj)⟩, ⟨⟨hI, by rw [hD 0 (by omega)]; exact u2, by rw [hD 2 (by omega)]; exact u3⟩, by rw [hD 0 (by omega)]; exact u4, by rw [hD 0 (by omega)]; exact u5⟩⟩
  · rw [hD 0 (by omega)]
    exact a5.go g1 (fun _ _ => rfl) (fun x hx ho => h3 x hx (Or.inl (by omega))) ⟨hx _ (by omega) (by unfold rsC; omega), hx _ (by omega) (by unfold rsC; omega)⟩ (fun _ z => z)
  · exact a6.go g1 (fun _ _ => rfl) (fun x hx ho => h3 x hx (Or.inl (by omega))) ⟨hx _ (by omega) (by unfold rsC; omega), hx _ (by omega) (by unfold rsC; omega)⟩ (fun _ z => z) (hD 1 (by omega)) (fun i _ => hb i)
  · exact a7.go g1 (fun _ _ => rfl) (fun x hx ho => h3 x hx (Or.inl (by omega))) ⟨hx _ (by omega) (by unfold rsC; omega), hx _ (by omega) (by unfold rsC; omega)⟩ (fun _ z => z)
  · exact a8.go g1 (fun _ _ => rfl) (fun x hx ho => h3 x hx (Or.inl (by omega))) ⟨hx _ (by omega) (by unfold rsC; omega), hx _ (by omega) (by unfold rsC; omega)⟩ (fun _ z => z) rfl (fun _ _ => rfl)
  · exact a9.go g1 (fun _ _ => rfl) (fun x hx ho => h3 x hx (Or.inl (by omega))) (fun j hj => hx _ (by omega) (by unfold rsC; omega))
  · exact a10.go g1 (fun _ _ => rfl) (fun x hx ho => h3 x hx (Or.inl (by omega))) (fun x hx2 => hx x (by omega) (by unfold rsC; omega)) (fun c hc => ⟨hc, rfl⟩)
/-- nothing but what a method may touch has changed: the cells ahead of the class and the reference's -/
def FRM (o : Nat) (h h' : HP) : Prop := h.1 ≤ h'.1 ∧ ∀ x, x < o ∨ (o + 60 ≤ x ∧ x ≤ o + 72) → h'.2 x = h.2 x
theorem FRM.refl {o : Nat} {h : HP} : FRM o h h := ⟨Nat.le_refl _, fun _ _ => rfl⟩
theorem FRM.trans {o : Nat} {h h1 h2 : HP} (a : FRM o h h1) (b : FRM o h1 h2) : FRM o h h2 := ⟨Nat.le_trans a.1 b.1, fun x hx => (b.2 x hx).trans (a.2 x hx)⟩
theorem CLS.ref {o : Nat} {h h' : HP} {cap : Nat → Nat} {A im tx tp : Nat → Int} {f4 f5 f6 : Int} {L R C : Nat} (H : CLS o h cap A im tx tp f4 f5 f6 L R C) (h1 : h.1 = h'.1) (h3 : ∀ x, ¬ (o + 60 ≤ x ∧ x ≤ o + 72) → h'.2 x = h.2 x) : CLS o h' cap A im tx tp f4 f5 f6 L R C := by
  obtain ⟨ow, cd, cb, c, a, b⟩ := H
  have hz := a.1.2
  have hn : ∀ x, 1 ≤ ow x → h'.2 x = h.2 x := fun x ho => h3 x (fun z => by have := hz x (by unfold stZ; omega); omega)
  refine ⟨ow, cd, cb, c, a.go h1 (fun x _ hx => ?_) (fun _ _ => rfl) a.2.2.2.2.2.2.2.2.2.1.1, b.go (by omega) (fun _ _ => rfl) (fun x _ ho => hn x (by omega)) (fun j hj => h3 _ (by omega))⟩
  unfold rsC at hx
  rcases hx with w | w | w | w | w
  · exact hn x w
  · exact h3 x (by omega)
  · exact h3 x (by omega)
  · exact h3 x (by omega)
  · exact h3 x (by omega)
theorem CLS.vx {o : Nat} {h : HP} {cap : Nat → Nat} {A im tx tp : Nat → Int} {f4 f5 f6 : Int} {L R C : Nat} (H : CLS o h cap A im tx tp f4 f5 f6 L R C) : ∃ c sa si sl, VX h o c sa si sl A L R C := by
  obtain ⟨ow, cd, cb, c, a, sa, si, sl, b1, b2, b3, b4, b5⟩ := H
  obtain ⟨txs, t1, -⟩ := a.2.2.2.1.1
  obtain ⟨⟨u1', u2, u3⟩, -⟩ := a.2.2.2.2.2.2.2.2.2
  exact ⟨c, sa, si, sl, a.2.2.1, ⟨_, t1⟩, b1, b3, b4.mono (fun x hx z => by have := a.1.2 x z; have := hx.2; omega) (fun _ _ => rfl), u1', b5.2.1, b5.2.2.1, u3⟩

