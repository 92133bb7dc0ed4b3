/-! arrays copied whole, cast, made of references, stored into -/
theorem w_cloneI {Y : MT} {pc : Nat} {lv st : List Value} {h : HP} {rc rs : Nat} {Φ : Option Value → HP → Prop} {idx a n : Nat} {f : Nat → Int} (w1 : Cond.methodLink Y.1.cls idx ⟨"[I", "clone", "()Ljava/lang/Object;"⟩ ∈ gw) (w2 : Cond.sameMethod "[I" "java/lang/Object" "clone" "()Ljava/lang/Object;" ∈ gw) (w3 : Cond.native ⟨"java/lang/Object", "clone", "()Ljava/lang/Object;"⟩ ∈ gw) (w4 : Cond.instanceMethod ⟨"java/lang/Object", "clone", "()Ljava/lang/Object;"⟩ ∈ gw) (w5 : Cond.selects "[I" ⟨"[I", "clone", "()Ljava/lang/Object;"⟩ ⟨"java/lang/Object", "clone", "()Ljava/lang/Object;"⟩ ∈ gw) (w6 : Cond.castable "[I" "java/lang/Cloneable" ∈ lw_tbl) (ha : h.2 a = some (aI n f)) (hlen : lv.length = Y.2.2.1) (hfr : 1 ≤ Y.2.2.2.2.1) (hlo : (st.map fun v => v.category).sum + 14 ≤ Y.2.2.2.2.2) (h1 : 1 ≤ rc) (h2 : n ≤ rs) (hd : decode Y.2.1 pc = .ok (.invokevirtual idx, 3)) (kk : wp Y (pc + 3) lv (.ref h.1 :: st) (h.1 + 1, up h.2 h.1 (aI n f)) (rc - 1) (rs - n) Φ) : wp Y pc lv (.ref a :: st) h rc rs Φ := by
  intro p l e R s m args below meth c H locs cells slots mc ms G b ls Q C hP hS hb hc hs hR hl HR
  have hcl : va_Nw (.castable "[I" "java/lang/Cloneable") s := (C.2.2.2.2.2.2.2.1.2.1 : NW s) _ w6 rfl
  have hK := cx_K C
  have hnm : s.vm.findClass "[I" = some (G.2.1 0) := (hK.2 0 _ rfl).2
  have hcE : H[a]? = some (vp_cell (G.2.1 0) (n, .inl fun k => zI (f k))) := (hP.2 a _ ha).2
  obtain ⟨c0, t0, f1, f2, f3⟩ := Cond.castable_spec (va_Nw.use (A := args) rfl hcl)
  cases hnm.symm.trans f1
  intro T hT X
  have hcT : T.heap[a]? = some (vp_cell (G.2.1 0) (n, .inl fun k => zI (f k))) := by rw [hT]; exact hcE
  obtain ⟨-, kA, hkA, comp, hkind⟩ := State.isArrayOf_alike X.warmed.alike ((hK.2 0 _ rfl).1 0 (fun _ => .null))
  obtain ⟨-, kS, hkS, compS, hkindS⟩ := (hK.2 0 _ rfl).1 0 (fun _ => .null)
  have hsz : (vp_cell (G.2.1 0) (n, .inl fun k => zI (f k))).slots.size = n := arrV_size _ _ _
  have hcellE : ({ cls := (vp_cell (G.2.1 0) (n, .inl fun k => zI (f k))).cls, slots := (vp_cell (G.2.1 0) (n, .inl fun k => zI (f k))).slots } : Cell) = vp_cell (G.2.1 0) (n, .inl fun k => zI (f k)) := rfl
  obtain ⟨vm', X', st'⟩ := X.cloneArray C.1 C.2.2.2.1 (C.2.2.2.2.1 _ w1) (C.2.2.2.2.1 _ w2) (C.2.2.2.2.1 _ w3) (C.2.2.2.2.1 _ w4) (C.2.2.2.2.1 _ w5) (a := a) (cell := vp_cell (G.2.1 0) (n, .inl fun k => zI (f k))) hcT (fun k h => by cases h) (fun h => by cases h) hnm f2 f3
    (fun i v hv => by
      have hk' : T.vm.classes[G.2.1 0]? = some kA := hkA
      have hfit : fits .int v = true := va_fit (ty := .int) (fun i _ => rfl) i v hv
      show T.fitsSlot (G.2.1 0) .none i v = true
      simpa [State.fitsSlot, State.slotType?, hk', hkind] using hfit)
    (g := F0 m pc ls (.ref a :: st)) rfl (by rw [hml_of C.2.2.1 hl hlen]) rfl (by rw [C.2.1]; exact hd) (Nat.le_trans hfr hR.2.2.1) (by show 2 * 0 + _ + 14 ≤ _; have := hR.2.2.2; omega) (by have := hR.1; omega) (by rw [hsz]; have := hR.2.1; omega) (hloader := Vm.clonesLoader_of_array hkS hkindS)
  rw [hcellE, hsz] at X'
  have hpush : ((T.setVm vm').pushCell (vp_cell (G.2.1 0) (n, .inl fun k => zI (f k)))).heap = H.push (vp_cell (G.2.1 0) (n, .inl fun k => zI (f k))) := by rw [← hT]; rfl
  have z1 : (H.push (vp_cell (G.2.1 0) (n, .inl fun k => zI (f k)))).size = h.1 + 1 := by rw [Array.size_push, hP.1]
  have e1 : (H.push (vp_cell (G.2.1 0) (n, .inl fun k => zI (f k))))[h.1]? = some (vp_cell (G.2.1 0) (n, .inl fun k => zI (f k))) := by rw [← hP.1, Array.getElem?_push_size]
  have o1 : ∀ q : Nat, q < H.size → (H.push (vp_cell (G.2.1 0) (n, .inl fun k => zI (f k))))[q]? = H[q]? := fun q hq => by rw [Array.getElem?_push, if_neg (Nat.ne_of_lt hq)]
  obtain ⟨t, b1, b2⟩ := kk p l e R s m args below meth c _ locs (cells + 1) (slots + n) mc ms G b ls Q C (hP.push (e := aI n f) (show (H.push _)[h.1]? = some (vp_cell _ _) from e1) (by rw [← hP.1]; exact Nat.le_trans hb hS.1) z1 (fun q hq => o1 q (by rw [hP.1]; exact hq))) (hS.new (by rw [z1, hP.1]; omega) o1) hb (by omega) (by omega) hR hl HR _ hpush X'
  refine ⟨t, st' t ?_, b2⟩
  rw [hcellE, hT, hP.1]
  exact b1
theorem w_castI {Y : MT} {pc : Nat} {lv st : List Value} {h : HP} {rc rs : Nat} {Φ : Option Value → HP → Prop} {idx a n : Nat} {f : Nat → Int} (w1 : Cond.classLink Y.1.cls idx "[I" ∈ gw) (ha : h.2 a = some (aI n f)) (hd : decode Y.2.1 pc = .ok (.checkcast idx, 3)) (kk : wp Y (pc + 3) lv (.ref a :: st) h rc rs Φ) : wp Y pc lv (.ref a :: st) h rc rs Φ := by
  intro p l e R s m args below meth c H locs cells slots mc ms G b ls Q C hP hS hb hc hs hR hl HR
  have hnm : s.vm.findClass "[I" = some (G.2.1 0) := ((cx_K C).2 0 _ rfl).2
  exact va_castA C.1 C.2.1 C.2.2.2.1 (cx_w C _ w1) (hP.one ha) 0 (x := (n, .inl fun k => zI (f k))) rfl hnm hd (kk p l e R s m args below meth c H locs cells slots mc ms G b ls Q C hP hS hb hc hs hR hl HR)
theorem w_cloneL {Y : MT} {pc : Nat} {lv st : List Value} {h : HP} {rc rs : Nat} {Φ : Option Value → HP → Prop} {idx a n : Nat} {f : Nat → BitVec 64} (w1 : Cond.methodLink Y.1.cls idx ⟨"[J", "clone", "()Ljava/lang/Object;"⟩ ∈ gw) (w2 : Cond.sameMethod "[J" "java/lang/Object" "clone" "()Ljava/lang/Object;" ∈ gw) (w3 : Cond.native ⟨"java/lang/Object", "clone", "()Ljava/lang/Object;"⟩ ∈ gw) (w4 : Cond.instanceMethod ⟨"java/lang/Object", "clone", "()Ljava/lang/Object;"⟩ ∈ gw) (w5 : Cond.selects "[J" ⟨"[J", "clone", "()Ljava/lang/Object;"⟩ ⟨"java/lang/Object", "clone", "()Ljava/lang/Object;"⟩ ∈ gw) (w6 : Cond.castable "[J" "java/lang/Cloneable" ∈ lw_tbl) (ha : h.2 a = some (aL n f)) (hlen : lv.length = Y.2.2.1) (hfr : 1 ≤ Y.2.2.2.2.1) (hlo : (st.map fun v => v.category).sum + 14 ≤ Y.2.2.2.2.2) (h1 : 1 ≤ rc) (h2 : n ≤ rs) (hd : decode Y.2.1 pc = .ok (.invokevirtual idx, 3)) (kk : wp Y (pc + 3) lv (.ref h.1 :: st) (h.1 + 1, up h.2 h.1 (aL n f)) (rc - 1) (rs - n) Φ) : wp Y pc lv (.ref a :: st) h rc rs Φ := by
  intro p l e R s m args below meth c H locs cells slots mc ms G b ls Q C hP hS hb hc hs hR hl HR
  have hcl : va_Nw (.castable "[J" "java/lang/Cloneable") s := (C.2.2.2.2.2.2.2.1.2.1 : NW s) _ w6 rfl
  have hK := cx_K C
  have hnm : s.vm.findClass "[J" = some (G.2.1 1) := (hK.2 1 _ rfl).2
  have hcE : H[a]? = some (vp_cell (G.2.1 1) (n, .inr (.inl fun k => lB (f k)))) := (hP.2 a _ ha).2
  obtain ⟨c0, t0, f1, f2, f3⟩ := Cond.castable_spec (va_Nw.use (A := args) rfl hcl)
  cases hnm.symm.trans f1
  intro T hT X
  have hcT : T.heap[a]? = some (vp_cell (G.2.1 1) (n, .inr (.inl fun k => lB (f k)))) := by rw [hT]; exact hcE
  obtain ⟨-, kA, hkA, comp, hkind⟩ := State.isArrayOf_alike X.warmed.alike ((hK.2 1 _ rfl).1 0 (fun _ => .null))
  obtain ⟨-, kS, hkS, compS, hkindS⟩ := (hK.2 1 _ rfl).1 0 (fun _ => .null)
  have hsz : (vp_cell (G.2.1 1) (n, .inr (.inl fun k => lB (f k)))).slots.size = n := arrV_size _ _ _
  have hcellE : ({ cls := (vp_cell (G.2.1 1) (n, .inr (.inl fun k => lB (f k)))).cls, slots := (vp_cell (G.2.1 1) (n, .inr (.inl fun k => lB (f k)))).slots } : Cell) = vp_cell (G.2.1 1) (n, .inr (.inl fun k => lB (f k))) := rfl
  obtain ⟨vm', X', st'⟩ := X.cloneArray C.1 C.2.2.2.1 (C.2.2.2.2.1 _ w1) (C.2.2.2.2.1 _ w2) (C.2.2.2.2.1 _ w3) (C.2.2.2.2.1 _ w4) (C.2.2.2.2.1 _ w5) (a := a) (cell := vp_cell (G.2.1 1) (n, .inr (.inl fun k => lB (f k)))) hcT (fun k h => by cases h) (fun h => by cases h) hnm f2 f3
    (fun i v hv => by
      have hk' : T.vm.classes[G.2.1 1]? = some kA := hkA
      have hfit : fits .long v = true := va_fit (ty := .long) (fun i _ => rfl) i v hv
      show T.fitsSlot (G.2.1 1) .none i v = true
      simpa [State.fitsSlot, State.slotType?, hk', hkind] using hfit)
    (g := F0 m pc ls (.ref a :: st)) rfl (by rw [hml_of C.2.2.1 hl hlen]) rfl (by rw [C.2.1]; exact hd) (Nat.le_trans hfr hR.2.2.1) (by show 2 * 0 + _ + 14 ≤ _; have := hR.2.2.2; omega) (by have := hR.1; omega) (by rw [hsz]; have := hR.2.1; omega) (hloader := Vm.clonesLoader_of_array hkS hkindS)
  rw [hcellE, hsz] at X'
  have hpush : ((T.setVm vm').pushCell (vp_cell (G.2.1 1) (n, .inr (.inl fun k => lB (f k))))).heap = H.push (vp_cell (G.2.1 1) (n, .inr (.inl fun k => lB (f k)))) := by rw [← hT]; rfl
  have z1 : (H.push (vp_cell (G.2.1 1) (n, .inr (.inl fun k => lB (f k))))).size = h.1 + 1 := by rw [Array.size_push, hP.1]
  have e1 : (H.push (vp_cell (G.2.1 1) (n, .inr (.inl fun k => lB (f k)))))[h.1]? = some (vp_cell (G.2.1 1) (n, .inr (.inl fun k => lB (f k)))) := by rw [← hP.1, Array.getElem?_push_size]
  have o1 : ∀ q : Nat, q < H.size → (H.push (vp_cell (G.2.1 1) (n, .inr (.inl fun k => lB (f k)))))[q]? = H[q]? := fun q hq => by rw [Array.getElem?_push, if_neg (Nat.ne_of_lt hq)]
  obtain ⟨t, b1, b2⟩ := kk p l e R s m args below meth c _ locs (cells + 1) (slots + n) mc ms G b ls Q C (hP.push (e := aL n f) (show (H.push _)[h.1]? = some (vp_cell _ _) from e1) (by rw [← hP.1]; exact Nat.le_trans hb hS.1) z1 (fun q hq => o1 q (by rw [hP.1]; exact hq))) (hS.new (by rw [z1, hP.1]; omega) o1) hb (by omega) (by omega) hR hl HR _ hpush X'
  refine ⟨t, st' t ?_, b2⟩
  rw [hcellE, hT, hP.1]
  exact b1
theorem w_castL {Y : MT} {pc : Nat} {lv st : List Value} {h : HP} {rc rs : Nat} {Φ : Option Value → HP → Prop} {idx a n : Nat} {f : Nat → BitVec 64} (w1 : Cond.classLink Y.1.cls idx "[J" ∈ gw) (ha : h.2 a = some (aL n f)) (hd : decode Y.2.1 pc = .ok (.checkcast idx, 3)) (kk : wp Y (pc + 3) lv (.ref a :: st) h rc rs Φ) : wp Y pc lv (.ref a :: st) h rc rs Φ := by
  intro p l e R s m args below meth c H locs cells slots mc ms G b ls Q C hP hS hb hc hs hR hl HR
  have hnm : s.vm.findClass "[J" = some (G.2.1 1) := ((cx_K C).2 1 _ rfl).2
  exact va_castA C.1 C.2.1 C.2.2.2.1 (cx_w C _ w1) (hP.one ha) 0 (x := (n, .inr (.inl fun k => lB (f k)))) rfl hnm hd (kk p l e R s m args below meth c H locs cells slots mc ms G b ls Q C hP hS hb hc hs hR hl HR)
theorem w_anew2 {Y : MT} {pc : Nat} {lv st : List Value} {h : HP} {rc rs : Nat} {Φ : Option Value → HP → Prop} {idx : Nat} {z : Int} (n : Nat) (hk : z = (n : Int)) (hn : n ≤ 100000) (w1 : Cond.classLink Y.1.cls idx RX2 ∈ gw) (w2 : Cond.arrayOver (.object RX2) ∈ lw_tbl) (h1 : 1 ≤ rc) (h2 : n ≤ rs) (hd : decode Y.2.1 pc = .ok (.anewarray idx, 3)) (kk : wp Y (pc + 3) lv (.ref h.1 :: st) (h.1 + 1, up h.2 h.1 (aR 2 n (fun _ => none))) (rc - 1) (rs - n) Φ) : wp Y pc lv (.int (zI z) :: st) h rc rs Φ := by
  subst hk
  have ho : ok32 (n : Int) := ⟨by omega, by omega⟩
  have hN : (zI (n : Int)).toNatClampNeg = n := by rw [zI_clamp ho]; omega
  have hn0 : ¬ zI (n : Int) < 0 := fun q => by have := (zI_lt ho ok32_0).mp q; omega
  intro p l e R s m args below meth c H locs cells slots mc ms G b ls Q C hP hS hb hc hs hR hl HR
  have hov : (Cond.arrayOver (.object RX2)).before args s = true := ((C.2.2.2.2.2.2.2.1.2.1 : NW s) _ w2 rfl)
  refine W.anew C.1 C.2.1 C.2.2.2.1 (cx_w C _ w1) hov rfl hd rfl hn0 (by rw [hN]; omega) (by have := hR.1; omega) (by rw [hN]; have := hR.2.1; omega) fun cA kA comp f1 f2 f3 f4 => ?_
  rw [hN]
  obtain ⟨kA', comp', g1, g2, g3, g4⟩ : va_RA s (G.2.1 2) (.object RX2) := ((cx_K C).2 2 _ rfl).2
  have hcA : cA = G.2.1 2 := Option.some.inj (f1.symm.trans g4)
  subst hcA
  have z1 : (H.push ({ cls := G.2.1 2, slots := Array.replicate n .null, vm := .none } : Cell)).size = h.1 + 1 := by rw [Array.size_push, hP.1]
  have e1 : (H.push ({ cls := G.2.1 2, slots := Array.replicate n .null, vm := .none } : Cell))[h.1]? = some (arrV (G.2.1 2) n (fun _ => .null)) := by rw [← hP.1, Array.getElem?_push_size, ← arrV_new]
  have o1 : ∀ q : Nat, q < H.size → (H.push ({ cls := G.2.1 2, slots := Array.replicate n .null, vm := .none } : Cell))[q]? = H[q]? := fun q hq => by rw [Array.getElem?_push, if_neg (Nat.ne_of_lt hq)]
  have := kk p l e R s m args below meth c _ locs (cells + 1) (slots + n) mc ms G b ls Q C (hP.push (e := aR 2 n (fun _ => none)) (show (H.push _)[h.1]? = some (vp_cell _ _) from e1) (by rw [← hP.1]; exact Nat.le_trans hb hS.1) z1 (fun q hq => o1 q (by rw [hP.1]; exact hq))) (hS.new (by rw [z1, hP.1]; omega) o1) hb (by omega) (by omega) hR hl HR
  rw [← hP.1] at this
  exact this
theorem w_aast2 {Y : MT} {pc : Nat} {lv st : List Value} {h : HP} {rc rs : Nat} {Φ : Option Value → HP → Prop} {a v n : Nat} {A : Nat → Option Nat} {fs : List Value} {z : Int} (k : Nat) (ha : h.2 a = some (aR 2 n A)) (hv : h.2 v = some (.inr (2, fs))) (hk : z = (k : Int)) (hlt : k < n) (hn : n ≤ 2147483648) (hd : decode Y.2.1 pc = .ok (.aastore, 1)) (kk : wp Y (pc + 1) lv st (h.1, up h.2 a (aR 2 n (u1 A k (some v)))) rc rs Φ) : wp Y pc lv (.ref v :: .int (zI z) :: .ref a :: st) h rc rs Φ := by
  subst hk
  obtain ⟨i1, i2⟩ := zI_in hlt hn
  intro p l e R s m args below meth c H locs cells slots mc ms G b ls Q C hP hS hb hc hs hR hl HR
  have hK := cx_K C
  have hc1 : H[a]? = some (arrV (G.2.1 2) n (fun j => va_rf (A j))) := (hP.2 a _ ha).2
  have hba := (hP.2 a _ ha).1
  obtain ⟨r', hr', cellV, g1, g2, g3, -⟩ := (hP.2 v _ hv).2
  cases hr'
  have hcls := (hK.1 2 _ rfl).2
  obtain ⟨kA, comp, k1, k2, k3, -⟩ : va_RA s (G.2.1 2) (.object RX2) := (hK.2 2 _ rfl).2
  have hcomp : comp = G.1.1 2 := Option.some.inj (k3.symm.trans hcls.1)
  subst hcomp
  obtain ⟨kC, hkC, -⟩ := id hcls.2
  refine W.aast C.1 C.2.1 hc1 (fun q h => by cases h) (fun h => by cases h) k1 k2 rfl hkC ⟨fun q => i1 (Or.inl q), by show _ < (arrV _ _ _).slots.size; rw [arrV_size, i2]; exact hlt⟩ g1 (fun q h => by rw [g3] at h; cases h) (by rw [g2]; exact hkC) (by rw [g2]; exact va_assign hcls) rfl rfl hd fun H1 e1 z1 oq => ?_
  refine kk p l e R s m args below meth c H1 _ cells slots mc ms G b ls Q C (hP.put ?_ hba z1 oq) (hS.put z1 oq hba) hb hc hs hR hl HR
  show H1[a]? = some (vp_cell _ _)
  rw [e1, i2, vp_cell_q, arrV_store]
  congr 2
  funext q
  by_cases hq : q = k
  · subst hq; simp [updV, u1, va_rf]
  · simp [updV, u1, hq]
theorem w_anew3 {Y : MT} {pc : Nat} {lv st : List Value} {h : HP} {rc rs : Nat} {Φ : Option Value → HP → Prop} {idx : Nat} {z : Int} (n : Nat) (hk : z = (n : Int)) (hn : n ≤ 100000) (w1 : Cond.classLink Y.1.cls idx RX8 ∈ gw) (w2 : Cond.arrayOver (.object RX8) ∈ lw_tbl) (h1 : 1 ≤ rc) (h2 : n ≤ rs) (hd : decode Y.2.1 pc = .ok (.anewarray idx, 3)) (kk : wp Y (pc + 3) lv (.ref h.1 :: st) (h.1 + 1, up h.2 h.1 (aR 3 n (fun _ => none))) (rc - 1) (rs - n) Φ) : wp Y pc lv (.int (zI z) :: st) h rc rs Φ := by
  subst hk
  have ho : ok32 (n : Int) := ⟨by omega, by omega⟩
  have hN : (zI (n : Int)).toNatClampNeg = n := by rw [zI_clamp ho]; omega
  have hn0 : ¬ zI (n : Int) < 0 := fun q => by have := (zI_lt ho ok32_0).mp q; omega
  intro p l e R s m args below meth c H locs cells slots mc ms G b ls Q C hP hS hb hc hs hR hl HR
  have hov : (Cond.arrayOver (.object RX8)).before args s = true := ((C.2.2.2.2.2.2.2.1.2.1 : NW s) _ w2 rfl)
  refine W.anew C.1 C.2.1 C.2.2.2.1 (cx_w C _ w1) hov rfl hd rfl hn0 (by rw [hN]; omega) (by have := hR.1; omega) (by rw [hN]; have := hR.2.1; omega) fun cA kA comp f1 f2 f3 f4 => ?_
  rw [hN]
  obtain ⟨kA', comp', g1, g2, g3, g4⟩ : va_RA s (G.2.1 3) (.object RX8) := ((cx_K C).2 3 _ rfl).2
  have hcA : cA = G.2.1 3 := Option.some.inj (f1.symm.trans g4)
  subst hcA
  have z1 : (H.push ({ cls := G.2.1 3, slots := Array.replicate n .null, vm := .none } : Cell)).size = h.1 + 1 := by rw [Array.size_push, hP.1]
  have e1 : (H.push ({ cls := G.2.1 3, slots := Array.replicate n .null, vm := .none } : Cell))[h.1]? = some (arrV (G.2.1 3) n (fun _ => .null)) := by rw [← hP.1, Array.getElem?_push_size, ← arrV_new]
  have o1 : ∀ q : Nat, q < H.size → (H.push ({ cls := G.2.1 3, slots := Array.replicate n .null, vm := .none } : Cell))[q]? = H[q]? := fun q hq => by rw [Array.getElem?_push, if_neg (Nat.ne_of_lt hq)]
  have := kk p l e R s m args below meth c _ locs (cells + 1) (slots + n) mc ms G b ls Q C (hP.push (e := aR 3 n (fun _ => none)) (show (H.push _)[h.1]? = some (vp_cell _ _) from e1) (by rw [← hP.1]; exact Nat.le_trans hb hS.1) z1 (fun q hq => o1 q (by rw [hP.1]; exact hq))) (hS.new (by rw [z1, hP.1]; omega) o1) hb (by omega) (by omega) hR hl HR
  rw [← hP.1] at this
  exact this
theorem w_aast3 {Y : MT} {pc : Nat} {lv st : List Value} {h : HP} {rc rs : Nat} {Φ : Option Value → HP → Prop} {a v n : Nat} {A : Nat → Option Nat} {fs : List Value} {z : Int} (k : Nat) (ha : h.2 a = some (aR 3 n A)) (hv : h.2 v = some (.inr (7, fs))) (hk : z = (k : Int)) (hlt : k < n) (hn : n ≤ 2147483648) (hd : decode Y.2.1 pc = .ok (.aastore, 1)) (kk : wp Y (pc + 1) lv st (h.1, up h.2 a (aR 3 n (u1 A k (some v)))) rc rs Φ) : wp Y pc lv (.ref v :: .int (zI z) :: .ref a :: st) h rc rs Φ := by
  subst hk
  obtain ⟨i1, i2⟩ := zI_in hlt hn
  intro p l e R s m args below meth c H locs cells slots mc ms G b ls Q C hP hS hb hc hs hR hl HR
  have hK := cx_K C
  have hc1 : H[a]? = some (arrV (G.2.1 3) n (fun j => va_rf (A j))) := (hP.2 a _ ha).2
  have hba := (hP.2 a _ ha).1
  obtain ⟨r', hr', cellV, g1, g2, g3, -⟩ := (hP.2 v _ hv).2
  cases hr'
  have hcls := (hK.1 7 _ rfl).2
  obtain ⟨kA, comp, k1, k2, k3, -⟩ : va_RA s (G.2.1 3) (.object RX8) := (hK.2 3 _ rfl).2
  have hcomp : comp = G.1.1 7 := Option.some.inj (k3.symm.trans hcls.1)
  subst hcomp
  obtain ⟨kC, hkC, -⟩ := id hcls.2
  refine W.aast C.1 C.2.1 hc1 (fun q h => by cases h) (fun h => by cases h) k1 k2 rfl hkC ⟨fun q => i1 (Or.inl q), by show _ < (arrV _ _ _).slots.size; rw [arrV_size, i2]; exact hlt⟩ g1 (fun q h => by rw [g3] at h; cases h) (by rw [g2]; exact hkC) (by rw [g2]; exact va_assign hcls) rfl rfl hd fun H1 e1 z1 oq => ?_
  refine kk p l e R s m args below meth c H1 _ cells slots mc ms G b ls Q C (hP.put ?_ hba z1 oq) (hS.put z1 oq hba) hb hc hs hR hl HR
  show H1[a]? = some (vp_cell _ _)
  rw [e1, i2, vp_cell_q, arrV_store]
  congr 2
  funext q
  by_cases hq : q = k
  · subst hq; simp [updV, u1, va_rf]
  · simp [updV, u1, hq]
theorem lX2_57 : Cond.methodLink RX2 57 ⟨"[J", "clone", "()Ljava/lang/Object;"⟩ ∈ gw := gw_in (i := 149) (by decide +kernel) (by decide +kernel)
theorem lX7_51 : Cond.methodLink RX7 51 ⟨"[I", "clone", "()Ljava/lang/Object;"⟩ ∈ gw := gw_in (i := 676) (by decide +kernel) (by decide +kernel)
theorem lX2_89 : Cond.methodLink RX2 89 ⟨"[I", "clone", "()Ljava/lang/Object;"⟩ ∈ gw := gw_in (i := 728) (by decide +kernel) (by decide +kernel)
theorem lJ7_319 : Cond.methodLink RJ7 319 ⟨"[J", "clone", "()Ljava/lang/Object;"⟩ ∈ gw := gw_in (i := 1042) (by decide +kernel) (by decide +kernel)
theorem smCI : Cond.sameMethod "[I" "java/lang/Object" "clone" "()Ljava/lang/Object;" ∈ gw := gw_in (i := 677) (by decide +kernel) (by decide +kernel)
theorem seCI : Cond.selects "[I" ⟨"[I", "clone", "()Ljava/lang/Object;"⟩ ⟨"java/lang/Object", "clone", "()Ljava/lang/Object;"⟩ ∈ gw := gw_in (i := 678) (by decide +kernel) (by decide +kernel)
theorem caCI : Cond.castable "[I" "java/lang/Cloneable" ∈ lw_tbl := List.mem_of_getElem? (i := 679) (by decide +kernel)
theorem smCL : Cond.sameMethod "[J" "java/lang/Object" "clone" "()Ljava/lang/Object;" ∈ gw := gw_in (i := 150) (by decide +kernel) (by decide +kernel)
theorem seCL : Cond.selects "[J" ⟨"[J", "clone", "()Ljava/lang/Object;"⟩ ⟨"java/lang/Object", "clone", "()Ljava/lang/Object;"⟩ ∈ gw := gw_in (i := 153) (by decide +kernel) (by decide +kernel)
theorem caCL : Cond.castable "[J" "java/lang/Cloneable" ∈ lw_tbl := List.mem_of_getElem? (i := 154) (by decide +kernel)
theorem naC : Cond.native ⟨"java/lang/Object", "clone", "()Ljava/lang/Object;"⟩ ∈ gw := gw_in (i := 151) (by decide +kernel) (by decide +kernel)
theorem inC : Cond.instanceMethod ⟨"java/lang/Object", "clone", "()Ljava/lang/Object;"⟩ ∈ gw := gw_in (i := 152) (by decide +kernel) (by decide +kernel)
theorem tX9_7 : Cond.classLink RX9 7 RX2 ∈ gw := gw_in (i := 136) (by decide +kernel) (by decide +kernel)
theorem tX2_58 : Cond.classLink RX2 58 "[J" ∈ gw := gw_in (i := 155) (by decide +kernel) (by decide +kernel)
theorem tX6_9 : Cond.classLink RX6 9 RX8 ∈ gw := gw_in (i := 257) (by decide +kernel) (by decide +kernel)
theorem tX5_18 : Cond.classLink RX5 18 RX2 ∈ gw := gw_in (i := 270) (by decide +kernel) (by decide +kernel)
theorem tX5_24 : Cond.classLink RX5 24 RX8 ∈ gw := gw_in (i := 272) (by decide +kernel) (by decide +kernel)
theorem tX9_33 : Cond.classLink RX9 33 RX8 ∈ gw := gw_in (i := 452) (by decide +kernel) (by decide +kernel)
theorem tX1_9 : Cond.classLink RX1 9 RX2 ∈ gw := gw_in (i := 460) (by decide +kernel) (by decide +kernel)
theorem tX1_17 : Cond.classLink RX1 17 "[[J" ∈ gw := gw_in (i := 461) (by decide +kernel) (by decide +kernel)
theorem tX7_49 : Cond.classLink RX7 49 RX2 ∈ gw := gw_in (i := 675) (by decide +kernel) (by decide +kernel)
theorem tX7_52 : Cond.classLink RX7 52 "[I" ∈ gw := gw_in (i := 680) (by decide +kernel) (by decide +kernel)
theorem tX2_90 : Cond.classLink RX2 90 "[I" ∈ gw := gw_in (i := 729) (by decide +kernel) (by decide +kernel)
theorem tX2_10 : Cond.classLink RX2 10 RX2 ∈ gw := gw_in (i := 730) (by decide +kernel) (by decide +kernel)
theorem tJ7_320 : Cond.classLink RJ7 320 "[J" ∈ gw := gw_in (i := 1043) (by decide +kernel) (by decide +kernel)
theorem aoC : Cond.arrayOver (.object RX2) ∈ lw_tbl := List.mem_of_getElem? (i := 271) (by decide +kernel)
theorem aoS : Cond.arrayOver (.object RX8) ∈ lw_tbl := List.mem_of_getElem? (i := 258) (by decide +kernel)

