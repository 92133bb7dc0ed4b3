def aI (n : Nat) (A : Nat → Int) : CE := .inl (0, n, .inl (fun k => zI (A k)))
def aL (n : Nat) (A : Nat → BitVec 64) : CE := .inl (1, n, .inr (.inl (fun k => lB (A k))))
def aR (kd n : Nat) (A : Nat → Option Nat) : CE := .inl (kd, n, .inr (.inr (.inr (.inr A))))
def ob (ci : Nat) (fs : List Value) : CE := .inr (ci, fs)
def u1 {α : Type} (f : Nat → α) (k : Nat) (v : α) : Nat → α := fun j => if j = k then v else f j
theorem u1_s {α : Type} {f : Nat → α} {k : Nat} {v : α} : u1 f k v k = v := if_pos rfl
theorem u1_n {α : Type} {f : Nat → α} {k j : Nat} {v : α} (h : j ≠ k) : u1 f k v j = f j := if_neg h
theorem RP.one {G : DG} {b : Nat} {h : HP} {H : Heap} {a : Nat} {e : CE} (hP : RP G b h H) (ho : h.2 a = some e) : va_P G.1 vwCl [(a, cv G.2.1 e)] H := by
  intro j q hq
  match j, hq with
  | 0, hq => cases hq; exact (hP.2 a e ho).2
  | j + 1, hq => simp at hq
theorem cx_K {Y : MT} {p : Program} {s : State} {m : MethodId} {args : Array Value} {meth : Method} {c : Code} {G : DG} {b : Nat} (C : CX Y p s m args meth c G b) : va_K G.1 vwCl (tys G.2.1) s := C.2.2.2.2.2.2.2.1.1
theorem cx_w {Y : MT} {p : Program} {s : State} {m : MethodId} {args : Array Value} {meth : Method} {c : Code} {G : DG} {b : Nat} (C : CX Y p s m args meth c G b) : ∀ w ∈ gw, w.before args s = true := C.2.2.2.2.1
theorem va_S.new {A : Nat → Prop} {H0 H H1 : Heap} {locs : List Loc} (h : va_S A H0 H locs) (z : H.size ≤ H1.size) (o1 : ∀ q : Nat, q < H.size → H1[q]? = H[q]?) : va_S A H0 H1 locs :=
  ⟨Nat.le_trans h.1 z, fun q h1 h2 => (o1 q (Nat.lt_of_lt_of_le h1 h.1)).trans (h.2.1 q h1 h2), h.2.2⟩
/-- a field: class number ci, place k, final or not, type -/
def FW (own : String) (idx ci k : Nat) (fin : Bool) (ty : FieldType) : Prop := ∃ (C : String) (T : u_T) (N : Nat) (ty0 : Nat → FieldType), vwCl[ci]? = some (C, T, N) ∧ k < N ∧ (∀ w ∈ u_ws C T N, w ∈ gw) ∧ (∀ k, k < N → parseFieldDescriptor (T k).2.2.1 = some (ty0 k)) ∧ (∀ a, a < N → ∀ b, b < N → a ≠ b → (T a).2.1 ≠ (T b).2.1) ∧ Cond.fieldLink own idx (T k).1 (T k).2.1 (T k).2.2.1 ∈ gw ∧ (T k).2.2.2 = fin ∧ ty0 k = ty ∧ (T k).1 = C
theorem w_getf {Y : MT} {pc : Nat} {lv st : List Value} {h : HP} {rc rs : Nat} {Φ : Option Value → HP → Prop} {idx ci k a : Nat} {fin : Bool} {ty : FieldType} {fs : List Value} {v : Value} (hf : FW Y.1.cls idx ci k fin ty) (hd : decode Y.2.1 pc = .ok (.getfield idx, 3)) (ho : h.2 a = some (.inr (ci, fs))) (hv : fs[k]? = some v) (kk : wp Y (pc + 3) lv (v :: st) h rc rs Φ) : wp Y pc lv (.ref a :: st) h rc rs Φ := by
  intro p l e R s m args below meth c H locs cells slots mc ms G b ls Q C hP hS hb hc hs hR hl HR
  obtain ⟨C0, T, N, ty0, hcl, hk, hin, hpt, hnm, hlk, -, -, -⟩ := hf
  exact va_get C.1 C.2.1 (cx_w C) hin C.2.2.2.1 (cx_K C) (hP.one ho) 0 rfl hcl k hk (cx_w C _ hlk) (fun x hx => hx) hv hd (kk p l e R s m args below meth c H locs cells slots mc ms G b ls Q C hP hS hb hc hs hR hl HR)
theorem put_at {G : DG} {H1 : Heap} {a ci N k : Nat} {C0 : String} {T : u_T} {fs : List Value} {v : Value} {cell : Cell} (hcl : vwCl[ci]? = some (C0, T, N)) (hk : k < N) (hl0 : k < fs.length) (hap : ∀ x y, x < N → y < N → x ≠ y → (G.1.2 ci) x ≠ (G.1.2 ci) y) (q2 : cell.cls = G.1.1 ci) (q3 : cell.vm = .none) (q4 : ∀ j, j < N → cell.slots[(G.1.2 ci) j]? = some (vp_V fs j)) (e1 : H1[a]? = some (cell.setSlot ((G.1.2 ci) k) v)) : va_at G.1 vwCl (a, .inr (ci, fs.set k v)) H1 :=
  ⟨_, hcl, t_OB.to (V := updV (vp_V fs) k v) ⟨_, e1, q2, q3, t_set q4 hap hk v⟩ (fun j _ => vp_updV_set hl0 v j)⟩
theorem w_putf {Y : MT} {pc : Nat} {lv st : List Value} {h : HP} {rc rs : Nat} {Φ : Option Value → HP → Prop} {idx ci k a : Nat} {ty : FieldType} {fs : List Value} {v : Value} (hf : FW Y.1.cls idx ci k false ty) (hd : decode Y.2.1 pc = .ok (.putfield idx, 3)) (ho : h.2 a = some (.inr (ci, fs))) (hl0 : k < fs.length) (hn : narrow ty v = v) (hfit : fits ty v = true) (kk : wp Y (pc + 3) lv st (h.1, up h.2 a (.inr (ci, fs.set k v))) rc rs Φ) : wp Y pc lv (v :: .ref a :: st) h rc rs Φ := by
  intro p l e R s m args below meth c H locs cells slots mc ms G b ls Q C hP hS hb hc hs hR hl HR
  obtain ⟨C0, T, N, ty0, hcl, hk, hin, hpt, hnm, hlk, hfin, hty, -⟩ := hf
  have hts := cx_w C
  have hK := cx_K C
  have hap := va_apart (own := Y.1.cls) hts hin ty0 hpt hnm hK hcl
  obtain ⟨hba, r, h1, cell, q1, q2, q3, q4⟩ := hP.2 a _ ho
  have hr : r = (C0, T, N) := Option.some.inj (h1.symm.trans hcl)
  subst hr
  obtain ⟨hSl, hfc, kC, hkC, hkind⟩ := hK.1 ci _ hcl
  obtain ⟨cf, kf, fi, f, hi, hsl⟩ := hSl k hk
  have hlay := hts _ (hin _ (u_in_lay hk))
  unfold u_lay at hlay
  rw [if_neg (by rw [hfin]; decide)] at hlay
  have hst := (u_facts hfc hkC (u_lays hts hin hk) hi).1
  have h6 := u_store hfc hkC hkind hlay hi (hpt k hk) (by rw [hty]; exact hn) (by rw [hty]; exact hfit)
  refine W.putK C.1 C.2.1 (f := f) ⟨C.2.2.2.1, hts _ hlk, ⟨_, _, _, hi⟩, hst⟩ (by rw [q2]; exact h6) q1 q3 (by rw [hsl]; exact k2_hasslot (q4 k hk)) rfl rfl hd fun H' e1 e2 e3 => ?_
  rw [hsl] at e1 ⊢
  exact kk p l e R s m args below meth c H' _ cells slots mc ms G b ls Q C (hP.put (put_at hcl hk hl0 hap q2 q3 q4 e1) hba e2 e3) (hS.put e2 e3 hba) hb hc hs hR hl HR
theorem w_putfF {Y : MT} {pc : Nat} {lv st : List Value} {h : HP} {rc rs : Nat} {Φ : Option Value → HP → Prop} {idx ci k a : Nat} {ty : FieldType} {fs : List Value} {v : Value} (hf : FW Y.1.cls idx ci k true ty) (hin2 : Y.1.name = "<init>") (hcc : (vwCl[ci]?).map (fun q => q.1) = some Y.1.cls) (hd : decode Y.2.1 pc = .ok (.putfield idx, 3)) (ho : h.2 a = some (.inr (ci, fs))) (hl0 : k < fs.length) (hn : narrow ty v = v) (hfit : fits ty v = true) (kk : wp Y (pc + 3) lv st (h.1, up h.2 a (.inr (ci, fs.set k v))) rc rs Φ) : wp Y pc lv (v :: .ref a :: st) h rc rs Φ := by
  intro p l e R s m args below meth c H locs cells slots mc ms G b ls Q C hP hS hb hc hs hR hl HR
  obtain ⟨C0, T, N, ty0, hcl, hk, hin, hpt, hnm, hlk, hfin, hty, hdc⟩ := hf
  have hts := cx_w C
  have hK := cx_K C
  have hap := va_apart (own := Y.1.cls) hts hin ty0 hpt hnm hK hcl
  obtain ⟨hba, r, h1, cell, q1, q2, q3, q4⟩ := hP.2 a _ ho
  have hr : r = (C0, T, N) := Option.some.inj (h1.symm.trans hcl)
  subst hr
  have hC0 : C0 = Y.1.cls := by rw [hcl] at hcc; exact Option.some.inj hcc
  obtain ⟨hSl, hfc, kC, hkC, hkind⟩ := hK.1 ci _ hcl
  obtain ⟨cf, kf, fi, f, hi, hsl⟩ := hSl k hk
  have hlay := hts _ (hin _ (u_in_lay hk))
  unfold u_lay at hlay
  rw [if_pos hfin] at hlay
  have hst := (u_facts hfc hkC (u_lays hts hin hk) hi).1
  have hcf : m.cls = cf := by
    obtain ⟨_, _, c', _, _, _, -, -, hf', -, -, -, hown2, -⟩ := Cond.laysFinal_spec hlay
    have e1 : c' = cf := by have := hi.symm.trans hf'; simp at this; exact this.1.symm
    rw [hdc, hC0] at hown2
    rw [← e1]; exact Option.some.inj (C.2.2.2.1.symm.trans hown2)
  have h6 := u_fits hfc hkC hkind (Or.inr hlay) hi (hpt k hk) (by rw [hty]; exact hn) (by rw [hty]; exact hfit)
  refine W.putFinK C.1 C.2.1 C.2.2.2.1 (hts _ hlk) hi hst hcf (C.2.2.2.2.2.2.2.2.trans hin2) (by rw [q2]; exact h6) q1 q3 (by rw [hsl]; exact k2_hasslot (q4 k hk)) rfl rfl hd fun H' e1 e2 e3 => ?_
  rw [hsl] at e1 ⊢
  exact kk p l e R s m args below meth c H' _ cells slots mc ms G b ls Q C (hP.put (put_at hcl hk hl0 hap q2 q3 q4 e1) hba e2 e3) (hS.put e2 e3 hba) hb hc hs hR hl HR
theorem w_iald {Y : MT} {pc : Nat} {lv st : List Value} {h : HP} {rc rs : Nat} {Φ : Option Value → HP → Prop} {a n : Nat} {A : Nat → Int} {z : Int} (k : Nat) (ha : h.2 a = some (aI n A)) (hk : z = (k : Int)) (hlt : k < n) (hn : n ≤ 2147483648) (hd : decode Y.2.1 pc = .ok (.iaload, 1)) (kk : wp Y (pc + 1) lv (.int (zI (A k)) :: st) h rc rs Φ) : wp Y pc lv (.int (zI z) :: .ref a :: st) h rc rs Φ := by
  subst hk
  obtain ⟨i1, i2⟩ := zI_in hlt hn
  intro p l e R s m args below meth c H locs cells slots mc ms G b ls Q C hP hS hb hc hs hR hl HR
  have h2 := va_iald (p := p) (l := l) (e := e) (R := R) (m := m) (args := args) (below := below) (meth := meth) (c := c) (locs := locs) (cells := cells) (slots := slots) (Q := Q) (ls := ls) (rest := st) C.1 C.2.1 (cx_K C) (hP.one ha) 0 0 (cA := G.2.1 0) (n := n) (f := fun k => zI (A k)) rfl rfl i1 hd
  rw [i2] at h2
  exact h2 (kk p l e R s m args below meth c H locs cells slots mc ms G b ls Q C hP hS hb hc hs hR hl HR)
theorem w_lald {Y : MT} {pc : Nat} {lv st : List Value} {h : HP} {rc rs : Nat} {Φ : Option Value → HP → Prop} {a n : Nat} {A : Nat → BitVec 64} {z : Int} (k : Nat) (ha : h.2 a = some (aL n A)) (hk : z = (k : Int)) (hlt : k < n) (hn : n ≤ 2147483648) (hd : decode Y.2.1 pc = .ok (.laload, 1)) (kk : wp Y (pc + 1) lv (.long (lB (A k)) :: st) h rc rs Φ) : wp Y pc lv (.int (zI z) :: .ref a :: st) h rc rs Φ := by
  subst hk
  obtain ⟨i1, i2⟩ := zI_in hlt hn
  intro p l e R s m args below meth c H locs cells slots mc ms G b ls Q C hP hS hb hc hs hR hl HR
  have h2 := va_lald (p := p) (l := l) (e := e) (R := R) (m := m) (args := args) (below := below) (meth := meth) (c := c) (locs := locs) (cells := cells) (slots := slots) (Q := Q) (ls := ls) (rest := st) C.1 C.2.1 (cx_K C) (hP.one ha) 0 1 (cA := G.2.1 1) (n := n) (f := fun k => lB (A k)) rfl rfl i1 hd
  rw [i2] at h2
  exact h2 (kk p l e R s m args below meth c H locs cells slots mc ms G b ls Q C hP hS hb hc hs hR hl HR)
theorem w_aald {Y : MT} {pc : Nat} {lv st : List Value} {h : HP} {rc rs : Nat} {Φ : Option Value → HP → Prop} {kd a n : Nat} {A : Nat → Option Nat} {z : Int} (k : Nat) (hkd : kd = 2 ∨ kd = 3 ∨ kd = 4) (ha : h.2 a = some (aR kd n A)) (hk : z = (k : Int)) (hlt : k < n) (hn : n ≤ 2147483648) (hd : decode Y.2.1 pc = .ok (.aaload, 1)) (kk : wp Y (pc + 1) lv (va_rf (A k) :: st) h rc rs Φ) : wp Y pc lv (.int (zI z) :: .ref a :: st) h rc rs Φ := by
  subst hk
  obtain ⟨i1, i2⟩ := zI_in hlt hn
  intro p l e R s m args below meth c H locs cells slots mc ms G b ls Q C hP hS hb hc hs hR hl HR
  have hc1 : H[a]? = some (arrV (G.2.1 kd) n (fun j => va_rf (A j))) := (hP.2 a _ ha).2
  have key : ∀ ty : FieldType, ty.isReference = true → ArrOfT s (G.2.1 kd) ty → W p l e R s m args below meth c H locs cells slots Q (F0 m pc ls (.int (zI (k : Int)) :: .ref a :: st)) := by
    intro ty hty hA
    exact W.aald (v := va_rf (A k)) (ty := ty) C.1 C.2.1 hc1 (hA n (fun j => va_rf (A j))) hty (fun q => by cases q) (by show ¬ (_ ∨ (arrV _ _ _).slots.size ≤ _); rw [arrV_size]; exact i1) (by show (arrV _ _ _).slots[_]? = _; rw [i2, arrV_read _ _ hlt]) rfl rfl hd (kk p l e R s m args below meth c H locs cells slots mc ms G b ls Q C hP hS hb hc hs hR hl HR)
  have hK := cx_K C
  rcases hkd with rfl | rfl | rfl
  · exact key _ rfl (hK.2 2 _ rfl).1
  · exact key _ rfl (hK.2 3 _ rfl).1
  · exact key _ rfl (hK.2 4 _ rfl).1
theorem w_iast {Y : MT} {pc : Nat} {lv st : List Value} {h : HP} {rc rs : Nat} {Φ : Option Value → HP → Prop} {a n : Nat} {A : Nat → Int} {z v : Int} (k : Nat) (ha : h.2 a = some (aI n A)) (hk : z = (k : Int)) (hlt : k < n) (hn : n ≤ 2147483648) (hd : decode Y.2.1 pc = .ok (.iastore, 1)) (kk : wp Y (pc + 1) lv st (h.1, up h.2 a (aI n (u1 A k v))) rc rs Φ) : wp Y pc lv (.int (zI v) :: .int (zI z) :: .ref a :: st) h rc rs Φ := by
  subst hk
  obtain ⟨i1, i2⟩ := zI_in hlt hn
  intro p l e R s m args below meth c H locs cells slots mc ms G b ls Q C hP hS hb hc hs hR hl HR
  have hc1 : H[a]? = some (arrV (G.2.1 0) n (fun j => .int (zI (A j)))) := (hP.2 a _ ha).2
  have hba := (hP.2 a _ ha).1
  refine W.iast C.1 C.2.1 hc1 (((cx_K C).2 0 _ rfl).1 n (fun j => .int (zI (A j)))) (fun q => by cases q) (by show ¬ (_ ∨ (arrV _ _ _).slots.size ≤ _); rw [arrV_size]; exact i1) rfl rfl hd fun H1 e1 z1 oq => ?_
  refine kk p l e R s m args below meth c H1 _ cells slots mc ms G b ls Q C (hP.put ?_ hba z1 oq) (hS.put z1 oq hba) hb hc hs hR hl HR
  show H1[a]? = some (vp_cell _ _)
  rw [e1, i2, vp_cell_i, arrV_store]
  congr 2
  funext q
  by_cases hq : q = k
  · subst hq; simp [updV, u1]
  · simp [updV, u1, hq]
theorem w_last {Y : MT} {pc : Nat} {lv st : List Value} {h : HP} {rc rs : Nat} {Φ : Option Value → HP → Prop} {a n : Nat} {A : Nat → BitVec 64} {z : Int} {v : BitVec 64} (k : Nat) (ha : h.2 a = some (aL n A)) (hk : z = (k : Int)) (hlt : k < n) (hn : n ≤ 2147483648) (hd : decode Y.2.1 pc = .ok (.lastore, 1)) (kk : wp Y (pc + 1) lv st (h.1, up h.2 a (aL n (u1 A k v))) rc rs Φ) : wp Y pc lv (.long (lB v) :: .int (zI z) :: .ref a :: st) h rc rs Φ := by
  subst hk
  obtain ⟨i1, i2⟩ := zI_in hlt hn
  intro p l e R s m args below meth c H locs cells slots mc ms G b ls Q C hP hS hb hc hs hR hl HR
  have hc1 : H[a]? = some (arrV (G.2.1 1) n (fun j => .long (lB (A j)))) := (hP.2 a _ ha).2
  have hba := (hP.2 a _ ha).1
  refine W.last C.1 C.2.1 hc1 (((cx_K C).2 1 _ rfl).1 n (fun j => .long (lB (A j)))) (fun q => by cases q) (by show ¬ (_ ∨ (arrV _ _ _).slots.size ≤ _); rw [arrV_size]; exact i1) rfl rfl hd fun H1 e1 z1 oq => ?_
  refine kk p l e R s m args below meth c H1 _ cells slots mc ms G b ls Q C (hP.put ?_ hba z1 oq) (hS.put z1 oq hba) hb hc hs hR hl HR
  show H1[a]? = some (vp_cell _ _)
  rw [e1, i2, vp_cell_l, arrV_store]
  congr 2
  funext q
  by_cases hq : q = k
  · subst hq; simp [updV, u1]
  · simp [updV, u1, hq]
theorem w_alen {Y : MT} {pc : Nat} {lv st : List Value} {h : HP} {rc rs : Nat} {Φ : Option Value → HP → Prop} {a kd : Nat} {x : vp_A} (hkd : kd < 5) (ha : h.2 a = some (.inl (kd, x))) (hd : decode Y.2.1 pc = .ok (.arraylength, 1)) (kk : wp Y (pc + 1) lv (.int (zI (x.1 : Int)) :: st) h rc rs Φ) : wp Y pc lv (.ref a :: st) h rc rs Φ := by
  intro p l e R s m args below meth c H locs cells slots mc ms G b ls Q C hP hS hb hc hs hR hl HR
  have hz : Int32.ofNat x.1 = zI (x.1 : Int) := rfl
  have hK := cx_K C
  rcases (show kd = 0 ∨ kd = 1 ∨ kd = 2 ∨ kd = 3 ∨ kd = 4 by omega) with rfl | rfl | rfl | rfl | rfl
  · exact va_alen C.1 C.2.1 hK (hP.one ha) 0 0 rfl (ty := .int) rfl hz hd (kk p l e R s m args below meth c H locs cells slots mc ms G b ls Q C hP hS hb hc hs hR hl HR)
  · exact va_alen C.1 C.2.1 hK (hP.one ha) 0 1 rfl (ty := .long) rfl hz hd (kk p l e R s m args below meth c H locs cells slots mc ms G b ls Q C hP hS hb hc hs hR hl HR)
  · exact va_alen C.1 C.2.1 hK (hP.one ha) 0 2 rfl (ty := .object RX2) rfl hz hd (kk p l e R s m args below meth c H locs cells slots mc ms G b ls Q C hP hS hb hc hs hR hl HR)
  · exact va_alen C.1 C.2.1 hK (hP.one ha) 0 3 rfl (ty := .object RX8) rfl hz hd (kk p l e R s m args below meth c H locs cells slots mc ms G b ls Q C hP hS hb hc hs hR hl HR)
  · exact va_alen C.1 C.2.1 hK (hP.one ha) 0 4 rfl (ty := .array .long) rfl hz hd (kk p l e R s m args below meth c H locs cells slots mc ms G b ls Q C hP hS hb hc hs hR hl HR)
theorem w_newI {Y : MT} {pc : Nat} {lv st : List Value} {h : HP} {rc rs : Nat} {Φ : Option Value → HP → Prop} {z : Int} (n : Nat) (hk : z = (n : Int)) (hn : n ≤ 100000) (hw : Cond.arrayClass .int ∈ gw) (h1 : 1 ≤ rc) (h2 : n ≤ rs) (hd : decode Y.2.1 pc = .ok (.newarray .int, 2)) (kk : wp Y (pc + 2) lv (.ref h.1 :: st) (h.1 + 1, up h.2 h.1 (aI n (fun _ => 0))) (rc - 1) (rs - n) Φ) : wp Y pc lv (.int (zI z) :: st) h rc rs Φ := by
  subst hk
  have ho : ok32 (n : Int) := ⟨by omega, by omega⟩
  have hN : (zI (n : Int)).toNatClampNeg = n := by rw [zI_clamp ho]; omega
  have hn0 : ¬ zI (n : Int) < 0 := fun q => by have := (zI_lt ho ok32_0).mp q; omega
  intro p l e R s m args below meth c H locs cells slots mc ms G b ls Q C hP hS hb hc hs hR hl HR
  refine va_newaK C.1 C.2.1 (atype := .int) (cx_w C _ hw) rfl hd rfl hn0 hN (by show n * 4 ≤ _; omega) (by omega) (by omega) hP.1 fun H1 cA e1 z1 o1 hAr hNm => ?_
  have hcA : cA = G.2.1 0 := by
    have h3 : s.vm.findClass ("[" ++ FieldType.int.toString) = some (G.2.1 0) := ((cx_K C).2 0 _ rfl).2
    exact Option.some.inj (hNm.symm.trans h3)
  subst hcA
  exact kk p l e R s m args below meth c H1 locs (cells + 1) (slots + n) mc ms G b ls Q C (hP.push (show H1[h.1]? = some (vp_cell _ _) from e1) (by rw [← hP.1]; exact Nat.le_trans hb hS.1) z1 o1) (hS.new (by rw [z1, hP.1]; omega) (fun q hq => o1 q (by rw [← hP.1]; exact hq))) hb (by omega) (by omega) hR hl HR
theorem w_newL {Y : MT} {pc : Nat} {lv st : List Value} {h : HP} {rc rs : Nat} {Φ : Option Value → HP → Prop} {z : Int} (n : Nat) (hk : z = (n : Int)) (hn : n ≤ 1000000) (hw : Cond.arrayClass .long ∈ gw) (h1 : 1 ≤ rc) (h2 : n ≤ rs) (hd : decode Y.2.1 pc = .ok (.newarray .long, 2)) (kk : wp Y (pc + 2) lv (.ref h.1 :: st) (h.1 + 1, up h.2 h.1 (aL n (fun _ => 0))) (rc - 1) (rs - n) Φ) : wp Y pc lv (.int (zI z) :: st) h rc rs Φ := by
  subst hk
  have ho : ok32 (n : Int) := ⟨by omega, by omega⟩
  have hN : (zI (n : Int)).toNatClampNeg = n := by rw [zI_clamp ho]; omega
  have hn0 : ¬ zI (n : Int) < 0 := fun q => by have := (zI_lt ho ok32_0).mp q; omega
  intro p l e R s m args below meth c H locs cells slots mc ms G b ls Q C hP hS hb hc hs hR hl HR
  refine va_newaK C.1 C.2.1 (atype := .long) (cx_w C _ hw) rfl hd rfl hn0 hN (by show n * 8 ≤ _; omega) (by omega) (by omega) hP.1 fun H1 cA e1 z1 o1 hAr hNm => ?_
  have hcA : cA = G.2.1 1 := by
    have h3 : s.vm.findClass ("[" ++ FieldType.long.toString) = some (G.2.1 1) := ((cx_K C).2 1 _ rfl).2
    exact Option.some.inj (hNm.symm.trans h3)
  subst hcA
  exact kk p l e R s m args below meth c H1 locs (cells + 1) (slots + n) mc ms G b ls Q C (hP.push (show H1[h.1]? = some (vp_cell _ _) from e1) (by rw [← hP.1]; exact Nat.le_trans hb hS.1) z1 o1) (hS.new (by rw [z1, hP.1]; omega) (fun q hq => o1 q (by rw [← hP.1]; exact hq))) hb (by omega) (by omega) hR hl HR
/-- a class that can be made: its number, its blank fields -/
def NWd (own : String) (idx ci N : Nat) (fs : List Value) : Prop := ∃ (C : String) (T : u_T) (ty0 : Nat → FieldType), vwCl[ci]? = some (C, T, N) ∧ (∀ w ∈ u_ws C T N, w ∈ gw) ∧ (∀ k, k < N → parseFieldDescriptor (T k).2.2.1 = some (ty0 k)) ∧ (∀ j, j < N → defaultValue (ty0 j) = vp_V fs j) ∧ Cond.classLink own idx C ∈ gw ∧ Cond.instantiable C N ∈ gw ∧ Cond.initialized C ∈ gw
theorem w_new {Y : MT} {pc : Nat} {lv st : List Value} {h : HP} {rc rs : Nat} {Φ : Option Value → HP → Prop} {idx ci N : Nat} {fs : List Value} (hf : NWd Y.1.cls idx ci N fs) (h1 : 1 ≤ rc) (h2 : N ≤ rs) (hd : decode Y.2.1 pc = .ok (.new idx, 3)) (kk : wp Y (pc + 3) lv (.ref h.1 :: st) (h.1 + 1, up h.2 h.1 (.inr (ci, fs))) (rc - 1) (rs - N) Φ) : wp Y pc lv st h rc rs Φ := by
  intro p l e R s m args below meth c H locs cells slots mc ms G b ls Q C hP hS hb hc hs hR hl HR
  obtain ⟨C0, T, ty0, hcl, hin, hpt, hfs, w1, w2, w3⟩ := hf
  have hts := cx_w C
  have hKn := (cx_K C).1 ci _ hcl
  refine W.newcK C.1 C.2.1 C.2.2.2.1 (hts _ w1) (hts _ w2) (hts _ w3) rfl hd (by omega) (by omega) hKn.2.1 hP.1 fun H1 kC hkC e1 z1 o1 => ?_
  exact kk p l e R s m args below meth c H1 locs (cells + 1) (slots + N) mc ms G b ls Q C (hP.push (e := .inr (ci, fs)) ⟨_, hcl, (u_born ty0 hts hin hKn hkC e1 hpt).to hfs⟩ (by rw [← hP.1]; exact Nat.le_trans hb hS.1) z1 o1) (hS.new (by rw [z1, hP.1]; omega) (fun q hq => o1 q (by rw [← hP.1]; exact hq))) hb (by omega) (by omega) hR hl HR
theorem w_oinit {Y : MT} {pc : Nat} {lv st : List Value} {h : HP} {rc rs : Nat} {Φ : Option Value → HP → Prop} {idx a : Nat} (w1 : Cond.methodLink Y.1.cls idx Lib.objectInit ∈ gw) (w2 : Cond.instanceMethod Lib.objectInit ∈ gw) (w3 : Cond.code Lib.objectInit ⟨#[0xb1]⟩ 1 none ∈ gw) (hlen : lv.length = Y.2.2.1) (hfr : 1 ≤ Y.2.2.2.2.1) (hlo : (st.map fun v => v.category).sum + 12 ≤ Y.2.2.2.2.2) (hd : decode Y.2.1 pc = .ok (.invokespecial idx, 3)) (kk : wp Y (pc + 3) lv st h rc rs Φ) : wp Y pc lv (.ref a :: st) h rc rs Φ := by
  intro p l e R s m args below meth c H locs cells slots mc ms G b ls Q C hP hS hb hc hs hR hl HR
  exact W.objInit C.1 C.2.1 C.2.2.2.1 (cx_w C _ w1) (cx_w C _ w2) (cx_w C _ w3) rfl (by show ls.size = _; rw [hl.1, hlen, C.2.2.1]) rfl hd (Nat.le_trans hfr hR.2.2.1) (by show 2 * 0 + _ + 12 ≤ _; have := hR.2.2.2; omega) (kk p l e R s m args below meth c H locs cells slots mc ms G b ls Q C hP hS hb hc hs hR hl HR)
/-! contracts -/
def wsY (Y : MT) : List Cond := .code Y.1 Y.2.1 Y.2.2.1 Y.2.2.2.1 :: gw
def rmY (Y : MT) (mc ms : Nat) : Room := { frames := Y.2.2.2.2.1, cells := mc, slots := ms, locals := Y.2.2.2.2.2 }
def QQ (G : DG) (b : Nat) (Φ : Option Value → HP → Prop) : Array Value → State → Outcome → State → Prop := fun _ st oc t => (∃ v h', oc = .returned v ∧ Φ v h' ∧ RP G b h' t.heap) ∧ va_F (fun q => b ≤ q) st t
def PP (G : DG) (b : Nat) (h : HP) (U : State) : Prop := RP G b h U.heap ∧ KK G b U U.heap ∧ b ≤ U.heap.size
def sp (Y : MT) (av : List Value) (h : HP) (mc ms : Nat) (Φ : Option Value → HP → Prop) : Prop := ∀ (l : Launch) (G : DG) (b : Nat), Met l Y.1 (wsY Y) (rmY Y mc ms) (va_Pc av (PP G b h)) (QQ G b Φ) mc ms (fun q => b ≤ q)
def lvA : List Value → List Value
  | [] => []
  | v :: t => if v.category = 2 then v :: jk :: lvA t else v :: lvA t
def lvOf (av : List Value) (n : Nat) : List Value := lvA av ++ List.replicate (n - (lvA av).length) jk
theorem lvA_len (av : List Value) : (lvA av).length = (lg_sl av).length := by
  induction av with
  | nil => rfl
  | cons v t ih =>
    rcases lv_cat v with hc | hc
    · simp [lvA, lg_sl, hc, ih]
    · simp [lvA, lg_sl, hc, ih]
theorem lvA_at (av : List Value) : ∀ (n i : Nat) (v : Value), (lvA av)[i]? = some v → nf v = true → (n + i, v) ∈ lv_args n av := by
  induction av with
  | nil => intro n i v h; simp [lvA] at h
  | cons a t ih =>
    intro n i v h hv
    unfold lv_args
    rcases lv_cat a with hc | hc
    · have e1 : lvA (a :: t) = a :: lvA t := by rw [lvA, if_neg (by omega)]
      rw [e1] at h
      rw [if_neg (by omega)]
      cases i with
      | zero => simp at h; subst h; exact List.mem_cons_self
      | succ k =>
        refine List.mem_cons_of_mem _ ?_
        have := ih (n + 1) k v (by simpa using h) hv
        rwa [show n + (k + 1) = n + 1 + k by omega]
    · have e1 : lvA (a :: t) = a :: jk :: lvA t := by rw [lvA, if_pos hc]
      rw [e1] at h
      rw [if_pos hc]
      match i, h with
      | 0, h => simp at h; subst h; exact List.mem_cons_self
      | 1, h => simp at h; subst h; cases hv
      | k + 2, h =>
        refine List.mem_cons_of_mem _ ?_
        have := ih (n + 2) k v (by simpa using h) hv
        rwa [show n + (k + 2) = n + 2 + k by omega]
theorem sp_wp {Y : MT} {av lv : List Value} {h : HP} {mc ms : Nat} {Φ : Option Value → HP → Prop} (hok : plainName Y.1.cls = true) (hlv : lvOf av Y.2.2.1 = lv) (hle : (lvA av).length ≤ Y.2.2.1) (k : wp Y 0 lv [] h mc ms Φ) : sp Y av h mc ms Φ := by
  intro l G b
  refine Met.ofW (cc := Y.2.1) (maxL := Y.2.2.1) (ret := Y.2.2.2.1) hok rfl ?_
  intro p e s m args below meth c s₁ B hml hv
  obtain ⟨rfl, hP, hK, hb⟩ := hv
  have hts := atoms_spec (ws := wsY Y) B.pre
  have hnm := (name_of_methodNamed B.named B.method).1
  have hl := lv_entry av (n := Y.2.2.1) (by rw [← lvA_len]; exact hle)
  rw [lg_entry_eq]
  have hlk := B.notSynchronized
  refine k p l e (headSpec (wsY Y) (rmY Y mc ms)).room s m _ below meth c s.heap [] 0 0 mc ms G b _ _ ⟨B.exec, B.bytes, hml, findClass_of_methodNamed B.named, fun w hw => hts w (List.mem_cons_of_mem _ hw), B.returns, hlk, hK, hnm⟩ hP va_S.rf hb (by omega) (by omega) ⟨Nat.le_refl _, Nat.le_refl _, Nat.le_refl _, Nat.le_refl _⟩ (LV.of hl ?_ ?_) ?_
  · rw [← hlv]; simp [lvOf]; omega
  · intro i v hi hv
    rw [← hlv] at hi
    unfold lvOf at hi
    by_cases hlt : i < (lvA av).length
    · rw [List.getElem?_append_left hlt] at hi
      have := lvA_at av 0 i v hi hv
      rwa [Nat.zero_add] at this
    · rw [List.getElem?_append_right (by omega)] at hi
      have := List.mem_of_getElem? hi
      rw [List.mem_replicate] at this
      rw [this.2] at hv
      cases hv
  · intro v h' H' locs' cells' slots' pc' ls' hΦ hra hP' hS' hc' hs'
    refine W.widen hc' hs' ?_
    have hr := B.returns
    have hq : ∀ (v : Option Value), Φ v h' → ∀ t : State, t.heap = H' → s.WarmedH t.vm → QQ G b Φ av.toArray s (.returned v) t := fun v hv t ht _ => ⟨⟨v, h', rfl, hv, by rw [ht]; exact hP'⟩, hS'.F ht⟩
    cases v with
    | none =>
      obtain ⟨r1, r2⟩ := hra
      exact W.vret B.exec B.bytes (by rw [hr]; exact r1) (hq none hΦ) hS'.2.2 r2
    | some x =>
      cases x with
      | int x =>
        obtain ⟨ty, r1, r2, r3⟩ := hra
        exact W.zret B.exec B.bytes (by rw [hr]; exact r1) r2 (hq _ hΦ) hS'.2.2 r3
      | long x =>
        obtain ⟨r1, r2⟩ := hra
        exact W.lret B.exec B.bytes (by rw [hr]; exact r1) (hq _ hΦ) hS'.2.2 r2
      | ref x =>
        obtain ⟨rt, r1, r2, r3⟩ := hra
        exact W.aret B.exec B.bytes (by rw [hr]; exact r1) r2 (Or.inr ⟨x, rfl⟩) (hq _ hΦ) hS'.2.2 r3
      | null =>
        obtain ⟨rt, r1, r2, r3⟩ := hra
        exact W.aret B.exec B.bytes (by rw [hr]; exact r1) r2 (Or.inl rfl) (hq _ hΦ) hS'.2.2 r3
      | _ => exact hra.elim
theorem sp_mono {Y : MT} {av : List Value} {h : HP} {mc ms : Nat} {Φ Ψ : Option Value → HP → Prop} (hM : sp Y av h mc ms Φ) (hi : ∀ v h', Φ v h' → Ψ v h') : sp Y av h mc ms Ψ := fun l G b => MetFree.mono (hM l G b) (fun _ _ q => q) (fun _ _ _ _ _ q => q) (fun a st o t _ q => by
  obtain ⟨⟨⟨v, h', e1, e2, e3⟩, e4⟩, e5⟩ := q
  exact ⟨⟨⟨v, h', e1, hi v h' e2, e3⟩, e4⟩, e5⟩)
/-! calls -/
theorem PP.blind {G : DG} {b : Nat} {h : HP} {av : List Value} : FrameBlind (va_Pc av (PP G b h)) := fun _ U g mk q => ⟨q.1, q.2.1, (show KK G b (U.calling g mk _) U.heap from KK.same (s := U) rfl q.2.2.1), q.2.2.2⟩
theorem PP.at {G : DG} {b : Nat} {h : HP} {s U : State} {H : Heap} {locs : List Loc} (hP : RP G b h H) (hK : KK G b s s.heap) (hS : va_S (fun q => b ≤ q) s.heap H locs) (hb : b ≤ s.heap.size) (hU : U.heap = H) (hW : s.WarmedH U.vm) : PP G b h U :=
  ⟨by rw [hU]; exact hP, by rw [hU]; exact hK.go hW (fun a h1 h2 => hS.2.1 a h1 h2), by rw [hU]; exact Nat.le_trans hb hS.1⟩
theorem gw_sub {Z : MT} (hc : Cond.code Z.1 Z.2.1 Z.2.2.1 Z.2.2.2.1 ∈ gw) : GoodIn gw (wsY Z) := by
  intro w hw
  rcases List.mem_cons.mp hw with rfl | hw
  · exact ⟨hc, good_of_word (gw_good hc)⟩
  · exact ⟨hw, good_of_word (gw_good hw)⟩
theorem call_go {p : Program} {l : Launch} {e : Env} {R : Room} {s : State} {m : MethodId} {args : Array Value} {below : List Frame} {meth : Method} {c : Code} {H : Heap} {locs : List Loc} {cells slots mc2 ms2 pc : Nat} {Q : State → Prop} {ls : Array Slot} {st rest : List Value} {a : Array Value} {G : DG} {b : Nat} {Ψ : Option Value → HP → Prop}
    (hr : va_Run p l e R s m args below meth c H locs cells slots mc2 ms2 (F0 m pc ls st) rest (QQ G b Ψ a) (fun q => b ≤ q)) (hS : va_S (fun q => b ≤ q) s.heap H locs)
    (kk : ∀ (v : Option Value) (h' : HP) (H1 : Heap) (locs1 : List Loc), Ψ v h' → RP G b h' H1 → va_S (fun q => b ≤ q) s.heap H1 locs1 → W p l e R s m args below meth c H1 locs1 (cells + mc2) (slots + ms2) Q (F0 m (pc + 3) ls (v.toList ++ rest))) : W p l e R s m args below meth c H locs cells slots Q (F0 m pc ls st) := by
  intro T hT X
  obtain ⟨v, st₀, t, T', L, h0, X', hL, e1, e2, ⟨⟨v', h', hv, hp, hb'⟩, hz, hk⟩, stp⟩ := hr T hT X
  cases hv
  rw [h0] at hz hk
  obtain ⟨t2, a1, b1⟩ := kk v h' T'.heap (locs ++ L) hp (by rw [e1]; exact hb')
    ⟨Nat.le_trans hS.1 (by rw [e1]; exact hz), fun q h1 h2 => by rw [e1, hk q (Nat.lt_of_lt_of_le h1 hS.1) h2]; exact hS.2.1 q h1 h2, fun q hq => by
      rcases List.mem_append.mp hq with h | h
      · exact hS.2.2 q h
      · exact hL q h⟩ T' rfl X'
  exact ⟨t2, stp t2 a1, b1⟩
/-- a callee's words, its number of parameters n -/
def CB (Z : MT) (n : Nat) : Prop := Cond.code Z.1 Z.2.1 Z.2.2.1 Z.2.2.2.1 ∈ gw ∧ Cond.initialized Z.1.cls ∈ gw ∧ (Z.1.cls ≠ "java/lang/invoke/MethodHandle" ∧ Z.1.cls ≠ "java/lang/invoke/VarHandle" ∧ (parseMethodDescriptor Z.1.desc).map (fun d => d.parameters.length) = some n)
abbrev RM (Y Z : MT) : Prop := Z.2.2.2.2.1 + 1 ≤ Y.2.2.2.2.1 ∧ 8 + (Z.2.2.1 + 11) + Z.2.2.2.2.2 ≤ Y.2.2.2.2.2
theorem w_callS {Y : MT} {pc : Nat} {lv st : List Value} {h : HP} {rc rs : Nat} {Φ : Option Value → HP → Prop} {Z : MT} {idx n mc2 ms2 : Nat} {As rest : List Value} {Ψ : Option Value → HP → Prop} (hM : sp Z As h mc2 ms2 Ψ) (hB : CB Z n) (w1 : Cond.methodLink Y.1.cls idx Z.1 ∈ gw) (w2 : Cond.static Z.1 ∈ gw) (hd : decode Y.2.1 pc = .ok (.invokestatic idx, 3)) (hst : st = As.reverse ++ rest) (hn : As.length = n) (hlen : lv.length = Y.2.2.1) (hw : (rest.map fun v => v.category).sum ≤ 8) (hfr : RM Y Z) (h1 : mc2 ≤ rc) (h2 : ms2 ≤ rs) (kk : ∀ v h', Ψ v h' → wp Y (pc + 3) lv (v.toList ++ rest) h' (rc - mc2) (rs - ms2) Φ) : wp Y pc lv st h rc rs Φ := by
  subst hst
  intro p l e R s m args below meth c H locs cells slots mc ms G b ls Q C hP hS hb hc hs hR hl HR
  have hts := cx_w C
  obtain ⟨b1, b2, b3⟩ := hB
  refine call_go (va_runS ⟨C.1, C.2.1, C.2.2.1, C.2.2.2.1, hts⟩ (hM l G b) ⟨callB_of n hts (gw_sub b1) rfl rfl rfl (hts _ b2) (hts _ w1) b3 ⟨Nat.le_trans hfr.1 hR.2.2.1, Nat.le_trans hfr.2 hR.2.2.2⟩, hts _ w2⟩ ⟨PP.blind, fun U hU hW => ⟨rfl, PP.at hP C.2.2.2.2.2.2.2.1 hS hb hU hW⟩⟩ rfl hn (by show ls.size = _; rw [hl.1, hlen]) rfl (lv_room hw) hd ⟨by omega, by omega⟩) hS (fun v h' H1 locs1 hv hP1 hS1 => ?_)
  exact kk v h' hv p l e R s m args below meth c H1 locs1 (cells + mc2) (slots + ms2) mc ms G b ls Q C hP1 hS1 hb (by omega) (by omega) hR hl HR
theorem w_callSN {Y : MT} {pc : Nat} {lv st : List Value} {h : HP} {rc rs : Nat} {Φ : Option Value → HP → Prop} {Z : MT} {idx n mc2 ms2 : Nat} {host : String} {As rest : List Value} {Ψ : Option Value → HP → Prop} (hM : sp Z As h mc2 ms2 Ψ) (hB : CB Z n) (w1 : Cond.methodLinkNest Y.1.cls idx Z.1 host ∈ lw_tbl) (w2 : Cond.static Z.1 ∈ gw) (hd : decode Y.2.1 pc = .ok (.invokestatic idx, 3)) (hst : st = As.reverse ++ rest) (hn : As.length = n) (hlen : lv.length = Y.2.2.1) (hw : (rest.map fun v => v.category).sum ≤ 8) (hfr : RM Y Z) (h1 : mc2 ≤ rc) (h2 : ms2 ≤ rs) (kk : ∀ v h', Ψ v h' → wp Y (pc + 3) lv (v.toList ++ rest) h' (rc - mc2) (rs - ms2) Φ) : wp Y pc lv st h rc rs Φ := by
  subst hst
  intro p l e R s m args below meth c H locs cells slots mc ms G b ls Q C hP hS hb hc hs hR hl HR
  have hts := cx_w C
  obtain ⟨b1, b2, b3⟩ := hB
  refine call_go (va_runSN ⟨C.1, C.2.1, C.2.2.1, C.2.2.2.1, hts⟩ (hM l G b) ⟨va_cnB n hts (gw_sub b1) rfl rfl rfl (C.2.2.2.2.2.2.2.1.2.1 _ w1 rfl) (hts _ b2) b3 ⟨Nat.le_trans hfr.1 hR.2.2.1, Nat.le_trans hfr.2 hR.2.2.2⟩, hts _ w2, trivial⟩ ⟨PP.blind, fun U hU hW => ⟨rfl, PP.at hP C.2.2.2.2.2.2.2.1 hS hb hU hW⟩⟩ rfl hn (by show ls.size = _; rw [hl.1, hlen]) rfl (lv_room hw) hd ⟨by omega, by omega⟩) hS (fun v h' H1 locs1 hv hP1 hS1 => ?_)
  exact kk v h' hv p l e R s m args below meth c H1 locs1 (cells + mc2) (slots + ms2) mc ms G b ls Q C hP1 hS1 hb (by omega) (by omega) hR hl HR
theorem w_callI {Y : MT} {pc : Nat} {lv st : List Value} {h : HP} {rc rs : Nat} {Φ : Option Value → HP → Prop} {Z : MT} {idx n mc2 ms2 a : Nat} {As rest : List Value} {Ψ : Option Value → HP → Prop} (hM : sp Z (.ref a :: As) h mc2 ms2 Ψ) (hB : CB Z n) (hr0 : Z.2.2.2.1 = none) (w1 : Cond.methodLink Y.1.cls idx Z.1 ∈ gw) (w2 : Cond.instanceMethod Z.1 ∈ gw) (hy : Z.1.name = "<init>") (hd : decode Y.2.1 pc = .ok (.invokespecial idx, 3)) (hst : st = As.reverse ++ .ref a :: rest) (hn : As.length = n) (hlen : lv.length = Y.2.2.1) (hw : (rest.map fun v => v.category).sum ≤ 8) (hfr : RM Y Z) (h1 : mc2 ≤ rc) (h2 : ms2 ≤ rs) (kk : ∀ v h', Ψ v h' → wp Y (pc + 3) lv (v.toList ++ rest) h' (rc - mc2) (rs - ms2) Φ) : wp Y pc lv st h rc rs Φ := by
  subst hst
  intro p l e R s m args below meth c H locs cells slots mc ms G b ls Q C hP hS hb hc hs hR hl HR
  have hts := cx_w C
  obtain ⟨b1, b2, b3⟩ := hB
  refine call_go (va_runI ⟨C.1, C.2.1, C.2.2.1, C.2.2.2.1, hts⟩ (hM l G b) ⟨callB_of n hts (gw_sub b1) (by unfold wsY; rw [hr0]) rfl rfl (hts _ b2) (hts _ w1) b3 ⟨Nat.le_trans hfr.1 hR.2.2.1, Nat.le_trans hfr.2 hR.2.2.2⟩, hy, hts _ w2⟩ ⟨PP.blind, fun U hU hW => ⟨rfl, PP.at hP C.2.2.2.2.2.2.2.1 hS hb hU hW⟩⟩ rfl hn (by show ls.size = _; rw [hl.1, hlen]) rfl (lv_room hw) hd ⟨by omega, by omega⟩) hS (fun v h' H1 locs1 hv hP1 hS1 => ?_)
  exact kk v h' hv p l e R s m args below meth c H1 locs1 (cells + mc2) (slots + ms2) mc ms G b ls Q C hP1 hS1 hb (by omega) (by omega) hR hl HR
theorem w_callIN {Y : MT} {pc : Nat} {lv st : List Value} {h : HP} {rc rs : Nat} {Φ : Option Value → HP → Prop} {Z : MT} {idx n mc2 ms2 a : Nat} {host : String} {As rest : List Value} {Ψ : Option Value → HP → Prop} (hM : sp Z (.ref a :: As) h mc2 ms2 Ψ) (hB : CB Z n) (hr0 : Z.2.2.2.1 = none) (w1 : Cond.methodLinkNest Y.1.cls idx Z.1 host ∈ lw_tbl) (w2 : Cond.instanceMethod Z.1 ∈ gw) (hy : Z.1.name = "<init>") (hd : decode Y.2.1 pc = .ok (.invokespecial idx, 3)) (hst : st = As.reverse ++ .ref a :: rest) (hn : As.length = n) (hlen : lv.length = Y.2.2.1) (hw : (rest.map fun v => v.category).sum ≤ 8) (hfr : RM Y Z) (h1 : mc2 ≤ rc) (h2 : ms2 ≤ rs) (kk : ∀ v h', Ψ v h' → wp Y (pc + 3) lv (v.toList ++ rest) h' (rc - mc2) (rs - ms2) Φ) : wp Y pc lv st h rc rs Φ := by
  subst hst
  intro p l e R s m args below meth c H locs cells slots mc ms G b ls Q C hP hS hb hc hs hR hl HR
  have hts := cx_w C
  obtain ⟨b1, b2, b3⟩ := hB
  refine call_go (va_runIN ⟨C.1, C.2.1, C.2.2.1, C.2.2.2.1, hts⟩ (hM l G b) ⟨va_cnB n hts (gw_sub b1) (by unfold wsY; rw [hr0]) rfl rfl (C.2.2.2.2.2.2.2.1.2.1 _ w1 rfl) (hts _ b2) b3 ⟨Nat.le_trans hfr.1 hR.2.2.1, Nat.le_trans hfr.2 hR.2.2.2⟩, hy, hts _ w2⟩ ⟨PP.blind, fun U hU hW => ⟨rfl, PP.at hP C.2.2.2.2.2.2.2.1 hS hb hU hW⟩⟩ rfl hn (by show ls.size = _; rw [hl.1, hlen]) rfl (lv_room hw) hd ⟨by omega, by omega⟩) hS (fun v h' H1 locs1 hv hP1 hS1 => ?_)
  exact kk v h' hv p l e R s m args below meth c H1 locs1 (cells + mc2) (slots + ms2) mc ms G b ls Q C hP1 hS1 hb (by omega) (by omega) hR hl HR
theorem RP.recv {G : DG} {b : Nat} {h : HP} {H : Heap} {s : State} {a ci : Nat} {q : vw_C} {fs : List Value} (hP : RP G b h H) (hK : va_K G.1 vwCl (tys G.2.1) s) (ho : h.2 a = some (.inr (ci, fs))) (hc : vwCl[ci]? = some q) : ∃ cell : Cell, H[a]? = some cell ∧ cell.vm.isStatics = false ∧ s.vm.findClass q.1 = some cell.cls := va_recv hK (hP.one ho) hc (q0 := 0) rfl
theorem w_callV {Y : MT} {pc : Nat} {lv st : List Value} {h : HP} {rc rs : Nat} {Φ : Option Value → HP → Prop} {Z : MT} {idx n ci mc2 ms2 a : Nat} {fs : List Value} {As rest : List Value} {Ψ : Option Value → HP → Prop} (hM : sp Z (.ref a :: As) h mc2 ms2 Ψ) (ho : h.2 a = some (.inr (ci, fs))) (hci : (vwCl[ci]?).map (fun q => q.1) = some Z.1.cls) (hB : CB Z n) (w1 : Cond.methodLink Y.1.cls idx Z.1 ∈ gw) (w2 : Cond.instanceMethod Z.1 ∈ gw) (w3 : Cond.selects Z.1.cls Z.1 Z.1 ∈ gw) (hd : decode Y.2.1 pc = .ok (.invokevirtual idx, 3)) (hst : st = As.reverse ++ .ref a :: rest) (hn : As.length = n) (hlen : lv.length = Y.2.2.1) (hw : (rest.map fun v => v.category).sum ≤ 8) (hfr : RM Y Z) (h1 : mc2 ≤ rc) (h2 : ms2 ≤ rs) (kk : ∀ v h', Ψ v h' → wp Y (pc + 3) lv (v.toList ++ rest) h' (rc - mc2) (rs - ms2) Φ) : wp Y pc lv st h rc rs Φ := by
  subst hst
  intro p l e R s m args below meth c H locs cells slots mc ms G b ls Q C hP hS hb hc hs hR hl HR
  have hts := cx_w C
  obtain ⟨b1, b2, b3⟩ := hB
  obtain ⟨q, hq, hq2⟩ := Option.map_eq_some_iff.mp hci
  have hrc := hP.recv (cx_K C) ho hq
  rw [hq2] at hrc
  refine call_go (va_runV (C := Z.1.cls) ⟨C.1, C.2.1, C.2.2.1, C.2.2.2.1, hts⟩ (hM l G b) ⟨callB_of n hts (gw_sub b1) rfl rfl rfl (hts _ b2) (hts _ w1) b3 ⟨Nat.le_trans hfr.1 hR.2.2.1, Nat.le_trans hfr.2 hR.2.2.2⟩, hts _ w2, hts _ w3⟩ ⟨PP.blind, hrc, fun U hU hW => ⟨rfl, PP.at hP C.2.2.2.2.2.2.2.1 hS hb hU hW⟩⟩ rfl hn (by show ls.size = _; rw [hl.1, hlen]) rfl (lv_room hw) hd ⟨by omega, by omega⟩) hS (fun v h' H1 locs1 hv hP1 hS1 => ?_)
  exact kk v h' hv p l e R s m args below meth c H1 locs1 (cells + mc2) (slots + ms2) mc ms G b ls Q C hP1 hS1 hb (by omega) (by omega) hR hl HR
