abbrev vwCl : List vw_C := [(RX0, TX0, 4), (RX1, TX1, 9), (RX2, TX2, 15), (RX3, TX3, 5), (RX5, TX5, 4), (RX6, TX6, 3), (RX7, TX7, 14), (RX8, TX8, 17), (RX9, TX9, 7), (RX10, TX10, 28)]
/-- a cell: an array's kind and contents, or a class's number and its fields -/
abbrev CE : Type := (Nat × vp_A) ⊕ (Nat × List Value)
/-- a heap: the next address, the cells -/
abbrev HP : Type := Nat × (Nat → Option CE)
/-- a method: name, code, locals, answer's type, frames and words of locals below it -/
abbrev MT : Type := MethodName × ByteArray × Nat × Option FieldType × Nat × Nat
def up (f : Nat → Option CE) (a : Nat) (e : CE) : Nat → Option CE := fun x => if x = a then some e else f x
theorem up_s {f : Nat → Option CE} {a : Nat} {e : CE} : up f a e a = some e := if_pos rfl
theorem up_n {f : Nat → Option CE} {a x : Nat} {e : CE} (h : x ≠ a) : up f a e x = f x := if_neg h
def gw : List Cond := lw_tbl.filter goodWord
theorem gw_in {i : Nat} {w : Cond} (h : lw_tbl[i]? = some w) (g : goodWord w = true) : w ∈ gw := List.mem_filter.mpr ⟨List.mem_of_getElem? h, g⟩
theorem gw_tbl {w : Cond} (h : w ∈ gw) : w ∈ lw_tbl := (List.mem_filter.mp h).1
theorem gw_good {w : Cond} (h : w ∈ gw) : goodWord w = true := (List.mem_filter.mp h).2
def cv (dA : Nat → ClassId) (e : CE) : va_E := match e with
  | .inl a => .inl (dA a.1, a.2)
  | .inr o => .inr o
def tys (dA : Nat → ClassId) : List (ClassId × FieldType) := [(dA 0, .int), (dA 1, .long), (dA 2, .object RX2), (dA 3, .object RX8), (dA 4, .array .long)]
/-- what is fixed of a run: classes' numbers and slots, arrays' classes, string constants' cells, and a formatter -/
abbrev DG : Type := va_G × (Nat → ClassId) × (Nat → Nat) × (Nat → Nat) × Nat
def RP (G : DG) (b : Nat) (h : HP) (H : Heap) : Prop := H.size = h.1 ∧ ∀ (a : Nat) (e : CE), h.2 a = some e → b ≤ a ∧ va_at G.1 vwCl (a, cv G.2.1 e) H
theorem RP.put {G : DG} {b : Nat} {h : HP} {H H1 : Heap} {a : Nat} {e : CE} (hP : RP G b h H) (he : va_at G.1 vwCl (a, cv G.2.1 e) H1) (hba : b ≤ a) (hz : H1.size = H.size) (oq : ∀ q : Nat, q ≠ a → H1[q]? = H[q]?) : RP G b (h.1, up h.2 a e) H1 := by
  refine ⟨hz.trans hP.1, fun x y hx => ?_⟩
  by_cases hxa : x = a
  · subst hxa
    rw [show (h.1, up h.2 x e).2 x = some e from up_s] at hx
    cases hx
    exact ⟨hba, he⟩
  · rw [show (h.1, up h.2 a e).2 x = h.2 x from up_n hxa] at hx
    exact ⟨(hP.2 x y hx).1, (hP.2 x y hx).2.kept (oq x hxa)⟩
theorem RP.push {G : DG} {b : Nat} {h : HP} {H H1 : Heap} {e : CE} (hP : RP G b h H) (he : va_at G.1 vwCl (h.1, cv G.2.1 e) H1) (hba : b ≤ h.1) (hz : H1.size = h.1 + 1) (oq : ∀ q : Nat, q < h.1 → H1[q]? = H[q]?) : RP G b (h.1 + 1, up h.2 h.1 e) H1 := by
  refine ⟨hz, fun x y hx => ?_⟩
  by_cases hxa : x = h.1
  · subst hxa
    rw [show (h.1 + 1, up h.2 h.1 e).2 h.1 = some e from up_s] at hx
    cases hx
    exact ⟨hba, he⟩
  · rw [show (h.1 + 1, up h.2 h.1 e).2 x = h.2 x from up_n hxa] at hx
    have hlt := (hP.2 x y hx).2.lt
    exact ⟨(hP.2 x y hx).1, (hP.2 x y hx).2.kept (oq x (by rw [hP.1] at hlt; exact hlt))⟩
theorem ao_moved {ty : FieldType} {u U : State} (hvm : u.vm.Alike U.vm) (h : va_Nw (.arrayOver ty) u) : va_Nw (.arrayOver ty) U := by
  have f : ∀ n, U.vm.findClass n = u.vm.findClass n := fun n => hvm.findClass n _
  have hi : ∀ comp : ClassId, (U.vm.classes.findIdx? fun (x : Class) => match x.kind with | .array component _ => component == comp | _ => false) = (u.vm.classes.findIdx? fun (x : Class) => match x.kind with | .array component _ => component == comp | _ => false) := fun comp => by
    have h1 := va_idx_bare U.vm comp
    have h2 := va_idx_bare u.vm comp
    have hb : U.vm.bare = u.vm.bare := by first | exact hvm.bare_eq | exact hvm.bare_eq.symm
    rw [hb] at h1
    exact h1.symm.trans h2
  have key : ∀ (o : Option ClassId), ((o.bind fun comp => (u.vm.classes.findIdx? fun (x : Class) => match x.kind with | .array component _ => component == comp | _ => false).bind fun c => (u.vm.classes[c]?).map fun (k : Class) => match k.kind with
      | .array _ t => decide (t = ty) && decide (u.vm.findClass ("[" ++ ty.toString) = some c)
      | _ => false) == some true) = true → ((o.bind fun comp => (U.vm.classes.findIdx? fun (x : Class) => match x.kind with | .array component _ => component == comp | _ => false).bind fun c => (U.vm.classes[c]?).map fun (k : Class) => match k.kind with
      | .array _ t => decide (t = ty) && decide (U.vm.findClass ("[" ++ ty.toString) = some c)
      | _ => false) == some true) = true := by
    intro o h
    cases o with
    | none => simp at h
    | some comp =>
      rw [Option.bind_some] at h ⊢
      rw [hi comp]
      cases hq : (u.vm.classes.findIdx? fun (x : Class) => match x.kind with | .array component _ => component == comp | _ => false) with
      | none => rw [hq] at h; simp at h
      | some c =>
        rw [hq] at h
        rw [Option.bind_some] at h ⊢
        cases hk : u.vm.classes[c]? with
        | none => rw [hk] at h; simp at h
        | some k =>
          obtain ⟨k', hk', he⟩ := hvm.2.2 _ _ hk
          rw [hk', f]
          rw [hk] at h
          have hkd : k'.kind = k.kind := by rw [he]
          rw [Option.map_some] at h ⊢
          rw [hkd]
          exact h
  unfold va_Nw Cond.before Cond.holds at h ⊢
  simp only [Cond.value] at h ⊢
  cases ty with
  | object n =>
    have h2 := key (u.vm.findClass n) h
    rw [← f n] at h2
    exact h2
  | array t =>
    have h2 := key (u.vm.findClass (FieldType.array t).toString) h
    rw [← f (FieldType.array t).toString] at h2
    exact h2
  | _ => simp at h
def isN : Cond → Bool
  | .methodLinkNest _ _ _ _ => true
  | .castable _ _ => true
  | .arrayOver _ => true
  | _ => false
def NW (U : State) : Prop := ∀ w ∈ lw_tbl, isN w = true → va_Nw w U
theorem NW.warm {s U : State} (hW : s.WarmedH U.vm) (h : NW s) : NW U := by
  intro w hw hn
  have h1 := h w hw hn
  cases w <;> first | (exact va_Nw.warmM hW h1) | (exact va_Nw.warmC hW h1) | (exact ao_moved hW.alike h1) | (cases hn)
theorem NW.same {s U : State} (hv : s.vm = U.vm) (h : NW s) : NW U := by
  intro w hw hn
  have h1 := h w hw hn
  cases w <;> first | (exact va_Nw.same rfl hv h1) | (exact ao_moved (by rw [hv]; exact Vm.Alike.refl _) h1) | (cases hn)
def scI : Nat → Nat := fun k => match k with
  | 0 => 73
  | 1 => 82
  | 2 => 87
  | _ => 88
def scT : Nat → String := fun k => match k with
  | 0 => "row"
  | 1 => "lift"
  | 2 => "offset"
  | _ => "most"
def scL : List Nat := [3, 4, 6, 4]
def scB : List (List Int32) := [[114, 111, 119], [108, 105, 102, 116], [111, 102, 102, 115, 101, 116], [109, 111, 115, 116]]
def fmV : Nat → Value
  | 0 => .null
  | n + 1 => .ref n
def SX (g : (Nat → Nat) × (Nat → Nat) × Nat) (b : Nat) (U : State) (H : Heap) : Prop :=
  (∀ i : Nat, i < 4 → vk_R RX7 (scI i) (scT i) (g.1 i) U) ∧ vk_S 4 scL scB g.1 g.2.1 (fun q => b ≤ q) U H ∧ va_Z "java/lang/String" "COMPACT_STRINGS" "Z" (.int 1) (fun q => b ≤ q) U H ∧ va_Z "jdk/internal/util/Preconditions" "SIOOBE_FORMATTER" "Ljava/util/function/BiFunction;" (fmV g.2.2) (fun q => b ≤ q) U H
def KK (G : DG) (b : Nat) (U : State) (H : Heap) : Prop := va_K G.1 vwCl (tys G.2.1) U ∧ NW U ∧ SX G.2.2 b U H
theorem KK.go {G : DG} {b : Nat} {s U : State} {H H1 : Heap} (hW : s.WarmedH U.vm) (hq : ∀ a : Nat, a < H.size → ¬ b ≤ a → H1[a]? = H[a]?) (h : KK G b s H) : KK G b U H1 := by
  obtain ⟨h1, h2, h3, h4, h5, h6⟩ := h
  exact ⟨va_K.moved hW.alike h1, h2.warm hW, fun i hi => (h3 i hi).warm hW, (h4.moved hW.alike).kept hq, (h5.moved hW.alike).kept hq, (h6.moved hW.alike).kept hq⟩
theorem KK.same {G : DG} {b : Nat} {s U : State} {H : Heap} (hv : s.vm = U.vm) (h : KK G b s H) : KK G b U H := by
  obtain ⟨h1, h2, h3, h4, h5, h6⟩ := h
  have ha : s.vm.Alike U.vm := by rw [hv]; exact Vm.Alike.refl _
  exact ⟨va_K.moved ha h1, h2.same hv, fun i hi => vk_R.same hv.symm (h3 i hi), h4.moved ha, h5.moved ha, h6.moved ha⟩
def CX (Y : MT) (p : Program) (s : State) (m : MethodId) (args : Array Value) (meth : Method) (c : Code) (G : DG) (b : Nat) : Prop :=
  p.tables.exec = Jvm.exec ∧ c.code = Y.2.1 ∧ c.maxLocals = Y.2.2.1 ∧ s.vm.findClass Y.1.cls = some m.cls ∧ (∀ w ∈ gw, w.before args s = true) ∧ meth.sig.returnType = Y.2.2.2.1 ∧ meth.locks = false ∧ KK G b s s.heap ∧ meth.name = Y.1.name
def nf (v : Value) : Bool := match v with
  | .float _ => false
  | _ => true
abbrev jk : Value := .float 0
def LV (lv : List Value) (ls : Array Slot) : Prop := ls.size = lv.length ∧ lv_wf ls ∧ ∀ (i : Nat) (v : Value), lv[i]? = some v → nf v = true → ls[i]? = some (.val v)
def RA (Y : MT) (pc : Nat) (v : Option Value) : Prop := match v with
  | none => Y.2.2.2.1 = none ∧ decode Y.2.1 pc = .ok (.return_, 1)
  | some (.int x) => ∃ ty, Y.2.2.2.1 = some ty ∧ narrow ty (.int x) = .int x ∧ decode Y.2.1 pc = .ok (.ireturn, 1)
  | some (.long _) => Y.2.2.2.1 = some .long ∧ decode Y.2.1 pc = .ok (.lreturn, 1)
  | some (.ref _) => ∃ rt, Y.2.2.2.1 = some rt ∧ ((∃ n, rt = .object n) ∨ ∃ t, rt = .array t) ∧ decode Y.2.1 pc = .ok (.areturn, 1)
  | some .null => ∃ rt, Y.2.2.2.1 = some rt ∧ ((∃ n, rt = .object n) ∨ ∃ t, rt = .array t) ∧ decode Y.2.1 pc = .ok (.areturn, 1)
  | _ => False
def wp (Y : MT) (pc : Nat) (lv st : List Value) (h : HP) (rc rs : Nat) (Φ : Option Value → HP → Prop) : Prop :=
  ∀ (p : Program) (l : Launch) (e : Env) (R : Room) (s : State) (m : MethodId) (args : Array Value) (below : List Frame) (meth : Method) (c : Code) (H : Heap) (locs : List Loc) (cells slots mc ms : Nat) (G : DG) (b : Nat) (ls : Array Slot) (Q : State → Prop),
    CX Y p s m args meth c G b → RP G b h H → va_S (fun q => b ≤ q) s.heap H locs → b ≤ s.heap.size → cells + rc ≤ mc → slots + rs ≤ ms →
    (mc ≤ R.cells ∧ ms ≤ R.slots ∧ Y.2.2.2.2.1 ≤ R.frames ∧ Y.2.2.2.2.2 ≤ R.locals) → LV lv ls →
    (∀ (v : Option Value) (h' : HP) (H' : Heap) (locs' : List Loc) (cells' slots' pc' : Nat) (ls' : Array Slot), Φ v h' → RA Y pc' v → RP G b h' H' → va_S (fun q => b ≤ q) s.heap H' locs' → cells' ≤ mc → slots' ≤ ms → W p l e R s m args below meth c H' locs' cells' slots' Q (F0 m pc' ls' v.toList)) →
    W p l e R s m args below meth c H locs cells slots Q (F0 m pc ls st)
def zI (z : Int) : Int32 := Int32.ofInt z
def lB (v : BitVec 64) : Int64 := Int64.ofBitVec v
theorem zI_add (a b : Int) : zI a + zI b = zI (a + b) := (Int32.ofInt_add a b).symm
theorem zI_sub (a b : Int) : zI a - zI b = zI (a - b) := (Int32.ofInt_sub a b).symm
theorem zI_mul (a b : Int) : zI a * zI b = zI (a * b) := (Int32.ofInt_mul a b).symm
theorem zI_neg (a : Int) : - zI a = zI (-a) := (Int32.ofInt_neg a).symm
def ok32 (z : Int) : Prop := -2147483648 ≤ z ∧ z ≤ 2147483647
theorem zI_toInt {z : Int} (h : ok32 z) : (zI z).toInt = z := Int32.toInt_ofInt_of_le (by unfold ok32 at h; omega) (by unfold ok32 at h; omega)
theorem zI_lt {a b : Int} (ha : ok32 a) (hb : ok32 b) : zI a < zI b ↔ a < b := by rw [Int32.lt_iff_toInt_lt, zI_toInt ha, zI_toInt hb]
theorem zI_le {a b : Int} (ha : ok32 a) (hb : ok32 b) : zI a ≤ zI b ↔ a ≤ b := by rw [Int32.le_iff_toInt_le, zI_toInt ha, zI_toInt hb]
theorem zI_eq {a b : Int} (ha : ok32 a) (hb : ok32 b) : zI a = zI b ↔ a = b := ⟨fun h => by have := congrArg Int32.toInt h; rwa [zI_toInt ha, zI_toInt hb] at this, fun h => by rw [h]⟩
theorem zI_0 : zI 0 = 0 := rfl
theorem zI_of (x : Int32) : zI x.toInt = x := Int32.ofInt_toInt x
theorem ok32_of (x : Int32) : ok32 x.toInt := ⟨by have := Int32.le_toInt x; omega, by have := Int32.toInt_lt x; omega⟩
theorem zI_clamp {z : Int} (h : ok32 z) : (zI z).toNatClampNeg = z.toNat := by
  show (zI z).toInt.toNat = z.toNat
  rw [zI_toInt h]
theorem zI_in {k n : Nat} (h : k < n) (hn : n ≤ 2147483648) : vp_in (zI (k : Int)) n ∧ (zI (k : Int)).toNatClampNeg = k := by
  have ho : ok32 (k : Int) := ⟨by omega, by omega⟩
  have h2 : (zI (k : Int)).toNatClampNeg = k := by rw [zI_clamp ho]; omega
  refine ⟨fun q => ?_, h2⟩
  rcases q with q | q
  · have := (zI_lt ho (⟨by omega, by omega⟩ : ok32 0)).mp (by rw [zI_0]; exact q)
    omega
  · omega
theorem zI_div {a d : Int} (ha : ok32 a) (h0 : 0 ≤ a) (hd : 0 < d) (hd2 : ok32 d) : zI a / zI d = zI (a / d) := by
  have h1 : zI (a.tdiv d) = zI a / zI d := Int32.ofInt_tdiv (Int.le_trans (Int.le_of_eq (by decide)) ha.1) (Int.le_trans ha.2 (Int.le_of_eq (by decide))) (Int.le_trans (Int.le_of_eq (by decide)) hd2.1) (Int.le_trans hd2.2 (Int.le_of_eq (by decide)))
  rw [← h1, Int.tdiv_eq_ediv_of_nonneg h0]
theorem zI_rem {a d : Int} (ha : ok32 a) (h0 : 0 ≤ a) (hd : 0 < d) (hd2 : ok32 d) : zI a - zI a / zI d * zI d = zI (a % d) := by
  rw [zI_div ha h0 hd hd2, zI_mul, zI_sub]
  congr 1
  have := Int.mul_ediv_add_emod a d
  rw [Int.mul_comm] at this
  omega
theorem w_iaddR {Y : MT} {pc : Nat} {lv st : List Value} {h : HP} {rc rs : Nat} {Φ : Option Value → HP → Prop} {x y : Int32} (hd : decode Y.2.1 pc = .ok (.iadd, 1)) (k : wp Y (pc + 1) lv (.int (x + y) :: st) h rc rs Φ) : wp Y pc lv (.int y :: .int x :: st) h rc rs Φ :=
  fun p l e R s m args below meth c H locs cells slots mc ms G b ls Q C hP hS hb hc hs hR hl HR => lv_iadd C.1 C.2.1 hd  (k p l e R s m args below meth c H locs cells slots mc ms G b ls Q C hP hS hb hc hs hR hl HR)
theorem w_isubR {Y : MT} {pc : Nat} {lv st : List Value} {h : HP} {rc rs : Nat} {Φ : Option Value → HP → Prop} {x y : Int32} (hd : decode Y.2.1 pc = .ok (.isub, 1)) (k : wp Y (pc + 1) lv (.int (x - y) :: st) h rc rs Φ) : wp Y pc lv (.int y :: .int x :: st) h rc rs Φ :=
  fun p l e R s m args below meth c H locs cells slots mc ms G b ls Q C hP hS hb hc hs hR hl HR => lv_isub C.1 C.2.1 hd  (k p l e R s m args below meth c H locs cells slots mc ms G b ls Q C hP hS hb hc hs hR hl HR)
theorem w_imulR {Y : MT} {pc : Nat} {lv st : List Value} {h : HP} {rc rs : Nat} {Φ : Option Value → HP → Prop} {x y : Int32} (hd : decode Y.2.1 pc = .ok (.imul, 1)) (k : wp Y (pc + 1) lv (.int (x * y) :: st) h rc rs Φ) : wp Y pc lv (.int y :: .int x :: st) h rc rs Φ :=
  fun p l e R s m args below meth c H locs cells slots mc ms G b ls Q C hP hS hb hc hs hR hl HR => lv_imul C.1 C.2.1 hd  (k p l e R s m args below meth c H locs cells slots mc ms G b ls Q C hP hS hb hc hs hR hl HR)
theorem w_iandR {Y : MT} {pc : Nat} {lv st : List Value} {h : HP} {rc rs : Nat} {Φ : Option Value → HP → Prop} {x y : Int32} (hd : decode Y.2.1 pc = .ok (.iand, 1)) (k : wp Y (pc + 1) lv (.int (x &&& y) :: st) h rc rs Φ) : wp Y pc lv (.int y :: .int x :: st) h rc rs Φ :=
  fun p l e R s m args below meth c H locs cells slots mc ms G b ls Q C hP hS hb hc hs hR hl HR => lv_iand C.1 C.2.1 hd  (k p l e R s m args below meth c H locs cells slots mc ms G b ls Q C hP hS hb hc hs hR hl HR)
theorem w_iorR {Y : MT} {pc : Nat} {lv st : List Value} {h : HP} {rc rs : Nat} {Φ : Option Value → HP → Prop} {x y : Int32} (hd : decode Y.2.1 pc = .ok (.ior, 1)) (k : wp Y (pc + 1) lv (.int (x ||| y) :: st) h rc rs Φ) : wp Y pc lv (.int y :: .int x :: st) h rc rs Φ :=
  fun p l e R s m args below meth c H locs cells slots mc ms G b ls Q C hP hS hb hc hs hR hl HR => lv_ior C.1 C.2.1 hd  (k p l e R s m args below meth c H locs cells slots mc ms G b ls Q C hP hS hb hc hs hR hl HR)
theorem w_ixorR {Y : MT} {pc : Nat} {lv st : List Value} {h : HP} {rc rs : Nat} {Φ : Option Value → HP → Prop} {x y : Int32} (hd : decode Y.2.1 pc = .ok (.ixor, 1)) (k : wp Y (pc + 1) lv (.int (x ^^^ y) :: st) h rc rs Φ) : wp Y pc lv (.int y :: .int x :: st) h rc rs Φ :=
  fun p l e R s m args below meth c H locs cells slots mc ms G b ls Q C hP hS hb hc hs hR hl HR => lv_ixor C.1 C.2.1 hd  (k p l e R s m args below meth c H locs cells slots mc ms G b ls Q C hP hS hb hc hs hR hl HR)
theorem w_inegR {Y : MT} {pc : Nat} {lv st : List Value} {h : HP} {rc rs : Nat} {Φ : Option Value → HP → Prop} {x : Int32} (hd : decode Y.2.1 pc = .ok (.ineg, 1)) (k : wp Y (pc + 1) lv (.int (-x) :: st) h rc rs Φ) : wp Y pc lv (.int x :: st) h rc rs Φ :=
  fun p l e R s m args below meth c H locs cells slots mc ms G b ls Q C hP hS hb hc hs hR hl HR => lv_ineg C.1 C.2.1 hd  (k p l e R s m args below meth c H locs cells slots mc ms G b ls Q C hP hS hb hc hs hR hl HR)
theorem w_laddR {Y : MT} {pc : Nat} {lv st : List Value} {h : HP} {rc rs : Nat} {Φ : Option Value → HP → Prop} {x y : Int64} (hd : decode Y.2.1 pc = .ok (.ladd, 1)) (k : wp Y (pc + 1) lv (.long (x + y) :: st) h rc rs Φ) : wp Y pc lv (.long y :: .long x :: st) h rc rs Φ :=
  fun p l e R s m args below meth c H locs cells slots mc ms G b ls Q C hP hS hb hc hs hR hl HR => lv_ladd C.1 C.2.1 hd  (k p l e R s m args below meth c H locs cells slots mc ms G b ls Q C hP hS hb hc hs hR hl HR)
theorem w_lsubR {Y : MT} {pc : Nat} {lv st : List Value} {h : HP} {rc rs : Nat} {Φ : Option Value → HP → Prop} {x y : Int64} (hd : decode Y.2.1 pc = .ok (.lsub, 1)) (k : wp Y (pc + 1) lv (.long (x - y) :: st) h rc rs Φ) : wp Y pc lv (.long y :: .long x :: st) h rc rs Φ :=
  fun p l e R s m args below meth c H locs cells slots mc ms G b ls Q C hP hS hb hc hs hR hl HR => lv_lsub C.1 C.2.1 hd  (k p l e R s m args below meth c H locs cells slots mc ms G b ls Q C hP hS hb hc hs hR hl HR)
theorem w_lmulR {Y : MT} {pc : Nat} {lv st : List Value} {h : HP} {rc rs : Nat} {Φ : Option Value → HP → Prop} {x y : Int64} (hd : decode Y.2.1 pc = .ok (.lmul, 1)) (k : wp Y (pc + 1) lv (.long (x * y) :: st) h rc rs Φ) : wp Y pc lv (.long y :: .long x :: st) h rc rs Φ :=
  fun p l e R s m args below meth c H locs cells slots mc ms G b ls Q C hP hS hb hc hs hR hl HR => lv_lmul C.1 C.2.1 hd  (k p l e R s m args below meth c H locs cells slots mc ms G b ls Q C hP hS hb hc hs hR hl HR)
theorem w_landR {Y : MT} {pc : Nat} {lv st : List Value} {h : HP} {rc rs : Nat} {Φ : Option Value → HP → Prop} {x y : Int64} (hd : decode Y.2.1 pc = .ok (.land, 1)) (k : wp Y (pc + 1) lv (.long (x &&& y) :: st) h rc rs Φ) : wp Y pc lv (.long y :: .long x :: st) h rc rs Φ :=
  fun p l e R s m args below meth c H locs cells slots mc ms G b ls Q C hP hS hb hc hs hR hl HR => lv_land C.1 C.2.1 hd  (k p l e R s m args below meth c H locs cells slots mc ms G b ls Q C hP hS hb hc hs hR hl HR)
theorem w_lorR {Y : MT} {pc : Nat} {lv st : List Value} {h : HP} {rc rs : Nat} {Φ : Option Value → HP → Prop} {x y : Int64} (hd : decode Y.2.1 pc = .ok (.lor, 1)) (k : wp Y (pc + 1) lv (.long (x ||| y) :: st) h rc rs Φ) : wp Y pc lv (.long y :: .long x :: st) h rc rs Φ :=
  fun p l e R s m args below meth c H locs cells slots mc ms G b ls Q C hP hS hb hc hs hR hl HR => lv_lor C.1 C.2.1 hd  (k p l e R s m args below meth c H locs cells slots mc ms G b ls Q C hP hS hb hc hs hR hl HR)
theorem w_lxorR {Y : MT} {pc : Nat} {lv st : List Value} {h : HP} {rc rs : Nat} {Φ : Option Value → HP → Prop} {x y : Int64} (hd : decode Y.2.1 pc = .ok (.lxor, 1)) (k : wp Y (pc + 1) lv (.long (x ^^^ y) :: st) h rc rs Φ) : wp Y pc lv (.long y :: .long x :: st) h rc rs Φ :=
  fun p l e R s m args below meth c H locs cells slots mc ms G b ls Q C hP hS hb hc hs hR hl HR => lv_lxor C.1 C.2.1 hd  (k p l e R s m args below meth c H locs cells slots mc ms G b ls Q C hP hS hb hc hs hR hl HR)
theorem w_lnegR {Y : MT} {pc : Nat} {lv st : List Value} {h : HP} {rc rs : Nat} {Φ : Option Value → HP → Prop} {x : Int64} (hd : decode Y.2.1 pc = .ok (.lneg, 1)) (k : wp Y (pc + 1) lv (.long (-x) :: st) h rc rs Φ) : wp Y pc lv (.long x :: st) h rc rs Φ :=
  fun p l e R s m args below meth c H locs cells slots mc ms G b ls Q C hP hS hb hc hs hR hl HR => lv_lneg C.1 C.2.1 hd  (k p l e R s m args below meth c H locs cells slots mc ms G b ls Q C hP hS hb hc hs hR hl HR)
theorem w_idivR {Y : MT} {pc : Nat} {lv st : List Value} {h : HP} {rc rs : Nat} {Φ : Option Value → HP → Prop} {x y : Int32} (hd : decode Y.2.1 pc = .ok (.idiv, 1)) (hne : ¬ y = 0) (k : wp Y (pc + 1) lv (.int (x / y) :: st) h rc rs Φ) : wp Y pc lv (.int y :: .int x :: st) h rc rs Φ :=
  fun p l e R s m args below meth c H locs cells slots mc ms G b ls Q C hP hS hb hc hs hR hl HR => lv_idiv C.1 C.2.1 hd hne (k p l e R s m args below meth c H locs cells slots mc ms G b ls Q C hP hS hb hc hs hR hl HR)
theorem w_iremR {Y : MT} {pc : Nat} {lv st : List Value} {h : HP} {rc rs : Nat} {Φ : Option Value → HP → Prop} {x y : Int32} (hd : decode Y.2.1 pc = .ok (.irem, 1)) (hne : ¬ y = 0) (k : wp Y (pc + 1) lv (.int (x - x / y * y) :: st) h rc rs Φ) : wp Y pc lv (.int y :: .int x :: st) h rc rs Φ :=
  fun p l e R s m args below meth c H locs cells slots mc ms G b ls Q C hP hS hb hc hs hR hl HR => lv_irem C.1 C.2.1 hd hne (k p l e R s m args below meth c H locs cells slots mc ms G b ls Q C hP hS hb hc hs hR hl HR)
theorem w_ldivR {Y : MT} {pc : Nat} {lv st : List Value} {h : HP} {rc rs : Nat} {Φ : Option Value → HP → Prop} {x y : Int64} (hd : decode Y.2.1 pc = .ok (.ldiv, 1)) (hne : ¬ y = 0) (k : wp Y (pc + 1) lv (.long (x / y) :: st) h rc rs Φ) : wp Y pc lv (.long y :: .long x :: st) h rc rs Φ :=
  fun p l e R s m args below meth c H locs cells slots mc ms G b ls Q C hP hS hb hc hs hR hl HR => lv_ldiv C.1 C.2.1 hd hne (k p l e R s m args below meth c H locs cells slots mc ms G b ls Q C hP hS hb hc hs hR hl HR)
theorem w_lremR {Y : MT} {pc : Nat} {lv st : List Value} {h : HP} {rc rs : Nat} {Φ : Option Value → HP → Prop} {x y : Int64} (hd : decode Y.2.1 pc = .ok (.lrem, 1)) (hne : ¬ y = 0) (k : wp Y (pc + 1) lv (.long (x - x / y * y) :: st) h rc rs Φ) : wp Y pc lv (.long y :: .long x :: st) h rc rs Φ :=
  fun p l e R s m args below meth c H locs cells slots mc ms G b ls Q C hP hS hb hc hs hR hl HR => lv_lrem C.1 C.2.1 hd hne (k p l e R s m args below meth c H locs cells slots mc ms G b ls Q C hP hS hb hc hs hR hl HR)
theorem w_ishlR {Y : MT} {pc : Nat} {lv st : List Value} {h : HP} {rc rs : Nat} {Φ : Option Value → HP → Prop} {x y : Int32} (hd : decode Y.2.1 pc = .ok (.ishl, 1)) (k : wp Y (pc + 1) lv (.int (x <<< (y &&& 31)) :: st) h rc rs Φ) : wp Y pc lv (.int y :: .int x :: st) h rc rs Φ :=
  fun p l e R s m args below meth c H locs cells slots mc ms G b ls Q C hP hS hb hc hs hR hl HR => lv_ishl C.1 C.2.1 hd  (k p l e R s m args below meth c H locs cells slots mc ms G b ls Q C hP hS hb hc hs hR hl HR)
theorem w_ishrR {Y : MT} {pc : Nat} {lv st : List Value} {h : HP} {rc rs : Nat} {Φ : Option Value → HP → Prop} {x y : Int32} (hd : decode Y.2.1 pc = .ok (.ishr, 1)) (k : wp Y (pc + 1) lv (.int (x >>> (y &&& 31)) :: st) h rc rs Φ) : wp Y pc lv (.int y :: .int x :: st) h rc rs Φ :=
  fun p l e R s m args below meth c H locs cells slots mc ms G b ls Q C hP hS hb hc hs hR hl HR => lv_ishr C.1 C.2.1 hd  (k p l e R s m args below meth c H locs cells slots mc ms G b ls Q C hP hS hb hc hs hR hl HR)
theorem w_iushrR {Y : MT} {pc : Nat} {lv st : List Value} {h : HP} {rc rs : Nat} {Φ : Option Value → HP → Prop} {x y : Int32} (hd : decode Y.2.1 pc = .ok (.iushr, 1)) (k : wp Y (pc + 1) lv (.int ((x.toUInt32 >>> (y.toUInt32 &&& Int32.toUInt32 31)).toInt32) :: st) h rc rs Φ) : wp Y pc lv (.int y :: .int x :: st) h rc rs Φ :=
  fun p l e R s m args below meth c H locs cells slots mc ms G b ls Q C hP hS hb hc hs hR hl HR => lv_iushr C.1 C.2.1 hd rfl (k p l e R s m args below meth c H locs cells slots mc ms G b ls Q C hP hS hb hc hs hR hl HR)
theorem w_lushrR {Y : MT} {pc : Nat} {lv st : List Value} {h : HP} {rc rs : Nat} {Φ : Option Value → HP → Prop} {x : Int64} {y : Int32} (hd : decode Y.2.1 pc = .ok (.lushr, 1)) (k : wp Y (pc + 1) lv (.long ((x.toUInt64 >>> (y.toInt64.toUInt64 &&& Int64.toUInt64 63)).toInt64) :: st) h rc rs Φ) : wp Y pc lv (.int y :: .long x :: st) h rc rs Φ :=
  fun p l e R s m args below meth c H locs cells slots mc ms G b ls Q C hP hS hb hc hs hR hl HR => lv_lushr C.1 C.2.1 hd rfl (k p l e R s m args below meth c H locs cells slots mc ms G b ls Q C hP hS hb hc hs hR hl HR)
theorem w_lshlR {Y : MT} {pc : Nat} {lv st : List Value} {h : HP} {rc rs : Nat} {Φ : Option Value → HP → Prop} {x : Int64} {y : Int32} (hd : decode Y.2.1 pc = .ok (.lshl, 1)) (k : wp Y (pc + 1) lv (.long (x <<< (y.toInt64 &&& 63)) :: st) h rc rs Φ) : wp Y pc lv (.int y :: .long x :: st) h rc rs Φ :=
  fun p l e R s m args below meth c H locs cells slots mc ms G b ls Q C hP hS hb hc hs hR hl HR => lv_lshl C.1 C.2.1 hd rfl (k p l e R s m args below meth c H locs cells slots mc ms G b ls Q C hP hS hb hc hs hR hl HR)
theorem w_lshrR {Y : MT} {pc : Nat} {lv st : List Value} {h : HP} {rc rs : Nat} {Φ : Option Value → HP → Prop} {x : Int64} {y : Int32} (hd : decode Y.2.1 pc = .ok (.lshr, 1)) (k : wp Y (pc + 1) lv (.long (x >>> (y.toInt64 &&& 63)) :: st) h rc rs Φ) : wp Y pc lv (.int y :: .long x :: st) h rc rs Φ :=
  fun p l e R s m args below meth c H locs cells slots mc ms G b ls Q C hP hS hb hc hs hR hl HR => lv_lshr C.1 C.2.1 hd rfl (k p l e R s m args below meth c H locs cells slots mc ms G b ls Q C hP hS hb hc hs hR hl HR)
theorem w_i2lR {Y : MT} {pc : Nat} {lv st : List Value} {h : HP} {rc rs : Nat} {Φ : Option Value → HP → Prop} {x : Int32} (hd : decode Y.2.1 pc = .ok (.i2l, 1)) (k : wp Y (pc + 1) lv (.long x.toInt64 :: st) h rc rs Φ) : wp Y pc lv (.int x :: st) h rc rs Φ :=
  fun p l e R s m args below meth c H locs cells slots mc ms G b ls Q C hP hS hb hc hs hR hl HR => lv_i2l C.1 C.2.1 hd rfl (k p l e R s m args below meth c H locs cells slots mc ms G b ls Q C hP hS hb hc hs hR hl HR)
theorem w_l2iR {Y : MT} {pc : Nat} {lv st : List Value} {h : HP} {rc rs : Nat} {Φ : Option Value → HP → Prop} {x : Int64} (hd : decode Y.2.1 pc = .ok (.l2i, 1)) (k : wp Y (pc + 1) lv (.int x.toInt32 :: st) h rc rs Φ) : wp Y pc lv (.long x :: st) h rc rs Φ :=
  fun p l e R s m args below meth c H locs cells slots mc ms G b ls Q C hP hS hb hc hs hR hl HR => lv_l2i C.1 C.2.1 hd rfl (k p l e R s m args below meth c H locs cells slots mc ms G b ls Q C hP hS hb hc hs hR hl HR)
theorem w_i2d {Y : MT} {pc : Nat} {lv st : List Value} {h : HP} {rc rs : Nat} {Φ : Option Value → HP → Prop} {x : Int32} (hd : decode Y.2.1 pc = .ok (.i2d, 1)) (k : wp Y (pc + 1) lv (.double (FP.i2d x) :: st) h rc rs Φ) : wp Y pc lv (.int x :: st) h rc rs Φ :=
  fun p l e R s m args below meth c H locs cells slots mc ms G b ls Q C hP hS hb hc hs hR hl HR => lv_i2d C.1 C.2.1 hd  (k p l e R s m args below meth c H locs cells slots mc ms G b ls Q C hP hS hb hc hs hR hl HR)
theorem w_ddiv {Y : MT} {pc : Nat} {lv st : List Value} {h : HP} {rc rs : Nat} {Φ : Option Value → HP → Prop} {x y : UInt64} (hd : decode Y.2.1 pc = .ok (.ddiv, 1)) (hne : vf_n64 (FP.ddiv x y)) (k : wp Y (pc + 1) lv (.double (FP.ddiv x y) :: st) h rc rs Φ) : wp Y pc lv (.double y :: .double x :: st) h rc rs Φ :=
  fun p l e R s m args below meth c H locs cells slots mc ms G b ls Q C hP hS hb hc hs hR hl HR => lv_ddiv C.1 C.2.1 hd hne (k p l e R s m args below meth c H locs cells slots mc ms G b ls Q C hP hS hb hc hs hR hl HR)
theorem w_dcmp {Y : MT} {pc : Nat} {lv st : List Value} {h : HP} {rc rs : Nat} {Φ : Option Value → HP → Prop} {x y : UInt64} {op : CmpOp} (hd : decode Y.2.1 pc = .ok (.dcmp op, 1)) (k : wp Y (pc + 1) lv (.int (Op.cmpValue (FP.dcmp x y) op) :: st) h rc rs Φ) : wp Y pc lv (.double y :: .double x :: st) h rc rs Φ :=
  fun p l e R s m args below meth c H locs cells slots mc ms G b ls Q C hP hS hb hc hs hR hl HR => lv_dcmp C.1 C.2.1 hd  (k p l e R s m args below meth c H locs cells slots mc ms G b ls Q C hP hS hb hc hs hR hl HR)
theorem w_dup {Y : MT} {pc : Nat} {lv st : List Value} {h : HP} {rc rs : Nat} {Φ : Option Value → HP → Prop} {va : Value} (hd : decode Y.2.1 pc = .ok (.dup, 1)) (hva : va.category = 1) (k : wp Y (pc + 1) lv (va :: va :: st) h rc rs Φ) : wp Y pc lv (va :: st) h rc rs Φ :=
  fun p l e R s m args below meth c H locs cells slots mc ms G b ls Q C hP hS hb hc hs hR hl HR => lv_dup C.1 C.2.1 hd hva (k p l e R s m args below meth c H locs cells slots mc ms G b ls Q C hP hS hb hc hs hR hl HR)
theorem w_pop {Y : MT} {pc : Nat} {lv st : List Value} {h : HP} {rc rs : Nat} {Φ : Option Value → HP → Prop} {va : Value} (hd : decode Y.2.1 pc = .ok (.pop, 1)) (hva : va.category = 1) (k : wp Y (pc + 1) lv (st) h rc rs Φ) : wp Y pc lv (va :: st) h rc rs Φ :=
  fun p l e R s m args below meth c H locs cells slots mc ms G b ls Q C hP hS hb hc hs hR hl HR => lv_pop C.1 C.2.1 hd hva (k p l e R s m args below meth c H locs cells slots mc ms G b ls Q C hP hS hb hc hs hR hl HR)
theorem w_dup2 {Y : MT} {pc : Nat} {lv st : List Value} {h : HP} {rc rs : Nat} {Φ : Option Value → HP → Prop} {va vb : Value} (hd : decode Y.2.1 pc = .ok (.dup2, 1)) (hva : va.category = 1) (hvb : vb.category = 1) (k : wp Y (pc + 1) lv (va :: vb :: va :: vb :: st) h rc rs Φ) : wp Y pc lv (va :: vb :: st) h rc rs Φ :=
  fun p l e R s m args below meth c H locs cells slots mc ms G b ls Q C hP hS hb hc hs hR hl HR => lv_dup2_11 C.1 C.2.1 hd hva hvb (k p l e R s m args below meth c H locs cells slots mc ms G b ls Q C hP hS hb hc hs hR hl HR)
theorem w_null {Y : MT} {pc : Nat} {lv st : List Value} {h : HP} {rc rs : Nat} {Φ : Option Value → HP → Prop}  (hd : decode Y.2.1 pc = .ok (.aconst_null, 1)) (k : wp Y (pc + 1) lv (.null :: st) h rc rs Φ) : wp Y pc lv (st) h rc rs Φ :=
  fun p l e R s m args below meth c H locs cells slots mc ms G b ls Q C hP hS hb hc hs hR hl HR => lv_null C.1 C.2.1 hd  (k p l e R s m args below meth c H locs cells slots mc ms G b ls Q C hP hS hb hc hs hR hl HR)
theorem w_iconst {Y : MT} {pc : Nat} {lv st : List Value} {h : HP} {rc rs : Nat} {Φ : Option Value → HP → Prop} {n : Int} (hd : decode Y.2.1 pc = .ok (.iconst n, 1)) (k : wp Y (pc + 1) lv (.int (zI n) :: st) h rc rs Φ) : wp Y pc lv (st) h rc rs Φ :=
  fun p l e R s m args below meth c H locs cells slots mc ms G b ls Q C hP hS hb hc hs hR hl HR => lv_iconst C.1 C.2.1 hd rfl (k p l e R s m args below meth c H locs cells slots mc ms G b ls Q C hP hS hb hc hs hR hl HR)
theorem w_bipush {Y : MT} {pc : Nat} {lv st : List Value} {h : HP} {rc rs : Nat} {Φ : Option Value → HP → Prop} {n : Int} (hd : decode Y.2.1 pc = .ok (.bipush n, 2)) (hv : (Int8.ofInt n).toInt32 = zI n) (k : wp Y (pc + 2) lv (.int (zI n) :: st) h rc rs Φ) : wp Y pc lv (st) h rc rs Φ :=
  fun p l e R s m args below meth c H locs cells slots mc ms G b ls Q C hP hS hb hc hs hR hl HR => lv_bipush C.1 C.2.1 hd hv (k p l e R s m args below meth c H locs cells slots mc ms G b ls Q C hP hS hb hc hs hR hl HR)
theorem w_sipush {Y : MT} {pc : Nat} {lv st : List Value} {h : HP} {rc rs : Nat} {Φ : Option Value → HP → Prop} {n : Int} (hd : decode Y.2.1 pc = .ok (.sipush n, 3)) (hv : (Int16.ofInt n).toInt32 = zI n) (k : wp Y (pc + 3) lv (.int (zI n) :: st) h rc rs Φ) : wp Y pc lv (st) h rc rs Φ :=
  fun p l e R s m args below meth c H locs cells slots mc ms G b ls Q C hP hS hb hc hs hR hl HR => lv_sipush C.1 C.2.1 hd hv (k p l e R s m args below meth c H locs cells slots mc ms G b ls Q C hP hS hb hc hs hR hl HR)
theorem w_lconst {Y : MT} {pc : Nat} {lv st : List Value} {h : HP} {rc rs : Nat} {Φ : Option Value → HP → Prop} {n : Fin 2} (hd : decode Y.2.1 pc = .ok (.lconst n, 1)) (k : wp Y (pc + 1) lv (.long (Int64.ofNat (n : Nat)) :: st) h rc rs Φ) : wp Y pc lv (st) h rc rs Φ :=
  fun p l e R s m args below meth c H locs cells slots mc ms G b ls Q C hP hS hb hc hs hR hl HR => lv_lconst C.1 C.2.1 hd rfl (k p l e R s m args below meth c H locs cells slots mc ms G b ls Q C hP hS hb hc hs hR hl HR)
theorem w_iload_n {Y : MT} {pc : Nat} {lv st : List Value} {h : HP} {rc rs : Nat} {Φ : Option Value → HP → Prop} {k0 : Fin 4} {i : Nat} {x : Int32} (hd : decode Y.2.1 pc = .ok (.iload_n k0, 1)) (hi : (k0 : Nat) = i) (hv : lv[i]? = some (.int x)) (k : wp Y (pc + 1) lv (.int x :: st) h rc rs Φ) : wp Y pc lv (st) h rc rs Φ :=
  fun p l e R s m args below meth c H locs cells slots mc ms G b ls Q C hP hS hb hc hs hR hl HR => lv_iload_n C.1 C.2.1 hd hi (hl.2.2 _ _ hv rfl) (k p l e R s m args below meth c H locs cells slots mc ms G b ls Q C hP hS hb hc hs hR hl HR)
theorem w_iload {Y : MT} {pc : Nat} {lv st : List Value} {h : HP} {rc rs : Nat} {Φ : Option Value → HP → Prop} {i : Nat} {x : Int32} (hd : decode Y.2.1 pc = .ok (.iload i, 2)) (hv : lv[i]? = some (.int x)) (k : wp Y (pc + 2) lv (.int x :: st) h rc rs Φ) : wp Y pc lv (st) h rc rs Φ :=
  fun p l e R s m args below meth c H locs cells slots mc ms G b ls Q C hP hS hb hc hs hR hl HR => lv_iload C.1 C.2.1 hd (hl.2.2 _ _ hv rfl) (k p l e R s m args below meth c H locs cells slots mc ms G b ls Q C hP hS hb hc hs hR hl HR)
theorem w_lload_n {Y : MT} {pc : Nat} {lv st : List Value} {h : HP} {rc rs : Nat} {Φ : Option Value → HP → Prop} {k0 : Fin 4} {i : Nat} {x : Int64} (hd : decode Y.2.1 pc = .ok (.lload_n k0, 1)) (hi : (k0 : Nat) = i) (hv : lv[i]? = some (.long x)) (k : wp Y (pc + 1) lv (.long x :: st) h rc rs Φ) : wp Y pc lv (st) h rc rs Φ :=
  fun p l e R s m args below meth c H locs cells slots mc ms G b ls Q C hP hS hb hc hs hR hl HR => lv_lload_n C.1 C.2.1 hd hi (hl.2.2 _ _ hv rfl) (k p l e R s m args below meth c H locs cells slots mc ms G b ls Q C hP hS hb hc hs hR hl HR)
theorem w_lload {Y : MT} {pc : Nat} {lv st : List Value} {h : HP} {rc rs : Nat} {Φ : Option Value → HP → Prop} {i : Nat} {x : Int64} (hd : decode Y.2.1 pc = .ok (.lload i, 2)) (hv : lv[i]? = some (.long x)) (k : wp Y (pc + 2) lv (.long x :: st) h rc rs Φ) : wp Y pc lv (st) h rc rs Φ :=
  fun p l e R s m args below meth c H locs cells slots mc ms G b ls Q C hP hS hb hc hs hR hl HR => lv_lload C.1 C.2.1 hd (hl.2.2 _ _ hv rfl) (k p l e R s m args below meth c H locs cells slots mc ms G b ls Q C hP hS hb hc hs hR hl HR)
theorem w_aload_n {Y : MT} {pc : Nat} {lv st : List Value} {h : HP} {rc rs : Nat} {Φ : Option Value → HP → Prop} {k0 : Fin 4} {i : Nat} {x : Nat} (hd : decode Y.2.1 pc = .ok (.aload_n k0, 1)) (hi : (k0 : Nat) = i) (hv : lv[i]? = some (.ref x)) (k : wp Y (pc + 1) lv (.ref x :: st) h rc rs Φ) : wp Y pc lv (st) h rc rs Φ :=
  fun p l e R s m args below meth c H locs cells slots mc ms G b ls Q C hP hS hb hc hs hR hl HR => lv_aload_n C.1 C.2.1 hd hi (hl.2.2 _ _ hv rfl) (k p l e R s m args below meth c H locs cells slots mc ms G b ls Q C hP hS hb hc hs hR hl HR)
theorem w_aload {Y : MT} {pc : Nat} {lv st : List Value} {h : HP} {rc rs : Nat} {Φ : Option Value → HP → Prop} {i : Nat} {x : Nat} (hd : decode Y.2.1 pc = .ok (.aload i, 2)) (hv : lv[i]? = some (.ref x)) (k : wp Y (pc + 2) lv (.ref x :: st) h rc rs Φ) : wp Y pc lv (st) h rc rs Φ :=
  fun p l e R s m args below meth c H locs cells slots mc ms G b ls Q C hP hS hb hc hs hR hl HR => lv_aload C.1 C.2.1 hd (hl.2.2 _ _ hv rfl) (k p l e R s m args below meth c H locs cells slots mc ms G b ls Q C hP hS hb hc hs hR hl HR)
theorem w_dload_n {Y : MT} {pc : Nat} {lv st : List Value} {h : HP} {rc rs : Nat} {Φ : Option Value → HP → Prop} {k0 : Fin 4} {i : Nat} {x : UInt64} (hd : decode Y.2.1 pc = .ok (.dload_n k0, 1)) (hi : (k0 : Nat) = i) (hv : lv[i]? = some (.double x)) (k : wp Y (pc + 1) lv (.double x :: st) h rc rs Φ) : wp Y pc lv (st) h rc rs Φ :=
  fun p l e R s m args below meth c H locs cells slots mc ms G b ls Q C hP hS hb hc hs hR hl HR => lv_dload_n C.1 C.2.1 hd hi (hl.2.2 _ _ hv rfl) (k p l e R s m args below meth c H locs cells slots mc ms G b ls Q C hP hS hb hc hs hR hl HR)
theorem w_aload_nN {Y : MT} {pc : Nat} {lv st : List Value} {h : HP} {rc rs : Nat} {Φ : Option Value → HP → Prop} {k0 : Fin 4} {i : Nat} (hd : decode Y.2.1 pc = .ok (.aload_n k0, 1)) (hi : (k0 : Nat) = i) (hv : lv[i]? = some .null) (k : wp Y (pc + 1) lv (.null :: st) h rc rs Φ) : wp Y pc lv (st) h rc rs Φ :=
  fun p l e R s m args below meth c H locs cells slots mc ms G b ls Q C hP hS hb hc hs hR hl HR => lv_aload_nN C.1 C.2.1 hd hi (hl.2.2 _ _ hv rfl) (k p l e R s m args below meth c H locs cells slots mc ms G b ls Q C hP hS hb hc hs hR hl HR)
theorem w_aloadN {Y : MT} {pc : Nat} {lv st : List Value} {h : HP} {rc rs : Nat} {Φ : Option Value → HP → Prop} {i : Nat} (hd : decode Y.2.1 pc = .ok (.aload i, 2)) (hv : lv[i]? = some .null) (k : wp Y (pc + 2) lv (.null :: st) h rc rs Φ) : wp Y pc lv (st) h rc rs Φ :=
  fun p l e R s m args below meth c H locs cells slots mc ms G b ls Q C hP hS hb hc hs hR hl HR => lv_aloadN C.1 C.2.1 hd (hl.2.2 _ _ hv rfl) (k p l e R s m args below meth c H locs cells slots mc ms G b ls Q C hP hS hb hc hs hR hl HR)
/-- locals behind a store at i: i gets v; a long ahead of i must not be there -/
def lvs (lv : List Value) (i : Nat) (v : Value) : List Value := lv.set i v
def prevOk (lv : List Value) (i : Nat) : Bool := match i with
  | 0 => true
  | k + 1 => match lv[k]? with
    | some (.long _) => false
    | some (.double _) => false
    | _ => true
def pairs (n : Nat) : List Value → List (Nat × Value)
  | [] => []
  | v :: t => if nf v then (n, v) :: pairs (n + 1) t else pairs (n + 1) t
theorem pairs_mem {lv : List Value} : ∀ {n : Nat} {q : Nat × Value}, q ∈ pairs n lv → ∃ i, q.1 = n + i ∧ lv[i]? = some q.2 ∧ nf q.2 = true := by
  induction lv with
  | nil => intro n q h; cases h
  | cons v t ih =>
    intro n q h
    unfold pairs at h
    by_cases hv : nf v = true
    · rw [if_pos hv] at h
      rcases List.mem_cons.mp h with h | h
      · subst h; exact ⟨0, rfl, rfl, hv⟩
      · obtain ⟨i, a, b, c⟩ := ih h
        exact ⟨i + 1, by omega, b, c⟩
    · rw [if_neg hv] at h
      obtain ⟨i, a, b, c⟩ := ih h
      exact ⟨i + 1, by omega, b, c⟩
theorem mem_pairs {lv : List Value} : ∀ {n i : Nat} {v : Value}, lv[i]? = some v → nf v = true → (n + i, v) ∈ pairs n lv := by
  induction lv with
  | nil => intro n i v h; simp at h
  | cons a t ih =>
    intro n i v h hv
    unfold pairs
    cases i with
    | zero =>
      simp at h
      subst h
      rw [if_pos hv]
      exact List.mem_cons_self
    | succ k =>
      have h2 := ih (n := n + 1) (i := k) (v := v) (by simpa using h) hv
      rw [show n + (k + 1) = n + 1 + k by omega]
      split
      · exact List.mem_cons_of_mem _ h2
      · exact h2
theorem LV.has {lv : List Value} {ls : Array Slot} (h : LV lv ls) : lv_has ls lv.length (pairs 0 lv) := ⟨h.1, h.2.1, fun q hq => by
  obtain ⟨i, a, b, c⟩ := pairs_mem hq
  rw [a, Nat.zero_add]
  exact h.2.2 i q.2 b c⟩
theorem LV.of {lv : List Value} {ls : Array Slot} {n : Nat} {l : List (Nat × Value)} (h : lv_has ls n l) (hn : lv.length = n) (hm : ∀ (i : Nat) (v : Value), lv[i]? = some v → nf v = true → (i, v) ∈ l) : LV lv ls := ⟨h.1.trans hn.symm, h.2.1, fun i v a b => h.2.2 (i, v) (hm i v a b)⟩
theorem LV.st1 {lv : List Value} {ls' : Array Slot} {i : Nat} {v : Value} (hp : prevOk lv i = true) (h' : lv_has ls' lv.length ((i, v) :: (pairs 0 lv).filter (fun q => !(q.1 == i) && !(q.1 + 1 == i && q.2.category == 2)))) : LV (lv.set i v) ls' := by
  refine LV.of h' (by simp) (fun j x hj hx => ?_)
  by_cases hji : j = i
  · subst hji
    rw [List.getElem?_set] at hj
    simp at hj
    rw [← hj.2]
    exact List.mem_cons_self
  · rw [List.getElem?_set_ne (Ne.symm hji)] at hj
    refine List.mem_cons_of_mem _ (List.mem_filter.mpr ⟨by have := mem_pairs (n := 0) hj hx; rwa [Nat.zero_add] at this, ?_⟩)
    have h1 : (j == i) = false := by simpa using hji
    simp only [h1, Bool.not_false, Bool.true_and, Bool.not_eq_true', Bool.and_eq_false_iff]
    by_cases h2 : j + 1 = i
    · right
      subst h2
      have hp2 : (match lv[j]? with | some (.long _) => false | some (.double _) => false | _ => true) = true := hp
      rw [hj] at hp2
      cases x <;> first | rfl | (simp at hp2)
    · left; simpa using h2
theorem LV.st2 {lv : List Value} {ls' : Array Slot} {i : Nat} {v : Value} (hp : prevOk lv i = true) (h' : lv_has ls' lv.length ((i, v) :: (pairs 0 lv).filter (fun q => !(q.1 == i) && (!(q.1 == i + 1) && !(q.1 + 1 == i && q.2.category == 2))))) : LV ((lv.set i v).set (i + 1) jk) ls' := by
  refine LV.of h' (by simp) (fun j x hj hx => ?_)
  by_cases hj1 : j = i + 1
  · subst hj1
    rw [List.getElem?_set] at hj
    simp at hj
    rw [← hj.2] at hx
    cases hx
  rw [List.getElem?_set_ne (Ne.symm hj1)] at hj
  by_cases hji : j = i
  · subst hji
    rw [List.getElem?_set] at hj
    simp at hj
    rw [← hj.2]
    exact List.mem_cons_self
  · rw [List.getElem?_set_ne (Ne.symm hji)] at hj
    refine List.mem_cons_of_mem _ (List.mem_filter.mpr ⟨by have := mem_pairs (n := 0) hj hx; rwa [Nat.zero_add] at this, ?_⟩)
    have h1 : (j == i) = false := by simpa using hji
    have h3 : (j == i + 1) = false := by simpa using hj1
    simp only [h1, h3, Bool.not_false, Bool.true_and, Bool.not_eq_true', Bool.and_eq_false_iff]
    by_cases h2 : j + 1 = i
    · right
      subst h2
      have hp2 : (match lv[j]? with | some (.long _) => false | some (.double _) => false | _ => true) = true := hp
      rw [hj] at hp2
      cases x <;> first | rfl | (simp at hp2)
    · left; simpa using h2
theorem w_istore_n {Y : MT} {pc : Nat} {lv st : List Value} {h : HP} {rc rs : Nat} {Φ : Option Value → HP → Prop} {k0 : Fin 4} {i : Nat} {x : Int32} {lv' : List Value} (hd : decode Y.2.1 pc = .ok (.istore_n k0, 1)) (hi : (k0 : Nat) = i) (hn : i < lv.length) (hp : prevOk lv i = true) (hset : lv.set i (.int x) = lv') (k : wp Y (pc + 1) lv' st h rc rs Φ) : wp Y pc lv (.int x :: st) h rc rs Φ := by
  subst hset
  intro p l e R s m args below meth c H locs cells slots mc ms G b ls Q C hP hS hb hc hs hR hl HR
  exact lv_istore_n C.1 C.2.1 hd hi hl.has hn rfl (fun ls2 h2 => k p l e R s m args below meth c H locs cells slots mc ms G b ls2 Q C hP hS hb hc hs hR (LV.st1 hp h2) HR)
theorem w_istore {Y : MT} {pc : Nat} {lv st : List Value} {h : HP} {rc rs : Nat} {Φ : Option Value → HP → Prop} {i : Nat} {x : Int32} {lv' : List Value} (hd : decode Y.2.1 pc = .ok (.istore i, 2)) (hn : i < lv.length) (hp : prevOk lv i = true) (hset : lv.set i (.int x) = lv') (k : wp Y (pc + 2) lv' st h rc rs Φ) : wp Y pc lv (.int x :: st) h rc rs Φ := by
  subst hset
  intro p l e R s m args below meth c H locs cells slots mc ms G b ls Q C hP hS hb hc hs hR hl HR
  exact lv_istore C.1 C.2.1 hd hl.has hn rfl (fun ls2 h2 => k p l e R s m args below meth c H locs cells slots mc ms G b ls2 Q C hP hS hb hc hs hR (LV.st1 hp h2) HR)
theorem w_lstore_n {Y : MT} {pc : Nat} {lv st : List Value} {h : HP} {rc rs : Nat} {Φ : Option Value → HP → Prop} {k0 : Fin 4} {i : Nat} {x : Int64} {lv' : List Value} (hd : decode Y.2.1 pc = .ok (.lstore_n k0, 1)) (hi : (k0 : Nat) = i) (hn : i + 1 < lv.length) (hp : prevOk lv i = true) (hset : (lv.set i (.long x)).set (i + 1) jk = lv') (k : wp Y (pc + 1) lv' st h rc rs Φ) : wp Y pc lv (.long x :: st) h rc rs Φ := by
  subst hset
  intro p l e R s m args below meth c H locs cells slots mc ms G b ls Q C hP hS hb hc hs hR hl HR
  exact lv_lstore_n C.1 C.2.1 hd hi hl.has hn rfl (fun ls2 h2 => k p l e R s m args below meth c H locs cells slots mc ms G b ls2 Q C hP hS hb hc hs hR (LV.st2 hp h2) HR)
theorem w_lstore {Y : MT} {pc : Nat} {lv st : List Value} {h : HP} {rc rs : Nat} {Φ : Option Value → HP → Prop} {i : Nat} {x : Int64} {lv' : List Value} (hd : decode Y.2.1 pc = .ok (.lstore i, 2)) (hn : i + 1 < lv.length) (hp : prevOk lv i = true) (hset : (lv.set i (.long x)).set (i + 1) jk = lv') (k : wp Y (pc + 2) lv' st h rc rs Φ) : wp Y pc lv (.long x :: st) h rc rs Φ := by
  subst hset
  intro p l e R s m args below meth c H locs cells slots mc ms G b ls Q C hP hS hb hc hs hR hl HR
  exact lv_lstore C.1 C.2.1 hd hl.has hn rfl (fun ls2 h2 => k p l e R s m args below meth c H locs cells slots mc ms G b ls2 Q C hP hS hb hc hs hR (LV.st2 hp h2) HR)
theorem w_astore_n {Y : MT} {pc : Nat} {lv st : List Value} {h : HP} {rc rs : Nat} {Φ : Option Value → HP → Prop} {k0 : Fin 4} {i : Nat} {x : Nat} {lv' : List Value} (hd : decode Y.2.1 pc = .ok (.astore_n k0, 1)) (hi : (k0 : Nat) = i) (hn : i < lv.length) (hp : prevOk lv i = true) (hset : lv.set i (.ref x) = lv') (k : wp Y (pc + 1) lv' st h rc rs Φ) : wp Y pc lv (.ref x :: st) h rc rs Φ := by
  subst hset
  intro p l e R s m args below meth c H locs cells slots mc ms G b ls Q C hP hS hb hc hs hR hl HR
  exact lv_astore_n C.1 C.2.1 hd hi hl.has hn rfl (fun ls2 h2 => k p l e R s m args below meth c H locs cells slots mc ms G b ls2 Q C hP hS hb hc hs hR (LV.st1 hp h2) HR)
theorem w_astore {Y : MT} {pc : Nat} {lv st : List Value} {h : HP} {rc rs : Nat} {Φ : Option Value → HP → Prop} {i : Nat} {x : Nat} {lv' : List Value} (hd : decode Y.2.1 pc = .ok (.astore i, 2)) (hn : i < lv.length) (hp : prevOk lv i = true) (hset : lv.set i (.ref x) = lv') (k : wp Y (pc + 2) lv' st h rc rs Φ) : wp Y pc lv (.ref x :: st) h rc rs Φ := by
  subst hset
  intro p l e R s m args below meth c H locs cells slots mc ms G b ls Q C hP hS hb hc hs hR hl HR
  exact lv_astore C.1 C.2.1 hd hl.has hn rfl (fun ls2 h2 => k p l e R s m args below meth c H locs cells slots mc ms G b ls2 Q C hP hS hb hc hs hR (LV.st1 hp h2) HR)
theorem w_astore_nN {Y : MT} {pc : Nat} {lv st : List Value} {h : HP} {rc rs : Nat} {Φ : Option Value → HP → Prop} {k0 : Fin 4} {i : Nat} {lv' : List Value} (hd : decode Y.2.1 pc = .ok (.astore_n k0, 1)) (hi : (k0 : Nat) = i) (hn : i < lv.length) (hp : prevOk lv i = true) (hset : lv.set i (.null) = lv') (k : wp Y (pc + 1) lv' st h rc rs Φ) : wp Y pc lv (.null :: st) h rc rs Φ := by
  subst hset
  intro p l e R s m args below meth c H locs cells slots mc ms G b ls Q C hP hS hb hc hs hR hl HR
  exact lv_astore_nN C.1 C.2.1 hd hi hl.has hn rfl (fun ls2 h2 => k p l e R s m args below meth c H locs cells slots mc ms G b ls2 Q C hP hS hb hc hs hR (LV.st1 hp h2) HR)
theorem w_astoreN {Y : MT} {pc : Nat} {lv st : List Value} {h : HP} {rc rs : Nat} {Φ : Option Value → HP → Prop} {i : Nat} {lv' : List Value} (hd : decode Y.2.1 pc = .ok (.astore i, 2)) (hn : i < lv.length) (hp : prevOk lv i = true) (hset : lv.set i (.null) = lv') (k : wp Y (pc + 2) lv' st h rc rs Φ) : wp Y pc lv (.null :: st) h rc rs Φ := by
  subst hset
  intro p l e R s m args below meth c H locs cells slots mc ms G b ls Q C hP hS hb hc hs hR hl HR
  exact lv_astoreN C.1 C.2.1 hd hl.has hn rfl (fun ls2 h2 => k p l e R s m args below meth c H locs cells slots mc ms G b ls2 Q C hP hS hb hc hs hR (LV.st1 hp h2) HR)
theorem w_iinc {Y : MT} {pc : Nat} {lv st : List Value} {h : HP} {rc rs : Nat} {Φ : Option Value → HP → Prop} {i : Nat} {n z : Int} {lv' : List Value} (hd : decode Y.2.1 pc = .ok (.iinc i n, 3)) (hv : lv[i]? = some (.int (zI z))) (hp : prevOk lv i = true) (hset : lv.set i (.int (zI (z + n))) = lv') (k : wp Y (pc + 3) lv' st h rc rs Φ) : wp Y pc lv st h rc rs Φ := by
  subst hset
  intro p l e R s m args below meth c H locs cells slots mc ms G b ls Q C hP hS hb hc hs hR hl HR
  have hm : (i, Value.int (zI z)) ∈ pairs 0 lv := by have := mem_pairs (n := 0) hv rfl; rwa [Nat.zero_add] at this
  obtain ⟨k2, hk2⟩ := List.getElem?_of_mem hm
  exact lv_iinc (k := k2) C.1 C.2.1 hd hl.has hk2 (v := zI (z + n)) (zI_add z n) (List.getElem?_eq_some_iff.mp hv).1 rfl (fun ls2 h2 => k p l e R s m args below meth c H locs cells slots mc ms G b ls2 Q C hP hS hb hc hs hR (LV.st1 hp h2) HR)
theorem ok32_0 : ok32 0 := ⟨by decide, by decide⟩
theorem w_if_eq {Y : MT} {pc : Nat} {lv st : List Value} {h : HP} {rc rs : Nat} {Φ : Option Value → HP → Prop} {z : Int} {off : Int} (tgt : Nat) (hd : decode Y.2.1 pc = .ok (.ifCond .eq off, 3)) (ht : (pc : Int) + off = (tgt : Int)) (ho : ok32 z) (kt : z = 0 → wp Y tgt lv st h rc rs Φ) (kf : ¬ (z = 0) → wp Y (pc + 3) lv st h rc rs Φ) : wp Y pc lv (.int (zI z) :: st) h rc rs Φ :=
  fun p l e R s m args below meth c H locs cells slots mc ms G b ls Q C hP hS hb hc hs hR hl HR => lv_if_eq C.1 C.2.1 hd ht (fun q => kt ((zI_eq ho ok32_0).mp q) p l e R s m args below meth c H locs cells slots mc ms G b ls Q C hP hS hb hc hs hR hl HR) (fun q => kf (fun q2 => q ((zI_eq ho ok32_0).mpr q2)) p l e R s m args below meth c H locs cells slots mc ms G b ls Q C hP hS hb hc hs hR hl HR)
theorem w_if_ne {Y : MT} {pc : Nat} {lv st : List Value} {h : HP} {rc rs : Nat} {Φ : Option Value → HP → Prop} {z : Int} {off : Int} (tgt : Nat) (hd : decode Y.2.1 pc = .ok (.ifCond .ne off, 3)) (ht : (pc : Int) + off = (tgt : Int)) (ho : ok32 z) (kt : ¬ z = 0 → wp Y tgt lv st h rc rs Φ) (kf : z = 0 → wp Y (pc + 3) lv st h rc rs Φ) : wp Y pc lv (.int (zI z) :: st) h rc rs Φ :=
  fun p l e R s m args below meth c H locs cells slots mc ms G b ls Q C hP hS hb hc hs hR hl HR => lv_if_ne C.1 C.2.1 hd ht (fun q => kt ((not_congr (zI_eq ho ok32_0)).mp q) p l e R s m args below meth c H locs cells slots mc ms G b ls Q C hP hS hb hc hs hR hl HR) (fun q => kf ((zI_eq ho ok32_0).mp q) p l e R s m args below meth c H locs cells slots mc ms G b ls Q C hP hS hb hc hs hR hl HR)
theorem w_if_lt {Y : MT} {pc : Nat} {lv st : List Value} {h : HP} {rc rs : Nat} {Φ : Option Value → HP → Prop} {z : Int} {off : Int} (tgt : Nat) (hd : decode Y.2.1 pc = .ok (.ifCond .lt off, 3)) (ht : (pc : Int) + off = (tgt : Int)) (ho : ok32 z) (kt : z < 0 → wp Y tgt lv st h rc rs Φ) (kf : ¬ (z < 0) → wp Y (pc + 3) lv st h rc rs Φ) : wp Y pc lv (.int (zI z) :: st) h rc rs Φ :=
  fun p l e R s m args below meth c H locs cells slots mc ms G b ls Q C hP hS hb hc hs hR hl HR => lv_if_lt C.1 C.2.1 hd ht (fun q => kt ((zI_lt ho ok32_0).mp q) p l e R s m args below meth c H locs cells slots mc ms G b ls Q C hP hS hb hc hs hR hl HR) (fun q => kf (fun q2 => q ((zI_lt ho ok32_0).mpr q2)) p l e R s m args below meth c H locs cells slots mc ms G b ls Q C hP hS hb hc hs hR hl HR)
theorem w_if_ge {Y : MT} {pc : Nat} {lv st : List Value} {h : HP} {rc rs : Nat} {Φ : Option Value → HP → Prop} {z : Int} {off : Int} (tgt : Nat) (hd : decode Y.2.1 pc = .ok (.ifCond .ge off, 3)) (ht : (pc : Int) + off = (tgt : Int)) (ho : ok32 z) (kt : 0 ≤ z → wp Y tgt lv st h rc rs Φ) (kf : ¬ (0 ≤ z) → wp Y (pc + 3) lv st h rc rs Φ) : wp Y pc lv (.int (zI z) :: st) h rc rs Φ :=
  fun p l e R s m args below meth c H locs cells slots mc ms G b ls Q C hP hS hb hc hs hR hl HR => lv_if_ge C.1 C.2.1 hd ht (fun q => kt ((zI_le ok32_0 ho).mp q) p l e R s m args below meth c H locs cells slots mc ms G b ls Q C hP hS hb hc hs hR hl HR) (fun q => kf (fun q2 => q ((zI_le ok32_0 ho).mpr q2)) p l e R s m args below meth c H locs cells slots mc ms G b ls Q C hP hS hb hc hs hR hl HR)
theorem w_if_gt {Y : MT} {pc : Nat} {lv st : List Value} {h : HP} {rc rs : Nat} {Φ : Option Value → HP → Prop} {z : Int} {off : Int} (tgt : Nat) (hd : decode Y.2.1 pc = .ok (.ifCond .gt off, 3)) (ht : (pc : Int) + off = (tgt : Int)) (ho : ok32 z) (kt : 0 < z → wp Y tgt lv st h rc rs Φ) (kf : ¬ (0 < z) → wp Y (pc + 3) lv st h rc rs Φ) : wp Y pc lv (.int (zI z) :: st) h rc rs Φ :=
  fun p l e R s m args below meth c H locs cells slots mc ms G b ls Q C hP hS hb hc hs hR hl HR => lv_if_gt C.1 C.2.1 hd ht (fun q => kt ((zI_lt ok32_0 ho).mp q) p l e R s m args below meth c H locs cells slots mc ms G b ls Q C hP hS hb hc hs hR hl HR) (fun q => kf (fun q2 => q ((zI_lt ok32_0 ho).mpr q2)) p l e R s m args below meth c H locs cells slots mc ms G b ls Q C hP hS hb hc hs hR hl HR)
theorem w_if_le {Y : MT} {pc : Nat} {lv st : List Value} {h : HP} {rc rs : Nat} {Φ : Option Value → HP → Prop} {z : Int} {off : Int} (tgt : Nat) (hd : decode Y.2.1 pc = .ok (.ifCond .le off, 3)) (ht : (pc : Int) + off = (tgt : Int)) (ho : ok32 z) (kt : z ≤ 0 → wp Y tgt lv st h rc rs Φ) (kf : ¬ (z ≤ 0) → wp Y (pc + 3) lv st h rc rs Φ) : wp Y pc lv (.int (zI z) :: st) h rc rs Φ :=
  fun p l e R s m args below meth c H locs cells slots mc ms G b ls Q C hP hS hb hc hs hR hl HR => lv_if_le C.1 C.2.1 hd ht (fun q => kt ((zI_le ho ok32_0).mp q) p l e R s m args below meth c H locs cells slots mc ms G b ls Q C hP hS hb hc hs hR hl HR) (fun q => kf (fun q2 => q ((zI_le ho ok32_0).mpr q2)) p l e R s m args below meth c H locs cells slots mc ms G b ls Q C hP hS hb hc hs hR hl HR)
theorem w_icmp_eq {Y : MT} {pc : Nat} {lv st : List Value} {h : HP} {rc rs : Nat} {Φ : Option Value → HP → Prop} {y z : Int} {off : Int} (tgt : Nat) (hd : decode Y.2.1 pc = .ok (.if_icmp .eq off, 3)) (ht : (pc : Int) + off = (tgt : Int)) (hy : ok32 y) (hz : ok32 z) (kt : y = z → wp Y tgt lv st h rc rs Φ) (kf : ¬ (y = z) → wp Y (pc + 3) lv st h rc rs Φ) : wp Y pc lv (.int (zI z) :: .int (zI y) :: st) h rc rs Φ :=
  fun p l e R s m args below meth c H locs cells slots mc ms G b ls Q C hP hS hb hc hs hR hl HR => lv_icmp_eq C.1 C.2.1 hd ht (fun q => kt ((zI_eq hy hz).mp q) p l e R s m args below meth c H locs cells slots mc ms G b ls Q C hP hS hb hc hs hR hl HR) (fun q => kf (fun q2 => q ((zI_eq hy hz).mpr q2)) p l e R s m args below meth c H locs cells slots mc ms G b ls Q C hP hS hb hc hs hR hl HR)
theorem w_icmp_ne {Y : MT} {pc : Nat} {lv st : List Value} {h : HP} {rc rs : Nat} {Φ : Option Value → HP → Prop} {y z : Int} {off : Int} (tgt : Nat) (hd : decode Y.2.1 pc = .ok (.if_icmp .ne off, 3)) (ht : (pc : Int) + off = (tgt : Int)) (hy : ok32 y) (hz : ok32 z) (kt : ¬ y = z → wp Y tgt lv st h rc rs Φ) (kf : y = z → wp Y (pc + 3) lv st h rc rs Φ) : wp Y pc lv (.int (zI z) :: .int (zI y) :: st) h rc rs Φ :=
  fun p l e R s m args below meth c H locs cells slots mc ms G b ls Q C hP hS hb hc hs hR hl HR => lv_icmp_ne C.1 C.2.1 hd ht (fun q => kt ((not_congr (zI_eq hy hz)).mp q) p l e R s m args below meth c H locs cells slots mc ms G b ls Q C hP hS hb hc hs hR hl HR) (fun q => kf ((zI_eq hy hz).mp q) p l e R s m args below meth c H locs cells slots mc ms G b ls Q C hP hS hb hc hs hR hl HR)
theorem w_icmp_lt {Y : MT} {pc : Nat} {lv st : List Value} {h : HP} {rc rs : Nat} {Φ : Option Value → HP → Prop} {y z : Int} {off : Int} (tgt : Nat) (hd : decode Y.2.1 pc = .ok (.if_icmp .lt off, 3)) (ht : (pc : Int) + off = (tgt : Int)) (hy : ok32 y) (hz : ok32 z) (kt : y < z → wp Y tgt lv st h rc rs Φ) (kf : ¬ (y < z) → wp Y (pc + 3) lv st h rc rs Φ) : wp Y pc lv (.int (zI z) :: .int (zI y) :: st) h rc rs Φ :=
  fun p l e R s m args below meth c H locs cells slots mc ms G b ls Q C hP hS hb hc hs hR hl HR => lv_icmp_lt C.1 C.2.1 hd ht (fun q => kt ((zI_lt hy hz).mp q) p l e R s m args below meth c H locs cells slots mc ms G b ls Q C hP hS hb hc hs hR hl HR) (fun q => kf (fun q2 => q ((zI_lt hy hz).mpr q2)) p l e R s m args below meth c H locs cells slots mc ms G b ls Q C hP hS hb hc hs hR hl HR)
theorem w_icmp_ge {Y : MT} {pc : Nat} {lv st : List Value} {h : HP} {rc rs : Nat} {Φ : Option Value → HP → Prop} {y z : Int} {off : Int} (tgt : Nat) (hd : decode Y.2.1 pc = .ok (.if_icmp .ge off, 3)) (ht : (pc : Int) + off = (tgt : Int)) (hy : ok32 y) (hz : ok32 z) (kt : z ≤ y → wp Y tgt lv st h rc rs Φ) (kf : ¬ (z ≤ y) → wp Y (pc + 3) lv st h rc rs Φ) : wp Y pc lv (.int (zI z) :: .int (zI y) :: st) h rc rs Φ :=
  fun p l e R s m args below meth c H locs cells slots mc ms G b ls Q C hP hS hb hc hs hR hl HR => lv_icmp_ge C.1 C.2.1 hd ht (fun q => kt ((zI_le hz hy).mp q) p l e R s m args below meth c H locs cells slots mc ms G b ls Q C hP hS hb hc hs hR hl HR) (fun q => kf (fun q2 => q ((zI_le hz hy).mpr q2)) p l e R s m args below meth c H locs cells slots mc ms G b ls Q C hP hS hb hc hs hR hl HR)
theorem w_icmp_gt {Y : MT} {pc : Nat} {lv st : List Value} {h : HP} {rc rs : Nat} {Φ : Option Value → HP → Prop} {y z : Int} {off : Int} (tgt : Nat) (hd : decode Y.2.1 pc = .ok (.if_icmp .gt off, 3)) (ht : (pc : Int) + off = (tgt : Int)) (hy : ok32 y) (hz : ok32 z) (kt : z < y → wp Y tgt lv st h rc rs Φ) (kf : ¬ (z < y) → wp Y (pc + 3) lv st h rc rs Φ) : wp Y pc lv (.int (zI z) :: .int (zI y) :: st) h rc rs Φ :=
  fun p l e R s m args below meth c H locs cells slots mc ms G b ls Q C hP hS hb hc hs hR hl HR => lv_icmp_gt C.1 C.2.1 hd ht (fun q => kt ((zI_lt hz hy).mp q) p l e R s m args below meth c H locs cells slots mc ms G b ls Q C hP hS hb hc hs hR hl HR) (fun q => kf (fun q2 => q ((zI_lt hz hy).mpr q2)) p l e R s m args below meth c H locs cells slots mc ms G b ls Q C hP hS hb hc hs hR hl HR)
theorem w_icmp_le {Y : MT} {pc : Nat} {lv st : List Value} {h : HP} {rc rs : Nat} {Φ : Option Value → HP → Prop} {y z : Int} {off : Int} (tgt : Nat) (hd : decode Y.2.1 pc = .ok (.if_icmp .le off, 3)) (ht : (pc : Int) + off = (tgt : Int)) (hy : ok32 y) (hz : ok32 z) (kt : y ≤ z → wp Y tgt lv st h rc rs Φ) (kf : ¬ (y ≤ z) → wp Y (pc + 3) lv st h rc rs Φ) : wp Y pc lv (.int (zI z) :: .int (zI y) :: st) h rc rs Φ :=
  fun p l e R s m args below meth c H locs cells slots mc ms G b ls Q C hP hS hb hc hs hR hl HR => lv_icmp_le C.1 C.2.1 hd ht (fun q => kt ((zI_le hy hz).mp q) p l e R s m args below meth c H locs cells slots mc ms G b ls Q C hP hS hb hc hs hR hl HR) (fun q => kf (fun q2 => q ((zI_le hy hz).mpr q2)) p l e R s m args below meth c H locs cells slots mc ms G b ls Q C hP hS hb hc hs hR hl HR)
theorem w_goto {Y : MT} {pc : Nat} {lv st : List Value} {h : HP} {rc rs : Nat} {Φ : Option Value → HP → Prop} {off : Int} (tgt : Nat) (hd : decode Y.2.1 pc = .ok (.goto off, 3)) (ht : (pc : Int) + off = (tgt : Int)) (k : wp Y tgt lv st h rc rs Φ) : wp Y pc lv st h rc rs Φ :=
  fun p l e R s m args below meth c H locs cells slots mc ms G b ls Q C hP hS hb hc hs hR hl HR => lv_goto C.1 C.2.1 hd ht (k p l e R s m args below meth c H locs cells slots mc ms G b ls Q C hP hS hb hc hs hR hl HR)
theorem w_lcmpR {Y : MT} {pc : Nat} {lv st : List Value} {h : HP} {rc rs : Nat} {Φ : Option Value → HP → Prop} {x y : Int64} (hd : decode Y.2.1 pc = .ok (.lcmp, 1)) (k : wp Y (pc + 1) lv (.int (lg_cmp x y) :: st) h rc rs Φ) : wp Y pc lv (.long y :: .long x :: st) h rc rs Φ :=
  fun p l e R s m args below meth c H locs cells slots mc ms G b ls Q C hP hS hb hc hs hR hl HR => W.lcmp C.1 C.2.1 hd (k p l e R s m args below meth c H locs cells slots mc ms G b ls Q C hP hS hb hc hs hR hl HR)
theorem w_ldc2 {Y : MT} {pc : Nat} {lv st : List Value} {h : HP} {rc rs : Nat} {Φ : Option Value → HP → Prop} {idx : Nat} {v : Int64} (hw : Cond.constantLong Y.1.cls idx v ∈ gw) (hd : decode Y.2.1 pc = .ok (.ldc2_w idx, 3)) (k : wp Y (pc + 3) lv (.long v :: st) h rc rs Φ) : wp Y pc lv st h rc rs Φ :=
  fun p l e R s m args below meth c H locs cells slots mc ms G b ls Q C hP hS hb hc hs hR hl HR => lv_ldc2 C.1 C.2.1 C.2.2.2.1 (C.2.2.2.2.1 _ hw) hd (k p l e R s m args below meth c H locs cells slots mc ms G b ls Q C hP hS hb hc hs hR hl HR)
theorem w_ldc {Y : MT} {pc : Nat} {lv st : List Value} {h : HP} {rc rs : Nat} {Φ : Option Value → HP → Prop} {idx : Nat} {v : Int32} (hw : Cond.constant Y.1.cls idx v ∈ gw) (hd : decode Y.2.1 pc = .ok (.ldc idx, 2)) (k : wp Y (pc + 2) lv (.int v :: st) h rc rs Φ) : wp Y pc lv st h rc rs Φ :=
  fun p l e R s m args below meth c H locs cells slots mc ms G b ls Q C hP hS hb hc hs hR hl HR => lv_ldc C.1 C.2.1 C.2.2.2.1 (C.2.2.2.2.1 _ hw) hd (k p l e R s m args below meth c H locs cells slots mc ms G b ls Q C hP hS hb hc hs hR hl HR)
theorem w_ldcw {Y : MT} {pc : Nat} {lv st : List Value} {h : HP} {rc rs : Nat} {Φ : Option Value → HP → Prop} {idx : Nat} {v : Int32} (hw : Cond.constant Y.1.cls idx v ∈ gw) (hd : decode Y.2.1 pc = .ok (.ldc_w idx, 3)) (k : wp Y (pc + 3) lv (.int v :: st) h rc rs Φ) : wp Y pc lv st h rc rs Φ :=
  fun p l e R s m args below meth c H locs cells slots mc ms G b ls Q C hP hS hb hc hs hR hl HR => lv_ldcw C.1 C.2.1 C.2.2.2.1 (C.2.2.2.2.1 _ hw) hd (k p l e R s m args below meth c H locs cells slots mc ms G b ls Q C hP hS hb hc hs hR hl HR)
theorem w_ifnull {Y : MT} {pc : Nat} {lv st : List Value} {h : HP} {rc rs : Nat} {Φ : Option Value → HP → Prop} {x : Nat} {off : Int} (hd : decode Y.2.1 pc = .ok (.ifnull off, 3)) (k : wp Y (pc + 3) lv st h rc rs Φ) : wp Y pc lv (.ref x :: st) h rc rs Φ :=
  fun p l e R s m args below meth c H locs cells slots mc ms G b ls Q C hP hS hb hc hs hR hl HR => lv_ifnull C.1 C.2.1 hd (k p l e R s m args below meth c H locs cells slots mc ms G b ls Q C hP hS hb hc hs hR hl HR)
theorem w_ifnonnull {Y : MT} {pc : Nat} {lv st : List Value} {h : HP} {rc rs : Nat} {Φ : Option Value → HP → Prop} {x : Nat} {off : Int} (tgt : Nat) (hd : decode Y.2.1 pc = .ok (.ifnonnull off, 3)) (ht : (pc : Int) + off = (tgt : Int)) (k : wp Y tgt lv st h rc rs Φ) : wp Y pc lv (.ref x :: st) h rc rs Φ :=
  fun p l e R s m args below meth c H locs cells slots mc ms G b ls Q C hP hS hb hc hs hR hl HR => lv_ifnonnull C.1 C.2.1 hd ht (k p l e R s m args below meth c H locs cells slots mc ms G b ls Q C hP hS hb hc hs hR hl HR)
theorem w_ifnullN {Y : MT} {pc : Nat} {lv st : List Value} {h : HP} {rc rs : Nat} {Φ : Option Value → HP → Prop} {off : Int} (tgt : Nat) (hd : decode Y.2.1 pc = .ok (.ifnull off, 3)) (ht : (pc : Int) + off = (tgt : Int)) (k : wp Y tgt lv st h rc rs Φ) : wp Y pc lv (.null :: st) h rc rs Φ :=
  fun p l e R s m args below meth c H locs cells slots mc ms G b ls Q C hP hS hb hc hs hR hl HR => lv_ifnullN C.1 C.2.1 hd ht (k p l e R s m args below meth c H locs cells slots mc ms G b ls Q C hP hS hb hc hs hR hl HR)
theorem w_ifnonnullN {Y : MT} {pc : Nat} {lv st : List Value} {h : HP} {rc rs : Nat} {Φ : Option Value → HP → Prop} {off : Int} (hd : decode Y.2.1 pc = .ok (.ifnonnull off, 3)) (k : wp Y (pc + 3) lv st h rc rs Φ) : wp Y pc lv (.null :: st) h rc rs Φ :=
  fun p l e R s m args below meth c H locs cells slots mc ms G b ls Q C hP hS hb hc hs hR hl HR => lv_ifnonnullN C.1 C.2.1 hd (k p l e R s m args below meth c H locs cells slots mc ms G b ls Q C hP hS hb hc hs hR hl HR)
theorem w_acmp_eq {Y : MT} {pc : Nat} {lv st : List Value} {h : HP} {rc rs : Nat} {Φ : Option Value → HP → Prop} {rx ry : Option Nat} {off : Int} (tgt : Nat) (hd : decode Y.2.1 pc = .ok (.if_acmp .eq off, 3)) (ht : (pc : Int) + off = (tgt : Int)) (kt : rx = ry → wp Y tgt lv st h rc rs Φ) (kf : ¬ rx = ry → wp Y (pc + 3) lv st h rc rs Φ) : wp Y pc lv (va_rf ry :: va_rf rx :: st) h rc rs Φ :=
  fun p l e R s m args below meth c H locs cells slots mc ms G b ls Q C hP hS hb hc hs hR hl HR => lv_acmp_eq C.1 C.2.1 hd ht (fun q => kt q p l e R s m args below meth c H locs cells slots mc ms G b ls Q C hP hS hb hc hs hR hl HR) (fun q => kf q p l e R s m args below meth c H locs cells slots mc ms G b ls Q C hP hS hb hc hs hR hl HR)
theorem w_tsw_out {Y : MT} {pc : Nat} {lv st : List Value} {h : HP} {rc rs : Nat} {Φ : Option Value → HP → Prop} {dflt lo hi z : Int} {offs : Array Int} {len : Nat} (tgt : Nat) (hd : decode Y.2.1 pc = .ok (.tableswitch dflt lo hi offs, len)) (ho : ok32 z) (hh : z < lo ∨ hi < z) (ht : (pc : Int) + dflt = (tgt : Int)) (k : wp Y tgt lv st h rc rs Φ) : wp Y pc lv (.int (zI z) :: st) h rc rs Φ :=
  fun p l e R s m args below meth c H locs cells slots mc ms G b ls Q C hP hS hb hc hs hR hl HR => lv_tableOut C.1 C.2.1 hd (by rw [zI_toInt ho]; exact hh) ht (k p l e R s m args below meth c H locs cells slots mc ms G b ls Q C hP hS hb hc hs hR hl HR)
theorem w_tsw_in {Y : MT} {pc : Nat} {lv st : List Value} {h : HP} {rc rs : Nat} {Φ : Option Value → HP → Prop} {dflt lo hi z : Int} {offs : Array Int} {len : Nat} {off : Int} (tgt : Nat) (hd : decode Y.2.1 pc = .ok (.tableswitch dflt lo hi offs, len)) (ho : ok32 z) (h1 : ¬ z < lo) (h2 : ¬ hi < z) (hof : offs[(z - lo).toNat]? = some off) (ht : (pc : Int) + off = (tgt : Int)) (k : wp Y tgt lv st h rc rs Φ) : wp Y pc lv (.int (zI z) :: st) h rc rs Φ :=
  fun p l e R s m args below meth c H locs cells slots mc ms G b ls Q C hP hS hb hc hs hR hl HR => lv_tableIn C.1 C.2.1 hd (by rw [zI_toInt ho]; exact h1) (by rw [zI_toInt ho]; exact h2) (by rw [zI_toInt ho]; exact hof) ht (k p l e R s m args below meth c H locs cells slots mc ms G b ls Q C hP hS hb hc hs hR hl HR)
theorem w_lsw {Y : MT} {pc : Nat} {lv st : List Value} {h : HP} {rc rs : Nat} {Φ : Option Value → HP → Prop} {dflt z : Int} {ps : Array (Int × Int)} {len : Nat} {off : Int} (tgt : Nat) (hd : decode Y.2.1 pc = .ok (.lookupswitch dflt ps, len)) (hp : (ps.toList.zip (ps.toList.drop 1)).all (fun (a, next) => a.1 < next.1) = true) (ho : ok32 z) (hof : Op.lookupswitch.offset ps.toList dflt z = off) (ht : (pc : Int) + off = (tgt : Int)) (k : wp Y tgt lv st h rc rs Φ) : wp Y pc lv (.int (zI z) :: st) h rc rs Φ :=
  fun p l e R s m args below meth c H locs cells slots mc ms G b ls Q C hP hS hb hc hs hR hl HR => lv_lookup C.1 C.2.1 hd hp (by rw [zI_toInt ho]; exact hof) ht (k p l e R s m args below meth c H locs cells slots mc ms G b ls Q C hP hS hb hc hs hR hl HR)
theorem w_eqs {Y : MT} {pc : Nat} {lv st : List Value} {h : HP} {rc rs : Nat} {Φ : Option Value → HP → Prop} {st' : List Value} (hst : st = st') (k : wp Y pc lv st' h rc rs Φ) : wp Y pc lv st h rc rs Φ := hst ▸ k
theorem w_topi {Y : MT} {pc : Nat} {lv st : List Value} {h : HP} {rc rs : Nat} {Φ : Option Value → HP → Prop} {x y : Int32} (hxy : x = y) (k : wp Y pc lv (.int y :: st) h rc rs Φ) : wp Y pc lv (.int x :: st) h rc rs Φ := hxy ▸ k
theorem w_topl {Y : MT} {pc : Nat} {lv st : List Value} {h : HP} {rc rs : Nat} {Φ : Option Value → HP → Prop} {x y : Int64} (hxy : x = y) (k : wp Y pc lv (.long y :: st) h rc rs Φ) : wp Y pc lv (.long x :: st) h rc rs Φ := hxy ▸ k
theorem w_mono {Y : MT} {pc : Nat} {lv st : List Value} {h : HP} {rc rs : Nat} {Φ : Option Value → HP → Prop} {Ψ : Option Value → HP → Prop} (k : wp Y pc lv st h rc rs Ψ) (hi : ∀ v h', Ψ v h' → Φ v h') : wp Y pc lv st h rc rs Φ :=
  fun p l e R s m args below meth c H locs cells slots mc ms G b ls Q C hP hS hb hc hs hR hl HR => k p l e R s m args below meth c H locs cells slots mc ms G b ls Q C hP hS hb hc hs hR hl (fun v h' H' locs' cells' slots' pc' ls' hF => HR v h' H' locs' cells' slots' pc' ls' (hi v h' hF))
theorem w_room {Y : MT} {pc : Nat} {lv st : List Value} {h : HP} {rc rs : Nat} {Φ : Option Value → HP → Prop} {rc' rs' : Nat} (h1 : rc' ≤ rc) (h2 : rs' ≤ rs) (k : wp Y pc lv st h rc' rs' Φ) : wp Y pc lv st h rc rs Φ :=
  fun p l e R s m args below meth c H locs cells slots mc ms G b ls Q C hP hS hb hc hs hR hl HR => k p l e R s m args below meth c H locs cells slots mc ms G b ls Q C hP hS hb (by omega) (by omega) hR hl HR
theorem w_iret {Y : MT} {pc : Nat} {lv st : List Value} {h : HP} {rc rs : Nat} {Φ : Option Value → HP → Prop} {x : Int32} {ty : FieldType} (hr : Y.2.2.2.1 = some ty) (hn : narrow ty (.int x) = .int x) (hd : decode Y.2.1 pc = .ok (.ireturn, 1)) (k : Φ (some (.int x)) h) : wp Y pc lv [.int x] h rc rs Φ :=
  fun p l e R s m args below meth c H locs cells slots mc ms G b ls Q C hP hS hb hc hs hR hl HR => HR (some (.int x)) h H locs cells slots pc ls k ⟨ty, hr, hn, hd⟩ hP hS (by omega) (by omega)
theorem w_lret {Y : MT} {pc : Nat} {lv st : List Value} {h : HP} {rc rs : Nat} {Φ : Option Value → HP → Prop} {x : Int64} (hr : Y.2.2.2.1 = some .long) (hd : decode Y.2.1 pc = .ok (.lreturn, 1)) (k : Φ (some (.long x)) h) : wp Y pc lv [.long x] h rc rs Φ :=
  fun p l e R s m args below meth c H locs cells slots mc ms G b ls Q C hP hS hb hc hs hR hl HR => HR (some (.long x)) h H locs cells slots pc ls k ⟨hr, hd⟩ hP hS (by omega) (by omega)
theorem w_vret {Y : MT} {pc : Nat} {lv st : List Value} {h : HP} {rc rs : Nat} {Φ : Option Value → HP → Prop} (hr : Y.2.2.2.1 = none) (hd : decode Y.2.1 pc = .ok (.return_, 1)) (k : Φ none h) : wp Y pc lv [] h rc rs Φ :=
  fun p l e R s m args below meth c H locs cells slots mc ms G b ls Q C hP hS hb hc hs hR hl HR => HR none h H locs cells slots pc ls k ⟨hr, hd⟩ hP hS (by omega) (by omega)
theorem w_aret {Y : MT} {pc : Nat} {lv st : List Value} {h : HP} {rc rs : Nat} {Φ : Option Value → HP → Prop} {x : Nat} {rt : FieldType} (hr : Y.2.2.2.1 = some rt) (hrt : (∃ n, rt = .object n) ∨ ∃ t, rt = .array t) (hd : decode Y.2.1 pc = .ok (.areturn, 1)) (k : Φ (some (.ref x)) h) : wp Y pc lv [.ref x] h rc rs Φ :=
  fun p l e R s m args below meth c H locs cells slots mc ms G b ls Q C hP hS hb hc hs hR hl HR => HR (some (.ref x)) h H locs cells slots pc ls k ⟨rt, hr, hrt, hd⟩ hP hS (by omega) (by omega)
theorem w_aretN {Y : MT} {pc : Nat} {lv st : List Value} {h : HP} {rc rs : Nat} {Φ : Option Value → HP → Prop} {rt : FieldType} (hr : Y.2.2.2.1 = some rt) (hrt : (∃ n, rt = .object n) ∨ ∃ t, rt = .array t) (hd : decode Y.2.1 pc = .ok (.areturn, 1)) (k : Φ (some .null) h) : wp Y pc lv [.null] h rc rs Φ :=
  fun p l e R s m args below meth c H locs cells slots mc ms G b ls Q C hP hS hb hc hs hR hl HR => HR (some .null) h H locs cells slots pc ls k ⟨rt, hr, hrt, hd⟩ hP hS (by omega) (by omega)
