/-! arrays of arrays: five rows of sixteen longs at once -/
def mO (cA : ClassId) (h0 i : Nat) : Cell := arrV cA 5 (fun j => if j < i then .ref (h0 + 1 + j) else .null)
def mI (cB : ClassId) : Cell := arrV cB 16 (fun _ => .long 0)
/-- the state with the outer row and i inner ones, told in it -/
def mT (T : State) (cA cB : ClassId) : Nat → State
  | 0 => T.pushCell (mO cA T.heap.size 0)
  | i + 1 => ((mT T cA cB i).pushCell (mI cB)).setCell T.heap.size (mO cA T.heap.size (i + 1))
theorem mO_up {cA : ClassId} {h0 i : Nat} (hi : i < 5) : (mO cA h0 i).setSlot i (.ref (h0 + 1 + i)) = mO cA h0 (i + 1) := by
  rcases (show i = 0 ∨ i = 1 ∨ i = 2 ∨ i = 3 ∨ i = 4 by omega) with q | q | q | q | q <;> subst q <;> rfl
theorem mO_len {cA : ClassId} {h0 i : Nat} : (mO cA h0 i).slots.size = 5 := by simp [mO, arrV]
theorem mI_len {cB : ClassId} : (mI cB).slots.size = 16 := by simp [mI, arrV]
theorem mO_0 {cA : ClassId} {h0 : Nat} : mO cA h0 0 = ({ cls := cA, slots := Array.replicate 5 .null, vm := .none } : Cell) := by
  have q : (fun j : Nat => if j < 0 then Value.ref (h0 + 1 + j) else Value.null) = fun _ => Value.null := funext fun j => if_neg (Nat.not_lt_zero j)
  unfold mO
  rw [q, ← arrV_new]
theorem mI_new {cB : ClassId} : mI cB = ({ cls := cB, slots := Array.replicate 16 (.long 0), vm := .none } : Cell) := by
  unfold mI
  rw [← arrV_new]
theorem mT_at (T : State) (cA cB : ClassId) : ∀ i, (mT T cA cB i).heap.size = T.heap.size + 1 + i ∧ (mT T cA cB i).heap[T.heap.size]? = some (mO cA T.heap.size i) ∧ (mT T cA cB i).vm = T.vm ∧ (mT T cA cB i).slotsUsed = T.slotsUsed + 5 + 16 * i
  | 0 => ⟨by simp [mT], by simp [mT], rfl, by show T.slotsUsed + (mO cA T.heap.size 0).slots.size = _; rw [mO_len]⟩
  | i + 1 => by
    obtain ⟨a1, a2, a3, a4⟩ := mT_at T cA cB i
    have hin : T.heap.size < (mT T cA cB i).heap.size := by omega
    refine ⟨?_, State.heap_setCell_self ((State.heap_pushCell_of_lt _ _ hin).trans a2), a3, ?_⟩
    · simp [mT, State.setCell, a1]
      omega
    · show (mT T cA cB i).slotsUsed + (mI cB).slots.size = _
      rw [mI_len, a4]
      omega
theorem mT_old (T : State) (cA cB : ClassId) {a : Nat} (ha : a < T.heap.size) : ∀ i, (mT T cA cB i).heap[a]? = T.heap[a]?
  | 0 => State.heap_pushCell_of_lt _ _ ha
  | i + 1 => by
    have a1 := (mT_at T cA cB i).1
    refine (State.heap_setCell_other (show T.heap.size ≠ a by omega)).trans ?_
    refine (State.heap_pushCell_of_lt _ _ (show a < (mT T cA cB i).heap.size by omega)).trans ?_
    exact mT_old T cA cB ha i
theorem mT_in (T : State) (cA cB : ClassId) : ∀ i j, j < i → (mT T cA cB i).heap[T.heap.size + 1 + j]? = some (mI cB)
  | 0, _, hj => absurd hj (Nat.not_lt_zero _)
  | i + 1, j, hj => by
    have a1 := (mT_at T cA cB i).1
    refine (State.heap_setCell_other (show T.heap.size ≠ T.heap.size + 1 + j by omega)).trans ?_
    by_cases hji : j = i
    · subst hji
      rw [← a1]
      exact State.heap_pushCell_size _ _
    · refine (State.heap_pushCell_of_lt _ _ (show T.heap.size + 1 + j < (mT T cA cB i).heap.size by omega)).trans ?_
      exact mT_in T cA cB i j (by omega)
theorem mT_top (T : State) (f : JFrame) (cA cB : ClassId) : ∀ i, mT (T.setTop f) cA cB i = (mT T cA cB i).setTop f
  | 0 => rfl
  | i + 1 => by
    show ((mT (T.setTop f) cA cB i).pushCell (mI cB)).setCell T.heap.size (mO cA T.heap.size (i + 1)) = _
    rw [mT_top T f cA cB i]
    rfl
theorem mT_X {p : Program} {l : Launch} {e : Env} {R : Room} {s : State} {m : MethodId} {args : Array Value} {below : List Frame} {meth : Method} {c : Code} {T : State} {locs : List Loc} {cells slots : Nat} (X : Stand p l e R s m args below meth c T locs cells slots) (cA cB : ClassId) : ∀ i, i ≤ 5 → Stand p l e R s m args below meth c (mT T cA cB i) (locs ++ (List.range i).map fun j => ⟨T.heap.size, j⟩) (cells + 1 + i) (slots + 5 + 16 * i)
  | 0, _ => by
    have h := X.pushed (mO cA T.heap.size 0)
    rw [mO_len] at h
    simpa [mT] using h
  | i + 1, hi => by
    have Xi := mT_X X cA cB i (by omega)
    obtain ⟨a1, a2, a3, a4⟩ := mT_at T cA cB i
    have hin : T.heap.size < (mT T cA cB i).heap.size := by omega
    have h := (Xi.pushed (mI cB)).stored ((State.heap_pushCell_of_lt _ _ hin).trans a2) i (.ref (T.heap.size + 1 + i))
    rw [mI_len, mO_up (by omega)] at h
    rw [List.range_succ, List.map_append, ← List.append_assoc, show cells + 1 + (i + 1) = cells + 1 + i + 1 by omega, show slots + 5 + 16 * (i + 1) = slots + 5 + 16 * i + 16 by omega]
    exact h
/-- a new array of a known class, as the machine makes it -/
theorem nA_wp {E : CtlPost} {e : Env} {d : Bool} {acts : List Action} {s : State} {cX comp : ClassId} {kX : Class} {ty : FieldType} {len : Nat} {v : Value} (hk : s.vm.classes[cX]? = some kX) (hkind : kX.kind = .array comp ty) (hl : ¬ len > e.platform.arrayLengthLimit) (hh : ¬ len * componentBytes ty > e.platform.maxHeapBytes) (hf : fits ty v = true) (hd : v.isDefault = true) (h1 : s.heap.size < e.platform.maxCells) (h2 : s.slotsUsed + len ≤ e.platform.maxSlots) {Q : Addr → Pre} (hq : Q s.heap.size d acts (s.pushCell { cls := cX, slots := Array.replicate len v, vm := .none })) : Sem.wp (Jvm.newArray cX len v) Q E e d acts s := by
  have hall : ((Array.replicate len v).all (·.isDefault)) = true := by
    rw [Array.all_replicate]
    split
    · rfl
    · exact hd
  have hact : allocActs (Array.replicate len v) s.heap.size acts = acts := by
    unfold allocActs
    exact if_pos hall
  have hsl : ∀ (i : Nat) (w : Value), (Array.replicate len v)[i]? = some w → s.fitsSlot cX .none i w = true := by
    intro i w hw
    rw [Array.getElem?_replicate] at hw
    by_cases hi : i < len
    · rw [if_pos hi] at hw
      cases hw
      simp [State.fitsSlot, State.slotType?, hk, hkind, hf]
    · rw [if_neg hi] at hw
      cases hw
  simp only [Jvm.newArray, Jvm.arrayFits, wp_bind', W.ask, W.ite, hl, if_false, wp_pure', W.theClass, hk, hkind, hh, W.alloc, W.stop, Option.some.injEq, exists_eq_left', Array.size_replicate, hact]
  rw [if_neg (by omega)]
  exact ⟨h1, h2, hsl, hq⟩
/-- the class of rows of longs, and of rows of such rows, by the tables -/
theorem ao_long {args : Array Value} {s : State} (h : (Cond.arrayOver (.array .long)).before args s = true) : ∃ (cB cA : ClassId) (kA : Class), s.vm.findClass "[J" = some cB ∧ s.vm.classes[cA]? = some kA ∧ kA.kind = .array cB (.array .long) ∧ s.vm.findClass "[[J" = some cA := by
  have e1 : (FieldType.array .long).toString = "[J" := by decide +kernel
  have e2 : "[" ++ (FieldType.array .long).toString = "[[J" := by decide +kernel
  unfold Cond.before Cond.holds at h
  simp only [Cond.value, beq_iff_eq] at h
  rw [e1] at h
  obtain ⟨cB, b1, h⟩ := Option.bind_eq_some_iff.mp h
  obtain ⟨cA, b2, h⟩ := Option.bind_eq_some_iff.mp h
  obtain ⟨kA, b3, h⟩ := Option.map_eq_some_iff.mp h
  obtain ⟨hlt, hp, -⟩ := Array.findIdx?_eq_some_iff_getElem.mp b2
  have hkk : s.vm.classes[cA] = kA := (Array.getElem?_eq_some_iff.mp b3).2
  rw [hkk] at hp
  cases hkd : kA.kind with
  | array comp t =>
    rw [hkd] at h hp
    simp only [beq_iff_eq] at hp
    simp only [Bool.and_eq_true, decide_eq_true_eq] at h
    refine ⟨cB, cA, kA, b1, b3, ?_, h.2⟩
    rw [hkd, hp, h.1]
  | _ => rw [hkd] at h; simp at h
theorem mk_wp {E : CtlPost} {e : Env} {d : Bool} {acts : List Action} {s : State} {cA cB cc : ClassId} {kA kB : Class} (hkA : s.vm.classes[cA]? = some kA) (hA : kA.kind = .array cB (.array .long)) (hkB : s.vm.classes[cB]? = some kB) (hB : kB.kind = .array cc .long) (l5 : ¬ 5 > e.platform.arrayLengthLimit) (h5 : ¬ 5 * componentBytes (.array .long) > e.platform.maxHeapBytes) (l16 : ¬ 16 > e.platform.arrayLengthLimit) (h16 : ¬ 16 * componentBytes .long > e.platform.maxHeapBytes) (hc : s.heap.size + 6 ≤ e.platform.maxCells) (hs : s.slotsUsed + 85 ≤ e.platform.maxSlots) {Q : Addr → Pre} (hq : ∀ d' acts', Q s.heap.size d' acts' (mT s cA cB 5)) : Sem.wp (multianewarray.make cA [5, 16]) Q E e d acts s := by
  have n5 : (5 : Int32).toNatClampNeg = 5 := by decide
  have n16 : (16 : Int32).toNatClampNeg = 16 := by decide
  have p5 : ¬ (5 : Int32) < 0 := by decide
  have p16 : ¬ (16 : Int32) < 0 := by decide
  rw [multianewarray.make]
  simp only [wp_bind', W.ite, p5, if_false, wp_pure', W.theClass, hkA, hA, Option.some.injEq, exists_eq_left', n5]
  refine nA_wp hkA hA l5 h5 rfl rfl (by omega) (by omega) ?_
  rw [← mO_0 (h0 := s.heap.size), show ([(16 : Int32)].find? (· < 0)) = none by decide]
  rw [show ((5 : Int32) == 0) = false by decide]
  simp only [Bool.false_eq_true, if_false]
  rw [wp_bind', Std.Legacy.Range.forIn_eq_forIn_range', show ([:5] : Std.Legacy.Range).size = 5 by decide]
  show Sem.wp (forIn (List.range' 0 5 1) PUnit.unit _) _ E e d acts _
  refine wp_forIn_inv (fun rest s' => ∃ i, i ≤ 5 ∧ rest = List.range' i (5 - i) ∧ s' = mT s cA cB i) _ _ ⟨0, by omega, rfl, rfl⟩ ?_ ?_
  · rintro x rest s' d' acts' Q' ⟨i, hi, hrl, rfl⟩ nxt
    have hi5 : i < 5 := by
      refine Nat.lt_of_le_of_ne hi (fun z => ?_)
      subst z
      cases hrl
    rw [show 5 - i = (5 - (i + 1)) + 1 by omega, List.range'_succ] at hrl
    obtain ⟨hx, hrest⟩ := List.cons.inj hrl
    subst hx
    obtain ⟨a1, a2, a3, a4⟩ := mT_at s cA cB x
    simp only [wp_bind']
    rw [multianewarray.make]
    simp only [wp_bind', W.ite, p16, if_false, wp_pure', W.theClass, a3, hkB, hB, Option.some.injEq, exists_eq_left', n16]
    refine nA_wp (kX := kB) (comp := cc) (ty := .long) (by rw [a3]; exact hkB) hB l16 h16 rfl rfl (by omega) (by omega) ?_
    rw [show (defaultValue FieldType.long) = Value.long 0 from rfl, ← mI_new]
    simp only [wp_bind', W.writeLoc, wp_pure']
    refine ⟨mO cA s.heap.size x, (State.heap_pushCell_of_lt _ _ (show s.heap.size < (mT s cA cB x).heap.size by omega)).trans a2, by unfold mO arrV; simp, by rw [mO_len]; exact hi5, ?_, nxt _ _ _ ⟨x + 1, hi5, hrest, ?_⟩⟩
    · show State.fitsSlot _ cA .none x _ = true
      simp [State.fitsSlot, State.slotType?, a3, hkA, hA]
      rfl
    · rw [a1, mO_up hi5]
      rfl
  · rintro s' d' acts' ⟨i, hi, hrl, rfl⟩
    have hi5 : i = 5 := by
      refine Nat.le_antisymm hi (Nat.le_of_not_lt fun z => ?_)
      rw [show 5 - i = (5 - (i + 1)) + 1 by omega, List.range'_succ] at hrl
      cases hrl
    subst hi5
    simp only [wp_pure']
    exact hq _ _
theorem W_multi {p : Program} {l : Launch} {e : Env} {R : Room} {s : State} {m : MethodId} {args : Array Value} {below : List Frame} {meth : Method} {c : Code} {H : Heap} {locs : List Loc} {cells slots : Nat} {Q : State → Prop} {cc : ByteArray} {pc : Nat} {ls : Array Slot} {rest : List Value} {own : String} {index : Nat} (hexec : p.tables.exec = Jvm.exec) (hb : c.code = cc) (hown : s.vm.findClass own = some m.cls) (hclink : (Cond.classLink own index "[[J").before args s = true) (hover : (Cond.arrayOver (.array .long)).before args s = true) (harr : (Cond.arrayClass .long).before args s = true) (hdg : decode cc pc = .ok (.multianewarray index 2, 4)) (hc : cells + 6 ≤ R.cells) (hs : slots + 85 ≤ R.slots)
    (kk : ∀ (cA cB : ClassId) (H1 : Heap), s.vm.findClass "[[J" = some cA → s.vm.findClass "[J" = some cB → H1.size = H.size + 6 → (∀ q : Nat, q < H.size → H1[q]? = H[q]?) → H1[H.size]? = some (arrV cA 5 (fun j => .ref (H.size + 1 + j))) → (∀ j, j < 5 → H1[H.size + 1 + j]? = some (arrV cB 16 (fun _ => .long 0))) → W p l e R s m args below meth c H1 (locs ++ (List.range 5).map fun j => ⟨H.size, j⟩) (cells + 6) (slots + 85) Q (F0 m (pc + 4) ls (.ref H.size :: rest))) :
    W p l e R s m args below meth c H locs cells slots Q (F0 m pc ls (.int 16 :: .int 5 :: rest)) := by
  intro T hT X
  subst hT
  subst hb
  have hpl : e.platform.magicAccessors = ({} : Platform).magicAccessors := by rw [X.admits.platform]
  obtain ⟨cB, cA, kA, fB, kAat, kAk, fA⟩ := ao_long hover
  obtain ⟨cB', kB, cc, fB', kBat, kBk⟩ := Cond.arrayClass_spec harr
  rw [show "[" ++ FieldType.long.toString = "[J" by decide +kernel] at fB'
  cases fB.symm.trans fB'
  obtain ⟨c0, f0, hcl⟩ := Cond.classLink_spec hown hclink e.platform hpl
  cases fA.symm.trans f0
  obtain ⟨hg, hwarm, -⟩ := State.classEntry (e := e) X.warmed hcl
  generalize T.vm.noted m.cls index (.cls cA) = vm1 at hg hwarm
  obtain ⟨kA1, kAat1, eA⟩ := hwarm.alike.2.2 _ _ kAat
  obtain ⟨kB1, kBat1, eB⟩ := hwarm.alike.2.2 _ _ kBat
  have kAk1 : kA1.kind = .array cB (.array .long) := by rw [eA]; exact kAk
  have kBk1 : kB1.kind = .array cc .long := by rw [eB]; exact kBk
  have X1 := X.noted hwarm
  obtain ⟨rm1, rm2⟩ := X.roomAbove hc hs
  have lim : ∀ n : Nat, n ≤ 16 → ¬ n > e.platform.arrayLengthLimit := fun n hn => by rw [Launch.admits_arrayLengthLimit X.admits]; omega
  have X5 := mT_X X1 cA cB 5 (by omega)
  obtain ⟨a1, a2, a3, a4⟩ := mT_at (T.setVm vm1) cA cB 5
  have a5 : (mT (T.setVm vm1) cA cB 5).heap[T.heap.size]? = some (arrV cA 5 (fun j => .ref (T.heap.size + 1 + j))) := a2.trans rfl
  obtain ⟨t, w1, w2⟩ := kk cA cB (mT (T.setVm vm1) cA cB 5).heap fA fB a1 (fun q hq => mT_old (T.setVm vm1) cA cB hq 5) a5 (fun j hj => mT_in (T.setVm vm1) cA cB 5 j hj) (mT (T.setVm vm1) cA cB 5) rfl X5
  refine ⟨t, ?_, w2⟩
  jvm_step X.here [hexec, hdg]
  simp only [multianewarray.sem, wp_bind', W.resolveClassAt_links (State.method?_setTop (F0 m pc ls (.int 16 :: .int 5 :: rest)) X.here.top) hg]
  rw [W.popN, if_neg (by decide)]
  refine ⟨F0 m pc ls (.int 16 :: .int 5 :: rest), State.topJava?_setTop' (s := T.setVm vm1) _ X.here.top, [.int 5, .int 16], rest, rfl, rfl, ?_⟩
  simp only [List.mapM_cons, List.mapM_nil, wp_bind', wp_pure']
  have eS : ((T.setTop (F0 m pc ls (.int 16 :: .int 5 :: rest))).setVm vm1).setTop (F0 m pc ls rest) = (T.setVm vm1).setTop (F0 m pc ls rest) := by
    show ((T.setVm vm1).setTop _).setTop _ = _
    rw [State.setTop_setTop]
  show Sem.wp _ _ _ e true [] (((T.setTop (F0 m pc ls (.int 16 :: .int 5 :: rest))).setVm vm1).setTop (F0 m pc ls rest))
  rw [eS]
  refine mk_wp (s := (T.setVm vm1).setTop (F0 m pc ls rest)) (kA := kA1) (kB := kB1) (cc := cc) kAat1 kAk1 kBat1 kBk1 (lim 5 (by omega)) (by rw [Launch.admits_maxHeapBytes X.admits]; decide) (lim 16 (by omega)) (by rw [Launch.admits_maxHeapBytes X.admits]; decide) rm1 rm2 (fun d' acts' => ?_)
  rw [mT_top]
  simp only [wp_bind', W.mark, W.pushRef, State.topJava?_setTop' _ X5.here.top, Option.some.injEq, exists_eq_left', State.setTop_setTop, State.heap_setTop]
  intro acts
  simp [jvm, X5.here.top]
  exact w1
theorem w_multi {Y : MT} {pc : Nat} {lv st : List Value} {h : HP} {rc rs : Nat} {Φ : Option Value → HP → Prop} {idx : Nat} (w1 : Cond.classLink Y.1.cls idx "[[J" ∈ gw) (w2 : Cond.arrayOver (.array .long) ∈ lw_tbl) (w3 : Cond.arrayClass .long ∈ gw) (h1 : 6 ≤ rc) (h2 : 85 ≤ rs) (hd : decode Y.2.1 pc = .ok (.multianewarray idx 2, 4)) (kk : wp Y (pc + 4) lv (.ref h.1 :: st) (h.1 + 6, fun x => if x = h.1 then some (aR 4 5 (fun j => some (h.1 + 1 + j))) else if h.1 + 1 ≤ x ∧ x ≤ h.1 + 5 then some (aL 16 (fun _ => 0)) else h.2 x) (rc - 6) (rs - 85) Φ) : wp Y pc lv (.int (zI 16) :: .int (zI 5) :: st) h rc rs Φ := by
  intro p l e R s m args below meth c H locs cells slots mc ms G b ls Q C hP hS hb hc hs hR hl HR
  have hov : (Cond.arrayOver (.array .long)).before args s = true := ((C.2.2.2.2.2.2.2.1.2.1 : NW s) _ w2 rfl)
  refine W_multi C.1 C.2.1 C.2.2.2.1 (cx_w C _ w1) hov (cx_w C _ w3) hd (by have := hR.1; omega) (by have := hR.2.1; omega) fun cA comp H1 f1 f2 z1 o1 e1 e2 => ?_
  have g4 : s.vm.findClass ("[" ++ (FieldType.array .long).toString) = some (G.2.1 4) := ((cx_K C).2 4 _ rfl).2
  have g1 : s.vm.findClass ("[" ++ FieldType.long.toString) = some (G.2.1 1) := ((cx_K C).2 1 _ rfl).2
  rw [show "[" ++ (FieldType.array .long).toString = "[[J" by decide +kernel] at g4
  rw [show "[" ++ FieldType.long.toString = "[J" by decide +kernel] at g1
  have hcA : cA = G.2.1 4 := Option.some.inj (f1.symm.trans g4)
  have hcB : comp = G.2.1 1 := Option.some.inj (f2.symm.trans g1)
  subst hcA
  subst hcB
  have hba : b ≤ H.size := Nat.le_trans hb hS.1
  have hsz := hP.1
  have key := kk p l e R s m args below meth c H1 (locs ++ (List.range 5).map fun j => ⟨H.size, j⟩) (cells + 6) (slots + 85) mc ms G b ls Q C ⟨by rw [z1, hP.1], fun x y hx => ?_⟩ ⟨by rw [z1]; have := hS.1; omega, fun q h3 h4 => (o1 q (by have := hS.1; omega)).trans (hS.2.1 q h3 h4), fun q hq => ?_⟩ hb (by omega) (by omega) hR hl HR
  · rw [← hsz] at key; exact key
  · replace hx : (if x = h.1 then some (aR 4 5 (fun j => some (h.1 + 1 + j))) else if h.1 + 1 ≤ x ∧ x ≤ h.1 + 5 then some (aL 16 (fun _ => 0)) else h.2 x) = some y := hx
    by_cases hx1 : x = h.1
    · rw [if_pos hx1] at hx
      cases hx
      subst hx1
      refine ⟨by omega, ?_⟩
      rw [hsz] at e1
      exact e1
    · rw [if_neg hx1] at hx
      by_cases hx2 : h.1 + 1 ≤ x ∧ x ≤ h.1 + 5
      · rw [if_pos hx2] at hx
        cases hx
        refine ⟨by omega, ?_⟩
        have := e2 (x - (h.1 + 1)) (by omega)
        rw [hsz, show h.1 + 1 + (x - (h.1 + 1)) = x by omega] at this
        exact this
      · rw [if_neg hx2] at hx
        have hlt := (hP.2 x y hx).2.lt
        exact ⟨(hP.2 x y hx).1, (hP.2 x y hx).2.kept (o1 x hlt)⟩
  · rcases List.mem_append.mp hq with h3 | h3
    · exact hS.2.2 q h3
    · obtain ⟨j, -, rfl⟩ := List.mem_map.mp h3
      exact hba
