/-! the law: from its entry -/
def R_law : String := "LiftedChecksLaw"
def lw_P (b : Addr) (xs : List Int32) (args : Array Value) (s : State) : Prop := args = #[.ref b] ∧ s.IntsAt b xs ∧ xs.length ≤ 3072 ∧ (Jvm.Cond.and given_1 narrow_1).before args s = true
/-- what a walk over the start with the record d0 says of its end, said of the start itself -/
theorem lw_closed {s t : State} {o : Outcome} {d0 : Drawn} {L : List Loc} {k n : Nat} (hd0 : s.drawn.sameBut d0 lw_cs) (hv : ∃ v, o = .returned v) (hW : (s.setDrawn d0).WarmedH t.vm) (hs : (s.setDrawn d0).sameButNew ({ t with vm := s.vm } : State) L k n) : State.butDraws s t lw_cs (fun t1 => Framed s o t1 L k n) := by
  have h2 : t.drawn = d0 := congrArg State.drawn hs.1
  refine ⟨⟨hv, hW, State.sameButNew.setDrawn hs s.drawn⟩, ?_, by decide⟩
  rw [h2]
  exact hd0
def lw_Q (_ : Array Value) (s : State) (o : Outcome) (t : State) : Prop := o = .returned (some (.int 1)) ∧ State.butDraws s t lw_cs (fun t1 => Framed s o t1 [] 600000 7302250)
def lw_Z (below : List Frame) (a : Array Value) (s : State) : State → Prop := fun t => ∃ o, t.status = .running ∧ Ended t below o ∧ lw_Q a s o t
/-- the law's own end, with 1 on the stack, nothing written that was there before, its room as the claim has it; d0: the record of draws at this point (at the entry s.drawn: begin with 'refine W.base ?_' and 'have hd0 := Drawn.sameBut.refl s.drawn lw_cs') -/
theorem lw_ret {p : Program} {l : Launch} {e : Env} {s : State} {m : MethodId} {below : List Frame} {meth : Method} {c : Code} {b : Nat} {d0 : Drawn} (hd0 : s.drawn.sameBut d0 lw_cs) (hx : p.tables.exec = Jvm.exec) (hb : c.code = code) (hr : meth.sig.returnType = ret) (hlocks : meth.locks = false) {pc : Nat} {H : Heap} {ls : Array Slot} (hdg : decode code pc = .ok (.ireturn, 1)) : W p l e room_1 (s.setDrawn d0) m #[Value.ref b] below meth c H [] 600000 7302250 (lw_Z below #[Value.ref b] s) (F0 m pc ls [.int 1]) := by
  intro T hT X
  obtain ⟨fs, hret, hrun, hended, hW, hframe⟩ := X.leave (v := some (.int 1)) (hlocks := hlocks) (fun h => by rw [hr] at h; cases h)
  have hmeth' : T.vm.method? m = some meth := X.method'
  refine ⟨T.setFrames fs, ?_, .returned (some (.int 1)), hrun, hended, rfl, lw_closed hd0 ⟨_, rfl⟩ hW hframe⟩
  jvm_step X.here [X.here.top, hx, hb, hdg, hmeth', hr, ret, narrow_b1]
  (try refine ⟨rfl, ?_⟩); (try refine ⟨rfl, ?_⟩)
  first | (intro acts; rw [hret _ acts rfl rfl rfl]) | rw [hret _ _ rfl rfl rfl]
  exact Steps.refl _
/-- what holds at the law's entry: the machine, the code, the tables' words (any of lw_tbl by 'hts w (by decide +kernel)'), the script of L ints xs at the cell b, what the Statement gives of the start (any of its parts by flat_of_before) -/
def lw_At (p : Program) (s : State) (m : MethodId) (meth : Method) (c : Code) (b L : Nat) (xs : Nat → Int32) : Prop :=
  p.tables.exec = Jvm.exec ∧ c.code = code ∧ meth.sig.returnType = ret ∧ c.maxLocals = 4 ∧ s.vm.findClass R_law = some m.cls ∧ (∀ w ∈ lw_tbl, w.before #[Value.ref b] s = true) ∧ va_X b L xs s s.heap ∧ b < s.heap.size ∧ meth.locks = false ∧ (Jvm.Cond.and given_1 narrow_1).before #[Value.ref b] s = true
theorem ar_of {s : State} {cA comp : ClassId} {kA : Class} {ty : FieldType} (h1 : s.vm.classes[cA]? = some kA) (h2 : kA.kind = .array comp ty) : ArrOfT s cA ty := fun n z => ⟨fun k => by unfold arrV; simp, kA, h1, comp, h2⟩
theorem gw_any {s : State} {b : Nat} {w : Cond} (hts : ∀ w ∈ lw_tbl, w.before #[Value.ref b] s = true) (hw : w ∈ lw_tbl) (hn : isN w = true) : va_Nw w s := by
  have h1 := hts w hw
  cases w <;> first | (exact va_any rfl h1) | (exact h1) | (cases hn)
theorem st_cell {s : State} {b : Nat} (hts : ∀ w ∈ lw_tbl, w.before #[Value.ref b] s = true) (hgv : (Jvm.Cond.and given_1 narrow_1).before #[Value.ref b] s = true) : ∃ g : (Nat → Nat) × (Nat → Nat) × Nat, SX g s.heap.size s s.heap := by
  have hA : ∀ a : Nat, a < s.heap.size → ¬ (fun q => s.heap.size ≤ q) a := fun a ha hq => by
    replace hq : s.heap.size ≤ a := hq
    omega
  have hs := flat_of_before _ hgv
  have c4 : ∀ {Pr : Nat → Prop}, Pr 0 → Pr 1 → Pr 2 → Pr 3 → ∀ i, i < 4 → Pr i := fun h0 h1 h2 h3 i hi => by
    match i, hi with
    | 0, _ => exact h0
    | 1, _ => exact h1
    | 2, _ => exact h2
    | 3, _ => exact h3
    | i + 4, hi => omega
  have hex : ∀ i, i < 4 → (Cond.exactly (Term.string RX7 (scI i)) "java/lang/String").before #[Value.ref b] s = true := c4 (hs _ (by decide +kernel)) (hs _ (by decide +kernel)) (hs _ (by decide +kernel)) (hs _ (by decide +kernel))
  have hco : ∀ i, i < 4 → (Cond.eq (.field (Term.string RX7 (scI i)) "java/lang/String" "coder" "B") (.int 0)).before #[Value.ref b] s = true := c4 (hs _ (by decide +kernel)) (hs _ (by decide +kernel)) (hs _ (by decide +kernel)) (hs _ (by decide +kernel))
  have har : ∀ i, i < 4 → (Cond.arrayOf (.field (Term.string RX7 (scI i)) "java/lang/String" "value" "[B") .byte).before #[Value.ref b] s = true := c4 (hs _ (by decide +kernel)) (hs _ (by decide +kernel)) (hs _ (by decide +kernel)) (hs _ (by decide +kernel))
  have hle : ∀ i, i < 4 → (Cond.eq (.length (.field (Term.string RX7 (scI i)) "java/lang/String" "value" "[B")) (.int (Int32.ofNat (scL.getD i 0)))).before #[Value.ref b] s = true := c4 (hs _ (by decide +kernel)) (hs _ (by decide +kernel)) (hs _ (by decide +kernel)) (hs _ (by decide +kernel))
  have hel : ∀ i, i < 4 → ∀ j, j < scL.getD i 0 → (Cond.eq (.elem (.field (Term.string RX7 (scI i)) "java/lang/String" "value" "[B") (.int (Int32.ofNat j))) (.int ((scB.getD i []).getD j 0))).before #[Value.ref b] s = true := by
    refine c4 ?_ ?_ ?_ ?_
    · intro j hj
      match j, hj with
      | 0, _ => exact hs _ (by decide +kernel)
      | 1, _ => exact hs _ (by decide +kernel)
      | 2, _ => exact hs _ (by decide +kernel)
      | j + 3, hj => exact absurd hj (by show ¬ j + 3 < 3; omega)
    · intro j hj
      match j, hj with
      | 0, _ => exact hs _ (by decide +kernel)
      | 1, _ => exact hs _ (by decide +kernel)
      | 2, _ => exact hs _ (by decide +kernel)
      | 3, _ => exact hs _ (by decide +kernel)
      | j + 4, hj => exact absurd hj (by show ¬ j + 4 < 4; omega)
    · intro j hj
      match j, hj with
      | 0, _ => exact hs _ (by decide +kernel)
      | 1, _ => exact hs _ (by decide +kernel)
      | 2, _ => exact hs _ (by decide +kernel)
      | 3, _ => exact hs _ (by decide +kernel)
      | 4, _ => exact hs _ (by decide +kernel)
      | 5, _ => exact hs _ (by decide +kernel)
      | j + 6, hj => exact absurd hj (by show ¬ j + 6 < 6; omega)
    · intro j hj
      match j, hj with
      | 0, _ => exact hs _ (by decide +kernel)
      | 1, _ => exact hs _ (by decide +kernel)
      | 2, _ => exact hs _ (by decide +kernel)
      | 3, _ => exact hs _ (by decide +kernel)
      | j + 4, hj => exact absurd hj (by show ¬ j + 4 < 4; omega)
  have hne : ∀ i j, i < 4 → j < 4 → i ≠ j → (Cond.not (Cond.eq (Term.string RX7 (scI i)) (Term.string RX7 (scI j)))).before #[Value.ref b] s = true ∨ (Cond.not (Cond.eq (Term.string RX7 (scI j)) (Term.string RX7 (scI i)))).before #[Value.ref b] s = true := by
    intro i j hi hj hij
    rcases (show i = 0 ∨ i = 1 ∨ i = 2 ∨ i = 3 by omega) with q | q | q | q <;> subst q <;> rcases (show j = 0 ∨ j = 1 ∨ j = 2 ∨ j = 3 by omega) with r | r | r | r <;> subst r <;> first | (exact absurd rfl hij) | (exact Or.inl (hs _ (by decide +kernel))) | (exact Or.inr (hs _ (by decide +kernel)))
  obtain ⟨adK, adV, hS, hev⟩ := vk_Sof (args := #[Value.ref b]) (s := s) (N := 4) (tm := fun i => Term.string RX7 (scI i)) (len := scL) (byt := scB) (A := fun q => s.heap.size ≤ q) (c4 (by decide) (by decide) (by decide) (by decide)) hex hco har hle hel hne hA
  have hz1 : va_Z "java/lang/String" "COMPACT_STRINGS" "Z" (.int 1) (fun q => s.heap.size ≤ q) s s.heap := va_Zof (hts _ (List.mem_of_getElem? (i := 617) (by decide +kernel))) (hts _ (List.mem_of_getElem? (i := 121) (by decide +kernel))) (va_eqt (hs _ (by decide +kernel))) hA
  have hz2 : va_Zq "jdk/internal/util/Preconditions" "SIOOBE_FORMATTER" "Ljava/util/function/BiFunction;" (fun q => s.heap.size ≤ q) s s.heap := va_Zqof (hts _ (List.mem_of_getElem? (i := 633) (by decide +kernel))) (hts _ (List.mem_of_getElem? (i := 123) (by decide +kernel))) (hs _ (by decide +kernel)) hA
  obtain ⟨fm, hfm⟩ : ∃ n : Nat, va_Z "jdk/internal/util/Preconditions" "SIOOBE_FORMATTER" "Ljava/util/function/BiFunction;" (fmV n) (fun q => s.heap.size ≤ q) s s.heap := by
    rcases hz2 with q | ⟨t, q⟩
    · exact ⟨0, q⟩
    · exact ⟨t + 1, q⟩
  refine ⟨(adK, adV, fm), c4 (vk_R.of (hts _ (List.mem_of_getElem? (i := 603) (by decide +kernel))) (hev 0 (by omega))) (vk_R.of (hts _ (List.mem_of_getElem? (i := 668) (by decide +kernel))) (hev 1 (by omega))) (vk_R.of (hts _ (List.mem_of_getElem? (i := 673) (by decide +kernel))) (hev 2 (by omega))) (vk_R.of (hts _ (List.mem_of_getElem? (i := 674) (by decide +kernel))) (hev 3 (by omega))), hS, hz1, hfm⟩
theorem kk_start {s : State} {b : Nat} (hts : ∀ w ∈ lw_tbl, w.before #[Value.ref b] s = true) (hgv : (Jvm.Cond.and given_1 narrow_1).before #[Value.ref b] s = true) : ∃ G : DG, KK G s.heap.size s s.heap := by
  have htg : ∀ w ∈ gw, w.before #[Value.ref b] s = true := fun w hw => hts w (gw_tbl hw)
  obtain ⟨c0, i0, K0⟩ := u_known (C := RX0) (T := TX0) (N := 4) (n := 4) htg cwX0 (htg (.instantiable RX0 4) (gw_in (i := 492) (by decide +kernel) (by decide +kernel)))
  obtain ⟨c1, i1, K1⟩ := u_known (C := RX1) (T := TX1) (N := 9) (n := 9) htg cwX1 (htg (.instantiable RX1 9) (gw_in (i := 455) (by decide +kernel) (by decide +kernel)))
  obtain ⟨c2, i2, K2⟩ := u_known (C := RX2) (T := TX2) (N := 15) (n := 15) htg cwX2 (htg (.instantiable RX2 15) (gw_in (i := 137) (by decide +kernel) (by decide +kernel)))
  obtain ⟨c3, i3, K3⟩ := u_known (C := RX3) (T := TX3) (N := 5) (n := 5) htg cwX3 (htg (.instantiable RX3 5) (gw_in (i := 513) (by decide +kernel) (by decide +kernel)))
  obtain ⟨c4, i4, K4⟩ := u_known (C := RX5) (T := TX5) (N := 4) (n := 4) htg cwX5 (htg (.instantiable RX5 4) (gw_in (i := 246) (by decide +kernel) (by decide +kernel)))
  obtain ⟨c5, i5, K5⟩ := u_known (C := RX6) (T := TX6) (N := 3) (n := 3) htg cwX6 (htg (.instantiable RX6 3) (gw_in (i := 252) (by decide +kernel) (by decide +kernel)))
  obtain ⟨c6, i6, K6⟩ := u_known (C := RX7) (T := TX7) (N := 14) (n := 14) htg cwX7 (htg (.instantiable RX7 14) (gw_in (i := 401) (by decide +kernel) (by decide +kernel)))
  obtain ⟨c7, i7, K7⟩ := u_known (C := RX8) (T := TX8) (N := 17) (n := 17) htg cwX8 (htg (.instantiable RX8 17) (gw_in (i := 273) (by decide +kernel) (by decide +kernel)))
  obtain ⟨c8, i8, K8⟩ := u_known (C := RX9) (T := TX9) (N := 7) (n := 7) htg cwX9 (htg (.instantiable RX9 7) (gw_in (i := 129) (by decide +kernel) (by decide +kernel)))
  obtain ⟨c9, i9, K9⟩ := u_known (C := RX10) (T := TX10) (N := 28) (n := 28) htg cwX10 (htg (.instantiable RX10 28) (gw_in (i := 1238) (by decide +kernel) (by decide +kernel)))
  obtain ⟨dC, dI, hKc⟩ : ∃ (dC : Nat → ClassId) (dI : Nat → Nat → Nat), ∀ (k : Nat) (q : vw_C), vwCl[k]? = some q → u_Kn s q.1 q.2.1 q.2.2 (dC k) (dI k) := by
    refine ⟨fun k => match k with
      | 0 => c0
      | 1 => c1
      | 2 => c2
      | 3 => c3
      | 4 => c4
      | 5 => c5
      | 6 => c6
      | 7 => c7
      | 8 => c8
      | _ => c9, fun k => match k with
      | 0 => i0
      | 1 => i1
      | 2 => i2
      | 3 => i3
      | 4 => i4
      | 5 => i5
      | 6 => i6
      | 7 => i7
      | 8 => i8
      | _ => i9, ?_⟩
    intro k q hq
    match k, hq with
    | 0, hq => cases hq; exact K0
    | 1, hq => cases hq; exact K1
    | 2, hq => cases hq; exact K2
    | 3, hq => cases hq; exact K3
    | 4, hq => cases hq; exact K4
    | 5, hq => cases hq; exact K5
    | 6, hq => cases hq; exact K6
    | 7, hq => cases hq; exact K7
    | 8, hq => cases hq; exact K8
    | 9, hq => cases hq; exact K9
    | k + 10, hq => exact absurd hq (by simp)
  obtain ⟨a0, k0, p0, f0, u0, v0⟩ := Cond.arrayClass_spec (htg _ acI)
  obtain ⟨a1, k1, p1, f1, u1', v1⟩ := Cond.arrayClass_spec (htg _ acL)
  obtain ⟨p2, a2, k2, m2, -, u2, v2, f2⟩ := Cond.arrayOver_spec (hts _ aoC)
  obtain ⟨p3, a3, k3, m3, -, u3, v3, f3⟩ := Cond.arrayOver_spec (hts _ aoS)
  obtain ⟨p4, a4, k4, m4, u4, v4, f4⟩ := ao_long (hts _ aoL)
  obtain ⟨g, hg⟩ := st_cell hts hgv
  obtain ⟨dA, hdA⟩ : ∃ dA : Nat → ClassId, dA = fun k => match k with
      | 0 => a0
      | 1 => a1
      | 2 => a2
      | 3 => a3
      | _ => a4 := ⟨_, rfl⟩
  refine ⟨((dC, dI), dA, g), ⟨hKc, fun k q hq => ?_⟩, fun w hw hn => gw_any hts hw hn, hg⟩
  subst hdA
  match k, hq with
  | 0, hq => have hq2 : some ((a0, FieldType.int) : ClassId × FieldType) = some q := hq; cases hq2; exact ⟨ar_of u0 v0, f0⟩
  | 1, hq => have hq2 : some ((a1, FieldType.long) : ClassId × FieldType) = some q := hq; cases hq2; exact ⟨ar_of u1' v1, f1⟩
  | 2, hq => have hq2 : some ((a2, FieldType.object RX2) : ClassId × FieldType) = some q := hq; cases hq2; exact ⟨ar_of u2 v2, k2, p2, u2, v2, m2, f2⟩
  | 3, hq => have hq2 : some ((a3, FieldType.object RX8) : ClassId × FieldType) = some q := hq; cases hq2; exact ⟨ar_of u3 v3, k3, p3, u3, v3, m3, f3⟩
  | 4, hq => have hq2 : some ((a4, FieldType.array .long) : ClassId × FieldType) = some q := hq; cases hq2; exact ⟨ar_of u4 v4, by show s.vm.findClass ("[" ++ (FieldType.array .long).toString) = some a4; rw [show "[" ++ (FieldType.array .long).toString = "[[J" by decide +kernel]; exact f4⟩
  | k + 5, hq => exact absurd hq (by simp [tys])
/-- from the entry, for every script, the law comes to its end with true -/
theorem whole_start {p : Program} {e : Env} {s : State} {m : MethodId} {below : List Frame} {meth : Method} {c : Code} (l : Launch) (hflags : l.flags = flags0) {b L : Nat} {xs : Nat → Int32} (hL : L ≤ 3072) (C0 : lw_At p s m meth c b L xs) : W p l e room_1 s m #[Value.ref b] below meth c s.heap [] 0 0 (lw_Z below #[Value.ref b] s) (entryFrame m ([Value.ref b] : List Value).toArray 4) := by
  obtain ⟨hx, hb, hr, hml, hown, hts, hX, hbl, hlocks, hgv⟩ := id C0
  obtain ⟨G, hG⟩ := kk_start hts hgv
  have hl := lv_entry ([.ref b]) (n := 4) (Nat.le_of_ble_eq_true rfl)
  rw [lg_entry_eq]
  refine law_start (sb := b) (L0 := L) (xs := xs) (nm := meth.name) (o := s.heap.size) (f := fun _ => none) (rc := 600000) (rs := 7302250) hL (Nat.le_of_ble_eq_true rfl) (Nat.le_of_ble_eq_true rfl) p l e room_1 s m #[Value.ref b] below meth c s.heap [] 0 0 600000 7302250 G s.heap.size _ _ ⟨hX, hbl, hbl⟩ ⟨hx, hb, hml, hown, fun w hw => hts w (gw_tbl hw), hr, hlocks, hG, rfl⟩ ⟨rfl, fun a q hq => by cases hq⟩ va_S.rf (Nat.le_refl _) (Nat.le_of_ble_eq_true rfl) (Nat.le_of_ble_eq_true rfl) ⟨Nat.le_refl _, Nat.le_refl _, Nat.le_refl _, Nat.le_refl _⟩ (LV.of hl rfl (fun i v hi hv => ?_)) (fun v h' H' locs' cells' slots' pc' ls' hv hra hP' hS' hc' hs' => ?_)
  · match i, hi with
    | 0, hi => cases hi; exact List.mem_cons_self
    | 1, hi => cases hi; cases hv
    | 2, hi => cases hi; cases hv
    | 3, hi => cases hi; cases hv
    | i + 4, hi => exact absurd hi (by simp)
  · replace hv : v = some (.int 1) := hv
    subst hv
    obtain ⟨ty, -, -, hd⟩ := hra
    refine va_forget (fun q hq => hS'.2.2 q hq) ?_
    refine W.widen hc' hs' ?_
    exact lw_ret (Drawn.sameBut.refl s.drawn lw_cs) hx hb hr hlocks hd
