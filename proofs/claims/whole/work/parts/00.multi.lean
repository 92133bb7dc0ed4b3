/-! rows of rows at once -/
theorem multi_out (cA : ClassId) (h0 : Nat) : Jvm.Free.Multi.outerC cA 5 h0 5 = arrV cA 5 (fun j => .ref (h0 + 1 + j)) := by
  unfold arrV
  rfl
theorem W_multi {p : Program} {l : Launch} {e : Env} {R : Room} {s : State} {m : MethodId} {args : Array Value} {below : List Frame} {meth : Method} {c : Code} {H : Heap} {locs : List Loc} {cells slots : Nat} {Q : State → Prop} {cc : ByteArray} {pc : Nat} {ls : Array Slot} {rest : List Value} {own : String} {index : Nat} (hexec : p.tables.exec = Jvm.exec) (hb : c.code = cc) (hown : s.vm.findClass own = some m.cls) (hclink : (Cond.classLink own index "[[J").before args s = true) (hover : (Cond.arrayOver (.array .long)).before args s = true) (harr : (Cond.arrayClass .long).before args s = true) (hdg : decode cc pc = .ok (.multianewarray index 2, 4)) {n k : Int32} (hn : n.toNatClampNeg = 5) (hk : k.toNatClampNeg = 16) (hn0 : ¬ n < 0) (hk0 : ¬ k < 0) (hc : cells + 6 ≤ R.cells) (hs : slots + 85 ≤ R.slots)
    (kk : ∀ (cA comp : ClassId) (H1 : Heap), s.vm.findClass "[[J" = some cA → s.vm.findClass "[J" = some comp → H1.size = H.size + 6 → (∀ q : Nat, q < H.size → H1[q]? = H[q]?) → H1[H.size]? = some (arrV cA 5 (fun j => .ref (H.size + 1 + j))) → (∀ j, j < 5 → H1[H.size + 1 + j]? = some (arrV comp 16 (fun _ => .long 0))) → W p l e R s m args below meth c H1 (locs ++ (List.range 5).map fun j => ⟨H.size, j⟩) (cells + 6) (slots + 85) Q (F0 m (pc + 4) ls (.ref H.size :: rest))) :
    W p l e R s m args below meth c H locs cells slots Q (F0 m pc ls (.int k :: .int n :: rest)) := by
  intro T hT X
  have e1 : "[" ++ (FieldType.array .long).toString = "[[J" := by decide +kernel
  have e2 : (FieldType.array .long).toString = "[J" := by decide +kernel
  obtain ⟨vm₁, cA, comp, hW, hfA, hfC, -, -, X1, step⟩ := Jvm.Stand.multianewarray2K X hexec (ty := .long) hown (by rw [e1]; exact hclink) hover harr (g := F0 m pc ls (.int k :: .int n :: rest)) rfl (by rw [hb]; exact hdg) rfl hn0 hk0 (by rw [hn]; decide) (by rw [hk]; decide) (by rw [hk]; decide) rfl rfl (by rw [hn]; exact hc) (by rw [hn, hk]; exact hs)
  rw [e1] at hfA
  rw [e2] at hfC
  rw [hn, hk] at X1 step
  obtain ⟨f1, f2, -, -⟩ := Jvm.Free.Multi.fill_facts (T.setVm vm₁) cA comp 5 16 (defaultValue .long) 5
  have hz : (T.setVm vm₁).heap = H := hT
  have f3 := fun (a : Addr) (ha : a < (T.setVm vm₁).heap.size) => Jvm.Free.Multi.fill_old (T.setVm vm₁) cA comp 5 16 (defaultValue .long) ha 5
  have f4 := fun (j : Nat) (hj : j < 5) => Jvm.Free.Multi.fill_inner (T.setVm vm₁) cA comp 5 16 (defaultValue .long) 5 j hj
  have hTs : T.heap.size = H.size := by rw [hT]
  rw [hz] at f1 f2 f3 f4
  rw [hTs] at X1 step
  obtain ⟨t, a, b⟩ := kk cA comp _ hfA hfC f1 f3 (by rw [f2, multi_out]) (fun j hj => by rw [f4 j hj, ← arrV_new]; rfl) (Jvm.Free.Multi.fill (T.setVm vm₁) cA comp 5 16 (defaultValue .long) 5) rfl X1
  exact ⟨t, step t a, b⟩
