/-! string constants: the rows again, for one run -/
def wq (G : DG) (b : Nat) (Y : MT) (pc : Nat) (lv st : List Value) (h : HP) (rc rs : Nat) (Φ : Option Value → HP → Prop) : Prop :=
  ∀ (p : Program) (l : Launch) (e : Env) (R : Room) (s : State) (m : MethodId) (args : Array Value) (below : List Frame) (meth : Method) (c : Code) (H : Heap) (locs : List Loc) (cells slots mc ms : Nat) (ls : Array Slot) (Q : State → Prop),
    CX Y p s m args meth c G b → RP G b h H → va_S (fun q => b ≤ q) s.heap H locs → b ≤ s.heap.size → cells + rc ≤ mc → slots + rs ≤ ms →
    (mc ≤ R.cells ∧ ms ≤ R.slots ∧ Y.2.2.2.2.1 ≤ R.frames ∧ Y.2.2.2.2.2 ≤ R.locals) → LV lv ls →
    (∀ (v : Option Value) (h' : HP) (H' : Heap) (locs' : List Loc) (cells' slots' pc' : Nat) (ls' : Array Slot), Φ v h' → RA Y pc' v → RP G b h' H' → va_S (fun q => b ≤ q) s.heap H' locs' → cells' ≤ mc → slots' ≤ ms → W p l e R s m args below meth c H' locs' cells' slots' Q (F0 m pc' ls' v.toList)) →
    W p l e R s m args below meth c H locs cells slots Q (F0 m pc ls st)
def sq (G : DG) (b : Nat) (Y : MT) (av : List Value) (h : HP) (mc ms : Nat) (Φ : Option Value → HP → Prop) : Prop := ∀ (l : Launch), Met l Y.1 (wsY Y) (rmY Y mc ms) (va_Pc av (PP G b h)) (QQ G b Φ) mc ms (fun q => b ≤ q)
theorem wq_of {G : DG} {b : Nat} {Y : MT} {pc : Nat} {lv st : List Value} {h : HP} {rc rs : Nat} {Φ : Option Value → HP → Prop} (k : wp Y pc lv st h rc rs Φ) : wq G b Y pc lv st h rc rs Φ :=
  fun p l e R s m args below meth c H locs cells slots mc ms ls Q C hP hS hb hc hs hR hl HR => k p l e R s m args below meth c H locs cells slots mc ms G b ls Q C hP hS hb hc hs hR hl HR
theorem yw_iconst {G : DG} {b : Nat} {Y : MT} {pc : Nat} {lv st : List Value} {h : HP} {rc rs : Nat} {Φ : Option Value → HP → Prop} {n : Int} (hd : decode Y.2.1 pc = .ok (.iconst n, 1)) (k : wq G b Y (pc + 1) lv (.int (zI n) :: st) h rc rs Φ) : wq G b Y pc lv (st) h rc rs Φ :=
  fun p l e R s m args below meth c H locs cells slots mc ms ls Q C hP hS hb hc hs hR hl HR => lv_iconst C.1 C.2.1 hd rfl (k p l e R s m args below meth c H locs cells slots mc ms ls Q C hP hS hb hc hs hR hl HR)
theorem yw_iload_n {G : DG} {b : Nat} {Y : MT} {pc : Nat} {lv st : List Value} {h : HP} {rc rs : Nat} {Φ : Option Value → HP → Prop} {k0 : Fin 4} {i : Nat} {x : Int32} (hd : decode Y.2.1 pc = .ok (.iload_n k0, 1)) (hi : (k0 : Nat) = i) (hv : lv[i]? = some (.int x)) (k : wq G b Y (pc + 1) lv (.int x :: st) h rc rs Φ) : wq G b Y pc lv (st) h rc rs Φ :=
  fun p l e R s m args below meth c H locs cells slots mc ms ls Q C hP hS hb hc hs hR hl HR => lv_iload_n C.1 C.2.1 hd hi (hl.2.2 _ _ hv rfl) (k p l e R s m args below meth c H locs cells slots mc ms ls Q C hP hS hb hc hs hR hl HR)
theorem yw_aload_n {G : DG} {b : Nat} {Y : MT} {pc : Nat} {lv st : List Value} {h : HP} {rc rs : Nat} {Φ : Option Value → HP → Prop} {k0 : Fin 4} {i : Nat} {x : Nat} (hd : decode Y.2.1 pc = .ok (.aload_n k0, 1)) (hi : (k0 : Nat) = i) (hv : lv[i]? = some (.ref x)) (k : wq G b Y (pc + 1) lv (.ref x :: st) h rc rs Φ) : wq G b Y pc lv (st) h rc rs Φ :=
  fun p l e R s m args below meth c H locs cells slots mc ms ls Q C hP hS hb hc hs hR hl HR => lv_aload_n C.1 C.2.1 hd hi (hl.2.2 _ _ hv rfl) (k p l e R s m args below meth c H locs cells slots mc ms ls Q C hP hS hb hc hs hR hl HR)
theorem yw_isubR {G : DG} {b : Nat} {Y : MT} {pc : Nat} {lv st : List Value} {h : HP} {rc rs : Nat} {Φ : Option Value → HP → Prop} {x y : Int32} (hd : decode Y.2.1 pc = .ok (.isub, 1)) (k : wq G b Y (pc + 1) lv (.int (x - y) :: st) h rc rs Φ) : wq G b Y pc lv (.int y :: .int x :: st) h rc rs Φ :=
  fun p l e R s m args below meth c H locs cells slots mc ms ls Q C hP hS hb hc hs hR hl HR => lv_isub C.1 C.2.1 hd  (k p l e R s m args below meth c H locs cells slots mc ms ls Q C hP hS hb hc hs hR hl HR)
theorem yw_isub {G : DG} {b : Nat} {Y : MT} {pc : Nat} {lv st : List Value} {h : HP} {rc rs : Nat} {Φ : Option Value → HP → Prop} {x y : Int} (hd : decode Y.2.1 pc = .ok (.isub, 1)) (k : wq G b Y (pc + 1) lv (.int (zI (x - y)) :: st) h rc rs Φ) : wq G b Y pc lv (.int (zI y) :: .int (zI x) :: st) h rc rs Φ := yw_isubR hd (by rw [zI_sub]; exact k)
theorem yw_iaddR {G : DG} {b : Nat} {Y : MT} {pc : Nat} {lv st : List Value} {h : HP} {rc rs : Nat} {Φ : Option Value → HP → Prop} {x y : Int32} (hd : decode Y.2.1 pc = .ok (.iadd, 1)) (k : wq G b Y (pc + 1) lv (.int (x + y) :: st) h rc rs Φ) : wq G b Y pc lv (.int y :: .int x :: st) h rc rs Φ :=
  fun p l e R s m args below meth c H locs cells slots mc ms ls Q C hP hS hb hc hs hR hl HR => lv_iadd C.1 C.2.1 hd  (k p l e R s m args below meth c H locs cells slots mc ms ls Q C hP hS hb hc hs hR hl HR)
theorem yw_iadd {G : DG} {b : Nat} {Y : MT} {pc : Nat} {lv st : List Value} {h : HP} {rc rs : Nat} {Φ : Option Value → HP → Prop} {x y : Int} (hd : decode Y.2.1 pc = .ok (.iadd, 1)) (k : wq G b Y (pc + 1) lv (.int (zI (x + y)) :: st) h rc rs Φ) : wq G b Y pc lv (.int (zI y) :: .int (zI x) :: st) h rc rs Φ := yw_iaddR hd (by rw [zI_add]; exact k)
theorem yw_getf {G : DG} {b : Nat} {Y : MT} {pc : Nat} {lv st : List Value} {h : HP} {rc rs : Nat} {Φ : Option Value → HP → Prop} {idx ci k a : Nat} {fin : Bool} {ty : FieldType} {fs : List Value} {v : Value} (hf : FW Y.1.cls idx ci k fin ty) (hd : decode Y.2.1 pc = .ok (.getfield idx, 3)) (ho : h.2 a = some (.inr (ci, fs))) (hv : fs[k]? = some v) (kk : wq G b Y (pc + 3) lv (v :: st) h rc rs Φ) : wq G b Y pc lv (.ref a :: st) h rc rs Φ := by
  intro p l e R s m args below meth c H locs cells slots mc ms ls Q C hP hS hb hc hs hR hl HR
  obtain ⟨C0, T, N, ty0, hcl, hk, hin, hpt, hnm, hlk, -, -, -⟩ := hf
  exact va_get C.1 C.2.1 (cx_w C) hin C.2.2.2.1 (cx_K C) (hP.one ho) 0 rfl hcl k hk (cx_w C _ hlk) (fun x hx => hx) hv hd (kk p l e R s m args below meth c H locs cells slots mc ms ls Q C hP hS hb hc hs hR hl HR)
theorem yw_icmp_ne {G : DG} {b : Nat} {Y : MT} {pc : Nat} {lv st : List Value} {h : HP} {rc rs : Nat} {Φ : Option Value → HP → Prop} {y z : Int} {off : Int} (tgt : Nat) (hd : decode Y.2.1 pc = .ok (.if_icmp .ne off, 3)) (ht : (pc : Int) + off = (tgt : Int)) (hy : ok32 y) (hz : ok32 z) (kt : ¬ y = z → wq G b Y tgt lv st h rc rs Φ) (kf : y = z → wq G b Y (pc + 3) lv st h rc rs Φ) : wq G b Y pc lv (.int (zI z) :: .int (zI y) :: st) h rc rs Φ :=
  fun p l e R s m args below meth c H locs cells slots mc ms ls Q C hP hS hb hc hs hR hl HR => lv_icmp_ne C.1 C.2.1 hd ht (fun q => kt ((not_congr (zI_eq hy hz)).mp q) p l e R s m args below meth c H locs cells slots mc ms ls Q C hP hS hb hc hs hR hl HR) (fun q => kf ((zI_eq hy hz).mp q) p l e R s m args below meth c H locs cells slots mc ms ls Q C hP hS hb hc hs hR hl HR)
theorem yw_icmp_eq {G : DG} {b : Nat} {Y : MT} {pc : Nat} {lv st : List Value} {h : HP} {rc rs : Nat} {Φ : Option Value → HP → Prop} {y z : Int} {off : Int} (tgt : Nat) (hd : decode Y.2.1 pc = .ok (.if_icmp .eq off, 3)) (ht : (pc : Int) + off = (tgt : Int)) (hy : ok32 y) (hz : ok32 z) (kt : y = z → wq G b Y tgt lv st h rc rs Φ) (kf : ¬ (y = z) → wq G b Y (pc + 3) lv st h rc rs Φ) : wq G b Y pc lv (.int (zI z) :: .int (zI y) :: st) h rc rs Φ :=
  fun p l e R s m args below meth c H locs cells slots mc ms ls Q C hP hS hb hc hs hR hl HR => lv_icmp_eq C.1 C.2.1 hd ht (fun q => kt ((zI_eq hy hz).mp q) p l e R s m args below meth c H locs cells slots mc ms ls Q C hP hS hb hc hs hR hl HR) (fun q => kf (fun q2 => q ((zI_eq hy hz).mpr q2)) p l e R s m args below meth c H locs cells slots mc ms ls Q C hP hS hb hc hs hR hl HR)
theorem yw_icmp_ge {G : DG} {b : Nat} {Y : MT} {pc : Nat} {lv st : List Value} {h : HP} {rc rs : Nat} {Φ : Option Value → HP → Prop} {y z : Int} {off : Int} (tgt : Nat) (hd : decode Y.2.1 pc = .ok (.if_icmp .ge off, 3)) (ht : (pc : Int) + off = (tgt : Int)) (hy : ok32 y) (hz : ok32 z) (kt : z ≤ y → wq G b Y tgt lv st h rc rs Φ) (kf : ¬ (z ≤ y) → wq G b Y (pc + 3) lv st h rc rs Φ) : wq G b Y pc lv (.int (zI z) :: .int (zI y) :: st) h rc rs Φ :=
  fun p l e R s m args below meth c H locs cells slots mc ms ls Q C hP hS hb hc hs hR hl HR => lv_icmp_ge C.1 C.2.1 hd ht (fun q => kt ((zI_le hz hy).mp q) p l e R s m args below meth c H locs cells slots mc ms ls Q C hP hS hb hc hs hR hl HR) (fun q => kf (fun q2 => q ((zI_le hz hy).mpr q2)) p l e R s m args below meth c H locs cells slots mc ms ls Q C hP hS hb hc hs hR hl HR)
theorem yw_icmp_lt {G : DG} {b : Nat} {Y : MT} {pc : Nat} {lv st : List Value} {h : HP} {rc rs : Nat} {Φ : Option Value → HP → Prop} {y z : Int} {off : Int} (tgt : Nat) (hd : decode Y.2.1 pc = .ok (.if_icmp .lt off, 3)) (ht : (pc : Int) + off = (tgt : Int)) (hy : ok32 y) (hz : ok32 z) (kt : y < z → wq G b Y tgt lv st h rc rs Φ) (kf : ¬ (y < z) → wq G b Y (pc + 3) lv st h rc rs Φ) : wq G b Y pc lv (.int (zI z) :: .int (zI y) :: st) h rc rs Φ :=
  fun p l e R s m args below meth c H locs cells slots mc ms ls Q C hP hS hb hc hs hR hl HR => lv_icmp_lt C.1 C.2.1 hd ht (fun q => kt ((zI_lt hy hz).mp q) p l e R s m args below meth c H locs cells slots mc ms ls Q C hP hS hb hc hs hR hl HR) (fun q => kf (fun q2 => q ((zI_lt hy hz).mpr q2)) p l e R s m args below meth c H locs cells slots mc ms ls Q C hP hS hb hc hs hR hl HR)
theorem yw_if_eq {G : DG} {b : Nat} {Y : MT} {pc : Nat} {lv st : List Value} {h : HP} {rc rs : Nat} {Φ : Option Value → HP → Prop} {z : Int} {off : Int} (tgt : Nat) (hd : decode Y.2.1 pc = .ok (.ifCond .eq off, 3)) (ht : (pc : Int) + off = (tgt : Int)) (ho : ok32 z) (kt : z = 0 → wq G b Y tgt lv st h rc rs Φ) (kf : ¬ (z = 0) → wq G b Y (pc + 3) lv st h rc rs Φ) : wq G b Y pc lv (.int (zI z) :: st) h rc rs Φ :=
  fun p l e R s m args below meth c H locs cells slots mc ms ls Q C hP hS hb hc hs hR hl HR => lv_if_eq C.1 C.2.1 hd ht (fun q => kt ((zI_eq ho ok32_0).mp q) p l e R s m args below meth c H locs cells slots mc ms ls Q C hP hS hb hc hs hR hl HR) (fun q => kf (fun q2 => q ((zI_eq ho ok32_0).mpr q2)) p l e R s m args below meth c H locs cells slots mc ms ls Q C hP hS hb hc hs hR hl HR)
theorem yw_if_ne {G : DG} {b : Nat} {Y : MT} {pc : Nat} {lv st : List Value} {h : HP} {rc rs : Nat} {Φ : Option Value → HP → Prop} {z : Int} {off : Int} (tgt : Nat) (hd : decode Y.2.1 pc = .ok (.ifCond .ne off, 3)) (ht : (pc : Int) + off = (tgt : Int)) (ho : ok32 z) (kt : ¬ z = 0 → wq G b Y tgt lv st h rc rs Φ) (kf : z = 0 → wq G b Y (pc + 3) lv st h rc rs Φ) : wq G b Y pc lv (.int (zI z) :: st) h rc rs Φ :=
  fun p l e R s m args below meth c H locs cells slots mc ms ls Q C hP hS hb hc hs hR hl HR => lv_if_ne C.1 C.2.1 hd ht (fun q => kt ((not_congr (zI_eq ho ok32_0)).mp q) p l e R s m args below meth c H locs cells slots mc ms ls Q C hP hS hb hc hs hR hl HR) (fun q => kf ((zI_eq ho ok32_0).mp q) p l e R s m args below meth c H locs cells slots mc ms ls Q C hP hS hb hc hs hR hl HR)
theorem yw_if_lt {G : DG} {b : Nat} {Y : MT} {pc : Nat} {lv st : List Value} {h : HP} {rc rs : Nat} {Φ : Option Value → HP → Prop} {z : Int} {off : Int} (tgt : Nat) (hd : decode Y.2.1 pc = .ok (.ifCond .lt off, 3)) (ht : (pc : Int) + off = (tgt : Int)) (ho : ok32 z) (kt : z < 0 → wq G b Y tgt lv st h rc rs Φ) (kf : ¬ (z < 0) → wq G b Y (pc + 3) lv st h rc rs Φ) : wq G b Y pc lv (.int (zI z) :: st) h rc rs Φ :=
  fun p l e R s m args below meth c H locs cells slots mc ms ls Q C hP hS hb hc hs hR hl HR => lv_if_lt C.1 C.2.1 hd ht (fun q => kt ((zI_lt ho ok32_0).mp q) p l e R s m args below meth c H locs cells slots mc ms ls Q C hP hS hb hc hs hR hl HR) (fun q => kf (fun q2 => q ((zI_lt ho ok32_0).mpr q2)) p l e R s m args below meth c H locs cells slots mc ms ls Q C hP hS hb hc hs hR hl HR)
theorem yw_goto {G : DG} {b : Nat} {Y : MT} {pc : Nat} {lv st : List Value} {h : HP} {rc rs : Nat} {Φ : Option Value → HP → Prop} {off : Int} (tgt : Nat) (hd : decode Y.2.1 pc = .ok (.goto off, 3)) (ht : (pc : Int) + off = (tgt : Int)) (k : wq G b Y tgt lv st h rc rs Φ) : wq G b Y pc lv st h rc rs Φ :=
  fun p l e R s m args below meth c H locs cells slots mc ms ls Q C hP hS hb hc hs hR hl HR => lv_goto C.1 C.2.1 hd ht (k p l e R s m args below meth c H locs cells slots mc ms ls Q C hP hS hb hc hs hR hl HR)
theorem yw_iinc {G : DG} {b : Nat} {Y : MT} {pc : Nat} {lv st : List Value} {h : HP} {rc rs : Nat} {Φ : Option Value → HP → Prop} {i : Nat} {n z : Int} {lv' : List Value} (hd : decode Y.2.1 pc = .ok (.iinc i n, 3)) (hv : lv[i]? = some (.int (zI z))) (hp : prevOk lv i = true) (hset : lv.set i (.int (zI (z + n))) = lv') (k : wq G b Y (pc + 3) lv' st h rc rs Φ) : wq G b Y pc lv st h rc rs Φ := by
  subst hset
  intro p l e R s m args below meth c H locs cells slots mc ms ls Q C hP hS hb hc hs hR hl HR
  have hm : (i, Value.int (zI z)) ∈ pairs 0 lv := by have := mem_pairs (n := 0) hv rfl; rwa [Nat.zero_add] at this
  obtain ⟨k2, hk2⟩ := List.getElem?_of_mem hm
  exact lv_iinc (k := k2) C.1 C.2.1 hd hl.has hk2 (v := zI (z + n)) (zI_add z n) (List.getElem?_eq_some_iff.mp hv).1 rfl (fun ls2 h2 => k p l e R s m args below meth c H locs cells slots mc ms ls2 Q C hP hS hb hc hs hR (LV.st1 hp h2) HR)
theorem yw_istore_n {G : DG} {b : Nat} {Y : MT} {pc : Nat} {lv st : List Value} {h : HP} {rc rs : Nat} {Φ : Option Value → HP → Prop} {k0 : Fin 4} {i : Nat} {x : Int32} {lv' : List Value} (hd : decode Y.2.1 pc = .ok (.istore_n k0, 1)) (hi : (k0 : Nat) = i) (hn : i < lv.length) (hp : prevOk lv i = true) (hset : lv.set i (.int x) = lv') (k : wq G b Y (pc + 1) lv' st h rc rs Φ) : wq G b Y pc lv (.int x :: st) h rc rs Φ := by
  subst hset
  intro p l e R s m args below meth c H locs cells slots mc ms ls Q C hP hS hb hc hs hR hl HR
  exact lv_istore_n C.1 C.2.1 hd hi hl.has hn rfl (fun ls2 h2 => k p l e R s m args below meth c H locs cells slots mc ms ls2 Q C hP hS hb hc hs hR (LV.st1 hp h2) HR)
theorem yw_iret {G : DG} {b : Nat} {Y : MT} {pc : Nat} {lv st : List Value} {h : HP} {rc rs : Nat} {Φ : Option Value → HP → Prop} {x : Int32} {ty : FieldType} (hr : Y.2.2.2.1 = some ty) (hn : narrow ty (.int x) = .int x) (hd : decode Y.2.1 pc = .ok (.ireturn, 1)) (k : Φ (some (.int x)) h) : wq G b Y pc lv [.int x] h rc rs Φ :=
  fun p l e R s m args below meth c H locs cells slots mc ms ls Q C hP hS hb hc hs hR hl HR => HR (some (.int x)) h H locs cells slots pc ls k ⟨ty, hr, hn, hd⟩ hP hS (by omega) (by omega)
theorem yx_iret {G : DG} {b : Nat} {Y : MT} {pc : Nat} {lv : List Value} {h : HP} {rc rs : Nat} {Φ : Option Value → HP → Prop} {x : Int32} {ty : FieldType} (hr : Y.2.2.2.1 = some ty) (hn : narrow ty (.int x) = .int x) (hd : decode Y.2.1 pc = .ok (.ireturn, 1)) (k : Φ (some (.int x)) h) : wq G b Y pc lv [.int x] h rc rs Φ := yw_iret (st := []) hr hn hd k
theorem yw_vret {G : DG} {b : Nat} {Y : MT} {pc : Nat} {lv st : List Value} {h : HP} {rc rs : Nat} {Φ : Option Value → HP → Prop} (hr : Y.2.2.2.1 = none) (hd : decode Y.2.1 pc = .ok (.return_, 1)) (k : Φ none h) : wq G b Y pc lv [] h rc rs Φ :=
  fun p l e R s m args below meth c H locs cells slots mc ms ls Q C hP hS hb hc hs hR hl HR => HR none h H locs cells slots pc ls k ⟨hr, hd⟩ hP hS (by omega) (by omega)
theorem yx_vret {G : DG} {b : Nat} {Y : MT} {pc : Nat} {lv : List Value} {h : HP} {rc rs : Nat} {Φ : Option Value → HP → Prop} (hr : Y.2.2.2.1 = none) (hd : decode Y.2.1 pc = .ok (.return_, 1)) (k : Φ none h) : wq G b Y pc lv [] h rc rs Φ := yw_vret (st := []) hr hd k
theorem yw_ishrR {G : DG} {b : Nat} {Y : MT} {pc : Nat} {lv st : List Value} {h : HP} {rc rs : Nat} {Φ : Option Value → HP → Prop} {x y : Int32} (hd : decode Y.2.1 pc = .ok (.ishr, 1)) (k : wq G b Y (pc + 1) lv (.int (x >>> (y &&& 31)) :: st) h rc rs Φ) : wq G b Y pc lv (.int y :: .int x :: st) h rc rs Φ :=
  fun p l e R s m args below meth c H locs cells slots mc ms ls Q C hP hS hb hc hs hR hl HR => lv_ishr C.1 C.2.1 hd  (k p l e R s m args below meth c H locs cells slots mc ms ls Q C hP hS hb hc hs hR hl HR)
theorem yw_iandR {G : DG} {b : Nat} {Y : MT} {pc : Nat} {lv st : List Value} {h : HP} {rc rs : Nat} {Φ : Option Value → HP → Prop} {x y : Int32} (hd : decode Y.2.1 pc = .ok (.iand, 1)) (k : wq G b Y (pc + 1) lv (.int (x &&& y) :: st) h rc rs Φ) : wq G b Y pc lv (.int y :: .int x :: st) h rc rs Φ :=
  fun p l e R s m args below meth c H locs cells slots mc ms ls Q C hP hS hb hc hs hR hl HR => lv_iand C.1 C.2.1 hd  (k p l e R s m args below meth c H locs cells slots mc ms ls Q C hP hS hb hc hs hR hl HR)
theorem yw_sipush {G : DG} {b : Nat} {Y : MT} {pc : Nat} {lv st : List Value} {h : HP} {rc rs : Nat} {Φ : Option Value → HP → Prop} {n : Int} (hd : decode Y.2.1 pc = .ok (.sipush n, 3)) (hv : (Int16.ofInt n).toInt32 = zI n) (k : wq G b Y (pc + 3) lv (.int (zI n) :: st) h rc rs Φ) : wq G b Y pc lv (st) h rc rs Φ :=
  fun p l e R s m args below meth c H locs cells slots mc ms ls Q C hP hS hb hc hs hR hl HR => lv_sipush C.1 C.2.1 hd hv (k p l e R s m args below meth c H locs cells slots mc ms ls Q C hP hS hb hc hs hR hl HR)
theorem yw_pop {G : DG} {b : Nat} {Y : MT} {pc : Nat} {lv st : List Value} {h : HP} {rc rs : Nat} {Φ : Option Value → HP → Prop} {va : Value} (hd : decode Y.2.1 pc = .ok (.pop, 1)) (hva : va.category = 1) (k : wq G b Y (pc + 1) lv (st) h rc rs Φ) : wq G b Y pc lv (va :: st) h rc rs Φ :=
  fun p l e R s m args below meth c H locs cells slots mc ms ls Q C hP hS hb hc hs hR hl HR => lv_pop C.1 C.2.1 hd hva (k p l e R s m args below meth c H locs cells slots mc ms ls Q C hP hS hb hc hs hR hl HR)
theorem yw_iald {G : DG} {b : Nat} {Y : MT} {pc : Nat} {lv st : List Value} {h : HP} {rc rs : Nat} {Φ : Option Value → HP → Prop} {a n : Nat} {A : Nat → Int} {z : Int} (k : Nat) (ha : h.2 a = some (aI n A)) (hk : z = (k : Int)) (hlt : k < n) (hn : n ≤ 2147483648) (hd : decode Y.2.1 pc = .ok (.iaload, 1)) (kk : wq G b Y (pc + 1) lv (.int (zI (A k)) :: st) h rc rs Φ) : wq G b Y pc lv (.int (zI z) :: .ref a :: st) h rc rs Φ := by
  subst hk
  obtain ⟨i1, i2⟩ := zI_in hlt hn
  intro p l e R s m args below meth c H locs cells slots mc ms ls Q C hP hS hb hc hs hR hl HR
  have h2 := va_iald (p := p) (l := l) (e := e) (R := R) (m := m) (args := args) (below := below) (meth := meth) (c := c) (locs := locs) (cells := cells) (slots := slots) (Q := Q) (ls := ls) (rest := st) C.1 C.2.1 (cx_K C) (hP.one ha) 0 0 (cA := G.2.1 0) (n := n) (f := fun k => zI (A k)) rfl rfl i1 hd
  rw [i2] at h2
  exact h2 (kk p l e R s m args below meth c H locs cells slots mc ms ls Q C hP hS hb hc hs hR hl HR)
theorem yw_callS {G : DG} {b : Nat} {Y : MT} {pc : Nat} {lv st : List Value} {h : HP} {rc rs : Nat} {Φ : Option Value → HP → Prop} {Z : MT} {idx n mc2 ms2 : Nat} {As rest : List Value} {Ψ : Option Value → HP → Prop} (hM : sq G b Z As h mc2 ms2 Ψ) (hB : CB Z n) (w1 : Cond.methodLink Y.1.cls idx Z.1 ∈ gw) (w2 : Cond.static Z.1 ∈ gw) (hd : decode Y.2.1 pc = .ok (.invokestatic idx, 3)) (hst : st = As.reverse ++ rest) (hn : As.length = n) (hlen : lv.length = Y.2.2.1) (hw : (rest.map fun v => v.category).sum ≤ 8) (hfr : RM Y Z) (h1 : mc2 ≤ rc) (h2 : ms2 ≤ rs) (kk : ∀ v h', Ψ v h' → wq G b Y (pc + 3) lv (v.toList ++ rest) h' (rc - mc2) (rs - ms2) Φ) : wq G b Y pc lv st h rc rs Φ := by
  subst hst
  intro p l e R s m args below meth c H locs cells slots mc ms ls Q C hP hS hb hc hs hR hl HR
  have hts := cx_w C
  obtain ⟨b1, b2, b3⟩ := hB
  refine call_go (va_runS ⟨C.1, C.2.1, C.2.2.1, C.2.2.2.1, hts⟩ (hM l) ⟨callB_of n hts (gw_sub b1) rfl rfl rfl (hts _ b2) (hts _ w1) b3 ⟨Nat.le_trans hfr.1 hR.2.2.1, Nat.le_trans hfr.2 hR.2.2.2⟩, hts _ w2⟩ ⟨PP.blind, fun U hU hW => ⟨rfl, PP.at hP C.2.2.2.2.2.2.2.1 hS hb hU hW⟩⟩ rfl hn (by show ls.size = _; rw [hl.1, hlen]) rfl (lv_room hw) hd ⟨by omega, by omega⟩) hS (fun v h' H1 locs1 hv hP1 hS1 => ?_)
  exact kk v h' hv p l e R s m args below meth c H1 locs1 (cells + mc2) (slots + ms2) mc ms ls Q C hP1 hS1 hb (by omega) (by omega) hR hl HR
theorem yw_callV {G : DG} {b : Nat} {Y : MT} {pc : Nat} {lv st : List Value} {h : HP} {rc rs : Nat} {Φ : Option Value → HP → Prop} {Z : MT} {idx n ci mc2 ms2 a : Nat} {fs : List Value} {As rest : List Value} {Ψ : Option Value → HP → Prop} (hM : sq G b Z (.ref a :: As) h mc2 ms2 Ψ) (ho : h.2 a = some (.inr (ci, fs))) (hci : (vwCl[ci]?).map (fun q => q.1) = some Z.1.cls) (hB : CB Z n) (w1 : Cond.methodLink Y.1.cls idx Z.1 ∈ gw) (w2 : Cond.instanceMethod Z.1 ∈ gw) (w3 : Cond.selects Z.1.cls Z.1 Z.1 ∈ gw) (hd : decode Y.2.1 pc = .ok (.invokevirtual idx, 3)) (hst : st = As.reverse ++ .ref a :: rest) (hn : As.length = n) (hlen : lv.length = Y.2.2.1) (hw : (rest.map fun v => v.category).sum ≤ 8) (hfr : RM Y Z) (h1 : mc2 ≤ rc) (h2 : ms2 ≤ rs) (kk : ∀ v h', Ψ v h' → wq G b Y (pc + 3) lv (v.toList ++ rest) h' (rc - mc2) (rs - ms2) Φ) : wq G b Y pc lv st h rc rs Φ := by
  subst hst
  intro p l e R s m args below meth c H locs cells slots mc ms ls Q C hP hS hb hc hs hR hl HR
  have hts := cx_w C
  obtain ⟨b1, b2, b3⟩ := hB
  obtain ⟨q, hq, hq2⟩ := Option.map_eq_some_iff.mp hci
  have hrc := hP.recv (cx_K C) ho hq
  rw [hq2] at hrc
  refine call_go (va_runV (C := Z.1.cls) ⟨C.1, C.2.1, C.2.2.1, C.2.2.2.1, hts⟩ (hM l) ⟨callB_of n hts (gw_sub b1) rfl rfl rfl (hts _ b2) (hts _ w1) b3 ⟨Nat.le_trans hfr.1 hR.2.2.1, Nat.le_trans hfr.2 hR.2.2.2⟩, hts _ w2, hts _ w3⟩ ⟨PP.blind, hrc, fun U hU hW => ⟨rfl, PP.at hP C.2.2.2.2.2.2.2.1 hS hb hU hW⟩⟩ rfl hn (by show ls.size = _; rw [hl.1, hlen]) rfl (lv_room hw) hd ⟨by omega, by omega⟩) hS (fun v h' H1 locs1 hv hP1 hS1 => ?_)
  exact kk v h' hv p l e R s m args below meth c H1 locs1 (cells + mc2) (slots + ms2) mc ms ls Q C hP1 hS1 hb (by omega) (by omega) hR hl HR
theorem ysp_wp {G : DG} {b : Nat} {Y : MT} {av lv : List Value} {h : HP} {mc ms : Nat} {Φ : Option Value → HP → Prop} (hok : plainName Y.1.cls = true) (hlv : lvOf av Y.2.2.1 = lv) (hle : (lvA av).length ≤ Y.2.2.1) (k : wq G b Y 0 lv [] h mc ms Φ) : sq G b Y av h mc ms Φ := by
  intro l
  refine Met.ofW (cc := Y.2.1) (maxL := Y.2.2.1) (ret := Y.2.2.2.1) hok rfl ?_
  intro p e s m args below meth c s₁ B hml hv
  obtain ⟨rfl, hP, hK, hb⟩ := hv
  have hts := atoms_spec (ws := wsY Y) B.pre
  have hnm := (name_of_methodNamed B.named B.method).1
  have hl := lv_entry av (n := Y.2.2.1) (by rw [← lvA_len]; exact hle)
  rw [lg_entry_eq]
  have hlk := B.notSynchronized
  refine k p l e (headSpec (wsY Y) (rmY Y mc ms)).room s m _ below meth c s.heap [] 0 0 mc ms _ _ ⟨B.exec, B.bytes, hml, findClass_of_methodNamed B.named, fun w hw => hts w (List.mem_cons_of_mem _ hw), B.returns, hlk, hK, hnm⟩ hP va_S.rf hb (by omega) (by omega) ⟨Nat.le_refl _, Nat.le_refl _, Nat.le_refl _, Nat.le_refl _⟩ (LV.of hl ?_ ?_) ?_
  · rw [← hlv]; simp [lvOf]; omega
  · intro i v hi hv
    rw [← hlv] at hi
    unfold lvOf at hi
    by_cases hlt : i < (lvA av).length
    · rw [List.getElem?_append_left hlt] at hi
      have := lvA_at av 0 i v hi hv
      rwa [Nat.zero_add] at this
    · rw [List.getElem?_append_right (by omega)] at hi
      have := List.mem_of_getElem? hi
      rw [List.mem_replicate] at this
      rw [this.2] at hv
      cases hv
  · intro v h' H' locs' cells' slots' pc' ls' hΦ hra hP' hS' hc' hs'
    refine W.widen hc' hs' ?_
    have hr := B.returns
    have hq : ∀ (v : Option Value), Φ v h' → ∀ t : State, t.heap = H' → s.WarmedH t.vm → QQ G b Φ av.toArray s (.returned v) t := fun v hv t ht _ => ⟨⟨v, h', rfl, hv, by rw [ht]; exact hP'⟩, hS'.F ht⟩
    cases v with
    | none =>
      obtain ⟨r1, r2⟩ := hra
      exact W.vret B.exec B.bytes (by rw [hr]; exact r1) (hq none hΦ) hS'.2.2 r2
    | some x =>
      cases x with
      | int x =>
        obtain ⟨ty, r1, r2, r3⟩ := hra
        exact W.zret B.exec B.bytes (by rw [hr]; exact r1) r2 (hq _ hΦ) hS'.2.2 r3
      | long x =>
        obtain ⟨r1, r2⟩ := hra
        exact W.lret B.exec B.bytes (by rw [hr]; exact r1) (hq _ hΦ) hS'.2.2 r2
      | ref x =>
        obtain ⟨rt, r1, r2, r3⟩ := hra
        exact W.aret B.exec B.bytes (by rw [hr]; exact r1) r2 (Or.inr ⟨x, rfl⟩) (hq _ hΦ) hS'.2.2 r3
      | null =>
        obtain ⟨rt, r1, r2, r3⟩ := hra
        exact W.aret B.exec B.bytes (by rw [hr]; exact r1) r2 (Or.inl rfl) (hq _ hΦ) hS'.2.2 r3
      | _ => exact hra.elim
theorem yw_callX {G : DG} {b : Nat} {Y : MT} {pc : Nat} {lv st : List Value} {h : HP} {rc rs : Nat} {Φ : Option Value → HP → Prop} {Z : MT} {idx n mc2 ms2 i : Nat} {As rest : List Value} {Ψ : Option Value → HP → Prop} (hM : sq G b Z (.ref (G.2.2.1 i) :: As) h mc2 ms2 Ψ) (hi : i < 4) (hz : Z.1.cls = "java/lang/String") (hB : CB Z n) (w1 : Cond.methodLink Y.1.cls idx Z.1 ∈ gw) (w2 : Cond.instanceMethod Z.1 ∈ gw) (w3 : Cond.selects Z.1.cls Z.1 Z.1 ∈ gw) (hd : decode Y.2.1 pc = .ok (.invokevirtual idx, 3)) (hst : st = As.reverse ++ .ref (G.2.2.1 i) :: rest) (hn : As.length = n) (hlen : lv.length = Y.2.2.1) (hw : (rest.map fun v => v.category).sum ≤ 8) (hfr : RM Y Z) (h1 : mc2 ≤ rc) (h2 : ms2 ≤ rs) (kk : ∀ v h', Ψ v h' → wq G b Y (pc + 3) lv (v.toList ++ rest) h' (rc - mc2) (rs - ms2) Φ) : wq G b Y pc lv st h rc rs Φ := by
  subst hst
  intro p l e R s m args below meth c H locs cells slots mc ms ls Q C hP hS hb hc hs hR hl HR
  have hts := cx_w C
  obtain ⟨b1, b2, b3⟩ := hB
  have hrc : ∃ cell : Cell, H[G.2.2.1 i]? = some cell ∧ cell.vm.isStatics = false ∧ s.vm.findClass Z.1.cls = some cell.cls := by
    rw [hz]
    exact vk_recv C.2.2.2.2.2.2.2.1.2.2.2.1 hi hS
  refine call_go (va_runV (C := Z.1.cls) ⟨C.1, C.2.1, C.2.2.1, C.2.2.2.1, hts⟩ (hM l) ⟨callB_of n hts (gw_sub b1) rfl rfl rfl (hts _ b2) (hts _ w1) b3 ⟨Nat.le_trans hfr.1 hR.2.2.1, Nat.le_trans hfr.2 hR.2.2.2⟩, hts _ w2, hts _ w3⟩ ⟨PP.blind, hrc, fun U hU hW => ⟨rfl, PP.at hP C.2.2.2.2.2.2.2.1 hS hb hU hW⟩⟩ rfl hn (by show ls.size = _; rw [hl.1, hlen]) rfl (lv_room hw) hd ⟨by omega, by omega⟩) hS (fun v h' H1 locs1 hv hP1 hS1 => ?_)
  exact kk v h' hv p l e R s m args below meth c H1 locs1 (cells + mc2) (slots + ms2) mc ms ls Q C hP1 hS1 hb (by omega) (by omega) hR hl HR
theorem fsV : Cond.fieldLink RJ0 9 "java/lang/String" "value" "[B" ∈ gw := gw_in (i := 1907) (by decide +kernel) (by decide +kernel)
theorem fsC : Cond.fieldLink RJ0 15 "java/lang/String" "coder" "B" ∈ gw := gw_in (i := 1908) (by decide +kernel) (by decide +kernel)
theorem fsS : Cond.fieldLink RJ0 38 "java/lang/String" "COMPACT_STRINGS" "Z" ∈ gw := gw_in (i := 616) (by decide +kernel) (by decide +kernel)
theorem fsF : Cond.fieldLink RJ0 1053 "jdk/internal/util/Preconditions" "SIOOBE_FORMATTER" "Ljava/util/function/BiFunction;" ∈ gw := gw_in (i := 632) (by decide +kernel) (by decide +kernel)
theorem yw_sval {G : DG} {b : Nat} {Y : MT} {pc : Nat} {lv st : List Value} {h : HP} {rc rs : Nat} {Φ : Option Value → HP → Prop} {i : Nat} (hi : i < 4) (hcls : Y.1.cls = RJ0) (hd : decode Y.2.1 pc = .ok (.getfield 9, 3)) (kk : wq G b Y (pc + 3) lv (.ref (G.2.2.2.1 i) :: st) h rc rs Φ) : wq G b Y pc lv (.ref (G.2.2.1 i) :: st) h rc rs Φ := by
  intro p l e R s m args below meth c H locs cells slots mc ms ls Q C hP hS hb hc hs hR hl HR
  exact vk_getf C.1 C.2.1 (o := "java/lang/String") (n := "value") (d := "[B") (own := RJ0) (ref := "java/lang/String") (index := 9) (q := G.2.2.1 i) (v := .ref (G.2.2.2.1 i)) (C.2.2.2.2.2.2.2.1.2.2.2.1.1 i hi).2.2.1 hS (by rw [← hcls]; exact C.2.2.2.1) (cx_w C _ fsV) (fun x hx => hx) hd (kk p l e R s m args below meth c H locs cells slots mc ms ls Q C hP hS hb hc hs hR hl HR)
theorem yw_scod {G : DG} {b : Nat} {Y : MT} {pc : Nat} {lv st : List Value} {h : HP} {rc rs : Nat} {Φ : Option Value → HP → Prop} {i : Nat} (hi : i < 4) (hcls : Y.1.cls = RJ0) (hd : decode Y.2.1 pc = .ok (.getfield 15, 3)) (kk : wq G b Y (pc + 3) lv (.int (zI 0) :: st) h rc rs Φ) : wq G b Y pc lv (.ref (G.2.2.1 i) :: st) h rc rs Φ := by
  intro p l e R s m args below meth c H locs cells slots mc ms ls Q C hP hS hb hc hs hR hl HR
  exact vk_getf C.1 C.2.1 (o := "java/lang/String") (n := "coder") (d := "B") (own := RJ0) (ref := "java/lang/String") (index := 15) (q := G.2.2.1 i) (v := .int (zI 0)) (C.2.2.2.2.2.2.2.1.2.2.2.1.1 i hi).2.1 hS (by rw [← hcls]; exact C.2.2.2.1) (cx_w C _ fsC) (fun x hx => hx) hd (kk p l e R s m args below meth c H locs cells slots mc ms ls Q C hP hS hb hc hs hR hl HR)
theorem yw_scmp {G : DG} {b : Nat} {Y : MT} {pc : Nat} {lv st : List Value} {h : HP} {rc rs : Nat} {Φ : Option Value → HP → Prop} (hcls : Y.1.cls = RJ0) (hd : decode Y.2.1 pc = .ok (.getstatic 38, 3)) (kk : wq G b Y (pc + 3) lv (.int (zI 1) :: st) h rc rs Φ) : wq G b Y pc lv st h rc rs Φ := by
  intro p l e R s m args below meth c H locs cells slots mc ms ls Q C hP hS hb hc hs hR hl HR
  exact va_gets C.1 C.2.1 (C := "java/lang/String") (n := "COMPACT_STRINGS") (d := "Z") (own := RJ0) (ref := "java/lang/String") (index := 38) (v := .int (zI 1)) C.2.2.2.2.2.2.2.1.2.2.2.2.1 hS (by rw [← hcls]; exact C.2.2.2.1) (cx_w C _ fsS) (fun x hx => hx) hd (kk p l e R s m args below meth c H locs cells slots mc ms ls Q C hP hS hb hc hs hR hl HR)
theorem yw_sfmt {G : DG} {b : Nat} {Y : MT} {pc : Nat} {lv st : List Value} {h : HP} {rc rs : Nat} {Φ : Option Value → HP → Prop} (hcls : Y.1.cls = RJ0) (hd : decode Y.2.1 pc = .ok (.getstatic 1053, 3)) (kk : wq G b Y (pc + 3) lv (fmV G.2.2.2.2 :: st) h rc rs Φ) : wq G b Y pc lv st h rc rs Φ := by
  intro p l e R s m args below meth c H locs cells slots mc ms ls Q C hP hS hb hc hs hR hl HR
  exact va_gets C.1 C.2.1 (C := "jdk/internal/util/Preconditions") (n := "SIOOBE_FORMATTER") (d := "Ljava/util/function/BiFunction;") (own := RJ0) (ref := "jdk/internal/util/Preconditions") (index := 1053) (v := fmV G.2.2.2.2) C.2.2.2.2.2.2.2.1.2.2.2.2.2 hS (by rw [← hcls]; exact C.2.2.2.1) (cx_w C _ fsF) (fun x hx => hx) hd (kk p l e R s m args below meth c H locs cells slots mc ms ls Q C hP hS hb hc hs hR hl HR)
def sB (i k : Nat) : Int := ((scB.getD i []).getD k 0).toInt
theorem sL_is : ∀ i, i < 4 → Int32.ofNat (scL.getD i 0) = zI ((scL.getD i 0 : Nat) : Int) := by decide
theorem sL_le : ∀ i, i < 4 → scL.getD i 0 ≤ 6 := by decide
theorem yw_slen {G : DG} {b : Nat} {Y : MT} {pc : Nat} {lv st : List Value} {h : HP} {rc rs : Nat} {Φ : Option Value → HP → Prop} {i : Nat} (hi : i < 4) (hd : decode Y.2.1 pc = .ok (.arraylength, 1)) (kk : wq G b Y (pc + 1) lv (.int (zI ((scL.getD i 0 : Nat) : Int)) :: st) h rc rs Φ) : wq G b Y pc lv (.ref (G.2.2.2.1 i) :: st) h rc rs Φ := by
  intro p l e R s m args below meth c H locs cells slots mc ms ls Q C hP hS hb hc hs hR hl HR
  exact va_tlen C.1 C.2.1 (C.2.2.2.2.2.2.2.1.2.2.2.1.1 i hi).2.2.2 hS (sL_is i hi) hd (kk p l e R s m args below meth c H locs cells slots mc ms ls Q C hP hS hb hc hs hR hl HR)
theorem yw_sbyt {G : DG} {b : Nat} {Y : MT} {pc : Nat} {lv st : List Value} {h : HP} {rc rs : Nat} {Φ : Option Value → HP → Prop} {i : Nat} (k : Nat) (hi : i < 4) (hk : k < scL.getD i 0) (hd : decode Y.2.1 pc = .ok (.baload, 1)) (kk : wq G b Y (pc + 1) lv (.int (zI (sB i k)) :: st) h rc rs Φ) : wq G b Y pc lv (.int (zI (k : Int)) :: .ref (G.2.2.2.1 i) :: st) h rc rs Φ := by
  have h6 := sL_le i hi
  obtain ⟨i1, i2⟩ := zI_in hk (by omega)
  intro p l e R s m args below meth c H locs cells slots mc ms ls Q C hP hS hb hc hs hR hl HR
  refine va_tb C.1 C.2.1 (C.2.2.2.2.2.2.2.1.2.2.2.1.1 i hi).2.2.2 hS i1 (v := .int (zI (sB i k))) ?_ hd (kk p l e R s m args below meth c H locs cells slots mc ms ls Q C hP hS hb hc hs hR hl HR)
  show Value.int ((scB.getD i []).getD (zI (k : Int)).toNatClampNeg 0) = _
  rw [i2]
  unfold sB
  rw [zI_of]
theorem yw_i2c {G : DG} {b : Nat} {Y : MT} {pc : Nat} {lv st : List Value} {h : HP} {rc rs : Nat} {Φ : Option Value → HP → Prop} {x v : Int32} (hv : (x.toUInt32 % 65536).toInt32 = v) (hd : decode Y.2.1 pc = .ok (.i2c, 1)) (kk : wq G b Y (pc + 1) lv (.int v :: st) h rc rs Φ) : wq G b Y pc lv (.int x :: st) h rc rs Φ := by
  intro p l e R s m args below meth c H locs cells slots mc ms ls Q C hP hS hb hc hs hR hl HR
  exact lv_i2c C.1 C.2.1 hd hv (kk p l e R s m args below meth c H locs cells slots mc ms ls Q C hP hS hb hc hs hR hl HR)
theorem yc_S {G : DG} {b : Nat} {Y : MT} {pc : Nat} {lv st : List Value} {h : HP} {rc rs : Nat} {Φ : Option Value → HP → Prop} {Z : MT} {idx n : Nat} {As rest : List Value} {v : Value} {h1 : HP} (hM : sq G b Z As h 0 0 (pd (some v) h1)) (hB : CB Z n) (w1 : Cond.methodLink Y.1.cls idx Z.1 ∈ gw) (w2 : Cond.static Z.1 ∈ gw) (hd : decode Y.2.1 pc = .ok (.invokestatic idx, 3)) (hst : st = As.reverse ++ rest) (hn : As.length = n) (hlen : lv.length = Y.2.2.1) (hw : (rest.map fun v => v.category).sum ≤ 8) (hfr : RM Y Z) (kk : wq G b Y (pc + 3) lv (v :: rest) h1 rc rs Φ) : wq G b Y pc lv st h rc rs Φ :=
  yw_callS hM hB w1 w2 hd hst hn hlen hw hfr (Nat.zero_le _) (Nat.zero_le _) (fun v' h' q => by obtain ⟨rfl, rfl⟩ := q; exact kk)
theorem yc_Sv {G : DG} {b : Nat} {Y : MT} {pc : Nat} {lv st : List Value} {h : HP} {rc rs : Nat} {Φ : Option Value → HP → Prop} {Z : MT} {idx n : Nat} {As rest : List Value} {h1 : HP} (hM : sq G b Z As h 0 0 (pd none h1)) (hB : CB Z n) (w1 : Cond.methodLink Y.1.cls idx Z.1 ∈ gw) (w2 : Cond.static Z.1 ∈ gw) (hd : decode Y.2.1 pc = .ok (.invokestatic idx, 3)) (hst : st = As.reverse ++ rest) (hn : As.length = n) (hlen : lv.length = Y.2.2.1) (hw : (rest.map fun v => v.category).sum ≤ 8) (hfr : RM Y Z) (kk : wq G b Y (pc + 3) lv rest h1 rc rs Φ) : wq G b Y pc lv st h rc rs Φ :=
  yw_callS hM hB w1 w2 hd hst hn hlen hw hfr (Nat.zero_le _) (Nat.zero_le _) (fun v' h' q => by obtain ⟨rfl, rfl⟩ := q; exact kk)
theorem yc_X {G : DG} {b : Nat} {Y : MT} {pc : Nat} {lv st : List Value} {h : HP} {rc rs : Nat} {Φ : Option Value → HP → Prop} {Z : MT} {idx n i : Nat} {As rest : List Value} {v : Value} {h1 : HP} (hM : sq G b Z (.ref (G.2.2.1 i) :: As) h 0 0 (pd (some v) h1)) (hi : i < 4) (hz : Z.1.cls = "java/lang/String") (hB : CB Z n) (w1 : Cond.methodLink Y.1.cls idx Z.1 ∈ gw) (w2 : Cond.instanceMethod Z.1 ∈ gw) (w3 : Cond.selects Z.1.cls Z.1 Z.1 ∈ gw) (hd : decode Y.2.1 pc = .ok (.invokevirtual idx, 3)) (hst : st = As.reverse ++ .ref (G.2.2.1 i) :: rest) (hn : As.length = n) (hlen : lv.length = Y.2.2.1) (hw : (rest.map fun v => v.category).sum ≤ 8) (hfr : RM Y Z) (kk : wq G b Y (pc + 3) lv (v :: rest) h1 rc rs Φ) : wq G b Y pc lv st h rc rs Φ :=
  yw_callX hM hi hz hB w1 w2 w3 hd hst hn hlen hw hfr (Nat.zero_le _) (Nat.zero_le _) (fun v' h' q => by obtain ⟨rfl, rfl⟩ := q; exact kk)
theorem yc_V {G : DG} {b : Nat} {Y : MT} {pc : Nat} {lv st : List Value} {h : HP} {rc rs : Nat} {Φ : Option Value → HP → Prop} {Z : MT} {idx n ci a : Nat} {fs : List Value} {As rest : List Value} {v : Value} {h1 : HP} (hM : sq G b Z (.ref a :: As) h 0 0 (pd (some v) h1)) (ho : h.2 a = some (.inr (ci, fs))) (hci : (vwCl[ci]?).map (fun q => q.1) = some Z.1.cls) (hB : CB Z n) (w1 : Cond.methodLink Y.1.cls idx Z.1 ∈ gw) (w2 : Cond.instanceMethod Z.1 ∈ gw) (w3 : Cond.selects Z.1.cls Z.1 Z.1 ∈ gw) (hd : decode Y.2.1 pc = .ok (.invokevirtual idx, 3)) (hst : st = As.reverse ++ .ref a :: rest) (hn : As.length = n) (hlen : lv.length = Y.2.2.1) (hw : (rest.map fun v => v.category).sum ≤ 8) (hfr : RM Y Z) (kk : wq G b Y (pc + 3) lv (v :: rest) h1 rc rs Φ) : wq G b Y pc lv st h rc rs Φ :=
  yw_callV hM ho hci hB w1 w2 w3 hd hst hn hlen hw hfr (Nat.zero_le _) (Nat.zero_le _) (fun v' h' q => by obtain ⟨rfl, rfl⟩ := q; exact kk)
