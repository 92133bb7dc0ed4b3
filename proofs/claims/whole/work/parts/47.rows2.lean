/-! Math, copies of arrays, arrays of references -/
theorem hml_of {Y : MT} {c : Code} {lv : List Value} {ls : Array Slot} (h1 : c.maxLocals = Y.2.2.1) (hl : LV lv ls) (hlen : lv.length = Y.2.2.1) : c.maxLocals = ls.size := by rw [h1, hl.1, hlen]
theorem zI_max {y z : Int} (hy : ok32 y) (hz : ok32 z) : (if zI y < zI z then zI z else zI y) = zI (if y < z then z else y) := by
  by_cases q : y < z
  · rw [if_pos q, if_pos ((zI_lt hy hz).mpr q)]
  · rw [if_neg q, if_neg (fun w => q ((zI_lt hy hz).mp w))]
theorem zI_min {y z : Int} (hy : ok32 y) (hz : ok32 z) : (if zI z < zI y then zI z else zI y) = zI (if z < y then z else y) := by
  by_cases q : z < y
  · rw [if_pos q, if_pos ((zI_lt hz hy).mpr q)]
  · rw [if_neg q, if_neg (fun w => q ((zI_lt hz hy).mp w))]
theorem zI_abs {z : Int} (hz : ok32 z) : (if 0 ≤ zI z then zI z else 0 - zI z) = zI (szd z) := by
  unfold szd
  by_cases q : z < 0
  · rw [if_pos q, if_neg (fun w => by have := (zI_le ok32_0 hz).mp w; omega), ← zI_0, zI_sub, Int.zero_sub]
  · rw [if_neg q, if_pos (show 0 ≤ zI z from (zI_le ok32_0 hz).mpr (by omega))]
theorem w_mmax {Y : MT} {pc : Nat} {lv st : List Value} {h : HP} {rc rs : Nat} {Φ : Option Value → HP → Prop} {idx : Nat} {y z : Int} (w1 : Cond.methodLink Y.1.cls idx Lib.Math.max.name ∈ gw) (w2 : Cond.static Lib.Math.max.name ∈ gw) (w3 : Cond.initialized "java/lang/Math" ∈ gw) (w4 : Cond.code Lib.Math.max.name Lib.Math.max.code 2 (some .int) ∈ gw) (hy : ok32 y) (hz : ok32 z) (hlen : lv.length = Y.2.2.1) (hfr : 1 ≤ Y.2.2.2.2.1) (hlo : (st.map fun v => v.category).sum + 13 ≤ Y.2.2.2.2.2) (hd : decode Y.2.1 pc = .ok (.invokestatic idx, 3)) (k : wp Y (pc + 3) lv (.int (zI (if y < z then z else y)) :: st) h rc rs Φ) : wp Y pc lv (.int (zI z) :: .int (zI y) :: st) h rc rs Φ := by
  intro p l e R s m args below meth c H locs cells slots mc ms G b ls Q C hP hS hb hc hs hR hl HR
  refine va_mmax C.1 C.2.1 (hml_of C.2.2.1 hl hlen) C.2.2.2.1 (C.2.2.2.2.1 _ w1) (C.2.2.2.2.1 _ w2) (C.2.2.2.2.1 _ w3) (C.2.2.2.2.1 _ w4) (Nat.le_trans hfr hR.2.2.1) (Nat.le_trans hlo hR.2.2.2) (by have := hR.1; omega) (by have := hR.2.1; omega) hd ?_
  rw [zI_max hy hz]
  exact k p l e R s m args below meth c H locs cells slots mc ms G b ls Q C hP hS hb hc hs hR hl HR
theorem w_mmin {Y : MT} {pc : Nat} {lv st : List Value} {h : HP} {rc rs : Nat} {Φ : Option Value → HP → Prop} {idx : Nat} {y z : Int} (w1 : Cond.methodLink Y.1.cls idx Lib.Math.min.name ∈ gw) (w2 : Cond.static Lib.Math.min.name ∈ gw) (w3 : Cond.initialized "java/lang/Math" ∈ gw) (w4 : Cond.code Lib.Math.min.name Lib.Math.min.code 2 (some .int) ∈ gw) (hy : ok32 y) (hz : ok32 z) (hlen : lv.length = Y.2.2.1) (hfr : 1 ≤ Y.2.2.2.2.1) (hlo : (st.map fun v => v.category).sum + 13 ≤ Y.2.2.2.2.2) (hd : decode Y.2.1 pc = .ok (.invokestatic idx, 3)) (k : wp Y (pc + 3) lv (.int (zI (if z < y then z else y)) :: st) h rc rs Φ) : wp Y pc lv (.int (zI z) :: .int (zI y) :: st) h rc rs Φ := by
  intro p l e R s m args below meth c H locs cells slots mc ms G b ls Q C hP hS hb hc hs hR hl HR
  refine va_mmin C.1 C.2.1 (hml_of C.2.2.1 hl hlen) C.2.2.2.1 (C.2.2.2.2.1 _ w1) (C.2.2.2.2.1 _ w2) (C.2.2.2.2.1 _ w3) (C.2.2.2.2.1 _ w4) (Nat.le_trans hfr hR.2.2.1) (Nat.le_trans hlo hR.2.2.2) (by have := hR.1; omega) (by have := hR.2.1; omega) hd ?_
  rw [zI_min hy hz]
  exact k p l e R s m args below meth c H locs cells slots mc ms G b ls Q C hP hS hb hc hs hR hl HR
theorem w_mabs {Y : MT} {pc : Nat} {lv st : List Value} {h : HP} {rc rs : Nat} {Φ : Option Value → HP → Prop} {idx : Nat} {z : Int} (w1 : Cond.methodLink Y.1.cls idx Lib.Math.abs.name ∈ gw) (w2 : Cond.static Lib.Math.abs.name ∈ gw) (w3 : Cond.initialized "java/lang/Math" ∈ gw) (w4 : Cond.code Lib.Math.abs.name Lib.Math.abs.code 1 (some .int) ∈ gw) (hz : ok32 z) (hlen : lv.length = Y.2.2.1) (hfr : 1 ≤ Y.2.2.2.2.1) (hlo : (st.map fun v => v.category).sum + 13 ≤ Y.2.2.2.2.2) (hd : decode Y.2.1 pc = .ok (.invokestatic idx, 3)) (k : wp Y (pc + 3) lv (.int (zI (szd z)) :: st) h rc rs Φ) : wp Y pc lv (.int (zI z) :: st) h rc rs Φ := by
  intro p l e R s m args below meth c H locs cells slots mc ms G b ls Q C hP hS hb hc hs hR hl HR
  refine va_mabs C.1 C.2.1 (hml_of C.2.2.1 hl hlen) C.2.2.2.1 (C.2.2.2.2.1 _ w1) (C.2.2.2.2.1 _ w2) (C.2.2.2.2.1 _ w3) (C.2.2.2.2.1 _ w4) (Nat.le_trans hfr hR.2.2.1) (Nat.le_trans hlo hR.2.2.2) (by have := hR.1; omega) (by have := hR.2.1; omega) hd ?_
  rw [zI_abs hz]
  exact k p l e R s m args below meth c H locs cells slots mc ms G b ls Q C hP hS hb hc hs hR hl HR
def cpyF (f g : Nat → Int) (n : Nat) : Nat → Int := fun k => if k < n then f k else g k
theorem w_copyI {Y : MT} {pc : Nat} {lv st : List Value} {h : HP} {rc rs : Nat} {Φ : Option Value → HP → Prop} {idx a0 a n0 n1 : Nat} {f g : Nat → Int} {z : Int} (n : Nat) (hz : z = (n : Int)) (w1 : Cond.methodLink Y.1.cls idx arraycopyName ∈ gw) (w2 : Cond.native arraycopyName ∈ gw) (w3 : Cond.static arraycopyName ∈ gw) (w4 : Cond.initialized "java/lang/System" ∈ gw) (ha0 : h.2 a0 = some (aI n0 f)) (ha1 : h.2 a = some (aI n1 g)) (h1 : n ≤ n0) (h2 : n ≤ n1) (hn : n ≤ 100000) (hlen : lv.length = Y.2.2.1) (hfr : 1 ≤ Y.2.2.2.2.1) (hlo : (st.map fun v => v.category).sum + (nativeFrameWords "java/lang/System" "arraycopy" 5 + 11) ≤ Y.2.2.2.2.2) (hd : decode Y.2.1 pc = .ok (.invokestatic idx, 3)) (kk : wp Y (pc + 3) lv st (h.1, up h.2 a (aI n1 (cpyF f g n))) rc rs Φ) : wp Y pc lv (.int (zI z) :: .int (zI 0) :: .ref a :: .int (zI 0) :: .ref a0 :: st) h rc rs Φ := by
  subst hz
  have ho : ok32 (n : Int) := ⟨by omega, by omega⟩
  have hN : (zI (n : Int)).toNatClampNeg = n := by rw [zI_clamp ho]; omega
  have hn0 : ¬ zI (n : Int) < 0 := fun q => by have := (zI_lt ho ok32_0).mp q; omega
  have hz0 : ¬ zI 0 < 0 := fun q => by have := (zI_lt ok32_0 ok32_0).mp q; omega
  have hZ : (zI 0).toNatClampNeg = 0 := rfl
  have hti : (zI (n : Int)).toInt = (n : Int) := zI_toInt ho
  have hti0 : (zI 0).toInt = 0 := rfl
  intro p l e R s m args below meth c H locs cells slots mc ms G b ls Q C hP hS hb hc hs hR hl HR
  intro T hT X
  have hc0 : H[a0]? = some (vp_cell (G.2.1 0) (n0, .inl fun k => zI (f k))) := (hP.2 a0 _ ha0).2
  have hc1 : H[a]? = some (vp_cell (G.2.1 0) (n1, .inl fun k => zI (g k))) := (hP.2 a _ ha1).2
  have hba := (hP.2 a _ ha1).1
  have hK := cx_K C
  obtain ⟨-, k0, hk0, cm0, hkk0⟩ := (hK.2 0 _ rfl).1 n0 (fun j => .int (zI (f j)))
  obtain ⟨-, k1, hk1, cm1, hkk1⟩ := (hK.2 0 _ rfl).1 n1 (fun j => .int (zI (g j)))
  obtain ⟨vm', X', step⟩ := X.arraycopy C.1 C.2.2.2.1 (C.2.2.2.2.1 _ w1) (C.2.2.2.2.1 _ w2) (C.2.2.2.2.1 _ w3) (C.2.2.2.2.1 _ w4) (src := a0) (dst := a) (cs := vp_cell (G.2.1 0) (n0, .inl fun k => zI (f k))) (cd := vp_cell (G.2.1 0) (n1, .inl fun k => zI (g k))) (srcPos := zI 0) (destPos := zI 0) (n := zI (n : Int)) (by rw [hT]; exact hc0) (by rw [hT]; exact hc1)
    (fun _ h => by cases h) (fun _ h => by cases h) (fun h => by cases h) (fun h => by cases h) hk0 hk1 hkk0 hkk1 (by simp [refKind]) hz0 hz0 hn0
    (by rw [hti0, hti]; show ¬ _ > ((arrV _ n0 _).slots.size : Int); rw [arrV_size]; omega)
    (by rw [hti0, hti]; show ¬ _ > ((arrV _ n1 _).slots.size : Int); rw [arrV_size]; omega)
    (fun vm₁ _ i hi => by
      rw [hN] at hi
      have e : (vp_cell (G.2.1 0) (n0, .inl fun k => zI (f k))).slots.getD ((zI 0).toNatClampNeg + i) .null = .int (zI (f i)) := by
        rw [hZ, Nat.zero_add]
        show (arrV _ n0 (fun j => .int (zI (f j)))).slots.getD _ _ = _
        rw [Array.getD_eq_getD_getElem?, arrV_read _ _ (by omega)]
        rfl
      refine ⟨?_, ?_⟩
      · rw [e]
        rfl
      · rw [e]
        exact trivial)
    (g := F0 m pc ls (.int (zI (n : Int)) :: .int (zI 0) :: .ref a :: .int (zI 0) :: .ref a0 :: st)) rfl (by rw [hml_of C.2.2.1 hl hlen]) (rest := st) rfl (by rw [C.2.1]; exact hd) (Nat.le_trans hfr hR.2.2.1) (by show 2 * 0 + _ + _ ≤ _; have := hR.2.2.2; omega)
  have e1 : copied (vp_cell (G.2.1 0) (n0, .inl fun k => zI (f k))) (vp_cell (G.2.1 0) (n1, .inl fun k => zI (g k))) (zI 0) (zI 0) (zI (n : Int)) = vp_cell (G.2.1 0) (n1, .inl (fun k => zI (cpyF f g n k))) := by
    have h4 := va_copied (fun z => Value.int z) (G.2.1 0) (G.2.1 0) (n0 := n0) (n1 := n1) (sp := (zI 0).toNatClampNeg) (dp := (zI 0).toNatClampNeg) (n := (zI (n : Int)).toNatClampNeg) (fun k => zI (f k)) (fun k => zI (g k)) (by rw [hZ, hN]; omega)
    refine h4.trans ?_
    rw [vp_cell_i]
    congr 1
    funext j
    unfold va_cpy cpyF
    rw [hZ, hN]
    by_cases hj : j < n
    · rw [if_pos ⟨by omega, by omega⟩, if_pos hj]; simp
    · rw [if_neg (by omega), if_neg hj]
  rw [e1] at X' step
  have hl2 : a < H.size := (Array.getElem?_eq_some_iff.mp hc1).1
  have hheap : ((T.setVm vm').setCell a (vp_cell (G.2.1 0) (n1, .inl (fun k => zI (cpyF f g n k))))).heap = H.setIfInBounds a (vp_cell (G.2.1 0) (n1, .inl (fun k => zI (cpyF f g n k)))) := by rw [← hT]; rfl
  have oq : ∀ q : Nat, q ≠ a → (H.setIfInBounds a (vp_cell (G.2.1 0) (n1, .inl (fun k => zI (cpyF f g n k)))))[q]? = H[q]? := fun q hq => by simp [Array.getElem?_setIfInBounds, Ne.symm hq]
  have hz1 : (H.setIfInBounds a (vp_cell (G.2.1 0) (n1, .inl (fun k => zI (cpyF f g n k))))).size = H.size := by simp
  have he : (H.setIfInBounds a (vp_cell (G.2.1 0) (n1, .inl (fun k => zI (cpyF f g n k)))))[a]? = some (vp_cell (G.2.1 0) (n1, .inl (fun k => zI (cpyF f g n k)))) := by simp [Array.getElem?_setIfInBounds, hl2]
  obtain ⟨t, a1, b1⟩ := kk p l e R s m args below meth c _ _ cells slots mc ms G b ls Q C (hP.put he hba hz1 oq) ⟨by rw [hz1]; exact hS.1, fun q g1 g2 => by
      rw [oq q (fun e => g2 (by rw [e]; exact hba))]
      exact hS.2.1 q g1 g2, fun q hq => by
      rcases List.mem_append.mp hq with h | h
      · exact hS.2.2 q h
      · obtain ⟨z, -, hz⟩ := List.mem_map.mp h
        rw [← hz]
        exact hba⟩ hb hc hs hR hl HR _ hheap X'
  exact ⟨t, step t a1, b1⟩

