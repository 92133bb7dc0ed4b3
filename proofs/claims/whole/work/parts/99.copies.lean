/-! copies of longs -/
def cpyG (f g : Nat → BitVec 64) (n : Nat) : Nat → BitVec 64 := fun k => if k < n then f k else g k
theorem w_copyL {Y : MT} {pc : Nat} {lv st : List Value} {h : HP} {rc rs : Nat} {Φ : Option Value → HP → Prop} {idx a0 a n0 n1 : Nat} {f g : Nat → BitVec 64} {z : Int} (n : Nat) (hz : z = (n : Int)) (w1 : Cond.methodLink Y.1.cls idx arraycopyName ∈ gw) (w2 : Cond.native arraycopyName ∈ gw) (w3 : Cond.static arraycopyName ∈ gw) (w4 : Cond.initialized "java/lang/System" ∈ gw) (ha0 : h.2 a0 = some (aL n0 f)) (ha1 : h.2 a = some (aL n1 g)) (h1 : n ≤ n0) (h2 : n ≤ n1) (hn : n ≤ 1000000) (hlen : lv.length = Y.2.2.1) (hfr : 1 ≤ Y.2.2.2.2.1) (hlo : (st.map fun v => v.category).sum + (nativeFrameWords "java/lang/System" "arraycopy" 5 + 11) ≤ Y.2.2.2.2.2) (hd : decode Y.2.1 pc = .ok (.invokestatic idx, 3)) (kk : wp Y (pc + 3) lv st (h.1, up h.2 a (aL n1 (cpyG f g n))) rc rs Φ) : wp Y pc lv (.int (zI z) :: .int (zI 0) :: .ref a :: .int (zI 0) :: .ref a0 :: st) h rc rs Φ := by
  subst hz
  have ho : ok32 (n : Int) := ⟨by omega, by omega⟩
  have hN : (zI (n : Int)).toNatClampNeg = n := by rw [zI_clamp ho]; omega
  have hn0 : ¬ zI (n : Int) < 0 := fun q => by have := (zI_lt ho ok32_0).mp q; omega
  have hz0 : ¬ zI 0 < 0 := fun q => by have := (zI_lt ok32_0 ok32_0).mp q; omega
  have hZ : (zI 0).toNatClampNeg = 0 := rfl
  have hti : (zI (n : Int)).toInt = (n : Int) := zI_toInt ho
  have hti0 : (zI 0).toInt = 0 := rfl
  intro p l e R s m args below meth c H locs cells slots mc ms G b ls Q C hP hS hb hc hs hR hl HR
  intro T hT X
  have hc0 : H[a0]? = some (vp_cell (G.2.1 1) (n0, .inr (.inl fun k => lB (f k)))) := (hP.2 a0 _ ha0).2
  have hc1 : H[a]? = some (vp_cell (G.2.1 1) (n1, .inr (.inl fun k => lB (g k)))) := (hP.2 a _ ha1).2
  have hba := (hP.2 a _ ha1).1
  have hK := cx_K C
  obtain ⟨-, k0, hk0, cm0, hkk0⟩ := (hK.2 1 _ rfl).1 n0 (fun j => .long (lB (f j)))
  obtain ⟨-, k1, hk1, cm1, hkk1⟩ := (hK.2 1 _ rfl).1 n1 (fun j => .long (lB (g j)))
  obtain ⟨vm', X', step⟩ := X.arraycopy C.1 C.2.2.2.1 (C.2.2.2.2.1 _ w1) (C.2.2.2.2.1 _ w2) (C.2.2.2.2.1 _ w3) (C.2.2.2.2.1 _ w4) (src := a0) (dst := a) (cs := vp_cell (G.2.1 1) (n0, .inr (.inl fun k => lB (f k)))) (cd := vp_cell (G.2.1 1) (n1, .inr (.inl fun k => lB (g k)))) (srcPos := zI 0) (destPos := zI 0) (n := zI (n : Int)) (by rw [hT]; exact hc0) (by rw [hT]; exact hc1)
    (fun _ h => by cases h) (fun _ h => by cases h) (fun h => by cases h) (fun h => by cases h) hk0 hk1 hkk0 hkk1 (by simp [refKind]) hz0 hz0 hn0
    (by rw [hti0, hti]; show ¬ _ > ((arrV _ n0 _).slots.size : Int); rw [arrV_size]; omega)
    (by rw [hti0, hti]; show ¬ _ > ((arrV _ n1 _).slots.size : Int); rw [arrV_size]; omega)
    (fun vm₁ _ i hi => by
      rw [hN] at hi
      have e : (vp_cell (G.2.1 1) (n0, .inr (.inl fun k => lB (f k)))).slots.getD ((zI 0).toNatClampNeg + i) .null = .long (lB (f i)) := by
        rw [hZ, Nat.zero_add]
        show (arrV _ n0 (fun j => .long (lB (f j)))).slots.getD _ _ = _
        rw [Array.getD_eq_getD_getElem?, arrV_read _ _ (by omega)]
        rfl
      refine ⟨?_, ?_⟩
      · rw [e]
        rfl
      · rw [e]
        exact trivial)
    (g := F0 m pc ls (.int (zI (n : Int)) :: .int (zI 0) :: .ref a :: .int (zI 0) :: .ref a0 :: st)) rfl (by rw [hml_of C.2.2.1 hl hlen]) (rest := st) rfl (by rw [C.2.1]; exact hd) (Nat.le_trans hfr hR.2.2.1) (by show 2 * 0 + _ + _ ≤ _; have := hR.2.2.2; omega)
  have e1 : copied (vp_cell (G.2.1 1) (n0, .inr (.inl fun k => lB (f k)))) (vp_cell (G.2.1 1) (n1, .inr (.inl fun k => lB (g k)))) (zI 0) (zI 0) (zI (n : Int)) = vp_cell (G.2.1 1) (n1, .inr (.inl fun k => lB (cpyG f g n k))) := by
    have h4 := va_copied (fun z => Value.long z) (G.2.1 1) (G.2.1 1) (n0 := n0) (n1 := n1) (sp := (zI 0).toNatClampNeg) (dp := (zI 0).toNatClampNeg) (n := (zI (n : Int)).toNatClampNeg) (fun k => lB (f k)) (fun k => lB (g k)) (by rw [hZ, hN]; omega)
    refine h4.trans ?_
    rw [vp_cell_l]
    congr 1
    funext j
    unfold va_cpy cpyG
    rw [hZ, hN]
    by_cases hj : j < n
    · rw [if_pos ⟨by omega, by omega⟩, if_pos hj]; simp
    · rw [if_neg (by omega), if_neg hj]
  rw [e1] at X' step
  have hl2 : a < H.size := (Array.getElem?_eq_some_iff.mp hc1).1
  have hheap : ((T.setVm vm').setCell a (vp_cell (G.2.1 1) (n1, .inr (.inl fun k => lB (cpyG f g n k))))).heap = H.setIfInBounds a (vp_cell (G.2.1 1) (n1, .inr (.inl fun k => lB (cpyG f g n k)))) := by rw [← hT]; rfl
  have oq : ∀ q : Nat, q ≠ a → (H.setIfInBounds a (vp_cell (G.2.1 1) (n1, .inr (.inl fun k => lB (cpyG f g n k)))))[q]? = H[q]? := fun q hq => by simp [Array.getElem?_setIfInBounds, Ne.symm hq]
  have hz1 : (H.setIfInBounds a (vp_cell (G.2.1 1) (n1, .inr (.inl fun k => lB (cpyG f g n k))))).size = H.size := by simp
  have he : (H.setIfInBounds a (vp_cell (G.2.1 1) (n1, .inr (.inl fun k => lB (cpyG f g n k)))))[a]? = some (vp_cell (G.2.1 1) (n1, .inr (.inl fun k => lB (cpyG f g n k)))) := by simp [Array.getElem?_setIfInBounds, hl2]
  obtain ⟨t, a1, b1⟩ := kk p l e R s m args below meth c _ _ cells slots mc ms G b ls Q C (hP.put he hba hz1 oq) ⟨by rw [hz1]; exact hS.1, fun q g1 g2 => by
      rw [oq q (fun e => g2 (by rw [e]; exact hba))]
      exact hS.2.1 q g1 g2, fun q hq => by
      rcases List.mem_append.mp hq with h | h
      · exact hS.2.2 q h
      · obtain ⟨z, -, hz⟩ := List.mem_map.mp h
        rw [← hz]
        exact hba⟩ hb hc hs hR hl HR _ hheap X'
  exact ⟨t, step t a1, b1⟩

