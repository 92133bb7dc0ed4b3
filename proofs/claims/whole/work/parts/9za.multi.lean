/-! arrays of arrays in a walk -/
theorem w_multi {Y : MT} {pc : Nat} {lv st : List Value} {h : HP} {rc rs : Nat} {Φ : Option Value → HP → Prop} {idx : Nat} (w1 : Cond.classLink Y.1.cls idx "[[J" ∈ gw) (w2 : Cond.arrayOver (.array .long) ∈ lw_tbl) (w3 : Cond.arrayClass .long ∈ gw) (h1 : 6 ≤ rc) (h2 : 85 ≤ rs) (hd : decode Y.2.1 pc = .ok (.multianewarray idx 2, 4)) (kk : wp Y (pc + 4) lv (.ref h.1 :: st) (h.1 + 6, fun x => if x = h.1 then some (aR 4 5 (fun j => some (h.1 + 1 + j))) else if h.1 + 1 ≤ x ∧ x ≤ h.1 + 5 then some (aL 16 (fun _ => 0)) else h.2 x) (rc - 6) (rs - 85) Φ) : wp Y pc lv (.int (zI 16) :: .int (zI 5) :: st) h rc rs Φ := by
  intro p l e R s m args below meth c H locs cells slots mc ms G b ls Q C hP hS hb hc hs hR hl HR
  have hov : (Cond.arrayOver (.array .long)).before args s = true := ((C.2.2.2.2.2.2.2.1.2.1 : NW s) _ w2 rfl)
  refine W_multi C.1 C.2.1 C.2.2.2.1 (cx_w C _ w1) hov (cx_w C _ w3) hd (by decide) (by decide) (by decide) (by decide) (by have := hR.1; omega) (by have := hR.2.1; omega) fun cA comp H1 f1 f2 z1 o1 e1 e2 => ?_
  have g4 : s.vm.findClass ("[" ++ (FieldType.array .long).toString) = some (G.2.1 4) := ((cx_K C).2 4 _ rfl).2
  have g1 : s.vm.findClass ("[" ++ FieldType.long.toString) = some (G.2.1 1) := ((cx_K C).2 1 _ rfl).2
  rw [show "[" ++ (FieldType.array .long).toString = "[[J" by decide +kernel] at g4
  rw [show "[" ++ FieldType.long.toString = "[J" by decide +kernel] at g1
  have hcA : cA = G.2.1 4 := Option.some.inj (f1.symm.trans g4)
  have hcB : comp = G.2.1 1 := Option.some.inj (f2.symm.trans g1)
  subst hcA
  subst hcB
  have hba : b ≤ H.size := Nat.le_trans hb hS.1
  have hsz := hP.1
  have key := kk p l e R s m args below meth c H1 (locs ++ (List.range 5).map fun j => ⟨H.size, j⟩) (cells + 6) (slots + 85) mc ms G b ls Q C ⟨by rw [z1, hP.1], fun x y hx => ?_⟩ ⟨by rw [z1]; have := hS.1; omega, fun q h3 h4 => (o1 q (by have := hS.1; omega)).trans (hS.2.1 q h3 h4), fun q hq => ?_⟩ hb (by omega) (by omega) hR hl HR
  · rw [← hsz] at key; exact key
  · replace hx : (if x = h.1 then some (aR 4 5 (fun j => some (h.1 + 1 + j))) else if h.1 + 1 ≤ x ∧ x ≤ h.1 + 5 then some (aL 16 (fun _ => 0)) else h.2 x) = some y := hx
    by_cases hx1 : x = h.1
    · rw [if_pos hx1] at hx
      cases hx
      subst hx1
      refine ⟨by omega, ?_⟩
      rw [hsz] at e1
      exact e1
    · rw [if_neg hx1] at hx
      by_cases hx2 : h.1 + 1 ≤ x ∧ x ≤ h.1 + 5
      · rw [if_pos hx2] at hx
        cases hx
        refine ⟨by omega, ?_⟩
        have := e2 (x - (h.1 + 1)) (by omega)
        rw [hsz, show h.1 + 1 + (x - (h.1 + 1)) = x by omega] at this
        exact this
      · rw [if_neg hx2] at hx
        have hlt := (hP.2 x y hx).2.lt
        exact ⟨(hP.2 x y hx).1, (hP.2 x y hx).2.kept (o1 x hlt)⟩
  · rcases List.mem_append.mp hq with h3 | h3
    · exact hS.2.2 q h3
    · obtain ⟨j, -, rfl⟩ := List.mem_map.mp h3
      exact hba
