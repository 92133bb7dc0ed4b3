/-! lists of longs: one put in its place, one made longer -/
theorem aoL : Cond.arrayOver (.array .long) ∈ lw_tbl := List.mem_of_getElem? (i := 462) (by decide +kernel)
theorem lJ7_150 : Cond.methodLink RJ7 150 arraycopyName ∈ gw := gw_in (i := 1045) (by decide +kernel) (by decide +kernel)
theorem w_aast4 {Y : MT} {pc : Nat} {lv st : List Value} {h : HP} {rc rs : Nat} {Φ : Option Value → HP → Prop} {a v n m0 : Nat} {A : Nat → Option Nat} {f : Nat → BitVec 64} {z : Int} (k : Nat) (ha : h.2 a = some (aR 4 n A)) (hv : h.2 v = some (aL m0 f)) (hk : z = (k : Int)) (hlt : k < n) (hn : n ≤ 2147483648) (hd : decode Y.2.1 pc = .ok (.aastore, 1)) (kk : wp Y (pc + 1) lv st (h.1, up h.2 a (aR 4 n (u1 A k (some v)))) rc rs Φ) : wp Y pc lv (.ref v :: .int (zI z) :: .ref a :: st) h rc rs Φ := by
  subst hk
  obtain ⟨i1, i2⟩ := zI_in hlt hn
  intro p l e R s m args below meth c H locs cells slots mc ms G b ls Q C hP hS hb hc hs hR hl HR
  have hK := cx_K C
  have hc1 : H[a]? = some (arrV (G.2.1 4) n (fun j => va_rf (A j))) := (hP.2 a _ ha).2
  have hba := (hP.2 a _ ha).1
  have g1 : H[v]? = some (vp_cell (G.2.1 1) (m0, .inr (.inl fun k => lB (f k)))) := (hP.2 v _ hv).2
  have hov : (Cond.arrayOver (.array .long)).before args s = true := ((C.2.2.2.2.2.2.2.1.2.1 : NW s) _ aoL rfl)
  obtain ⟨comp, cA, kA, hcomp, -, hkA, hkindA, hnameA⟩ := arrayOverA_spec hov
  have hn4 : s.vm.findClass ("[" ++ (FieldType.array .long).toString) = some (G.2.1 4) := (hK.2 4 _ rfl).2
  have hn1 : s.vm.findClass ("[" ++ (FieldType.long).toString) = some (G.2.1 1) := (hK.2 1 _ rfl).2
  have hcA : cA = G.2.1 4 := Option.some.inj (hnameA.symm.trans hn4)
  subst hcA
  have hcomp1 : comp = G.2.1 1 := Option.some.inj (hcomp.symm.trans hn1)
  subst hcomp1
  obtain ⟨-, kC, hkC, -, -⟩ := (hK.2 1 _ rfl).1 0 (fun _ => .null)
  refine W.aast C.1 C.2.1 hc1 (fun q h => by cases h) (fun h => by cases h) hkA hkindA rfl hkC ⟨fun q => i1 (Or.inl q), by show _ < (arrV _ _ _).slots.size; rw [arrV_size, i2]; exact hlt⟩ g1 (fun q h => by cases h) hkC (by show Vm.assignableAux s.vm (255 + 1) (G.2.1 1) (G.2.1 1) = true; unfold Vm.assignableAux; rw [beq_self_eq_true]; rfl) rfl rfl hd fun H1 e1 z1 oq => ?_
  refine kk p l e R s m args below meth c H1 _ cells slots mc ms G b ls Q C (hP.put ?_ hba z1 oq) (hS.put z1 oq hba) hb hc hs hR hl HR
  show H1[a]? = some (vp_cell _ _)
  rw [e1, i2, vp_cell_q, arrV_store]
  congr 2
  funext q
  by_cases hq : q = k
  · subst hq; simp [updV, u1, va_rf]
  · simp [updV, u1, hq]
theorem c7_copyOfL {h : HP} {a n m0 : Nat} {f : Nat → BitVec 64} (ha : h.2 a = some (aL n f)) (hm : n < m0) (hb : m0 ≤ 1000000) (hal : a ≠ h.1) : sp mJ7_copyOf_c38d5 [.ref a, .int (zI (m0 : Int))] h 1 m0 (pd (some (.ref h.1)) (h.1 + 1, up h.2 h.1 (aL m0 (cpyG f (fun _ => 0) n)))) := by
  have o1 : ok32 (m0 : Int) := ⟨by omega, by omega⟩
  have o2 : ok32 (n : Int) := ⟨by omega, by omega⟩
  refine sp_wp rfl (lv := [_, _, _]) rfl (Nat.le_of_ble_eq_true rfl) ?_
  refine w_iload_n dJ7_copyOf_c38d5_0 rfl rfl ?_
  refine w_aload_n dJ7_copyOf_c38d5_1 rfl rfl ?_
  refine w_alen (by decide) ha dJ7_copyOf_c38d5_2 ?_
  refine w_icmp_ne 14 dJ7_copyOf_c38d5_3 (by decide) o1 o2 (fun _ => ?_) (fun hc => ?_)
  rotate_left
  · exact absurd hc (by show ¬ (m0 : Int) = (n : Int); omega)
  refine w_iload_n dJ7_copyOf_c38d5_14 rfl rfl ?_
  refine w_newL m0 rfl hb acL (by omega) (by omega) dJ7_copyOf_c38d5_15 ?_
  refine w_astore_n (lv' := [_, _, _]) dJ7_copyOf_c38d5_17 rfl (Nat.le_of_ble_eq_true rfl) rfl rfl ?_
  refine w_aload_n dJ7_copyOf_c38d5_18 rfl rfl ?_
  refine w_iconst dJ7_copyOf_c38d5_19 ?_
  refine w_aload_n dJ7_copyOf_c38d5_20 rfl rfl ?_
  refine w_iconst dJ7_copyOf_c38d5_21 ?_
  refine w_aload_n dJ7_copyOf_c38d5_22 rfl rfl ?_
  refine w_alen (by decide) ((up_n hal).trans ha) dJ7_copyOf_c38d5_23 ?_
  refine w_iload_n dJ7_copyOf_c38d5_24 rfl rfl ?_
  refine w_mmin lJ7_304 sJ9_min_7cf53 kJ9_min_7cf53.2.1 kJ9_min_7cf53.1 o2 o1 rfl (Nat.le_of_ble_eq_true rfl) (Nat.le_of_ble_eq_true rfl) dJ7_copyOf_c38d5_25 ?_
  refine w_copyL n (by show (if (m0 : Int) < (n : Int) then (m0 : Int) else (n : Int)) = (n : Int); rw [if_neg (by omega)]) lJ7_150 nAC sAC iAC ((up_n hal).trans ha) up_s (Nat.le_refl _) (by omega) (by omega) rfl (Nat.le_of_ble_eq_true rfl) (Nat.le_of_ble_eq_true rfl) dJ7_copyOf_c38d5_28 ?_
  refine w_aload_n dJ7_copyOf_c38d5_31 rfl rfl ?_
  refine x_aret rfl (Or.inr ⟨_, rfl⟩) dJ7_copyOf_c38d5_32 ⟨rfl, ?_⟩
  show ((h.1 + 1, up (up h.2 h.1 _) h.1 _) : HP) = _
  rw [up_up]

