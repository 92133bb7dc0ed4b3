def pd (w : Option Value) (h1 : HP) : Option Value → HP → Prop := fun v h' => v = w ∧ h' = h1
theorem w_cast {Y : MT} {pc : Nat} {lv lv' st st' : List Value} {h h' : HP} {rc rs : Nat} {Φ : Option Value → HP → Prop} (e1 : lv = lv') (e2 : st = st') (e3 : h = h') (k : wp Y pc lv' st' h' rc rs Φ) : wp Y pc lv st h rc rs Φ := by subst e1; subst e2; subst e3; exact k
theorem up_ind {P : Nat → Prop} {N : Nat} (hs : ∀ c, c ≤ N → (c < N → P (c + 1)) → P c) : ∀ c, c ≤ N → P c := by
  have h : ∀ k c, c + k = N → P c := by
    intro k
    induction k with
    | zero => intro c hc; exact hs c (by omega) (fun h => by omega)
    | succ k ih => intro c hc; exact hs c (by omega) (fun _ => ih (c + 1) (by omega))
  intro c hc
  exact h (N - c) c (by omega)
theorem dn_ind {P : Nat → Prop} (hs : ∀ c, (∀ d, d < c → P d) → P c) : ∀ c, P c := fun c => Nat.strongRecOn c (fun c ih => hs c ih)
/-! calls of methods whose end is known -/
theorem wc_V {Y : MT} {pc : Nat} {lv st : List Value} {h : HP} {rc rs : Nat} {Φ : Option Value → HP → Prop} {Z : MT} {idx n ci a : Nat} {fs : List Value} {As rest : List Value} {v : Value} {h1 : HP} (hM : sp Z (.ref a :: As) h 0 0 (pd (some v) h1)) (ho : h.2 a = some (.inr (ci, fs))) (hci : (vwCl[ci]?).map (fun q => q.1) = some Z.1.cls) (hB : CB Z n) (w1 : Cond.methodLink Y.1.cls idx Z.1 ∈ gw) (w2 : Cond.instanceMethod Z.1 ∈ gw) (w3 : Cond.selects Z.1.cls Z.1 Z.1 ∈ gw) (hd : decode Y.2.1 pc = .ok (.invokevirtual idx, 3)) (hst : st = As.reverse ++ .ref a :: rest) (hn : As.length = n) (hlen : lv.length = Y.2.2.1) (hw : (rest.map fun v => v.category).sum ≤ 8) (hfr : RM Y Z) (kk : wp Y (pc + 3) lv (v :: rest) h1 rc rs Φ) : wp Y pc lv st h rc rs Φ :=
  w_callV hM ho hci hB w1 w2 w3 hd hst hn hlen hw hfr (Nat.zero_le _) (Nat.zero_le _) (fun v' h' q => by obtain ⟨rfl, rfl⟩ := q; exact kk)
theorem wc_Vv {Y : MT} {pc : Nat} {lv st : List Value} {h : HP} {rc rs : Nat} {Φ : Option Value → HP → Prop} {Z : MT} {idx n ci a : Nat} {fs : List Value} {As rest : List Value} {h1 : HP} (hM : sp Z (.ref a :: As) h 0 0 (pd none h1)) (ho : h.2 a = some (.inr (ci, fs))) (hci : (vwCl[ci]?).map (fun q => q.1) = some Z.1.cls) (hB : CB Z n) (w1 : Cond.methodLink Y.1.cls idx Z.1 ∈ gw) (w2 : Cond.instanceMethod Z.1 ∈ gw) (w3 : Cond.selects Z.1.cls Z.1 Z.1 ∈ gw) (hd : decode Y.2.1 pc = .ok (.invokevirtual idx, 3)) (hst : st = As.reverse ++ .ref a :: rest) (hn : As.length = n) (hlen : lv.length = Y.2.2.1) (hw : (rest.map fun v => v.category).sum ≤ 8) (hfr : RM Y Z) (kk : wp Y (pc + 3) lv rest h1 rc rs Φ) : wp Y pc lv st h rc rs Φ :=
  w_callV hM ho hci hB w1 w2 w3 hd hst hn hlen hw hfr (Nat.zero_le _) (Nat.zero_le _) (fun v' h' q => by obtain ⟨rfl, rfl⟩ := q; exact kk)
theorem wc_S {Y : MT} {pc : Nat} {lv st : List Value} {h : HP} {rc rs : Nat} {Φ : Option Value → HP → Prop} {Z : MT} {idx n : Nat} {As rest : List Value} {v : Value} {h1 : HP} (hM : sp Z As h 0 0 (pd (some v) h1)) (hB : CB Z n) (w1 : Cond.methodLink Y.1.cls idx Z.1 ∈ gw) (w2 : Cond.static Z.1 ∈ gw) (hd : decode Y.2.1 pc = .ok (.invokestatic idx, 3)) (hst : st = As.reverse ++ rest) (hn : As.length = n) (hlen : lv.length = Y.2.2.1) (hw : (rest.map fun v => v.category).sum ≤ 8) (hfr : RM Y Z) (kk : wp Y (pc + 3) lv (v :: rest) h1 rc rs Φ) : wp Y pc lv st h rc rs Φ :=
  w_callS hM hB w1 w2 hd hst hn hlen hw hfr (Nat.zero_le _) (Nat.zero_le _) (fun v' h' q => by obtain ⟨rfl, rfl⟩ := q; exact kk)
theorem wc_Sv {Y : MT} {pc : Nat} {lv st : List Value} {h : HP} {rc rs : Nat} {Φ : Option Value → HP → Prop} {Z : MT} {idx n : Nat} {As rest : List Value} {h1 : HP} (hM : sp Z As h 0 0 (pd none h1)) (hB : CB Z n) (w1 : Cond.methodLink Y.1.cls idx Z.1 ∈ gw) (w2 : Cond.static Z.1 ∈ gw) (hd : decode Y.2.1 pc = .ok (.invokestatic idx, 3)) (hst : st = As.reverse ++ rest) (hn : As.length = n) (hlen : lv.length = Y.2.2.1) (hw : (rest.map fun v => v.category).sum ≤ 8) (hfr : RM Y Z) (kk : wp Y (pc + 3) lv rest h1 rc rs Φ) : wp Y pc lv st h rc rs Φ :=
  w_callS hM hB w1 w2 hd hst hn hlen hw hfr (Nat.zero_le _) (Nat.zero_le _) (fun v' h' q => by obtain ⟨rfl, rfl⟩ := q; exact kk)
theorem wc_SN {Y : MT} {pc : Nat} {lv st : List Value} {h : HP} {rc rs : Nat} {Φ : Option Value → HP → Prop} {Z : MT} {idx n : Nat} {host : String} {As rest : List Value} {v : Value} {h1 : HP} (hM : sp Z As h 0 0 (pd (some v) h1)) (hB : CB Z n) (w1 : Cond.methodLinkNest Y.1.cls idx Z.1 host ∈ lw_tbl) (w2 : Cond.static Z.1 ∈ gw) (hd : decode Y.2.1 pc = .ok (.invokestatic idx, 3)) (hst : st = As.reverse ++ rest) (hn : As.length = n) (hlen : lv.length = Y.2.2.1) (hw : (rest.map fun v => v.category).sum ≤ 8) (hfr : RM Y Z) (kk : wp Y (pc + 3) lv (v :: rest) h1 rc rs Φ) : wp Y pc lv st h rc rs Φ :=
  w_callSN hM hB w1 w2 hd hst hn hlen hw hfr (Nat.zero_le _) (Nat.zero_le _) (fun v' h' q => by obtain ⟨rfl, rfl⟩ := q; exact kk)
theorem wc_SNv {Y : MT} {pc : Nat} {lv st : List Value} {h : HP} {rc rs : Nat} {Φ : Option Value → HP → Prop} {Z : MT} {idx n : Nat} {host : String} {As rest : List Value} {h1 : HP} (hM : sp Z As h 0 0 (pd none h1)) (hB : CB Z n) (w1 : Cond.methodLinkNest Y.1.cls idx Z.1 host ∈ lw_tbl) (w2 : Cond.static Z.1 ∈ gw) (hd : decode Y.2.1 pc = .ok (.invokestatic idx, 3)) (hst : st = As.reverse ++ rest) (hn : As.length = n) (hlen : lv.length = Y.2.2.1) (hw : (rest.map fun v => v.category).sum ≤ 8) (hfr : RM Y Z) (kk : wp Y (pc + 3) lv rest h1 rc rs Φ) : wp Y pc lv st h rc rs Φ :=
  w_callSN hM hB w1 w2 hd hst hn hlen hw hfr (Nat.zero_le _) (Nat.zero_le _) (fun v' h' q => by obtain ⟨rfl, rfl⟩ := q; exact kk)
/-! numbers by their values -/
theorem w_iadd {Y : MT} {pc : Nat} {lv st : List Value} {h : HP} {rc rs : Nat} {Φ : Option Value → HP → Prop} {x y : Int} (hd : decode Y.2.1 pc = .ok (.iadd, 1)) (k : wp Y (pc + 1) lv (.int (zI (x + y)) :: st) h rc rs Φ) : wp Y pc lv (.int (zI y) :: .int (zI x) :: st) h rc rs Φ := w_iaddR hd (by rw [zI_add]; exact k)
theorem w_isub {Y : MT} {pc : Nat} {lv st : List Value} {h : HP} {rc rs : Nat} {Φ : Option Value → HP → Prop} {x y : Int} (hd : decode Y.2.1 pc = .ok (.isub, 1)) (k : wp Y (pc + 1) lv (.int (zI (x - y)) :: st) h rc rs Φ) : wp Y pc lv (.int (zI y) :: .int (zI x) :: st) h rc rs Φ := w_isubR hd (by rw [zI_sub]; exact k)
theorem w_imul {Y : MT} {pc : Nat} {lv st : List Value} {h : HP} {rc rs : Nat} {Φ : Option Value → HP → Prop} {x y : Int} (hd : decode Y.2.1 pc = .ok (.imul, 1)) (k : wp Y (pc + 1) lv (.int (zI (x * y)) :: st) h rc rs Φ) : wp Y pc lv (.int (zI y) :: .int (zI x) :: st) h rc rs Φ := w_imulR hd (by rw [zI_mul]; exact k)
theorem w_ineg {Y : MT} {pc : Nat} {lv st : List Value} {h : HP} {rc rs : Nat} {Φ : Option Value → HP → Prop} {x : Int} (hd : decode Y.2.1 pc = .ok (.ineg, 1)) (k : wp Y (pc + 1) lv (.int (zI (-x)) :: st) h rc rs Φ) : wp Y pc lv (.int (zI x) :: st) h rc rs Φ := w_inegR hd (by rw [zI_neg]; exact k)
theorem w_idiv {Y : MT} {pc : Nat} {lv st : List Value} {h : HP} {rc rs : Nat} {Φ : Option Value → HP → Prop} {x y : Int} (hd : decode Y.2.1 pc = .ok (.idiv, 1)) (hx : ok32 x) (h0 : 0 ≤ x) (hy0 : 0 < y) (hy : ok32 y) (k : wp Y (pc + 1) lv (.int (zI (x / y)) :: st) h rc rs Φ) : wp Y pc lv (.int (zI y) :: .int (zI x) :: st) h rc rs Φ :=
  w_idivR hd (fun q => by have := (zI_eq hy ok32_0).mp q; omega) (by rw [zI_div hx h0 hy0 hy]; exact k)
theorem w_irem {Y : MT} {pc : Nat} {lv st : List Value} {h : HP} {rc rs : Nat} {Φ : Option Value → HP → Prop} {x y : Int} (hd : decode Y.2.1 pc = .ok (.irem, 1)) (hx : ok32 x) (h0 : 0 ≤ x) (hy0 : 0 < y) (hy : ok32 y) (k : wp Y (pc + 1) lv (.int (zI (x % y)) :: st) h rc rs Φ) : wp Y pc lv (.int (zI y) :: .int (zI x) :: st) h rc rs Φ :=
  w_iremR hd (fun q => by have := (zI_eq hy ok32_0).mp q; omega) (by rw [zI_rem hx h0 hy0 hy]; exact k)
theorem w_ialdZ {Y : MT} {pc : Nat} {lv st : List Value} {h : HP} {rc rs : Nat} {Φ : Option Value → HP → Prop} {a n : Nat} {A : Nat → Int} {z : Int} (ha : h.2 a = some (aI n A)) (h0 : 0 ≤ z) (hlt : z < n) (hn : n ≤ 2147483648) (hd : decode Y.2.1 pc = .ok (.iaload, 1)) (kk : wp Y (pc + 1) lv (.int (zI (A z.toNat)) :: st) h rc rs Φ) : wp Y pc lv (.int (zI z) :: .ref a :: st) h rc rs Φ := w_iald z.toNat ha (by omega) (by omega) hn hd kk
theorem w_laldZ {Y : MT} {pc : Nat} {lv st : List Value} {h : HP} {rc rs : Nat} {Φ : Option Value → HP → Prop} {a n : Nat} {A : Nat → BitVec 64} {z : Int} (ha : h.2 a = some (aL n A)) (h0 : 0 ≤ z) (hlt : z < n) (hn : n ≤ 2147483648) (hd : decode Y.2.1 pc = .ok (.laload, 1)) (kk : wp Y (pc + 1) lv (.long (lB (A z.toNat)) :: st) h rc rs Φ) : wp Y pc lv (.int (zI z) :: .ref a :: st) h rc rs Φ := w_lald z.toNat ha (by omega) (by omega) hn hd kk
theorem w_lconst0 {Y : MT} {pc : Nat} {lv st : List Value} {h : HP} {rc rs : Nat} {Φ : Option Value → HP → Prop} (hd : decode Y.2.1 pc = .ok (.lconst 0, 1)) (k : wp Y (pc + 1) lv (.long (lB 0#64) :: st) h rc rs Φ) : wp Y pc lv st h rc rs Φ := w_lconst hd k
theorem w_lconst1 {Y : MT} {pc : Nat} {lv st : List Value} {h : HP} {rc rs : Nat} {Φ : Option Value → HP → Prop} (hd : decode Y.2.1 pc = .ok (.lconst 1, 1)) (k : wp Y (pc + 1) lv (.long (lB 1#64) :: st) h rc rs Φ) : wp Y pc lv st h rc rs Φ := w_lconst hd k
theorem w_land {Y : MT} {pc : Nat} {lv st : List Value} {h : HP} {rc rs : Nat} {Φ : Option Value → HP → Prop} {x y : BitVec 64} (hd : decode Y.2.1 pc = .ok (.land, 1)) (k : wp Y (pc + 1) lv (.long (lB (x &&& y)) :: st) h rc rs Φ) : wp Y pc lv (.long (lB y) :: .long (lB x) :: st) h rc rs Φ := w_landR hd k
theorem w_lor {Y : MT} {pc : Nat} {lv st : List Value} {h : HP} {rc rs : Nat} {Φ : Option Value → HP → Prop} {x y : BitVec 64} (hd : decode Y.2.1 pc = .ok (.lor, 1)) (k : wp Y (pc + 1) lv (.long (lB (x ||| y)) :: st) h rc rs Φ) : wp Y pc lv (.long (lB y) :: .long (lB x) :: st) h rc rs Φ := w_lorR hd k
theorem w_lxor {Y : MT} {pc : Nat} {lv st : List Value} {h : HP} {rc rs : Nat} {Φ : Option Value → HP → Prop} {x y : BitVec 64} (hd : decode Y.2.1 pc = .ok (.lxor, 1)) (k : wp Y (pc + 1) lv (.long (lB (x ^^^ y)) :: st) h rc rs Φ) : wp Y pc lv (.long (lB y) :: .long (lB x) :: st) h rc rs Φ := w_lxorR hd k
theorem w_ladd {Y : MT} {pc : Nat} {lv st : List Value} {h : HP} {rc rs : Nat} {Φ : Option Value → HP → Prop} {x y : BitVec 64} (hd : decode Y.2.1 pc = .ok (.ladd, 1)) (k : wp Y (pc + 1) lv (.long (lB (x + y)) :: st) h rc rs Φ) : wp Y pc lv (.long (lB y) :: .long (lB x) :: st) h rc rs Φ := w_laddR hd k
theorem w_lsub {Y : MT} {pc : Nat} {lv st : List Value} {h : HP} {rc rs : Nat} {Φ : Option Value → HP → Prop} {x y : BitVec 64} (hd : decode Y.2.1 pc = .ok (.lsub, 1)) (k : wp Y (pc + 1) lv (.long (lB (x - y)) :: st) h rc rs Φ) : wp Y pc lv (.long (lB y) :: .long (lB x) :: st) h rc rs Φ := w_lsubR hd k
theorem w_lneg {Y : MT} {pc : Nat} {lv st : List Value} {h : HP} {rc rs : Nat} {Φ : Option Value → HP → Prop} {x : BitVec 64} (hd : decode Y.2.1 pc = .ok (.lneg, 1)) (k : wp Y (pc + 1) lv (.long (lB (-x)) :: st) h rc rs Φ) : wp Y pc lv (.long (lB x) :: st) h rc rs Φ := w_lnegR hd k
theorem lB_inj {x y : BitVec 64} : lB x = lB y ↔ x = y := ⟨fun q => by have := congrArg Int64.toBitVec q; exact this, fun q => by rw [q]⟩
theorem zI_64 {z : Int} (h : ok32 z) : (zI z).toInt64 = Int64.ofInt z := by
  apply Int64.toInt.inj
  rw [Int32.toInt_toInt64, zI_toInt h, Int64.toInt_ofInt_of_le (by unfold ok32 at h; omega) (by unfold ok32 at h; omega)]
theorem sh63 {k : Nat} (hk : k < 64) : (zI (k : Int)).toInt64 &&& 63 = Int64.ofBitVec (BitVec.ofNat 64 k) := by
  rw [zI_64 ⟨by omega, by omega⟩]
  have key : ∀ k : Nat, k < 64 → Int64.ofInt (k : Int) &&& 63 = Int64.ofBitVec (BitVec.ofNat 64 k) := by decide +kernel
  exact key k hk
theorem smod64 {k : Nat} (hk : k < 64) : ((BitVec.ofNat 64 k).smod 64) = BitVec.ofNat 64 k := by
  have key : ∀ k : Nat, k < 64 → ((BitVec.ofNat 64 k).smod 64) = BitVec.ofNat 64 k := by decide +kernel
  exact key k hk
theorem lB_shl {x : BitVec 64} {k : Nat} (hk : k < 64) : lB x <<< ((zI (k : Int)).toInt64 &&& 63) = lB (x <<< k) := by
  rw [sh63 hk]
  apply Int64.toBitVec.inj
  rw [Int64.toBitVec_shiftLeft]
  show x <<< ((BitVec.ofNat 64 k).smod 64) = x <<< k
  rw [smod64 hk]
  simp [BitVec.shiftLeft_eq', Nat.mod_eq_of_lt (show k < 18446744073709551616 by omega)]
theorem lB_shr {x : BitVec 64} {k : Nat} (hk : k < 64) : lB x >>> ((zI (k : Int)).toInt64 &&& 63) = lB (x.sshiftRight k) := by
  rw [sh63 hk]
  apply Int64.toBitVec.inj
  rw [Int64.toBitVec_shiftRight]
  show x.sshiftRight' ((BitVec.ofNat 64 k).smod 64) = x.sshiftRight k
  rw [smod64 hk]
  simp [BitVec.sshiftRight', Nat.mod_eq_of_lt (show k < 18446744073709551616 by omega)]
theorem w_lshl {Y : MT} {pc : Nat} {lv st : List Value} {h : HP} {rc rs : Nat} {Φ : Option Value → HP → Prop} {x : BitVec 64} {z : Int} (k0 : Nat) (hz : z = (k0 : Int)) (hk : k0 < 64) (hd : decode Y.2.1 pc = .ok (.lshl, 1)) (k : wp Y (pc + 1) lv (.long (lB (x <<< k0)) :: st) h rc rs Φ) : wp Y pc lv (.int (zI z) :: .long (lB x) :: st) h rc rs Φ := w_lshlR hd (by rw [hz, lB_shl hk]; exact k)
theorem w_lshr {Y : MT} {pc : Nat} {lv st : List Value} {h : HP} {rc rs : Nat} {Φ : Option Value → HP → Prop} {x : BitVec 64} {z : Int} (k0 : Nat) (hz : z = (k0 : Int)) (hk : k0 < 64) (hd : decode Y.2.1 pc = .ok (.lshr, 1)) (k : wp Y (pc + 1) lv (.long (lB (x.sshiftRight k0)) :: st) h rc rs Φ) : wp Y pc lv (.int (zI z) :: .long (lB x) :: st) h rc rs Φ := w_lshrR hd (by rw [hz, lB_shr hk]; exact k)
theorem sshr_bit {x : BitVec 64} {k : Nat} (hk : k < 64) : x.sshiftRight k &&& 1#64 = if x.getLsbD k then 1#64 else 0#64 := by
  apply BitVec.eq_of_getLsbD_eq
  intro i hi
  rw [BitVec.getLsbD_and]
  by_cases h0 : i = 0
  · subst h0
    have e : (x.sshiftRight k).getLsbD 0 = x.getLsbD k := by
      rw [BitVec.getLsbD_sshiftRight, if_pos (show k + 0 < 64 by omega)]
      simp
    rw [e]
    cases hb : x.getLsbD k
    · rfl
    · rfl
  · have h1 : (1#64).getLsbD i = false := by
      rw [BitVec.getLsbD_one]; simp [h0]
    rw [h1, Bool.and_false]
    by_cases hb : x.getLsbD k
    · rw [if_pos hb, h1]
    · rw [if_neg hb]; simp
/-- a comparison of longs and the branch behind it -/
theorem lgc_eq {x y : Int64} : lg_cmp x y = 0 ↔ x = y := by
  unfold lg_cmp
  by_cases h1 : y < x
  · rw [if_pos h1]
    exact ⟨fun q => absurd q (by decide), fun q => absurd h1 (by rw [q]; exact fun z => Int64.lt_irrefl z)⟩
  · rw [if_neg h1]
    by_cases h2 : x = y
    · rw [if_pos h2]; exact ⟨fun _ => h2, fun _ => rfl⟩
    · rw [if_neg h2]; exact ⟨fun q => absurd q (by decide), fun q => absurd q h2⟩
theorem lgc_lt {x y : Int64} : lg_cmp x y < 0 ↔ x < y := by
  unfold lg_cmp
  by_cases h1 : y < x
  · rw [if_pos h1]
    exact ⟨fun q => absurd q (by decide), fun q => (Int64.lt_irrefl (Int64.lt_trans h1 q)).elim⟩
  · rw [if_neg h1]
    by_cases h2 : x = y
    · rw [if_pos h2]; exact ⟨fun q => absurd q (by decide), fun q => absurd q (by rw [h2]; exact fun z => Int64.lt_irrefl z)⟩
    · rw [if_neg h2]
      refine ⟨fun _ => ?_, fun _ => by decide⟩
      have h3 := Int64.not_lt.mp h1
      rw [Int64.lt_iff_le_and_ne]
      exact ⟨h3, h2⟩
theorem w_lc_eq {Y : MT} {pc : Nat} {lv st : List Value} {h : HP} {rc rs : Nat} {Φ : Option Value → HP → Prop} {x y : BitVec 64} {off : Int} (tgt : Nat) (hd1 : decode Y.2.1 pc = .ok (.lcmp, 1)) (hd2 : decode Y.2.1 (pc + 1) = .ok (.ifCond .eq off, 3)) (ht : ((pc + 1 : Nat) : Int) + off = (tgt : Int)) (kt : x = y → wp Y tgt lv st h rc rs Φ) (kf : ¬ x = y → wp Y (pc + 4) lv st h rc rs Φ) : wp Y pc lv (.long (lB y) :: .long (lB x) :: st) h rc rs Φ :=
  w_lcmpR hd1 (fun p l e R s m args below meth c H locs cells slots mc ms G b ls Q C hP hS hb hc hs hR hl HR => lv_if_eq C.1 C.2.1 hd2 ht (fun q => kt (lB_inj.mp (lgc_eq.mp q)) p l e R s m args below meth c H locs cells slots mc ms G b ls Q C hP hS hb hc hs hR hl HR) (fun q => kf (fun z => q (lgc_eq.mpr (lB_inj.mpr z))) p l e R s m args below meth c H locs cells slots mc ms G b ls Q C hP hS hb hc hs hR hl HR))
theorem w_lc_ne {Y : MT} {pc : Nat} {lv st : List Value} {h : HP} {rc rs : Nat} {Φ : Option Value → HP → Prop} {x y : BitVec 64} {off : Int} (tgt : Nat) (hd1 : decode Y.2.1 pc = .ok (.lcmp, 1)) (hd2 : decode Y.2.1 (pc + 1) = .ok (.ifCond .ne off, 3)) (ht : ((pc + 1 : Nat) : Int) + off = (tgt : Int)) (kt : ¬ x = y → wp Y tgt lv st h rc rs Φ) (kf : x = y → wp Y (pc + 4) lv st h rc rs Φ) : wp Y pc lv (.long (lB y) :: .long (lB x) :: st) h rc rs Φ :=
  w_lcmpR hd1 (fun p l e R s m args below meth c H locs cells slots mc ms G b ls Q C hP hS hb hc hs hR hl HR => lv_if_ne C.1 C.2.1 hd2 ht (fun q => kt (fun z => q (lgc_eq.mpr (lB_inj.mpr z))) p l e R s m args below meth c H locs cells slots mc ms G b ls Q C hP hS hb hc hs hR hl HR) (fun q => kf (lB_inj.mp (lgc_eq.mp q)) p l e R s m args below meth c H locs cells slots mc ms G b ls Q C hP hS hb hc hs hR hl HR))
theorem lB_lt {x y : BitVec 64} : lB x < lB y ↔ x.toInt < y.toInt := Int64.lt_iff_toInt_lt
theorem w_lc_ge {Y : MT} {pc : Nat} {lv st : List Value} {h : HP} {rc rs : Nat} {Φ : Option Value → HP → Prop} {x y : BitVec 64} {off : Int} (tgt : Nat) (hd1 : decode Y.2.1 pc = .ok (.lcmp, 1)) (hd2 : decode Y.2.1 (pc + 1) = .ok (.ifCond .ge off, 3)) (ht : ((pc + 1 : Nat) : Int) + off = (tgt : Int)) (kt : ¬ x.toInt < y.toInt → wp Y tgt lv st h rc rs Φ) (kf : x.toInt < y.toInt → wp Y (pc + 4) lv st h rc rs Φ) : wp Y pc lv (.long (lB y) :: .long (lB x) :: st) h rc rs Φ :=
  w_lcmpR hd1 (fun p l e R s m args below meth c H locs cells slots mc ms G b ls Q C hP hS hb hc hs hR hl HR => lv_if_ge C.1 C.2.1 hd2 ht (fun q => kt (fun z => (Int32.not_lt.mpr q) (lgc_lt.mpr (lB_lt.mpr z))) p l e R s m args below meth c H locs cells slots mc ms G b ls Q C hP hS hb hc hs hR hl HR) (fun q => kf (lB_lt.mp (lgc_lt.mp (Int32.not_le.mp q))) p l e R s m args below meth c H locs cells slots mc ms G b ls Q C hP hS hb hc hs hR hl HR))
theorem w_lc_lt {Y : MT} {pc : Nat} {lv st : List Value} {h : HP} {rc rs : Nat} {Φ : Option Value → HP → Prop} {x y : BitVec 64} {off : Int} (tgt : Nat) (hd1 : decode Y.2.1 pc = .ok (.lcmp, 1)) (hd2 : decode Y.2.1 (pc + 1) = .ok (.ifCond .lt off, 3)) (ht : ((pc + 1 : Nat) : Int) + off = (tgt : Int)) (kt : x.toInt < y.toInt → wp Y tgt lv st h rc rs Φ) (kf : ¬ x.toInt < y.toInt → wp Y (pc + 4) lv st h rc rs Φ) : wp Y pc lv (.long (lB y) :: .long (lB x) :: st) h rc rs Φ :=
  w_lcmpR hd1 (fun p l e R s m args below meth c H locs cells slots mc ms G b ls Q C hP hS hb hc hs hR hl HR => lv_if_lt C.1 C.2.1 hd2 ht (fun q => kt (lB_lt.mp (lgc_lt.mp q)) p l e R s m args below meth c H locs cells slots mc ms G b ls Q C hP hS hb hc hs hR hl HR) (fun q => kf (fun z => q (lgc_lt.mpr (lB_lt.mpr z))) p l e R s m args below meth c H locs cells slots mc ms G b ls Q C hP hS hb hc hs hR hl HR))
theorem w_ldc2B {Y : MT} {pc : Nat} {lv st : List Value} {h : HP} {rc rs : Nat} {Φ : Option Value → HP → Prop} {idx : Nat} {v : Int64} (x : BitVec 64) (hw : Cond.constantLong Y.1.cls idx v ∈ gw) (hx : v = lB x) (hd : decode Y.2.1 pc = .ok (.ldc2_w idx, 3)) (k : wp Y (pc + 3) lv (.long (lB x) :: st) h rc rs Φ) : wp Y pc lv st h rc rs Φ := by subst hx; exact w_ldc2 hw hd k
theorem w_i2l {Y : MT} {pc : Nat} {lv st : List Value} {h : HP} {rc rs : Nat} {Φ : Option Value → HP → Prop} {z : Int} (ho : ok32 z) (hd : decode Y.2.1 pc = .ok (.i2l, 1)) (k : wp Y (pc + 1) lv (.long (lB (BitVec.ofInt 64 z)) :: st) h rc rs Φ) : wp Y pc lv (.int (zI z) :: st) h rc rs Φ := w_i2lR hd (by rw [zI_64 ho]; exact k)
theorem lB_32 (x : BitVec 64) : (lB x).toInt32 = zI x.toInt := rfl
theorem w_l2i {Y : MT} {pc : Nat} {lv st : List Value} {h : HP} {rc rs : Nat} {Φ : Option Value → HP → Prop} {x : BitVec 64} (hd : decode Y.2.1 pc = .ok (.l2i, 1)) (k : wp Y (pc + 1) lv (.int (zI x.toInt) :: st) h rc rs Φ) : wp Y pc lv (.long (lB x) :: st) h rc rs Φ := w_l2iR hd (by rw [lB_32]; exact k)
theorem x_iret {Y : MT} {pc : Nat} {lv : List Value} {h : HP} {rc rs : Nat} {Φ : Option Value → HP → Prop} {x : Int32} {ty : FieldType} (hr : Y.2.2.2.1 = some ty) (hn : narrow ty (.int x) = .int x) (hd : decode Y.2.1 pc = .ok (.ireturn, 1)) (k : Φ (some (.int x)) h) : wp Y pc lv [.int x] h rc rs Φ := w_iret (st := []) hr hn hd k
theorem x_lret {Y : MT} {pc : Nat} {lv : List Value} {h : HP} {rc rs : Nat} {Φ : Option Value → HP → Prop} {x : Int64} (hr : Y.2.2.2.1 = some .long) (hd : decode Y.2.1 pc = .ok (.lreturn, 1)) (k : Φ (some (.long x)) h) : wp Y pc lv [.long x] h rc rs Φ := w_lret (st := []) hr hd k
theorem x_vret {Y : MT} {pc : Nat} {lv : List Value} {h : HP} {rc rs : Nat} {Φ : Option Value → HP → Prop} (hr : Y.2.2.2.1 = none) (hd : decode Y.2.1 pc = .ok (.return_, 1)) (k : Φ none h) : wp Y pc lv [] h rc rs Φ := w_vret (st := []) hr hd k
theorem x_aret {Y : MT} {pc : Nat} {lv : List Value} {h : HP} {rc rs : Nat} {Φ : Option Value → HP → Prop} {x : Nat} {rt : FieldType} (hr : Y.2.2.2.1 = some rt) (hrt : (∃ n, rt = .object n) ∨ ∃ t, rt = .array t) (hd : decode Y.2.1 pc = .ok (.areturn, 1)) (k : Φ (some (.ref x)) h) : wp Y pc lv [.ref x] h rc rs Φ := w_aret (st := []) hr hrt hd k
theorem x_aretN {Y : MT} {pc : Nat} {lv : List Value} {h : HP} {rc rs : Nat} {Φ : Option Value → HP → Prop} {rt : FieldType} (hr : Y.2.2.2.1 = some rt) (hrt : (∃ n, rt = .object n) ∨ ∃ t, rt = .array t) (hd : decode Y.2.1 pc = .ok (.areturn, 1)) (k : Φ (some .null) h) : wp Y pc lv [.null] h rc rs Φ := w_aretN (st := []) hr hrt hd k
/-- truth as a number -/
def bI (p : Prop) [Decidable p] : Int := if p then 1 else 0
theorem bI_t {p : Prop} [Decidable p] (h : p) : bI p = 1 := if_pos h
theorem bI_f {p : Prop} [Decidable p] (h : ¬ p) : bI p = 0 := if_neg h
theorem bI_ok (p : Prop) [Decidable p] : ok32 (bI p) := by unfold bI; split <;> exact ⟨by decide, by decide⟩
theorem bI_nar (p : Prop) [Decidable p] : narrow .boolean (.int (zI (bI p))) = .int (zI (bI p)) := by unfold bI; split <;> rfl
theorem w_ifb_eq {Y : MT} {pc : Nat} {lv st : List Value} {h : HP} {rc rs : Nat} {Φ : Option Value → HP → Prop} {p0 : Prop} [Decidable p0] {off : Int} (tgt : Nat) (hd : decode Y.2.1 pc = .ok (.ifCond .eq off, 3)) (ht : (pc : Int) + off = (tgt : Int)) (kt : ¬ p0 → wp Y tgt lv st h rc rs Φ) (kf : p0 → wp Y (pc + 3) lv st h rc rs Φ) : wp Y pc lv (.int (zI (bI p0)) :: st) h rc rs Φ :=
  w_if_eq tgt hd ht (bI_ok p0) (fun q => kt (fun z => by rw [bI_t z] at q; exact absurd q (by decide))) (fun q => kf (Classical.byContradiction fun z => q (bI_f z)))
theorem w_ifb_ne {Y : MT} {pc : Nat} {lv st : List Value} {h : HP} {rc rs : Nat} {Φ : Option Value → HP → Prop} {p0 : Prop} [Decidable p0] {off : Int} (tgt : Nat) (hd : decode Y.2.1 pc = .ok (.ifCond .ne off, 3)) (ht : (pc : Int) + off = (tgt : Int)) (kt : p0 → wp Y tgt lv st h rc rs Φ) (kf : ¬ p0 → wp Y (pc + 3) lv st h rc rs Φ) : wp Y pc lv (.int (zI (bI p0)) :: st) h rc rs Φ :=
  w_if_ne tgt hd ht (bI_ok p0) (fun q => kt (Classical.byContradiction fun z => q (bI_f z))) (fun q => kf (fun z => by rw [bI_t z] at q; exact absurd q (by decide)))
