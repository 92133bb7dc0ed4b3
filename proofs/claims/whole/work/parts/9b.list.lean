/-! the census: a set is listed -/
def gcp (c : Nat) : Nat → Nat
  | 0 => c
  | n + 1 => if n < gcp c n then gcp c n else 2 * n + 1
theorem gcp_ge {c : Nat} : ∀ {n : Nat}, n ≤ gcp c n
  | 0 => Nat.zero_le _
  | n + 1 => by
    show n + 1 ≤ if n < gcp c n then gcp c n else 2 * n + 1
    split <;> omega
theorem gcp_s {c n : Nat} : gcp c n ≤ gcp c (n + 1) := by
  show gcp c n ≤ if n < gcp c n then gcp c n else 2 * n + 1
  split <;> omega
theorem gcp_m {c n : Nat} : ∀ {d : Nat}, gcp c n ≤ gcp c (n + d)
  | 0 => Nat.le_refl _
  | d + 1 => Nat.le_trans (gcp_m (d := d)) gcp_s
theorem gcp_le {c : Nat} : ∀ {n : Nat}, gcp c n ≤ c + 2 * n
  | 0 => Nat.le_refl _
  | n + 1 => by
    have := gcp_le (c := c) (n := n)
    show (if n < gcp c n then gcp c n else 2 * n + 1) ≤ _
    split <;> omega
theorem gcp_max {c m : Nat} (hc : c ≤ m) : ∀ {n : Nat}, 2 * n ≤ m + 1 → gcp c n ≤ m
  | 0, _ => hc
  | n + 1, h => by
    have := gcp_max (n := n) hc (by omega)
    show (if n < gcp c n then gcp c n else 2 * n + 1) ≤ _
    split <;> omega
def LSP (a K : Nat) (h : HP) (A : Nat → Option Nat) (la cap : Nat) (g : Nat → BitVec 64) : Prop := h.2 (a + 2) = some (aR 4 5 A) ∧ A K = some la ∧ h.2 la = some (aL cap g) ∧ outC a la
def LGO (a K : Nat) (h h1 : HP) (A A1 : Nat → Option Nat) (la la1 : Nat) : Prop := h.1 ≤ h1.1 ∧ (la1 = la ∨ (h.1 ≤ la1 ∧ la1 < h1.1)) ∧ (∀ k, k ≠ K → A1 k = A k) ∧ ∀ x, x < h.1 → x ≠ a + 2 → x ≠ la → h1.2 x = h.2 x
theorem LGO.refl {a K : Nat} {h : HP} {A : Nat → Option Nat} {la : Nat} : LGO a K h h A A la la := ⟨Nat.le_refl _, Or.inl rfl, fun _ _ => rfl, fun _ _ _ _ => rfl⟩
theorem LGO.trans {a K : Nat} {h h1 h2 : HP} {A A1 A2 : Nat → Option Nat} {la la1 la2 : Nat} (P : LGO a K h h1 A A1 la la1) (Q : LGO a K h1 h2 A1 A2 la1 la2) : LGO a K h h2 A A2 la la2 := by
  obtain ⟨p1, p2, p3, p4⟩ := P
  obtain ⟨q1, q2, q3, q4⟩ := Q
  refine ⟨by omega, by omega, fun k hk => (q3 k hk).trans (p3 k hk), fun x hx h2 h3 => (q4 x (by omega) h2 (by omega)).trans (p4 x hx h2 h3)⟩
theorem CU_in {a : Nat} {ba : Nat → Nat → Int} {bi : Nat → Int} {bf : Nat → Nat} {h0 : HP} {x n : Nat} {e : CE} (hx : outC a x) : ((n, up (CUH a ba bi bf h0).2 x e) : HP) = CUH a ba bi bf (n, up h0.2 x e) := by
  refine Prod.ext rfl (funext fun y => ?_)
  show (if y = x then some e else if y = a ∨ (a + 8 ≤ y ∧ y ≤ a + 11) then some (cucell a ba bi bf (y - a)) else h0.2 y) = (if y = a ∨ (a + 8 ≤ y ∧ y ≤ a + 11) then some (cucell a ba bi bf (y - a)) else if y = x then some e else h0.2 y)
  unfold outC at hx
  by_cases h1 : y = x
  · rw [if_pos h1, if_neg (by rw [h1]; exact hx), if_pos h1]
  · rw [if_neg h1]
    by_cases h2 : y = a ∨ (a + 8 ≤ y ∧ y ≤ a + 11)
    · rw [if_pos h2, if_pos h2]
    · rw [if_neg h2, if_neg h2, if_neg h1]
def LDN (a K s cap1 : Nat) (h h1 : HP) (A : Nat → Option Nat) (la : Nat) (g : Nat → BitVec 64) (q : BitVec 64) : Prop := ∃ (A1 : Nat → Option Nat) (la1 : Nat) (g1 : Nat → BitVec 64), LSP a K h1 A1 la1 cap1 g1 ∧ LGO a K h h1 A A1 la la1 ∧ (∀ i, i < s → g1 i = g i) ∧ g1 s = q
set_option maxRecDepth 8000 in
theorem c1_list {a : Nat} {ba : Nat → Nat → Int} {bi : Nat → Int} {bf : Nat → Nat} {h0 : HP} {A : Nat → Option Nat} {K s la cap : Nat} {g : Nat → BitVec 64} {p : Nat → Nat} (hL : LSP a K h0 A la cap g) (ha : a + 11 < h0.1) (hla : la < h0.1) (hK : K ≤ 4) (h8 : bi 8 = (K : Int)) (hs : ba 8 K = (s : Int)) (hsc : s ≤ cap) (hsm : s ≤ 400000) (hcm : cap ≤ 1000000) (hp : ∀ i, i < K → ba 9 i = (p i : Int) ∧ p i < 64) : sp mX1_list [.ref a] (CUH a ba bi bf h0) ((if s < cap then cap else 2 * s + 1) - cap) (2 * ((if s < cap then cap else 2 * s + 1) - cap)) (px none (fun h1 : HP => LDN a K s (if s < cap then cap else 2 * s + 1) h0 h1 A la g (pks p K)) (fun h1 => CUH a (u1 ba 8 (u1 (ba 8) K ((s + 1 : Nat) : Int))) bi bf h1)) := by
  obtain ⟨l1, l2, l3, l4⟩ := id hL
  have e2 : outC a (a + 2) := by unfold outC; omega
  have nla : la ≠ a + 2 := fun e => by rw [e, l1] at l3; cases l3
  have ok_s : ok32 (s : Int) := ⟨by omega, by omega⟩
  have ok_c : ok32 (cap : Int) := ⟨by omega, by omega⟩
  have rest : ∀ (h1 : HP) (A1 : Nat → Option Nat) (la1 : Nat) (g1 : Nat → BitVec 64) (rc rs : Nat) (x2 x3 x4 : Value), LSP a K h1 A1 la1 (if s < cap then cap else 2 * s + 1) g1 → LGO a K h0 h1 A A1 la la1 → (∀ i, i < s → g1 i = g i) → wp mX1_list 50 [.ref a, .int (zI (s : Int)), x2, x3, x4] [] (CUH a ba bi bf h1) rc rs (px none (fun h1 : HP => LDN a K s (if s < cap then cap else 2 * s + 1) h0 h1 A la g (pks p K)) (fun h1 => CUH a (u1 ba 8 (u1 (ba 8) K ((s + 1 : Nat) : Int))) bi bf h1)) := by
    intro h1 A1 la1 g1 rc rs x2 x3 x4 q1 q2 q3
    have hcp : s < (if s < cap then cap else 2 * s + 1) := by split <;> omega
    have hcl : (if s < cap then cap else 2 * s + 1) ≤ 2147483648 := by split <;> omega
    obtain ⟨cp, hcpe⟩ : ∃ cp, (if s < cap then cap else 2 * s + 1) = cp := ⟨_, rfl⟩
    rw [hcpe] at q1 hcp hcl ⊢
    obtain ⟨m1, m2, m3, m4⟩ := id q1
    have nl1 : la1 ≠ a + 2 := fun e => by rw [e, m1] at m3; cases m3
    have fin : wp mX1_list 82 [.ref a, .int (zI (s : Int)), .long (lB (pks p K)), jk, .int (zI (K : Int))] [] (CUH a ba bi bf h1) rc rs (px none (fun h1 : HP => LDN a K s cp h0 h1 A la g (pks p K)) (fun h1 => CUH a (u1 ba 8 (u1 (ba 8) K ((s + 1 : Nat) : Int))) bi bf h1)) := by
      refine w_aload_n dX1_list_82 rfl rfl ?_
      refine w_getf fX1_19 dX1_list_83 CU0 rfl ?_
      refine w_aload_n dX1_list_86 rfl rfl ?_
      refine w_getf fX1_46 dX1_list_87 CU0 rfl ?_
      rw [h8]
      refine w_aald K (Or.inr (Or.inr rfl)) (CUo e2 m1) rfl (by omega) (by decide) dX1_list_90 ?_
      rw [m2]
      refine w_iload_n dX1_list_91 rfl rfl ?_
      refine w_lload_n dX1_list_92 rfl rfl ?_
      refine w_last s (CUo m4 m3) rfl hcp hcl dX1_list_93 ?_
      refine w_cast rfl rfl (CU_in m4) ?_
      refine w_aload_n dX1_list_94 rfl rfl ?_
      refine w_getf fX1_22 dX1_list_95 CU0 rfl ?_
      refine w_aload_n dX1_list_98 rfl rfl ?_
      refine w_getf fX1_46 dX1_list_99 CU0 rfl ?_
      rw [h8]
      refine w_dup2 dX1_list_102 rfl rfl ?_
      refine w_iald K CU8 rfl (by omega) (by decide) dX1_list_103 ?_
      rw [hs]
      refine w_iconst dX1_list_104 ?_
      refine w_iadd dX1_list_105 ?_
      refine cu_ist8 K rfl (by omega) dX1_list_106 ?_
      refine x_vret rfl dX1_list_107 ⟨rfl, (h1.1, up h1.2 la1 (aL cp (u1 g1 s (pks p K)))), ⟨A1, la1, u1 g1 s (pks p K), ⟨(up_n nl1.symm).trans m1, m2, up_s, m4⟩, ⟨q2.1, q2.2.1, q2.2.2.1, fun x hx hx2 hx3 => ?_⟩, fun i hi => ?_, u1_s⟩, rfl⟩
      · have := q2.2.1
        exact (up_n (show x ≠ la1 by omega)).trans (q2.2.2.2 x hx hx2 hx3)
      · rw [u1_n (by omega)]; exact q3 i hi
    refine w_lconst0 dX1_list_50 ?_
    refine w_lstore_n (lv' := [_, _, _, _, _]) dX1_list_51 rfl (Nat.le_of_ble_eq_true rfl) rfl rfl ?_
    refine w_iconst dX1_list_52 ?_
    refine w_istore (lv' := [_, _, _, _, _]) dX1_list_53 (Nat.le_of_ble_eq_true rfl) rfl rfl ?_
    refine up_ind (N := K) (P := fun i => wp mX1_list 55 [.ref a, .int (zI (s : Int)), .long (lB (pks p i)), jk, .int (zI (i : Int))] [] (CUH a ba bi bf h1) rc rs (px none (fun h1 : HP => LDN a K s cp h0 h1 A la g (pks p K)) (fun h1 => CUH a (u1 ba 8 (u1 (ba 8) K ((s + 1 : Nat) : Int))) bi bf h1))) (fun i hi ih => ?_) 0 (Nat.zero_le _)
    refine w_iload dX1_list_55 rfl ?_
    refine w_aload_n dX1_list_57 rfl rfl ?_
    refine w_getf fX1_46 dX1_list_58 CU0 rfl ?_
    rw [h8]
    refine w_icmp_ge 82 dX1_list_61 (by decide) (by first | assumption | (unfold ok32 at *; omega)) (by first | assumption | (unfold ok32 at *; omega)) (fun hn => ?_) (fun hn => ?_)
    · have : i = K := by omega
      subst this
      exact fin
    · refine w_lload_n dX1_list_64 rfl rfl ?_
      refine w_lconst1 dX1_list_65 ?_
      refine w_aload_n dX1_list_66 rfl rfl ?_
      refine w_getf fX1_26 dX1_list_67 CU0 rfl ?_
      refine w_iload dX1_list_70 rfl ?_
      refine w_iald i CU9 rfl (by omega) (by decide) dX1_list_72 ?_
      rw [(hp i (by omega)).1]
      refine w_lshl _ rfl (hp i (by omega)).2 dX1_list_73 ?_
      refine w_lor dX1_list_74 ?_
      refine w_lstore_n (lv' := [_, _, _, _, _]) dX1_list_75 rfl (Nat.le_of_ble_eq_true rfl) rfl rfl ?_
      refine w_iinc (lv' := [_, _, _, _, _]) dX1_list_76 rfl rfl rfl ?_
      refine w_goto 55 dX1_list_79 (by decide) ?_
      exact ih (by omega)
  refine sp_wp rfl (lv := [_, _, _, _, _]) rfl (Nat.le_of_ble_eq_true rfl) ?_
  refine w_aload_n dX1_list_0 rfl rfl ?_
  refine w_getf fX1_22 dX1_list_1 CU0 rfl ?_
  refine w_aload_n dX1_list_4 rfl rfl ?_
  refine w_getf fX1_46 dX1_list_5 CU0 rfl ?_
  rw [h8]
  refine w_iald K CU8 rfl (by omega) (by decide) dX1_list_8 ?_
  rw [hs]
  refine w_istore_n (lv' := [_, _, _, _, _]) dX1_list_9 rfl (Nat.le_of_ble_eq_true rfl) rfl rfl ?_
  refine w_iload_n dX1_list_10 rfl rfl ?_
  refine w_aload_n dX1_list_11 rfl rfl ?_
  refine w_getf fX1_19 dX1_list_12 CU0 rfl ?_
  refine w_aload_n dX1_list_15 rfl rfl ?_
  refine w_getf fX1_46 dX1_list_16 CU0 rfl ?_
  rw [h8]
  refine w_aald K (Or.inr (Or.inr rfl)) (CUo e2 l1) rfl (by omega) (by decide) dX1_list_19 ?_
  rw [l2]
  refine w_alen (by decide) (CUo l4 l3) dX1_list_20 ?_
  refine w_icmp_lt 50 dX1_list_21 (by decide) ok_s ok_c (fun hc => ?_) (fun hc => ?_)
  · replace hc : (s : Int) < (cap : Int) := hc
    exact rest h0 A la g _ _ _ _ _ (by rw [if_pos (by omega)]; exact hL) LGO.refl (fun _ _ => rfl)
  · replace hc : ¬ (s : Int) < (cap : Int) := hc
    have hn : ¬ s < cap := by omega
    rw [if_neg hn]
    rw [if_neg hn] at rest
    refine w_aload_n dX1_list_24 rfl rfl ?_
    refine w_getf fX1_19 dX1_list_25 CU0 rfl ?_
    refine w_aload_n dX1_list_28 rfl rfl ?_
    refine w_getf fX1_46 dX1_list_29 CU0 rfl ?_
    refine w_aload_n dX1_list_32 rfl rfl ?_
    refine w_getf fX1_19 dX1_list_33 CU0 rfl ?_
    refine w_aload_n dX1_list_36 rfl rfl ?_
    refine w_getf fX1_46 dX1_list_37 CU0 rfl ?_
    rw [h8]
    refine w_aald K (Or.inr (Or.inr rfl)) (CUo e2 l1) rfl (by omega) (by decide) dX1_list_40 ?_
    rw [l2]
    refine w_iconst dX1_list_41 ?_
    refine w_iload_n dX1_list_42 rfl rfl ?_
    refine w_imul dX1_list_43 ?_
    refine w_iconst dX1_list_44 ?_
    refine w_iadd dX1_list_45 ?_
    refine w_callS (Z := mJ7_copyOf_c38d5) (As := [_, _]) (c7_copyOfL (m0 := 2 * s + 1) (h := CUH a ba bi bf h0) (CUo l4 l3) (by omega) (by omega) (show la ≠ h0.1 by omega)) kJ7_copyOf_c38d5 lX1_108 sJ7_copyOf_c38d5 dX1_list_46 (by push_cast; rfl) rfl rfl (Nat.le_of_ble_eq_true rfl) ⟨Nat.le_of_ble_eq_true rfl, Nat.le_of_ble_eq_true rfl⟩ (by omega) (by omega) (fun v h' q => ?_)
    obtain ⟨rfl, rfl⟩ := q
    have on : outC a h0.1 := by unfold outC; omega
    refine w_cast rfl rfl (CU_in on) ?_
    refine w_aast4 K (CUo e2 ((up_n (show a + 2 ≠ h0.1 by omega)).trans l1)) (CUo on up_s) rfl (by omega) (by decide) dX1_list_49 ?_
    refine w_cast rfl rfl (CU_in e2) ?_
    refine rest _ (u1 A K (some h0.1)) h0.1 (cpyG g (fun _ => 0) cap) _ _ _ _ _ ⟨up_s, u1_s, (up_n (show h0.1 ≠ a + 2 by omega)).trans up_s, on⟩ ⟨Nat.le_succ _, Or.inr ⟨Nat.le_refl _, Nat.lt_succ_self _⟩, fun k hk => u1_n hk, fun x hx hx2 hx3 => ?_⟩ (fun i hi => ?_)
    · exact (up_n hx2).trans (up_n (show x ≠ h0.1 by omega))
    · exact if_pos (by omega)

