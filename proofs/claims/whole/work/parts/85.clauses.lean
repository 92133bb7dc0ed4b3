/-! the class's reader: all clauses -/
def RLP (bi : Nat → Int) (x : Nat) (Z : RD) (q : (Nat → Int) × (Nat → Int)) : Prop := q.2 2 = Z.1 ∧ (¬ Z.1 = 0 → q.2 3 = (Z.2.2.1.2.1 : Int)) ∧ (Z.1 = 0 → RSX q.2 q.1 Z.2.1 x ∧ CLI q.2 Z.2.1 x Z.2.2.2.2.1 Z.2.2.2.2.2 ∧ 1 ≤ Z.2.1 (x + 1)) ∧ q.2 1 = bi 1 ∧ (Z.1 = 0 → q.2 3 = bi 3)
theorem RSX.same {bi bj sh X : Nat → Int} {x : Nat} (h : RSX bi sh X x) (h8 : bj 8 = bi 8) (h9 : bj 9 = bi 9) (h10 : bj 10 = bi 10) : RSX bj sh X x := RSX.u h (h8.trans h.1) h9 h10 (fun _ _ _ _ => rfl)
theorem CLI.same {bi bj X : Nat → Int} {x : Nat} {o s : Int} (h : CLI bi X x o s) (h11 : bj 11 = bi 11) (h12 : bj 12 = bi 12) : CLI bj X x o s := by
  unfold CLI at *
  rw [h11, h12]
  exact h
set_option maxRecDepth 8000 in
theorem c7_readClauses {a : Nat} {ba : Nat → Nat → Int} {bi : Nat → Int} {h0 : HP} {n t : Nat} {X : Nat → Int} (ht : t < 4) (h1 : bi 1 = (n : Int)) (hn : n ≤ 300) (h4 : bi 4 = 0) (hT : TB (ba 1)) (h2 : bi 2 = 0) (hX : RSX bi (ba 2) X (37 * t)) (hP : PXI X t) (h10 : 0 ≤ bi 10 ∧ bi 10 ≤ 8) (hC : CLI bi X (37 * t) 0 0) : sp mX7_readClauses [.ref a] (RDH a ba bi h0) 0 0 (px none (fun q : (Nat → Int) × (Nat → Int) => RLP bi (37 * t) (rdL (ba 1) n (37 * t) 302 0 X (nt (ba 1) n 0) 0 0) q) (fun q => RDH a (u1 ba 2 q.1) q.2 h0)) := by
  refine sp_wp rfl (lv := [_, _]) rfl (Nat.le_of_ble_eq_true rfl) ?_
  have lp : ∀ (f cl p : Nat) (X sh bj : Nat → Int) (o s : Int), f + cl = 302 → cl ≤ p → p ≤ n → bj 1 = bi 1 → bj 3 = bi 3 → bj 2 = 0 → bj 4 = (p : Int) → RSX bj sh X (37 * t) → PXI X t → (0 ≤ bj 10 ∧ bj 10 ≤ 8) → CLI bj X (37 * t) o s → wp mX7_readClauses 2 [.ref a, .int (zI (cl : Int))] [] (RDH a (u1 ba 2 sh) bj h0) 0 0 (px none (fun q : (Nat → Int) × (Nat → Int) => RLP bi (37 * t) (rdL (ba 1) n (37 * t) f cl X (nt (ba 1) n p) o s) q) (fun q => RDH a (u1 ba 2 q.1) q.2 h0)) := by
    intro f
    induction f with
    | zero => intro cl p X sh bj o s hf hcp hp; omega
    | succ f ih =>
      intro cl p X sh bj o s hf hcp hp b1 b3 b2 b4 bX bP b10 bC
      obtain ⟨g1, g2, g3, g4, g5⟩ := nt_rng (n := n) (a := p) hT hp
      have gl := (nt_lxi (n := n) (a := p) hT hp).1
      have ga := nt_adv (n := n) (a := p) hT hp
      unfold rdL
      refine w_iload_n dX7_readClauses_2 rfl rfl ?_
      refine w_sipush dX7_readClauses_3 (by decide) ?_
      refine w_icmp_gt 64 dX7_readClauses_6 (by decide) (by first | assumption | (unfold ok32 at *; omega)) (by first | assumption | (unfold ok32 at *; omega)) (fun hc => ?_) (fun hc => ?_)
      · omega
      · refine w_aload_n dX7_readClauses_9 rfl rfl ?_
        refine wx_Vv (Z := mX7_readToken) (As := []) (c7_readToken (ba := u1 ba 2 sh) (b1.trans h1) hn b4 hp hT) RD0 rfl kX7_readToken lX7_59 iX7_readToken vX7_readToken dX7_readClauses_10 rfl rfl rfl (Nat.le_of_ble_eq_true rfl) ⟨Nat.le_of_ble_eq_true rfl, Nat.le_of_ble_eq_true rfl⟩ (fun bk tk => ?_)
        replace tk : TKP (ba 1) n bj bk (nt (ba 1) n p) := tk
        obtain ⟨y, hy⟩ : ∃ y, nt (ba 1) n p = y := ⟨_, rfl⟩
        rw [hy] at tk g1 g2 g3 g4 g5 gl ga ⊢
        obtain ⟨d0, d1, d2, d3, d4, d5⟩ := tk.2.2.1.is
        have ko : ∀ j, j ≠ 4 → j ≠ 5 → j ≠ 6 → j ≠ 7 → bk j = bj j := tk.2.2.2
        have k2 : bk 2 = 0 := (ko 2 (by omega) (by omega) (by omega) (by omega)).trans b2
        have k1 : bk 1 = bi 1 := (ko 1 (by omega) (by omega) (by omega) (by omega)).trans b1
        have k3 : bk 3 = bi 3 := (ko 3 (by omega) (by omega) (by omega) (by omega)).trans b3
        have k9 : bk 9 = X (37 * t + 1) := (ko 9 (by omega) (by omega) (by omega) (by omega)).trans bX.2.1
        have k10 : bk 10 = bj 10 := ko 10 (by omega) (by omega) (by omega) (by omega)
        have kX : RSX bk sh X (37 * t) := bX.same (ko 8 (by omega) (by omega) (by omega) (by omega)) (ko 9 (by omega) (by omega) (by omega) (by omega)) k10
        have kC : CLI bk X (37 * t) o s := bC.same (ko 11 (by omega) (by omega) (by omega) (by omega)) (ko 12 (by omega) (by omega) (by omega) (by omega))
        have hos : (0 ≤ o ∧ o ≤ 1) ∧ 0 ≤ s ∧ s ≤ 1 := by obtain ⟨c1, c2⟩ := bC; omega
        have x1 := bP.2.2.1
        have o5 : ok32 (bk 5) := by unfold ok32; omega
        have o2 : ok32 (bk 2) := by rw [k2]; unfold ok32; omega
        have o9 : ok32 (bk 9) := by rw [k9]; unfold ok32; omega
        refine w_aload_n dX7_readClauses_13 rfl rfl ?_
        refine w_getf fX7_62 dX7_readClauses_14 RD0 rfl ?_
        refine w_if_ne 37 dX7_readClauses_17 (by decide) (by first | assumption | (unfold ok32 at *; omega)) (fun hk => ?_) (fun hk => ?_)
        · have hy0 : ¬ y.2.2.1 = 0 := fun z => hk (d1.2 z)
          rw [if_neg hy0]
          have hok := clS_ok (T := ba 1) (cl := cl) (o := o) (s := s) hT ht bP gl hos.1 hos.2
          have cont : ∀ fb : Int, (fb = 1 ∧ cl = 0 ∨ fb = 0 ∧ 0 < cl) → wp mX7_readClauses 47 [.ref a, .int (zI (cl : Int))] [.int (zI fb), .ref a] (RDH a (u1 ba 2 sh) bk h0) 0 0 (px none (fun q : (Nat → Int) × (Nat → Int) => RLP bi (37 * t) (if ¬ (clS (ba 1) n (37 * t) cl X y o s).1.1 = 0 then ((clS (ba 1) n (37 * t) cl X y o s).1.1, (clS (ba 1) n (37 * t) cl X y o s).1.2.1, (clS (ba 1) n (37 * t) cl X y o s).1.2.2, cl, (clS (ba 1) n (37 * t) cl X y o s).2.1, (clS (ba 1) n (37 * t) cl X y o s).2.2) else rdL (ba 1) n (37 * t) f (cl + 1) (clS (ba 1) n (37 * t) cl X y o s).1.2.1 (nt (ba 1) n (clS (ba 1) n (37 * t) cl X y o s).1.2.2.1) (clS (ba 1) n (37 * t) cl X y o s).2.1 (clS (ba 1) n (37 * t) cl X y o s).2.2) q) (fun q => RDH a (u1 ba 2 q.1) q.2 h0)) := by
            intro fb hfb
            refine wx_Vv (Z := mX7_readClause) (As := [_]) (c7_readClause (ba := u1 ba 2 sh) (t := t) (cl := cl) (X := X) (y := y) (o := o) (s := s) ht (k1.trans h1) hn tk.1 g2 g3 tk.2.1 hT tk.2.2.1 k2 kX bP (by rw [k10]; exact b10) kC hfb) RD0 rfl kX7_readClause lX7_69 iX7_readClause vX7_readClause dX7_readClauses_47 rfl rfl rfl (Nat.le_of_ble_eq_true rfl) ⟨Nat.le_of_ble_eq_true rfl, Nat.le_of_ble_eq_true rfl⟩ (fun q hq => ?_)
            replace hq : RCP bk (37 * t) (clS (ba 1) n (37 * t) cl X y o s) q := hq
            rw [u1_u1]
            obtain ⟨Z, hZ⟩ : ∃ Z, clS (ba 1) n (37 * t) cl X y o s = Z := ⟨_, rfl⟩
            rw [hZ] at hq hok ⊢
            obtain ⟨⟨z1, z2, z3, z4, z5, z6, z7⟩, z8⟩ := hok
            have oq : ok32 (q.2 2) := by rw [hq.1]; unfold ok32; omega
            have q1 : q.2 1 = bi 1 := hq.2.2.2.1.trans k1
            refine w_aload_n dX7_readClauses_50 rfl rfl ?_
            refine w_getf fX7_15 dX7_readClauses_51 RD0 rfl ?_
            refine w_if_eq 58 dX7_readClauses_54 (by decide) (by first | assumption | (unfold ok32 at *; omega)) (fun hfl => ?_) (fun hfl => ?_)
            · have he : Z.1.1 = 0 := hq.1.symm.trans hfl
              obtain ⟨e1, e2, e3, e4⟩ := hq.2.2.1 he
              rw [if_neg (fun z => z he)]
              refine w_iinc (lv' := [_, _]) dX7_readClauses_58 rfl rfl rfl ?_
              refine w_goto 2 dX7_readClauses_61 (by decide) ?_
              have := ih (cl + 1) Z.1.2.2.1 Z.1.2.1 q.1 q.2 Z.2.1 Z.2.2 (by omega) (by have := ga hy0; omega) z3.1 q1 ((hq.2.2.2.2 he).trans k3) hfl e3 e1 z1 e4 e2
              push_cast at this
              exact this
            · have he : ¬ Z.1.1 = 0 := fun z => hfl (hq.1.trans z)
              rw [if_pos he]
              exact x_vret rfl dX7_readClauses_57 ⟨rfl, q, ⟨hq.1, hq.2.1, fun z => absurd z he, q1, fun z => absurd z he⟩, rfl⟩
          refine w_aload_n dX7_readClauses_37 rfl rfl ?_
          refine w_iload_n dX7_readClauses_38 rfl rfl ?_
          refine w_if_ne 46 dX7_readClauses_39 (by decide) (by first | assumption | (unfold ok32 at *; omega)) (fun hcl => ?_) (fun hcl => ?_)
          · refine w_iconst dX7_readClauses_46 ?_
            exact cont 0 (Or.inr ⟨rfl, by omega⟩)
          · refine w_iconst dX7_readClauses_42 ?_
            refine w_goto 47 dX7_readClauses_43 (by decide) ?_
            exact cont 1 (Or.inl ⟨rfl, by omega⟩)
        · have hy0 : y.2.2.1 = 0 := d1.1 hk
          rw [if_pos hy0]
          have ende : ∀ v : Int, v = (if X (37 * t + 1) = 0 then 1 else 0) → ok32 v → wp mX7_readClauses 33 [.ref a, .int (zI (cl : Int))] [.int (zI v), .ref a] (RDH a (u1 ba 2 sh) bk h0) 0 0 (px none (fun q : (Nat → Int) × (Nat → Int) => RLP bi (37 * t) (if X (37 * t + 1) = 0 then 1 else 0, X, y, cl, o, s) q) (fun q => RDH a (u1 ba 2 q.1) q.2 h0)) := by
            intro v hv hov
            rw [← hv]
            refine wc_Vv (Z := mX7_refuse) (As := [_]) (c7_refuse hov o2) RD0 rfl kX7_refuse lX7_65 iX7_refuse vX7_refuse dX7_readClauses_33 rfl rfl rfl (Nat.le_of_ble_eq_true rfl) ⟨Nat.le_of_ble_eq_true rfl, Nat.le_of_ble_eq_true rfl⟩ ?_
            refine x_vret rfl dX7_readClauses_36 ⟨rfl, (sh, rfF v bk), ⟨rfF_2 k2, fun z => (rfF_3 k2 z).trans tk.2.1, fun z => ⟨kX.same (rfF_n (by omega) (by omega)) (rfF_n (by omega) (by omega)) (rfF_n (by omega) (by omega)), kC.same (rfF_n (by omega) (by omega)) (rfF_n (by omega) (by omega)), ?_⟩, (rfF_n (by omega) (by omega)).trans k1, fun z => ?_⟩, rfl⟩
            rotate_left
            · replace z : v = 0 := z
              show rfF v bk 3 = bi 3
              unfold rfF
              rw [if_neg (fun w => w.2 z)]
              exact k3
            replace z : v = 0 := z
            show 1 ≤ X (37 * t + 1)
            by_cases hx0 : X (37 * t + 1) = 0
            · rw [if_pos hx0] at hv; omega
            · omega
          refine w_aload_n dX7_readClauses_20 rfl rfl ?_
          refine w_aload_n dX7_readClauses_21 rfl rfl ?_
          refine w_getf fX7_34 dX7_readClauses_22 RD0 rfl ?_
          rw [k9]
          refine w_if_ne 32 dX7_readClauses_25 (by decide) (by first | assumption | (unfold ok32 at *; omega)) (fun hr => ?_) (fun hr => ?_)
          · refine w_iconst dX7_readClauses_32 ?_
            exact ende 0 (by rw [if_neg hr]) (by unfold ok32; omega)
          · refine w_iconst dX7_readClauses_28 ?_
            refine w_goto 33 dX7_readClauses_29 (by decide) ?_
            exact ende 1 (by rw [if_pos hr]) (by unfold ok32; omega)
  refine w_iconst dX7_readClauses_0 ?_
  refine w_istore_n (lv' := [_, _]) dX7_readClauses_1 rfl (Nat.le_of_ble_eq_true rfl) rfl rfl ?_
  refine w_cast rfl rfl ?_ (lp 302 0 0 X (ba 2) bi 0 0 (by omega) (by omega) (by omega) rfl rfl h2 h4 hX hP h10 hC)
  rw [u1_id]

