/-! the class's reader: what is taken, refused, and numbers -/
theorem c7_take {a : Nat} {ba : Nat → Nat → Int} {bi : Nat → Int} {h0 : HP} {n : Nat} {v : Int} (h1 : bi 1 = (n : Int)) (hn : n + 4 ≤ 300) : sp mX7_take [.ref a, .int (zI v)] (RDH a ba bi h0) 0 0 (pd none (RDH a (u1 ba 1 (fourT (ba 1) n v)) (u1 bi 1 ((n + 4 : Nat) : Int)) h0)) := by
  have step : ∀ (k : Int) (n1 : Nat) (T1 : Nat → Int), 0 ≤ k → k ≤ 24 → n1 < 300 → wp mX7_take 3 [.ref a, .int (zI v), .int (zI (k + -8))] [] (RDH a (u1 ba 1 (u1 T1 n1 (byI v k))) (u1 bi 1 ((n1 + 1 : Nat) : Int)) h0) 0 0 (pd none (RDH a (u1 ba 1 (fourT (ba 1) n v)) (u1 bi 1 ((n + 4 : Nat) : Int)) h0)) → wp mX7_take 3 [.ref a, .int (zI v), .int (zI k)] [] (RDH a (u1 ba 1 T1) (u1 bi 1 (n1 : Int)) h0) 0 0 (pd none (RDH a (u1 ba 1 (fourT (ba 1) n v)) (u1 bi 1 ((n + 4 : Nat) : Int)) h0)) := by
    intro k n1 T1 hk0 hk24 hn1 K
    refine w_iload_n dX7_take_3 rfl rfl ?_
    refine w_if_lt 49 dX7_take_4 (by decide) (by first | assumption | (unfold ok32 at *; omega)) (fun hc => ?_) (fun hc => ?_)
    · omega
    · refine w_aload_n dX7_take_7 rfl rfl ?_
      refine w_getf fX7_25 dX7_take_8 RD0 rfl ?_
      refine w_sipush dX7_take_11 (by decide) ?_
      rw [u1_s]
      refine w_icmp_ge 43 dX7_take_14 (by decide) (by first | assumption | (unfold ok32 at *; omega)) (by first | assumption | (unfold ok32 at *; omega)) (fun hd => ?_) (fun hd => ?_)
      · omega
      · refine w_aload_n dX7_take_17 rfl rfl ?_
        refine w_getf fX7_9 dX7_take_18 RD0 rfl ?_
        refine w_aload_n dX7_take_21 rfl rfl ?_
        refine w_getf fX7_25 dX7_take_22 RD0 rfl ?_
        rw [u1_s]
        refine w_iload_n dX7_take_25 rfl rfl ?_
        refine w_iload_n dX7_take_26 rfl rfl ?_
        refine w_ishrR dX7_take_27 ?_
        refine w_sipush dX7_take_28 (by decide) ?_
        refine w_iandR dX7_take_31 ?_
        rw [← zI_of (zI v >>> (zI k &&& 31) &&& zI 255)]
        refine rd_ist1 n1 rfl (by omega) dX7_take_32 ?_
        rw [u1_u1, u1_s]
        refine w_aload_n dX7_take_33 rfl rfl ?_
        refine w_dup dX7_take_34 rfl ?_
        refine w_getf fX7_25 dX7_take_35 RD0 rfl ?_
        rw [u1_s]
        refine w_iconst dX7_take_38 ?_
        refine w_iadd dX7_take_39 ?_
        rw [show ((n1 : Int) + 1) = ((n1 + 1 : Nat) : Int) by omega]
        refine rd_pf1 fX7_25 dX7_take_40 ?_
        rw [u1_u1]
        refine w_iinc (lv' := [_, _, _]) dX7_take_43 rfl rfl rfl ?_
        refine w_goto 3 dX7_take_46 (by decide) ?_
        exact K
  refine sp_wp rfl (lv := [_, _, _]) rfl (Nat.le_of_ble_eq_true rfl) ?_
  refine w_bipush dX7_take_0 (by decide) ?_
  refine w_istore_n (lv' := [_, _, _]) dX7_take_2 rfl (Nat.le_of_ble_eq_true rfl) rfl rfl ?_
  have e1 : (RDH a ba bi h0) = (RDH a (u1 ba 1 (ba 1)) (u1 bi 1 (n : Int)) h0) := by rw [u1_id, ← h1, u1_id]
  rw [e1]
  refine step 24 n _ (by omega) (by omega) (by omega) ?_
  refine step 16 (n + 1) _ (by omega) (by omega) (by omega) ?_
  refine step 8 (n + 2) _ (by omega) (by omega) (by omega) ?_
  refine step 0 (n + 3) _ (by omega) (by omega) (by omega) ?_
  refine w_iload_n dX7_take_3 rfl rfl ?_
  refine w_if_lt 49 dX7_take_4 (by decide) (by first | assumption | (unfold ok32 at *; omega)) (fun hc => ?_) (fun hc => ?_)
  · exact x_vret rfl dX7_take_49 ⟨rfl, rfl⟩
  · omega
def rfF (v : Int) (bi : Nat → Int) : Nat → Int := if bi 2 = 0 ∧ ¬ v = 0 then u1 (u1 bi 2 v) 3 (bi 6) else bi
theorem c7_refuse {a : Nat} {ba : Nat → Nat → Int} {bi : Nat → Int} {h0 : HP} {v : Int} (hv : ok32 v) (h2 : ok32 (bi 2)) : sp mX7_refuse [.ref a, .int (zI v)] (RDH a ba bi h0) 0 0 (pd none (RDH a ba (rfF v bi) h0)) := by
  unfold rfF
  refine sp_wp rfl (lv := [_, _]) rfl (Nat.le_of_ble_eq_true rfl) ?_
  refine w_aload_n dX7_refuse_0 rfl rfl ?_
  refine w_getf fX7_15 dX7_refuse_1 RD0 rfl ?_
  refine w_if_ne 24 dX7_refuse_4 (by decide) (by first | assumption | (unfold ok32 at *; omega)) (fun hc => ?_) (fun hc => ?_)
  · rw [if_neg (by omega)]
    exact x_vret rfl dX7_refuse_24 ⟨rfl, rfl⟩
  · refine w_iload_n dX7_refuse_7 rfl rfl ?_
    refine w_if_eq 24 dX7_refuse_8 (by decide) (by first | assumption | (unfold ok32 at *; omega)) (fun hd => ?_) (fun hd => ?_)
    · rw [if_neg (by omega)]
      exact x_vret rfl dX7_refuse_24 ⟨rfl, rfl⟩
    · rw [if_pos (by omega)]
      refine w_aload_n dX7_refuse_11 rfl rfl ?_
      refine w_iload_n dX7_refuse_12 rfl rfl ?_
      refine rd_pf2 fX7_15 dX7_refuse_13 ?_
      refine w_aload_n dX7_refuse_16 rfl rfl ?_
      refine w_aload_n dX7_refuse_17 rfl rfl ?_
      refine w_getf fX7_99 dX7_refuse_18 RD0 rfl ?_
      refine rd_pf3 fX7_19 dX7_refuse_21 ?_
      exact x_vret rfl dX7_refuse_24 ⟨rfl, rfl⟩
theorem rfF_2 {v : Int} {bi : Nat → Int} (h : bi 2 = 0) : rfF v bi 2 = v := by
  unfold rfF
  split
  · rfl
  · omega
theorem rfF_3 {v : Int} {bi : Nat → Int} (h : bi 2 = 0) (hv : ¬ v = 0) : rfF v bi 3 = bi 6 := by
  unfold rfF
  rw [if_pos ⟨h, hv⟩]
  rfl
theorem rfF_n {v : Int} {bi : Nat → Int} {j : Nat} (h2 : j ≠ 2) (h3 : j ≠ 3) : rfF v bi j = bi j := by
  unfold rfF
  split
  · rw [u1_n h3, u1_n h2]
  · rfl
noncomputable def eRw (e : Nat) (bi : Nat → Int) : Nat → Int := if e = 0 then rfF 1 bi else if 0 < bi 9 ∧ ¬ (e : Int) = bi 10 then rfF 5 bi else u1 (u1 bi 10 (e : Int)) 9 (bi 9 + 1)
theorem c7_endRow {a : Nat} {ba : Nat → Nat → Int} {bi : Nat → Int} {h0 : HP} {e : Nat} (he : e ≤ 8) (h2 : ok32 (bi 2)) (h9 : ok32 (bi 9)) (h10 : ok32 (bi 10)) : sp mX7_endRow [.ref a, .int (zI (e : Int))] (RDH a ba bi h0) 0 0 (pd none (RDH a ba (eRw e bi) h0)) := by
  unfold eRw
  refine sp_wp rfl (lv := [_, _]) rfl (Nat.le_of_ble_eq_true rfl) ?_
  refine w_iload_n dX7_endRow_0 rfl rfl ?_
  refine w_if_ne 12 dX7_endRow_1 (by decide) (by first | assumption | (unfold ok32 at *; omega)) (fun hc => ?_) (fun hc => ?_)
  · rw [if_neg (by omega)]
    have fin : ¬ (0 < bi 9 ∧ ¬ (e : Int) = bi 10) → wp mX7_endRow 35 [.ref a, .int (zI (e : Int))] [] (RDH a ba bi h0) 0 0 (pd none (RDH a ba (if 0 < bi 9 ∧ ¬ (e : Int) = bi 10 then rfF 5 bi else u1 (u1 bi 10 (e : Int)) 9 (bi 9 + 1)) h0)) := by
      intro hf
      rw [if_neg hf]
      refine w_aload_n dX7_endRow_35 rfl rfl ?_
      refine w_iload_n dX7_endRow_36 rfl rfl ?_
      refine rd_pf10 fX7_37 dX7_endRow_37 ?_
      refine w_aload_n dX7_endRow_40 rfl rfl ?_
      refine w_dup dX7_endRow_41 rfl ?_
      refine w_getf fX7_34 dX7_endRow_42 RD0 rfl ?_
      rw [show (u1 bi 10 (e : Int)) 9 = bi 9 from rfl]
      refine w_iconst dX7_endRow_45 ?_
      refine w_iadd dX7_endRow_46 ?_
      refine rd_pf9 fX7_34 dX7_endRow_47 ?_
      exact x_vret rfl dX7_endRow_50 ⟨rfl, rfl⟩
    refine w_aload_n dX7_endRow_12 rfl rfl ?_
    refine w_getf fX7_34 dX7_endRow_13 RD0 rfl ?_
    refine w_if_le 35 dX7_endRow_16 (by decide) (by first | assumption | (unfold ok32 at *; omega)) (fun hd => ?_) (fun hd => ?_)
    · exact fin (fun z => by omega)
    · refine w_iload_n dX7_endRow_19 rfl rfl ?_
      refine w_aload_n dX7_endRow_20 rfl rfl ?_
      refine w_getf fX7_37 dX7_endRow_21 RD0 rfl ?_
      refine w_icmp_eq 35 dX7_endRow_24 (by decide) (by first | assumption | (unfold ok32 at *; omega)) (by first | assumption | (unfold ok32 at *; omega)) (fun hq => ?_) (fun hq => ?_)
      · exact fin (fun z => z.2 hq)
      · rw [if_pos (by omega)]
        refine w_aload_n dX7_endRow_27 rfl rfl ?_
        refine w_iconst dX7_endRow_28 ?_
        refine wc_Vv (Z := mX7_refuse) (As := [_]) (c7_refuse (by unfold ok32; omega) h2) RD0 rfl kX7_refuse lX7_65 iX7_refuse vX7_refuse dX7_endRow_29 rfl rfl rfl (Nat.le_of_ble_eq_true rfl) ⟨Nat.le_of_ble_eq_true rfl, Nat.le_of_ble_eq_true rfl⟩ ?_
        refine w_goto 50 dX7_endRow_32 (by decide) ?_
        exact x_vret rfl dX7_endRow_50 ⟨rfl, rfl⟩
  · rw [if_pos (by omega)]
    refine w_aload_n dX7_endRow_4 rfl rfl ?_
    refine w_iconst dX7_endRow_5 ?_
    refine wc_Vv (Z := mX7_refuse) (As := [_]) (c7_refuse (by unfold ok32; omega) h2) RD0 rfl kX7_refuse lX7_65 iX7_refuse vX7_refuse dX7_endRow_6 rfl rfl rfl (Nat.le_of_ble_eq_true rfl) ⟨Nat.le_of_ble_eq_true rfl, Nat.le_of_ble_eq_true rfl⟩ ?_
    refine w_goto 50 dX7_endRow_9 (by decide) ?_
    exact x_vret rfl dX7_endRow_50 ⟨rfl, rfl⟩
noncomputable def eFt (e : Nat) (k v l : Int) : Int := if ¬ (k = 2 ∨ k = 3) then 1 else if k = 2 ∧ l ≤ v then 2 else if 8 ≤ e then 3 else 0
theorem c7_entryFault {a : Nat} {ba : Nat → Nat → Int} {bi : Nat → Int} {h0 : HP} {e : Nat} (he : e ≤ 8) (h5 : ok32 (bi 5)) (h7 : bi 5 = 2 → ok32 (bi 7)) (h8 : ok32 (bi 8)) : sp mX7_entryFault [.ref a, .int (zI (e : Int))] (RDH a ba bi h0) 0 0 (pd (some (.int (zI (eFt e (bi 5) (bi 7) (bi 8))))) (RDH a ba bi h0)) := by
  unfold eFt
  refine sp_wp rfl (lv := [_, _]) rfl (Nat.le_of_ble_eq_true rfl) ?_
  have last : wp mX7_entryFault 39 [.ref a, .int (zI (e : Int))] [] (RDH a ba bi h0) 0 0 (pd (some (.int (zI (if 8 ≤ e then 3 else 0)))) (RDH a ba bi h0)) := by
    refine w_iload_n dX7_entryFault_39 rfl rfl ?_
    refine w_bipush dX7_entryFault_40 (by decide) ?_
    refine w_icmp_lt 49 dX7_entryFault_42 (by decide) (by first | assumption | (unfold ok32 at *; omega)) (by first | assumption | (unfold ok32 at *; omega)) (fun hq => ?_) (fun hq => ?_)
    · rw [if_neg (by omega)]
      refine w_iconst dX7_entryFault_49 ?_
      exact x_iret rfl rfl dX7_entryFault_50 ⟨rfl, rfl⟩
    · rw [if_pos (by omega)]
      refine w_iconst dX7_entryFault_45 ?_
      refine w_goto 50 dX7_entryFault_46 (by decide) ?_
      exact x_iret rfl rfl dX7_entryFault_50 ⟨rfl, rfl⟩
  have mid : (bi 5 = 2 ∨ bi 5 = 3) → wp mX7_entryFault 18 [.ref a, .int (zI (e : Int))] [] (RDH a ba bi h0) 0 0 (pd (some (.int (zI (if bi 5 = 2 ∧ bi 8 ≤ bi 7 then 2 else if 8 ≤ e then 3 else 0)))) (RDH a ba bi h0)) := by
    intro hk
    refine w_aload_n dX7_entryFault_18 rfl rfl ?_
    refine w_getf fX7_62 dX7_entryFault_19 RD0 rfl ?_
    refine w_iconst dX7_entryFault_22 ?_
    refine w_icmp_ne 39 dX7_entryFault_23 (by decide) (by first | assumption | (unfold ok32 at *; omega)) (by first | assumption | (unfold ok32 at *; omega)) (fun hq => ?_) (fun hq => ?_)
    · rw [if_neg (fun z => hq z.1)]
      exact last
    · have h7 := h7 (by omega)
      refine w_aload_n dX7_entryFault_26 rfl rfl ?_
      refine w_getf fX7_89 dX7_entryFault_27 RD0 rfl ?_
      refine w_aload_n dX7_entryFault_30 rfl rfl ?_
      refine w_getf fX7_31 dX7_entryFault_31 RD0 rfl ?_
      refine w_icmp_lt 39 dX7_entryFault_34 (by decide) (by first | assumption | (unfold ok32 at *; omega)) (by first | assumption | (unfold ok32 at *; omega)) (fun hr => ?_) (fun hr => ?_)
      · rw [if_neg (by omega)]
        exact last
      · rw [if_pos (by omega)]
        refine w_iconst dX7_entryFault_37 ?_
        exact x_iret rfl rfl dX7_entryFault_38 ⟨rfl, rfl⟩
  refine w_aload_n dX7_entryFault_0 rfl rfl ?_
  refine w_getf fX7_62 dX7_entryFault_1 RD0 rfl ?_
  refine w_iconst dX7_entryFault_4 ?_
  refine w_icmp_eq 18 dX7_entryFault_5 (by decide) (by first | assumption | (unfold ok32 at *; omega)) (by first | assumption | (unfold ok32 at *; omega)) (fun hc => ?_) (fun hc => ?_)
  · rw [if_neg (fun z => z (Or.inl hc))]
    exact mid (Or.inl hc)
  · refine w_aload_n dX7_entryFault_8 rfl rfl ?_
    refine w_getf fX7_62 dX7_entryFault_9 RD0 rfl ?_
    refine w_iconst dX7_entryFault_12 ?_
    refine w_icmp_eq 18 dX7_entryFault_13 (by decide) (by first | assumption | (unfold ok32 at *; omega)) (by first | assumption | (unfold ok32 at *; omega)) (fun hd => ?_) (fun hd => ?_)
    · rw [if_neg (fun z => z (Or.inr hd))]
      exact mid (Or.inr hd)
    · rw [if_pos (fun z => z.elim hc hd)]
      refine w_iconst dX7_entryFault_16 ?_
      exact x_iret rfl rfl dX7_entryFault_17 ⟨rfl, rfl⟩

