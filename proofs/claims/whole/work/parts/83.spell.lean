/-! the JDK's strings, and the class's words -/
theorem sL_sh : ∀ i, i < 4 → zI ((scL.getD i 0 : Nat) : Int) >>> (zI 0 &&& 31) = zI ((scL.getD i 0 : Nat) : Int) := by decide
theorem sB_an : ∀ i, i < 4 → ∀ k, k < scL.getD i 0 → ((zI (sB i k) &&& zI 255).toUInt32 % 65536).toInt32 = zI (sB i k) := by decide
theorem sB_ch : ∀ i, i < 4 → ∀ k, k < scL.getD i 0 → ((zI (sB i k)).toUInt32 % 65536).toInt32 = zI (sB i k) := by decide
theorem sB_ok : ∀ i, i < 4 → ∀ k, k < scL.getD i 0 → 0 ≤ sB i k ∧ sB i k ≤ 255 := by decide
theorem sB_na {i k : Nat} (hi : i < 4) (hk : k < scL.getD i 0) : narrow .char (.int (zI (sB i k))) = .int (zI (sB i k)) := congrArg Value.int (sB_ch i hi k hk)
theorem yw_cast {G : DG} {b : Nat} {Y : MT} {pc : Nat} {lv lv' st st' : List Value} {h h' : HP} {rc rs : Nat} {Φ : Option Value → HP → Prop} (e1 : lv = lv') (e2 : st = st') (e3 : h = h') (k : wq G b Y pc lv' st' h' rc rs Φ) : wq G b Y pc lv st h rc rs Φ := by subst e1; subst e2; subst e3; exact k
theorem s_coder {G : DG} {b : Nat} {h : HP} {i : Nat} (hi : i < 4) : sq G b mJ0_coder_7d493 [.ref (G.2.2.1 i)] h 0 0 (pd (some (.int (zI 0))) h) := by
  refine ysp_wp rfl (lv := [_]) rfl (Nat.le_of_ble_eq_true rfl) ?_
  refine yw_scmp rfl dJ0_coder_7d493_0 ?_
  refine yw_if_eq 13 dJ0_coder_7d493_3 (by decide) (by unfold ok32; omega) (fun hc => ?_) (fun hc => ?_)
  · omega
  · refine yw_aload_n dJ0_coder_7d493_6 rfl rfl ?_
    refine yw_scod hi rfl dJ0_coder_7d493_7 ?_
    refine yw_goto 14 dJ0_coder_7d493_10 (by decide) ?_
    exact yx_iret rfl rfl dJ0_coder_7d493_14 ⟨rfl, rfl⟩
theorem s_length {G : DG} {b : Nat} {h : HP} {i : Nat} (hi : i < 4) : sq G b mJ0_length_8abf5 [.ref (G.2.2.1 i)] h 0 0 (pd (some (.int (zI ((scL.getD i 0 : Nat) : Int)))) h) := by
  refine ysp_wp rfl (lv := [_]) rfl (Nat.le_of_ble_eq_true rfl) ?_
  refine yw_aload_n dJ0_length_8abf5_0 rfl rfl ?_
  refine yw_sval hi rfl dJ0_length_8abf5_1 ?_
  refine yw_slen hi dJ0_length_8abf5_4 ?_
  refine yw_aload_n dJ0_length_8abf5_5 rfl rfl ?_
  refine yc_X (Z := mJ0_coder_7d493) (As := []) (s_coder hi) hi rfl kJ0_coder_7d493 lJ0_335 iJ0_coder_7d493 vJ0_coder_7d493 dJ0_length_8abf5_6 rfl rfl rfl (Nat.le_of_ble_eq_true rfl) ⟨Nat.le_of_ble_eq_true rfl, Nat.le_of_ble_eq_true rfl⟩ ?_
  refine yw_ishrR dJ0_length_8abf5_9 ?_
  rw [sL_sh i hi]
  exact yx_iret rfl rfl dJ0_length_8abf5_10 ⟨rfl, rfl⟩
theorem s_isLatin1 {G : DG} {b : Nat} {h : HP} {i : Nat} (hi : i < 4) : sq G b mJ0_isLatin1_aae02 [.ref (G.2.2.1 i)] h 0 0 (pd (some (.int (zI 1))) h) := by
  refine ysp_wp rfl (lv := [_]) rfl (Nat.le_of_ble_eq_true rfl) ?_
  refine yw_scmp rfl dJ0_isLatin1_aae02_0 ?_
  refine yw_if_eq 17 dJ0_isLatin1_aae02_3 (by decide) (by unfold ok32; omega) (fun hc => ?_) (fun hc => ?_)
  · omega
  · refine yw_aload_n dJ0_isLatin1_aae02_6 rfl rfl ?_
    refine yw_scod hi rfl dJ0_isLatin1_aae02_7 ?_
    refine yw_if_ne 17 dJ0_isLatin1_aae02_10 (by decide) (by unfold ok32; omega) (fun hd => ?_) (fun hd => ?_)
    · omega
    · refine yw_iconst dJ0_isLatin1_aae02_13 ?_
      refine yw_goto 18 dJ0_isLatin1_aae02_14 (by decide) ?_
      exact yx_iret rfl rfl dJ0_isLatin1_aae02_18 ⟨rfl, rfl⟩
theorem s_check3r {G : DG} {b : Nat} {h : HP} {k n x : Nat} (hk : k < n) (hn : n ≤ 6) : sq G b mJ3_checkIndex_8e157 [.int (zI (k : Int)), .int (zI (n : Int)), .ref x] h 0 0 (pd (some (.int (zI (k : Int)))) h) := by
  refine ysp_wp rfl (lv := [_, _, _]) rfl (Nat.le_of_ble_eq_true rfl) ?_
  refine yw_iload_n dJ3_checkIndex_8e157_0 rfl rfl ?_
  refine yw_if_lt 9 dJ3_checkIndex_8e157_1 (by decide) (by unfold ok32; omega) (fun hc => ?_) (fun hc => ?_)
  · omega
  · refine yw_iload_n dJ3_checkIndex_8e157_4 rfl rfl ?_
    refine yw_iload_n dJ3_checkIndex_8e157_5 rfl rfl ?_
    refine yw_icmp_lt 16 dJ3_checkIndex_8e157_6 (by decide) (by unfold ok32; omega) (by unfold ok32; omega) (fun hd => ?_) (fun hd => ?_)
    · refine yw_iload_n dJ3_checkIndex_8e157_16 rfl rfl ?_
      exact yx_iret rfl rfl dJ3_checkIndex_8e157_17 ⟨rfl, rfl⟩
    · omega
theorem s_check3n {G : DG} {b : Nat} {h : HP} {k n : Nat} (hk : k < n) (hn : n ≤ 6) : sq G b mJ3_checkIndex_8e157 [.int (zI (k : Int)), .int (zI (n : Int)), .null] h 0 0 (pd (some (.int (zI (k : Int)))) h) := by
  refine ysp_wp rfl (lv := [_, _, _]) rfl (Nat.le_of_ble_eq_true rfl) ?_
  refine yw_iload_n dJ3_checkIndex_8e157_0 rfl rfl ?_
  refine yw_if_lt 9 dJ3_checkIndex_8e157_1 (by decide) (by unfold ok32; omega) (fun hc => ?_) (fun hc => ?_)
  · omega
  · refine yw_iload_n dJ3_checkIndex_8e157_4 rfl rfl ?_
    refine yw_iload_n dJ3_checkIndex_8e157_5 rfl rfl ?_
    refine yw_icmp_lt 16 dJ3_checkIndex_8e157_6 (by decide) (by unfold ok32; omega) (by unfold ok32; omega) (fun hd => ?_) (fun hd => ?_)
    · refine yw_iload_n dJ3_checkIndex_8e157_16 rfl rfl ?_
      exact yx_iret rfl rfl dJ3_checkIndex_8e157_17 ⟨rfl, rfl⟩
    · omega
theorem s_check3 {G : DG} {b : Nat} {h : HP} {k n x : Nat} (hk : k < n) (hn : n ≤ 6) : sq G b mJ3_checkIndex_8e157 [.int (zI (k : Int)), .int (zI (n : Int)), fmV x] h 0 0 (pd (some (.int (zI (k : Int)))) h) := by
  cases x with
  | zero => exact s_check3n hk hn
  | succ x => exact s_check3r hk hn
theorem s_check0 {G : DG} {b : Nat} {h : HP} {k n : Nat} (hk : k < n) (hn : n ≤ 6) : sq G b mJ0_checkIndex_df160 [.int (zI (k : Int)), .int (zI (n : Int))] h 0 0 (pd none h) := by
  refine ysp_wp rfl (lv := [_, _]) rfl (Nat.le_of_ble_eq_true rfl) ?_
  refine yw_iload_n dJ0_checkIndex_df160_0 rfl rfl ?_
  refine yw_iload_n dJ0_checkIndex_df160_1 rfl rfl ?_
  refine yw_sfmt rfl dJ0_checkIndex_df160_2 ?_
  refine yc_S (Z := mJ3_checkIndex_8e157) (As := [_, _, _]) (s_check3 hk hn) kJ3_checkIndex_8e157 lJ0_1059 sJ3_checkIndex_8e157 dJ0_checkIndex_df160_5 rfl rfl rfl (Nat.le_of_ble_eq_true rfl) ⟨Nat.le_of_ble_eq_true rfl, Nat.le_of_ble_eq_true rfl⟩ ?_
  refine yw_pop dJ0_checkIndex_df160_8 rfl ?_
  exact yx_vret rfl dJ0_checkIndex_df160_9 ⟨rfl, rfl⟩
theorem s_char1 {G : DG} {b : Nat} {h : HP} {i k : Nat} (hi : i < 4) (hk : k < scL.getD i 0) : sq G b mJ1_charAt_3b067 [.ref (G.2.2.2.1 i), .int (zI (k : Int))] h 0 0 (pd (some (.int (zI (sB i k)))) h) := by
  refine ysp_wp rfl (lv := [_, _]) rfl (Nat.le_of_ble_eq_true rfl) ?_
  refine yw_iload_n dJ1_charAt_3b067_0 rfl rfl ?_
  refine yw_aload_n dJ1_charAt_3b067_1 rfl rfl ?_
  refine yw_slen hi dJ1_charAt_3b067_2 ?_
  refine yc_Sv (Z := mJ0_checkIndex_df160) (As := [_, _]) (s_check0 hk (sL_le i hi)) kJ0_checkIndex_df160 lJ1_9 sJ0_checkIndex_df160 dJ1_charAt_3b067_3 rfl rfl rfl (Nat.le_of_ble_eq_true rfl) ⟨Nat.le_of_ble_eq_true rfl, Nat.le_of_ble_eq_true rfl⟩ ?_
  refine yw_aload_n dJ1_charAt_3b067_6 rfl rfl ?_
  refine yw_iload_n dJ1_charAt_3b067_7 rfl rfl ?_
  refine yw_sbyt k hi hk dJ1_charAt_3b067_8 ?_
  refine yw_sipush dJ1_charAt_3b067_9 (by decide) ?_
  refine yw_iandR dJ1_charAt_3b067_12 ?_
  refine yw_i2c (sB_an i hi k hk) dJ1_charAt_3b067_13 ?_
  exact yx_iret rfl (sB_na hi hk) dJ1_charAt_3b067_14 ⟨rfl, rfl⟩
theorem s_charAt {G : DG} {b : Nat} {h : HP} {i k : Nat} (hi : i < 4) (hk : k < scL.getD i 0) : sq G b mJ0_charAt_5068e [.ref (G.2.2.1 i), .int (zI (k : Int))] h 0 0 (pd (some (.int (zI (sB i k)))) h) := by
  refine ysp_wp rfl (lv := [_, _]) rfl (Nat.le_of_ble_eq_true rfl) ?_
  refine yw_aload_n dJ0_charAt_5068e_0 rfl rfl ?_
  refine yc_X (Z := mJ0_isLatin1_aae02) (As := []) (s_isLatin1 hi) hi rfl kJ0_isLatin1_aae02 lJ0_492 iJ0_isLatin1_aae02 vJ0_isLatin1_aae02 dJ0_charAt_5068e_1 rfl rfl rfl (Nat.le_of_ble_eq_true rfl) ⟨Nat.le_of_ble_eq_true rfl, Nat.le_of_ble_eq_true rfl⟩ ?_
  refine yw_if_eq 16 dJ0_charAt_5068e_4 (by decide) (by unfold ok32; omega) (fun hc => ?_) (fun hc => ?_)
  · omega
  · refine yw_aload_n dJ0_charAt_5068e_7 rfl rfl ?_
    refine yw_sval hi rfl dJ0_charAt_5068e_8 ?_
    refine yw_iload_n dJ0_charAt_5068e_11 rfl rfl ?_
    refine yc_S (Z := mJ1_charAt_3b067) (As := [_, _]) (s_char1 hi hk) kJ1_charAt_3b067 lJ0_495 sJ1_charAt_3b067 dJ0_charAt_5068e_12 rfl rfl rfl (Nat.le_of_ble_eq_true rfl) ⟨Nat.le_of_ble_eq_true rfl, Nat.le_of_ble_eq_true rfl⟩ ?_
    exact yx_iret rfl (sB_na hi hk) dJ0_charAt_5068e_15 ⟨rfl, rfl⟩
def SPL (k : Int) (s e i : Nat) (T : Nat → Int) : Prop := k = 1 ∧ e = s + scL.getD i 0 ∧ ∀ j, j < scL.getD i 0 → T (s + j) = sB i j
noncomputable def SPb (k : Int) (s e i : Nat) (T : Nat → Int) : Int := @bI (SPL k s e i T) (Classical.propDecidable _)
theorem SPb_t {k : Int} {s e i : Nat} {T : Nat → Int} (h : SPL k s e i T) : SPb k s e i T = 1 := @bI_t _ (Classical.propDecidable _) h
theorem SPb_f {k : Int} {s e i : Nat} {T : Nat → Int} (h : ¬ SPL k s e i T) : SPb k s e i T = 0 := @bI_f _ (Classical.propDecidable _) h
theorem c7_spells {G : DG} {b : Nat} {a : Nat} {ba : Nat → Nat → Int} {bi : Nat → Int} {h0 : HP} {i s e : Nat} (hi : i < 4) (h4 : bi 4 = (e : Int)) (h6 : bi 6 = (s : Int)) (hse : s ≤ e) (he : e ≤ 300) (h5 : ok32 (bi 5)) (hT : TB (ba 1)) : sq G b mX7_spells [.ref a, .ref (G.2.2.1 i)] (RDH a ba bi h0) 0 0 (pd (some (.int (zI (SPb (bi 5) s e i (ba 1))))) (RDH a ba bi h0)) := by
  have hL := sL_le i hi
  have no : ¬ SPL (bi 5) s e i (ba 1) → ∀ (x2 : Value), wq G b mX7_spells 24 [.ref a, .ref (G.2.2.1 i), x2] [] (RDH a ba bi h0) 0 0 (pd (some (.int (zI (SPb (bi 5) s e i (ba 1))))) (RDH a ba bi h0)) := by
    intro hn x2
    rw [SPb_f hn]
    refine yw_iconst dX7_spells_24 ?_
    exact yx_iret rfl rfl dX7_spells_25 ⟨rfl, rfl⟩
  refine ysp_wp rfl (lv := [_, _, _]) rfl (Nat.le_of_ble_eq_true rfl) ?_
  refine yw_aload_n dX7_spells_0 rfl rfl ?_
  refine yw_getf fX7_62 dX7_spells_1 RD0 rfl ?_
  refine yw_iconst dX7_spells_4 ?_
  refine yw_icmp_ne 24 dX7_spells_5 (by decide) (by first | assumption | (unfold ok32 at *; omega)) (by first | assumption | (unfold ok32 at *; omega)) (fun hk => ?_) (fun hk => ?_)
  · exact no (fun z => hk z.1) _
  · refine yw_aload_n dX7_spells_8 rfl rfl ?_
    refine yw_getf fX7_28 dX7_spells_9 RD0 rfl ?_
    refine yw_aload_n dX7_spells_12 rfl rfl ?_
    refine yw_getf fX7_99 dX7_spells_13 RD0 rfl ?_
    refine yw_isub dX7_spells_16 ?_
    rw [h4, h6]
    refine yw_aload_n dX7_spells_17 rfl rfl ?_
    refine yc_X (Z := mJ0_length_8abf5) (As := []) (s_length hi) hi rfl kJ0_length_8abf5 lX7_102 iJ0_length_8abf5 vJ0_length_8abf5 dX7_spells_18 rfl rfl rfl (Nat.le_of_ble_eq_true rfl) ⟨Nat.le_of_ble_eq_true rfl, Nat.le_of_ble_eq_true rfl⟩ ?_
    refine yw_icmp_eq 26 dX7_spells_21 (by decide) (by unfold ok32; omega) (by unfold ok32; omega) (fun hl => ?_) (fun hl => ?_)
    rotate_left
    · exact no (fun z => by have := z.2.1; omega) _
    · have hel : e = s + scL.getD i 0 := by omega
      refine yw_iconst dX7_spells_26 ?_
      refine yw_istore_n (lv' := [_, _, _]) dX7_spells_27 rfl (Nat.le_of_ble_eq_true rfl) rfl rfl ?_
      have lp : ∀ (f k : Nat), f + k = scL.getD i 0 → (∀ j, j < k → ba 1 (s + j) = sB i j) → wq G b mX7_spells 28 [.ref a, .ref (G.2.2.1 i), .int (zI (k : Int))] [] (RDH a ba bi h0) 0 0 (pd (some (.int (zI (SPb (bi 5) s e i (ba 1))))) (RDH a ba bi h0)) := by
        intro f
        induction f with
        | zero =>
          intro k hf hj
          refine yw_iload_n dX7_spells_28 rfl rfl ?_
          refine yw_aload_n dX7_spells_29 rfl rfl ?_
          refine yc_X (Z := mJ0_length_8abf5) (As := []) (s_length hi) hi rfl kJ0_length_8abf5 lX7_102 iJ0_length_8abf5 vJ0_length_8abf5 dX7_spells_30 rfl rfl rfl (Nat.le_of_ble_eq_true rfl) ⟨Nat.le_of_ble_eq_true rfl, Nat.le_of_ble_eq_true rfl⟩ ?_
          refine yw_icmp_ge 63 dX7_spells_33 (by decide) (by unfold ok32; omega) (by unfold ok32; omega) (fun hc => ?_) (fun hc => ?_)
          · rw [SPb_t (show SPL (bi 5) s e i (ba 1) from ⟨hk, hel, fun j h => hj j (by omega)⟩)]
            refine yw_iconst dX7_spells_63 ?_
            exact yx_iret rfl rfl dX7_spells_64 ⟨rfl, rfl⟩
          · omega
        | succ f ih =>
          intro k hf hj
          refine yw_iload_n dX7_spells_28 rfl rfl ?_
          refine yw_aload_n dX7_spells_29 rfl rfl ?_
          refine yc_X (Z := mJ0_length_8abf5) (As := []) (s_length hi) hi rfl kJ0_length_8abf5 lX7_102 iJ0_length_8abf5 vJ0_length_8abf5 dX7_spells_30 rfl rfl rfl (Nat.le_of_ble_eq_true rfl) ⟨Nat.le_of_ble_eq_true rfl, Nat.le_of_ble_eq_true rfl⟩ ?_
          refine yw_icmp_ge 63 dX7_spells_33 (by decide) (by unfold ok32; omega) (by unfold ok32; omega) (fun hc => ?_) (fun hc => ?_)
          · omega
          · have hkl : k < scL.getD i 0 := by omega
            have hb := sB_ok i hi k hkl
            have ht := hT (s + k)
            refine yw_aload_n dX7_spells_36 rfl rfl ?_
            refine yw_getf fX7_9 dX7_spells_37 RD0 rfl ?_
            refine yw_aload_n dX7_spells_40 rfl rfl ?_
            refine yw_getf fX7_99 dX7_spells_41 RD0 rfl ?_
            rw [h6]
            refine yw_iload_n dX7_spells_44 rfl rfl ?_
            refine yw_iadd dX7_spells_45 ?_
            refine yw_iald (s + k) RD1 (by omega) (by omega) (by decide) dX7_spells_46 ?_
            refine yw_aload_n dX7_spells_47 rfl rfl ?_
            refine yw_iload_n dX7_spells_48 rfl rfl ?_
            refine yc_X (Z := mJ0_charAt_5068e) (As := [_]) (s_charAt hi hkl) hi rfl kJ0_charAt_5068e lX7_107 iJ0_charAt_5068e vJ0_charAt_5068e dX7_spells_49 rfl rfl rfl (Nat.le_of_ble_eq_true rfl) ⟨Nat.le_of_ble_eq_true rfl, Nat.le_of_ble_eq_true rfl⟩ ?_
            refine yw_icmp_eq 57 dX7_spells_52 (by decide) (by unfold ok32; omega) (by unfold ok32; omega) (fun hq => ?_) (fun hq => ?_)
            · refine yw_iinc (lv' := [_, _, _]) dX7_spells_57 rfl rfl rfl ?_
              refine yw_goto 28 dX7_spells_60 (by decide) ?_
              have := ih (k + 1) (by omega) (fun j h => by
                by_cases hjk : j = k
                · rw [hjk]; exact hq
                · exact hj j (by omega))
              push_cast at this
              exact this
            · rw [SPb_f (show ¬ SPL (bi 5) s e i (ba 1) from fun z => hq (z.2.2 k hkl))]
              refine yw_iconst dX7_spells_55 ?_
              exact yx_iret rfl rfl dX7_spells_56 ⟨rfl, rfl⟩
      exact lp (scL.getD i 0) 0 (by omega) (fun j h => by omega)

