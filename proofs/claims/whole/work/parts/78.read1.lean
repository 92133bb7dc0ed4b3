/-! the class's reader: bytes and tokens -/
theorem c7_isLetter {z : Int} {h : HP} (hz : ok32 z) : sp mX7_isLetter [.int (zI z)] h 0 0 (pd (some (.int (zI (bI (97 ≤ z ∧ z ≤ 122))))) h) := by
  refine sp_wp rfl (lv := [_]) rfl (Nat.le_of_ble_eq_true rfl) ?_
  refine w_iload_n dX7_isLetter_0 rfl rfl ?_
  refine w_bipush dX7_isLetter_1 (by decide) ?_
  refine w_icmp_lt 16 dX7_isLetter_3 (by decide) (by first | assumption | (unfold ok32 at *; omega)) (by first | assumption | (unfold ok32 at *; omega)) (fun h1 => ?_) (fun h1 => ?_)
  · refine w_iconst dX7_isLetter_16 ?_
    refine x_iret rfl (by first | rfl | exact bI_nar _) dX7_isLetter_17 ⟨?_, rfl⟩
    rw [bI_f (by omega)]
  · refine w_iload_n dX7_isLetter_6 rfl rfl ?_
    refine w_bipush dX7_isLetter_7 (by decide) ?_
    refine w_icmp_gt 16 dX7_isLetter_9 (by decide) (by first | assumption | (unfold ok32 at *; omega)) (by first | assumption | (unfold ok32 at *; omega)) (fun h2 => ?_) (fun h2 => ?_)
    · refine w_iconst dX7_isLetter_16 ?_
      refine x_iret rfl (by first | rfl | exact bI_nar _) dX7_isLetter_17 ⟨?_, rfl⟩
      rw [bI_f (by omega)]
    · refine w_iconst dX7_isLetter_12 ?_
      refine w_goto 17 dX7_isLetter_13 (by decide) ?_
      refine x_iret rfl (by first | rfl | exact bI_nar _) dX7_isLetter_17 ⟨?_, rfl⟩
      rw [bI_t (by omega)]
theorem c7_isDigit {z : Int} {h : HP} (hz : ok32 z) : sp mX7_isDigit [.int (zI z)] h 0 0 (pd (some (.int (zI (bI (48 ≤ z ∧ z ≤ 57))))) h) := by
  refine sp_wp rfl (lv := [_]) rfl (Nat.le_of_ble_eq_true rfl) ?_
  refine w_iload_n dX7_isDigit_0 rfl rfl ?_
  refine w_bipush dX7_isDigit_1 (by decide) ?_
  refine w_icmp_lt 16 dX7_isDigit_3 (by decide) (by first | assumption | (unfold ok32 at *; omega)) (by first | assumption | (unfold ok32 at *; omega)) (fun h1 => ?_) (fun h1 => ?_)
  · refine w_iconst dX7_isDigit_16 ?_
    refine x_iret rfl (by first | rfl | exact bI_nar _) dX7_isDigit_17 ⟨?_, rfl⟩
    rw [bI_f (by omega)]
  · refine w_iload_n dX7_isDigit_6 rfl rfl ?_
    refine w_bipush dX7_isDigit_7 (by decide) ?_
    refine w_icmp_gt 16 dX7_isDigit_9 (by decide) (by first | assumption | (unfold ok32 at *; omega)) (by first | assumption | (unfold ok32 at *; omega)) (fun h2 => ?_) (fun h2 => ?_)
    · refine w_iconst dX7_isDigit_16 ?_
      refine x_iret rfl (by first | rfl | exact bI_nar _) dX7_isDigit_17 ⟨?_, rfl⟩
      rw [bI_f (by omega)]
    · refine w_iconst dX7_isDigit_12 ?_
      refine w_goto 17 dX7_isDigit_13 (by decide) ?_
      refine x_iret rfl (by first | rfl | exact bI_nar _) dX7_isDigit_17 ⟨?_, rfl⟩
      rw [bI_t (by omega)]
def VR (v m : Int) : Prop := (v = m ∧ 0 ≤ m ∧ m < 1000) ∨ (v = 1000 ∧ 1000 ≤ m)
def KD (T : Nat → Int) (n : Nat) (k v : Int) (y : LX) : Prop := (k = 0 ∧ y.2.2.1 = 0) ∨ (k = 1 ∧ y.2.2.1 = wdO T n y.2.1 (y.1 - y.2.1)) ∨ (k = 2 ∧ y.2.2.1 = 1 ∧ VR v y.2.2.2) ∨ (k = 3 ∧ y.2.2.1 = 46) ∨ (k = 4 ∧ y.2.2.1 = 59) ∨ (k = 5 ∧ y.2.2.1 = 2)
def TKP (T : Nat → Int) (n : Nat) (bi bj : Nat → Int) (y : LX) : Prop := bj 4 = (y.1 : Int) ∧ bj 6 = (y.2.1 : Int) ∧ KD T n (bj 5) (bj 7) y ∧ ∀ j, j ≠ 4 → j ≠ 5 → j ≠ 6 → j ≠ 7 → bj j = bi j
theorem byt_in {T : Nat → Int} {n k : Nat} (h : k < n) : byt T n k = T k := if_pos h
theorem byt_out {T : Nat → Int} {n k : Nat} (h : ¬ k < n) : byt T n k = -1 := if_neg h
set_option maxRecDepth 8000 in
theorem c7_readToken {a : Nat} {ba : Nat → Nat → Int} {bi : Nat → Int} {h0 : HP} {n k : Nat} (h1 : bi 1 = (n : Int)) (hn : n ≤ 300) (h4 : bi 4 = (k : Int)) (hk : k ≤ n) (hT : TB (ba 1)) : sp mX7_readToken [.ref a] (RDH a ba bi h0) 0 0 (px none (fun bj : Nat → Int => TKP (ba 1) n bi bj (nt (ba 1) n k)) (fun bj => RDH a ba bj h0)) := by
  obtain ⟨T, hTT⟩ : ∃ T, ba 1 = T := ⟨_, rfl⟩
  rw [hTT] at hT ⊢
  obtain ⟨Y, hY⟩ : ∃ Y, nt T n k = Y := ⟨_, rfl⟩
  rw [hY]
  have hTr : ∀ i, ok32 (T i) := fun i => by have := hT i; unfold ok32; omega
  refine sp_wp rfl (lv := [_, _]) rfl (Nat.le_of_ble_eq_true rfl) ?_
  -- behind the blanks
  have fin : ∀ (s : Nat) (x1 : Value), s ≤ n → skp T n 301 k = s → ¬ (byt T n s = 32 ∨ byt T n s = 10) → wp mX7_readToken 52 [.ref a, x1] [] (RDH a ba (u1 bi 4 (s : Int)) h0) 0 0 (px none (fun bj : Nat → Int => TKP T n bi bj Y) (fun bj => RDH a ba bj h0)) := by
    intro s x1 hs hsk hbl
    unfold nt at hY
    rw [hsk] at hY
    refine w_aload_n dX7_readToken_52 rfl rfl ?_
    refine w_aload_n dX7_readToken_53 rfl rfl ?_
    refine w_getf fX7_28 dX7_readToken_54 RD0 rfl ?_
    rw [u1_s]
    refine rd_pf6 fX7_99 dX7_readToken_57 ?_
    refine w_aload_n dX7_readToken_60 rfl rfl ?_
    refine w_getf fX7_28 dX7_readToken_61 RD0 rfl ?_
    refine w_aload_n dX7_readToken_64 rfl rfl ?_
    refine w_getf fX7_25 dX7_readToken_65 RD0 rfl ?_
    rw [show (u1 (u1 bi 4 (s : Int)) 6 (s : Int)) 4 = (s : Int) from rfl, show (u1 (u1 bi 4 (s : Int)) 6 (s : Int)) 1 = bi 1 from rfl, h1]
    refine w_icmp_lt 77 dX7_readToken_68 (by decide) (by first | assumption | (unfold ok32 at *; omega)) (by first | assumption | (unfold ok32 at *; omega)) (fun hc => ?_) (fun hc => ?_)
    rotate_left
    · have hb : byt T n s = -1 := byt_out (by omega)
      rw [hb, if_pos (by omega)] at hY
      refine w_aload_n dX7_readToken_71 rfl rfl ?_
      refine w_iconst dX7_readToken_72 ?_
      refine rd_pf5 fX7_62 dX7_readToken_73 ?_
      refine x_vret rfl dX7_readToken_76 ⟨rfl, u1 (u1 (u1 bi 4 (s : Int)) 6 (s : Int)) 5 0, ⟨?_, ?_, Or.inl ⟨rfl, ?_⟩, fun j j4 j5 j6 j7 => ?_⟩, rfl⟩
      · rw [← hY]; rfl
      · rw [← hY]; rfl
      · rw [← hY]
      · rw [u1_n j5, u1_n j6, u1_n j4]
    · have hsn : s < n := by omega
      have hb : byt T n s = T s := byt_in hsn
      have hTs := hT s
      rw [hb] at hY hbl
      rw [if_neg (by omega)] at hY
      refine w_aload_n dX7_readToken_77 rfl rfl ?_
      refine w_getf fX7_9 dX7_readToken_78 RD0 rfl ?_
      refine w_aload_n dX7_readToken_81 rfl rfl ?_
      refine w_getf fX7_28 dX7_readToken_82 RD0 rfl ?_
      rw [show (u1 (u1 bi 4 (s : Int)) 6 (s : Int)) 4 = (s : Int) from rfl]
      refine w_iald s RD1 rfl (by omega) (by decide) dX7_readToken_85 ?_
      rw [hTT]
      refine w_istore_n (lv' := [_, _]) dX7_readToken_86 rfl (Nat.le_of_ble_eq_true rfl) rfl rfl ?_
      refine w_iload_n dX7_readToken_87 rfl rfl ?_
      refine wc_S (Z := mX7_isLetter) (As := [_]) (c7_isLetter (hTr s)) kX7_isLetter lX7_111 sX7_isLetter dX7_readToken_88 rfl rfl rfl (Nat.le_of_ble_eq_true rfl) ⟨Nat.le_of_ble_eq_true rfl, Nat.le_of_ble_eq_true rfl⟩ ?_
      refine w_ifb_eq 138 dX7_readToken_91 (by decide) (fun hl => ?_) (fun hl => ?_)
      · refine w_iload_n dX7_readToken_138 rfl rfl ?_
        refine wc_S (Z := mX7_isDigit) (As := [_]) (c7_isDigit (hTr s)) kX7_isDigit lX7_115 sX7_isDigit dX7_readToken_139 rfl rfl rfl (Nat.le_of_ble_eq_true rfl) ⟨Nat.le_of_ble_eq_true rfl, Nat.le_of_ble_eq_true rfl⟩ ?_
        rw [if_neg hl] at hY
        refine w_ifb_eq 224 dX7_readToken_142 (by decide) (fun hdg => ?_) (fun hdg => ?_)
        · rw [if_neg hdg] at hY
          have fin2 : ∀ kd : Int, ((kd = 3 ∧ T s = 46) ∨ (kd = 4 ∧ T s = 59) ∨ (kd = 5 ∧ ¬ T s = 46 ∧ ¬ T s = 59)) → wp mX7_readToken 246 [.ref a, .int (zI (T s))] [.int (zI kd), .ref a] (RDH a ba (u1 (u1 bi 4 (s : Int)) 6 (s : Int)) h0) 0 0 (px none (fun bj : Nat → Int => TKP T n bi bj Y) (fun bj => RDH a ba bj h0)) := by
            intro kd hkd
            refine rd_pf5 fX7_62 dX7_readToken_246 ?_
            refine w_aload_n dX7_readToken_249 rfl rfl ?_
            refine w_dup dX7_readToken_250 rfl ?_
            refine w_getf fX7_28 dX7_readToken_251 RD0 rfl ?_
            rw [show (u1 (u1 (u1 bi 4 (s : Int)) 6 (s : Int)) 5 kd) 4 = (s : Int) from rfl]
            refine w_iconst dX7_readToken_254 ?_
            refine w_iadd dX7_readToken_255 ?_
            refine rd_pf4 fX7_28 dX7_readToken_256 ?_
            refine x_vret rfl dX7_readToken_259 ⟨rfl, u1 (u1 (u1 (u1 bi 4 (s : Int)) 6 (s : Int)) 5 kd) 4 ((s : Int) + 1), ⟨?_, ?_, ?_, fun j j4 j5 j6 j7 => ?_⟩, rfl⟩
            · rw [← hY]
              show (s : Int) + 1 = ((s + 1 : Nat) : Int)
              omega
            · rw [← hY]; rfl
            · rcases hkd with q | q | q
              · refine Or.inr (Or.inr (Or.inr (Or.inl ⟨q.1, ?_⟩)))
                rw [← hY]
                show (if T s = 46 ∨ T s = 59 then T s else 2) = 46
                rw [if_pos (Or.inl q.2), q.2]
              · refine Or.inr (Or.inr (Or.inr (Or.inr (Or.inl ⟨q.1, ?_⟩))))
                rw [← hY]
                show (if T s = 46 ∨ T s = 59 then T s else 2) = 59
                rw [if_pos (Or.inr q.2), q.2]
              · refine Or.inr (Or.inr (Or.inr (Or.inr (Or.inr ⟨q.1, ?_⟩))))
                rw [← hY]
                show (if T s = 46 ∨ T s = 59 then T s else 2) = 2
                rw [if_neg (fun z => z.elim q.2.1 q.2.2)]
            · rw [u1_n j4, u1_n j5, u1_n j6, u1_n j4]
          refine w_aload_n dX7_readToken_224 rfl rfl ?_
          refine w_iload_n dX7_readToken_225 rfl rfl ?_
          refine w_bipush dX7_readToken_226 (by decide) ?_
          refine w_icmp_ne 235 dX7_readToken_228 (by decide) (by first | assumption | (unfold ok32 at *; omega)) (by first | assumption | (unfold ok32 at *; omega)) (fun hd => ?_) (fun hd => ?_)
          · refine w_iload_n dX7_readToken_235 rfl rfl ?_
            refine w_bipush dX7_readToken_236 (by decide) ?_
            refine w_icmp_ne 245 dX7_readToken_238 (by decide) (by first | assumption | (unfold ok32 at *; omega)) (by first | assumption | (unfold ok32 at *; omega)) (fun hsc => ?_) (fun hsc => ?_)
            · refine w_iconst dX7_readToken_245 ?_
              exact fin2 5 (Or.inr (Or.inr ⟨rfl, hd, hsc⟩))
            · refine w_iconst dX7_readToken_241 ?_
              refine w_goto 246 dX7_readToken_242 (by decide) ?_
              exact fin2 4 (Or.inr (Or.inl ⟨rfl, by omega⟩))
          · refine w_iconst dX7_readToken_231 ?_
            refine w_goto 246 dX7_readToken_232 (by decide) ?_
            exact fin2 3 (Or.inl ⟨rfl, by omega⟩)
        · rw [if_pos hdg] at hY
          refine w_aload_n dX7_readToken_145 rfl rfl ?_
          refine w_iconst dX7_readToken_146 ?_
          refine rd_pf5 fX7_62 dX7_readToken_147 ?_
          refine w_aload_n dX7_readToken_150 rfl rfl ?_
          refine w_iconst dX7_readToken_151 ?_
          refine rd_pf7 fX7_89 dX7_readToken_152 ?_
          obtain ⟨A, hA⟩ : ∃ A, fgN T n 301 s 0 = A := ⟨_, rfl⟩
          rw [hA] at hY
          have lp : ∀ (f b : Nat) (v m : Int), n < b + f → b ≤ n → VR v m → fgN T n f b m = A → wp mX7_readToken 155 [.ref a, .int (zI (T s))] [] (RDH a ba (u1 (u1 (u1 (u1 bi 4 (b : Int)) 6 (s : Int)) 5 2) 7 v) h0) 0 0 (px none (fun bj : Nat → Int => TKP T n bi bj Y) (fun bj => RDH a ba bj h0)) := by
            have ende : ∀ (b : Nat) (v m : Int), VR v m → (b, m) = A → wp mX7_readToken 259 [.ref a, .int (zI (T s))] [] (RDH a ba (u1 (u1 (u1 (u1 bi 4 (b : Int)) 6 (s : Int)) 5 2) 7 v) h0) 0 0 (px none (fun bj : Nat → Int => TKP T n bi bj Y) (fun bj => RDH a ba bj h0)) := by
              intro b v m hv he
              rw [← he] at hY
              refine x_vret rfl dX7_readToken_259 ⟨rfl, u1 (u1 (u1 (u1 bi 4 (b : Int)) 6 (s : Int)) 5 2) 7 v, ⟨?_, ?_, Or.inr (Or.inr (Or.inl ⟨rfl, ?_, ?_⟩)), fun j j4 j5 j6 j7 => ?_⟩, rfl⟩
              · rw [← hY]; rfl
              · rw [← hY]; rfl
              · rw [← hY]
              · rw [← hY]; exact hv
              · rw [u1_n j7, u1_n j5, u1_n j6, u1_n j4]
            intro f
            induction f with
            | zero => intro b v m hf hb; omega
            | succ f ih =>
              intro b v m hf hb hv he
              unfold fgN at he
              refine w_aload_n dX7_readToken_155 rfl rfl ?_
              refine w_getf fX7_28 dX7_readToken_156 RD0 rfl ?_
              refine w_aload_n dX7_readToken_159 rfl rfl ?_
              refine w_getf fX7_25 dX7_readToken_160 RD0 rfl ?_
              rw [show (u1 (u1 (u1 (u1 bi 4 (b : Int)) 6 (s : Int)) 5 2) 7 v) 4 = (b : Int) from rfl, show (u1 (u1 (u1 (u1 bi 4 (b : Int)) 6 (s : Int)) 5 2) 7 v) 1 = bi 1 from rfl, h1]
              refine w_icmp_ge 259 dX7_readToken_163 (by decide) (by first | assumption | (unfold ok32 at *; omega)) (by first | assumption | (unfold ok32 at *; omega)) (fun hc => ?_) (fun hc => ?_)
              · rw [byt_out (show ¬ b < n by omega), if_neg (by omega)] at he
                exact ende b v m hv he
              · have hbn : b < n := by omega
                have hTb := hT b
                rw [byt_in hbn] at he
                refine w_aload_n dX7_readToken_166 rfl rfl ?_
                refine w_getf fX7_9 dX7_readToken_167 RD0 rfl ?_
                refine w_aload_n dX7_readToken_170 rfl rfl ?_
                refine w_getf fX7_28 dX7_readToken_171 RD0 rfl ?_
                rw [show (u1 (u1 (u1 (u1 bi 4 (b : Int)) 6 (s : Int)) 5 2) 7 v) 4 = (b : Int) from rfl]
                refine w_iald b RD1 rfl (by omega) (by decide) dX7_readToken_174 ?_
                rw [hTT]
                refine wc_S (Z := mX7_isDigit) (As := [_]) (c7_isDigit (hTr b)) kX7_isDigit lX7_115 sX7_isDigit dX7_readToken_175 rfl rfl rfl (Nat.le_of_ble_eq_true rfl) ⟨Nat.le_of_ble_eq_true rfl, Nat.le_of_ble_eq_true rfl⟩ ?_
                refine w_ifb_eq 259 dX7_readToken_178 (by decide) (fun hd => ?_) (fun hd => ?_)
                · rw [if_neg hd] at he
                  exact ende b v m hv he
                · rw [if_pos hd] at he
                  have hvr : 0 ≤ v ∧ v ≤ 1000 := by rcases hv with q | q <;> omega
                  refine w_aload_n dX7_readToken_181 rfl rfl ?_
                  refine w_aload_n dX7_readToken_182 rfl rfl ?_
                  refine w_getf fX7_89 dX7_readToken_183 RD0 rfl ?_
                  rw [show (u1 (u1 (u1 (u1 bi 4 (b : Int)) 6 (s : Int)) 5 2) 7 v) 7 = v from rfl]
                  refine w_bipush dX7_readToken_186 (by decide) ?_
                  refine w_imul dX7_readToken_188 ?_
                  refine w_aload_n dX7_readToken_189 rfl rfl ?_
                  refine w_getf fX7_9 dX7_readToken_190 RD0 rfl ?_
                  refine w_aload_n dX7_readToken_193 rfl rfl ?_
                  refine w_getf fX7_28 dX7_readToken_194 RD0 rfl ?_
                  rw [show (u1 (u1 (u1 (u1 bi 4 (b : Int)) 6 (s : Int)) 5 2) 7 v) 4 = (b : Int) from rfl]
                  refine w_iald b RD1 rfl (by omega) (by decide) dX7_readToken_197 ?_
                  rw [hTT]
                  refine w_iadd dX7_readToken_198 ?_
                  refine w_bipush dX7_readToken_199 (by decide) ?_
                  refine w_isub dX7_readToken_201 ?_
                  refine w_sipush dX7_readToken_202 (by decide) ?_
                  refine w_mmin lX7_118 sJ9_min_7cf53 kJ9_min_7cf53.2.1 kJ9_min_7cf53.1 (by unfold ok32; omega) (by unfold ok32; omega) rfl (Nat.le_of_ble_eq_true rfl) (Nat.le_of_ble_eq_true rfl) dX7_readToken_205 ?_
                  refine rd_pf7 fX7_89 dX7_readToken_208 ?_
                  refine w_aload_n dX7_readToken_211 rfl rfl ?_
                  refine w_dup dX7_readToken_212 rfl ?_
                  refine w_getf fX7_28 dX7_readToken_213 RD0 rfl ?_
                  obtain ⟨w, hw⟩ : ∃ w, (if (1000 : Int) < v * 10 + T b - 48 then (1000 : Int) else v * 10 + T b - 48) = w := ⟨_, rfl⟩
                  rw [hw]
                  rw [show (u1 (u1 (u1 (u1 (u1 bi 4 (b : Int)) 6 (s : Int)) 5 2) 7 v) 7 w) 4 = (b : Int) from rfl]
                  refine w_iconst dX7_readToken_216 ?_
                  refine w_iadd dX7_readToken_217 ?_
                  refine rd_pf4 fX7_28 dX7_readToken_218 ?_
                  refine w_goto 155 dX7_readToken_221 (by decide) ?_
                  refine w_cast rfl rfl (show _ = RDH a ba (u1 (u1 (u1 (u1 bi 4 ((b + 1 : Nat) : Int)) 6 (s : Int)) 5 2) 7 w) h0 from ?_) (ih (b + 1) w (if 9999 < m then m else 10 * m + T b - 48) (by omega) (by omega) ?_ he)
                  · congr 1
                    funext j
                    unfold u1
                    push_cast
                    by_cases j4 : j = 4
                    · simp [j4]
                    · by_cases j7 : j = 7
                      · simp [j7]
                      · simp [j4, j7]
                  · rw [← hw]
                    unfold VR
                    rcases hv with q | q
                    · rw [if_neg (show ¬ 9999 < m by omega)]
                      split
                      · right; omega
                      · by_cases h1000 : v * 10 + T b - 48 = 1000
                        · right; omega
                        · left; omega
                    · rw [if_pos (show (1000 : Int) < v * 10 + T b - 48 by omega)]
                      right
                      split <;> omega
          refine w_cast rfl rfl ?_ (lp 301 s 0 0 (by omega) hs (Or.inl ⟨rfl, by omega, by omega⟩) hA)
          rfl
      · rw [if_neg (by omega), if_pos hl] at hY
        refine w_aload_n dX7_readToken_94 rfl rfl ?_
        refine w_iconst dX7_readToken_95 ?_
        refine rd_pf5 fX7_62 dX7_readToken_96 ?_
        obtain ⟨A, hA⟩ : ∃ A, ltN T n 301 s = A := ⟨_, rfl⟩
        rw [hA] at hY
        have lp : ∀ (f b : Nat), n < b + f → b ≤ n → ltN T n f b = A → wp mX7_readToken 99 [.ref a, .int (zI (T s))] [] (RDH a ba (u1 (u1 (u1 bi 4 (b : Int)) 6 (s : Int)) 5 1) h0) 0 0 (px none (fun bj : Nat → Int => TKP T n bi bj Y) (fun bj => RDH a ba bj h0)) := by
          have ende : ∀ (b : Nat), b = A → wp mX7_readToken 259 [.ref a, .int (zI (T s))] [] (RDH a ba (u1 (u1 (u1 bi 4 (b : Int)) 6 (s : Int)) 5 1) h0) 0 0 (px none (fun bj : Nat → Int => TKP T n bi bj Y) (fun bj => RDH a ba bj h0)) := by
            intro b he
            rw [← he] at hY
            refine x_vret rfl dX7_readToken_259 ⟨rfl, u1 (u1 (u1 bi 4 (b : Int)) 6 (s : Int)) 5 1, ⟨?_, ?_, Or.inr (Or.inl ⟨rfl, ?_⟩), fun j j4 j5 j6 j7 => ?_⟩, rfl⟩
            · rw [← hY]; rfl
            · rw [← hY]; rfl
            · rw [← hY]
            · rw [u1_n j5, u1_n j6, u1_n j4]
          intro f
          induction f with
          | zero => intro b hf hb; omega
          | succ f ih =>
            intro b hf hb he
            unfold ltN at he
            refine w_aload_n dX7_readToken_99 rfl rfl ?_
            refine w_getf fX7_28 dX7_readToken_100 RD0 rfl ?_
            refine w_aload_n dX7_readToken_103 rfl rfl ?_
            refine w_getf fX7_25 dX7_readToken_104 RD0 rfl ?_
            rw [show (u1 (u1 (u1 bi 4 (b : Int)) 6 (s : Int)) 5 1) 4 = (b : Int) from rfl, show (u1 (u1 (u1 bi 4 (b : Int)) 6 (s : Int)) 5 1) 1 = bi 1 from rfl, h1]
            refine w_icmp_ge 259 dX7_readToken_107 (by decide) (by first | assumption | (unfold ok32 at *; omega)) (by first | assumption | (unfold ok32 at *; omega)) (fun hc => ?_) (fun hc => ?_)
            · rw [byt_out (show ¬ b < n by omega), if_neg (by omega)] at he
              exact ende b he
            · have hbn : b < n := by omega
              rw [byt_in hbn] at he
              refine w_aload_n dX7_readToken_110 rfl rfl ?_
              refine w_getf fX7_9 dX7_readToken_111 RD0 rfl ?_
              refine w_aload_n dX7_readToken_114 rfl rfl ?_
              refine w_getf fX7_28 dX7_readToken_115 RD0 rfl ?_
              rw [show (u1 (u1 (u1 bi 4 (b : Int)) 6 (s : Int)) 5 1) 4 = (b : Int) from rfl]
              refine w_iald b RD1 rfl (by omega) (by decide) dX7_readToken_118 ?_
              rw [hTT]
              refine wc_S (Z := mX7_isLetter) (As := [_]) (c7_isLetter (hTr b)) kX7_isLetter lX7_111 sX7_isLetter dX7_readToken_119 rfl rfl rfl (Nat.le_of_ble_eq_true rfl) ⟨Nat.le_of_ble_eq_true rfl, Nat.le_of_ble_eq_true rfl⟩ ?_
              refine w_ifb_eq 259 dX7_readToken_122 (by decide) (fun hd => ?_) (fun hd => ?_)
              · rw [if_neg hd] at he
                exact ende b he
              · rw [if_pos hd] at he
                refine w_aload_n dX7_readToken_125 rfl rfl ?_
                refine w_dup dX7_readToken_126 rfl ?_
                refine w_getf fX7_28 dX7_readToken_127 RD0 rfl ?_
                rw [show (u1 (u1 (u1 bi 4 (b : Int)) 6 (s : Int)) 5 1) 4 = (b : Int) from rfl]
                refine w_iconst dX7_readToken_130 ?_
                refine w_iadd dX7_readToken_131 ?_
                refine rd_pf4 fX7_28 dX7_readToken_132 ?_
                refine w_goto 99 dX7_readToken_135 (by decide) ?_
                refine w_cast rfl rfl (show _ = RDH a ba (u1 (u1 (u1 bi 4 ((b + 1 : Nat) : Int)) 6 (s : Int)) 5 1) h0 from ?_) (ih (b + 1) (by omega) (by omega) he)
                congr 1
                funext j
                unfold u1
                push_cast
                by_cases j4 : j = 4
                · simp [j4]
                · simp [j4]
        refine w_cast rfl rfl ?_ (lp 301 s (by omega) hs hA)
        rfl
  obtain ⟨A, hA⟩ : ∃ A, skp T n 301 k = A := ⟨_, rfl⟩
  have lp : ∀ (f b : Nat) (x1 : Value), n < b + f → b ≤ n → skp T n f b = A → wp mX7_readToken 0 [.ref a, x1] [] (RDH a ba (u1 bi 4 (b : Int)) h0) 0 0 (px none (fun bj : Nat → Int => TKP T n bi bj Y) (fun bj => RDH a ba bj h0)) := by
    intro f
    induction f with
    | zero => intro b x1 hf hb; omega
    | succ f ih =>
      intro b x1 hf hb he
      unfold skp at he
      refine w_aload_n dX7_readToken_0 rfl rfl ?_
      refine w_getf fX7_28 dX7_readToken_1 RD0 rfl ?_
      refine w_aload_n dX7_readToken_4 rfl rfl ?_
      refine w_getf fX7_25 dX7_readToken_5 RD0 rfl ?_
      rw [u1_s, show (u1 bi 4 (b : Int)) 1 = bi 1 from rfl, h1]
      refine w_icmp_ge 52 dX7_readToken_8 (by decide) (by first | assumption | (unfold ok32 at *; omega)) (by first | assumption | (unfold ok32 at *; omega)) (fun hc => ?_) (fun hc => ?_)
      · rw [byt_out (show ¬ b < n by omega), if_neg (by omega)] at he
        exact fin b x1 hb (hA.trans he.symm) (by rw [byt_out (show ¬ b < n by omega)]; omega)
      · have hbn : b < n := by omega
        have hbt : byt T n b = T b := byt_in hbn
        have hTb := hTr b
        have more : (T b = 32 ∨ T b = 10) → wp mX7_readToken 39 [.ref a, x1] [] (RDH a ba (u1 bi 4 (b : Int)) h0) 0 0 (px none (fun bj : Nat → Int => TKP T n bi bj Y) (fun bj => RDH a ba bj h0)) := by
          intro hq
          rw [hbt, if_pos hq] at he
          refine w_aload_n dX7_readToken_39 rfl rfl ?_
          refine w_dup dX7_readToken_40 rfl ?_
          refine w_getf fX7_28 dX7_readToken_41 RD0 rfl ?_
          rw [u1_s]
          refine w_iconst dX7_readToken_44 ?_
          refine w_iadd dX7_readToken_45 ?_
          refine rd_pf4 fX7_28 dX7_readToken_46 ?_
          refine w_goto 0 dX7_readToken_49 (by decide) ?_
          rw [u1_u1]
          have := ih (b + 1) x1 (by omega) (by omega) he
          push_cast at this
          exact this
        refine w_aload_n dX7_readToken_11 rfl rfl ?_
        refine w_getf fX7_9 dX7_readToken_12 RD0 rfl ?_
        refine w_aload_n dX7_readToken_15 rfl rfl ?_
        refine w_getf fX7_28 dX7_readToken_16 RD0 rfl ?_
        rw [u1_s]
        refine w_iald b RD1 rfl (by omega) (by decide) dX7_readToken_19 ?_
        rw [hTT]
        refine w_bipush dX7_readToken_20 (by decide) ?_
        refine w_icmp_eq 39 dX7_readToken_22 (by decide) (by first | assumption | (unfold ok32 at *; omega)) (by first | assumption | (unfold ok32 at *; omega)) (fun hq1 => ?_) (fun hq1 => ?_)
        · exact more (Or.inl hq1)
        · refine w_aload_n dX7_readToken_25 rfl rfl ?_
          refine w_getf fX7_9 dX7_readToken_26 RD0 rfl ?_
          refine w_aload_n dX7_readToken_29 rfl rfl ?_
          refine w_getf fX7_28 dX7_readToken_30 RD0 rfl ?_
          rw [u1_s]
          refine w_iald b RD1 rfl (by omega) (by decide) dX7_readToken_33 ?_
          rw [hTT]
          refine w_bipush dX7_readToken_34 (by decide) ?_
          refine w_icmp_ne 52 dX7_readToken_36 (by decide) (by first | assumption | (unfold ok32 at *; omega)) (by first | assumption | (unfold ok32 at *; omega)) (fun hq2 => ?_) (fun hq2 => ?_)
          · rw [hbt, if_neg (fun z => z.elim hq1 hq2)] at he
            exact fin b x1 hb (hA.trans he.symm) (by rw [hbt]; exact fun z => z.elim hq1 hq2)
          · exact more (Or.inr (by omega))
  refine w_cast rfl rfl ?_ (lp 301 k jk (by omega) hk hA)
  rw [← h4, u1_id]

