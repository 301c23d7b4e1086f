theorem cf_J0_isLatin1_aae02 : CFv yJ0_isLatin1_aae02 cJ0_isLatin1_aae02 1 (some .boolean) 0 := ⟨⟨q_code_J0_isLatin1_aae02, q_init_J0, ⟨by decide, by decide, by decide +kernel⟩, by decide⟩, q_im_J0_isLatin1_aae02, q_sel_J0_isLatin1_aae02⟩
theorem cf_J0_coder_7d493 : CFv yJ0_coder_7d493 cJ0_coder_7d493 1 (some .byte) 0 := ⟨⟨q_code_J0_coder_7d493, q_init_J0, ⟨by decide, by decide, by decide +kernel⟩, by decide⟩, q_im_J0_coder_7d493, q_sel_J0_coder_7d493⟩
theorem cf_J0_length_8abf5 : CFv yJ0_length_8abf5 cJ0_length_8abf5 1 (some .int) 0 := ⟨⟨q_code_J0_length_8abf5, q_init_J0, ⟨by decide, by decide, by decide +kernel⟩, by decide⟩, q_im_J0_length_8abf5, q_sel_J0_length_8abf5⟩
theorem cf_J0_indexOf_7cf53 : CFv yJ0_indexOf_7cf53 cJ0_indexOf_7cf53 3 (some .int) 2 := ⟨⟨q_code_J0_indexOf_7cf53, q_init_J0, ⟨by decide, by decide, by decide +kernel⟩, by decide⟩, q_im_J0_indexOf_7cf53, q_sel_J0_indexOf_7cf53⟩
theorem cf_J0_indexOf_0f7a4 : CFv yJ0_indexOf_0f7a4 cJ0_indexOf_0f7a4 2 (some .int) 1 := ⟨⟨q_code_J0_indexOf_0f7a4, q_init_J0, ⟨by decide, by decide, by decide +kernel⟩, by decide⟩, q_im_J0_indexOf_0f7a4, q_sel_J0_indexOf_0f7a4⟩
theorem cf_J1_canEncode_9a6ad : CFs yJ1_canEncode_9a6ad cJ1_canEncode_9a6ad 1 (some .boolean) 1 := ⟨⟨q_code_J1_canEncode_9a6ad, q_init_J1, ⟨by decide, by decide, by decide +kernel⟩, by decide⟩, q_st_J1_canEncode_9a6ad⟩
theorem cf_J1_indexOf_4cfef : CFs yJ1_indexOf_4cfef cJ1_indexOf_4cfef 4 (some .int) 4 := ⟨⟨q_code_J1_indexOf_4cfef, q_init_J1, ⟨by decide, by decide, by decide +kernel⟩, by decide⟩, q_st_J1_indexOf_4cfef⟩
theorem cf_J1_indexOfChar_4cfef : CFs yJ1_indexOfChar_4cfef cJ1_indexOfChar_4cfef 6 (some .int) 4 := ⟨⟨q_code_J1_indexOfChar_4cfef, q_init_J1, ⟨by decide, by decide, by decide +kernel⟩, by decide⟩, q_st_J1_indexOfChar_4cfef⟩
theorem V_sgetf {ε : eT} {κ : kT} {cc : ByteArray} {nL d : Nat} {own : String} (C : Act ε κ cc nL own d) {pc k n : Nat} {lv : List (Nat × Value)} {st : List Value} {ws : va_W} {o nm ds : String} {index q : Nat} {v : Value} (hE : va_OF o nm ds v q (kA κ) (ks κ) (ks κ).heap) (hw : Cond.fieldLink own index o nm ds ∈ tbW) (hdg : decode cc pc = .ok (.getfield index, 3)) (K : V ε κ nL (pc + 3) lv (v :: st) ws k n) : V ε κ nL pc lv (.ref q :: st) ws k n := fun H locs ls hP hD hS hl => vk_getf C.1.1 C.1.2.1 hE hS C.1.2.2.2.1 (C.1.2.2.2.2 _ hw) (fun _ h => h) hdg (K H locs ls hP hD hS hl)
theorem V_tb {ε : eT} {κ : kT} {cc : ByteArray} {nL d : Nat} {own : String} (C : Act ε κ cc nL own d) {pc k n : Nat} {lv : List (Nat × Value)} {st : List Value} {ws : va_W} {t z : Nat} {f : Nat → Value} {i : Int32} {v : Value} (hT : va_T .byte t z f (kA κ) (ks κ) (ks κ).heap) (hin : vp_in i z) (hv : f i.toNatClampNeg = v) (hdg : decode cc pc = .ok (.baload, 1)) (K : V ε κ nL (pc + 1) lv (v :: st) ws k n) : V ε κ nL pc lv (.int i :: .ref t :: st) ws k n := fun H locs ls hP hD hS hl => va_tb C.1.1 C.1.2.1 hT hS hin hv hdg (K H locs ls hP hD hS hl)
theorem V_callT {ε : eT} {κ : kT} {cc : ByteArray} {nL d : Nat} {own : String} (C : Act ε κ cc nL own d) {y : MethodName} {cy : ByteArray} {nY : Nat} {ret : Option FieldType} {na : Nat} (F : CFv y cy nY ret na) {index d' i : Nat} {As rest : List Value} {ws : va_W} {v : Value} {pc k n : Nat} {lv : List (Nat × Value)} {st0 : List Value}
    (hi : i < 2) (hy : y.cls = "java/lang/String") (hM : CT ε y cy nY ret d' (.ref (eZ ε (2 + i)) :: As) ws (fun r w => r = some v ∧ w = ws) 0 0) (hl : Cond.methodLink own index y ∈ tbW) (hdg : decode cc pc = .ok (.invokevirtual index, 3)) (hd : d' + 1 ≤ d) (hn : As.length = na) (hst : st0 = As.reverse ++ .ref (eZ ε (2 + i)) :: rest) (hw : (rest.map fun v => v.category).sum ≤ 8) (hf : k ≤ (kR κ).cells ∧ n ≤ (kR κ).slots)
    (K : V ε κ nL (pc + 3) lv (v :: rest) ws k n) : V ε κ nL pc lv st0 ws k n := by
  refine V_after C (post := fun r w => r = some v ∧ w = ws) (av := .ref (eZ ε (2 + i)) :: As) (mc := 0) (ms := 0) (rest := rest) (fun H locs ls hP hD hS hl2 => ?_) (fun r w h => by obtain ⟨rfl, rfl⟩ := h; exact K)
  have F2 := F.1.2.2.2
  have C5 := C.2.2.2.2.2
  exact va_runV C.1 (hM H.size) (cwV na C.1.2.2.2.2 (gd_cons hl (gd_cons F.2.1 (gd_cons F.2.2 (gd_cons F.1.2.1 (gd_M F.1.1))))) rfl rfl rfl ⟨rfl, F.1.2.2.1⟩ ⟨by show d' + 1 ≤ _; omega, by show 8 + (nY + 11) + 44 * d' ≤ _; omega⟩)
    ⟨PreC_blind, by rw [hy]; exact vk_recv (i := i) (adK := fun i => eZ ε (2 + i)) C.2.2.2.2.1.2.2.2.2.2.1 hi hS, PreC_of C hP hD hS⟩ rfl hn hl2.1 hst (lv_room hw) hdg hf
theorem V_callW {ε : eT} {κ : kT} {cc : ByteArray} {nL d : Nat} {own : String} (C : Act ε κ cc nL own d) {y : MethodName} {cy : ByteArray} {nY : Nat} {ret : Option FieldType} {na : Nat} (F : CFs y cy nY ret na) {index d' : Nat} {As rest : List Value} {ws : va_W} {v : Value} {pc k n : Nat} {lv : List (Nat × Value)} {st0 : List Value}
    (hM : CT ε y cy nY ret d' As ws (fun r w => r = some v ∧ w = ws) 0 0) (hl : Cond.methodLink own index y ∈ tbW) (hdg : decode cc pc = .ok (.invokestatic index, 3)) (hd : d' + 1 ≤ d) (hn : As.length = na) (hst : st0 = As.reverse ++ rest) (hw : (rest.map fun v => v.category).sum ≤ 8) (hf : k ≤ (kR κ).cells ∧ n ≤ (kR κ).slots)
    (K : V ε κ nL (pc + 3) lv (v :: rest) ws k n) : V ε κ nL pc lv st0 ws k n := V_callsG C F hM hl hd hn hst hw hdg hf (fun r w h => by obtain ⟨rfl, rfl⟩ := h; exact K)
theorem j_isLatin1 {ε : eT} {ws : va_W} {i : Nat} (hi : i < 2) : CT ε yJ0_isLatin1_aae02 cJ0_isLatin1_aae02 1 (some .boolean) 1 [.ref (eZ ε (2 + i))] ws (fun v w => v = some (.int 1) ∧ w = ws) 0 0 := by
  refine CT_of (by decide) (Nat.le_of_ble_eq_true rfl) (fun κ C X _ => ?_)
  have hE := C.2.2.2.2.1.2.2.2.2.2.1.1 i hi
  refine V_gets C C.2.2.2.2.1.2.2.2.2.1 q_FL_J0_38 dJ0_isLatin1_aae02_0 ?_
  refine V_if_eq C dJ0_isLatin1_aae02_3 rfl (fun c => absurd c (by decide)) (fun _ => ?_)
  refine V_aload_n C 0 dJ0_isLatin1_aae02_6 rfl rfl ?_
  refine V_sgetf C hE.2.1 q_FL_J0_15 dJ0_isLatin1_aae02_7 ?_
  refine V_if_ne C dJ0_isLatin1_aae02_10 rfl (fun c => absurd rfl c) (fun _ => ?_)
  refine V_iconst C dJ0_isLatin1_aae02_13 kc_i_1 ?_
  refine V_goto C dJ0_isLatin1_aae02_14 rfl ?_
  exact V_zret C nb_1 X dJ0_isLatin1_aae02_18 ⟨rfl, rfl⟩
theorem j_coder {ε : eT} {ws : va_W} {i : Nat} (hi : i < 2) : CT ε yJ0_coder_7d493 cJ0_coder_7d493 1 (some .byte) 1 [.ref (eZ ε (2 + i))] ws (fun v w => v = some (.int 0) ∧ w = ws) 0 0 := by
  refine CT_of (by decide) (Nat.le_of_ble_eq_true rfl) (fun κ C X _ => ?_)
  have hE := C.2.2.2.2.1.2.2.2.2.2.1.1 i hi
  refine V_gets C C.2.2.2.2.1.2.2.2.2.1 q_FL_J0_38 dJ0_coder_7d493_0 ?_
  refine V_if_eq C dJ0_coder_7d493_3 rfl (fun c => absurd c (by decide)) (fun _ => ?_)
  refine V_aload_n C 0 dJ0_coder_7d493_6 rfl rfl ?_
  refine V_sgetf C hE.2.1 q_FL_J0_15 dJ0_coder_7d493_7 ?_
  refine V_goto C dJ0_coder_7d493_10 rfl ?_
  exact V_zret C (ty := .byte) (by decide) X dJ0_coder_7d493_14 ⟨rfl, rfl⟩
theorem j_length {ε : eT} {ws : va_W} {i : Nat} (hi : i < 2) : CT ε yJ0_length_8abf5 cJ0_length_8abf5 1 (some .int) 3 [.ref (eZ ε (2 + i))] ws (fun v w => v = some (.int 5) ∧ w = ws) 0 0 := by
  refine CT_of (by decide) (Nat.le_of_ble_eq_true rfl) (fun κ C X _ => ?_)
  have hE := C.2.2.2.2.1.2.2.2.2.2.1.1 i hi
  refine V_aload_n C 0 dJ0_length_8abf5_0 rfl rfl ?_
  refine V_sgetf C hE.2.2.1 q_FL_J0_9 dJ0_length_8abf5_1 ?_
  refine V_tlen C hE.2.2.2 dJ0_length_8abf5_4 ?_
  refine V_aload_n C 0 dJ0_length_8abf5_5 rfl rfl ?_
  refine V_callT C cf_J0_coder_7d493 hi rfl (j_coder hi) q_ML_J0_335 dJ0_length_8abf5_6 (by decide) rfl rfl (Nat.le_of_ble_eq_true rfl) ⟨Nat.zero_le _, Nat.zero_le _⟩ ?_
  refine V_ishr C dJ0_length_8abf5_9 ?_
  have e : Int32.ofNat (([5, 5] : List Nat).getD i 0) >>> ((0 : Int32) &&& 31) = 5 := by
    have : i = 0 ∨ i = 1 := by omega
    rcases this with rfl | rfl <;> decide
  exact V_iret C X dJ0_length_8abf5_10 ⟨by rw [e], rfl⟩
def encB (x : Int32) : Int32 := if x < 0 then 0 else if 255 < x then 0 else 1
theorem j_canEncode {ε : eT} {ws : va_W} {x : Int32} : CT ε yJ1_canEncode_9a6ad cJ1_canEncode_9a6ad 1 (some .boolean) 1 [.int x] ws (fun v w => v = some (.int (encB x)) ∧ w = ws) 0 0 := by
  refine CT_of (by decide) (Nat.le_of_ble_eq_true rfl) (fun κ C X _ => ?_)
  refine V_iload_n C 0 dJ1_canEncode_9a6ad_0 rfl rfl ?_
  refine V_if_lt C dJ1_canEncode_9a6ad_1 rfl (fun c => ?_) (fun c => ?_)
  · refine V_iconst C dJ1_canEncode_9a6ad_15 kc_i_0 ?_
    exact V_zret C nb_0 X dJ1_canEncode_9a6ad_16 ⟨by rw [encB, if_pos c], rfl⟩
  · refine V_iload_n C 0 dJ1_canEncode_9a6ad_4 rfl rfl ?_
    refine V_sipush C dJ1_canEncode_9a6ad_5 (v := 255) (by decide) ?_
    refine V_icmp_gt C dJ1_canEncode_9a6ad_8 rfl (fun c2 => ?_) (fun c2 => ?_)
    · refine V_iconst C dJ1_canEncode_9a6ad_15 kc_i_0 ?_
      exact V_zret C nb_0 X dJ1_canEncode_9a6ad_16 ⟨by rw [encB, if_neg c, if_pos c2], rfl⟩
    · refine V_iconst C dJ1_canEncode_9a6ad_11 kc_i_1 ?_
      refine V_goto C dJ1_canEncode_9a6ad_12 rfl ?_
      exact V_zret C nb_1 X dJ1_canEncode_9a6ad_16 ⟨by rw [encB, if_neg c, if_neg c2], rfl⟩
theorem enc_nI {x : Int32} (h : ¬ encB x = 0) : ∃ n : Nat, n < 256 ∧ x = nI n := by
  unfold encB at h
  split at h
  · exact absurd rfl h
  next h1 =>
    split at h
    · exact absurd rfl h
    next h2 =>
      obtain ⟨j, hj, e⟩ := nI_of2 (x := x) (M := 255) (n := 255) (by decide) h1 (Int32.not_lt.mp h2)
      exact ⟨j, by omega, e⟩
theorem eqb0_118 : ∀ n, n < 256 → ((118 : Int32) = (nI n).toInt8.toInt32 ↔ nI n = 118) := by decide +kernel
theorem eqb0_109 : ∀ n, n < 256 → ((109 : Int32) = (nI n).toInt8.toInt32 ↔ nI n = 109) := by decide +kernel
theorem eqb0_112 : ∀ n, n < 256 → ((112 : Int32) = (nI n).toInt8.toInt32 ↔ nI n = 112) := by decide +kernel
theorem eqb0_114 : ∀ n, n < 256 → ((114 : Int32) = (nI n).toInt8.toInt32 ↔ nI n = 114) := by decide +kernel
theorem eqb0_121 : ∀ n, n < 256 → ((121 : Int32) = (nI n).toInt8.toInt32 ↔ nI n = 121) := by decide +kernel
set_option maxRecDepth 20000 in
theorem j_indexOfChar0 {ε : eT} {ws : va_W} {n : Nat} (hn : n < 256) : CT ε yJ1_indexOfChar_4cfef cJ1_indexOfChar_4cfef 6 (some .int) 1 [.ref (eZ ε (4 + 0)), .int (nI n), .int 0, .int 5] ws (fun v w => v = some (.int (idxS 2 (nI n))) ∧ w = ws) 0 0 := by
  refine CT_of (by decide) (Nat.le_of_ble_eq_true rfl) (fun κ C X _ => ?_)
  have hT := (C.2.2.2.2.1.2.2.2.2.2.1.1 0 (by decide)).2.2.2
  refine V_iload_n C 1 dJ1_indexOfChar_4cfef_0 rfl rfl ?_
  refine V_i2b C dJ1_indexOfChar_4cfef_1 ?_
  refine V_istore (lv' := [(4, .int (nI n).toInt8.toInt32), (0, .ref (eZ ε (4 + 0))), (1, .int (nI n)), (2, .int 0), (3, .int 5)]) C dJ1_indexOfChar_4cfef_2 (by decide) rfl ?_
  refine V_iload_n C 3 dJ1_indexOfChar_4cfef_4 rfl rfl ?_
  refine V_istore (lv' := [(5, .int 0), (4, .int (nI n).toInt8.toInt32), (0, .ref (eZ ε (4 + 0))), (1, .int (nI n)), (2, .int 0), (3, .int 5)]) C dJ1_indexOfChar_4cfef_5 (by decide) rfl ?_
  refine V_iload C 0 dJ1_indexOfChar_4cfef_7 rfl ?_
  refine V_iload_n C 5 dJ1_indexOfChar_4cfef_9 rfl rfl ?_
  refine V_icmp_ge C dJ1_indexOfChar_4cfef_10 rfl (fun c => absurd c (by decide)) (fun _ => ?_)
  refine V_aload_n C 2 dJ1_indexOfChar_4cfef_13 rfl rfl ?_
  refine V_iload C 0 dJ1_indexOfChar_4cfef_14 rfl ?_
  refine V_tb (v := .int 118) C hT (inb_in (by decide)) rfl dJ1_indexOfChar_4cfef_16 ?_
  refine V_iload C 1 dJ1_indexOfChar_4cfef_17 rfl ?_
  refine V_icmp_ne C dJ1_indexOfChar_4cfef_19 rfl (fun c0 => ?_) (fun c0 => ?_)
  rotate_left
  · refine V_iload C 0 dJ1_indexOfChar_4cfef_22 rfl ?_
    exact V_iret C X dJ1_indexOfChar_4cfef_24 ⟨by rw [idxS, if_pos rfl, if_pos ((eqb0_118 n hn).mp c0)], rfl⟩
  refine V_iinc (v := 1) (lv' := [(5, .int 1), (4, .int (nI n).toInt8.toInt32), (0, .ref (eZ ε (4 + 0))), (1, .int (nI n)), (2, .int 0), (3, .int 5)]) C 0 dJ1_indexOfChar_4cfef_25 rfl (by decide) (by decide) rfl ?_
  refine V_goto C dJ1_indexOfChar_4cfef_28 rfl ?_
  refine V_iload C 0 dJ1_indexOfChar_4cfef_7 rfl ?_
  refine V_iload_n C 5 dJ1_indexOfChar_4cfef_9 rfl rfl ?_
  refine V_icmp_ge C dJ1_indexOfChar_4cfef_10 rfl (fun c => absurd c (by decide)) (fun _ => ?_)
  refine V_aload_n C 2 dJ1_indexOfChar_4cfef_13 rfl rfl ?_
  refine V_iload C 0 dJ1_indexOfChar_4cfef_14 rfl ?_
  refine V_tb (v := .int 109) C hT (inb_in (by decide)) rfl dJ1_indexOfChar_4cfef_16 ?_
  refine V_iload C 1 dJ1_indexOfChar_4cfef_17 rfl ?_
  refine V_icmp_ne C dJ1_indexOfChar_4cfef_19 rfl (fun c1 => ?_) (fun c1 => ?_)
  rotate_left
  · refine V_iload C 0 dJ1_indexOfChar_4cfef_22 rfl ?_
    exact V_iret C X dJ1_indexOfChar_4cfef_24 ⟨by rw [idxS, if_pos rfl, if_neg (fun z => c0 ((eqb0_118 n hn).mpr z)), if_pos ((eqb0_109 n hn).mp c1)], rfl⟩
  refine V_iinc (v := 2) (lv' := [(5, .int 2), (4, .int (nI n).toInt8.toInt32), (0, .ref (eZ ε (4 + 0))), (1, .int (nI n)), (2, .int 0), (3, .int 5)]) C 0 dJ1_indexOfChar_4cfef_25 rfl (by decide) (by decide) rfl ?_
  refine V_goto C dJ1_indexOfChar_4cfef_28 rfl ?_
  refine V_iload C 0 dJ1_indexOfChar_4cfef_7 rfl ?_
  refine V_iload_n C 5 dJ1_indexOfChar_4cfef_9 rfl rfl ?_
  refine V_icmp_ge C dJ1_indexOfChar_4cfef_10 rfl (fun c => absurd c (by decide)) (fun _ => ?_)
  refine V_aload_n C 2 dJ1_indexOfChar_4cfef_13 rfl rfl ?_
  refine V_iload C 0 dJ1_indexOfChar_4cfef_14 rfl ?_
  refine V_tb (v := .int 112) C hT (inb_in (by decide)) rfl dJ1_indexOfChar_4cfef_16 ?_
  refine V_iload C 1 dJ1_indexOfChar_4cfef_17 rfl ?_
  refine V_icmp_ne C dJ1_indexOfChar_4cfef_19 rfl (fun c2 => ?_) (fun c2 => ?_)
  rotate_left
  · refine V_iload C 0 dJ1_indexOfChar_4cfef_22 rfl ?_
    exact V_iret C X dJ1_indexOfChar_4cfef_24 ⟨by rw [idxS, if_pos rfl, if_neg (fun z => c0 ((eqb0_118 n hn).mpr z)), if_neg (fun z => c1 ((eqb0_109 n hn).mpr z)), if_pos ((eqb0_112 n hn).mp c2)], rfl⟩
  refine V_iinc (v := 3) (lv' := [(5, .int 3), (4, .int (nI n).toInt8.toInt32), (0, .ref (eZ ε (4 + 0))), (1, .int (nI n)), (2, .int 0), (3, .int 5)]) C 0 dJ1_indexOfChar_4cfef_25 rfl (by decide) (by decide) rfl ?_
  refine V_goto C dJ1_indexOfChar_4cfef_28 rfl ?_
  refine V_iload C 0 dJ1_indexOfChar_4cfef_7 rfl ?_
  refine V_iload_n C 5 dJ1_indexOfChar_4cfef_9 rfl rfl ?_
  refine V_icmp_ge C dJ1_indexOfChar_4cfef_10 rfl (fun c => absurd c (by decide)) (fun _ => ?_)
  refine V_aload_n C 2 dJ1_indexOfChar_4cfef_13 rfl rfl ?_
  refine V_iload C 0 dJ1_indexOfChar_4cfef_14 rfl ?_
  refine V_tb (v := .int 114) C hT (inb_in (by decide)) rfl dJ1_indexOfChar_4cfef_16 ?_
  refine V_iload C 1 dJ1_indexOfChar_4cfef_17 rfl ?_
  refine V_icmp_ne C dJ1_indexOfChar_4cfef_19 rfl (fun c3 => ?_) (fun c3 => ?_)
  rotate_left
  · refine V_iload C 0 dJ1_indexOfChar_4cfef_22 rfl ?_
    exact V_iret C X dJ1_indexOfChar_4cfef_24 ⟨by rw [idxS, if_pos rfl, if_neg (fun z => c0 ((eqb0_118 n hn).mpr z)), if_neg (fun z => c1 ((eqb0_109 n hn).mpr z)), if_neg (fun z => c2 ((eqb0_112 n hn).mpr z)), if_pos ((eqb0_114 n hn).mp c3)], rfl⟩
  refine V_iinc (v := 4) (lv' := [(5, .int 4), (4, .int (nI n).toInt8.toInt32), (0, .ref (eZ ε (4 + 0))), (1, .int (nI n)), (2, .int 0), (3, .int 5)]) C 0 dJ1_indexOfChar_4cfef_25 rfl (by decide) (by decide) rfl ?_
  refine V_goto C dJ1_indexOfChar_4cfef_28 rfl ?_
  refine V_iload C 0 dJ1_indexOfChar_4cfef_7 rfl ?_
  refine V_iload_n C 5 dJ1_indexOfChar_4cfef_9 rfl rfl ?_
  refine V_icmp_ge C dJ1_indexOfChar_4cfef_10 rfl (fun c => absurd c (by decide)) (fun _ => ?_)
  refine V_aload_n C 2 dJ1_indexOfChar_4cfef_13 rfl rfl ?_
  refine V_iload C 0 dJ1_indexOfChar_4cfef_14 rfl ?_
  refine V_tb (v := .int 121) C hT (inb_in (by decide)) rfl dJ1_indexOfChar_4cfef_16 ?_
  refine V_iload C 1 dJ1_indexOfChar_4cfef_17 rfl ?_
  refine V_icmp_ne C dJ1_indexOfChar_4cfef_19 rfl (fun c4 => ?_) (fun c4 => ?_)
  rotate_left
  · refine V_iload C 0 dJ1_indexOfChar_4cfef_22 rfl ?_
    exact V_iret C X dJ1_indexOfChar_4cfef_24 ⟨by rw [idxS, if_pos rfl, if_neg (fun z => c0 ((eqb0_118 n hn).mpr z)), if_neg (fun z => c1 ((eqb0_109 n hn).mpr z)), if_neg (fun z => c2 ((eqb0_112 n hn).mpr z)), if_neg (fun z => c3 ((eqb0_114 n hn).mpr z)), if_pos ((eqb0_121 n hn).mp c4)], rfl⟩
  refine V_iinc (v := 5) (lv' := [(5, .int 5), (4, .int (nI n).toInt8.toInt32), (0, .ref (eZ ε (4 + 0))), (1, .int (nI n)), (2, .int 0), (3, .int 5)]) C 0 dJ1_indexOfChar_4cfef_25 rfl (by decide) (by decide) rfl ?_
  refine V_goto C dJ1_indexOfChar_4cfef_28 rfl ?_
  refine V_iload C 0 dJ1_indexOfChar_4cfef_7 rfl ?_
  refine V_iload_n C 5 dJ1_indexOfChar_4cfef_9 rfl rfl ?_
  refine V_icmp_ge C dJ1_indexOfChar_4cfef_10 rfl (fun _ => ?_) (fun c => absurd (by decide) c)
  refine V_iconst C dJ1_indexOfChar_4cfef_31 (v := -1) (by decide) ?_
  exact V_iret C X dJ1_indexOfChar_4cfef_32 ⟨by rw [idxS, if_pos rfl, if_neg (fun z => c0 ((eqb0_118 n hn).mpr z)), if_neg (fun z => c1 ((eqb0_109 n hn).mpr z)), if_neg (fun z => c2 ((eqb0_112 n hn).mpr z)), if_neg (fun z => c3 ((eqb0_114 n hn).mpr z)), if_neg (fun z => c4 ((eqb0_121 n hn).mpr z))], rfl⟩
theorem eqb1_118 : ∀ n, n < 256 → ((118 : Int32) = (nI n).toInt8.toInt32 ↔ nI n = 118) := by decide +kernel
theorem eqb1_115 : ∀ n, n < 256 → ((115 : Int32) = (nI n).toInt8.toInt32 ↔ nI n = 115) := by decide +kernel
theorem eqb1_99 : ∀ n, n < 256 → ((99 : Int32) = (nI n).toInt8.toInt32 ↔ nI n = 99) := by decide +kernel
theorem eqb1_117 : ∀ n, n < 256 → ((117 : Int32) = (nI n).toInt8.toInt32 ↔ nI n = 117) := by decide +kernel
theorem eqb1_114 : ∀ n, n < 256 → ((114 : Int32) = (nI n).toInt8.toInt32 ↔ nI n = 114) := by decide +kernel
set_option maxRecDepth 20000 in
theorem j_indexOfChar1 {ε : eT} {ws : va_W} {n : Nat} (hn : n < 256) : CT ε yJ1_indexOfChar_4cfef cJ1_indexOfChar_4cfef 6 (some .int) 1 [.ref (eZ ε (4 + 1)), .int (nI n), .int 0, .int 5] ws (fun v w => v = some (.int (idxS 3 (nI n))) ∧ w = ws) 0 0 := by
  refine CT_of (by decide) (Nat.le_of_ble_eq_true rfl) (fun κ C X _ => ?_)
  have hT := (C.2.2.2.2.1.2.2.2.2.2.1.1 1 (by decide)).2.2.2
  refine V_iload_n C 1 dJ1_indexOfChar_4cfef_0 rfl rfl ?_
  refine V_i2b C dJ1_indexOfChar_4cfef_1 ?_
  refine V_istore (lv' := [(4, .int (nI n).toInt8.toInt32), (0, .ref (eZ ε (4 + 1))), (1, .int (nI n)), (2, .int 0), (3, .int 5)]) C dJ1_indexOfChar_4cfef_2 (by decide) rfl ?_
  refine V_iload_n C 3 dJ1_indexOfChar_4cfef_4 rfl rfl ?_
  refine V_istore (lv' := [(5, .int 0), (4, .int (nI n).toInt8.toInt32), (0, .ref (eZ ε (4 + 1))), (1, .int (nI n)), (2, .int 0), (3, .int 5)]) C dJ1_indexOfChar_4cfef_5 (by decide) rfl ?_
  refine V_iload C 0 dJ1_indexOfChar_4cfef_7 rfl ?_
  refine V_iload_n C 5 dJ1_indexOfChar_4cfef_9 rfl rfl ?_
  refine V_icmp_ge C dJ1_indexOfChar_4cfef_10 rfl (fun c => absurd c (by decide)) (fun _ => ?_)
  refine V_aload_n C 2 dJ1_indexOfChar_4cfef_13 rfl rfl ?_
  refine V_iload C 0 dJ1_indexOfChar_4cfef_14 rfl ?_
  refine V_tb (v := .int 118) C hT (inb_in (by decide)) rfl dJ1_indexOfChar_4cfef_16 ?_
  refine V_iload C 1 dJ1_indexOfChar_4cfef_17 rfl ?_
  refine V_icmp_ne C dJ1_indexOfChar_4cfef_19 rfl (fun c0 => ?_) (fun c0 => ?_)
  rotate_left
  · refine V_iload C 0 dJ1_indexOfChar_4cfef_22 rfl ?_
    exact V_iret C X dJ1_indexOfChar_4cfef_24 ⟨by rw [idxS, if_neg (by decide), if_pos ((eqb1_118 n hn).mp c0)], rfl⟩
  refine V_iinc (v := 1) (lv' := [(5, .int 1), (4, .int (nI n).toInt8.toInt32), (0, .ref (eZ ε (4 + 1))), (1, .int (nI n)), (2, .int 0), (3, .int 5)]) C 0 dJ1_indexOfChar_4cfef_25 rfl (by decide) (by decide) rfl ?_
  refine V_goto C dJ1_indexOfChar_4cfef_28 rfl ?_
  refine V_iload C 0 dJ1_indexOfChar_4cfef_7 rfl ?_
  refine V_iload_n C 5 dJ1_indexOfChar_4cfef_9 rfl rfl ?_
  refine V_icmp_ge C dJ1_indexOfChar_4cfef_10 rfl (fun c => absurd c (by decide)) (fun _ => ?_)
  refine V_aload_n C 2 dJ1_indexOfChar_4cfef_13 rfl rfl ?_
  refine V_iload C 0 dJ1_indexOfChar_4cfef_14 rfl ?_
  refine V_tb (v := .int 115) C hT (inb_in (by decide)) rfl dJ1_indexOfChar_4cfef_16 ?_
  refine V_iload C 1 dJ1_indexOfChar_4cfef_17 rfl ?_
  refine V_icmp_ne C dJ1_indexOfChar_4cfef_19 rfl (fun c1 => ?_) (fun c1 => ?_)
  rotate_left
  · refine V_iload C 0 dJ1_indexOfChar_4cfef_22 rfl ?_
    exact V_iret C X dJ1_indexOfChar_4cfef_24 ⟨by rw [idxS, if_neg (by decide), if_neg (fun z => c0 ((eqb1_118 n hn).mpr z)), if_pos ((eqb1_115 n hn).mp c1)], rfl⟩
  refine V_iinc (v := 2) (lv' := [(5, .int 2), (4, .int (nI n).toInt8.toInt32), (0, .ref (eZ ε (4 + 1))), (1, .int (nI n)), (2, .int 0), (3, .int 5)]) C 0 dJ1_indexOfChar_4cfef_25 rfl (by decide) (by decide) rfl ?_
  refine V_goto C dJ1_indexOfChar_4cfef_28 rfl ?_
  refine V_iload C 0 dJ1_indexOfChar_4cfef_7 rfl ?_
  refine V_iload_n C 5 dJ1_indexOfChar_4cfef_9 rfl rfl ?_
  refine V_icmp_ge C dJ1_indexOfChar_4cfef_10 rfl (fun c => absurd c (by decide)) (fun _ => ?_)
  refine V_aload_n C 2 dJ1_indexOfChar_4cfef_13 rfl rfl ?_
  refine V_iload C 0 dJ1_indexOfChar_4cfef_14 rfl ?_
  refine V_tb (v := .int 99) C hT (inb_in (by decide)) rfl dJ1_indexOfChar_4cfef_16 ?_
  refine V_iload C 1 dJ1_indexOfChar_4cfef_17 rfl ?_
  refine V_icmp_ne C dJ1_indexOfChar_4cfef_19 rfl (fun c2 => ?_) (fun c2 => ?_)
  rotate_left
  · refine V_iload C 0 dJ1_indexOfChar_4cfef_22 rfl ?_
    exact V_iret C X dJ1_indexOfChar_4cfef_24 ⟨by rw [idxS, if_neg (by decide), if_neg (fun z => c0 ((eqb1_118 n hn).mpr z)), if_neg (fun z => c1 ((eqb1_115 n hn).mpr z)), if_pos ((eqb1_99 n hn).mp c2)], rfl⟩
  refine V_iinc (v := 3) (lv' := [(5, .int 3), (4, .int (nI n).toInt8.toInt32), (0, .ref (eZ ε (4 + 1))), (1, .int (nI n)), (2, .int 0), (3, .int 5)]) C 0 dJ1_indexOfChar_4cfef_25 rfl (by decide) (by decide) rfl ?_
  refine V_goto C dJ1_indexOfChar_4cfef_28 rfl ?_
  refine V_iload C 0 dJ1_indexOfChar_4cfef_7 rfl ?_
  refine V_iload_n C 5 dJ1_indexOfChar_4cfef_9 rfl rfl ?_
  refine V_icmp_ge C dJ1_indexOfChar_4cfef_10 rfl (fun c => absurd c (by decide)) (fun _ => ?_)
  refine V_aload_n C 2 dJ1_indexOfChar_4cfef_13 rfl rfl ?_
  refine V_iload C 0 dJ1_indexOfChar_4cfef_14 rfl ?_
  refine V_tb (v := .int 117) C hT (inb_in (by decide)) rfl dJ1_indexOfChar_4cfef_16 ?_
  refine V_iload C 1 dJ1_indexOfChar_4cfef_17 rfl ?_
  refine V_icmp_ne C dJ1_indexOfChar_4cfef_19 rfl (fun c3 => ?_) (fun c3 => ?_)
  rotate_left
  · refine V_iload C 0 dJ1_indexOfChar_4cfef_22 rfl ?_
    exact V_iret C X dJ1_indexOfChar_4cfef_24 ⟨by rw [idxS, if_neg (by decide), if_neg (fun z => c0 ((eqb1_118 n hn).mpr z)), if_neg (fun z => c1 ((eqb1_115 n hn).mpr z)), if_neg (fun z => c2 ((eqb1_99 n hn).mpr z)), if_pos ((eqb1_117 n hn).mp c3)], rfl⟩
  refine V_iinc (v := 4) (lv' := [(5, .int 4), (4, .int (nI n).toInt8.toInt32), (0, .ref (eZ ε (4 + 1))), (1, .int (nI n)), (2, .int 0), (3, .int 5)]) C 0 dJ1_indexOfChar_4cfef_25 rfl (by decide) (by decide) rfl ?_
  refine V_goto C dJ1_indexOfChar_4cfef_28 rfl ?_
  refine V_iload C 0 dJ1_indexOfChar_4cfef_7 rfl ?_
  refine V_iload_n C 5 dJ1_indexOfChar_4cfef_9 rfl rfl ?_
  refine V_icmp_ge C dJ1_indexOfChar_4cfef_10 rfl (fun c => absurd c (by decide)) (fun _ => ?_)
  refine V_aload_n C 2 dJ1_indexOfChar_4cfef_13 rfl rfl ?_
  refine V_iload C 0 dJ1_indexOfChar_4cfef_14 rfl ?_
  refine V_tb (v := .int 114) C hT (inb_in (by decide)) rfl dJ1_indexOfChar_4cfef_16 ?_
  refine V_iload C 1 dJ1_indexOfChar_4cfef_17 rfl ?_
  refine V_icmp_ne C dJ1_indexOfChar_4cfef_19 rfl (fun c4 => ?_) (fun c4 => ?_)
  rotate_left
  · refine V_iload C 0 dJ1_indexOfChar_4cfef_22 rfl ?_
    exact V_iret C X dJ1_indexOfChar_4cfef_24 ⟨by rw [idxS, if_neg (by decide), if_neg (fun z => c0 ((eqb1_118 n hn).mpr z)), if_neg (fun z => c1 ((eqb1_115 n hn).mpr z)), if_neg (fun z => c2 ((eqb1_99 n hn).mpr z)), if_neg (fun z => c3 ((eqb1_117 n hn).mpr z)), if_pos ((eqb1_114 n hn).mp c4)], rfl⟩
  refine V_iinc (v := 5) (lv' := [(5, .int 5), (4, .int (nI n).toInt8.toInt32), (0, .ref (eZ ε (4 + 1))), (1, .int (nI n)), (2, .int 0), (3, .int 5)]) C 0 dJ1_indexOfChar_4cfef_25 rfl (by decide) (by decide) rfl ?_
  refine V_goto C dJ1_indexOfChar_4cfef_28 rfl ?_
  refine V_iload C 0 dJ1_indexOfChar_4cfef_7 rfl ?_
  refine V_iload_n C 5 dJ1_indexOfChar_4cfef_9 rfl rfl ?_
  refine V_icmp_ge C dJ1_indexOfChar_4cfef_10 rfl (fun _ => ?_) (fun c => absurd (by decide) c)
  refine V_iconst C dJ1_indexOfChar_4cfef_31 (v := -1) (by decide) ?_
  exact V_iret C X dJ1_indexOfChar_4cfef_32 ⟨by rw [idxS, if_neg (by decide), if_neg (fun z => c0 ((eqb1_118 n hn).mpr z)), if_neg (fun z => c1 ((eqb1_115 n hn).mpr z)), if_neg (fun z => c2 ((eqb1_99 n hn).mpr z)), if_neg (fun z => c3 ((eqb1_117 n hn).mpr z)), if_neg (fun z => c4 ((eqb1_114 n hn).mpr z))], rfl⟩
theorem j_indexOfChar {ε : eT} {ws : va_W} {i n : Nat} (hi : i < 2) (hn : n < 256) : CT ε yJ1_indexOfChar_4cfef cJ1_indexOfChar_4cfef 6 (some .int) 1 [.ref (eZ ε (4 + i)), .int (nI n), .int 0, .int 5] ws (fun v w => v = some (.int (idxS (2 + i) (nI n))) ∧ w = ws) 0 0 := by
  have : i = 0 ∨ i = 1 := by omega
  rcases this with rfl | rfl
  · exact j_indexOfChar0 hn
  · exact j_indexOfChar1 hn
theorem idx_out {i : Nat} {x : Int32} (h : encB x = 0) : idxS (2 + i) x = -1 := by
  have k : ∀ b : Int32, encB b = 1 → ¬ x = b := fun b hb e => by rw [e, hb] at h; exact absurd h (by decide)
  have a1 := k 118 (by decide)
  have a2 := k 109 (by decide)
  have a3 := k 112 (by decide)
  have a4 := k 114 (by decide)
  have a5 := k 121 (by decide)
  have a6 := k 115 (by decide)
  have a7 := k 99 (by decide)
  have a8 := k 117 (by decide)
  unfold idxS
  rw [if_neg a1, if_neg a2, if_neg a3, if_neg a4, if_neg a5, if_neg a1, if_neg a6, if_neg a7, if_neg a8, if_neg a4]
  split <;> rfl
theorem j_indexOfL {ε : eT} {ws : va_W} {i : Nat} {x : Int32} (hi : i < 2) : CT ε yJ1_indexOf_4cfef cJ1_indexOf_4cfef 4 (some .int) 3 [.ref (eZ ε (4 + i)), .int x, .int 0, .int 5] ws (fun v w => v = some (.int (idxS (2 + i) x)) ∧ w = ws) 0 0 := by
  refine CT_of (by decide) (Nat.le_of_ble_eq_true rfl) (fun κ C X _ => ?_)
  have hT := (C.2.2.2.2.1.2.2.2.2.2.1.1 i hi).2.2.2
  refine V_iload_n C 1 dJ1_indexOf_4cfef_0 rfl rfl ?_
  refine V_callW C cf_J1_canEncode_9a6ad j_canEncode q_ML_J1_88 dJ1_indexOf_4cfef_1 (by decide) rfl rfl (Nat.le_of_ble_eq_true rfl) ⟨Nat.zero_le _, Nat.zero_le _⟩ ?_
  refine V_if_ne C dJ1_indexOf_4cfef_4 rfl (fun c => ?_) (fun c => ?_)
  · obtain ⟨n, hn, rfl⟩ := enc_nI c
    refine V_iload_n C 2 dJ1_indexOf_4cfef_9 rfl rfl ?_
    refine V_iconst C dJ1_indexOf_4cfef_10 kc_i_0 ?_
    refine V_mmax C q_ML_J1_92 (by decide) (Nat.le_of_ble_eq_true rfl) ⟨Nat.zero_le _, Nat.zero_le _⟩ dJ1_indexOf_4cfef_11 ?_
    refine V_eq C (st' := [.int 0]) (by decide) ?_
    refine V_istore_n (lv' := [(2, .int 0), (0, .ref (eZ ε (4 + i))), (1, .int (nI n)), (3, .int 5)]) C dJ1_indexOf_4cfef_14 rfl (by decide) rfl ?_
    refine V_iload_n C 3 dJ1_indexOf_4cfef_15 rfl rfl ?_
    refine V_aload_n C 1 dJ1_indexOf_4cfef_16 rfl rfl ?_
    refine V_tlen C hT dJ1_indexOf_4cfef_17 ?_
    refine V_mmin C q_ML_J1_38 (by decide) (Nat.le_of_ble_eq_true rfl) ⟨Nat.zero_le _, Nat.zero_le _⟩ dJ1_indexOf_4cfef_18 ?_
    refine V_eq C (st' := [.int 5]) ?_ ?_
    · have : i = 0 ∨ i = 1 := by omega
      rcases this with rfl | rfl <;> decide
    refine V_istore_n (lv' := [(3, .int 5), (2, .int 0), (0, .ref (eZ ε (4 + i))), (1, .int (nI n))]) C dJ1_indexOf_4cfef_21 rfl (by decide) rfl ?_
    refine V_iload_n C 1 dJ1_indexOf_4cfef_22 rfl rfl ?_
    refine V_iload_n C 0 dJ1_indexOf_4cfef_23 rfl rfl ?_
    refine V_icmp_lt C dJ1_indexOf_4cfef_24 rfl (fun _ => ?_) (fun c2 => absurd (by decide) c2)
    refine V_aload_n C 2 dJ1_indexOf_4cfef_29 rfl rfl ?_
    refine V_iload_n C 3 dJ1_indexOf_4cfef_30 rfl rfl ?_
    refine V_iload_n C 1 dJ1_indexOf_4cfef_31 rfl rfl ?_
    refine V_iload_n C 0 dJ1_indexOf_4cfef_32 rfl rfl ?_
    refine V_callW C cf_J1_indexOfChar_4cfef (j_indexOfChar hi hn) q_ML_J1_95 dJ1_indexOf_4cfef_33 (by decide) rfl rfl (Nat.le_of_ble_eq_true rfl) ⟨Nat.zero_le _, Nat.zero_le _⟩ ?_
    exact V_iret C X dJ1_indexOf_4cfef_36 ⟨rfl, rfl⟩
  · refine V_iconst C dJ1_indexOf_4cfef_7 (v := -1) (by decide) ?_
    exact V_iret C X dJ1_indexOf_4cfef_8 ⟨by rw [idx_out c], rfl⟩
theorem j_indexOf2 {ε : eT} {ws : va_W} {i : Nat} {x : Int32} (hi : i < 2) : CT ε yJ0_indexOf_7cf53 cJ0_indexOf_7cf53 3 (some .int) 5 [.ref (eZ ε (2 + i)), .int x, .int 0] ws (fun v w => v = some (.int (idxS (2 + i) x)) ∧ w = ws) 0 0 := by
  refine CT_of (by decide) (Nat.le_of_ble_eq_true rfl) (fun κ C X _ => ?_)
  have hE := C.2.2.2.2.1.2.2.2.2.2.1.1 i hi
  refine V_aload_n C 0 dJ0_indexOf_7cf53_0 rfl rfl ?_
  refine V_callT C cf_J0_isLatin1_aae02 hi rfl (j_isLatin1 hi) q_ML_J0_492 dJ0_indexOf_7cf53_1 (by decide) rfl rfl (Nat.le_of_ble_eq_true rfl) ⟨Nat.zero_le _, Nat.zero_le _⟩ ?_
  refine V_if_eq C dJ0_indexOf_7cf53_4 rfl (fun c => absurd c (by decide)) (fun _ => ?_)
  refine V_aload_n C 0 dJ0_indexOf_7cf53_7 rfl rfl ?_
  refine V_sgetf C hE.2.2.1 q_FL_J0_9 dJ0_indexOf_7cf53_8 ?_
  refine V_iload_n C 1 dJ0_indexOf_7cf53_11 rfl rfl ?_
  refine V_iload_n C 2 dJ0_indexOf_7cf53_12 rfl rfl ?_
  refine V_aload_n C 0 dJ0_indexOf_7cf53_13 rfl rfl ?_
  refine V_callT C cf_J0_length_8abf5 hi rfl (j_length hi) q_ML_J0_505 dJ0_indexOf_7cf53_14 (by decide) rfl rfl (Nat.le_of_ble_eq_true rfl) ⟨Nat.zero_le _, Nat.zero_le _⟩ ?_
  refine V_callW C cf_J1_indexOf_4cfef (j_indexOfL hi) q_ML_J0_637 dJ0_indexOf_7cf53_17 (by decide) rfl rfl (Nat.le_of_ble_eq_true rfl) ⟨Nat.zero_le _, Nat.zero_le _⟩ ?_
  refine V_goto C dJ0_indexOf_7cf53_20 rfl ?_
  exact V_iret C X dJ0_indexOf_7cf53_36 ⟨rfl, rfl⟩
theorem j_indexOf1 {ε : eT} {ws : va_W} {i : Nat} {x : Int32} (hi : i < 2) : CT ε yJ0_indexOf_0f7a4 cJ0_indexOf_0f7a4 2 (some .int) 6 [.ref (eZ ε (2 + i)), .int x] ws (fun v w => v = some (.int (idxS (2 + i) x)) ∧ w = ws) 0 0 := by
  refine CT_of (by decide) (Nat.le_of_ble_eq_true rfl) (fun κ C X _ => ?_)
  refine V_aload_n C 0 dJ0_indexOf_0f7a4_0 rfl rfl ?_
  refine V_iload_n C 1 dJ0_indexOf_0f7a4_1 rfl rfl ?_
  refine V_iconst C dJ0_indexOf_0f7a4_2 kc_i_0 ?_
  refine V_callT C cf_J0_indexOf_7cf53 hi rfl (j_indexOf2 hi) q_ML_J0_633 dJ0_indexOf_0f7a4_3 (by decide) rfl rfl (Nat.le_of_ble_eq_true rfl) ⟨Nat.zero_le _, Nat.zero_le _⟩ ?_
  exact V_iret C X dJ0_indexOf_0f7a4_6 ⟨rfl, rfl⟩
/-- the place of a sign in one of the two texts: the JDK's own walk -/
theorem W_indexOf {ε : eT} {κ : kT} {cc : ByteArray} {nL d : Nat} {own : String} (C : Act ε κ cc nL own d) {pc : Nat} {lv : List (Nat × Value)} {st : List Value} {S : St} {w i : Nat} {x : Int32} (hw : w = 2 ∨ w = 3) (hl : Cond.methodLink own i yJ0_indexOf_0f7a4 ∈ tbW) (hd : 41 ≤ d) (hs : (st.map fun v => v.category).sum ≤ 8) (hdg : decode cc pc = .ok (.invokevirtual i, 3)) (K : V ε κ nL (pc + 3) lv (.int (idxS w x) :: st) (wsOf ε S) 0 0) : V ε κ nL pc lv (.int x :: .ref (eZ ε w) :: st) (wsOf ε S) 0 0 := by
  rcases hw with rfl | rfl
  · exact V_callT (i := 0) C cf_J0_indexOf_0f7a4 (by decide) rfl (j_indexOf1 (i := 0) (by decide)) hl hdg (by omega) rfl rfl hs ⟨Nat.zero_le _, Nat.zero_le _⟩ K
  · exact V_callT (i := 1) C cf_J0_indexOf_0f7a4 (by decide) rfl (j_indexOf1 (i := 1) (by decide)) hl hdg (by omega) rfl rfl hs ⟨Nat.zero_le _, Nat.zero_le _⟩ K
